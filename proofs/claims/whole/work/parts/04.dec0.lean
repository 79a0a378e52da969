theorem dX0_init_0 : decode cX0_init 0 = .ok (.aload_n 0, 1) := by decide +kernel
theorem dX0_init_1 : decode cX0_init 1 = .ok (.invokespecial 3, 3) := by decide +kernel
theorem dX0_init_4 : decode cX0_init 4 = .ok (.aload_n 0, 1) := by decide +kernel
theorem dX0_init_5 : decode cX0_init 5 = .ok (.iconst 0, 1) := by decide +kernel
theorem dX0_init_6 : decode cX0_init 6 = .ok (.putfield 9, 3) := by decide +kernel
theorem dX0_init_9 : decode cX0_init 9 = .ok (.aload_n 0, 1) := by decide +kernel
theorem dX0_init_10 : decode cX0_init 10 = .ok (.iconst 0, 1) := by decide +kernel
theorem dX0_init_11 : decode cX0_init 11 = .ok (.putfield 15, 3) := by decide +kernel
theorem dX0_init_14 : decode cX0_init 14 = .ok (.aload_n 0, 1) := by decide +kernel
theorem dX0_init_15 : decode cX0_init 15 = .ok (.bipush 16, 2) := by decide +kernel
theorem dX0_init_17 : decode cX0_init 17 = .ok (.newarray .int, 2) := by decide +kernel
theorem dX0_init_19 : decode cX0_init 19 = .ok (.putfield 18, 3) := by decide +kernel
theorem dX0_init_22 : decode cX0_init 22 = .ok (.aload_n 0, 1) := by decide +kernel
theorem dX0_init_23 : decode cX0_init 23 = .ok (.bipush 16, 2) := by decide +kernel
theorem dX0_init_25 : decode cX0_init 25 = .ok (.newarray .int, 2) := by decide +kernel
theorem dX0_init_27 : decode cX0_init 27 = .ok (.putfield 22, 3) := by decide +kernel
theorem dX0_init_30 : decode cX0_init 30 = .ok (.aload_n 0, 1) := by decide +kernel
theorem dX0_init_31 : decode cX0_init 31 = .ok (.bipush 16, 2) := by decide +kernel
theorem dX0_init_33 : decode cX0_init 33 = .ok (.newarray .int, 2) := by decide +kernel
theorem dX0_init_35 : decode cX0_init 35 = .ok (.putfield 25, 3) := by decide +kernel
theorem dX0_init_38 : decode cX0_init 38 = .ok (.aload_n 0, 1) := by decide +kernel
theorem dX0_init_39 : decode cX0_init 39 = .ok (.bipush 16, 2) := by decide +kernel
theorem dX0_init_41 : decode cX0_init 41 = .ok (.newarray .int, 2) := by decide +kernel
theorem dX0_init_43 : decode cX0_init 43 = .ok (.putfield 28, 3) := by decide +kernel
theorem dX0_init_46 : decode cX0_init 46 = .ok (.return_, 1) := by decide +kernel
theorem dX0_forget_0 : decode cX0_forget 0 = .ok (.aload_n 0, 1) := by decide +kernel
theorem dX0_forget_1 : decode cX0_forget 1 = .ok (.iconst 0, 1) := by decide +kernel
theorem dX0_forget_2 : decode cX0_forget 2 = .ok (.putfield 9, 3) := by decide +kernel
theorem dX0_forget_5 : decode cX0_forget 5 = .ok (.return_, 1) := by decide +kernel
theorem dX0_keep_0 : decode cX0_keep 0 = .ok (.aload_n 0, 1) := by decide +kernel
theorem dX0_keep_1 : decode cX0_keep 1 = .ok (.getfield 18, 3) := by decide +kernel
theorem dX0_keep_4 : decode cX0_keep 4 = .ok (.aload_n 0, 1) := by decide +kernel
theorem dX0_keep_5 : decode cX0_keep 5 = .ok (.getfield 15, 3) := by decide +kernel
theorem dX0_keep_8 : decode cX0_keep 8 = .ok (.iload_n 1, 1) := by decide +kernel
theorem dX0_keep_9 : decode cX0_keep 9 = .ok (.iastore, 1) := by decide +kernel
theorem dX0_keep_10 : decode cX0_keep 10 = .ok (.aload_n 0, 1) := by decide +kernel
theorem dX0_keep_11 : decode cX0_keep 11 = .ok (.getfield 22, 3) := by decide +kernel
theorem dX0_keep_14 : decode cX0_keep 14 = .ok (.aload_n 0, 1) := by decide +kernel
theorem dX0_keep_15 : decode cX0_keep 15 = .ok (.getfield 15, 3) := by decide +kernel
theorem dX0_keep_18 : decode cX0_keep 18 = .ok (.iload_n 2, 1) := by decide +kernel
theorem dX0_keep_19 : decode cX0_keep 19 = .ok (.iastore, 1) := by decide +kernel
theorem dX0_keep_20 : decode cX0_keep 20 = .ok (.aload_n 0, 1) := by decide +kernel
theorem dX0_keep_21 : decode cX0_keep 21 = .ok (.getfield 25, 3) := by decide +kernel
theorem dX0_keep_24 : decode cX0_keep 24 = .ok (.aload_n 0, 1) := by decide +kernel
theorem dX0_keep_25 : decode cX0_keep 25 = .ok (.getfield 15, 3) := by decide +kernel
theorem dX0_keep_28 : decode cX0_keep 28 = .ok (.iload_n 3, 1) := by decide +kernel
theorem dX0_keep_29 : decode cX0_keep 29 = .ok (.iastore, 1) := by decide +kernel
theorem dX0_keep_30 : decode cX0_keep 30 = .ok (.aload_n 0, 1) := by decide +kernel
theorem dX0_keep_31 : decode cX0_keep 31 = .ok (.getfield 28, 3) := by decide +kernel
theorem dX0_keep_34 : decode cX0_keep 34 = .ok (.aload_n 0, 1) := by decide +kernel
theorem dX0_keep_35 : decode cX0_keep 35 = .ok (.getfield 15, 3) := by decide +kernel
theorem dX0_keep_38 : decode cX0_keep 38 = .ok (.iload 4, 2) := by decide +kernel
theorem dX0_keep_40 : decode cX0_keep 40 = .ok (.iastore, 1) := by decide +kernel
theorem dX0_keep_41 : decode cX0_keep 41 = .ok (.aload_n 0, 1) := by decide +kernel
theorem dX0_keep_42 : decode cX0_keep 42 = .ok (.aload_n 0, 1) := by decide +kernel
theorem dX0_keep_43 : decode cX0_keep 43 = .ok (.getfield 15, 3) := by decide +kernel
theorem dX0_keep_46 : decode cX0_keep 46 = .ok (.iconst 1, 1) := by decide +kernel
theorem dX0_keep_47 : decode cX0_keep 47 = .ok (.iadd, 1) := by decide +kernel
theorem dX0_keep_48 : decode cX0_keep 48 = .ok (.bipush 16, 2) := by decide +kernel
theorem dX0_keep_50 : decode cX0_keep 50 = .ok (.irem, 1) := by decide +kernel
theorem dX0_keep_51 : decode cX0_keep 51 = .ok (.putfield 15, 3) := by decide +kernel
theorem dX0_keep_54 : decode cX0_keep 54 = .ok (.aload_n 0, 1) := by decide +kernel
theorem dX0_keep_55 : decode cX0_keep 55 = .ok (.aload_n 0, 1) := by decide +kernel
theorem dX0_keep_56 : decode cX0_keep 56 = .ok (.getfield 9, 3) := by decide +kernel
theorem dX0_keep_59 : decode cX0_keep 59 = .ok (.iconst 1, 1) := by decide +kernel
theorem dX0_keep_60 : decode cX0_keep 60 = .ok (.iadd, 1) := by decide +kernel
theorem dX0_keep_61 : decode cX0_keep 61 = .ok (.bipush 16, 2) := by decide +kernel
theorem dX0_keep_63 : decode cX0_keep 63 = .ok (.invokestatic 31, 3) := by decide +kernel
theorem dX0_keep_66 : decode cX0_keep 66 = .ok (.putfield 9, 3) := by decide +kernel
theorem dX0_keep_69 : decode cX0_keep 69 = .ok (.return_, 1) := by decide +kernel
theorem dX0_takeBack_0 : decode cX0_takeBack 0 = .ok (.aload_n 0, 1) := by decide +kernel
theorem dX0_takeBack_1 : decode cX0_takeBack 1 = .ok (.getfield 9, 3) := by decide +kernel
theorem dX0_takeBack_4 : decode cX0_takeBack 4 = .ok (.ifCond .ne 5, 3) := by decide +kernel
theorem dX0_takeBack_7 : decode cX0_takeBack 7 = .ok (.iconst 0, 1) := by decide +kernel
theorem dX0_takeBack_8 : decode cX0_takeBack 8 = .ok (.ireturn, 1) := by decide +kernel
theorem dX0_takeBack_9 : decode cX0_takeBack 9 = .ok (.aload_n 0, 1) := by decide +kernel
theorem dX0_takeBack_10 : decode cX0_takeBack 10 = .ok (.dup, 1) := by decide +kernel
theorem dX0_takeBack_11 : decode cX0_takeBack 11 = .ok (.getfield 9, 3) := by decide +kernel
theorem dX0_takeBack_14 : decode cX0_takeBack 14 = .ok (.iconst 1, 1) := by decide +kernel
theorem dX0_takeBack_15 : decode cX0_takeBack 15 = .ok (.isub, 1) := by decide +kernel
theorem dX0_takeBack_16 : decode cX0_takeBack 16 = .ok (.putfield 9, 3) := by decide +kernel
theorem dX0_takeBack_19 : decode cX0_takeBack 19 = .ok (.aload_n 0, 1) := by decide +kernel
theorem dX0_takeBack_20 : decode cX0_takeBack 20 = .ok (.aload_n 0, 1) := by decide +kernel
theorem dX0_takeBack_21 : decode cX0_takeBack 21 = .ok (.getfield 15, 3) := by decide +kernel
theorem dX0_takeBack_24 : decode cX0_takeBack 24 = .ok (.bipush 16, 2) := by decide +kernel
theorem dX0_takeBack_26 : decode cX0_takeBack 26 = .ok (.iadd, 1) := by decide +kernel
theorem dX0_takeBack_27 : decode cX0_takeBack 27 = .ok (.iconst 1, 1) := by decide +kernel
theorem dX0_takeBack_28 : decode cX0_takeBack 28 = .ok (.isub, 1) := by decide +kernel
theorem dX0_takeBack_29 : decode cX0_takeBack 29 = .ok (.bipush 16, 2) := by decide +kernel
theorem dX0_takeBack_31 : decode cX0_takeBack 31 = .ok (.irem, 1) := by decide +kernel
theorem dX0_takeBack_32 : decode cX0_takeBack 32 = .ok (.putfield 15, 3) := by decide +kernel
theorem dX0_takeBack_35 : decode cX0_takeBack 35 = .ok (.aload_n 1, 1) := by decide +kernel
theorem dX0_takeBack_36 : decode cX0_takeBack 36 = .ok (.getfield 37, 3) := by decide +kernel
theorem dX0_takeBack_39 : decode cX0_takeBack 39 = .ok (.aload_n 0, 1) := by decide +kernel
theorem dX0_takeBack_40 : decode cX0_takeBack 40 = .ok (.getfield 22, 3) := by decide +kernel
theorem dX0_takeBack_43 : decode cX0_takeBack 43 = .ok (.aload_n 0, 1) := by decide +kernel
theorem dX0_takeBack_44 : decode cX0_takeBack 44 = .ok (.getfield 15, 3) := by decide +kernel
theorem dX0_takeBack_47 : decode cX0_takeBack 47 = .ok (.iaload, 1) := by decide +kernel
theorem dX0_takeBack_48 : decode cX0_takeBack 48 = .ok (.aaload, 1) := by decide +kernel
theorem dX0_takeBack_49 : decode cX0_takeBack 49 = .ok (.astore_n 2, 1) := by decide +kernel
theorem dX0_takeBack_50 : decode cX0_takeBack 50 = .ok (.aload_n 0, 1) := by decide +kernel
theorem dX0_takeBack_51 : decode cX0_takeBack 51 = .ok (.getfield 25, 3) := by decide +kernel
theorem dX0_takeBack_54 : decode cX0_takeBack 54 = .ok (.aload_n 0, 1) := by decide +kernel
theorem dX0_takeBack_55 : decode cX0_takeBack 55 = .ok (.getfield 15, 3) := by decide +kernel
theorem dX0_takeBack_58 : decode cX0_takeBack 58 = .ok (.iaload, 1) := by decide +kernel
theorem dX0_takeBack_59 : decode cX0_takeBack 59 = .ok (.istore_n 3, 1) := by decide +kernel
theorem dX0_takeBack_60 : decode cX0_takeBack 60 = .ok (.aload_n 0, 1) := by decide +kernel
theorem dX0_takeBack_61 : decode cX0_takeBack 61 = .ok (.getfield 28, 3) := by decide +kernel
theorem dX0_takeBack_64 : decode cX0_takeBack 64 = .ok (.aload_n 0, 1) := by decide +kernel
theorem dX0_takeBack_65 : decode cX0_takeBack 65 = .ok (.getfield 15, 3) := by decide +kernel
theorem dX0_takeBack_68 : decode cX0_takeBack 68 = .ok (.iaload, 1) := by decide +kernel
theorem dX0_takeBack_69 : decode cX0_takeBack 69 = .ok (.istore 4, 2) := by decide +kernel
theorem dX0_takeBack_71 : decode cX0_takeBack 71 = .ok (.aload_n 0, 1) := by decide +kernel
theorem dX0_takeBack_72 : decode cX0_takeBack 72 = .ok (.getfield 18, 3) := by decide +kernel
theorem dX0_takeBack_75 : decode cX0_takeBack 75 = .ok (.aload_n 0, 1) := by decide +kernel
theorem dX0_takeBack_76 : decode cX0_takeBack 76 = .ok (.getfield 15, 3) := by decide +kernel
theorem dX0_takeBack_79 : decode cX0_takeBack 79 = .ok (.iaload, 1) := by decide +kernel
theorem dX0_takeBack_80 : decode cX0_takeBack 80 = .ok (.tableswitch 76 0 3 #[32, 43, 54, 65], 32) := by decide +kernel
theorem dX0_takeBack_112 : decode cX0_takeBack 112 = .ok (.aload_n 2, 1) := by decide +kernel
theorem dX0_takeBack_113 : decode cX0_takeBack 113 = .ok (.getfield 43, 3) := by decide +kernel
theorem dX0_takeBack_116 : decode cX0_takeBack 116 = .ok (.iload_n 3, 1) := by decide +kernel
theorem dX0_takeBack_117 : decode cX0_takeBack 117 = .ok (.iload 4, 2) := by decide +kernel
theorem dX0_takeBack_119 : decode cX0_takeBack 119 = .ok (.iastore, 1) := by decide +kernel
theorem dX0_takeBack_120 : decode cX0_takeBack 120 = .ok (.goto 42, 3) := by decide +kernel
theorem dX0_takeBack_123 : decode cX0_takeBack 123 = .ok (.aload_n 2, 1) := by decide +kernel
theorem dX0_takeBack_124 : decode cX0_takeBack 124 = .ok (.getfield 48, 3) := by decide +kernel
theorem dX0_takeBack_127 : decode cX0_takeBack 127 = .ok (.iload_n 3, 1) := by decide +kernel
theorem dX0_takeBack_128 : decode cX0_takeBack 128 = .ok (.iload 4, 2) := by decide +kernel
theorem dX0_takeBack_130 : decode cX0_takeBack 130 = .ok (.iastore, 1) := by decide +kernel
theorem dX0_takeBack_131 : decode cX0_takeBack 131 = .ok (.goto 31, 3) := by decide +kernel
theorem dX0_takeBack_134 : decode cX0_takeBack 134 = .ok (.aload_n 1, 1) := by decide +kernel
theorem dX0_takeBack_135 : decode cX0_takeBack 135 = .ok (.getfield 51, 3) := by decide +kernel
theorem dX0_takeBack_138 : decode cX0_takeBack 138 = .ok (.iload_n 3, 1) := by decide +kernel
theorem dX0_takeBack_139 : decode cX0_takeBack 139 = .ok (.iload 4, 2) := by decide +kernel
theorem dX0_takeBack_141 : decode cX0_takeBack 141 = .ok (.iastore, 1) := by decide +kernel
theorem dX0_takeBack_142 : decode cX0_takeBack 142 = .ok (.goto 20, 3) := by decide +kernel
theorem dX0_takeBack_145 : decode cX0_takeBack 145 = .ok (.aload_n 1, 1) := by decide +kernel
theorem dX0_takeBack_146 : decode cX0_takeBack 146 = .ok (.getfield 54, 3) := by decide +kernel
theorem dX0_takeBack_149 : decode cX0_takeBack 149 = .ok (.iload_n 3, 1) := by decide +kernel
theorem dX0_takeBack_150 : decode cX0_takeBack 150 = .ok (.iload 4, 2) := by decide +kernel
theorem dX0_takeBack_152 : decode cX0_takeBack 152 = .ok (.iastore, 1) := by decide +kernel
theorem dX0_takeBack_153 : decode cX0_takeBack 153 = .ok (.goto 9, 3) := by decide +kernel
theorem dX0_takeBack_156 : decode cX0_takeBack 156 = .ok (.aload_n 2, 1) := by decide +kernel
theorem dX0_takeBack_157 : decode cX0_takeBack 157 = .ok (.iload 4, 2) := by decide +kernel
theorem dX0_takeBack_159 : decode cX0_takeBack 159 = .ok (.putfield 57, 3) := by decide +kernel
theorem dX0_takeBack_162 : decode cX0_takeBack 162 = .ok (.iconst 1, 1) := by decide +kernel
theorem dX0_takeBack_163 : decode cX0_takeBack 163 = .ok (.ireturn, 1) := by decide +kernel
theorem dX1_init_0 : decode cX1_init 0 = .ok (.aload_n 0, 1) := by decide +kernel
theorem dX1_init_1 : decode cX1_init 1 = .ok (.invokespecial 3, 3) := by decide +kernel
theorem dX1_init_4 : decode cX1_init 4 = .ok (.aload_n 0, 1) := by decide +kernel
theorem dX1_init_5 : decode cX1_init 5 = .ok (.iconst 5, 1) := by decide +kernel
theorem dX1_init_6 : decode cX1_init 6 = .ok (.putfield 9, 3) := by decide +kernel
theorem dX1_init_9 : decode cX1_init 9 = .ok (.aload_n 0, 1) := by decide +kernel
theorem dX1_init_10 : decode cX1_init 10 = .ok (.bipush 7, 2) := by decide +kernel
theorem dX1_init_12 : decode cX1_init 12 = .ok (.newarray .int, 2) := by decide +kernel
theorem dX1_init_14 : decode cX1_init 14 = .ok (.putfield 15, 3) := by decide +kernel
theorem dX1_init_17 : decode cX1_init 17 = .ok (.aload_n 0, 1) := by decide +kernel
theorem dX1_init_18 : decode cX1_init 18 = .ok (.new 19, 3) := by decide +kernel
theorem dX1_init_21 : decode cX1_init 21 = .ok (.dup, 1) := by decide +kernel
theorem dX1_init_22 : decode cX1_init 22 = .ok (.bipush 10, 2) := by decide +kernel
theorem dX1_init_24 : decode cX1_init 24 = .ok (.invokespecial 21, 3) := by decide +kernel
theorem dX1_init_27 : decode cX1_init 27 = .ok (.putfield 24, 3) := by decide +kernel
theorem dX1_init_30 : decode cX1_init 30 = .ok (.aload_n 0, 1) := by decide +kernel
theorem dX1_init_31 : decode cX1_init 31 = .ok (.bipush 10, 2) := by decide +kernel
theorem dX1_init_33 : decode cX1_init 33 = .ok (.newarray .int, 2) := by decide +kernel
theorem dX1_init_35 : decode cX1_init 35 = .ok (.putfield 28, 3) := by decide +kernel
theorem dX1_init_38 : decode cX1_init 38 = .ok (.aload_n 0, 1) := by decide +kernel
theorem dX1_init_39 : decode cX1_init 39 = .ok (.bipush 10, 2) := by decide +kernel
theorem dX1_init_41 : decode cX1_init 41 = .ok (.newarray .int, 2) := by decide +kernel
theorem dX1_init_43 : decode cX1_init 43 = .ok (.putfield 31, 3) := by decide +kernel
theorem dX1_init_46 : decode cX1_init 46 = .ok (.aload_n 0, 1) := by decide +kernel
theorem dX1_init_47 : decode cX1_init 47 = .ok (.new 34, 3) := by decide +kernel
theorem dX1_init_50 : decode cX1_init 50 = .ok (.dup, 1) := by decide +kernel
theorem dX1_init_51 : decode cX1_init 51 = .ok (.invokespecial 36, 3) := by decide +kernel
theorem dX1_init_54 : decode cX1_init 54 = .ok (.putfield 37, 3) := by decide +kernel
theorem dX1_init_57 : decode cX1_init 57 = .ok (.aload_n 0, 1) := by decide +kernel
theorem dX1_init_58 : decode cX1_init 58 = .ok (.new 19, 3) := by decide +kernel
theorem dX1_init_61 : decode cX1_init 61 = .ok (.dup, 1) := by decide +kernel
theorem dX1_init_62 : decode cX1_init 62 = .ok (.bipush 6, 2) := by decide +kernel
theorem dX1_init_64 : decode cX1_init 64 = .ok (.invokespecial 21, 3) := by decide +kernel
theorem dX1_init_67 : decode cX1_init 67 = .ok (.putfield 41, 3) := by decide +kernel
theorem dX1_init_70 : decode cX1_init 70 = .ok (.aload_n 0, 1) := by decide +kernel
theorem dX1_init_71 : decode cX1_init 71 = .ok (.bipush 6, 2) := by decide +kernel
theorem dX1_init_73 : decode cX1_init 73 = .ok (.anewarray 44, 3) := by decide +kernel
theorem dX1_init_76 : decode cX1_init 76 = .ok (.putfield 46, 3) := by decide +kernel
theorem dX1_init_79 : decode cX1_init 79 = .ok (.getstatic 50, 3) := by decide +kernel
theorem dX1_init_82 : decode cX1_init 82 = .ok (.iconst 0, 1) := by decide +kernel
theorem dX1_init_83 : decode cX1_init 83 = .ok (.aload_n 0, 1) := by decide +kernel
theorem dX1_init_84 : decode cX1_init 84 = .ok (.getfield 15, 3) := by decide +kernel
theorem dX1_init_87 : decode cX1_init 87 = .ok (.iconst 0, 1) := by decide +kernel
theorem dX1_init_88 : decode cX1_init 88 = .ok (.bipush 7, 2) := by decide +kernel
theorem dX1_init_90 : decode cX1_init 90 = .ok (.invokestatic 53, 3) := by decide +kernel
theorem dX1_init_93 : decode cX1_init 93 = .ok (.iconst 0, 1) := by decide +kernel
theorem dX1_init_94 : decode cX1_init 94 = .ok (.istore_n 1, 1) := by decide +kernel
theorem dX1_init_95 : decode cX1_init 95 = .ok (.iload_n 1, 1) := by decide +kernel
theorem dX1_init_96 : decode cX1_init 96 = .ok (.bipush 6, 2) := by decide +kernel
theorem dX1_init_98 : decode cX1_init 98 = .ok (.if_icmp .ge 22, 3) := by decide +kernel
theorem dX1_init_101 : decode cX1_init 101 = .ok (.aload_n 0, 1) := by decide +kernel
theorem dX1_init_102 : decode cX1_init 102 = .ok (.getfield 46, 3) := by decide +kernel
theorem dX1_init_105 : decode cX1_init 105 = .ok (.iload_n 1, 1) := by decide +kernel
theorem dX1_init_106 : decode cX1_init 106 = .ok (.new 44, 3) := by decide +kernel
theorem dX1_init_109 : decode cX1_init 109 = .ok (.dup, 1) := by decide +kernel
theorem dX1_init_110 : decode cX1_init 110 = .ok (.invokespecial 59, 3) := by decide +kernel
theorem dX1_init_113 : decode cX1_init 113 = .ok (.aastore, 1) := by decide +kernel
theorem dX1_init_114 : decode cX1_init 114 = .ok (.iinc 1 1, 3) := by decide +kernel
theorem dX1_init_117 : decode cX1_init 117 = .ok (.goto (-22), 3) := by decide +kernel
theorem dX1_init_120 : decode cX1_init 120 = .ok (.return_, 1) := by decide +kernel
theorem dX1_everyJudge_0 : decode cX1_everyJudge 0 = .ok (.iconst 1, 1) := by decide +kernel
theorem dX1_everyJudge_1 : decode cX1_everyJudge 1 = .ok (.aload_n 0, 1) := by decide +kernel
theorem dX1_everyJudge_2 : decode cX1_everyJudge 2 = .ok (.getfield 9, 3) := by decide +kernel
theorem dX1_everyJudge_5 : decode cX1_everyJudge 5 = .ok (.ishl, 1) := by decide +kernel
theorem dX1_everyJudge_6 : decode cX1_everyJudge 6 = .ok (.iconst 1, 1) := by decide +kernel
theorem dX1_everyJudge_7 : decode cX1_everyJudge 7 = .ok (.isub, 1) := by decide +kernel
theorem dX1_everyJudge_8 : decode cX1_everyJudge 8 = .ok (.ireturn, 1) := by decide +kernel
theorem dX1_forget_0 : decode cX1_forget 0 = .ok (.aload_n 0, 1) := by decide +kernel
theorem dX1_forget_1 : decode cX1_forget 1 = .ok (.iconst 5, 1) := by decide +kernel
theorem dX1_forget_2 : decode cX1_forget 2 = .ok (.putfield 9, 3) := by decide +kernel
theorem dX1_forget_5 : decode cX1_forget 5 = .ok (.getstatic 50, 3) := by decide +kernel
theorem dX1_forget_8 : decode cX1_forget 8 = .ok (.iconst 0, 1) := by decide +kernel
theorem dX1_forget_9 : decode cX1_forget 9 = .ok (.aload_n 0, 1) := by decide +kernel
theorem dX1_forget_10 : decode cX1_forget 10 = .ok (.getfield 15, 3) := by decide +kernel
theorem dX1_forget_13 : decode cX1_forget 13 = .ok (.iconst 0, 1) := by decide +kernel
theorem dX1_forget_14 : decode cX1_forget 14 = .ok (.bipush 7, 2) := by decide +kernel
theorem dX1_forget_16 : decode cX1_forget 16 = .ok (.invokestatic 53, 3) := by decide +kernel
theorem dX1_forget_19 : decode cX1_forget 19 = .ok (.aload_n 0, 1) := by decide +kernel
theorem dX1_forget_20 : decode cX1_forget 20 = .ok (.getfield 24, 3) := by decide +kernel
theorem dX1_forget_23 : decode cX1_forget 23 = .ok (.invokevirtual 60, 3) := by decide +kernel
theorem dX1_forget_26 : decode cX1_forget 26 = .ok (.aload_n 0, 1) := by decide +kernel
theorem dX1_forget_27 : decode cX1_forget 27 = .ok (.getfield 37, 3) := by decide +kernel
theorem dX1_forget_30 : decode cX1_forget 30 = .ok (.invokevirtual 63, 3) := by decide +kernel
theorem dX1_forget_33 : decode cX1_forget 33 = .ok (.aload_n 0, 1) := by decide +kernel
theorem dX1_forget_34 : decode cX1_forget 34 = .ok (.getfield 41, 3) := by decide +kernel
theorem dX1_forget_37 : decode cX1_forget 37 = .ok (.invokevirtual 60, 3) := by decide +kernel
theorem dX1_forget_40 : decode cX1_forget 40 = .ok (.iconst 0, 1) := by decide +kernel
theorem dX1_forget_41 : decode cX1_forget 41 = .ok (.istore_n 1, 1) := by decide +kernel
theorem dX1_forget_42 : decode cX1_forget 42 = .ok (.iload_n 1, 1) := by decide +kernel
theorem dX1_forget_43 : decode cX1_forget 43 = .ok (.bipush 6, 2) := by decide +kernel
theorem dX1_forget_45 : decode cX1_forget 45 = .ok (.if_icmp .ge 18, 3) := by decide +kernel
theorem dX1_forget_48 : decode cX1_forget 48 = .ok (.aload_n 0, 1) := by decide +kernel
theorem dX1_forget_49 : decode cX1_forget 49 = .ok (.getfield 46, 3) := by decide +kernel
theorem dX1_forget_52 : decode cX1_forget 52 = .ok (.iload_n 1, 1) := by decide +kernel
theorem dX1_forget_53 : decode cX1_forget 53 = .ok (.aaload, 1) := by decide +kernel
theorem dX1_forget_54 : decode cX1_forget 54 = .ok (.invokevirtual 64, 3) := by decide +kernel
theorem dX1_forget_57 : decode cX1_forget 57 = .ok (.iinc 1 1, 3) := by decide +kernel
theorem dX1_forget_60 : decode cX1_forget 60 = .ok (.goto (-18), 3) := by decide +kernel
theorem dX1_forget_63 : decode cX1_forget 63 = .ok (.return_, 1) := by decide +kernel
theorem dX2_init_0 : decode cX2_init 0 = .ok (.aload_n 0, 1) := by decide +kernel
theorem dX2_init_1 : decode cX2_init 1 = .ok (.invokespecial 3, 3) := by decide +kernel
theorem dX2_init_4 : decode cX2_init 4 = .ok (.aload_n 0, 1) := by decide +kernel
theorem dX2_init_5 : decode cX2_init 5 = .ok (.iconst 0, 1) := by decide +kernel
theorem dX2_init_6 : decode cX2_init 6 = .ok (.putfield 9, 3) := by decide +kernel
theorem dX2_init_9 : decode cX2_init 9 = .ok (.aload_n 0, 1) := by decide +kernel
theorem dX2_init_10 : decode cX2_init 10 = .ok (.iload_n 1, 1) := by decide +kernel
theorem dX2_init_11 : decode cX2_init 11 = .ok (.putfield 15, 3) := by decide +kernel
theorem dX2_init_14 : decode cX2_init 14 = .ok (.aload_n 0, 1) := by decide +kernel
theorem dX2_init_15 : decode cX2_init 15 = .ok (.iload_n 1, 1) := by decide +kernel
theorem dX2_init_16 : decode cX2_init 16 = .ok (.bipush 6, 2) := by decide +kernel
theorem dX2_init_18 : decode cX2_init 18 = .ok (.imul, 1) := by decide +kernel
theorem dX2_init_19 : decode cX2_init 19 = .ok (.newarray .int, 2) := by decide +kernel
theorem dX2_init_21 : decode cX2_init 21 = .ok (.putfield 18, 3) := by decide +kernel
theorem dX2_init_24 : decode cX2_init 24 = .ok (.aload_n 0, 1) := by decide +kernel
theorem dX2_init_25 : decode cX2_init 25 = .ok (.iload_n 1, 1) := by decide +kernel
theorem dX2_init_26 : decode cX2_init 26 = .ok (.newarray .int, 2) := by decide +kernel
theorem dX2_init_28 : decode cX2_init 28 = .ok (.putfield 22, 3) := by decide +kernel
theorem dX2_init_31 : decode cX2_init 31 = .ok (.return_, 1) := by decide +kernel
theorem dX2_forget_0 : decode cX2_forget 0 = .ok (.aload_n 0, 1) := by decide +kernel
theorem dX2_forget_1 : decode cX2_forget 1 = .ok (.iconst 0, 1) := by decide +kernel
theorem dX2_forget_2 : decode cX2_forget 2 = .ok (.putfield 9, 3) := by decide +kernel
theorem dX2_forget_5 : decode cX2_forget 5 = .ok (.return_, 1) := by decide +kernel
theorem dX2_isFull_0 : decode cX2_isFull 0 = .ok (.aload_n 0, 1) := by decide +kernel
theorem dX2_isFull_1 : decode cX2_isFull 1 = .ok (.getfield 9, 3) := by decide +kernel
theorem dX2_isFull_4 : decode cX2_isFull 4 = .ok (.aload_n 0, 1) := by decide +kernel
theorem dX2_isFull_5 : decode cX2_isFull 5 = .ok (.getfield 15, 3) := by decide +kernel
theorem dX2_isFull_8 : decode cX2_isFull 8 = .ok (.if_icmp .lt 7, 3) := by decide +kernel
theorem dX2_isFull_11 : decode cX2_isFull 11 = .ok (.iconst 1, 1) := by decide +kernel
theorem dX2_isFull_12 : decode cX2_isFull 12 = .ok (.goto 4, 3) := by decide +kernel
theorem dX2_isFull_15 : decode cX2_isFull 15 = .ok (.iconst 0, 1) := by decide +kernel
theorem dX2_isFull_16 : decode cX2_isFull 16 = .ok (.ireturn, 1) := by decide +kernel
theorem dX2_add_0 : decode cX2_add 0 = .ok (.aload_n 0, 1) := by decide +kernel
theorem dX2_add_1 : decode cX2_add 1 = .ok (.invokevirtual 25, 3) := by decide +kernel
theorem dX2_add_4 : decode cX2_add 4 = .ok (.ifCond .ne 9, 3) := by decide +kernel
theorem dX2_add_7 : decode cX2_add 7 = .ok (.iload_n 3, 1) := by decide +kernel
theorem dX2_add_8 : decode cX2_add 8 = .ok (.bipush 6, 2) := by decide +kernel
theorem dX2_add_10 : decode cX2_add 10 = .ok (.if_icmp .le 4, 3) := by decide +kernel
theorem dX2_add_13 : decode cX2_add 13 = .ok (.return_, 1) := by decide +kernel
theorem dX2_add_14 : decode cX2_add 14 = .ok (.aload_n 1, 1) := by decide +kernel
theorem dX2_add_15 : decode cX2_add 15 = .ok (.iload_n 2, 1) := by decide +kernel
theorem dX2_add_16 : decode cX2_add 16 = .ok (.aload_n 0, 1) := by decide +kernel
theorem dX2_add_17 : decode cX2_add 17 = .ok (.getfield 18, 3) := by decide +kernel
theorem dX2_add_20 : decode cX2_add 20 = .ok (.aload_n 0, 1) := by decide +kernel
theorem dX2_add_21 : decode cX2_add 21 = .ok (.getfield 9, 3) := by decide +kernel
theorem dX2_add_24 : decode cX2_add 24 = .ok (.bipush 6, 2) := by decide +kernel
theorem dX2_add_26 : decode cX2_add 26 = .ok (.imul, 1) := by decide +kernel
theorem dX2_add_27 : decode cX2_add 27 = .ok (.iload_n 3, 1) := by decide +kernel
theorem dX2_add_28 : decode cX2_add 28 = .ok (.invokestatic 29, 3) := by decide +kernel
theorem dX2_add_31 : decode cX2_add 31 = .ok (.aload_n 0, 1) := by decide +kernel
theorem dX2_add_32 : decode cX2_add 32 = .ok (.getfield 22, 3) := by decide +kernel
theorem dX2_add_35 : decode cX2_add 35 = .ok (.aload_n 0, 1) := by decide +kernel
theorem dX2_add_36 : decode cX2_add 36 = .ok (.getfield 9, 3) := by decide +kernel
theorem dX2_add_39 : decode cX2_add 39 = .ok (.iload_n 3, 1) := by decide +kernel
theorem dX2_add_40 : decode cX2_add 40 = .ok (.iastore, 1) := by decide +kernel
theorem dX2_add_41 : decode cX2_add 41 = .ok (.aload_n 0, 1) := by decide +kernel
theorem dX2_add_42 : decode cX2_add 42 = .ok (.dup, 1) := by decide +kernel
theorem dX2_add_43 : decode cX2_add 43 = .ok (.getfield 9, 3) := by decide +kernel
theorem dX2_add_46 : decode cX2_add 46 = .ok (.iconst 1, 1) := by decide +kernel
theorem dX2_add_47 : decode cX2_add 47 = .ok (.iadd, 1) := by decide +kernel
theorem dX2_add_48 : decode cX2_add 48 = .ok (.putfield 9, 3) := by decide +kernel
theorem dX2_add_51 : decode cX2_add 51 = .ok (.return_, 1) := by decide +kernel
theorem dX2_find_0 : decode cX2_find 0 = .ok (.iconst 0, 1) := by decide +kernel
theorem dX2_find_1 : decode cX2_find 1 = .ok (.istore 4, 2) := by decide +kernel
theorem dX2_find_3 : decode cX2_find 3 = .ok (.iload 4, 2) := by decide +kernel
theorem dX2_find_5 : decode cX2_find 5 = .ok (.aload_n 0, 1) := by decide +kernel
theorem dX2_find_6 : decode cX2_find 6 = .ok (.getfield 9, 3) := by decide +kernel
theorem dX2_find_9 : decode cX2_find 9 = .ok (.if_icmp .ge 34, 3) := by decide +kernel
theorem dX2_find_12 : decode cX2_find 12 = .ok (.aload_n 0, 1) := by decide +kernel
theorem dX2_find_13 : decode cX2_find 13 = .ok (.getfield 22, 3) := by decide +kernel
theorem dX2_find_16 : decode cX2_find 16 = .ok (.iload 4, 2) := by decide +kernel
theorem dX2_find_18 : decode cX2_find 18 = .ok (.iaload, 1) := by decide +kernel
theorem dX2_find_19 : decode cX2_find 19 = .ok (.iload_n 3, 1) := by decide +kernel
theorem dX2_find_20 : decode cX2_find 20 = .ok (.if_icmp .ne 17, 3) := by decide +kernel
theorem dX2_find_23 : decode cX2_find 23 = .ok (.aload_n 0, 1) := by decide +kernel
theorem dX2_find_24 : decode cX2_find 24 = .ok (.iload 4, 2) := by decide +kernel
theorem dX2_find_26 : decode cX2_find 26 = .ok (.aload_n 1, 1) := by decide +kernel
theorem dX2_find_27 : decode cX2_find 27 = .ok (.iload_n 2, 1) := by decide +kernel
theorem dX2_find_28 : decode cX2_find 28 = .ok (.invokevirtual 35, 3) := by decide +kernel
theorem dX2_find_31 : decode cX2_find 31 = .ok (.ifCond .eq 6, 3) := by decide +kernel
theorem dX2_find_34 : decode cX2_find 34 = .ok (.iload 4, 2) := by decide +kernel
theorem dX2_find_36 : decode cX2_find 36 = .ok (.ireturn, 1) := by decide +kernel
theorem dX2_find_37 : decode cX2_find 37 = .ok (.iinc 4 1, 3) := by decide +kernel
theorem dX2_find_40 : decode cX2_find 40 = .ok (.goto (-37), 3) := by decide +kernel
theorem dX2_find_43 : decode cX2_find 43 = .ok (.iconst (-1), 1) := by decide +kernel
theorem dX2_find_44 : decode cX2_find 44 = .ok (.ireturn, 1) := by decide +kernel
theorem dX2_isLike_0 : decode cX2_isLike 0 = .ok (.iconst 0, 1) := by decide +kernel
theorem dX2_isLike_1 : decode cX2_isLike 1 = .ok (.istore 4, 2) := by decide +kernel
theorem dX2_isLike_3 : decode cX2_isLike 3 = .ok (.iload 4, 2) := by decide +kernel
theorem dX2_isLike_5 : decode cX2_isLike 5 = .ok (.aload_n 0, 1) := by decide +kernel
theorem dX2_isLike_6 : decode cX2_isLike 6 = .ok (.getfield 22, 3) := by decide +kernel
theorem dX2_isLike_9 : decode cX2_isLike 9 = .ok (.iload_n 1, 1) := by decide +kernel
theorem dX2_isLike_10 : decode cX2_isLike 10 = .ok (.iaload, 1) := by decide +kernel
theorem dX2_isLike_11 : decode cX2_isLike 11 = .ok (.if_icmp .ge 32, 3) := by decide +kernel
theorem dX2_isLike_14 : decode cX2_isLike 14 = .ok (.aload_n 0, 1) := by decide +kernel
theorem dX2_isLike_15 : decode cX2_isLike 15 = .ok (.getfield 18, 3) := by decide +kernel
theorem dX2_isLike_18 : decode cX2_isLike 18 = .ok (.iload_n 1, 1) := by decide +kernel
theorem dX2_isLike_19 : decode cX2_isLike 19 = .ok (.bipush 6, 2) := by decide +kernel
theorem dX2_isLike_21 : decode cX2_isLike 21 = .ok (.imul, 1) := by decide +kernel
theorem dX2_isLike_22 : decode cX2_isLike 22 = .ok (.iload 4, 2) := by decide +kernel
theorem dX2_isLike_24 : decode cX2_isLike 24 = .ok (.iadd, 1) := by decide +kernel
theorem dX2_isLike_25 : decode cX2_isLike 25 = .ok (.iaload, 1) := by decide +kernel
theorem dX2_isLike_26 : decode cX2_isLike 26 = .ok (.aload_n 2, 1) := by decide +kernel
theorem dX2_isLike_27 : decode cX2_isLike 27 = .ok (.iload_n 3, 1) := by decide +kernel
theorem dX2_isLike_28 : decode cX2_isLike 28 = .ok (.iload 4, 2) := by decide +kernel
theorem dX2_isLike_30 : decode cX2_isLike 30 = .ok (.iadd, 1) := by decide +kernel
theorem dX2_isLike_31 : decode cX2_isLike 31 = .ok (.iaload, 1) := by decide +kernel
theorem dX2_isLike_32 : decode cX2_isLike 32 = .ok (.if_icmp .eq 5, 3) := by decide +kernel
theorem dX2_isLike_35 : decode cX2_isLike 35 = .ok (.iconst 0, 1) := by decide +kernel
theorem dX2_isLike_36 : decode cX2_isLike 36 = .ok (.ireturn, 1) := by decide +kernel
theorem dX2_isLike_37 : decode cX2_isLike 37 = .ok (.iinc 4 1, 3) := by decide +kernel
theorem dX2_isLike_40 : decode cX2_isLike 40 = .ok (.goto (-37), 3) := by decide +kernel
theorem dX2_isLike_43 : decode cX2_isLike 43 = .ok (.iconst 1, 1) := by decide +kernel
theorem dX2_isLike_44 : decode cX2_isLike 44 = .ok (.ireturn, 1) := by decide +kernel
theorem dX2_letter_0 : decode cX2_letter 0 = .ok (.iload_n 2, 1) := by decide +kernel
theorem dX2_letter_1 : decode cX2_letter 1 = .ok (.ifCond .lt 27, 3) := by decide +kernel
theorem dX2_letter_4 : decode cX2_letter 4 = .ok (.iload_n 2, 1) := by decide +kernel
theorem dX2_letter_5 : decode cX2_letter 5 = .ok (.aload_n 0, 1) := by decide +kernel
theorem dX2_letter_6 : decode cX2_letter 6 = .ok (.getfield 22, 3) := by decide +kernel
theorem dX2_letter_9 : decode cX2_letter 9 = .ok (.iload_n 1, 1) := by decide +kernel
theorem dX2_letter_10 : decode cX2_letter 10 = .ok (.iaload, 1) := by decide +kernel
theorem dX2_letter_11 : decode cX2_letter 11 = .ok (.if_icmp .ge 17, 3) := by decide +kernel
theorem dX2_letter_14 : decode cX2_letter 14 = .ok (.aload_n 0, 1) := by decide +kernel
theorem dX2_letter_15 : decode cX2_letter 15 = .ok (.getfield 18, 3) := by decide +kernel
theorem dX2_letter_18 : decode cX2_letter 18 = .ok (.iload_n 1, 1) := by decide +kernel
theorem dX2_letter_19 : decode cX2_letter 19 = .ok (.bipush 6, 2) := by decide +kernel
theorem dX2_letter_21 : decode cX2_letter 21 = .ok (.imul, 1) := by decide +kernel
theorem dX2_letter_22 : decode cX2_letter 22 = .ok (.iload_n 2, 1) := by decide +kernel
theorem dX2_letter_23 : decode cX2_letter 23 = .ok (.iadd, 1) := by decide +kernel
theorem dX2_letter_24 : decode cX2_letter 24 = .ok (.iaload, 1) := by decide +kernel
theorem dX2_letter_25 : decode cX2_letter 25 = .ok (.goto 4, 3) := by decide +kernel
theorem dX2_letter_28 : decode cX2_letter 28 = .ok (.iconst (-1), 1) := by decide +kernel
theorem dX2_letter_29 : decode cX2_letter 29 = .ok (.ireturn, 1) := by decide +kernel
theorem dX3_init_0 : decode cX3_init 0 = .ok (.aload_n 0, 1) := by decide +kernel
theorem dX3_init_1 : decode cX3_init 1 = .ok (.invokespecial 3, 3) := by decide +kernel
theorem dX3_init_4 : decode cX3_init 4 = .ok (.aload_n 0, 1) := by decide +kernel
theorem dX3_init_5 : decode cX3_init 5 = .ok (.sipush 420, 3) := by decide +kernel
theorem dX3_init_8 : decode cX3_init 8 = .ok (.newarray .int, 2) := by decide +kernel
theorem dX3_init_10 : decode cX3_init 10 = .ok (.putfield 9, 3) := by decide +kernel
theorem dX3_init_13 : decode cX3_init 13 = .ok (.aload_n 0, 1) := by decide +kernel
theorem dX3_init_14 : decode cX3_init 14 = .ok (.iconst 0, 1) := by decide +kernel
theorem dX3_init_15 : decode cX3_init 15 = .ok (.putfield 15, 3) := by decide +kernel
theorem dX3_init_18 : decode cX3_init 18 = .ok (.return_, 1) := by decide +kernel
theorem dX3_putSkater_0 : decode cX3_putSkater 0 = .ok (.aload_n 1, 1) := by decide +kernel
theorem dX3_putSkater_1 : decode cX3_putSkater 1 = .ok (.getfield 19, 3) := by decide +kernel
theorem dX3_putSkater_4 : decode cX3_putSkater 4 = .ok (.iload_n 2, 1) := by decide +kernel
theorem dX3_putSkater_5 : decode cX3_putSkater 5 = .ok (.aaload, 1) := by decide +kernel
theorem dX3_putSkater_6 : decode cX3_putSkater 6 = .ok (.astore 4, 2) := by decide +kernel
theorem dX3_putSkater_8 : decode cX3_putSkater 8 = .ok (.aload_n 0, 1) := by decide +kernel
theorem dX3_putSkater_9 : decode cX3_putSkater 9 = .ok (.iconst 0, 1) := by decide +kernel
theorem dX3_putSkater_10 : decode cX3_putSkater 10 = .ok (.putfield 15, 3) := by decide +kernel
theorem dX3_putSkater_13 : decode cX3_putSkater 13 = .ok (.aload_n 0, 1) := by decide +kernel
theorem dX3_putSkater_14 : decode cX3_putSkater 14 = .ok (.aload_n 1, 1) := by decide +kernel
theorem dX3_putSkater_15 : decode cX3_putSkater 15 = .ok (.getfield 25, 3) := by decide +kernel
theorem dX3_putSkater_18 : decode cX3_putSkater 18 = .ok (.iload_n 2, 1) := by decide +kernel
theorem dX3_putSkater_19 : decode cX3_putSkater 19 = .ok (.invokevirtual 29, 3) := by decide +kernel
theorem dX3_putSkater_22 : decode cX3_putSkater 22 = .ok (.aload_n 0, 1) := by decide +kernel
theorem dX3_putSkater_23 : decode cX3_putSkater 23 = .ok (.bipush 32, 2) := by decide +kernel
theorem dX3_putSkater_25 : decode cX3_putSkater 25 = .ok (.invokevirtual 33, 3) := by decide +kernel
theorem dX3_putSkater_28 : decode cX3_putSkater 28 = .ok (.aload_n 0, 1) := by decide +kernel
theorem dX3_putSkater_29 : decode cX3_putSkater 29 = .ok (.aload_n 3, 1) := by decide +kernel
theorem dX3_putSkater_30 : decode cX3_putSkater 30 = .ok (.getfield 37, 3) := by decide +kernel
theorem dX3_putSkater_33 : decode cX3_putSkater 33 = .ok (.invokevirtual 42, 3) := by decide +kernel
theorem dX3_putSkater_36 : decode cX3_putSkater 36 = .ok (.iconst 0, 1) := by decide +kernel
theorem dX3_putSkater_37 : decode cX3_putSkater 37 = .ok (.istore 5, 2) := by decide +kernel
theorem dX3_putSkater_39 : decode cX3_putSkater 39 = .ok (.iload 5, 2) := by decide +kernel
theorem dX3_putSkater_41 : decode cX3_putSkater 41 = .ok (.aload 4, 2) := by decide +kernel
theorem dX3_putSkater_43 : decode cX3_putSkater 43 = .ok (.getfield 45, 3) := by decide +kernel
theorem dX3_putSkater_46 : decode cX3_putSkater 46 = .ok (.if_icmp .ge 29, 3) := by decide +kernel
theorem dX3_putSkater_49 : decode cX3_putSkater 49 = .ok (.aload 4, 2) := by decide +kernel
theorem dX3_putSkater_51 : decode cX3_putSkater 51 = .ok (.iload 5, 2) := by decide +kernel
theorem dX3_putSkater_53 : decode cX3_putSkater 53 = .ok (.invokevirtual 50, 3) := by decide +kernel
theorem dX3_putSkater_56 : decode cX3_putSkater 56 = .ok (.ifCond .eq 13, 3) := by decide +kernel
theorem dX3_putSkater_59 : decode cX3_putSkater 59 = .ok (.aload_n 0, 1) := by decide +kernel
theorem dX3_putSkater_60 : decode cX3_putSkater 60 = .ok (.aload_n 1, 1) := by decide +kernel
theorem dX3_putSkater_61 : decode cX3_putSkater 61 = .ok (.aload 4, 2) := by decide +kernel
theorem dX3_putSkater_63 : decode cX3_putSkater 63 = .ok (.iload 5, 2) := by decide +kernel
theorem dX3_putSkater_65 : decode cX3_putSkater 65 = .ok (.aload_n 3, 1) := by decide +kernel
theorem dX3_putSkater_66 : decode cX3_putSkater 66 = .ok (.invokevirtual 54, 3) := by decide +kernel
theorem dX3_putSkater_69 : decode cX3_putSkater 69 = .ok (.iinc 5 1, 3) := by decide +kernel
theorem dX3_putSkater_72 : decode cX3_putSkater 72 = .ok (.goto (-33), 3) := by decide +kernel
theorem dX3_putSkater_75 : decode cX3_putSkater 75 = .ok (.return_, 1) := by decide +kernel
theorem dX3_putAttempt_0 : decode cX3_putAttempt 0 = .ok (.aload_n 0, 1) := by decide +kernel
theorem dX3_putAttempt_1 : decode cX3_putAttempt 1 = .ok (.bipush 10, 2) := by decide +kernel
theorem dX3_putAttempt_3 : decode cX3_putAttempt 3 = .ok (.invokevirtual 33, 3) := by decide +kernel
theorem dX3_putAttempt_6 : decode cX3_putAttempt 6 = .ok (.iconst 0, 1) := by decide +kernel
theorem dX3_putAttempt_7 : decode cX3_putAttempt 7 = .ok (.istore 5, 2) := by decide +kernel
theorem dX3_putAttempt_9 : decode cX3_putAttempt 9 = .ok (.iload 5, 2) := by decide +kernel
theorem dX3_putAttempt_11 : decode cX3_putAttempt 11 = .ok (.aload_n 2, 1) := by decide +kernel
theorem dX3_putAttempt_12 : decode cX3_putAttempt 12 = .ok (.getfield 58, 3) := by decide +kernel
theorem dX3_putAttempt_15 : decode cX3_putAttempt 15 = .ok (.iload_n 3, 1) := by decide +kernel
theorem dX3_putAttempt_16 : decode cX3_putAttempt 16 = .ok (.iaload, 1) := by decide +kernel
theorem dX3_putAttempt_17 : decode cX3_putAttempt 17 = .ok (.if_icmp .ge 39, 3) := by decide +kernel
theorem dX3_putAttempt_20 : decode cX3_putAttempt 20 = .ok (.iload 5, 2) := by decide +kernel
theorem dX3_putAttempt_22 : decode cX3_putAttempt 22 = .ok (.ifCond .le 9, 3) := by decide +kernel
theorem dX3_putAttempt_25 : decode cX3_putAttempt 25 = .ok (.aload_n 0, 1) := by decide +kernel
theorem dX3_putAttempt_26 : decode cX3_putAttempt 26 = .ok (.bipush 43, 2) := by decide +kernel
theorem dX3_putAttempt_28 : decode cX3_putAttempt 28 = .ok (.invokevirtual 33, 3) := by decide +kernel
theorem dX3_putAttempt_31 : decode cX3_putAttempt 31 = .ok (.aload_n 0, 1) := by decide +kernel
theorem dX3_putAttempt_32 : decode cX3_putAttempt 32 = .ok (.aload_n 1, 1) := by decide +kernel
theorem dX3_putAttempt_33 : decode cX3_putAttempt 33 = .ok (.getfield 61, 3) := by decide +kernel
theorem dX3_putAttempt_36 : decode cX3_putAttempt 36 = .ok (.aload_n 2, 1) := by decide +kernel
theorem dX3_putAttempt_37 : decode cX3_putAttempt 37 = .ok (.getfield 64, 3) := by decide +kernel
theorem dX3_putAttempt_40 : decode cX3_putAttempt 40 = .ok (.iload_n 3, 1) := by decide +kernel
theorem dX3_putAttempt_41 : decode cX3_putAttempt 41 = .ok (.iconst 3, 1) := by decide +kernel
theorem dX3_putAttempt_42 : decode cX3_putAttempt 42 = .ok (.imul, 1) := by decide +kernel
theorem dX3_putAttempt_43 : decode cX3_putAttempt 43 = .ok (.iload 5, 2) := by decide +kernel
theorem dX3_putAttempt_45 : decode cX3_putAttempt 45 = .ok (.iadd, 1) := by decide +kernel
theorem dX3_putAttempt_46 : decode cX3_putAttempt 46 = .ok (.iaload, 1) := by decide +kernel
theorem dX3_putAttempt_47 : decode cX3_putAttempt 47 = .ok (.invokevirtual 29, 3) := by decide +kernel
theorem dX3_putAttempt_50 : decode cX3_putAttempt 50 = .ok (.iinc 5 1, 3) := by decide +kernel
theorem dX3_putAttempt_53 : decode cX3_putAttempt 53 = .ok (.goto (-44), 3) := by decide +kernel
theorem dX3_putAttempt_56 : decode cX3_putAttempt 56 = .ok (.aload_n 2, 1) := by decide +kernel
theorem dX3_putAttempt_57 : decode cX3_putAttempt 57 = .ok (.getfield 67, 3) := by decide +kernel
theorem dX3_putAttempt_60 : decode cX3_putAttempt 60 = .ok (.iload_n 3, 1) := by decide +kernel
theorem dX3_putAttempt_61 : decode cX3_putAttempt 61 = .ok (.iaload, 1) := by decide +kernel
theorem dX3_putAttempt_62 : decode cX3_putAttempt 62 = .ok (.iconst 1, 1) := by decide +kernel
theorem dX3_putAttempt_63 : decode cX3_putAttempt 63 = .ok (.iand, 1) := by decide +kernel
theorem dX3_putAttempt_64 : decode cX3_putAttempt 64 = .ok (.ifCond .eq 9, 3) := by decide +kernel
theorem dX3_putAttempt_67 : decode cX3_putAttempt 67 = .ok (.aload_n 0, 1) := by decide +kernel
theorem dX3_putAttempt_68 : decode cX3_putAttempt 68 = .ok (.bipush 60, 2) := by decide +kernel
theorem dX3_putAttempt_70 : decode cX3_putAttempt 70 = .ok (.invokevirtual 33, 3) := by decide +kernel
theorem dX3_putAttempt_73 : decode cX3_putAttempt 73 = .ok (.aload_n 2, 1) := by decide +kernel
theorem dX3_putAttempt_74 : decode cX3_putAttempt 74 = .ok (.getfield 67, 3) := by decide +kernel
theorem dX3_putAttempt_77 : decode cX3_putAttempt 77 = .ok (.iload_n 3, 1) := by decide +kernel
theorem dX3_putAttempt_78 : decode cX3_putAttempt 78 = .ok (.iaload, 1) := by decide +kernel
theorem dX3_putAttempt_79 : decode cX3_putAttempt 79 = .ok (.iconst 2, 1) := by decide +kernel
theorem dX3_putAttempt_80 : decode cX3_putAttempt 80 = .ok (.iand, 1) := by decide +kernel
theorem dX3_putAttempt_81 : decode cX3_putAttempt 81 = .ok (.ifCond .eq 9, 3) := by decide +kernel
theorem dX3_putAttempt_84 : decode cX3_putAttempt 84 = .ok (.aload_n 0, 1) := by decide +kernel
theorem dX3_putAttempt_85 : decode cX3_putAttempt 85 = .ok (.bipush 33, 2) := by decide +kernel
theorem dX3_putAttempt_87 : decode cX3_putAttempt 87 = .ok (.invokevirtual 33, 3) := by decide +kernel
theorem dX3_putAttempt_90 : decode cX3_putAttempt 90 = .ok (.aload 4, 2) := by decide +kernel
theorem dX3_putAttempt_92 : decode cX3_putAttempt 92 = .ok (.iload_n 3, 1) := by decide +kernel
theorem dX3_putAttempt_93 : decode cX3_putAttempt 93 = .ok (.invokevirtual 70, 3) := by decide +kernel
theorem dX3_putAttempt_96 : decode cX3_putAttempt 96 = .ok (.ifCond .eq 9, 3) := by decide +kernel
theorem dX3_putAttempt_99 : decode cX3_putAttempt 99 = .ok (.aload_n 0, 1) := by decide +kernel
theorem dX3_putAttempt_100 : decode cX3_putAttempt 100 = .ok (.bipush 120, 2) := by decide +kernel
theorem dX3_putAttempt_102 : decode cX3_putAttempt 102 = .ok (.invokevirtual 33, 3) := by decide +kernel
theorem dX3_putAttempt_105 : decode cX3_putAttempt 105 = .ok (.aload_n 0, 1) := by decide +kernel
theorem dX3_putAttempt_106 : decode cX3_putAttempt 106 = .ok (.bipush 32, 2) := by decide +kernel
theorem dX3_putAttempt_108 : decode cX3_putAttempt 108 = .ok (.invokevirtual 33, 3) := by decide +kernel
theorem dX3_putAttempt_111 : decode cX3_putAttempt 111 = .ok (.aload_n 0, 1) := by decide +kernel
theorem dX3_putAttempt_112 : decode cX3_putAttempt 112 = .ok (.aload 4, 2) := by decide +kernel
theorem dX3_putAttempt_114 : decode cX3_putAttempt 114 = .ok (.iload_n 3, 1) := by decide +kernel
theorem dX3_putAttempt_115 : decode cX3_putAttempt 115 = .ok (.aload_n 1, 1) := by decide +kernel
theorem dX3_putAttempt_116 : decode cX3_putAttempt 116 = .ok (.invokevirtual 73, 3) := by decide +kernel
theorem dX3_putAttempt_119 : decode cX3_putAttempt 119 = .ok (.invokevirtual 77, 3) := by decide +kernel
theorem dX3_putAttempt_122 : decode cX3_putAttempt 122 = .ok (.invokevirtual 42, 3) := by decide +kernel
theorem dX3_putAttempt_125 : decode cX3_putAttempt 125 = .ok (.return_, 1) := by decide +kernel
theorem dX3_put_0 : decode cX3_put 0 = .ok (.aload_n 0, 1) := by decide +kernel
theorem dX3_put_1 : decode cX3_put 1 = .ok (.getfield 15, 3) := by decide +kernel
theorem dX3_put_4 : decode cX3_put 4 = .ok (.aload_n 0, 1) := by decide +kernel
theorem dX3_put_5 : decode cX3_put 5 = .ok (.getfield 9, 3) := by decide +kernel
theorem dX3_put_8 : decode cX3_put 8 = .ok (.arraylength, 1) := by decide +kernel
theorem dX3_put_9 : decode cX3_put 9 = .ok (.if_icmp .ge 23, 3) := by decide +kernel
theorem dX3_put_12 : decode cX3_put 12 = .ok (.aload_n 0, 1) := by decide +kernel
theorem dX3_put_13 : decode cX3_put 13 = .ok (.getfield 9, 3) := by decide +kernel
theorem dX3_put_16 : decode cX3_put 16 = .ok (.aload_n 0, 1) := by decide +kernel
theorem dX3_put_17 : decode cX3_put 17 = .ok (.getfield 15, 3) := by decide +kernel
theorem dX3_put_20 : decode cX3_put 20 = .ok (.iload_n 1, 1) := by decide +kernel
theorem dX3_put_21 : decode cX3_put 21 = .ok (.iastore, 1) := by decide +kernel
theorem dX3_put_22 : decode cX3_put 22 = .ok (.aload_n 0, 1) := by decide +kernel
theorem dX3_put_23 : decode cX3_put 23 = .ok (.dup, 1) := by decide +kernel
theorem dX3_put_24 : decode cX3_put 24 = .ok (.getfield 15, 3) := by decide +kernel
theorem dX3_put_27 : decode cX3_put 27 = .ok (.iconst 1, 1) := by decide +kernel
theorem dX3_put_28 : decode cX3_put 28 = .ok (.iadd, 1) := by decide +kernel
theorem dX3_put_29 : decode cX3_put 29 = .ok (.putfield 15, 3) := by decide +kernel
theorem dX3_put_32 : decode cX3_put 32 = .ok (.return_, 1) := by decide +kernel
theorem dX3_putLetters_0 : decode cX3_putLetters 0 = .ok (.iconst 0, 1) := by decide +kernel
theorem dX3_putLetters_1 : decode cX3_putLetters 1 = .ok (.istore_n 3, 1) := by decide +kernel
theorem dX3_putLetters_2 : decode cX3_putLetters 2 = .ok (.iload_n 3, 1) := by decide +kernel
theorem dX3_putLetters_3 : decode cX3_putLetters 3 = .ok (.bipush 6, 2) := by decide +kernel
theorem dX3_putLetters_5 : decode cX3_putLetters 5 = .ok (.if_icmp .ge 29, 3) := by decide +kernel
theorem dX3_putLetters_8 : decode cX3_putLetters 8 = .ok (.aload_n 1, 1) := by decide +kernel
theorem dX3_putLetters_9 : decode cX3_putLetters 9 = .ok (.iload_n 2, 1) := by decide +kernel
theorem dX3_putLetters_10 : decode cX3_putLetters 10 = .ok (.iload_n 3, 1) := by decide +kernel
theorem dX3_putLetters_11 : decode cX3_putLetters 11 = .ok (.invokevirtual 81, 3) := by decide +kernel
theorem dX3_putLetters_14 : decode cX3_putLetters 14 = .ok (.iconst (-1), 1) := by decide +kernel
theorem dX3_putLetters_15 : decode cX3_putLetters 15 = .ok (.if_icmp .eq 19, 3) := by decide +kernel
theorem dX3_putLetters_18 : decode cX3_putLetters 18 = .ok (.aload_n 0, 1) := by decide +kernel
theorem dX3_putLetters_19 : decode cX3_putLetters 19 = .ok (.aload_n 1, 1) := by decide +kernel
theorem dX3_putLetters_20 : decode cX3_putLetters 20 = .ok (.iload_n 2, 1) := by decide +kernel
theorem dX3_putLetters_21 : decode cX3_putLetters 21 = .ok (.iload_n 3, 1) := by decide +kernel
theorem dX3_putLetters_22 : decode cX3_putLetters 22 = .ok (.invokevirtual 81, 3) := by decide +kernel
theorem dX3_putLetters_25 : decode cX3_putLetters 25 = .ok (.invokevirtual 33, 3) := by decide +kernel
theorem dX3_putLetters_28 : decode cX3_putLetters 28 = .ok (.iinc 3 1, 3) := by decide +kernel
theorem dX3_putLetters_31 : decode cX3_putLetters 31 = .ok (.goto (-29), 3) := by decide +kernel
theorem dX3_putLetters_34 : decode cX3_putLetters 34 = .ok (.return_, 1) := by decide +kernel
theorem dX3_putHundredths_0 : decode cX3_putHundredths 0 = .ok (.iload_n 1, 1) := by decide +kernel
theorem dX3_putHundredths_1 : decode cX3_putHundredths 1 = .ok (.ifCond .ge 9, 3) := by decide +kernel
theorem dX3_putHundredths_4 : decode cX3_putHundredths 4 = .ok (.aload_n 0, 1) := by decide +kernel
theorem dX3_putHundredths_5 : decode cX3_putHundredths 5 = .ok (.bipush 45, 2) := by decide +kernel
theorem dX3_putHundredths_7 : decode cX3_putHundredths 7 = .ok (.invokevirtual 33, 3) := by decide +kernel
theorem dX3_putHundredths_10 : decode cX3_putHundredths 10 = .ok (.iload_n 1, 1) := by decide +kernel
theorem dX3_putHundredths_11 : decode cX3_putHundredths 11 = .ok (.invokestatic 86, 3) := by decide +kernel
theorem dX3_putHundredths_14 : decode cX3_putHundredths 14 = .ok (.istore_n 2, 1) := by decide +kernel
theorem dX3_putHundredths_15 : decode cX3_putHundredths 15 = .ok (.iconst 0, 1) := by decide +kernel
theorem dX3_putHundredths_16 : decode cX3_putHundredths 16 = .ok (.istore_n 3, 1) := by decide +kernel
theorem dX3_putHundredths_17 : decode cX3_putHundredths 17 = .ok (.ldc 92, 2) := by decide +kernel
theorem dX3_putHundredths_19 : decode cX3_putHundredths 19 = .ok (.istore 4, 2) := by decide +kernel
theorem dX3_putHundredths_21 : decode cX3_putHundredths 21 = .ok (.iload 4, 2) := by decide +kernel
theorem dX3_putHundredths_23 : decode cX3_putHundredths 23 = .ok (.ifCond .le 67, 3) := by decide +kernel
theorem dX3_putHundredths_26 : decode cX3_putHundredths 26 = .ok (.iload_n 3, 1) := by decide +kernel
theorem dX3_putHundredths_27 : decode cX3_putHundredths 27 = .ok (.ifCond .ne 16, 3) := by decide +kernel
theorem dX3_putHundredths_30 : decode cX3_putHundredths 30 = .ok (.iload 4, 2) := by decide +kernel
theorem dX3_putHundredths_32 : decode cX3_putHundredths 32 = .ok (.bipush 100, 2) := by decide +kernel
theorem dX3_putHundredths_34 : decode cX3_putHundredths 34 = .ok (.if_icmp .le 9, 3) := by decide +kernel
theorem dX3_putHundredths_37 : decode cX3_putHundredths 37 = .ok (.iload_n 2, 1) := by decide +kernel
theorem dX3_putHundredths_38 : decode cX3_putHundredths 38 = .ok (.iload 4, 2) := by decide +kernel
theorem dX3_putHundredths_40 : decode cX3_putHundredths 40 = .ok (.if_icmp .lt 7, 3) := by decide +kernel
theorem dX3_putHundredths_43 : decode cX3_putHundredths 43 = .ok (.iconst 1, 1) := by decide +kernel
theorem dX3_putHundredths_44 : decode cX3_putHundredths 44 = .ok (.goto 4, 3) := by decide +kernel
theorem dX3_putHundredths_47 : decode cX3_putHundredths 47 = .ok (.iconst 0, 1) := by decide +kernel
theorem dX3_putHundredths_48 : decode cX3_putHundredths 48 = .ok (.istore_n 3, 1) := by decide +kernel
theorem dX3_putHundredths_49 : decode cX3_putHundredths 49 = .ok (.iload_n 3, 1) := by decide +kernel
theorem dX3_putHundredths_50 : decode cX3_putHundredths 50 = .ok (.ifCond .eq 17, 3) := by decide +kernel
theorem dX3_putHundredths_53 : decode cX3_putHundredths 53 = .ok (.aload_n 0, 1) := by decide +kernel
theorem dX3_putHundredths_54 : decode cX3_putHundredths 54 = .ok (.bipush 48, 2) := by decide +kernel
theorem dX3_putHundredths_56 : decode cX3_putHundredths 56 = .ok (.iload_n 2, 1) := by decide +kernel
theorem dX3_putHundredths_57 : decode cX3_putHundredths 57 = .ok (.iload 4, 2) := by decide +kernel
theorem dX3_putHundredths_59 : decode cX3_putHundredths 59 = .ok (.idiv, 1) := by decide +kernel
theorem dX3_putHundredths_60 : decode cX3_putHundredths 60 = .ok (.bipush 10, 2) := by decide +kernel
theorem dX3_putHundredths_62 : decode cX3_putHundredths 62 = .ok (.irem, 1) := by decide +kernel
theorem dX3_putHundredths_63 : decode cX3_putHundredths 63 = .ok (.iadd, 1) := by decide +kernel
theorem dX3_putHundredths_64 : decode cX3_putHundredths 64 = .ok (.invokevirtual 33, 3) := by decide +kernel
theorem dX3_putHundredths_67 : decode cX3_putHundredths 67 = .ok (.iload 4, 2) := by decide +kernel
theorem dX3_putHundredths_69 : decode cX3_putHundredths 69 = .ok (.bipush 100, 2) := by decide +kernel
theorem dX3_putHundredths_71 : decode cX3_putHundredths 71 = .ok (.if_icmp .ne 9, 3) := by decide +kernel
theorem dX3_putHundredths_74 : decode cX3_putHundredths 74 = .ok (.aload_n 0, 1) := by decide +kernel
theorem dX3_putHundredths_75 : decode cX3_putHundredths 75 = .ok (.bipush 46, 2) := by decide +kernel
theorem dX3_putHundredths_77 : decode cX3_putHundredths 77 = .ok (.invokevirtual 33, 3) := by decide +kernel
theorem dX3_putHundredths_80 : decode cX3_putHundredths 80 = .ok (.iload 4, 2) := by decide +kernel
theorem dX3_putHundredths_82 : decode cX3_putHundredths 82 = .ok (.bipush 10, 2) := by decide +kernel
theorem dX3_putHundredths_84 : decode cX3_putHundredths 84 = .ok (.idiv, 1) := by decide +kernel
theorem dX3_putHundredths_85 : decode cX3_putHundredths 85 = .ok (.istore 4, 2) := by decide +kernel
theorem dX3_putHundredths_87 : decode cX3_putHundredths 87 = .ok (.goto (-66), 3) := by decide +kernel
theorem dX3_putHundredths_90 : decode cX3_putHundredths 90 = .ok (.return_, 1) := by decide +kernel
theorem dX4_init_0 : decode cX4_init 0 = .ok (.aload_n 0, 1) := by decide +kernel
theorem dX4_init_1 : decode cX4_init 1 = .ok (.invokespecial 3, 3) := by decide +kernel
theorem dX4_init_4 : decode cX4_init 4 = .ok (.aload_n 0, 1) := by decide +kernel
theorem dX4_init_5 : decode cX4_init 5 = .ok (.iconst 0, 1) := by decide +kernel
theorem dX4_init_6 : decode cX4_init 6 = .ok (.putfield 9, 3) := by decide +kernel
theorem dX4_init_9 : decode cX4_init 9 = .ok (.aload_n 0, 1) := by decide +kernel
theorem dX4_init_10 : decode cX4_init 10 = .ok (.iconst (-1), 1) := by decide +kernel
theorem dX4_init_11 : decode cX4_init 11 = .ok (.putfield 15, 3) := by decide +kernel
theorem dX4_init_14 : decode cX4_init 14 = .ok (.aload_n 0, 1) := by decide +kernel
theorem dX4_init_15 : decode cX4_init 15 = .ok (.iconst 0, 1) := by decide +kernel
theorem dX4_init_16 : decode cX4_init 16 = .ok (.putfield 18, 3) := by decide +kernel
theorem dX4_init_19 : decode cX4_init 19 = .ok (.aload_n 0, 1) := by decide +kernel
theorem dX4_init_20 : decode cX4_init 20 = .ok (.iconst 0, 1) := by decide +kernel
theorem dX4_init_21 : decode cX4_init 21 = .ok (.putfield 21, 3) := by decide +kernel
theorem dX4_init_24 : decode cX4_init 24 = .ok (.aload_n 0, 1) := by decide +kernel
theorem dX4_init_25 : decode cX4_init 25 = .ok (.iconst 0, 1) := by decide +kernel
theorem dX4_init_26 : decode cX4_init 26 = .ok (.putfield 24, 3) := by decide +kernel
theorem dX4_init_29 : decode cX4_init 29 = .ok (.aload_n 0, 1) := by decide +kernel
theorem dX4_init_30 : decode cX4_init 30 = .ok (.iconst (-1), 1) := by decide +kernel
theorem dX4_init_31 : decode cX4_init 31 = .ok (.putfield 27, 3) := by decide +kernel
theorem dX4_init_34 : decode cX4_init 34 = .ok (.aload_n 0, 1) := by decide +kernel
theorem dX4_init_35 : decode cX4_init 35 = .ok (.iconst 0, 1) := by decide +kernel
theorem dX4_init_36 : decode cX4_init 36 = .ok (.putfield 30, 3) := by decide +kernel
theorem dX4_init_39 : decode cX4_init 39 = .ok (.aload_n 0, 1) := by decide +kernel
theorem dX4_init_40 : decode cX4_init 40 = .ok (.aload_n 1, 1) := by decide +kernel
theorem dX4_init_41 : decode cX4_init 41 = .ok (.putfield 34, 3) := by decide +kernel
theorem dX4_init_44 : decode cX4_init 44 = .ok (.aload_n 0, 1) := by decide +kernel
theorem dX4_init_45 : decode cX4_init 45 = .ok (.aload_n 2, 1) := by decide +kernel
theorem dX4_init_46 : decode cX4_init 46 = .ok (.putfield 38, 3) := by decide +kernel
theorem dX4_init_49 : decode cX4_init 49 = .ok (.return_, 1) := by decide +kernel
theorem dX4_faultOf_0 : decode cX4_faultOf 0 = .ok (.aload_n 0, 1) := by decide +kernel
theorem dX4_faultOf_1 : decode cX4_faultOf 1 = .ok (.iload_n 1, 1) := by decide +kernel
theorem dX4_faultOf_2 : decode cX4_faultOf 2 = .ok (.aload_n 2, 1) := by decide +kernel
theorem dX4_faultOf_3 : decode cX4_faultOf 3 = .ok (.invokevirtual 42, 3) := by decide +kernel
theorem dX4_faultOf_6 : decode cX4_faultOf 6 = .ok (.iconst 1, 1) := by decide +kernel
theorem dX4_faultOf_7 : decode cX4_faultOf 7 = .ok (.istore_n 3, 1) := by decide +kernel
theorem dX4_faultOf_8 : decode cX4_faultOf 8 = .ok (.iconst 0, 1) := by decide +kernel
theorem dX4_faultOf_9 : decode cX4_faultOf 9 = .ok (.istore 4, 2) := by decide +kernel
theorem dX4_faultOf_11 : decode cX4_faultOf 11 = .ok (.iload 4, 2) := by decide +kernel
theorem dX4_faultOf_13 : decode cX4_faultOf 13 = .ok (.sipush 600, 3) := by decide +kernel
theorem dX4_faultOf_16 : decode cX4_faultOf 16 = .ok (.if_icmp .gt 171, 3) := by decide +kernel
theorem dX4_faultOf_19 : decode cX4_faultOf 19 = .ok (.iload_n 3, 1) := by decide +kernel
theorem dX4_faultOf_20 : decode cX4_faultOf 20 = .ok (.ifCond .eq 167, 3) := by decide +kernel
theorem dX4_faultOf_23 : decode cX4_faultOf 23 = .ok (.aload_n 0, 1) := by decide +kernel
theorem dX4_faultOf_24 : decode cX4_faultOf 24 = .ok (.getfield 15, 3) := by decide +kernel
theorem dX4_faultOf_27 : decode cX4_faultOf 27 = .ok (.iconst (-1), 1) := by decide +kernel
theorem dX4_faultOf_28 : decode cX4_faultOf 28 = .ok (.if_icmp .eq 159, 3) := by decide +kernel
theorem dX4_faultOf_31 : decode cX4_faultOf 31 = .ok (.aload_n 0, 1) := by decide +kernel
theorem dX4_faultOf_32 : decode cX4_faultOf 32 = .ok (.ldc 46, 2) := by decide +kernel
theorem dX4_faultOf_34 : decode cX4_faultOf 34 = .ok (.invokevirtual 48, 3) := by decide +kernel
theorem dX4_faultOf_37 : decode cX4_faultOf 37 = .ok (.istore 5, 2) := by decide +kernel
theorem dX4_faultOf_39 : decode cX4_faultOf 39 = .ok (.iload 5, 2) := by decide +kernel
theorem dX4_faultOf_41 : decode cX4_faultOf 41 = .ok (.tableswitch 111 (-1) 6 #[103, 47, 55, 63, 71, 79, 87, 95], 47) := by decide +kernel
theorem dX4_faultOf_88 : decode cX4_faultOf 88 = .ok (.aload_n 0, 1) := by decide +kernel
theorem dX4_faultOf_89 : decode cX4_faultOf 89 = .ok (.invokevirtual 52, 3) := by decide +kernel
theorem dX4_faultOf_92 : decode cX4_faultOf 92 = .ok (.istore_n 3, 1) := by decide +kernel
theorem dX4_faultOf_93 : decode cX4_faultOf 93 = .ok (.goto 69, 3) := by decide +kernel
theorem dX4_faultOf_96 : decode cX4_faultOf 96 = .ok (.aload_n 0, 1) := by decide +kernel
theorem dX4_faultOf_97 : decode cX4_faultOf 97 = .ok (.invokevirtual 56, 3) := by decide +kernel
theorem dX4_faultOf_100 : decode cX4_faultOf 100 = .ok (.istore_n 3, 1) := by decide +kernel
theorem dX4_faultOf_101 : decode cX4_faultOf 101 = .ok (.goto 61, 3) := by decide +kernel
theorem dX4_faultOf_104 : decode cX4_faultOf 104 = .ok (.aload_n 0, 1) := by decide +kernel
theorem dX4_faultOf_105 : decode cX4_faultOf 105 = .ok (.invokevirtual 59, 3) := by decide +kernel
theorem dX4_faultOf_108 : decode cX4_faultOf 108 = .ok (.istore_n 3, 1) := by decide +kernel
theorem dX4_faultOf_109 : decode cX4_faultOf 109 = .ok (.goto 53, 3) := by decide +kernel
theorem dX4_faultOf_112 : decode cX4_faultOf 112 = .ok (.aload_n 0, 1) := by decide +kernel
theorem dX4_faultOf_113 : decode cX4_faultOf 113 = .ok (.invokevirtual 62, 3) := by decide +kernel
theorem dX4_faultOf_116 : decode cX4_faultOf 116 = .ok (.istore_n 3, 1) := by decide +kernel
theorem dX4_faultOf_117 : decode cX4_faultOf 117 = .ok (.goto 45, 3) := by decide +kernel
theorem dX4_faultOf_120 : decode cX4_faultOf 120 = .ok (.aload_n 0, 1) := by decide +kernel
theorem dX4_faultOf_121 : decode cX4_faultOf 121 = .ok (.invokevirtual 65, 3) := by decide +kernel
theorem dX4_faultOf_124 : decode cX4_faultOf 124 = .ok (.istore_n 3, 1) := by decide +kernel
theorem dX4_faultOf_125 : decode cX4_faultOf 125 = .ok (.goto 37, 3) := by decide +kernel
theorem dX4_faultOf_128 : decode cX4_faultOf 128 = .ok (.aload_n 0, 1) := by decide +kernel
theorem dX4_faultOf_129 : decode cX4_faultOf 129 = .ok (.invokevirtual 68, 3) := by decide +kernel
theorem dX4_faultOf_132 : decode cX4_faultOf 132 = .ok (.istore_n 3, 1) := by decide +kernel
theorem dX4_faultOf_133 : decode cX4_faultOf 133 = .ok (.goto 29, 3) := by decide +kernel
theorem dX4_faultOf_136 : decode cX4_faultOf 136 = .ok (.aload_n 0, 1) := by decide +kernel
theorem dX4_faultOf_137 : decode cX4_faultOf 137 = .ok (.invokevirtual 71, 3) := by decide +kernel
theorem dX4_faultOf_140 : decode cX4_faultOf 140 = .ok (.istore_n 3, 1) := by decide +kernel
theorem dX4_faultOf_141 : decode cX4_faultOf 141 = .ok (.goto 21, 3) := by decide +kernel
theorem dX4_faultOf_144 : decode cX4_faultOf 144 = .ok (.aload_n 0, 1) := by decide +kernel
theorem dX4_faultOf_145 : decode cX4_faultOf 145 = .ok (.invokevirtual 74, 3) := by decide +kernel
theorem dX4_faultOf_148 : decode cX4_faultOf 148 = .ok (.istore_n 3, 1) := by decide +kernel
theorem dX4_faultOf_149 : decode cX4_faultOf 149 = .ok (.goto 13, 3) := by decide +kernel
theorem dX4_faultOf_152 : decode cX4_faultOf 152 = .ok (.aload_n 0, 1) := by decide +kernel
theorem dX4_faultOf_153 : decode cX4_faultOf 153 = .ok (.iload 5, 2) := by decide +kernel
theorem dX4_faultOf_155 : decode cX4_faultOf 155 = .ok (.bipush 7, 2) := by decide +kernel
theorem dX4_faultOf_157 : decode cX4_faultOf 157 = .ok (.isub, 1) := by decide +kernel
theorem dX4_faultOf_158 : decode cX4_faultOf 158 = .ok (.invokevirtual 77, 3) := by decide +kernel
theorem dX4_faultOf_161 : decode cX4_faultOf 161 = .ok (.istore_n 3, 1) := by decide +kernel
theorem dX4_faultOf_162 : decode cX4_faultOf 162 = .ok (.iload_n 3, 1) := by decide +kernel
theorem dX4_faultOf_163 : decode cX4_faultOf 163 = .ok (.ifCond .eq 16, 3) := by decide +kernel
theorem dX4_faultOf_166 : decode cX4_faultOf 166 = .ok (.aload_n 0, 1) := by decide +kernel
theorem dX4_faultOf_167 : decode cX4_faultOf 167 = .ok (.bipush 59, 2) := by decide +kernel
theorem dX4_faultOf_169 : decode cX4_faultOf 169 = .ok (.invokevirtual 81, 3) := by decide +kernel
theorem dX4_faultOf_172 : decode cX4_faultOf 172 = .ok (.ifCond .eq 7, 3) := by decide +kernel
theorem dX4_faultOf_175 : decode cX4_faultOf 175 = .ok (.iconst 1, 1) := by decide +kernel
theorem dX4_faultOf_176 : decode cX4_faultOf 176 = .ok (.goto 4, 3) := by decide +kernel
theorem dX4_faultOf_179 : decode cX4_faultOf 179 = .ok (.iconst 0, 1) := by decide +kernel
theorem dX4_faultOf_180 : decode cX4_faultOf 180 = .ok (.istore_n 3, 1) := by decide +kernel
theorem dX4_faultOf_181 : decode cX4_faultOf 181 = .ok (.iinc 4 1, 3) := by decide +kernel
theorem dX4_faultOf_184 : decode cX4_faultOf 184 = .ok (.goto (-173), 3) := by decide +kernel
theorem dX4_faultOf_187 : decode cX4_faultOf 187 = .ok (.aload_n 0, 1) := by decide +kernel
theorem dX4_faultOf_188 : decode cX4_faultOf 188 = .ok (.getfield 27, 3) := by decide +kernel
theorem dX4_faultOf_191 : decode cX4_faultOf 191 = .ok (.ireturn, 1) := by decide +kernel
theorem dX4_start_0 : decode cX4_start 0 = .ok (.aload_n 0, 1) := by decide +kernel
theorem dX4_start_1 : decode cX4_start 1 = .ok (.aload_n 2, 1) := by decide +kernel
theorem dX4_start_2 : decode cX4_start 2 = .ok (.putfield 38, 3) := by decide +kernel
theorem dX4_start_5 : decode cX4_start 5 = .ok (.aload_n 0, 1) := by decide +kernel
theorem dX4_start_6 : decode cX4_start 6 = .ok (.getfield 38, 3) := by decide +kernel
theorem dX4_start_9 : decode cX4_start 9 = .ok (.invokevirtual 84, 3) := by decide +kernel
theorem dX4_start_12 : decode cX4_start 12 = .ok (.aload_n 0, 1) := by decide +kernel
theorem dX4_start_13 : decode cX4_start 13 = .ok (.iload_n 1, 1) := by decide +kernel
theorem dX4_start_14 : decode cX4_start 14 = .ok (.aload_n 0, 1) := by decide +kernel
theorem dX4_start_15 : decode cX4_start 15 = .ok (.getfield 34, 3) := by decide +kernel
theorem dX4_start_18 : decode cX4_start 18 = .ok (.arraylength, 1) := by decide +kernel
theorem dX4_start_19 : decode cX4_start 19 = .ok (.invokestatic 89, 3) := by decide +kernel
theorem dX4_start_22 : decode cX4_start 22 = .ok (.putfield 9, 3) := by decide +kernel
theorem dX4_start_25 : decode cX4_start 25 = .ok (.aload_n 0, 1) := by decide +kernel
theorem dX4_start_26 : decode cX4_start 26 = .ok (.iconst 0, 1) := by decide +kernel
theorem dX4_start_27 : decode cX4_start 27 = .ok (.putfield 18, 3) := by decide +kernel
theorem dX4_start_30 : decode cX4_start 30 = .ok (.aload_n 0, 1) := by decide +kernel
theorem dX4_start_31 : decode cX4_start 31 = .ok (.iconst 0, 1) := by decide +kernel
theorem dX4_start_32 : decode cX4_start 32 = .ok (.putfield 21, 3) := by decide +kernel
theorem dX4_start_35 : decode cX4_start 35 = .ok (.aload_n 0, 1) := by decide +kernel
theorem dX4_start_36 : decode cX4_start 36 = .ok (.iconst (-1), 1) := by decide +kernel
theorem dX4_start_37 : decode cX4_start 37 = .ok (.putfield 27, 3) := by decide +kernel
theorem dX4_start_40 : decode cX4_start 40 = .ok (.aload_n 0, 1) := by decide +kernel
theorem dX4_start_41 : decode cX4_start 41 = .ok (.iconst 0, 1) := by decide +kernel
theorem dX4_start_42 : decode cX4_start 42 = .ok (.putfield 30, 3) := by decide +kernel
theorem dX4_start_45 : decode cX4_start 45 = .ok (.aload_n 0, 1) := by decide +kernel
theorem dX4_start_46 : decode cX4_start 46 = .ok (.invokevirtual 95, 3) := by decide +kernel
theorem dX4_start_49 : decode cX4_start 49 = .ok (.return_, 1) := by decide +kernel
theorem dX4_advance_0 : decode cX4_advance 0 = .ok (.aload_n 0, 1) := by decide +kernel
theorem dX4_advance_1 : decode cX4_advance 1 = .ok (.getfield 18, 3) := by decide +kernel
theorem dX4_advance_4 : decode cX4_advance 4 = .ok (.aload_n 0, 1) := by decide +kernel
theorem dX4_advance_5 : decode cX4_advance 5 = .ok (.getfield 21, 3) := by decide +kernel
theorem dX4_advance_8 : decode cX4_advance 8 = .ok (.iadd, 1) := by decide +kernel
theorem dX4_advance_9 : decode cX4_advance 9 = .ok (.istore_n 1, 1) := by decide +kernel
theorem dX4_advance_10 : decode cX4_advance 10 = .ok (.iload_n 1, 1) := by decide +kernel
theorem dX4_advance_11 : decode cX4_advance 11 = .ok (.aload_n 0, 1) := by decide +kernel
theorem dX4_advance_12 : decode cX4_advance 12 = .ok (.getfield 9, 3) := by decide +kernel
theorem dX4_advance_15 : decode cX4_advance 15 = .ok (.if_icmp .ge 42, 3) := by decide +kernel
theorem dX4_advance_18 : decode cX4_advance 18 = .ok (.aload_n 0, 1) := by decide +kernel
theorem dX4_advance_19 : decode cX4_advance 19 = .ok (.getfield 34, 3) := by decide +kernel
theorem dX4_advance_22 : decode cX4_advance 22 = .ok (.iload_n 1, 1) := by decide +kernel
theorem dX4_advance_23 : decode cX4_advance 23 = .ok (.iaload, 1) := by decide +kernel
theorem dX4_advance_24 : decode cX4_advance 24 = .ok (.bipush 9, 2) := by decide +kernel
theorem dX4_advance_26 : decode cX4_advance 26 = .ok (.if_icmp .eq 25, 3) := by decide +kernel
theorem dX4_advance_29 : decode cX4_advance 29 = .ok (.aload_n 0, 1) := by decide +kernel
theorem dX4_advance_30 : decode cX4_advance 30 = .ok (.getfield 34, 3) := by decide +kernel
theorem dX4_advance_33 : decode cX4_advance 33 = .ok (.iload_n 1, 1) := by decide +kernel
theorem dX4_advance_34 : decode cX4_advance 34 = .ok (.iaload, 1) := by decide +kernel
theorem dX4_advance_35 : decode cX4_advance 35 = .ok (.bipush 10, 2) := by decide +kernel
theorem dX4_advance_37 : decode cX4_advance 37 = .ok (.if_icmp .eq 14, 3) := by decide +kernel
theorem dX4_advance_40 : decode cX4_advance 40 = .ok (.aload_n 0, 1) := by decide +kernel
theorem dX4_advance_41 : decode cX4_advance 41 = .ok (.getfield 34, 3) := by decide +kernel
theorem dX4_advance_44 : decode cX4_advance 44 = .ok (.iload_n 1, 1) := by decide +kernel
theorem dX4_advance_45 : decode cX4_advance 45 = .ok (.iaload, 1) := by decide +kernel
theorem dX4_advance_46 : decode cX4_advance 46 = .ok (.bipush 32, 2) := by decide +kernel
theorem dX4_advance_48 : decode cX4_advance 48 = .ok (.if_icmp .ne 9, 3) := by decide +kernel
theorem dX4_advance_51 : decode cX4_advance 51 = .ok (.iinc 1 1, 3) := by decide +kernel
theorem dX4_advance_54 : decode cX4_advance 54 = .ok (.goto (-44), 3) := by decide +kernel
theorem dX4_advance_57 : decode cX4_advance 57 = .ok (.aload_n 0, 1) := by decide +kernel
theorem dX4_advance_58 : decode cX4_advance 58 = .ok (.iload_n 1, 1) := by decide +kernel
theorem dX4_advance_59 : decode cX4_advance 59 = .ok (.putfield 18, 3) := by decide +kernel
theorem dX4_advance_62 : decode cX4_advance 62 = .ok (.aload_n 0, 1) := by decide +kernel
theorem dX4_advance_63 : decode cX4_advance 63 = .ok (.iload_n 1, 1) := by decide +kernel
theorem dX4_advance_64 : decode cX4_advance 64 = .ok (.aload_n 0, 1) := by decide +kernel
theorem dX4_advance_65 : decode cX4_advance 65 = .ok (.getfield 9, 3) := by decide +kernel
theorem dX4_advance_68 : decode cX4_advance 68 = .ok (.if_icmp .ge 12, 3) := by decide +kernel
theorem dX4_advance_71 : decode cX4_advance 71 = .ok (.aload_n 0, 1) := by decide +kernel
theorem dX4_advance_72 : decode cX4_advance 72 = .ok (.getfield 34, 3) := by decide +kernel
theorem dX4_advance_75 : decode cX4_advance 75 = .ok (.iload_n 1, 1) := by decide +kernel
theorem dX4_advance_76 : decode cX4_advance 76 = .ok (.iaload, 1) := by decide +kernel
theorem dX4_advance_77 : decode cX4_advance 77 = .ok (.goto 4, 3) := by decide +kernel
theorem dX4_advance_80 : decode cX4_advance 80 = .ok (.iconst (-1), 1) := by decide +kernel
theorem dX4_advance_81 : decode cX4_advance 81 = .ok (.putfield 15, 3) := by decide +kernel
theorem dX4_advance_84 : decode cX4_advance 84 = .ok (.aload_n 0, 1) := by decide +kernel
theorem dX4_advance_85 : decode cX4_advance 85 = .ok (.getfield 15, 3) := by decide +kernel
theorem dX4_advance_88 : decode cX4_advance 88 = .ok (.bipush 97, 2) := by decide +kernel
theorem dX4_advance_90 : decode cX4_advance 90 = .ok (.if_icmp .lt 54, 3) := by decide +kernel
theorem dX4_advance_93 : decode cX4_advance 93 = .ok (.aload_n 0, 1) := by decide +kernel
theorem dX4_advance_94 : decode cX4_advance 94 = .ok (.getfield 15, 3) := by decide +kernel
theorem dX4_advance_97 : decode cX4_advance 97 = .ok (.bipush 122, 2) := by decide +kernel
theorem dX4_advance_99 : decode cX4_advance 99 = .ok (.if_icmp .gt 45, 3) := by decide +kernel
theorem dX4_advance_102 : decode cX4_advance 102 = .ok (.aload_n 0, 1) := by decide +kernel
theorem dX4_advance_103 : decode cX4_advance 103 = .ok (.bipush 97, 2) := by decide +kernel
theorem dX4_advance_105 : decode cX4_advance 105 = .ok (.putfield 15, 3) := by decide +kernel
theorem dX4_advance_108 : decode cX4_advance 108 = .ok (.iload_n 1, 1) := by decide +kernel
theorem dX4_advance_109 : decode cX4_advance 109 = .ok (.aload_n 0, 1) := by decide +kernel
theorem dX4_advance_110 : decode cX4_advance 110 = .ok (.getfield 9, 3) := by decide +kernel
theorem dX4_advance_113 : decode cX4_advance 113 = .ok (.if_icmp .ge 102, 3) := by decide +kernel
theorem dX4_advance_116 : decode cX4_advance 116 = .ok (.aload_n 0, 1) := by decide +kernel
theorem dX4_advance_117 : decode cX4_advance 117 = .ok (.getfield 34, 3) := by decide +kernel
theorem dX4_advance_120 : decode cX4_advance 120 = .ok (.iload_n 1, 1) := by decide +kernel
theorem dX4_advance_121 : decode cX4_advance 121 = .ok (.iaload, 1) := by decide +kernel
theorem dX4_advance_122 : decode cX4_advance 122 = .ok (.bipush 97, 2) := by decide +kernel
theorem dX4_advance_124 : decode cX4_advance 124 = .ok (.if_icmp .lt 91, 3) := by decide +kernel
theorem dX4_advance_127 : decode cX4_advance 127 = .ok (.aload_n 0, 1) := by decide +kernel
theorem dX4_advance_128 : decode cX4_advance 128 = .ok (.getfield 34, 3) := by decide +kernel
theorem dX4_advance_131 : decode cX4_advance 131 = .ok (.iload_n 1, 1) := by decide +kernel
theorem dX4_advance_132 : decode cX4_advance 132 = .ok (.iaload, 1) := by decide +kernel
theorem dX4_advance_133 : decode cX4_advance 133 = .ok (.bipush 122, 2) := by decide +kernel
theorem dX4_advance_135 : decode cX4_advance 135 = .ok (.if_icmp .gt 80, 3) := by decide +kernel
theorem dX4_advance_138 : decode cX4_advance 138 = .ok (.iinc 1 1, 3) := by decide +kernel
theorem dX4_advance_141 : decode cX4_advance 141 = .ok (.goto (-33), 3) := by decide +kernel
theorem dX4_advance_144 : decode cX4_advance 144 = .ok (.aload_n 0, 1) := by decide +kernel
theorem dX4_advance_145 : decode cX4_advance 145 = .ok (.getfield 15, 3) := by decide +kernel
theorem dX4_advance_148 : decode cX4_advance 148 = .ok (.bipush 48, 2) := by decide +kernel
theorem dX4_advance_150 : decode cX4_advance 150 = .ok (.if_icmp .lt 54, 3) := by decide +kernel
theorem dX4_advance_153 : decode cX4_advance 153 = .ok (.aload_n 0, 1) := by decide +kernel
theorem dX4_advance_154 : decode cX4_advance 154 = .ok (.getfield 15, 3) := by decide +kernel
theorem dX4_advance_157 : decode cX4_advance 157 = .ok (.bipush 57, 2) := by decide +kernel
theorem dX4_advance_159 : decode cX4_advance 159 = .ok (.if_icmp .gt 45, 3) := by decide +kernel
theorem dX4_advance_162 : decode cX4_advance 162 = .ok (.aload_n 0, 1) := by decide +kernel
theorem dX4_advance_163 : decode cX4_advance 163 = .ok (.bipush 48, 2) := by decide +kernel
theorem dX4_advance_165 : decode cX4_advance 165 = .ok (.putfield 15, 3) := by decide +kernel
theorem dX4_advance_168 : decode cX4_advance 168 = .ok (.iload_n 1, 1) := by decide +kernel
theorem dX4_advance_169 : decode cX4_advance 169 = .ok (.aload_n 0, 1) := by decide +kernel
theorem dX4_advance_170 : decode cX4_advance 170 = .ok (.getfield 9, 3) := by decide +kernel
theorem dX4_advance_173 : decode cX4_advance 173 = .ok (.if_icmp .ge 42, 3) := by decide +kernel
theorem dX4_advance_176 : decode cX4_advance 176 = .ok (.aload_n 0, 1) := by decide +kernel
theorem dX4_advance_177 : decode cX4_advance 177 = .ok (.getfield 34, 3) := by decide +kernel
theorem dX4_advance_180 : decode cX4_advance 180 = .ok (.iload_n 1, 1) := by decide +kernel
theorem dX4_advance_181 : decode cX4_advance 181 = .ok (.iaload, 1) := by decide +kernel
theorem dX4_advance_182 : decode cX4_advance 182 = .ok (.bipush 48, 2) := by decide +kernel
theorem dX4_advance_184 : decode cX4_advance 184 = .ok (.if_icmp .lt 31, 3) := by decide +kernel
theorem dX4_advance_187 : decode cX4_advance 187 = .ok (.aload_n 0, 1) := by decide +kernel
theorem dX4_advance_188 : decode cX4_advance 188 = .ok (.getfield 34, 3) := by decide +kernel
theorem dX4_advance_191 : decode cX4_advance 191 = .ok (.iload_n 1, 1) := by decide +kernel
theorem dX4_advance_192 : decode cX4_advance 192 = .ok (.iaload, 1) := by decide +kernel
theorem dX4_advance_193 : decode cX4_advance 193 = .ok (.bipush 57, 2) := by decide +kernel
theorem dX4_advance_195 : decode cX4_advance 195 = .ok (.if_icmp .gt 20, 3) := by decide +kernel
theorem dX4_advance_198 : decode cX4_advance 198 = .ok (.iinc 1 1, 3) := by decide +kernel
theorem dX4_advance_201 : decode cX4_advance 201 = .ok (.goto (-33), 3) := by decide +kernel
theorem dX4_advance_204 : decode cX4_advance 204 = .ok (.aload_n 0, 1) := by decide +kernel
theorem dX4_advance_205 : decode cX4_advance 205 = .ok (.getfield 15, 3) := by decide +kernel
theorem dX4_advance_208 : decode cX4_advance 208 = .ok (.iconst (-1), 1) := by decide +kernel
theorem dX4_advance_209 : decode cX4_advance 209 = .ok (.if_icmp .eq 6, 3) := by decide +kernel
theorem dX4_advance_212 : decode cX4_advance 212 = .ok (.iinc 1 1, 3) := by decide +kernel
theorem dX4_advance_215 : decode cX4_advance 215 = .ok (.aload_n 0, 1) := by decide +kernel
theorem dX4_advance_216 : decode cX4_advance 216 = .ok (.iload_n 1, 1) := by decide +kernel
theorem dX4_advance_217 : decode cX4_advance 217 = .ok (.aload_n 0, 1) := by decide +kernel
theorem dX4_advance_218 : decode cX4_advance 218 = .ok (.getfield 18, 3) := by decide +kernel
theorem dX4_advance_221 : decode cX4_advance 221 = .ok (.isub, 1) := by decide +kernel
theorem dX4_advance_222 : decode cX4_advance 222 = .ok (.putfield 21, 3) := by decide +kernel
theorem dX4_advance_225 : decode cX4_advance 225 = .ok (.return_, 1) := by decide +kernel
theorem dX4_refuse_0 : decode cX4_refuse 0 = .ok (.aload_n 0, 1) := by decide +kernel
theorem dX4_refuse_1 : decode cX4_refuse 1 = .ok (.aload_n 0, 1) := by decide +kernel
theorem dX4_refuse_2 : decode cX4_refuse 2 = .ok (.getfield 18, 3) := by decide +kernel
theorem dX4_refuse_5 : decode cX4_refuse 5 = .ok (.putfield 27, 3) := by decide +kernel
theorem dX4_refuse_8 : decode cX4_refuse 8 = .ok (.iconst 0, 1) := by decide +kernel
theorem dX4_refuse_9 : decode cX4_refuse 9 = .ok (.ireturn, 1) := by decide +kernel
theorem dX4_sign_0 : decode cX4_sign 0 = .ok (.aload_n 0, 1) := by decide +kernel
theorem dX4_sign_1 : decode cX4_sign 1 = .ok (.getfield 15, 3) := by decide +kernel
theorem dX4_sign_4 : decode cX4_sign 4 = .ok (.iload_n 1, 1) := by decide +kernel
theorem dX4_sign_5 : decode cX4_sign 5 = .ok (.if_icmp .eq 8, 3) := by decide +kernel
theorem dX4_sign_8 : decode cX4_sign 8 = .ok (.aload_n 0, 1) := by decide +kernel
theorem dX4_sign_9 : decode cX4_sign 9 = .ok (.invokevirtual 74, 3) := by decide +kernel
theorem dX4_sign_12 : decode cX4_sign 12 = .ok (.ireturn, 1) := by decide +kernel
theorem dX4_sign_13 : decode cX4_sign 13 = .ok (.aload_n 0, 1) := by decide +kernel
theorem dX4_sign_14 : decode cX4_sign 14 = .ok (.invokevirtual 95, 3) := by decide +kernel
theorem dX4_sign_17 : decode cX4_sign 17 = .ok (.iconst 1, 1) := by decide +kernel
theorem dX4_sign_18 : decode cX4_sign 18 = .ok (.ireturn, 1) := by decide +kernel
theorem dX4_among_0 : decode cX4_among 0 = .ok (.iconst 0, 1) := by decide +kernel
theorem dX4_among_1 : decode cX4_among 1 = .ok (.istore_n 2, 1) := by decide +kernel
theorem dX4_among_2 : decode cX4_among 2 = .ok (.iconst 0, 1) := by decide +kernel
theorem dX4_among_3 : decode cX4_among 3 = .ok (.istore_n 3, 1) := by decide +kernel
theorem dX4_among_4 : decode cX4_among 4 = .ok (.iconst 0, 1) := by decide +kernel
theorem dX4_among_5 : decode cX4_among 5 = .ok (.istore 4, 2) := by decide +kernel
theorem dX4_among_7 : decode cX4_among 7 = .ok (.iload 4, 2) := by decide +kernel
theorem dX4_among_9 : decode cX4_among 9 = .ok (.aload_n 1, 1) := by decide +kernel
theorem dX4_among_10 : decode cX4_among 10 = .ok (.invokevirtual 98, 3) := by decide +kernel
theorem dX4_among_13 : decode cX4_among 13 = .ok (.if_icmp .ge 88, 3) := by decide +kernel
theorem dX4_among_16 : decode cX4_among 16 = .ok (.aload_n 0, 1) := by decide +kernel
theorem dX4_among_17 : decode cX4_among 17 = .ok (.getfield 15, 3) := by decide +kernel
theorem dX4_among_20 : decode cX4_among 20 = .ok (.bipush 97, 2) := by decide +kernel
theorem dX4_among_22 : decode cX4_among 22 = .ok (.if_icmp .ne 79, 3) := by decide +kernel
theorem dX4_among_25 : decode cX4_among 25 = .ok (.aload_n 1, 1) := by decide +kernel
theorem dX4_among_26 : decode cX4_among 26 = .ok (.iload 4, 2) := by decide +kernel
theorem dX4_among_28 : decode cX4_among 28 = .ok (.invokevirtual 103, 3) := by decide +kernel
theorem dX4_among_31 : decode cX4_among 31 = .ok (.istore 5, 2) := by decide +kernel
theorem dX4_among_33 : decode cX4_among 33 = .ok (.iload 5, 2) := by decide +kernel
theorem dX4_among_35 : decode cX4_among 35 = .ok (.bipush 32, 2) := by decide +kernel
theorem dX4_among_37 : decode cX4_among 37 = .ok (.if_icmp .ne 21, 3) := by decide +kernel
theorem dX4_among_40 : decode cX4_among 40 = .ok (.iload_n 3, 1) := by decide +kernel
theorem dX4_among_41 : decode cX4_among 41 = .ok (.aload_n 0, 1) := by decide +kernel
theorem dX4_among_42 : decode cX4_among 42 = .ok (.getfield 21, 3) := by decide +kernel
theorem dX4_among_45 : decode cX4_among 45 = .ok (.if_icmp .ne 5, 3) := by decide +kernel
theorem dX4_among_48 : decode cX4_among 48 = .ok (.iload_n 2, 1) := by decide +kernel
theorem dX4_among_49 : decode cX4_among 49 = .ok (.ireturn, 1) := by decide +kernel
theorem dX4_among_50 : decode cX4_among 50 = .ok (.iinc 2 1, 3) := by decide +kernel
theorem dX4_among_53 : decode cX4_among 53 = .ok (.iconst 0, 1) := by decide +kernel
theorem dX4_among_54 : decode cX4_among 54 = .ok (.istore_n 3, 1) := by decide +kernel
theorem dX4_among_55 : decode cX4_among 55 = .ok (.goto 40, 3) := by decide +kernel
theorem dX4_among_58 : decode cX4_among 58 = .ok (.iload_n 3, 1) := by decide +kernel
theorem dX4_among_59 : decode cX4_among 59 = .ok (.iconst (-1), 1) := by decide +kernel
theorem dX4_among_60 : decode cX4_among 60 = .ok (.if_icmp .eq 33, 3) := by decide +kernel
theorem dX4_among_63 : decode cX4_among 63 = .ok (.iload_n 3, 1) := by decide +kernel
theorem dX4_among_64 : decode cX4_among 64 = .ok (.aload_n 0, 1) := by decide +kernel
theorem dX4_among_65 : decode cX4_among 65 = .ok (.getfield 21, 3) := by decide +kernel
theorem dX4_among_68 : decode cX4_among 68 = .ok (.if_icmp .ge 25, 3) := by decide +kernel
theorem dX4_among_71 : decode cX4_among 71 = .ok (.aload_n 0, 1) := by decide +kernel
theorem dX4_among_72 : decode cX4_among 72 = .ok (.getfield 34, 3) := by decide +kernel
theorem dX4_among_75 : decode cX4_among 75 = .ok (.aload_n 0, 1) := by decide +kernel
theorem dX4_among_76 : decode cX4_among 76 = .ok (.getfield 18, 3) := by decide +kernel
theorem dX4_among_79 : decode cX4_among 79 = .ok (.iload_n 3, 1) := by decide +kernel
theorem dX4_among_80 : decode cX4_among 80 = .ok (.iadd, 1) := by decide +kernel
theorem dX4_among_81 : decode cX4_among 81 = .ok (.iaload, 1) := by decide +kernel
theorem dX4_among_82 : decode cX4_among 82 = .ok (.iload 5, 2) := by decide +kernel
theorem dX4_among_84 : decode cX4_among 84 = .ok (.if_icmp .ne 9, 3) := by decide +kernel
theorem dX4_among_87 : decode cX4_among 87 = .ok (.iinc 3 1, 3) := by decide +kernel
theorem dX4_among_90 : decode cX4_among 90 = .ok (.goto 5, 3) := by decide +kernel
theorem dX4_among_93 : decode cX4_among 93 = .ok (.iconst (-1), 1) := by decide +kernel
theorem dX4_among_94 : decode cX4_among 94 = .ok (.istore_n 3, 1) := by decide +kernel
theorem dX4_among_95 : decode cX4_among 95 = .ok (.iinc 4 1, 3) := by decide +kernel
theorem dX4_among_98 : decode cX4_among 98 = .ok (.goto (-91), 3) := by decide +kernel
theorem dX4_among_101 : decode cX4_among 101 = .ok (.iconst (-1), 1) := by decide +kernel
theorem dX4_among_102 : decode cX4_among 102 = .ok (.ireturn, 1) := by decide +kernel
theorem dX4_number_0 : decode cX4_number 0 = .ok (.aload_n 0, 1) := by decide +kernel
theorem dX4_number_1 : decode cX4_number 1 = .ok (.getfield 15, 3) := by decide +kernel
theorem dX4_number_4 : decode cX4_number 4 = .ok (.bipush 48, 2) := by decide +kernel
theorem dX4_number_6 : decode cX4_number 6 = .ok (.if_icmp .ne 11, 3) := by decide +kernel
theorem dX4_number_9 : decode cX4_number 9 = .ok (.aload_n 0, 1) := by decide +kernel
theorem dX4_number_10 : decode cX4_number 10 = .ok (.getfield 21, 3) := by decide +kernel
theorem dX4_number_13 : decode cX4_number 13 = .ok (.iconst 4, 1) := by decide +kernel
theorem dX4_number_14 : decode cX4_number 14 = .ok (.if_icmp .le 8, 3) := by decide +kernel
theorem dX4_number_17 : decode cX4_number 17 = .ok (.aload_n 0, 1) := by decide +kernel
theorem dX4_number_18 : decode cX4_number 18 = .ok (.invokevirtual 74, 3) := by decide +kernel
theorem dX4_number_21 : decode cX4_number 21 = .ok (.ireturn, 1) := by decide +kernel
theorem dX4_number_22 : decode cX4_number 22 = .ok (.aload_n 0, 1) := by decide +kernel
theorem dX4_number_23 : decode cX4_number 23 = .ok (.iconst 0, 1) := by decide +kernel
theorem dX4_number_24 : decode cX4_number 24 = .ok (.putfield 24, 3) := by decide +kernel
theorem dX4_number_27 : decode cX4_number 27 = .ok (.iconst 0, 1) := by decide +kernel
theorem dX4_number_28 : decode cX4_number 28 = .ok (.istore_n 3, 1) := by decide +kernel
theorem dX4_number_29 : decode cX4_number 29 = .ok (.iload_n 3, 1) := by decide +kernel
theorem dX4_number_30 : decode cX4_number 30 = .ok (.aload_n 0, 1) := by decide +kernel
theorem dX4_number_31 : decode cX4_number 31 = .ok (.getfield 21, 3) := by decide +kernel
theorem dX4_number_34 : decode cX4_number 34 = .ok (.if_icmp .ge 35, 3) := by decide +kernel
theorem dX4_number_37 : decode cX4_number 37 = .ok (.aload_n 0, 1) := by decide +kernel
theorem dX4_number_38 : decode cX4_number 38 = .ok (.bipush 10, 2) := by decide +kernel
theorem dX4_number_40 : decode cX4_number 40 = .ok (.aload_n 0, 1) := by decide +kernel
theorem dX4_number_41 : decode cX4_number 41 = .ok (.getfield 24, 3) := by decide +kernel
theorem dX4_number_44 : decode cX4_number 44 = .ok (.imul, 1) := by decide +kernel
theorem dX4_number_45 : decode cX4_number 45 = .ok (.aload_n 0, 1) := by decide +kernel
theorem dX4_number_46 : decode cX4_number 46 = .ok (.getfield 34, 3) := by decide +kernel
theorem dX4_number_49 : decode cX4_number 49 = .ok (.aload_n 0, 1) := by decide +kernel
theorem dX4_number_50 : decode cX4_number 50 = .ok (.getfield 18, 3) := by decide +kernel
theorem dX4_number_53 : decode cX4_number 53 = .ok (.iload_n 3, 1) := by decide +kernel
theorem dX4_number_54 : decode cX4_number 54 = .ok (.iadd, 1) := by decide +kernel
theorem dX4_number_55 : decode cX4_number 55 = .ok (.iaload, 1) := by decide +kernel
theorem dX4_number_56 : decode cX4_number 56 = .ok (.iadd, 1) := by decide +kernel
theorem dX4_number_57 : decode cX4_number 57 = .ok (.bipush 48, 2) := by decide +kernel
theorem dX4_number_59 : decode cX4_number 59 = .ok (.isub, 1) := by decide +kernel
theorem dX4_number_60 : decode cX4_number 60 = .ok (.putfield 24, 3) := by decide +kernel
theorem dX4_number_63 : decode cX4_number 63 = .ok (.iinc 3 1, 3) := by decide +kernel
theorem dX4_number_66 : decode cX4_number 66 = .ok (.goto (-37), 3) := by decide +kernel
theorem dX4_number_69 : decode cX4_number 69 = .ok (.aload_n 0, 1) := by decide +kernel
theorem dX4_number_70 : decode cX4_number 70 = .ok (.getfield 24, 3) := by decide +kernel
theorem dX4_number_73 : decode cX4_number 73 = .ok (.iload_n 1, 1) := by decide +kernel
theorem dX4_number_74 : decode cX4_number 74 = .ok (.if_icmp .lt 11, 3) := by decide +kernel
theorem dX4_number_77 : decode cX4_number 77 = .ok (.aload_n 0, 1) := by decide +kernel
theorem dX4_number_78 : decode cX4_number 78 = .ok (.getfield 24, 3) := by decide +kernel
theorem dX4_number_81 : decode cX4_number 81 = .ok (.iload_n 2, 1) := by decide +kernel
theorem dX4_number_82 : decode cX4_number 82 = .ok (.if_icmp .le 8, 3) := by decide +kernel
theorem dX4_number_85 : decode cX4_number 85 = .ok (.aload_n 0, 1) := by decide +kernel
theorem dX4_number_86 : decode cX4_number 86 = .ok (.invokevirtual 74, 3) := by decide +kernel
theorem dX4_number_89 : decode cX4_number 89 = .ok (.ireturn, 1) := by decide +kernel
theorem dX4_number_90 : decode cX4_number 90 = .ok (.aload_n 0, 1) := by decide +kernel
theorem dX4_number_91 : decode cX4_number 91 = .ok (.invokevirtual 95, 3) := by decide +kernel
theorem dX4_number_94 : decode cX4_number 94 = .ok (.iconst 1, 1) := by decide +kernel
theorem dX4_number_95 : decode cX4_number 95 = .ok (.ireturn, 1) := by decide +kernel
theorem dX4_newName_0 : decode cX4_newName 0 = .ok (.aload_n 0, 1) := by decide +kernel
theorem dX4_newName_1 : decode cX4_newName 1 = .ok (.getfield 15, 3) := by decide +kernel
theorem dX4_newName_4 : decode cX4_newName 4 = .ok (.bipush 97, 2) := by decide +kernel
theorem dX4_newName_6 : decode cX4_newName 6 = .ok (.if_icmp .ne 32, 3) := by decide +kernel
theorem dX4_newName_9 : decode cX4_newName 9 = .ok (.aload_n 0, 1) := by decide +kernel
theorem dX4_newName_10 : decode cX4_newName 10 = .ok (.getfield 21, 3) := by decide +kernel
theorem dX4_newName_13 : decode cX4_newName 13 = .ok (.bipush 6, 2) := by decide +kernel
theorem dX4_newName_15 : decode cX4_newName 15 = .ok (.if_icmp .gt 23, 3) := by decide +kernel
theorem dX4_newName_18 : decode cX4_newName 18 = .ok (.aload_n 1, 1) := by decide +kernel
theorem dX4_newName_19 : decode cX4_newName 19 = .ok (.aload_n 0, 1) := by decide +kernel
theorem dX4_newName_20 : decode cX4_newName 20 = .ok (.getfield 34, 3) := by decide +kernel
theorem dX4_newName_23 : decode cX4_newName 23 = .ok (.aload_n 0, 1) := by decide +kernel
theorem dX4_newName_24 : decode cX4_newName 24 = .ok (.getfield 18, 3) := by decide +kernel
theorem dX4_newName_27 : decode cX4_newName 27 = .ok (.aload_n 0, 1) := by decide +kernel
theorem dX4_newName_28 : decode cX4_newName 28 = .ok (.getfield 21, 3) := by decide +kernel
theorem dX4_newName_31 : decode cX4_newName 31 = .ok (.invokevirtual 107, 3) := by decide +kernel
theorem dX4_newName_34 : decode cX4_newName 34 = .ok (.iconst (-1), 1) := by decide +kernel
theorem dX4_newName_35 : decode cX4_newName 35 = .ok (.if_icmp .eq 8, 3) := by decide +kernel
theorem dX4_newName_38 : decode cX4_newName 38 = .ok (.aload_n 0, 1) := by decide +kernel
theorem dX4_newName_39 : decode cX4_newName 39 = .ok (.invokevirtual 74, 3) := by decide +kernel
theorem dX4_newName_42 : decode cX4_newName 42 = .ok (.ireturn, 1) := by decide +kernel
theorem dX4_newName_43 : decode cX4_newName 43 = .ok (.aload_n 1, 1) := by decide +kernel
theorem dX4_newName_44 : decode cX4_newName 44 = .ok (.aload_n 0, 1) := by decide +kernel
theorem dX4_newName_45 : decode cX4_newName 45 = .ok (.getfield 34, 3) := by decide +kernel
theorem dX4_newName_48 : decode cX4_newName 48 = .ok (.aload_n 0, 1) := by decide +kernel
theorem dX4_newName_49 : decode cX4_newName 49 = .ok (.getfield 18, 3) := by decide +kernel
theorem dX4_newName_52 : decode cX4_newName 52 = .ok (.aload_n 0, 1) := by decide +kernel
theorem dX4_newName_53 : decode cX4_newName 53 = .ok (.getfield 21, 3) := by decide +kernel
theorem dX4_newName_56 : decode cX4_newName 56 = .ok (.invokevirtual 113, 3) := by decide +kernel
theorem dX4_newName_59 : decode cX4_newName 59 = .ok (.aload_n 0, 1) := by decide +kernel
theorem dX4_newName_60 : decode cX4_newName 60 = .ok (.invokevirtual 95, 3) := by decide +kernel
theorem dX4_newName_63 : decode cX4_newName 63 = .ok (.iconst 1, 1) := by decide +kernel
theorem dX4_newName_64 : decode cX4_newName 64 = .ok (.ireturn, 1) := by decide +kernel
theorem dX4_elementLine_0 : decode cX4_elementLine 0 = .ok (.aload_n 0, 1) := by decide +kernel
theorem dX4_elementLine_1 : decode cX4_elementLine 1 = .ok (.getfield 38, 3) := by decide +kernel
theorem dX4_elementLine_4 : decode cX4_elementLine 4 = .ok (.getfield 117, 3) := by decide +kernel
theorem dX4_elementLine_7 : decode cX4_elementLine 7 = .ok (.getfield 121, 3) := by decide +kernel
theorem dX4_elementLine_10 : decode cX4_elementLine 10 = .ok (.istore_n 1, 1) := by decide +kernel
theorem dX4_elementLine_11 : decode cX4_elementLine 11 = .ok (.aload_n 0, 1) := by decide +kernel
theorem dX4_elementLine_12 : decode cX4_elementLine 12 = .ok (.getfield 38, 3) := by decide +kernel
theorem dX4_elementLine_15 : decode cX4_elementLine 15 = .ok (.getfield 117, 3) := by decide +kernel
theorem dX4_elementLine_18 : decode cX4_elementLine 18 = .ok (.invokevirtual 122, 3) := by decide +kernel
theorem dX4_elementLine_21 : decode cX4_elementLine 21 = .ok (.ifCond .eq 8, 3) := by decide +kernel
theorem dX4_elementLine_24 : decode cX4_elementLine 24 = .ok (.aload_n 0, 1) := by decide +kernel
theorem dX4_elementLine_25 : decode cX4_elementLine 25 = .ok (.invokevirtual 74, 3) := by decide +kernel
theorem dX4_elementLine_28 : decode cX4_elementLine 28 = .ok (.ireturn, 1) := by decide +kernel
theorem dX4_elementLine_29 : decode cX4_elementLine 29 = .ok (.aload_n 0, 1) := by decide +kernel
theorem dX4_elementLine_30 : decode cX4_elementLine 30 = .ok (.invokevirtual 95, 3) := by decide +kernel
theorem dX4_elementLine_33 : decode cX4_elementLine 33 = .ok (.aload_n 0, 1) := by decide +kernel
theorem dX4_elementLine_34 : decode cX4_elementLine 34 = .ok (.aload_n 0, 1) := by decide +kernel
theorem dX4_elementLine_35 : decode cX4_elementLine 35 = .ok (.getfield 38, 3) := by decide +kernel
theorem dX4_elementLine_38 : decode cX4_elementLine 38 = .ok (.getfield 117, 3) := by decide +kernel
theorem dX4_elementLine_41 : decode cX4_elementLine 41 = .ok (.invokevirtual 125, 3) := by decide +kernel
theorem dX4_elementLine_44 : decode cX4_elementLine 44 = .ok (.ifCond .ne 5, 3) := by decide +kernel
theorem dX4_elementLine_47 : decode cX4_elementLine 47 = .ok (.iconst 0, 1) := by decide +kernel
theorem dX4_elementLine_48 : decode cX4_elementLine 48 = .ok (.ireturn, 1) := by decide +kernel
theorem dX4_elementLine_49 : decode cX4_elementLine 49 = .ok (.aload_n 0, 1) := by decide +kernel
theorem dX4_elementLine_50 : decode cX4_elementLine 50 = .ok (.ldc 129, 2) := by decide +kernel
theorem dX4_elementLine_52 : decode cX4_elementLine 52 = .ok (.invokevirtual 48, 3) := by decide +kernel
theorem dX4_elementLine_55 : decode cX4_elementLine 55 = .ok (.istore_n 2, 1) := by decide +kernel
theorem dX4_elementLine_56 : decode cX4_elementLine 56 = .ok (.iload_n 2, 1) := by decide +kernel
theorem dX4_elementLine_57 : decode cX4_elementLine 57 = .ok (.iconst (-1), 1) := by decide +kernel
theorem dX4_elementLine_58 : decode cX4_elementLine 58 = .ok (.if_icmp .ne 8, 3) := by decide +kernel
theorem dX4_elementLine_61 : decode cX4_elementLine 61 = .ok (.aload_n 0, 1) := by decide +kernel
theorem dX4_elementLine_62 : decode cX4_elementLine 62 = .ok (.invokevirtual 74, 3) := by decide +kernel
theorem dX4_elementLine_65 : decode cX4_elementLine 65 = .ok (.ireturn, 1) := by decide +kernel
theorem dX4_elementLine_66 : decode cX4_elementLine 66 = .ok (.aload_n 0, 1) := by decide +kernel
theorem dX4_elementLine_67 : decode cX4_elementLine 67 = .ok (.invokevirtual 95, 3) := by decide +kernel
theorem dX4_elementLine_70 : decode cX4_elementLine 70 = .ok (.aload_n 0, 1) := by decide +kernel
theorem dX4_elementLine_71 : decode cX4_elementLine 71 = .ok (.iconst 0, 1) := by decide +kernel
theorem dX4_elementLine_72 : decode cX4_elementLine 72 = .ok (.sipush 2000, 3) := by decide +kernel
theorem dX4_elementLine_75 : decode cX4_elementLine 75 = .ok (.invokevirtual 131, 3) := by decide +kernel
theorem dX4_elementLine_78 : decode cX4_elementLine 78 = .ok (.ifCond .ne 5, 3) := by decide +kernel
theorem dX4_elementLine_81 : decode cX4_elementLine 81 = .ok (.iconst 0, 1) := by decide +kernel
theorem dX4_elementLine_82 : decode cX4_elementLine 82 = .ok (.ireturn, 1) := by decide +kernel
theorem dX4_elementLine_83 : decode cX4_elementLine 83 = .ok (.aload_n 0, 1) := by decide +kernel
theorem dX4_elementLine_84 : decode cX4_elementLine 84 = .ok (.getfield 38, 3) := by decide +kernel
theorem dX4_elementLine_87 : decode cX4_elementLine 87 = .ok (.getfield 135, 3) := by decide +kernel
theorem dX4_elementLine_90 : decode cX4_elementLine 90 = .ok (.iload_n 1, 1) := by decide +kernel
theorem dX4_elementLine_91 : decode cX4_elementLine 91 = .ok (.iload_n 2, 1) := by decide +kernel
theorem dX4_elementLine_92 : decode cX4_elementLine 92 = .ok (.iastore, 1) := by decide +kernel
theorem dX4_elementLine_93 : decode cX4_elementLine 93 = .ok (.aload_n 0, 1) := by decide +kernel
theorem dX4_elementLine_94 : decode cX4_elementLine 94 = .ok (.getfield 38, 3) := by decide +kernel
theorem dX4_elementLine_97 : decode cX4_elementLine 97 = .ok (.getfield 138, 3) := by decide +kernel
theorem dX4_elementLine_100 : decode cX4_elementLine 100 = .ok (.iload_n 1, 1) := by decide +kernel
theorem dX4_elementLine_101 : decode cX4_elementLine 101 = .ok (.aload_n 0, 1) := by decide +kernel
theorem dX4_elementLine_102 : decode cX4_elementLine 102 = .ok (.getfield 24, 3) := by decide +kernel
theorem dX4_elementLine_105 : decode cX4_elementLine 105 = .ok (.iastore, 1) := by decide +kernel
theorem dX4_elementLine_106 : decode cX4_elementLine 106 = .ok (.iconst 1, 1) := by decide +kernel
theorem dX4_elementLine_107 : decode cX4_elementLine 107 = .ok (.ireturn, 1) := by decide +kernel
theorem dX4_judgesLine_0 : decode cX4_judgesLine 0 = .ok (.aload_n 0, 1) := by decide +kernel
theorem dX4_judgesLine_1 : decode cX4_judgesLine 1 = .ok (.getfield 30, 3) := by decide +kernel
theorem dX4_judgesLine_4 : decode cX4_judgesLine 4 = .ok (.ifCond .eq 8, 3) := by decide +kernel
theorem dX4_judgesLine_7 : decode cX4_judgesLine 7 = .ok (.aload_n 0, 1) := by decide +kernel
theorem dX4_judgesLine_8 : decode cX4_judgesLine 8 = .ok (.invokevirtual 74, 3) := by decide +kernel
theorem dX4_judgesLine_11 : decode cX4_judgesLine 11 = .ok (.ireturn, 1) := by decide +kernel
theorem dX4_judgesLine_12 : decode cX4_judgesLine 12 = .ok (.aload_n 0, 1) := by decide +kernel
theorem dX4_judgesLine_13 : decode cX4_judgesLine 13 = .ok (.invokevirtual 95, 3) := by decide +kernel
theorem dX4_judgesLine_16 : decode cX4_judgesLine 16 = .ok (.aload_n 0, 1) := by decide +kernel
theorem dX4_judgesLine_17 : decode cX4_judgesLine 17 = .ok (.iconst 1, 1) := by decide +kernel
theorem dX4_judgesLine_18 : decode cX4_judgesLine 18 = .ok (.bipush 9, 2) := by decide +kernel
theorem dX4_judgesLine_20 : decode cX4_judgesLine 20 = .ok (.invokevirtual 131, 3) := by decide +kernel
theorem dX4_judgesLine_23 : decode cX4_judgesLine 23 = .ok (.ifCond .ne 5, 3) := by decide +kernel
theorem dX4_judgesLine_26 : decode cX4_judgesLine 26 = .ok (.iconst 0, 1) := by decide +kernel
theorem dX4_judgesLine_27 : decode cX4_judgesLine 27 = .ok (.ireturn, 1) := by decide +kernel
theorem dX4_judgesLine_28 : decode cX4_judgesLine 28 = .ok (.aload_n 0, 1) := by decide +kernel
theorem dX4_judgesLine_29 : decode cX4_judgesLine 29 = .ok (.getfield 38, 3) := by decide +kernel
theorem dX4_judgesLine_32 : decode cX4_judgesLine 32 = .ok (.aload_n 0, 1) := by decide +kernel
theorem dX4_judgesLine_33 : decode cX4_judgesLine 33 = .ok (.getfield 24, 3) := by decide +kernel
theorem dX4_judgesLine_36 : decode cX4_judgesLine 36 = .ok (.putfield 141, 3) := by decide +kernel
theorem dX4_judgesLine_39 : decode cX4_judgesLine 39 = .ok (.iconst 1, 1) := by decide +kernel
theorem dX4_judgesLine_40 : decode cX4_judgesLine 40 = .ok (.ireturn, 1) := by decide +kernel
theorem dX4_settingLine_0 : decode cX4_settingLine 0 = .ok (.iload_n 1, 1) := by decide +kernel
theorem dX4_settingLine_1 : decode cX4_settingLine 1 = .ok (.iconst 4, 1) := by decide +kernel
theorem dX4_settingLine_2 : decode cX4_settingLine 2 = .ok (.if_icmp .ne 7, 3) := by decide +kernel
theorem dX4_settingLine_5 : decode cX4_settingLine 5 = .ok (.iconst 3, 1) := by decide +kernel
theorem dX4_settingLine_6 : decode cX4_settingLine 6 = .ok (.goto 4, 3) := by decide +kernel
theorem dX4_settingLine_9 : decode cX4_settingLine 9 = .ok (.iconst 1, 1) := by decide +kernel
theorem dX4_settingLine_10 : decode cX4_settingLine 10 = .ok (.istore_n 2, 1) := by decide +kernel
theorem dX4_settingLine_11 : decode cX4_settingLine 11 = .ok (.aload_n 0, 1) := by decide +kernel
theorem dX4_settingLine_12 : decode cX4_settingLine 12 = .ok (.invokevirtual 95, 3) := by decide +kernel
theorem dX4_settingLine_15 : decode cX4_settingLine 15 = .ok (.iload_n 1, 1) := by decide +kernel
theorem dX4_settingLine_16 : decode cX4_settingLine 16 = .ok (.istore_n 3, 1) := by decide +kernel
theorem dX4_settingLine_17 : decode cX4_settingLine 17 = .ok (.iload_n 3, 1) := by decide +kernel
theorem dX4_settingLine_18 : decode cX4_settingLine 18 = .ok (.iload_n 1, 1) := by decide +kernel
theorem dX4_settingLine_19 : decode cX4_settingLine 19 = .ok (.iload_n 2, 1) := by decide +kernel
theorem dX4_settingLine_20 : decode cX4_settingLine 20 = .ok (.iadd, 1) := by decide +kernel
theorem dX4_settingLine_21 : decode cX4_settingLine 21 = .ok (.if_icmp .ge 47, 3) := by decide +kernel
theorem dX4_settingLine_24 : decode cX4_settingLine 24 = .ok (.iload_n 3, 1) := by decide +kernel
theorem dX4_settingLine_25 : decode cX4_settingLine 25 = .ok (.bipush 7, 2) := by decide +kernel
theorem dX4_settingLine_27 : decode cX4_settingLine 27 = .ok (.if_icmp .ge 41, 3) := by decide +kernel
theorem dX4_settingLine_30 : decode cX4_settingLine 30 = .ok (.aload_n 0, 1) := by decide +kernel
theorem dX4_settingLine_31 : decode cX4_settingLine 31 = .ok (.getstatic 144, 3) := by decide +kernel
theorem dX4_settingLine_34 : decode cX4_settingLine 34 = .ok (.iload_n 3, 1) := by decide +kernel
theorem dX4_settingLine_35 : decode cX4_settingLine 35 = .ok (.iaload, 1) := by decide +kernel
theorem dX4_settingLine_36 : decode cX4_settingLine 36 = .ok (.getstatic 147, 3) := by decide +kernel
theorem dX4_settingLine_39 : decode cX4_settingLine 39 = .ok (.iload_n 3, 1) := by decide +kernel
theorem dX4_settingLine_40 : decode cX4_settingLine 40 = .ok (.iaload, 1) := by decide +kernel
theorem dX4_settingLine_41 : decode cX4_settingLine 41 = .ok (.invokevirtual 131, 3) := by decide +kernel
theorem dX4_settingLine_44 : decode cX4_settingLine 44 = .ok (.ifCond .ne 5, 3) := by decide +kernel
theorem dX4_settingLine_47 : decode cX4_settingLine 47 = .ok (.iconst 0, 1) := by decide +kernel
theorem dX4_settingLine_48 : decode cX4_settingLine 48 = .ok (.ireturn, 1) := by decide +kernel
theorem dX4_settingLine_49 : decode cX4_settingLine 49 = .ok (.aload_n 0, 1) := by decide +kernel
theorem dX4_settingLine_50 : decode cX4_settingLine 50 = .ok (.getfield 38, 3) := by decide +kernel
theorem dX4_settingLine_53 : decode cX4_settingLine 53 = .ok (.getfield 150, 3) := by decide +kernel
theorem dX4_settingLine_56 : decode cX4_settingLine 56 = .ok (.iload_n 3, 1) := by decide +kernel
theorem dX4_settingLine_57 : decode cX4_settingLine 57 = .ok (.aload_n 0, 1) := by decide +kernel
theorem dX4_settingLine_58 : decode cX4_settingLine 58 = .ok (.getfield 24, 3) := by decide +kernel
theorem dX4_settingLine_61 : decode cX4_settingLine 61 = .ok (.iastore, 1) := by decide +kernel
theorem dX4_settingLine_62 : decode cX4_settingLine 62 = .ok (.iinc 3 1, 3) := by decide +kernel
theorem dX4_settingLine_65 : decode cX4_settingLine 65 = .ok (.goto (-48), 3) := by decide +kernel
theorem dX4_settingLine_68 : decode cX4_settingLine 68 = .ok (.iconst 1, 1) := by decide +kernel
theorem dX4_settingLine_69 : decode cX4_settingLine 69 = .ok (.ireturn, 1) := by decide +kernel
theorem dX4_skaterLine_0 : decode cX4_skaterLine 0 = .ok (.aload_n 0, 1) := by decide +kernel
theorem dX4_skaterLine_1 : decode cX4_skaterLine 1 = .ok (.getfield 38, 3) := by decide +kernel
theorem dX4_skaterLine_4 : decode cX4_skaterLine 4 = .ok (.getfield 153, 3) := by decide +kernel
theorem dX4_skaterLine_7 : decode cX4_skaterLine 7 = .ok (.invokevirtual 122, 3) := by decide +kernel
theorem dX4_skaterLine_10 : decode cX4_skaterLine 10 = .ok (.ifCond .eq 8, 3) := by decide +kernel
theorem dX4_skaterLine_13 : decode cX4_skaterLine 13 = .ok (.aload_n 0, 1) := by decide +kernel
theorem dX4_skaterLine_14 : decode cX4_skaterLine 14 = .ok (.invokevirtual 74, 3) := by decide +kernel
theorem dX4_skaterLine_17 : decode cX4_skaterLine 17 = .ok (.ireturn, 1) := by decide +kernel
theorem dX4_skaterLine_18 : decode cX4_skaterLine 18 = .ok (.aload_n 0, 1) := by decide +kernel
theorem dX4_skaterLine_19 : decode cX4_skaterLine 19 = .ok (.invokevirtual 95, 3) := by decide +kernel
theorem dX4_skaterLine_22 : decode cX4_skaterLine 22 = .ok (.aload_n 0, 1) := by decide +kernel
theorem dX4_skaterLine_23 : decode cX4_skaterLine 23 = .ok (.aload_n 0, 1) := by decide +kernel
theorem dX4_skaterLine_24 : decode cX4_skaterLine 24 = .ok (.getfield 38, 3) := by decide +kernel
theorem dX4_skaterLine_27 : decode cX4_skaterLine 27 = .ok (.getfield 153, 3) := by decide +kernel
theorem dX4_skaterLine_30 : decode cX4_skaterLine 30 = .ok (.invokevirtual 125, 3) := by decide +kernel
theorem dX4_skaterLine_33 : decode cX4_skaterLine 33 = .ok (.ireturn, 1) := by decide +kernel
theorem dX4_lastsLine_0 : decode cX4_lastsLine 0 = .ok (.aload_n 0, 1) := by decide +kernel
theorem dX4_lastsLine_1 : decode cX4_lastsLine 1 = .ok (.getfield 38, 3) := by decide +kernel
theorem dX4_lastsLine_4 : decode cX4_lastsLine 4 = .ok (.getfield 153, 3) := by decide +kernel
theorem dX4_lastsLine_7 : decode cX4_lastsLine 7 = .ok (.getfield 121, 3) := by decide +kernel
theorem dX4_lastsLine_10 : decode cX4_lastsLine 10 = .ok (.iconst 1, 1) := by decide +kernel
theorem dX4_lastsLine_11 : decode cX4_lastsLine 11 = .ok (.isub, 1) := by decide +kernel
theorem dX4_lastsLine_12 : decode cX4_lastsLine 12 = .ok (.istore_n 1, 1) := by decide +kernel
theorem dX4_lastsLine_13 : decode cX4_lastsLine 13 = .ok (.iload_n 1, 1) := by decide +kernel
theorem dX4_lastsLine_14 : decode cX4_lastsLine 14 = .ok (.ifCond .ge 8, 3) := by decide +kernel
theorem dX4_lastsLine_17 : decode cX4_lastsLine 17 = .ok (.aload_n 0, 1) := by decide +kernel
theorem dX4_lastsLine_18 : decode cX4_lastsLine 18 = .ok (.invokevirtual 74, 3) := by decide +kernel
theorem dX4_lastsLine_21 : decode cX4_lastsLine 21 = .ok (.ireturn, 1) := by decide +kernel
theorem dX4_lastsLine_22 : decode cX4_lastsLine 22 = .ok (.aload_n 0, 1) := by decide +kernel
theorem dX4_lastsLine_23 : decode cX4_lastsLine 23 = .ok (.invokevirtual 95, 3) := by decide +kernel
theorem dX4_lastsLine_26 : decode cX4_lastsLine 26 = .ok (.aload_n 0, 1) := by decide +kernel
theorem dX4_lastsLine_27 : decode cX4_lastsLine 27 = .ok (.iconst 0, 1) := by decide +kernel
theorem dX4_lastsLine_28 : decode cX4_lastsLine 28 = .ok (.sipush 600, 3) := by decide +kernel
theorem dX4_lastsLine_31 : decode cX4_lastsLine 31 = .ok (.invokevirtual 131, 3) := by decide +kernel
theorem dX4_lastsLine_34 : decode cX4_lastsLine 34 = .ok (.ifCond .ne 5, 3) := by decide +kernel
theorem dX4_lastsLine_37 : decode cX4_lastsLine 37 = .ok (.iconst 0, 1) := by decide +kernel
theorem dX4_lastsLine_38 : decode cX4_lastsLine 38 = .ok (.ireturn, 1) := by decide +kernel
theorem dX4_lastsLine_39 : decode cX4_lastsLine 39 = .ok (.aload_n 0, 1) := by decide +kernel
theorem dX4_lastsLine_40 : decode cX4_lastsLine 40 = .ok (.getfield 38, 3) := by decide +kernel
theorem dX4_lastsLine_43 : decode cX4_lastsLine 43 = .ok (.getfield 156, 3) := by decide +kernel
theorem dX4_lastsLine_46 : decode cX4_lastsLine 46 = .ok (.iload_n 1, 1) := by decide +kernel
theorem dX4_lastsLine_47 : decode cX4_lastsLine 47 = .ok (.aaload, 1) := by decide +kernel
theorem dX4_lastsLine_48 : decode cX4_lastsLine 48 = .ok (.aload_n 0, 1) := by decide +kernel
theorem dX4_lastsLine_49 : decode cX4_lastsLine 49 = .ok (.getfield 24, 3) := by decide +kernel
theorem dX4_lastsLine_52 : decode cX4_lastsLine 52 = .ok (.putfield 160, 3) := by decide +kernel
theorem dX4_lastsLine_55 : decode cX4_lastsLine 55 = .ok (.iconst 1, 1) := by decide +kernel
theorem dX4_lastsLine_56 : decode cX4_lastsLine 56 = .ok (.ireturn, 1) := by decide +kernel
theorem dX4_showLine_0 : decode cX4_showLine 0 = .ok (.aload_n 0, 1) := by decide +kernel
theorem dX4_showLine_1 : decode cX4_showLine 1 = .ok (.getfield 38, 3) := by decide +kernel
theorem dX4_showLine_4 : decode cX4_showLine 4 = .ok (.getfield 153, 3) := by decide +kernel
theorem dX4_showLine_7 : decode cX4_showLine 7 = .ok (.getfield 121, 3) := by decide +kernel
theorem dX4_showLine_10 : decode cX4_showLine 10 = .ok (.iconst 1, 1) := by decide +kernel
theorem dX4_showLine_11 : decode cX4_showLine 11 = .ok (.isub, 1) := by decide +kernel
theorem dX4_showLine_12 : decode cX4_showLine 12 = .ok (.istore_n 1, 1) := by decide +kernel
theorem dX4_showLine_13 : decode cX4_showLine 13 = .ok (.iload_n 1, 1) := by decide +kernel
theorem dX4_showLine_14 : decode cX4_showLine 14 = .ok (.ifCond .ge 8, 3) := by decide +kernel
theorem dX4_showLine_17 : decode cX4_showLine 17 = .ok (.aload_n 0, 1) := by decide +kernel
theorem dX4_showLine_18 : decode cX4_showLine 18 = .ok (.invokevirtual 74, 3) := by decide +kernel
theorem dX4_showLine_21 : decode cX4_showLine 21 = .ok (.ireturn, 1) := by decide +kernel
theorem dX4_showLine_22 : decode cX4_showLine 22 = .ok (.aload_n 0, 1) := by decide +kernel
theorem dX4_showLine_23 : decode cX4_showLine 23 = .ok (.iconst 1, 1) := by decide +kernel
theorem dX4_showLine_24 : decode cX4_showLine 24 = .ok (.putfield 30, 3) := by decide +kernel
theorem dX4_showLine_27 : decode cX4_showLine 27 = .ok (.aload_n 0, 1) := by decide +kernel
theorem dX4_showLine_28 : decode cX4_showLine 28 = .ok (.invokevirtual 95, 3) := by decide +kernel
theorem dX4_showLine_31 : decode cX4_showLine 31 = .ok (.iconst 0, 1) := by decide +kernel
theorem dX4_showLine_32 : decode cX4_showLine 32 = .ok (.istore_n 2, 1) := by decide +kernel
theorem dX4_showLine_33 : decode cX4_showLine 33 = .ok (.iload_n 2, 1) := by decide +kernel
theorem dX4_showLine_34 : decode cX4_showLine 34 = .ok (.iconst 3, 1) := by decide +kernel
theorem dX4_showLine_35 : decode cX4_showLine 35 = .ok (.if_icmp .ge 32, 3) := by decide +kernel
theorem dX4_showLine_38 : decode cX4_showLine 38 = .ok (.aload_n 0, 1) := by decide +kernel
theorem dX4_showLine_39 : decode cX4_showLine 39 = .ok (.aload_n 0, 1) := by decide +kernel
theorem dX4_showLine_40 : decode cX4_showLine 40 = .ok (.getfield 38, 3) := by decide +kernel
theorem dX4_showLine_43 : decode cX4_showLine 43 = .ok (.getfield 156, 3) := by decide +kernel
theorem dX4_showLine_46 : decode cX4_showLine 46 = .ok (.iload_n 1, 1) := by decide +kernel
theorem dX4_showLine_47 : decode cX4_showLine 47 = .ok (.aaload, 1) := by decide +kernel
theorem dX4_showLine_48 : decode cX4_showLine 48 = .ok (.bipush 12, 2) := by decide +kernel
theorem dX4_showLine_50 : decode cX4_showLine 50 = .ok (.iload_n 2, 1) := by decide +kernel
theorem dX4_showLine_51 : decode cX4_showLine 51 = .ok (.iadd, 1) := by decide +kernel
theorem dX4_showLine_52 : decode cX4_showLine 52 = .ok (.iconst 0, 1) := by decide +kernel
theorem dX4_showLine_53 : decode cX4_showLine 53 = .ok (.invokevirtual 165, 3) := by decide +kernel
theorem dX4_showLine_56 : decode cX4_showLine 56 = .ok (.ifCond .ne 5, 3) := by decide +kernel
theorem dX4_showLine_59 : decode cX4_showLine 59 = .ok (.iconst 0, 1) := by decide +kernel
theorem dX4_showLine_60 : decode cX4_showLine 60 = .ok (.ireturn, 1) := by decide +kernel
theorem dX4_showLine_61 : decode cX4_showLine 61 = .ok (.iinc 2 1, 3) := by decide +kernel
theorem dX4_showLine_64 : decode cX4_showLine 64 = .ok (.goto (-31), 3) := by decide +kernel
theorem dX4_showLine_67 : decode cX4_showLine 67 = .ok (.iconst 1, 1) := by decide +kernel
theorem dX4_showLine_68 : decode cX4_showLine 68 = .ok (.ireturn, 1) := by decide +kernel
theorem dX4_doLine_0 : decode cX4_doLine 0 = .ok (.aload_n 0, 1) := by decide +kernel
theorem dX4_doLine_1 : decode cX4_doLine 1 = .ok (.getfield 38, 3) := by decide +kernel
theorem dX4_doLine_4 : decode cX4_doLine 4 = .ok (.getfield 153, 3) := by decide +kernel
theorem dX4_doLine_7 : decode cX4_doLine 7 = .ok (.getfield 121, 3) := by decide +kernel
theorem dX4_doLine_10 : decode cX4_doLine 10 = .ok (.iconst 1, 1) := by decide +kernel
theorem dX4_doLine_11 : decode cX4_doLine 11 = .ok (.isub, 1) := by decide +kernel
theorem dX4_doLine_12 : decode cX4_doLine 12 = .ok (.istore_n 1, 1) := by decide +kernel
theorem dX4_doLine_13 : decode cX4_doLine 13 = .ok (.iload_n 1, 1) := by decide +kernel
theorem dX4_doLine_14 : decode cX4_doLine 14 = .ok (.ifCond .lt 20, 3) := by decide +kernel
theorem dX4_doLine_17 : decode cX4_doLine 17 = .ok (.aload_n 0, 1) := by decide +kernel
theorem dX4_doLine_18 : decode cX4_doLine 18 = .ok (.getfield 38, 3) := by decide +kernel
theorem dX4_doLine_21 : decode cX4_doLine 21 = .ok (.getfield 156, 3) := by decide +kernel
theorem dX4_doLine_24 : decode cX4_doLine 24 = .ok (.iload_n 1, 1) := by decide +kernel
theorem dX4_doLine_25 : decode cX4_doLine 25 = .ok (.aaload, 1) := by decide +kernel
theorem dX4_doLine_26 : decode cX4_doLine 26 = .ok (.getfield 169, 3) := by decide +kernel
theorem dX4_doLine_29 : decode cX4_doLine 29 = .ok (.bipush 12, 2) := by decide +kernel
theorem dX4_doLine_31 : decode cX4_doLine 31 = .ok (.if_icmp .lt 8, 3) := by decide +kernel
theorem dX4_doLine_34 : decode cX4_doLine 34 = .ok (.aload_n 0, 1) := by decide +kernel
theorem dX4_doLine_35 : decode cX4_doLine 35 = .ok (.invokevirtual 74, 3) := by decide +kernel
theorem dX4_doLine_38 : decode cX4_doLine 38 = .ok (.ireturn, 1) := by decide +kernel
theorem dX4_doLine_39 : decode cX4_doLine 39 = .ok (.aload_n 0, 1) := by decide +kernel
theorem dX4_doLine_40 : decode cX4_doLine 40 = .ok (.iconst 1, 1) := by decide +kernel
theorem dX4_doLine_41 : decode cX4_doLine 41 = .ok (.putfield 30, 3) := by decide +kernel
theorem dX4_doLine_44 : decode cX4_doLine 44 = .ok (.aload_n 0, 1) := by decide +kernel
theorem dX4_doLine_45 : decode cX4_doLine 45 = .ok (.getfield 38, 3) := by decide +kernel
theorem dX4_doLine_48 : decode cX4_doLine 48 = .ok (.getfield 156, 3) := by decide +kernel
theorem dX4_doLine_51 : decode cX4_doLine 51 = .ok (.iload_n 1, 1) := by decide +kernel
theorem dX4_doLine_52 : decode cX4_doLine 52 = .ok (.aaload, 1) := by decide +kernel
theorem dX4_doLine_53 : decode cX4_doLine 53 = .ok (.astore_n 2, 1) := by decide +kernel
theorem dX4_doLine_54 : decode cX4_doLine 54 = .ok (.aload_n 2, 1) := by decide +kernel
theorem dX4_doLine_55 : decode cX4_doLine 55 = .ok (.getfield 169, 3) := by decide +kernel
theorem dX4_doLine_58 : decode cX4_doLine 58 = .ok (.istore_n 3, 1) := by decide +kernel
theorem dX4_doLine_59 : decode cX4_doLine 59 = .ok (.aload_n 0, 1) := by decide +kernel
theorem dX4_doLine_60 : decode cX4_doLine 60 = .ok (.invokevirtual 95, 3) := by decide +kernel
theorem dX4_doLine_63 : decode cX4_doLine 63 = .ok (.aload_n 0, 1) := by decide +kernel
theorem dX4_doLine_64 : decode cX4_doLine 64 = .ok (.aload_n 2, 1) := by decide +kernel
theorem dX4_doLine_65 : decode cX4_doLine 65 = .ok (.iload_n 3, 1) := by decide +kernel
theorem dX4_doLine_66 : decode cX4_doLine 66 = .ok (.invokevirtual 172, 3) := by decide +kernel
theorem dX4_doLine_69 : decode cX4_doLine 69 = .ok (.ifCond .eq 29, 3) := by decide +kernel
theorem dX4_doLine_72 : decode cX4_doLine 72 = .ok (.aload_n 0, 1) := by decide +kernel
theorem dX4_doLine_73 : decode cX4_doLine 73 = .ok (.iload_n 3, 1) := by decide +kernel
theorem dX4_doLine_74 : decode cX4_doLine 74 = .ok (.ifCond .le 14, 3) := by decide +kernel
theorem dX4_doLine_77 : decode cX4_doLine 77 = .ok (.aload_n 2, 1) := by decide +kernel
theorem dX4_doLine_78 : decode cX4_doLine 78 = .ok (.getfield 176, 3) := by decide +kernel
theorem dX4_doLine_81 : decode cX4_doLine 81 = .ok (.iload_n 3, 1) := by decide +kernel
theorem dX4_doLine_82 : decode cX4_doLine 82 = .ok (.iconst 1, 1) := by decide +kernel
theorem dX4_doLine_83 : decode cX4_doLine 83 = .ok (.isub, 1) := by decide +kernel
theorem dX4_doLine_84 : decode cX4_doLine 84 = .ok (.iaload, 1) := by decide +kernel
theorem dX4_doLine_85 : decode cX4_doLine 85 = .ok (.goto 4, 3) := by decide +kernel
theorem dX4_doLine_88 : decode cX4_doLine 88 = .ok (.iconst 0, 1) := by decide +kernel
theorem dX4_doLine_89 : decode cX4_doLine 89 = .ok (.sipush 600, 3) := by decide +kernel
theorem dX4_doLine_92 : decode cX4_doLine 92 = .ok (.invokevirtual 131, 3) := by decide +kernel
theorem dX4_doLine_95 : decode cX4_doLine 95 = .ok (.ifCond .ne 5, 3) := by decide +kernel
theorem dX4_doLine_98 : decode cX4_doLine 98 = .ok (.iconst 0, 1) := by decide +kernel
theorem dX4_doLine_99 : decode cX4_doLine 99 = .ok (.ireturn, 1) := by decide +kernel
theorem dX4_doLine_100 : decode cX4_doLine 100 = .ok (.aload_n 2, 1) := by decide +kernel
theorem dX4_doLine_101 : decode cX4_doLine 101 = .ok (.getfield 176, 3) := by decide +kernel
theorem dX4_doLine_104 : decode cX4_doLine 104 = .ok (.iload_n 3, 1) := by decide +kernel
theorem dX4_doLine_105 : decode cX4_doLine 105 = .ok (.aload_n 0, 1) := by decide +kernel
theorem dX4_doLine_106 : decode cX4_doLine 106 = .ok (.getfield 24, 3) := by decide +kernel
theorem dX4_doLine_109 : decode cX4_doLine 109 = .ok (.iastore, 1) := by decide +kernel
theorem dX4_doLine_110 : decode cX4_doLine 110 = .ok (.aload_n 0, 1) := by decide +kernel
theorem dX4_doLine_111 : decode cX4_doLine 111 = .ok (.aload_n 2, 1) := by decide +kernel
theorem dX4_doLine_112 : decode cX4_doLine 112 = .ok (.iload_n 3, 1) := by decide +kernel
theorem dX4_doLine_113 : decode cX4_doLine 113 = .ok (.bipush (-5), 2) := by decide +kernel
theorem dX4_doLine_115 : decode cX4_doLine 115 = .ok (.invokevirtual 165, 3) := by decide +kernel
theorem dX4_doLine_118 : decode cX4_doLine 118 = .ok (.ifCond .eq 12, 3) := by decide +kernel
theorem dX4_doLine_121 : decode cX4_doLine 121 = .ok (.aload_n 0, 1) := by decide +kernel
theorem dX4_doLine_122 : decode cX4_doLine 122 = .ok (.aload_n 2, 1) := by decide +kernel
theorem dX4_doLine_123 : decode cX4_doLine 123 = .ok (.iload_n 3, 1) := by decide +kernel
theorem dX4_doLine_124 : decode cX4_doLine 124 = .ok (.invokevirtual 179, 3) := by decide +kernel
theorem dX4_doLine_127 : decode cX4_doLine 127 = .ok (.ifCond .ne 5, 3) := by decide +kernel
theorem dX4_doLine_130 : decode cX4_doLine 130 = .ok (.iconst 0, 1) := by decide +kernel
theorem dX4_doLine_131 : decode cX4_doLine 131 = .ok (.ireturn, 1) := by decide +kernel
theorem dX4_doLine_132 : decode cX4_doLine 132 = .ok (.aload_n 2, 1) := by decide +kernel
theorem dX4_doLine_133 : decode cX4_doLine 133 = .ok (.dup, 1) := by decide +kernel
theorem dX4_doLine_134 : decode cX4_doLine 134 = .ok (.getfield 169, 3) := by decide +kernel
theorem dX4_doLine_137 : decode cX4_doLine 137 = .ok (.iconst 1, 1) := by decide +kernel
theorem dX4_doLine_138 : decode cX4_doLine 138 = .ok (.iadd, 1) := by decide +kernel
theorem dX4_doLine_139 : decode cX4_doLine 139 = .ok (.putfield 169, 3) := by decide +kernel
theorem dX4_doLine_142 : decode cX4_doLine 142 = .ok (.iconst 1, 1) := by decide +kernel
theorem dX4_doLine_143 : decode cX4_doLine 143 = .ok (.ireturn, 1) := by decide +kernel
theorem dX4_elements_0 : decode cX4_elements 0 = .ok (.iconst 0, 1) := by decide +kernel
theorem dX4_elements_1 : decode cX4_elements 1 = .ok (.istore_n 3, 1) := by decide +kernel
theorem dX4_elements_2 : decode cX4_elements 2 = .ok (.iload_n 3, 1) := by decide +kernel
theorem dX4_elements_3 : decode cX4_elements 3 = .ok (.iconst 3, 1) := by decide +kernel
theorem dX4_elements_4 : decode cX4_elements 4 = .ok (.if_icmp .ge 139, 3) := by decide +kernel
theorem dX4_elements_7 : decode cX4_elements 7 = .ok (.aload_n 0, 1) := by decide +kernel
theorem dX4_elements_8 : decode cX4_elements 8 = .ok (.getfield 15, 3) := by decide +kernel
theorem dX4_elements_11 : decode cX4_elements 11 = .ok (.bipush 97, 2) := by decide +kernel
theorem dX4_elements_13 : decode cX4_elements 13 = .ok (.if_icmp .ne 28, 3) := by decide +kernel
theorem dX4_elements_16 : decode cX4_elements 16 = .ok (.aload_n 0, 1) := by decide +kernel
theorem dX4_elements_17 : decode cX4_elements 17 = .ok (.getfield 38, 3) := by decide +kernel
theorem dX4_elements_20 : decode cX4_elements 20 = .ok (.getfield 117, 3) := by decide +kernel
theorem dX4_elements_23 : decode cX4_elements 23 = .ok (.aload_n 0, 1) := by decide +kernel
theorem dX4_elements_24 : decode cX4_elements 24 = .ok (.getfield 34, 3) := by decide +kernel
theorem dX4_elements_27 : decode cX4_elements 27 = .ok (.aload_n 0, 1) := by decide +kernel
theorem dX4_elements_28 : decode cX4_elements 28 = .ok (.getfield 18, 3) := by decide +kernel
theorem dX4_elements_31 : decode cX4_elements 31 = .ok (.aload_n 0, 1) := by decide +kernel
theorem dX4_elements_32 : decode cX4_elements 32 = .ok (.getfield 21, 3) := by decide +kernel
theorem dX4_elements_35 : decode cX4_elements 35 = .ok (.invokevirtual 107, 3) := by decide +kernel
theorem dX4_elements_38 : decode cX4_elements 38 = .ok (.goto 4, 3) := by decide +kernel
theorem dX4_elements_41 : decode cX4_elements 41 = .ok (.iconst (-1), 1) := by decide +kernel
theorem dX4_elements_42 : decode cX4_elements 42 = .ok (.istore 4, 2) := by decide +kernel
theorem dX4_elements_44 : decode cX4_elements 44 = .ok (.iload 4, 2) := by decide +kernel
theorem dX4_elements_46 : decode cX4_elements 46 = .ok (.iconst (-1), 1) := by decide +kernel
theorem dX4_elements_47 : decode cX4_elements 47 = .ok (.if_icmp .eq 20, 3) := by decide +kernel
theorem dX4_elements_50 : decode cX4_elements 50 = .ok (.iload_n 3, 1) := by decide +kernel
theorem dX4_elements_51 : decode cX4_elements 51 = .ok (.ifCond .le 21, 3) := by decide +kernel
theorem dX4_elements_54 : decode cX4_elements 54 = .ok (.aload_n 0, 1) := by decide +kernel
theorem dX4_elements_55 : decode cX4_elements 55 = .ok (.getfield 38, 3) := by decide +kernel
theorem dX4_elements_58 : decode cX4_elements 58 = .ok (.getfield 135, 3) := by decide +kernel
theorem dX4_elements_61 : decode cX4_elements 61 = .ok (.iload 4, 2) := by decide +kernel
theorem dX4_elements_63 : decode cX4_elements 63 = .ok (.iaload, 1) := by decide +kernel
theorem dX4_elements_64 : decode cX4_elements 64 = .ok (.ifCond .eq 8, 3) := by decide +kernel
theorem dX4_elements_67 : decode cX4_elements 67 = .ok (.aload_n 0, 1) := by decide +kernel
theorem dX4_elements_68 : decode cX4_elements 68 = .ok (.invokevirtual 74, 3) := by decide +kernel
theorem dX4_elements_71 : decode cX4_elements 71 = .ok (.ireturn, 1) := by decide +kernel
theorem dX4_elements_72 : decode cX4_elements 72 = .ok (.aload_n 1, 1) := by decide +kernel
theorem dX4_elements_73 : decode cX4_elements 73 = .ok (.getfield 182, 3) := by decide +kernel
theorem dX4_elements_76 : decode cX4_elements 76 = .ok (.iload_n 2, 1) := by decide +kernel
theorem dX4_elements_77 : decode cX4_elements 77 = .ok (.iconst 3, 1) := by decide +kernel
theorem dX4_elements_78 : decode cX4_elements 78 = .ok (.imul, 1) := by decide +kernel
theorem dX4_elements_79 : decode cX4_elements 79 = .ok (.iload_n 3, 1) := by decide +kernel
theorem dX4_elements_80 : decode cX4_elements 80 = .ok (.iadd, 1) := by decide +kernel
theorem dX4_elements_81 : decode cX4_elements 81 = .ok (.iload 4, 2) := by decide +kernel
theorem dX4_elements_83 : decode cX4_elements 83 = .ok (.iastore, 1) := by decide +kernel
theorem dX4_elements_84 : decode cX4_elements 84 = .ok (.aload_n 1, 1) := by decide +kernel
theorem dX4_elements_85 : decode cX4_elements 85 = .ok (.getfield 184, 3) := by decide +kernel
theorem dX4_elements_88 : decode cX4_elements 88 = .ok (.iload_n 2, 1) := by decide +kernel
theorem dX4_elements_89 : decode cX4_elements 89 = .ok (.iload_n 3, 1) := by decide +kernel
theorem dX4_elements_90 : decode cX4_elements 90 = .ok (.iconst 1, 1) := by decide +kernel
theorem dX4_elements_91 : decode cX4_elements 91 = .ok (.iadd, 1) := by decide +kernel
theorem dX4_elements_92 : decode cX4_elements 92 = .ok (.iastore, 1) := by decide +kernel
theorem dX4_elements_93 : decode cX4_elements 93 = .ok (.aload_n 0, 1) := by decide +kernel
theorem dX4_elements_94 : decode cX4_elements 94 = .ok (.invokevirtual 95, 3) := by decide +kernel
theorem dX4_elements_97 : decode cX4_elements 97 = .ok (.aload_n 0, 1) := by decide +kernel
theorem dX4_elements_98 : decode cX4_elements 98 = .ok (.getfield 15, 3) := by decide +kernel
theorem dX4_elements_101 : decode cX4_elements 101 = .ok (.bipush 43, 2) := by decide +kernel
theorem dX4_elements_103 : decode cX4_elements 103 = .ok (.if_icmp .eq 5, 3) := by decide +kernel
theorem dX4_elements_106 : decode cX4_elements 106 = .ok (.iconst 1, 1) := by decide +kernel
theorem dX4_elements_107 : decode cX4_elements 107 = .ok (.ireturn, 1) := by decide +kernel
theorem dX4_elements_108 : decode cX4_elements 108 = .ok (.aload_n 0, 1) := by decide +kernel
theorem dX4_elements_109 : decode cX4_elements 109 = .ok (.getfield 38, 3) := by decide +kernel
theorem dX4_elements_112 : decode cX4_elements 112 = .ok (.getfield 135, 3) := by decide +kernel
theorem dX4_elements_115 : decode cX4_elements 115 = .ok (.iload 4, 2) := by decide +kernel
theorem dX4_elements_117 : decode cX4_elements 117 = .ok (.iaload, 1) := by decide +kernel
theorem dX4_elements_118 : decode cX4_elements 118 = .ok (.ifCond .ne 10, 3) := by decide +kernel
theorem dX4_elements_121 : decode cX4_elements 121 = .ok (.iload_n 3, 1) := by decide +kernel
theorem dX4_elements_122 : decode cX4_elements 122 = .ok (.iconst 1, 1) := by decide +kernel
theorem dX4_elements_123 : decode cX4_elements 123 = .ok (.iadd, 1) := by decide +kernel
theorem dX4_elements_124 : decode cX4_elements 124 = .ok (.iconst 3, 1) := by decide +kernel
theorem dX4_elements_125 : decode cX4_elements 125 = .ok (.if_icmp .lt 8, 3) := by decide +kernel
theorem dX4_elements_128 : decode cX4_elements 128 = .ok (.aload_n 0, 1) := by decide +kernel
theorem dX4_elements_129 : decode cX4_elements 129 = .ok (.invokevirtual 74, 3) := by decide +kernel
theorem dX4_elements_132 : decode cX4_elements 132 = .ok (.ireturn, 1) := by decide +kernel
theorem dX4_elements_133 : decode cX4_elements 133 = .ok (.aload_n 0, 1) := by decide +kernel
theorem dX4_elements_134 : decode cX4_elements 134 = .ok (.invokevirtual 95, 3) := by decide +kernel
theorem dX4_elements_137 : decode cX4_elements 137 = .ok (.iinc 3 1, 3) := by decide +kernel
theorem dX4_elements_140 : decode cX4_elements 140 = .ok (.goto (-138), 3) := by decide +kernel
theorem dX4_elements_143 : decode cX4_elements 143 = .ok (.aload_n 0, 1) := by decide +kernel
theorem dX4_elements_144 : decode cX4_elements 144 = .ok (.invokevirtual 74, 3) := by decide +kernel
theorem dX4_elements_147 : decode cX4_elements 147 = .ok (.ireturn, 1) := by decide +kernel
theorem dX4_votes_0 : decode cX4_votes 0 = .ok (.aload_n 0, 1) := by decide +kernel
theorem dX4_votes_1 : decode cX4_votes 1 = .ok (.getfield 15, 3) := by decide +kernel
theorem dX4_votes_4 : decode cX4_votes 4 = .ok (.bipush 97, 2) := by decide +kernel
theorem dX4_votes_6 : decode cX4_votes 6 = .ok (.if_icmp .ne 17, 3) := by decide +kernel
theorem dX4_votes_9 : decode cX4_votes 9 = .ok (.aload_n 0, 1) := by decide +kernel
theorem dX4_votes_10 : decode cX4_votes 10 = .ok (.getfield 21, 3) := by decide +kernel
theorem dX4_votes_13 : decode cX4_votes 13 = .ok (.aload_n 0, 1) := by decide +kernel
theorem dX4_votes_14 : decode cX4_votes 14 = .ok (.getfield 38, 3) := by decide +kernel
theorem dX4_votes_17 : decode cX4_votes 17 = .ok (.getfield 141, 3) := by decide +kernel
theorem dX4_votes_20 : decode cX4_votes 20 = .ok (.if_icmp .eq 8, 3) := by decide +kernel
theorem dX4_votes_23 : decode cX4_votes 23 = .ok (.aload_n 0, 1) := by decide +kernel
theorem dX4_votes_24 : decode cX4_votes 24 = .ok (.invokevirtual 74, 3) := by decide +kernel
theorem dX4_votes_27 : decode cX4_votes 27 = .ok (.ireturn, 1) := by decide +kernel
theorem dX4_votes_28 : decode cX4_votes 28 = .ok (.iconst 0, 1) := by decide +kernel
theorem dX4_votes_29 : decode cX4_votes 29 = .ok (.istore 4, 2) := by decide +kernel
theorem dX4_votes_31 : decode cX4_votes 31 = .ok (.iload 4, 2) := by decide +kernel
theorem dX4_votes_33 : decode cX4_votes 33 = .ok (.aload_n 0, 1) := by decide +kernel
theorem dX4_votes_34 : decode cX4_votes 34 = .ok (.getfield 21, 3) := by decide +kernel
theorem dX4_votes_37 : decode cX4_votes 37 = .ok (.if_icmp .ge 61, 3) := by decide +kernel
theorem dX4_votes_40 : decode cX4_votes 40 = .ok (.iload 4, 2) := by decide +kernel
theorem dX4_votes_42 : decode cX4_votes 42 = .ok (.bipush 9, 2) := by decide +kernel
theorem dX4_votes_44 : decode cX4_votes 44 = .ok (.if_icmp .ge 54, 3) := by decide +kernel
theorem dX4_votes_47 : decode cX4_votes 47 = .ok (.aload_n 0, 1) := by decide +kernel
theorem dX4_votes_48 : decode cX4_votes 48 = .ok (.getfield 34, 3) := by decide +kernel
theorem dX4_votes_51 : decode cX4_votes 51 = .ok (.aload_n 0, 1) := by decide +kernel
theorem dX4_votes_52 : decode cX4_votes 52 = .ok (.getfield 18, 3) := by decide +kernel
theorem dX4_votes_55 : decode cX4_votes 55 = .ok (.iload 4, 2) := by decide +kernel
theorem dX4_votes_57 : decode cX4_votes 57 = .ok (.iadd, 1) := by decide +kernel
theorem dX4_votes_58 : decode cX4_votes 58 = .ok (.iaload, 1) := by decide +kernel
theorem dX4_votes_59 : decode cX4_votes 59 = .ok (.bipush 97, 2) := by decide +kernel
theorem dX4_votes_61 : decode cX4_votes 61 = .ok (.isub, 1) := by decide +kernel
theorem dX4_votes_62 : decode cX4_votes 62 = .ok (.istore 5, 2) := by decide +kernel
theorem dX4_votes_64 : decode cX4_votes 64 = .ok (.iload 5, 2) := by decide +kernel
theorem dX4_votes_66 : decode cX4_votes 66 = .ok (.bipush 10, 2) := by decide +kernel
theorem dX4_votes_68 : decode cX4_votes 68 = .ok (.if_icmp .le 8, 3) := by decide +kernel
theorem dX4_votes_71 : decode cX4_votes 71 = .ok (.aload_n 0, 1) := by decide +kernel
theorem dX4_votes_72 : decode cX4_votes 72 = .ok (.invokevirtual 74, 3) := by decide +kernel
theorem dX4_votes_75 : decode cX4_votes 75 = .ok (.ireturn, 1) := by decide +kernel
theorem dX4_votes_76 : decode cX4_votes 76 = .ok (.aload_n 1, 1) := by decide +kernel
theorem dX4_votes_77 : decode cX4_votes 77 = .ok (.getfield 187, 3) := by decide +kernel
theorem dX4_votes_80 : decode cX4_votes 80 = .ok (.iload_n 2, 1) := by decide +kernel
theorem dX4_votes_81 : decode cX4_votes 81 = .ok (.bipush 9, 2) := by decide +kernel
theorem dX4_votes_83 : decode cX4_votes 83 = .ok (.imul, 1) := by decide +kernel
theorem dX4_votes_84 : decode cX4_votes 84 = .ok (.iload 4, 2) := by decide +kernel
theorem dX4_votes_86 : decode cX4_votes 86 = .ok (.iadd, 1) := by decide +kernel
theorem dX4_votes_87 : decode cX4_votes 87 = .ok (.iload_n 3, 1) := by decide +kernel
theorem dX4_votes_88 : decode cX4_votes 88 = .ok (.iload 5, 2) := by decide +kernel
theorem dX4_votes_90 : decode cX4_votes 90 = .ok (.iadd, 1) := by decide +kernel
theorem dX4_votes_91 : decode cX4_votes 91 = .ok (.iastore, 1) := by decide +kernel
theorem dX4_votes_92 : decode cX4_votes 92 = .ok (.iinc 4 1, 3) := by decide +kernel
theorem dX4_votes_95 : decode cX4_votes 95 = .ok (.goto (-64), 3) := by decide +kernel
theorem dX4_votes_98 : decode cX4_votes 98 = .ok (.aload_n 0, 1) := by decide +kernel
theorem dX4_votes_99 : decode cX4_votes 99 = .ok (.invokevirtual 95, 3) := by decide +kernel
theorem dX4_votes_102 : decode cX4_votes 102 = .ok (.iconst 1, 1) := by decide +kernel
theorem dX4_votes_103 : decode cX4_votes 103 = .ok (.ireturn, 1) := by decide +kernel
theorem dX4_calls_0 : decode cX4_calls 0 = .ok (.iconst 0, 1) := by decide +kernel
theorem dX4_calls_1 : decode cX4_calls 1 = .ok (.istore_n 3, 1) := by decide +kernel
theorem dX4_calls_2 : decode cX4_calls 2 = .ok (.iconst 0, 1) := by decide +kernel
theorem dX4_calls_3 : decode cX4_calls 3 = .ok (.istore 4, 2) := by decide +kernel
theorem dX4_calls_5 : decode cX4_calls 5 = .ok (.iload 4, 2) := by decide +kernel
theorem dX4_calls_7 : decode cX4_calls 7 = .ok (.iconst 3, 1) := by decide +kernel
theorem dX4_calls_8 : decode cX4_calls 8 = .ok (.if_icmp .gt 57, 3) := by decide +kernel
theorem dX4_calls_11 : decode cX4_calls 11 = .ok (.aload_n 0, 1) := by decide +kernel
theorem dX4_calls_12 : decode cX4_calls 12 = .ok (.getfield 15, 3) := by decide +kernel
theorem dX4_calls_15 : decode cX4_calls 15 = .ok (.bipush 97, 2) := by decide +kernel
theorem dX4_calls_17 : decode cX4_calls 17 = .ok (.if_icmp .ne 48, 3) := by decide +kernel
theorem dX4_calls_20 : decode cX4_calls 20 = .ok (.aload_n 0, 1) := by decide +kernel
theorem dX4_calls_21 : decode cX4_calls 21 = .ok (.ldc 189, 2) := by decide +kernel
theorem dX4_calls_23 : decode cX4_calls 23 = .ok (.invokevirtual 48, 3) := by decide +kernel
theorem dX4_calls_26 : decode cX4_calls 26 = .ok (.istore 5, 2) := by decide +kernel
theorem dX4_calls_28 : decode cX4_calls 28 = .ok (.iload 5, 2) := by decide +kernel
theorem dX4_calls_30 : decode cX4_calls 30 = .ok (.iconst (-1), 1) := by decide +kernel
theorem dX4_calls_31 : decode cX4_calls 31 = .ok (.if_icmp .eq 12, 3) := by decide +kernel
theorem dX4_calls_34 : decode cX4_calls 34 = .ok (.iload_n 3, 1) := by decide +kernel
theorem dX4_calls_35 : decode cX4_calls 35 = .ok (.iload 5, 2) := by decide +kernel
theorem dX4_calls_37 : decode cX4_calls 37 = .ok (.ishr, 1) := by decide +kernel
theorem dX4_calls_38 : decode cX4_calls 38 = .ok (.iconst 1, 1) := by decide +kernel
theorem dX4_calls_39 : decode cX4_calls 39 = .ok (.iand, 1) := by decide +kernel
theorem dX4_calls_40 : decode cX4_calls 40 = .ok (.ifCond .eq 8, 3) := by decide +kernel
theorem dX4_calls_43 : decode cX4_calls 43 = .ok (.aload_n 0, 1) := by decide +kernel
theorem dX4_calls_44 : decode cX4_calls 44 = .ok (.invokevirtual 74, 3) := by decide +kernel
theorem dX4_calls_47 : decode cX4_calls 47 = .ok (.ireturn, 1) := by decide +kernel
theorem dX4_calls_48 : decode cX4_calls 48 = .ok (.iload_n 3, 1) := by decide +kernel
theorem dX4_calls_49 : decode cX4_calls 49 = .ok (.iconst 1, 1) := by decide +kernel
theorem dX4_calls_50 : decode cX4_calls 50 = .ok (.iload 5, 2) := by decide +kernel
theorem dX4_calls_52 : decode cX4_calls 52 = .ok (.ishl, 1) := by decide +kernel
theorem dX4_calls_53 : decode cX4_calls 53 = .ok (.ior, 1) := by decide +kernel
theorem dX4_calls_54 : decode cX4_calls 54 = .ok (.istore_n 3, 1) := by decide +kernel
theorem dX4_calls_55 : decode cX4_calls 55 = .ok (.aload_n 0, 1) := by decide +kernel
theorem dX4_calls_56 : decode cX4_calls 56 = .ok (.invokevirtual 95, 3) := by decide +kernel
theorem dX4_calls_59 : decode cX4_calls 59 = .ok (.iinc 4 1, 3) := by decide +kernel
theorem dX4_calls_62 : decode cX4_calls 62 = .ok (.goto (-57), 3) := by decide +kernel
theorem dX4_calls_65 : decode cX4_calls 65 = .ok (.aload_n 1, 1) := by decide +kernel
theorem dX4_calls_66 : decode cX4_calls 66 = .ok (.getfield 191, 3) := by decide +kernel
theorem dX4_calls_69 : decode cX4_calls 69 = .ok (.iload_n 2, 1) := by decide +kernel
theorem dX4_calls_70 : decode cX4_calls 70 = .ok (.iload_n 3, 1) := by decide +kernel
theorem dX4_calls_71 : decode cX4_calls 71 = .ok (.iastore, 1) := by decide +kernel
theorem dX4_calls_72 : decode cX4_calls 72 = .ok (.iconst 1, 1) := by decide +kernel
theorem dX4_calls_73 : decode cX4_calls 73 = .ok (.ireturn, 1) := by decide +kernel
theorem dX4_deductLine_0 : decode cX4_deductLine 0 = .ok (.aload_n 0, 1) := by decide +kernel
theorem dX4_deductLine_1 : decode cX4_deductLine 1 = .ok (.getfield 38, 3) := by decide +kernel
theorem dX4_deductLine_4 : decode cX4_deductLine 4 = .ok (.getfield 193, 3) := by decide +kernel
theorem dX4_deductLine_7 : decode cX4_deductLine 7 = .ok (.astore_n 1, 1) := by decide +kernel
theorem dX4_deductLine_8 : decode cX4_deductLine 8 = .ok (.aload_n 1, 1) := by decide +kernel
theorem dX4_deductLine_9 : decode cX4_deductLine 9 = .ok (.invokevirtual 197, 3) := by decide +kernel
theorem dX4_deductLine_12 : decode cX4_deductLine 12 = .ok (.ifCond .eq 8, 3) := by decide +kernel
theorem dX4_deductLine_15 : decode cX4_deductLine 15 = .ok (.aload_n 0, 1) := by decide +kernel
theorem dX4_deductLine_16 : decode cX4_deductLine 16 = .ok (.invokevirtual 74, 3) := by decide +kernel
theorem dX4_deductLine_19 : decode cX4_deductLine 19 = .ok (.ireturn, 1) := by decide +kernel
theorem dX4_deductLine_20 : decode cX4_deductLine 20 = .ok (.aload_n 1, 1) := by decide +kernel
theorem dX4_deductLine_21 : decode cX4_deductLine 21 = .ok (.getfield 200, 3) := by decide +kernel
theorem dX4_deductLine_24 : decode cX4_deductLine 24 = .ok (.istore_n 2, 1) := by decide +kernel
theorem dX4_deductLine_25 : decode cX4_deductLine 25 = .ok (.aload_n 0, 1) := by decide +kernel
theorem dX4_deductLine_26 : decode cX4_deductLine 26 = .ok (.invokevirtual 95, 3) := by decide +kernel
theorem dX4_deductLine_29 : decode cX4_deductLine 29 = .ok (.aload_n 0, 1) := by decide +kernel
theorem dX4_deductLine_30 : decode cX4_deductLine 30 = .ok (.iconst 0, 1) := by decide +kernel
theorem dX4_deductLine_31 : decode cX4_deductLine 31 = .ok (.invokevirtual 203, 3) := by decide +kernel
theorem dX4_deductLine_34 : decode cX4_deductLine 34 = .ok (.ifCond .ne 5, 3) := by decide +kernel
theorem dX4_deductLine_37 : decode cX4_deductLine 37 = .ok (.iconst 0, 1) := by decide +kernel
theorem dX4_deductLine_38 : decode cX4_deductLine 38 = .ok (.ireturn, 1) := by decide +kernel
theorem dX4_deductLine_39 : decode cX4_deductLine 39 = .ok (.aload_n 1, 1) := by decide +kernel
theorem dX4_deductLine_40 : decode cX4_deductLine 40 = .ok (.getfield 200, 3) := by decide +kernel
theorem dX4_deductLine_43 : decode cX4_deductLine 43 = .ok (.istore_n 3, 1) := by decide +kernel
theorem dX4_deductLine_44 : decode cX4_deductLine 44 = .ok (.aload_n 0, 1) := by decide +kernel
theorem dX4_deductLine_45 : decode cX4_deductLine 45 = .ok (.ldc 206, 2) := by decide +kernel
theorem dX4_deductLine_47 : decode cX4_deductLine 47 = .ok (.invokevirtual 48, 3) := by decide +kernel
theorem dX4_deductLine_50 : decode cX4_deductLine 50 = .ok (.iconst (-1), 1) := by decide +kernel
theorem dX4_deductLine_51 : decode cX4_deductLine 51 = .ok (.if_icmp .eq 16, 3) := by decide +kernel
theorem dX4_deductLine_54 : decode cX4_deductLine 54 = .ok (.aload_n 0, 1) := by decide +kernel
theorem dX4_deductLine_55 : decode cX4_deductLine 55 = .ok (.invokevirtual 95, 3) := by decide +kernel
theorem dX4_deductLine_58 : decode cX4_deductLine 58 = .ok (.aload_n 0, 1) := by decide +kernel
theorem dX4_deductLine_59 : decode cX4_deductLine 59 = .ok (.invokevirtual 208, 3) := by decide +kernel
theorem dX4_deductLine_62 : decode cX4_deductLine 62 = .ok (.ifCond .ne 5, 3) := by decide +kernel
theorem dX4_deductLine_65 : decode cX4_deductLine 65 = .ok (.iconst 0, 1) := by decide +kernel
theorem dX4_deductLine_66 : decode cX4_deductLine 66 = .ok (.ireturn, 1) := by decide +kernel
theorem dX4_deductLine_67 : decode cX4_deductLine 67 = .ok (.aload_n 1, 1) := by decide +kernel
theorem dX4_deductLine_68 : decode cX4_deductLine 68 = .ok (.iload_n 2, 1) := by decide +kernel
theorem dX4_deductLine_69 : decode cX4_deductLine 69 = .ok (.iload_n 3, 1) := by decide +kernel
theorem dX4_deductLine_70 : decode cX4_deductLine 70 = .ok (.invokevirtual 211, 3) := by decide +kernel
theorem dX4_deductLine_73 : decode cX4_deductLine 73 = .ok (.iconst 1, 1) := by decide +kernel
theorem dX4_deductLine_74 : decode cX4_deductLine 74 = .ok (.ireturn, 1) := by decide +kernel
theorem dX4_test_0 : decode cX4_test 0 = .ok (.aload_n 0, 1) := by decide +kernel
theorem dX4_test_1 : decode cX4_test 1 = .ok (.getfield 38, 3) := by decide +kernel
theorem dX4_test_4 : decode cX4_test 4 = .ok (.getfield 193, 3) := by decide +kernel
theorem dX4_test_7 : decode cX4_test 7 = .ok (.astore_n 1, 1) := by decide +kernel
theorem dX4_test_8 : decode cX4_test 8 = .ok (.iconst 0, 1) := by decide +kernel
theorem dX4_test_9 : decode cX4_test 9 = .ok (.istore_n 2, 1) := by decide +kernel
theorem dX4_test_10 : decode cX4_test 10 = .ok (.iconst 0, 1) := by decide +kernel
theorem dX4_test_11 : decode cX4_test 11 = .ok (.istore_n 3, 1) := by decide +kernel
theorem dX4_test_12 : decode cX4_test 12 = .ok (.iconst 0, 1) := by decide +kernel
theorem dX4_test_13 : decode cX4_test 13 = .ok (.istore 4, 2) := by decide +kernel
theorem dX4_test_15 : decode cX4_test 15 = .ok (.iload 4, 2) := by decide +kernel
theorem dX4_test_17 : decode cX4_test 17 = .ok (.sipush 600, 3) := by decide +kernel
theorem dX4_test_20 : decode cX4_test 20 = .ok (.if_icmp .gt 125, 3) := by decide +kernel
theorem dX4_test_23 : decode cX4_test 23 = .ok (.aload_n 0, 1) := by decide +kernel
theorem dX4_test_24 : decode cX4_test 24 = .ok (.iconst 0, 1) := by decide +kernel
theorem dX4_test_25 : decode cX4_test 25 = .ok (.invokevirtual 203, 3) := by decide +kernel
theorem dX4_test_28 : decode cX4_test 28 = .ok (.ifCond .ne 5, 3) := by decide +kernel
theorem dX4_test_31 : decode cX4_test 31 = .ok (.iconst 0, 1) := by decide +kernel
theorem dX4_test_32 : decode cX4_test 32 = .ok (.ireturn, 1) := by decide +kernel
theorem dX4_test_33 : decode cX4_test 33 = .ok (.aload_n 0, 1) := by decide +kernel
theorem dX4_test_34 : decode cX4_test 34 = .ok (.invokevirtual 215, 3) := by decide +kernel
theorem dX4_test_37 : decode cX4_test 37 = .ok (.istore 5, 2) := by decide +kernel
theorem dX4_test_39 : decode cX4_test 39 = .ok (.iload 5, 2) := by decide +kernel
theorem dX4_test_41 : decode cX4_test 41 = .ok (.iconst (-1), 1) := by decide +kernel
theorem dX4_test_42 : decode cX4_test 42 = .ok (.if_icmp .ne 8, 3) := by decide +kernel
theorem dX4_test_45 : decode cX4_test 45 = .ok (.aload_n 0, 1) := by decide +kernel
theorem dX4_test_46 : decode cX4_test 46 = .ok (.invokevirtual 74, 3) := by decide +kernel
theorem dX4_test_49 : decode cX4_test 49 = .ok (.ireturn, 1) := by decide +kernel
theorem dX4_test_50 : decode cX4_test 50 = .ok (.aload_n 0, 1) := by decide +kernel
theorem dX4_test_51 : decode cX4_test 51 = .ok (.invokevirtual 95, 3) := by decide +kernel
theorem dX4_test_54 : decode cX4_test 54 = .ok (.aload_n 0, 1) := by decide +kernel
theorem dX4_test_55 : decode cX4_test 55 = .ok (.iconst 0, 1) := by decide +kernel
theorem dX4_test_56 : decode cX4_test 56 = .ok (.invokevirtual 203, 3) := by decide +kernel
theorem dX4_test_59 : decode cX4_test 59 = .ok (.ifCond .ne 5, 3) := by decide +kernel
theorem dX4_test_62 : decode cX4_test 62 = .ok (.iconst 0, 1) := by decide +kernel
theorem dX4_test_63 : decode cX4_test 63 = .ok (.ireturn, 1) := by decide +kernel
theorem dX4_test_64 : decode cX4_test 64 = .ok (.aload_n 1, 1) := by decide +kernel
theorem dX4_test_65 : decode cX4_test 65 = .ok (.iload 5, 2) := by decide +kernel
theorem dX4_test_67 : decode cX4_test 67 = .ok (.invokevirtual 218, 3) := by decide +kernel
theorem dX4_test_70 : decode cX4_test 70 = .ok (.iload_n 2, 1) := by decide +kernel
theorem dX4_test_71 : decode cX4_test 71 = .ok (.ifCond .eq 9, 3) := by decide +kernel
theorem dX4_test_74 : decode cX4_test 74 = .ok (.aload_n 1, 1) := by decide +kernel
theorem dX4_test_75 : decode cX4_test 75 = .ok (.bipush (-7), 2) := by decide +kernel
theorem dX4_test_77 : decode cX4_test 77 = .ok (.invokevirtual 218, 3) := by decide +kernel
theorem dX4_test_80 : decode cX4_test 80 = .ok (.aload_n 0, 1) := by decide +kernel
theorem dX4_test_81 : decode cX4_test 81 = .ok (.ldc 221, 2) := by decide +kernel
theorem dX4_test_83 : decode cX4_test 83 = .ok (.invokevirtual 48, 3) := by decide +kernel
theorem dX4_test_86 : decode cX4_test 86 = .ok (.istore 6, 2) := by decide +kernel
theorem dX4_test_88 : decode cX4_test 88 = .ok (.iload 6, 2) := by decide +kernel
theorem dX4_test_90 : decode cX4_test 90 = .ok (.ifCond .ne 7, 3) := by decide +kernel
theorem dX4_test_93 : decode cX4_test 93 = .ok (.iconst 1, 1) := by decide +kernel
theorem dX4_test_94 : decode cX4_test 94 = .ok (.goto 4, 3) := by decide +kernel
theorem dX4_test_97 : decode cX4_test 97 = .ok (.iconst 0, 1) := by decide +kernel
theorem dX4_test_98 : decode cX4_test 98 = .ok (.istore_n 2, 1) := by decide +kernel
theorem dX4_test_99 : decode cX4_test 99 = .ok (.iload_n 3, 1) := by decide +kernel
theorem dX4_test_100 : decode cX4_test 100 = .ok (.ifCond .eq 13, 3) := by decide +kernel
theorem dX4_test_103 : decode cX4_test 103 = .ok (.iload_n 2, 1) := by decide +kernel
theorem dX4_test_104 : decode cX4_test 104 = .ok (.ifCond .ne 9, 3) := by decide +kernel
theorem dX4_test_107 : decode cX4_test 107 = .ok (.aload_n 1, 1) := by decide +kernel
theorem dX4_test_108 : decode cX4_test 108 = .ok (.bipush (-8), 2) := by decide +kernel
theorem dX4_test_110 : decode cX4_test 110 = .ok (.invokevirtual 218, 3) := by decide +kernel
theorem dX4_test_113 : decode cX4_test 113 = .ok (.iload 6, 2) := by decide +kernel
theorem dX4_test_115 : decode cX4_test 115 = .ok (.iconst (-1), 1) := by decide +kernel
theorem dX4_test_116 : decode cX4_test 116 = .ok (.if_icmp .ne 5, 3) := by decide +kernel
theorem dX4_test_119 : decode cX4_test 119 = .ok (.iconst 1, 1) := by decide +kernel
theorem dX4_test_120 : decode cX4_test 120 = .ok (.ireturn, 1) := by decide +kernel
theorem dX4_test_121 : decode cX4_test 121 = .ok (.iload_n 3, 1) := by decide +kernel
theorem dX4_test_122 : decode cX4_test 122 = .ok (.ifCond .ne 7, 3) := by decide +kernel
theorem dX4_test_125 : decode cX4_test 125 = .ok (.iload_n 2, 1) := by decide +kernel
theorem dX4_test_126 : decode cX4_test 126 = .ok (.ifCond .ne 7, 3) := by decide +kernel
theorem dX4_test_129 : decode cX4_test 129 = .ok (.iconst 1, 1) := by decide +kernel
theorem dX4_test_130 : decode cX4_test 130 = .ok (.goto 4, 3) := by decide +kernel
theorem dX4_test_133 : decode cX4_test 133 = .ok (.iconst 0, 1) := by decide +kernel
theorem dX4_test_134 : decode cX4_test 134 = .ok (.istore_n 3, 1) := by decide +kernel
theorem dX4_test_135 : decode cX4_test 135 = .ok (.aload_n 0, 1) := by decide +kernel
theorem dX4_test_136 : decode cX4_test 136 = .ok (.invokevirtual 95, 3) := by decide +kernel
theorem dX4_test_139 : decode cX4_test 139 = .ok (.iinc 4 1, 3) := by decide +kernel
theorem dX4_test_142 : decode cX4_test 142 = .ok (.goto (-127), 3) := by decide +kernel
theorem dX4_test_145 : decode cX4_test 145 = .ok (.aload_n 0, 1) := by decide +kernel
theorem dX4_test_146 : decode cX4_test 146 = .ok (.invokevirtual 74, 3) := by decide +kernel
theorem dX4_test_149 : decode cX4_test 149 = .ok (.ireturn, 1) := by decide +kernel
theorem dX4_relation_0 : decode cX4_relation 0 = .ok (.aload_n 0, 1) := by decide +kernel
theorem dX4_relation_1 : decode cX4_relation 1 = .ok (.getfield 15, 3) := by decide +kernel
theorem dX4_relation_4 : decode cX4_relation 4 = .ok (.tableswitch 37 60 62 #[28, 31, 34], 28) := by decide +kernel
theorem dX4_relation_32 : decode cX4_relation 32 = .ok (.bipush (-4), 2) := by decide +kernel
theorem dX4_relation_34 : decode cX4_relation 34 = .ok (.ireturn, 1) := by decide +kernel
theorem dX4_relation_35 : decode cX4_relation 35 = .ok (.bipush (-5), 2) := by decide +kernel
theorem dX4_relation_37 : decode cX4_relation 37 = .ok (.ireturn, 1) := by decide +kernel
theorem dX4_relation_38 : decode cX4_relation 38 = .ok (.bipush (-6), 2) := by decide +kernel
theorem dX4_relation_40 : decode cX4_relation 40 = .ok (.ireturn, 1) := by decide +kernel
theorem dX4_relation_41 : decode cX4_relation 41 = .ok (.iconst (-1), 1) := by decide +kernel
theorem dX4_relation_42 : decode cX4_relation 42 = .ok (.ireturn, 1) := by decide +kernel
theorem dX4_sum_0 : decode cX4_sum 0 = .ok (.iconst 0, 1) := by decide +kernel
theorem dX4_sum_1 : decode cX4_sum 1 = .ok (.istore_n 2, 1) := by decide +kernel
theorem dX4_sum_2 : decode cX4_sum 2 = .ok (.iconst 0, 1) := by decide +kernel
theorem dX4_sum_3 : decode cX4_sum 3 = .ok (.istore_n 3, 1) := by decide +kernel
theorem dX4_sum_4 : decode cX4_sum 4 = .ok (.iconst 0, 1) := by decide +kernel
theorem dX4_sum_5 : decode cX4_sum 5 = .ok (.istore 4, 2) := by decide +kernel
theorem dX4_sum_7 : decode cX4_sum 7 = .ok (.iload 4, 2) := by decide +kernel
theorem dX4_sum_9 : decode cX4_sum 9 = .ok (.sipush 600, 3) := by decide +kernel
theorem dX4_sum_12 : decode cX4_sum 12 = .ok (.if_icmp .gt 121, 3) := by decide +kernel
theorem dX4_sum_15 : decode cX4_sum 15 = .ok (.aload_n 0, 1) := by decide +kernel
theorem dX4_sum_16 : decode cX4_sum 16 = .ok (.iload_n 1, 1) := by decide +kernel
theorem dX4_sum_17 : decode cX4_sum 17 = .ok (.invokevirtual 223, 3) := by decide +kernel
theorem dX4_sum_20 : decode cX4_sum 20 = .ok (.ifCond .ne 5, 3) := by decide +kernel
theorem dX4_sum_23 : decode cX4_sum 23 = .ok (.iconst 0, 1) := by decide +kernel
theorem dX4_sum_24 : decode cX4_sum 24 = .ok (.ireturn, 1) := by decide +kernel
theorem dX4_sum_25 : decode cX4_sum 25 = .ok (.iload_n 2, 1) := by decide +kernel
theorem dX4_sum_26 : decode cX4_sum 26 = .ok (.ifCond .eq 15, 3) := by decide +kernel
theorem dX4_sum_29 : decode cX4_sum 29 = .ok (.aload_n 0, 1) := by decide +kernel
theorem dX4_sum_30 : decode cX4_sum 30 = .ok (.getfield 38, 3) := by decide +kernel
theorem dX4_sum_33 : decode cX4_sum 33 = .ok (.getfield 193, 3) := by decide +kernel
theorem dX4_sum_36 : decode cX4_sum 36 = .ok (.bipush (-3), 2) := by decide +kernel
theorem dX4_sum_38 : decode cX4_sum 38 = .ok (.invokevirtual 218, 3) := by decide +kernel
theorem dX4_sum_41 : decode cX4_sum 41 = .ok (.aload_n 0, 1) := by decide +kernel
theorem dX4_sum_42 : decode cX4_sum 42 = .ok (.getfield 15, 3) := by decide +kernel
theorem dX4_sum_45 : decode cX4_sum 45 = .ok (.bipush 42, 2) := by decide +kernel
theorem dX4_sum_47 : decode cX4_sum 47 = .ok (.if_icmp .ne 7, 3) := by decide +kernel
theorem dX4_sum_50 : decode cX4_sum 50 = .ok (.iconst 1, 1) := by decide +kernel
theorem dX4_sum_51 : decode cX4_sum 51 = .ok (.goto 4, 3) := by decide +kernel
theorem dX4_sum_54 : decode cX4_sum 54 = .ok (.iconst 0, 1) := by decide +kernel
theorem dX4_sum_55 : decode cX4_sum 55 = .ok (.istore_n 2, 1) := by decide +kernel
theorem dX4_sum_56 : decode cX4_sum 56 = .ok (.iload_n 2, 1) := by decide +kernel
theorem dX4_sum_57 : decode cX4_sum 57 = .ok (.ifCond .ne 18, 3) := by decide +kernel
theorem dX4_sum_60 : decode cX4_sum 60 = .ok (.iload_n 3, 1) := by decide +kernel
theorem dX4_sum_61 : decode cX4_sum 61 = .ok (.ifCond .eq 14, 3) := by decide +kernel
theorem dX4_sum_64 : decode cX4_sum 64 = .ok (.aload_n 0, 1) := by decide +kernel
theorem dX4_sum_65 : decode cX4_sum 65 = .ok (.getfield 38, 3) := by decide +kernel
theorem dX4_sum_68 : decode cX4_sum 68 = .ok (.getfield 193, 3) := by decide +kernel
theorem dX4_sum_71 : decode cX4_sum 71 = .ok (.iload_n 3, 1) := by decide +kernel
theorem dX4_sum_72 : decode cX4_sum 72 = .ok (.invokevirtual 218, 3) := by decide +kernel
theorem dX4_sum_75 : decode cX4_sum 75 = .ok (.iload_n 2, 1) := by decide +kernel
theorem dX4_sum_76 : decode cX4_sum 76 = .ok (.ifCond .ne 23, 3) := by decide +kernel
theorem dX4_sum_79 : decode cX4_sum 79 = .ok (.aload_n 0, 1) := by decide +kernel
theorem dX4_sum_80 : decode cX4_sum 80 = .ok (.getfield 15, 3) := by decide +kernel
theorem dX4_sum_83 : decode cX4_sum 83 = .ok (.bipush 43, 2) := by decide +kernel
theorem dX4_sum_85 : decode cX4_sum 85 = .ok (.if_icmp .eq 14, 3) := by decide +kernel
theorem dX4_sum_88 : decode cX4_sum 88 = .ok (.aload_n 0, 1) := by decide +kernel
theorem dX4_sum_89 : decode cX4_sum 89 = .ok (.getfield 15, 3) := by decide +kernel
theorem dX4_sum_92 : decode cX4_sum 92 = .ok (.bipush 45, 2) := by decide +kernel
theorem dX4_sum_94 : decode cX4_sum 94 = .ok (.if_icmp .eq 5, 3) := by decide +kernel
theorem dX4_sum_97 : decode cX4_sum 97 = .ok (.iconst 1, 1) := by decide +kernel
theorem dX4_sum_98 : decode cX4_sum 98 = .ok (.ireturn, 1) := by decide +kernel
theorem dX4_sum_99 : decode cX4_sum 99 = .ok (.iload_n 2, 1) := by decide +kernel
theorem dX4_sum_100 : decode cX4_sum 100 = .ok (.ifCond .eq 7, 3) := by decide +kernel
theorem dX4_sum_103 : decode cX4_sum 103 = .ok (.iload_n 3, 1) := by decide +kernel
theorem dX4_sum_104 : decode cX4_sum 104 = .ok (.goto 18, 3) := by decide +kernel
theorem dX4_sum_107 : decode cX4_sum 107 = .ok (.aload_n 0, 1) := by decide +kernel
theorem dX4_sum_108 : decode cX4_sum 108 = .ok (.getfield 15, 3) := by decide +kernel
theorem dX4_sum_111 : decode cX4_sum 111 = .ok (.bipush 43, 2) := by decide +kernel
theorem dX4_sum_113 : decode cX4_sum 113 = .ok (.if_icmp .ne 7, 3) := by decide +kernel
theorem dX4_sum_116 : decode cX4_sum 116 = .ok (.iconst (-1), 1) := by decide +kernel
theorem dX4_sum_117 : decode cX4_sum 117 = .ok (.goto 5, 3) := by decide +kernel
theorem dX4_sum_120 : decode cX4_sum 120 = .ok (.bipush (-2), 2) := by decide +kernel
theorem dX4_sum_122 : decode cX4_sum 122 = .ok (.istore_n 3, 1) := by decide +kernel
theorem dX4_sum_123 : decode cX4_sum 123 = .ok (.aload_n 0, 1) := by decide +kernel
theorem dX4_sum_124 : decode cX4_sum 124 = .ok (.invokevirtual 95, 3) := by decide +kernel
theorem dX4_sum_127 : decode cX4_sum 127 = .ok (.iinc 4 1, 3) := by decide +kernel
theorem dX4_sum_130 : decode cX4_sum 130 = .ok (.goto (-123), 3) := by decide +kernel
theorem dX4_sum_133 : decode cX4_sum 133 = .ok (.aload_n 0, 1) := by decide +kernel
theorem dX4_sum_134 : decode cX4_sum 134 = .ok (.invokevirtual 74, 3) := by decide +kernel
theorem dX4_sum_137 : decode cX4_sum 137 = .ok (.ireturn, 1) := by decide +kernel
theorem dX4_atom_0 : decode cX4_atom 0 = .ok (.aload_n 0, 1) := by decide +kernel
theorem dX4_atom_1 : decode cX4_atom 1 = .ok (.getfield 15, 3) := by decide +kernel
theorem dX4_atom_4 : decode cX4_atom 4 = .ok (.bipush 40, 2) := by decide +kernel
theorem dX4_atom_6 : decode cX4_atom 6 = .ok (.if_icmp .ne 42, 3) := by decide +kernel
theorem dX4_atom_9 : decode cX4_atom 9 = .ok (.iload_n 1, 1) := by decide +kernel
theorem dX4_atom_10 : decode cX4_atom 10 = .ok (.iconst 4, 1) := by decide +kernel
theorem dX4_atom_11 : decode cX4_atom 11 = .ok (.if_icmp .lt 8, 3) := by decide +kernel
theorem dX4_atom_14 : decode cX4_atom 14 = .ok (.aload_n 0, 1) := by decide +kernel
theorem dX4_atom_15 : decode cX4_atom 15 = .ok (.invokevirtual 74, 3) := by decide +kernel
theorem dX4_atom_18 : decode cX4_atom 18 = .ok (.ireturn, 1) := by decide +kernel
theorem dX4_atom_19 : decode cX4_atom 19 = .ok (.aload_n 0, 1) := by decide +kernel
theorem dX4_atom_20 : decode cX4_atom 20 = .ok (.invokevirtual 95, 3) := by decide +kernel
theorem dX4_atom_23 : decode cX4_atom 23 = .ok (.aload_n 0, 1) := by decide +kernel
theorem dX4_atom_24 : decode cX4_atom 24 = .ok (.iload_n 1, 1) := by decide +kernel
theorem dX4_atom_25 : decode cX4_atom 25 = .ok (.iconst 1, 1) := by decide +kernel
theorem dX4_atom_26 : decode cX4_atom 26 = .ok (.iadd, 1) := by decide +kernel
theorem dX4_atom_27 : decode cX4_atom 27 = .ok (.invokevirtual 203, 3) := by decide +kernel
theorem dX4_atom_30 : decode cX4_atom 30 = .ok (.ifCond .eq 16, 3) := by decide +kernel
theorem dX4_atom_33 : decode cX4_atom 33 = .ok (.aload_n 0, 1) := by decide +kernel
theorem dX4_atom_34 : decode cX4_atom 34 = .ok (.bipush 41, 2) := by decide +kernel
theorem dX4_atom_36 : decode cX4_atom 36 = .ok (.invokevirtual 81, 3) := by decide +kernel
theorem dX4_atom_39 : decode cX4_atom 39 = .ok (.ifCond .eq 7, 3) := by decide +kernel
theorem dX4_atom_42 : decode cX4_atom 42 = .ok (.iconst 1, 1) := by decide +kernel
theorem dX4_atom_43 : decode cX4_atom 43 = .ok (.goto 4, 3) := by decide +kernel
theorem dX4_atom_46 : decode cX4_atom 46 = .ok (.iconst 0, 1) := by decide +kernel
theorem dX4_atom_47 : decode cX4_atom 47 = .ok (.ireturn, 1) := by decide +kernel
theorem dX4_atom_48 : decode cX4_atom 48 = .ok (.aload_n 0, 1) := by decide +kernel
theorem dX4_atom_49 : decode cX4_atom 49 = .ok (.ldc 226, 2) := by decide +kernel
theorem dX4_atom_51 : decode cX4_atom 51 = .ok (.invokevirtual 48, 3) := by decide +kernel
theorem dX4_atom_54 : decode cX4_atom 54 = .ok (.istore_n 2, 1) := by decide +kernel
theorem dX4_atom_55 : decode cX4_atom 55 = .ok (.iload_n 2, 1) := by decide +kernel
theorem dX4_atom_56 : decode cX4_atom 56 = .ok (.iconst (-1), 1) := by decide +kernel
theorem dX4_atom_57 : decode cX4_atom 57 = .ok (.if_icmp .eq 24, 3) := by decide +kernel
theorem dX4_atom_60 : decode cX4_atom 60 = .ok (.aload_n 0, 1) := by decide +kernel
theorem dX4_atom_61 : decode cX4_atom 61 = .ok (.getfield 38, 3) := by decide +kernel
theorem dX4_atom_64 : decode cX4_atom 64 = .ok (.getfield 193, 3) := by decide +kernel
theorem dX4_atom_67 : decode cX4_atom 67 = .ok (.sipush 10000, 3) := by decide +kernel
theorem dX4_atom_70 : decode cX4_atom 70 = .ok (.iload_n 2, 1) := by decide +kernel
theorem dX4_atom_71 : decode cX4_atom 71 = .ok (.iadd, 1) := by decide +kernel
theorem dX4_atom_72 : decode cX4_atom 72 = .ok (.invokevirtual 218, 3) := by decide +kernel
theorem dX4_atom_75 : decode cX4_atom 75 = .ok (.aload_n 0, 1) := by decide +kernel
theorem dX4_atom_76 : decode cX4_atom 76 = .ok (.invokevirtual 95, 3) := by decide +kernel
theorem dX4_atom_79 : decode cX4_atom 79 = .ok (.iconst 1, 1) := by decide +kernel
theorem dX4_atom_80 : decode cX4_atom 80 = .ok (.ireturn, 1) := by decide +kernel
theorem dX4_atom_81 : decode cX4_atom 81 = .ok (.aload_n 0, 1) := by decide +kernel
theorem dX4_atom_82 : decode cX4_atom 82 = .ok (.iconst 0, 1) := by decide +kernel
theorem dX4_atom_83 : decode cX4_atom 83 = .ok (.sipush 9999, 3) := by decide +kernel
theorem dX4_atom_86 : decode cX4_atom 86 = .ok (.invokevirtual 131, 3) := by decide +kernel
theorem dX4_atom_89 : decode cX4_atom 89 = .ok (.ifCond .ne 5, 3) := by decide +kernel
theorem dX4_atom_92 : decode cX4_atom 92 = .ok (.iconst 0, 1) := by decide +kernel
theorem dX4_atom_93 : decode cX4_atom 93 = .ok (.ireturn, 1) := by decide +kernel
theorem dX4_atom_94 : decode cX4_atom 94 = .ok (.aload_n 0, 1) := by decide +kernel
theorem dX4_atom_95 : decode cX4_atom 95 = .ok (.getfield 38, 3) := by decide +kernel
theorem dX4_atom_98 : decode cX4_atom 98 = .ok (.getfield 193, 3) := by decide +kernel
theorem dX4_atom_101 : decode cX4_atom 101 = .ok (.aload_n 0, 1) := by decide +kernel
theorem dX4_atom_102 : decode cX4_atom 102 = .ok (.getfield 24, 3) := by decide +kernel
theorem dX4_atom_105 : decode cX4_atom 105 = .ok (.invokevirtual 218, 3) := by decide +kernel
theorem dX4_atom_108 : decode cX4_atom 108 = .ok (.iconst 1, 1) := by decide +kernel
theorem dX4_atom_109 : decode cX4_atom 109 = .ok (.ireturn, 1) := by decide +kernel
theorem dX5_init_0 : decode cX5_init 0 = .ok (.aload_n 0, 1) := by decide +kernel
theorem dX5_init_1 : decode cX5_init 1 = .ok (.invokespecial 3, 3) := by decide +kernel
theorem dX5_init_4 : decode cX5_init 4 = .ok (.aload_n 0, 1) := by decide +kernel
theorem dX5_init_5 : decode cX5_init 5 = .ok (.iconst 0, 1) := by decide +kernel
theorem dX5_init_6 : decode cX5_init 6 = .ok (.putfield 9, 3) := by decide +kernel
theorem dX5_init_9 : decode cX5_init 9 = .ok (.aload_n 0, 1) := by decide +kernel
theorem dX5_init_10 : decode cX5_init 10 = .ok (.iconst 0, 1) := by decide +kernel
theorem dX5_init_11 : decode cX5_init 11 = .ok (.putfield 15, 3) := by decide +kernel
theorem dX5_init_14 : decode cX5_init 14 = .ok (.aload_n 0, 1) := by decide +kernel
theorem dX5_init_15 : decode cX5_init 15 = .ok (.sipush 600, 3) := by decide +kernel
theorem dX5_init_18 : decode cX5_init 18 = .ok (.newarray .int, 2) := by decide +kernel
theorem dX5_init_20 : decode cX5_init 20 = .ok (.putfield 18, 3) := by decide +kernel
theorem dX5_init_23 : decode cX5_init 23 = .ok (.aload_n 0, 1) := by decide +kernel
theorem dX5_init_24 : decode cX5_init 24 = .ok (.bipush 6, 2) := by decide +kernel
theorem dX5_init_26 : decode cX5_init 26 = .ok (.newarray .int, 2) := by decide +kernel
theorem dX5_init_28 : decode cX5_init 28 = .ok (.putfield 22, 3) := by decide +kernel
theorem dX5_init_31 : decode cX5_init 31 = .ok (.aload_n 0, 1) := by decide +kernel
theorem dX5_init_32 : decode cX5_init 32 = .ok (.bipush 6, 2) := by decide +kernel
theorem dX5_init_34 : decode cX5_init 34 = .ok (.newarray .int, 2) := by decide +kernel
theorem dX5_init_36 : decode cX5_init 36 = .ok (.putfield 25, 3) := by decide +kernel
theorem dX5_init_39 : decode cX5_init 39 = .ok (.aload_n 0, 1) := by decide +kernel
theorem dX5_init_40 : decode cX5_init 40 = .ok (.bipush 6, 2) := by decide +kernel
theorem dX5_init_42 : decode cX5_init 42 = .ok (.newarray .int, 2) := by decide +kernel
theorem dX5_init_44 : decode cX5_init 44 = .ok (.putfield 28, 3) := by decide +kernel
theorem dX5_init_47 : decode cX5_init 47 = .ok (.aload_n 0, 1) := by decide +kernel
theorem dX5_init_48 : decode cX5_init 48 = .ok (.bipush 16, 2) := by decide +kernel
theorem dX5_init_50 : decode cX5_init 50 = .ok (.newarray .int, 2) := by decide +kernel
theorem dX5_init_52 : decode cX5_init 52 = .ok (.putfield 31, 3) := by decide +kernel
theorem dX5_init_55 : decode cX5_init 55 = .ok (.return_, 1) := by decide +kernel
theorem dX5_forget_0 : decode cX5_forget 0 = .ok (.aload_n 0, 1) := by decide +kernel
theorem dX5_forget_1 : decode cX5_forget 1 = .ok (.iconst 0, 1) := by decide +kernel
theorem dX5_forget_2 : decode cX5_forget 2 = .ok (.putfield 9, 3) := by decide +kernel
theorem dX5_forget_5 : decode cX5_forget 5 = .ok (.aload_n 0, 1) := by decide +kernel
theorem dX5_forget_6 : decode cX5_forget 6 = .ok (.iconst 0, 1) := by decide +kernel
theorem dX5_forget_7 : decode cX5_forget 7 = .ok (.putfield 15, 3) := by decide +kernel
theorem dX5_forget_10 : decode cX5_forget 10 = .ok (.return_, 1) := by decide +kernel
theorem dX5_isFull_0 : decode cX5_isFull 0 = .ok (.aload_n 0, 1) := by decide +kernel
theorem dX5_isFull_1 : decode cX5_isFull 1 = .ok (.getfield 9, 3) := by decide +kernel
theorem dX5_isFull_4 : decode cX5_isFull 4 = .ok (.bipush 6, 2) := by decide +kernel
theorem dX5_isFull_6 : decode cX5_isFull 6 = .ok (.if_icmp .lt 7, 3) := by decide +kernel
theorem dX5_isFull_9 : decode cX5_isFull 9 = .ok (.iconst 1, 1) := by decide +kernel
theorem dX5_isFull_10 : decode cX5_isFull 10 = .ok (.goto 4, 3) := by decide +kernel
theorem dX5_isFull_13 : decode cX5_isFull 13 = .ok (.iconst 0, 1) := by decide +kernel
theorem dX5_isFull_14 : decode cX5_isFull 14 = .ok (.ireturn, 1) := by decide +kernel
theorem dX5_add_0 : decode cX5_add 0 = .ok (.aload_n 0, 1) := by decide +kernel
theorem dX5_add_1 : decode cX5_add 1 = .ok (.getfield 15, 3) := by decide +kernel
theorem dX5_add_4 : decode cX5_add 4 = .ok (.aload_n 0, 1) := by decide +kernel
theorem dX5_add_5 : decode cX5_add 5 = .ok (.getfield 18, 3) := by decide +kernel
theorem dX5_add_8 : decode cX5_add 8 = .ok (.arraylength, 1) := by decide +kernel
theorem dX5_add_9 : decode cX5_add 9 = .ok (.if_icmp .ge 23, 3) := by decide +kernel
theorem dX5_add_12 : decode cX5_add 12 = .ok (.aload_n 0, 1) := by decide +kernel
theorem dX5_add_13 : decode cX5_add 13 = .ok (.getfield 18, 3) := by decide +kernel
theorem dX5_add_16 : decode cX5_add 16 = .ok (.aload_n 0, 1) := by decide +kernel
theorem dX5_add_17 : decode cX5_add 17 = .ok (.getfield 15, 3) := by decide +kernel
theorem dX5_add_20 : decode cX5_add 20 = .ok (.iload_n 1, 1) := by decide +kernel
theorem dX5_add_21 : decode cX5_add 21 = .ok (.iastore, 1) := by decide +kernel
theorem dX5_add_22 : decode cX5_add 22 = .ok (.aload_n 0, 1) := by decide +kernel
theorem dX5_add_23 : decode cX5_add 23 = .ok (.dup, 1) := by decide +kernel
theorem dX5_add_24 : decode cX5_add 24 = .ok (.getfield 15, 3) := by decide +kernel
theorem dX5_add_27 : decode cX5_add 27 = .ok (.iconst 1, 1) := by decide +kernel
theorem dX5_add_28 : decode cX5_add 28 = .ok (.iadd, 1) := by decide +kernel
theorem dX5_add_29 : decode cX5_add 29 = .ok (.putfield 15, 3) := by decide +kernel
theorem dX5_add_32 : decode cX5_add 32 = .ok (.return_, 1) := by decide +kernel
theorem dX5_close_0 : decode cX5_close 0 = .ok (.aload_n 0, 1) := by decide +kernel
theorem dX5_close_1 : decode cX5_close 1 = .ok (.invokevirtual 34, 3) := by decide +kernel
theorem dX5_close_4 : decode cX5_close 4 = .ok (.ifCond .eq 4, 3) := by decide +kernel
theorem dX5_close_7 : decode cX5_close 7 = .ok (.return_, 1) := by decide +kernel
theorem dX5_close_8 : decode cX5_close 8 = .ok (.aload_n 0, 1) := by decide +kernel
theorem dX5_close_9 : decode cX5_close 9 = .ok (.getfield 22, 3) := by decide +kernel
theorem dX5_close_12 : decode cX5_close 12 = .ok (.aload_n 0, 1) := by decide +kernel
theorem dX5_close_13 : decode cX5_close 13 = .ok (.getfield 9, 3) := by decide +kernel
theorem dX5_close_16 : decode cX5_close 16 = .ok (.iload_n 1, 1) := by decide +kernel
theorem dX5_close_17 : decode cX5_close 17 = .ok (.iastore, 1) := by decide +kernel
theorem dX5_close_18 : decode cX5_close 18 = .ok (.aload_n 0, 1) := by decide +kernel
theorem dX5_close_19 : decode cX5_close 19 = .ok (.getfield 25, 3) := by decide +kernel
theorem dX5_close_22 : decode cX5_close 22 = .ok (.aload_n 0, 1) := by decide +kernel
theorem dX5_close_23 : decode cX5_close 23 = .ok (.getfield 9, 3) := by decide +kernel
theorem dX5_close_26 : decode cX5_close 26 = .ok (.iload_n 2, 1) := by decide +kernel
theorem dX5_close_27 : decode cX5_close 27 = .ok (.iastore, 1) := by decide +kernel
theorem dX5_close_28 : decode cX5_close 28 = .ok (.aload_n 0, 1) := by decide +kernel
theorem dX5_close_29 : decode cX5_close 29 = .ok (.getfield 28, 3) := by decide +kernel
theorem dX5_close_32 : decode cX5_close 32 = .ok (.aload_n 0, 1) := by decide +kernel
theorem dX5_close_33 : decode cX5_close 33 = .ok (.getfield 9, 3) := by decide +kernel
theorem dX5_close_36 : decode cX5_close 36 = .ok (.aload_n 0, 1) := by decide +kernel
theorem dX5_close_37 : decode cX5_close 37 = .ok (.getfield 15, 3) := by decide +kernel
theorem dX5_close_40 : decode cX5_close 40 = .ok (.iastore, 1) := by decide +kernel
theorem dX5_close_41 : decode cX5_close 41 = .ok (.aload_n 0, 1) := by decide +kernel
theorem dX5_close_42 : decode cX5_close 42 = .ok (.dup, 1) := by decide +kernel
theorem dX5_close_43 : decode cX5_close 43 = .ok (.getfield 9, 3) := by decide +kernel
theorem dX5_close_46 : decode cX5_close 46 = .ok (.iconst 1, 1) := by decide +kernel
theorem dX5_close_47 : decode cX5_close 47 = .ok (.iadd, 1) := by decide +kernel
theorem dX5_close_48 : decode cX5_close 48 = .ok (.putfield 9, 3) := by decide +kernel
theorem dX5_close_51 : decode cX5_close 51 = .ok (.return_, 1) := by decide +kernel
theorem dX5_amount_0 : decode cX5_amount 0 = .ok (.aload_n 0, 1) := by decide +kernel
theorem dX5_amount_1 : decode cX5_amount 1 = .ok (.getfield 28, 3) := by decide +kernel
theorem dX5_amount_4 : decode cX5_amount 4 = .ok (.iload_n 1, 1) := by decide +kernel
theorem dX5_amount_5 : decode cX5_amount 5 = .ok (.iaload, 1) := by decide +kernel
theorem dX5_amount_6 : decode cX5_amount 6 = .ok (.aload_n 0, 1) := by decide +kernel
theorem dX5_amount_7 : decode cX5_amount 7 = .ok (.getfield 25, 3) := by decide +kernel
theorem dX5_amount_10 : decode cX5_amount 10 = .ok (.iload_n 1, 1) := by decide +kernel
theorem dX5_amount_11 : decode cX5_amount 11 = .ok (.iaload, 1) := by decide +kernel
theorem dX5_amount_12 : decode cX5_amount 12 = .ok (.if_icmp .le 7, 3) := by decide +kernel
theorem dX5_amount_15 : decode cX5_amount 15 = .ok (.iconst 1, 1) := by decide +kernel
theorem dX5_amount_16 : decode cX5_amount 16 = .ok (.goto 4, 3) := by decide +kernel
theorem dX5_amount_19 : decode cX5_amount 19 = .ok (.iconst 0, 1) := by decide +kernel
theorem dX5_amount_20 : decode cX5_amount 20 = .ok (.istore_n 3, 1) := by decide +kernel
theorem dX5_amount_21 : decode cX5_amount 21 = .ok (.iload_n 3, 1) := by decide +kernel
theorem dX5_amount_22 : decode cX5_amount 22 = .ok (.ifCond .eq 25, 3) := by decide +kernel
theorem dX5_amount_25 : decode cX5_amount 25 = .ok (.aload_n 0, 1) := by decide +kernel
theorem dX5_amount_26 : decode cX5_amount 26 = .ok (.aload_n 0, 1) := by decide +kernel
theorem dX5_amount_27 : decode cX5_amount 27 = .ok (.getfield 25, 3) := by decide +kernel
theorem dX5_amount_30 : decode cX5_amount 30 = .ok (.iload_n 1, 1) := by decide +kernel
theorem dX5_amount_31 : decode cX5_amount 31 = .ok (.iaload, 1) := by decide +kernel
theorem dX5_amount_32 : decode cX5_amount 32 = .ok (.aload_n 0, 1) := by decide +kernel
theorem dX5_amount_33 : decode cX5_amount 33 = .ok (.getfield 28, 3) := by decide +kernel
theorem dX5_amount_36 : decode cX5_amount 36 = .ok (.iload_n 1, 1) := by decide +kernel
theorem dX5_amount_37 : decode cX5_amount 37 = .ok (.iaload, 1) := by decide +kernel
theorem dX5_amount_38 : decode cX5_amount 38 = .ok (.aload_n 2, 1) := by decide +kernel
theorem dX5_amount_39 : decode cX5_amount 39 = .ok (.invokevirtual 38, 3) := by decide +kernel
theorem dX5_amount_42 : decode cX5_amount 42 = .ok (.ifCond .ne 5, 3) := by decide +kernel
theorem dX5_amount_45 : decode cX5_amount 45 = .ok (.iconst 0, 1) := by decide +kernel
theorem dX5_amount_46 : decode cX5_amount 46 = .ok (.ireturn, 1) := by decide +kernel
theorem dX5_amount_47 : decode cX5_amount 47 = .ok (.iconst 0, 1) := by decide +kernel
theorem dX5_amount_48 : decode cX5_amount 48 = .ok (.sipush 9999, 3) := by decide +kernel
theorem dX5_amount_51 : decode cX5_amount 51 = .ok (.aload_n 0, 1) := by decide +kernel
theorem dX5_amount_52 : decode cX5_amount 52 = .ok (.aload_n 0, 1) := by decide +kernel
theorem dX5_amount_53 : decode cX5_amount 53 = .ok (.getfield 22, 3) := by decide +kernel
theorem dX5_amount_56 : decode cX5_amount 56 = .ok (.iload_n 1, 1) := by decide +kernel
theorem dX5_amount_57 : decode cX5_amount 57 = .ok (.iaload, 1) := by decide +kernel
theorem dX5_amount_58 : decode cX5_amount 58 = .ok (.aload_n 0, 1) := by decide +kernel
theorem dX5_amount_59 : decode cX5_amount 59 = .ok (.getfield 25, 3) := by decide +kernel
theorem dX5_amount_62 : decode cX5_amount 62 = .ok (.iload_n 1, 1) := by decide +kernel
theorem dX5_amount_63 : decode cX5_amount 63 = .ok (.iaload, 1) := by decide +kernel
theorem dX5_amount_64 : decode cX5_amount 64 = .ok (.aload_n 2, 1) := by decide +kernel
theorem dX5_amount_65 : decode cX5_amount 65 = .ok (.invokevirtual 38, 3) := by decide +kernel
theorem dX5_amount_68 : decode cX5_amount 68 = .ok (.invokestatic 42, 3) := by decide +kernel
theorem dX5_amount_71 : decode cX5_amount 71 = .ok (.invokestatic 48, 3) := by decide +kernel
theorem dX5_amount_74 : decode cX5_amount 74 = .ok (.ireturn, 1) := by decide +kernel
theorem dX5_workOut_0 : decode cX5_workOut 0 = .ok (.iconst 0, 1) := by decide +kernel
theorem dX5_workOut_1 : decode cX5_workOut 1 = .ok (.istore 4, 2) := by decide +kernel
theorem dX5_workOut_3 : decode cX5_workOut 3 = .ok (.iload_n 1, 1) := by decide +kernel
theorem dX5_workOut_4 : decode cX5_workOut 4 = .ok (.istore 5, 2) := by decide +kernel
theorem dX5_workOut_6 : decode cX5_workOut 6 = .ok (.iload 5, 2) := by decide +kernel
theorem dX5_workOut_8 : decode cX5_workOut 8 = .ok (.iload_n 2, 1) := by decide +kernel
theorem dX5_workOut_9 : decode cX5_workOut 9 = .ok (.if_icmp .ge 94, 3) := by decide +kernel
theorem dX5_workOut_12 : decode cX5_workOut 12 = .ok (.aload_n 0, 1) := by decide +kernel
theorem dX5_workOut_13 : decode cX5_workOut 13 = .ok (.getfield 18, 3) := by decide +kernel
theorem dX5_workOut_16 : decode cX5_workOut 16 = .ok (.iload 5, 2) := by decide +kernel
theorem dX5_workOut_18 : decode cX5_workOut 18 = .ok (.iaload, 1) := by decide +kernel
theorem dX5_workOut_19 : decode cX5_workOut 19 = .ok (.istore 6, 2) := by decide +kernel
theorem dX5_workOut_21 : decode cX5_workOut 21 = .ok (.iload 6, 2) := by decide +kernel
theorem dX5_workOut_23 : decode cX5_workOut 23 = .ok (.ifCond .lt 31, 3) := by decide +kernel
theorem dX5_workOut_26 : decode cX5_workOut 26 = .ok (.iload 4, 2) := by decide +kernel
theorem dX5_workOut_28 : decode cX5_workOut 28 = .ok (.bipush 16, 2) := by decide +kernel
theorem dX5_workOut_30 : decode cX5_workOut 30 = .ok (.if_icmp .lt 5, 3) := by decide +kernel
theorem dX5_workOut_33 : decode cX5_workOut 33 = .ok (.iconst 0, 1) := by decide +kernel
theorem dX5_workOut_34 : decode cX5_workOut 34 = .ok (.ireturn, 1) := by decide +kernel
theorem dX5_workOut_35 : decode cX5_workOut 35 = .ok (.aload_n 0, 1) := by decide +kernel
theorem dX5_workOut_36 : decode cX5_workOut 36 = .ok (.getfield 31, 3) := by decide +kernel
theorem dX5_workOut_39 : decode cX5_workOut 39 = .ok (.iload 4, 2) := by decide +kernel
theorem dX5_workOut_41 : decode cX5_workOut 41 = .ok (.iload 6, 2) := by decide +kernel
theorem dX5_workOut_43 : decode cX5_workOut 43 = .ok (.aload_n 3, 1) := by decide +kernel
theorem dX5_workOut_44 : decode cX5_workOut 44 = .ok (.invokestatic 51, 3) := by decide +kernel
theorem dX5_workOut_47 : decode cX5_workOut 47 = .ok (.iastore, 1) := by decide +kernel
theorem dX5_workOut_48 : decode cX5_workOut 48 = .ok (.iinc 4 1, 3) := by decide +kernel
theorem dX5_workOut_51 : decode cX5_workOut 51 = .ok (.goto 46, 3) := by decide +kernel
theorem dX5_workOut_54 : decode cX5_workOut 54 = .ok (.iload 4, 2) := by decide +kernel
theorem dX5_workOut_56 : decode cX5_workOut 56 = .ok (.iconst 2, 1) := by decide +kernel
theorem dX5_workOut_57 : decode cX5_workOut 57 = .ok (.if_icmp .ge 5, 3) := by decide +kernel
theorem dX5_workOut_60 : decode cX5_workOut 60 = .ok (.iconst 0, 1) := by decide +kernel
theorem dX5_workOut_61 : decode cX5_workOut 61 = .ok (.ireturn, 1) := by decide +kernel
theorem dX5_workOut_62 : decode cX5_workOut 62 = .ok (.iinc 4 (-1), 3) := by decide +kernel
theorem dX5_workOut_65 : decode cX5_workOut 65 = .ok (.aload_n 0, 1) := by decide +kernel
theorem dX5_workOut_66 : decode cX5_workOut 66 = .ok (.getfield 31, 3) := by decide +kernel
theorem dX5_workOut_69 : decode cX5_workOut 69 = .ok (.iload 4, 2) := by decide +kernel
theorem dX5_workOut_71 : decode cX5_workOut 71 = .ok (.iconst 1, 1) := by decide +kernel
theorem dX5_workOut_72 : decode cX5_workOut 72 = .ok (.isub, 1) := by decide +kernel
theorem dX5_workOut_73 : decode cX5_workOut 73 = .ok (.iload 6, 2) := by decide +kernel
theorem dX5_workOut_75 : decode cX5_workOut 75 = .ok (.aload_n 0, 1) := by decide +kernel
theorem dX5_workOut_76 : decode cX5_workOut 76 = .ok (.getfield 31, 3) := by decide +kernel
theorem dX5_workOut_79 : decode cX5_workOut 79 = .ok (.iload 4, 2) := by decide +kernel
theorem dX5_workOut_81 : decode cX5_workOut 81 = .ok (.iconst 1, 1) := by decide +kernel
theorem dX5_workOut_82 : decode cX5_workOut 82 = .ok (.isub, 1) := by decide +kernel
theorem dX5_workOut_83 : decode cX5_workOut 83 = .ok (.iaload, 1) := by decide +kernel
theorem dX5_workOut_84 : decode cX5_workOut 84 = .ok (.i2l, 1) := by decide +kernel
theorem dX5_workOut_85 : decode cX5_workOut 85 = .ok (.aload_n 0, 1) := by decide +kernel
theorem dX5_workOut_86 : decode cX5_workOut 86 = .ok (.getfield 31, 3) := by decide +kernel
theorem dX5_workOut_89 : decode cX5_workOut 89 = .ok (.iload 4, 2) := by decide +kernel
theorem dX5_workOut_91 : decode cX5_workOut 91 = .ok (.iaload, 1) := by decide +kernel
theorem dX5_workOut_92 : decode cX5_workOut 92 = .ok (.i2l, 1) := by decide +kernel
theorem dX5_workOut_93 : decode cX5_workOut 93 = .ok (.invokestatic 55, 3) := by decide +kernel
theorem dX5_workOut_96 : decode cX5_workOut 96 = .ok (.iastore, 1) := by decide +kernel
theorem dX5_workOut_97 : decode cX5_workOut 97 = .ok (.iinc 5 1, 3) := by decide +kernel
theorem dX5_workOut_100 : decode cX5_workOut 100 = .ok (.goto (-94), 3) := by decide +kernel
theorem dX5_workOut_103 : decode cX5_workOut 103 = .ok (.aload_n 0, 1) := by decide +kernel
theorem dX5_workOut_104 : decode cX5_workOut 104 = .ok (.getfield 31, 3) := by decide +kernel
theorem dX5_workOut_107 : decode cX5_workOut 107 = .ok (.iconst 0, 1) := by decide +kernel
theorem dX5_workOut_108 : decode cX5_workOut 108 = .ok (.iaload, 1) := by decide +kernel
theorem dX5_workOut_109 : decode cX5_workOut 109 = .ok (.ireturn, 1) := by decide +kernel
theorem dX5_valueOf_0 : decode cX5_valueOf 0 = .ok (.iload_n 0, 1) := by decide +kernel
theorem dX5_valueOf_1 : decode cX5_valueOf 1 = .ok (.sipush 10000, 3) := by decide +kernel
theorem dX5_valueOf_4 : decode cX5_valueOf 4 = .ok (.isub, 1) := by decide +kernel
theorem dX5_valueOf_5 : decode cX5_valueOf 5 = .ok (.istore_n 2, 1) := by decide +kernel
theorem dX5_valueOf_6 : decode cX5_valueOf 6 = .ok (.iload_n 2, 1) := by decide +kernel
theorem dX5_valueOf_7 : decode cX5_valueOf 7 = .ok (.ifCond .lt 15, 3) := by decide +kernel
theorem dX5_valueOf_10 : decode cX5_valueOf 10 = .ok (.iload_n 2, 1) := by decide +kernel
theorem dX5_valueOf_11 : decode cX5_valueOf 11 = .ok (.aload_n 1, 1) := by decide +kernel
theorem dX5_valueOf_12 : decode cX5_valueOf 12 = .ok (.arraylength, 1) := by decide +kernel
theorem dX5_valueOf_13 : decode cX5_valueOf 13 = .ok (.if_icmp .ge 9, 3) := by decide +kernel
theorem dX5_valueOf_16 : decode cX5_valueOf 16 = .ok (.aload_n 1, 1) := by decide +kernel
theorem dX5_valueOf_17 : decode cX5_valueOf 17 = .ok (.iload_n 2, 1) := by decide +kernel
theorem dX5_valueOf_18 : decode cX5_valueOf 18 = .ok (.iaload, 1) := by decide +kernel
theorem dX5_valueOf_19 : decode cX5_valueOf 19 = .ok (.goto 4, 3) := by decide +kernel
theorem dX5_valueOf_22 : decode cX5_valueOf 22 = .ok (.iload_n 0, 1) := by decide +kernel
theorem dX5_valueOf_23 : decode cX5_valueOf 23 = .ok (.ireturn, 1) := by decide +kernel
theorem dX5_joined_0 : decode cX5_joined 0 = .ok (.iload_n 0, 1) := by decide +kernel
theorem dX5_joined_1 : decode cX5_joined 1 = .ok (.tableswitch 107 (-8) (-4) #[89, 71, 59, 47, 35], 35) := by decide +kernel
theorem dX5_joined_36 : decode cX5_joined 36 = .ok (.lload_n 1, 1) := by decide +kernel
theorem dX5_joined_37 : decode cX5_joined 37 = .ok (.lload_n 3, 1) := by decide +kernel
theorem dX5_joined_38 : decode cX5_joined 38 = .ok (.lcmp, 1) := by decide +kernel
theorem dX5_joined_39 : decode cX5_joined 39 = .ok (.ifCond .ge 7, 3) := by decide +kernel
theorem dX5_joined_42 : decode cX5_joined 42 = .ok (.iconst 1, 1) := by decide +kernel
theorem dX5_joined_43 : decode cX5_joined 43 = .ok (.goto 4, 3) := by decide +kernel
theorem dX5_joined_46 : decode cX5_joined 46 = .ok (.iconst 0, 1) := by decide +kernel
theorem dX5_joined_47 : decode cX5_joined 47 = .ok (.ireturn, 1) := by decide +kernel
theorem dX5_joined_48 : decode cX5_joined 48 = .ok (.lload_n 1, 1) := by decide +kernel
theorem dX5_joined_49 : decode cX5_joined 49 = .ok (.lload_n 3, 1) := by decide +kernel
theorem dX5_joined_50 : decode cX5_joined 50 = .ok (.lcmp, 1) := by decide +kernel
theorem dX5_joined_51 : decode cX5_joined 51 = .ok (.ifCond .ne 7, 3) := by decide +kernel
theorem dX5_joined_54 : decode cX5_joined 54 = .ok (.iconst 1, 1) := by decide +kernel
theorem dX5_joined_55 : decode cX5_joined 55 = .ok (.goto 4, 3) := by decide +kernel
theorem dX5_joined_58 : decode cX5_joined 58 = .ok (.iconst 0, 1) := by decide +kernel
theorem dX5_joined_59 : decode cX5_joined 59 = .ok (.ireturn, 1) := by decide +kernel
theorem dX5_joined_60 : decode cX5_joined 60 = .ok (.lload_n 1, 1) := by decide +kernel
theorem dX5_joined_61 : decode cX5_joined 61 = .ok (.lload_n 3, 1) := by decide +kernel
theorem dX5_joined_62 : decode cX5_joined 62 = .ok (.lcmp, 1) := by decide +kernel
theorem dX5_joined_63 : decode cX5_joined 63 = .ok (.ifCond .le 7, 3) := by decide +kernel
theorem dX5_joined_66 : decode cX5_joined 66 = .ok (.iconst 1, 1) := by decide +kernel
theorem dX5_joined_67 : decode cX5_joined 67 = .ok (.goto 4, 3) := by decide +kernel
theorem dX5_joined_70 : decode cX5_joined 70 = .ok (.iconst 0, 1) := by decide +kernel
theorem dX5_joined_71 : decode cX5_joined 71 = .ok (.ireturn, 1) := by decide +kernel
theorem dX5_joined_72 : decode cX5_joined 72 = .ok (.lload_n 1, 1) := by decide +kernel
theorem dX5_joined_73 : decode cX5_joined 73 = .ok (.lconst 0, 1) := by decide +kernel
theorem dX5_joined_74 : decode cX5_joined 74 = .ok (.lcmp, 1) := by decide +kernel
theorem dX5_joined_75 : decode cX5_joined 75 = .ok (.ifCond .eq 13, 3) := by decide +kernel
theorem dX5_joined_78 : decode cX5_joined 78 = .ok (.lload_n 3, 1) := by decide +kernel
theorem dX5_joined_79 : decode cX5_joined 79 = .ok (.lconst 0, 1) := by decide +kernel
theorem dX5_joined_80 : decode cX5_joined 80 = .ok (.lcmp, 1) := by decide +kernel
theorem dX5_joined_81 : decode cX5_joined 81 = .ok (.ifCond .eq 7, 3) := by decide +kernel
theorem dX5_joined_84 : decode cX5_joined 84 = .ok (.iconst 1, 1) := by decide +kernel
theorem dX5_joined_85 : decode cX5_joined 85 = .ok (.goto 4, 3) := by decide +kernel
theorem dX5_joined_88 : decode cX5_joined 88 = .ok (.iconst 0, 1) := by decide +kernel
theorem dX5_joined_89 : decode cX5_joined 89 = .ok (.ireturn, 1) := by decide +kernel
theorem dX5_joined_90 : decode cX5_joined 90 = .ok (.lload_n 1, 1) := by decide +kernel
theorem dX5_joined_91 : decode cX5_joined 91 = .ok (.lconst 0, 1) := by decide +kernel
theorem dX5_joined_92 : decode cX5_joined 92 = .ok (.lcmp, 1) := by decide +kernel
theorem dX5_joined_93 : decode cX5_joined 93 = .ok (.ifCond .ne 9, 3) := by decide +kernel
theorem dX5_joined_96 : decode cX5_joined 96 = .ok (.lload_n 3, 1) := by decide +kernel
theorem dX5_joined_97 : decode cX5_joined 97 = .ok (.lconst 0, 1) := by decide +kernel
theorem dX5_joined_98 : decode cX5_joined 98 = .ok (.lcmp, 1) := by decide +kernel
theorem dX5_joined_99 : decode cX5_joined 99 = .ok (.ifCond .eq 7, 3) := by decide +kernel
theorem dX5_joined_102 : decode cX5_joined 102 = .ok (.iconst 1, 1) := by decide +kernel
theorem dX5_joined_103 : decode cX5_joined 103 = .ok (.goto 4, 3) := by decide +kernel
theorem dX5_joined_106 : decode cX5_joined 106 = .ok (.iconst 0, 1) := by decide +kernel
theorem dX5_joined_107 : decode cX5_joined 107 = .ok (.ireturn, 1) := by decide +kernel
theorem dX5_joined_108 : decode cX5_joined 108 = .ok (.iload_n 0, 1) := by decide +kernel
theorem dX5_joined_109 : decode cX5_joined 109 = .ok (.iconst (-1), 1) := by decide +kernel
theorem dX5_joined_110 : decode cX5_joined 110 = .ok (.if_icmp .ne 9, 3) := by decide +kernel
theorem dX5_joined_113 : decode cX5_joined 113 = .ok (.lload_n 1, 1) := by decide +kernel
theorem dX5_joined_114 : decode cX5_joined 114 = .ok (.lload_n 3, 1) := by decide +kernel
theorem dX5_joined_115 : decode cX5_joined 115 = .ok (.ladd, 1) := by decide +kernel
theorem dX5_joined_116 : decode cX5_joined 116 = .ok (.goto 18, 3) := by decide +kernel
theorem dX5_joined_119 : decode cX5_joined 119 = .ok (.iload_n 0, 1) := by decide +kernel
theorem dX5_joined_120 : decode cX5_joined 120 = .ok (.bipush (-2), 2) := by decide +kernel
theorem dX5_joined_122 : decode cX5_joined 122 = .ok (.if_icmp .ne 9, 3) := by decide +kernel
theorem dX5_joined_125 : decode cX5_joined 125 = .ok (.lload_n 1, 1) := by decide +kernel
theorem dX5_joined_126 : decode cX5_joined 126 = .ok (.lload_n 3, 1) := by decide +kernel
theorem dX5_joined_127 : decode cX5_joined 127 = .ok (.lsub, 1) := by decide +kernel
theorem dX5_joined_128 : decode cX5_joined 128 = .ok (.goto 6, 3) := by decide +kernel
theorem dX5_joined_131 : decode cX5_joined 131 = .ok (.lload_n 1, 1) := by decide +kernel
theorem dX5_joined_132 : decode cX5_joined 132 = .ok (.lload_n 3, 1) := by decide +kernel
theorem dX5_joined_133 : decode cX5_joined 133 = .ok (.lmul, 1) := by decide +kernel
theorem dX5_joined_134 : decode cX5_joined 134 = .ok (.lstore 5, 2) := by decide +kernel
theorem dX5_joined_136 : decode cX5_joined 136 = .ok (.ldc2_w 59, 3) := by decide +kernel
theorem dX5_joined_139 : decode cX5_joined 139 = .ok (.ldc2_w 61, 3) := by decide +kernel
theorem dX5_joined_142 : decode cX5_joined 142 = .ok (.lload 5, 2) := by decide +kernel
theorem dX5_joined_144 : decode cX5_joined 144 = .ok (.invokestatic 63, 3) := by decide +kernel
theorem dX5_joined_147 : decode cX5_joined 147 = .ok (.invokestatic 66, 3) := by decide +kernel
theorem dX5_joined_150 : decode cX5_joined 150 = .ok (.l2i, 1) := by decide +kernel
theorem dX5_joined_151 : decode cX5_joined 151 = .ok (.ireturn, 1) := by decide +kernel
theorem dX6_init_0 : decode cX6_init 0 = .ok (.aload_n 0, 1) := by decide +kernel
theorem dX6_init_1 : decode cX6_init 1 = .ok (.invokespecial 3, 3) := by decide +kernel
theorem dX6_init_4 : decode cX6_init 4 = .ok (.aload_n 0, 1) := by decide +kernel
theorem dX6_init_5 : decode cX6_init 5 = .ok (.iconst 0, 1) := by decide +kernel
theorem dX6_init_6 : decode cX6_init 6 = .ok (.putfield 9, 3) := by decide +kernel
theorem dX6_init_9 : decode cX6_init 9 = .ok (.aload_n 0, 1) := by decide +kernel
theorem dX6_init_10 : decode cX6_init 10 = .ok (.iconst 0, 1) := by decide +kernel
theorem dX6_init_11 : decode cX6_init 11 = .ok (.putfield 15, 3) := by decide +kernel
theorem dX6_init_14 : decode cX6_init 14 = .ok (.aload_n 0, 1) := by decide +kernel
theorem dX6_init_15 : decode cX6_init 15 = .ok (.iconst 0, 1) := by decide +kernel
theorem dX6_init_16 : decode cX6_init 16 = .ok (.putfield 18, 3) := by decide +kernel
theorem dX6_init_19 : decode cX6_init 19 = .ok (.aload_n 0, 1) := by decide +kernel
theorem dX6_init_20 : decode cX6_init 20 = .ok (.bipush 12, 2) := by decide +kernel
theorem dX6_init_22 : decode cX6_init 22 = .ok (.newarray .int, 2) := by decide +kernel
theorem dX6_init_24 : decode cX6_init 24 = .ok (.putfield 21, 3) := by decide +kernel
theorem dX6_init_27 : decode cX6_init 27 = .ok (.aload_n 0, 1) := by decide +kernel
theorem dX6_init_28 : decode cX6_init 28 = .ok (.bipush 12, 2) := by decide +kernel
theorem dX6_init_30 : decode cX6_init 30 = .ok (.newarray .int, 2) := by decide +kernel
theorem dX6_init_32 : decode cX6_init 32 = .ok (.putfield 25, 3) := by decide +kernel
theorem dX6_init_35 : decode cX6_init 35 = .ok (.aload_n 0, 1) := by decide +kernel
theorem dX6_init_36 : decode cX6_init 36 = .ok (.bipush 36, 2) := by decide +kernel
theorem dX6_init_38 : decode cX6_init 38 = .ok (.newarray .int, 2) := by decide +kernel
theorem dX6_init_40 : decode cX6_init 40 = .ok (.putfield 28, 3) := by decide +kernel
theorem dX6_init_43 : decode cX6_init 43 = .ok (.aload_n 0, 1) := by decide +kernel
theorem dX6_init_44 : decode cX6_init 44 = .ok (.bipush 12, 2) := by decide +kernel
theorem dX6_init_46 : decode cX6_init 46 = .ok (.newarray .int, 2) := by decide +kernel
theorem dX6_init_48 : decode cX6_init 48 = .ok (.putfield 31, 3) := by decide +kernel
theorem dX6_init_51 : decode cX6_init 51 = .ok (.aload_n 0, 1) := by decide +kernel
theorem dX6_init_52 : decode cX6_init 52 = .ok (.sipush 135, 3) := by decide +kernel
theorem dX6_init_55 : decode cX6_init 55 = .ok (.newarray .int, 2) := by decide +kernel
theorem dX6_init_57 : decode cX6_init 57 = .ok (.putfield 34, 3) := by decide +kernel
theorem dX6_init_60 : decode cX6_init 60 = .ok (.return_, 1) := by decide +kernel
theorem dX6_forget_0 : decode cX6_forget 0 = .ok (.aload_n 0, 1) := by decide +kernel
theorem dX6_forget_1 : decode cX6_forget 1 = .ok (.iconst 0, 1) := by decide +kernel
theorem dX6_forget_2 : decode cX6_forget 2 = .ok (.putfield 9, 3) := by decide +kernel
theorem dX6_forget_5 : decode cX6_forget 5 = .ok (.aload_n 0, 1) := by decide +kernel
theorem dX6_forget_6 : decode cX6_forget 6 = .ok (.iconst 0, 1) := by decide +kernel
theorem dX6_forget_7 : decode cX6_forget 7 = .ok (.putfield 15, 3) := by decide +kernel
theorem dX6_forget_10 : decode cX6_forget 10 = .ok (.aload_n 0, 1) := by decide +kernel
theorem dX6_forget_11 : decode cX6_forget 11 = .ok (.iconst 0, 1) := by decide +kernel
theorem dX6_forget_12 : decode cX6_forget 12 = .ok (.putfield 18, 3) := by decide +kernel
theorem dX6_forget_15 : decode cX6_forget 15 = .ok (.aload_n 0, 1) := by decide +kernel
theorem dX6_forget_16 : decode cX6_forget 16 = .ok (.getfield 34, 3) := by decide +kernel
theorem dX6_forget_19 : decode cX6_forget 19 = .ok (.iconst 0, 1) := by decide +kernel
theorem dX6_forget_20 : decode cX6_forget 20 = .ok (.invokestatic 37, 3) := by decide +kernel
theorem dX6_forget_23 : decode cX6_forget 23 = .ok (.return_, 1) := by decide +kernel
theorem dX6_has_0 : decode cX6_has 0 = .ok (.iload_n 1, 1) := by decide +kernel
theorem dX6_has_1 : decode cX6_has 1 = .ok (.ifCond .lt 26, 3) := by decide +kernel
theorem dX6_has_4 : decode cX6_has 4 = .ok (.iload_n 1, 1) := by decide +kernel
theorem dX6_has_5 : decode cX6_has 5 = .ok (.aload_n 0, 1) := by decide +kernel
theorem dX6_has_6 : decode cX6_has 6 = .ok (.getfield 9, 3) := by decide +kernel
theorem dX6_has_9 : decode cX6_has 9 = .ok (.if_icmp .ge 18, 3) := by decide +kernel
theorem dX6_has_12 : decode cX6_has 12 = .ok (.aload_n 0, 1) := by decide +kernel
theorem dX6_has_13 : decode cX6_has 13 = .ok (.getfield 15, 3) := by decide +kernel
theorem dX6_has_16 : decode cX6_has 16 = .ok (.iload_n 1, 1) := by decide +kernel
theorem dX6_has_17 : decode cX6_has 17 = .ok (.ishr, 1) := by decide +kernel
theorem dX6_has_18 : decode cX6_has 18 = .ok (.iconst 1, 1) := by decide +kernel
theorem dX6_has_19 : decode cX6_has 19 = .ok (.iand, 1) := by decide +kernel
theorem dX6_has_20 : decode cX6_has 20 = .ok (.ifCond .ne 7, 3) := by decide +kernel
theorem dX6_has_23 : decode cX6_has 23 = .ok (.iconst 1, 1) := by decide +kernel
theorem dX6_has_24 : decode cX6_has 24 = .ok (.goto 4, 3) := by decide +kernel
theorem dX6_has_27 : decode cX6_has 27 = .ok (.iconst 0, 1) := by decide +kernel
theorem dX6_has_28 : decode cX6_has 28 = .ok (.ireturn, 1) := by decide +kernel
theorem dX6_left_0 : decode cX6_left 0 = .ok (.aload_n 0, 1) := by decide +kernel
theorem dX6_left_1 : decode cX6_left 1 = .ok (.getfield 9, 3) := by decide +kernel
theorem dX6_left_4 : decode cX6_left 4 = .ok (.aload_n 0, 1) := by decide +kernel
theorem dX6_left_5 : decode cX6_left 5 = .ok (.getfield 15, 3) := by decide +kernel
theorem dX6_left_8 : decode cX6_left 8 = .ok (.invokestatic 43, 3) := by decide +kernel
theorem dX6_left_11 : decode cX6_left 11 = .ok (.isub, 1) := by decide +kernel
theorem dX6_left_12 : decode cX6_left 12 = .ok (.ireturn, 1) := by decide +kernel
theorem dX6_last_0 : decode cX6_last 0 = .ok (.aload_n 0, 1) := by decide +kernel
theorem dX6_last_1 : decode cX6_last 1 = .ok (.getfield 9, 3) := by decide +kernel
theorem dX6_last_4 : decode cX6_last 4 = .ok (.iconst 1, 1) := by decide +kernel
theorem dX6_last_5 : decode cX6_last 5 = .ok (.isub, 1) := by decide +kernel
theorem dX6_last_6 : decode cX6_last 6 = .ok (.istore_n 1, 1) := by decide +kernel
theorem dX6_last_7 : decode cX6_last 7 = .ok (.iload_n 1, 1) := by decide +kernel
theorem dX6_last_8 : decode cX6_last 8 = .ok (.ifCond .lt 19, 3) := by decide +kernel
theorem dX6_last_11 : decode cX6_last 11 = .ok (.aload_n 0, 1) := by decide +kernel
theorem dX6_last_12 : decode cX6_last 12 = .ok (.iload_n 1, 1) := by decide +kernel
theorem dX6_last_13 : decode cX6_last 13 = .ok (.invokevirtual 49, 3) := by decide +kernel
theorem dX6_last_16 : decode cX6_last 16 = .ok (.ifCond .eq 5, 3) := by decide +kernel
theorem dX6_last_19 : decode cX6_last 19 = .ok (.iload_n 1, 1) := by decide +kernel
theorem dX6_last_20 : decode cX6_last 20 = .ok (.ireturn, 1) := by decide +kernel
theorem dX6_last_21 : decode cX6_last 21 = .ok (.iinc 1 (-1), 3) := by decide +kernel
theorem dX6_last_24 : decode cX6_last 24 = .ok (.goto (-17), 3) := by decide +kernel
theorem dX6_last_27 : decode cX6_last 27 = .ok (.iconst (-1), 1) := by decide +kernel
theorem dX6_last_28 : decode cX6_last 28 = .ok (.ireturn, 1) := by decide +kernel
theorem dX6_elementAt_0 : decode cX6_elementAt 0 = .ok (.iload_n 2, 1) := by decide +kernel
theorem dX6_elementAt_1 : decode cX6_elementAt 1 = .ok (.aload_n 0, 1) := by decide +kernel
theorem dX6_elementAt_2 : decode cX6_elementAt 2 = .ok (.getfield 25, 3) := by decide +kernel
theorem dX6_elementAt_5 : decode cX6_elementAt 5 = .ok (.iload_n 1, 1) := by decide +kernel
theorem dX6_elementAt_6 : decode cX6_elementAt 6 = .ok (.iaload, 1) := by decide +kernel
theorem dX6_elementAt_7 : decode cX6_elementAt 7 = .ok (.if_icmp .ge 16, 3) := by decide +kernel
theorem dX6_elementAt_10 : decode cX6_elementAt 10 = .ok (.aload_n 0, 1) := by decide +kernel
theorem dX6_elementAt_11 : decode cX6_elementAt 11 = .ok (.getfield 28, 3) := by decide +kernel
theorem dX6_elementAt_14 : decode cX6_elementAt 14 = .ok (.iload_n 1, 1) := by decide +kernel
theorem dX6_elementAt_15 : decode cX6_elementAt 15 = .ok (.iconst 3, 1) := by decide +kernel
theorem dX6_elementAt_16 : decode cX6_elementAt 16 = .ok (.imul, 1) := by decide +kernel
theorem dX6_elementAt_17 : decode cX6_elementAt 17 = .ok (.iload_n 2, 1) := by decide +kernel
theorem dX6_elementAt_18 : decode cX6_elementAt 18 = .ok (.iadd, 1) := by decide +kernel
theorem dX6_elementAt_19 : decode cX6_elementAt 19 = .ok (.iaload, 1) := by decide +kernel
theorem dX6_elementAt_20 : decode cX6_elementAt 20 = .ok (.goto 4, 3) := by decide +kernel
theorem dX6_elementAt_23 : decode cX6_elementAt 23 = .ok (.iconst (-1), 1) := by decide +kernel
theorem dX6_elementAt_24 : decode cX6_elementAt 24 = .ok (.ireturn, 1) := by decide +kernel
theorem dX6_widest_0 : decode cX6_widest 0 = .ok (.iconst (-1), 1) := by decide +kernel
theorem dX6_widest_1 : decode cX6_widest 1 = .ok (.istore_n 2, 1) := by decide +kernel
theorem dX6_widest_2 : decode cX6_widest 2 = .ok (.iconst (-1), 1) := by decide +kernel
theorem dX6_widest_3 : decode cX6_widest 3 = .ok (.istore_n 3, 1) := by decide +kernel
theorem dX6_widest_4 : decode cX6_widest 4 = .ok (.iconst 0, 1) := by decide +kernel
theorem dX6_widest_5 : decode cX6_widest 5 = .ok (.istore 4, 2) := by decide +kernel
theorem dX6_widest_7 : decode cX6_widest 7 = .ok (.iload 4, 2) := by decide +kernel
theorem dX6_widest_9 : decode cX6_widest 9 = .ok (.aload_n 0, 1) := by decide +kernel
theorem dX6_widest_10 : decode cX6_widest 10 = .ok (.getfield 9, 3) := by decide +kernel
theorem dX6_widest_13 : decode cX6_widest 13 = .ok (.if_icmp .ge 43, 3) := by decide +kernel
theorem dX6_widest_16 : decode cX6_widest 16 = .ok (.aload_n 0, 1) := by decide +kernel
theorem dX6_widest_17 : decode cX6_widest 17 = .ok (.iload 4, 2) := by decide +kernel
theorem dX6_widest_19 : decode cX6_widest 19 = .ok (.invokevirtual 49, 3) := by decide +kernel
theorem dX6_widest_22 : decode cX6_widest 22 = .ok (.ifCond .eq 13, 3) := by decide +kernel
theorem dX6_widest_25 : decode cX6_widest 25 = .ok (.aload_n 0, 1) := by decide +kernel
theorem dX6_widest_26 : decode cX6_widest 26 = .ok (.iload 4, 2) := by decide +kernel
theorem dX6_widest_28 : decode cX6_widest 28 = .ok (.iload_n 1, 1) := by decide +kernel
theorem dX6_widest_29 : decode cX6_widest 29 = .ok (.invokevirtual 53, 3) := by decide +kernel
theorem dX6_widest_32 : decode cX6_widest 32 = .ok (.goto 4, 3) := by decide +kernel
theorem dX6_widest_35 : decode cX6_widest 35 = .ok (.iconst (-1), 1) := by decide +kernel
theorem dX6_widest_36 : decode cX6_widest 36 = .ok (.istore 5, 2) := by decide +kernel
theorem dX6_widest_38 : decode cX6_widest 38 = .ok (.iload 5, 2) := by decide +kernel
theorem dX6_widest_40 : decode cX6_widest 40 = .ok (.iload_n 3, 1) := by decide +kernel
theorem dX6_widest_41 : decode cX6_widest 41 = .ok (.if_icmp .le 9, 3) := by decide +kernel
theorem dX6_widest_44 : decode cX6_widest 44 = .ok (.iload 5, 2) := by decide +kernel
theorem dX6_widest_46 : decode cX6_widest 46 = .ok (.istore_n 3, 1) := by decide +kernel
theorem dX6_widest_47 : decode cX6_widest 47 = .ok (.iload 4, 2) := by decide +kernel
theorem dX6_widest_49 : decode cX6_widest 49 = .ok (.istore_n 2, 1) := by decide +kernel
theorem dX6_widest_50 : decode cX6_widest 50 = .ok (.iinc 4 1, 3) := by decide +kernel
theorem dX6_widest_53 : decode cX6_widest 53 = .ok (.goto (-46), 3) := by decide +kernel
theorem dX6_widest_56 : decode cX6_widest 56 = .ok (.iload_n 2, 1) := by decide +kernel
theorem dX6_widest_57 : decode cX6_widest 57 = .ok (.ireturn, 1) := by decide +kernel
theorem dX6_spanOf_0 : decode cX6_spanOf 0 = .ok (.iconst 5, 1) := by decide +kernel
theorem dX6_spanOf_1 : decode cX6_spanOf 1 = .ok (.istore_n 3, 1) := by decide +kernel
theorem dX6_spanOf_2 : decode cX6_spanOf 2 = .ok (.bipush (-5), 2) := by decide +kernel
theorem dX6_spanOf_4 : decode cX6_spanOf 4 = .ok (.istore 4, 2) := by decide +kernel
theorem dX6_spanOf_6 : decode cX6_spanOf 6 = .ok (.iconst 0, 1) := by decide +kernel
theorem dX6_spanOf_7 : decode cX6_spanOf 7 = .ok (.istore 5, 2) := by decide +kernel
theorem dX6_spanOf_9 : decode cX6_spanOf 9 = .ok (.iload 5, 2) := by decide +kernel
theorem dX6_spanOf_11 : decode cX6_spanOf 11 = .ok (.iload_n 2, 1) := by decide +kernel
theorem dX6_spanOf_12 : decode cX6_spanOf 12 = .ok (.if_icmp .ge 38, 3) := by decide +kernel
theorem dX6_spanOf_15 : decode cX6_spanOf 15 = .ok (.aload_n 0, 1) := by decide +kernel
theorem dX6_spanOf_16 : decode cX6_spanOf 16 = .ok (.getfield 34, 3) := by decide +kernel
theorem dX6_spanOf_19 : decode cX6_spanOf 19 = .ok (.iload_n 1, 1) := by decide +kernel
theorem dX6_spanOf_20 : decode cX6_spanOf 20 = .ok (.iload 5, 2) := by decide +kernel
theorem dX6_spanOf_22 : decode cX6_spanOf 22 = .ok (.invokestatic 57, 3) := by decide +kernel
theorem dX6_spanOf_25 : decode cX6_spanOf 25 = .ok (.iaload, 1) := by decide +kernel
theorem dX6_spanOf_26 : decode cX6_spanOf 26 = .ok (.istore 6, 2) := by decide +kernel
theorem dX6_spanOf_28 : decode cX6_spanOf 28 = .ok (.iload_n 3, 1) := by decide +kernel
theorem dX6_spanOf_29 : decode cX6_spanOf 29 = .ok (.iload 6, 2) := by decide +kernel
theorem dX6_spanOf_31 : decode cX6_spanOf 31 = .ok (.invokestatic 60, 3) := by decide +kernel
theorem dX6_spanOf_34 : decode cX6_spanOf 34 = .ok (.istore_n 3, 1) := by decide +kernel
theorem dX6_spanOf_35 : decode cX6_spanOf 35 = .ok (.iload 4, 2) := by decide +kernel
theorem dX6_spanOf_37 : decode cX6_spanOf 37 = .ok (.iload 6, 2) := by decide +kernel
theorem dX6_spanOf_39 : decode cX6_spanOf 39 = .ok (.invokestatic 65, 3) := by decide +kernel
theorem dX6_spanOf_42 : decode cX6_spanOf 42 = .ok (.istore 4, 2) := by decide +kernel
theorem dX6_spanOf_44 : decode cX6_spanOf 44 = .ok (.iinc 5 1, 3) := by decide +kernel
theorem dX6_spanOf_47 : decode cX6_spanOf 47 = .ok (.goto (-38), 3) := by decide +kernel
theorem dX6_spanOf_50 : decode cX6_spanOf 50 = .ok (.iload 4, 2) := by decide +kernel
theorem dX6_spanOf_52 : decode cX6_spanOf 52 = .ok (.iload_n 3, 1) := by decide +kernel
theorem dX6_spanOf_53 : decode cX6_spanOf 53 = .ok (.isub, 1) := by decide +kernel
theorem dX6_spanOf_54 : decode cX6_spanOf 54 = .ok (.ireturn, 1) := by decide +kernel
theorem dX7_init_0 : decode cX7_init 0 = .ok (.aload_n 0, 1) := by decide +kernel
theorem dX7_init_1 : decode cX7_init 1 = .ok (.invokespecial 3, 3) := by decide +kernel
theorem dX7_init_4 : decode cX7_init 4 = .ok (.aload_n 0, 1) := by decide +kernel
theorem dX7_init_5 : decode cX7_init 5 = .ok (.bipush 6, 2) := by decide +kernel
theorem dX7_init_7 : decode cX7_init 7 = .ok (.anewarray 9, 3) := by decide +kernel
theorem dX7_init_10 : decode cX7_init 10 = .ok (.putfield 11, 3) := by decide +kernel
theorem dX7_init_13 : decode cX7_init 13 = .ok (.aload_n 0, 1) := by decide +kernel
theorem dX7_init_14 : decode cX7_init 14 = .ok (.bipush 6, 2) := by decide +kernel
theorem dX7_init_16 : decode cX7_init 16 = .ok (.newarray .int, 2) := by decide +kernel
theorem dX7_init_18 : decode cX7_init 18 = .ok (.putfield 17, 3) := by decide +kernel
theorem dX7_init_21 : decode cX7_init 21 = .ok (.aload_n 0, 1) := by decide +kernel
theorem dX7_init_22 : decode cX7_init 22 = .ok (.bipush 54, 2) := by decide +kernel
theorem dX7_init_24 : decode cX7_init 24 = .ok (.newarray .int, 2) := by decide +kernel
theorem dX7_init_26 : decode cX7_init 26 = .ok (.putfield 21, 3) := by decide +kernel
theorem dX7_init_29 : decode cX7_init 29 = .ok (.aload_n 0, 1) := by decide +kernel
theorem dX7_init_30 : decode cX7_init 30 = .ok (.bipush 6, 2) := by decide +kernel
theorem dX7_init_32 : decode cX7_init 32 = .ok (.newarray .int, 2) := by decide +kernel
theorem dX7_init_34 : decode cX7_init 34 = .ok (.putfield 24, 3) := by decide +kernel
theorem dX7_init_37 : decode cX7_init 37 = .ok (.aload_n 0, 1) := by decide +kernel
theorem dX7_init_38 : decode cX7_init 38 = .ok (.bipush 6, 2) := by decide +kernel
theorem dX7_init_40 : decode cX7_init 40 = .ok (.newarray .int, 2) := by decide +kernel
theorem dX7_init_42 : decode cX7_init 42 = .ok (.putfield 27, 3) := by decide +kernel
theorem dX7_init_45 : decode cX7_init 45 = .ok (.aload_n 0, 1) := by decide +kernel
theorem dX7_init_46 : decode cX7_init 46 = .ok (.bipush 6, 2) := by decide +kernel
theorem dX7_init_48 : decode cX7_init 48 = .ok (.newarray .int, 2) := by decide +kernel
theorem dX7_init_50 : decode cX7_init 50 = .ok (.putfield 30, 3) := by decide +kernel
theorem dX7_init_53 : decode cX7_init 53 = .ok (.aload_n 0, 1) := by decide +kernel
theorem dX7_init_54 : decode cX7_init 54 = .ok (.aload_n 1, 1) := by decide +kernel
theorem dX7_init_55 : decode cX7_init 55 = .ok (.putfield 33, 3) := by decide +kernel
theorem dX7_init_58 : decode cX7_init 58 = .ok (.iconst 0, 1) := by decide +kernel
theorem dX7_init_59 : decode cX7_init 59 = .ok (.istore_n 2, 1) := by decide +kernel
theorem dX7_init_60 : decode cX7_init 60 = .ok (.iload_n 2, 1) := by decide +kernel
theorem dX7_init_61 : decode cX7_init 61 = .ok (.bipush 6, 2) := by decide +kernel
theorem dX7_init_63 : decode cX7_init 63 = .ok (.if_icmp .ge 24, 3) := by decide +kernel
theorem dX7_init_66 : decode cX7_init 66 = .ok (.aload_n 0, 1) := by decide +kernel
theorem dX7_init_67 : decode cX7_init 67 = .ok (.getfield 11, 3) := by decide +kernel
theorem dX7_init_70 : decode cX7_init 70 = .ok (.iload_n 2, 1) := by decide +kernel
theorem dX7_init_71 : decode cX7_init 71 = .ok (.new 9, 3) := by decide +kernel
theorem dX7_init_74 : decode cX7_init 74 = .ok (.dup, 1) := by decide +kernel
theorem dX7_init_75 : decode cX7_init 75 = .ok (.aload_n 1, 1) := by decide +kernel
theorem dX7_init_76 : decode cX7_init 76 = .ok (.iload_n 2, 1) := by decide +kernel
theorem dX7_init_77 : decode cX7_init 77 = .ok (.invokespecial 37, 3) := by decide +kernel
theorem dX7_init_80 : decode cX7_init 80 = .ok (.aastore, 1) := by decide +kernel
theorem dX7_init_81 : decode cX7_init 81 = .ok (.iinc 2 1, 3) := by decide +kernel
theorem dX7_init_84 : decode cX7_init 84 = .ok (.goto (-24), 3) := by decide +kernel
theorem dX7_init_87 : decode cX7_init 87 = .ok (.return_, 1) := by decide +kernel
theorem dX7_skaters_0 : decode cX7_skaters 0 = .ok (.aload_n 0, 1) := by decide +kernel
theorem dX7_skaters_1 : decode cX7_skaters 1 = .ok (.getfield 33, 3) := by decide +kernel
theorem dX7_skaters_4 : decode cX7_skaters 4 = .ok (.getfield 40, 3) := by decide +kernel
theorem dX7_skaters_7 : decode cX7_skaters 7 = .ok (.getfield 46, 3) := by decide +kernel
theorem dX7_skaters_10 : decode cX7_skaters 10 = .ok (.ireturn, 1) := by decide +kernel
theorem dX7_weigh_0 : decode cX7_weigh 0 = .ok (.aload_n 0, 1) := by decide +kernel
theorem dX7_weigh_1 : decode cX7_weigh 1 = .ok (.aload_n 1, 1) := by decide +kernel
theorem dX7_weigh_2 : decode cX7_weigh 2 = .ok (.putfield 33, 3) := by decide +kernel
theorem dX7_weigh_5 : decode cX7_weigh 5 = .ok (.iconst 0, 1) := by decide +kernel
theorem dX7_weigh_6 : decode cX7_weigh 6 = .ok (.istore_n 3, 1) := by decide +kernel
theorem dX7_weigh_7 : decode cX7_weigh 7 = .ok (.iload_n 3, 1) := by decide +kernel
theorem dX7_weigh_8 : decode cX7_weigh 8 = .ok (.aload_n 0, 1) := by decide +kernel
theorem dX7_weigh_9 : decode cX7_weigh 9 = .ok (.invokevirtual 52, 3) := by decide +kernel
theorem dX7_weigh_12 : decode cX7_weigh 12 = .ok (.if_icmp .ge 23, 3) := by decide +kernel
theorem dX7_weigh_15 : decode cX7_weigh 15 = .ok (.aload_n 0, 1) := by decide +kernel
theorem dX7_weigh_16 : decode cX7_weigh 16 = .ok (.getfield 11, 3) := by decide +kernel
theorem dX7_weigh_19 : decode cX7_weigh 19 = .ok (.iload_n 3, 1) := by decide +kernel
theorem dX7_weigh_20 : decode cX7_weigh 20 = .ok (.aaload, 1) := by decide +kernel
theorem dX7_weigh_21 : decode cX7_weigh 21 = .ok (.aload_n 1, 1) := by decide +kernel
theorem dX7_weigh_22 : decode cX7_weigh 22 = .ok (.iload_n 3, 1) := by decide +kernel
theorem dX7_weigh_23 : decode cX7_weigh 23 = .ok (.iload_n 2, 1) := by decide +kernel
theorem dX7_weigh_24 : decode cX7_weigh 24 = .ok (.bipush 7, 2) := by decide +kernel
theorem dX7_weigh_26 : decode cX7_weigh 26 = .ok (.invokevirtual 56, 3) := by decide +kernel
theorem dX7_weigh_29 : decode cX7_weigh 29 = .ok (.iinc 3 1, 3) := by decide +kernel
theorem dX7_weigh_32 : decode cX7_weigh 32 = .ok (.goto (-25), 3) := by decide +kernel
theorem dX7_weigh_35 : decode cX7_weigh 35 = .ok (.return_, 1) := by decide +kernel
theorem dX7_judgeBy_0 : decode cX7_judgeBy 0 = .ok (.iconst 0, 1) := by decide +kernel
theorem dX7_judgeBy_1 : decode cX7_judgeBy 1 = .ok (.istore_n 2, 1) := by decide +kernel
theorem dX7_judgeBy_2 : decode cX7_judgeBy 2 = .ok (.iload_n 2, 1) := by decide +kernel
theorem dX7_judgeBy_3 : decode cX7_judgeBy 3 = .ok (.aload_n 0, 1) := by decide +kernel
theorem dX7_judgeBy_4 : decode cX7_judgeBy 4 = .ok (.invokevirtual 52, 3) := by decide +kernel
theorem dX7_judgeBy_7 : decode cX7_judgeBy 7 = .ok (.if_icmp .ge 19, 3) := by decide +kernel
theorem dX7_judgeBy_10 : decode cX7_judgeBy 10 = .ok (.aload_n 0, 1) := by decide +kernel
theorem dX7_judgeBy_11 : decode cX7_judgeBy 11 = .ok (.getfield 11, 3) := by decide +kernel
theorem dX7_judgeBy_14 : decode cX7_judgeBy 14 = .ok (.iload_n 2, 1) := by decide +kernel
theorem dX7_judgeBy_15 : decode cX7_judgeBy 15 = .ok (.aaload, 1) := by decide +kernel
theorem dX7_judgeBy_16 : decode cX7_judgeBy 16 = .ok (.iload_n 1, 1) := by decide +kernel
theorem dX7_judgeBy_17 : decode cX7_judgeBy 17 = .ok (.invokevirtual 60, 3) := by decide +kernel
theorem dX7_judgeBy_20 : decode cX7_judgeBy 20 = .ok (.iinc 2 1, 3) := by decide +kernel
theorem dX7_judgeBy_23 : decode cX7_judgeBy 23 = .ok (.goto (-21), 3) := by decide +kernel
theorem dX7_judgeBy_26 : decode cX7_judgeBy 26 = .ok (.return_, 1) := by decide +kernel
theorem dX7_isAhead_0 : decode cX7_isAhead 0 = .ok (.aload_n 0, 1) := by decide +kernel
theorem dX7_isAhead_1 : decode cX7_isAhead 1 = .ok (.getfield 11, 3) := by decide +kernel
theorem dX7_isAhead_4 : decode cX7_isAhead 4 = .ok (.iload_n 1, 1) := by decide +kernel
theorem dX7_isAhead_5 : decode cX7_isAhead 5 = .ok (.aaload, 1) := by decide +kernel
theorem dX7_isAhead_6 : decode cX7_isAhead 6 = .ok (.getfield 64, 3) := by decide +kernel
theorem dX7_isAhead_9 : decode cX7_isAhead 9 = .ok (.aload_n 0, 1) := by decide +kernel
theorem dX7_isAhead_10 : decode cX7_isAhead 10 = .ok (.getfield 11, 3) := by decide +kernel
theorem dX7_isAhead_13 : decode cX7_isAhead 13 = .ok (.iload_n 2, 1) := by decide +kernel
theorem dX7_isAhead_14 : decode cX7_isAhead 14 = .ok (.aaload, 1) := by decide +kernel
theorem dX7_isAhead_15 : decode cX7_isAhead 15 = .ok (.getfield 64, 3) := by decide +kernel
theorem dX7_isAhead_18 : decode cX7_isAhead 18 = .ok (.if_icmp .eq 30, 3) := by decide +kernel
theorem dX7_isAhead_21 : decode cX7_isAhead 21 = .ok (.aload_n 0, 1) := by decide +kernel
theorem dX7_isAhead_22 : decode cX7_isAhead 22 = .ok (.getfield 11, 3) := by decide +kernel
theorem dX7_isAhead_25 : decode cX7_isAhead 25 = .ok (.iload_n 1, 1) := by decide +kernel
theorem dX7_isAhead_26 : decode cX7_isAhead 26 = .ok (.aaload, 1) := by decide +kernel
theorem dX7_isAhead_27 : decode cX7_isAhead 27 = .ok (.getfield 64, 3) := by decide +kernel
theorem dX7_isAhead_30 : decode cX7_isAhead 30 = .ok (.aload_n 0, 1) := by decide +kernel
theorem dX7_isAhead_31 : decode cX7_isAhead 31 = .ok (.getfield 11, 3) := by decide +kernel
theorem dX7_isAhead_34 : decode cX7_isAhead 34 = .ok (.iload_n 2, 1) := by decide +kernel
theorem dX7_isAhead_35 : decode cX7_isAhead 35 = .ok (.aaload, 1) := by decide +kernel
theorem dX7_isAhead_36 : decode cX7_isAhead 36 = .ok (.getfield 64, 3) := by decide +kernel
theorem dX7_isAhead_39 : decode cX7_isAhead 39 = .ok (.if_icmp .le 7, 3) := by decide +kernel
theorem dX7_isAhead_42 : decode cX7_isAhead 42 = .ok (.iconst 1, 1) := by decide +kernel
theorem dX7_isAhead_43 : decode cX7_isAhead 43 = .ok (.goto 4, 3) := by decide +kernel
theorem dX7_isAhead_46 : decode cX7_isAhead 46 = .ok (.iconst 0, 1) := by decide +kernel
theorem dX7_isAhead_47 : decode cX7_isAhead 47 = .ok (.ireturn, 1) := by decide +kernel
theorem dX7_isAhead_48 : decode cX7_isAhead 48 = .ok (.aload_n 0, 1) := by decide +kernel
theorem dX7_isAhead_49 : decode cX7_isAhead 49 = .ok (.getfield 11, 3) := by decide +kernel
theorem dX7_isAhead_52 : decode cX7_isAhead 52 = .ok (.iload_n 1, 1) := by decide +kernel
theorem dX7_isAhead_53 : decode cX7_isAhead 53 = .ok (.aaload, 1) := by decide +kernel
theorem dX7_isAhead_54 : decode cX7_isAhead 54 = .ok (.getfield 67, 3) := by decide +kernel
theorem dX7_isAhead_57 : decode cX7_isAhead 57 = .ok (.aload_n 0, 1) := by decide +kernel
theorem dX7_isAhead_58 : decode cX7_isAhead 58 = .ok (.getfield 11, 3) := by decide +kernel
theorem dX7_isAhead_61 : decode cX7_isAhead 61 = .ok (.iload_n 2, 1) := by decide +kernel
theorem dX7_isAhead_62 : decode cX7_isAhead 62 = .ok (.aaload, 1) := by decide +kernel
theorem dX7_isAhead_63 : decode cX7_isAhead 63 = .ok (.getfield 67, 3) := by decide +kernel
theorem dX7_isAhead_66 : decode cX7_isAhead 66 = .ok (.if_icmp .eq 30, 3) := by decide +kernel
theorem dX7_isAhead_69 : decode cX7_isAhead 69 = .ok (.aload_n 0, 1) := by decide +kernel
theorem dX7_isAhead_70 : decode cX7_isAhead 70 = .ok (.getfield 11, 3) := by decide +kernel
theorem dX7_isAhead_73 : decode cX7_isAhead 73 = .ok (.iload_n 1, 1) := by decide +kernel
theorem dX7_isAhead_74 : decode cX7_isAhead 74 = .ok (.aaload, 1) := by decide +kernel
theorem dX7_isAhead_75 : decode cX7_isAhead 75 = .ok (.getfield 67, 3) := by decide +kernel
theorem dX7_isAhead_78 : decode cX7_isAhead 78 = .ok (.aload_n 0, 1) := by decide +kernel
theorem dX7_isAhead_79 : decode cX7_isAhead 79 = .ok (.getfield 11, 3) := by decide +kernel
theorem dX7_isAhead_82 : decode cX7_isAhead 82 = .ok (.iload_n 2, 1) := by decide +kernel
theorem dX7_isAhead_83 : decode cX7_isAhead 83 = .ok (.aaload, 1) := by decide +kernel
theorem dX7_isAhead_84 : decode cX7_isAhead 84 = .ok (.getfield 67, 3) := by decide +kernel
theorem dX7_isAhead_87 : decode cX7_isAhead 87 = .ok (.if_icmp .le 7, 3) := by decide +kernel
theorem dX7_isAhead_90 : decode cX7_isAhead 90 = .ok (.iconst 1, 1) := by decide +kernel
theorem dX7_isAhead_91 : decode cX7_isAhead 91 = .ok (.goto 4, 3) := by decide +kernel
theorem dX7_isAhead_94 : decode cX7_isAhead 94 = .ok (.iconst 0, 1) := by decide +kernel
theorem dX7_isAhead_95 : decode cX7_isAhead 95 = .ok (.ireturn, 1) := by decide +kernel
theorem dX7_isAhead_96 : decode cX7_isAhead 96 = .ok (.iload_n 1, 1) := by decide +kernel
theorem dX7_isAhead_97 : decode cX7_isAhead 97 = .ok (.iload_n 2, 1) := by decide +kernel
theorem dX7_isAhead_98 : decode cX7_isAhead 98 = .ok (.if_icmp .ge 7, 3) := by decide +kernel
theorem dX7_isAhead_101 : decode cX7_isAhead 101 = .ok (.iconst 1, 1) := by decide +kernel
theorem dX7_isAhead_102 : decode cX7_isAhead 102 = .ok (.goto 4, 3) := by decide +kernel
theorem dX7_isAhead_105 : decode cX7_isAhead 105 = .ok (.iconst 0, 1) := by decide +kernel
theorem dX7_isAhead_106 : decode cX7_isAhead 106 = .ok (.ireturn, 1) := by decide +kernel
theorem dX7_rankOf_0 : decode cX7_rankOf 0 = .ok (.iconst 0, 1) := by decide +kernel
theorem dX7_rankOf_1 : decode cX7_rankOf 1 = .ok (.istore_n 2, 1) := by decide +kernel
theorem dX7_rankOf_2 : decode cX7_rankOf 2 = .ok (.iconst 0, 1) := by decide +kernel
theorem dX7_rankOf_3 : decode cX7_rankOf 3 = .ok (.istore_n 3, 1) := by decide +kernel
theorem dX7_rankOf_4 : decode cX7_rankOf 4 = .ok (.iload_n 3, 1) := by decide +kernel
theorem dX7_rankOf_5 : decode cX7_rankOf 5 = .ok (.aload_n 0, 1) := by decide +kernel
theorem dX7_rankOf_6 : decode cX7_rankOf 6 = .ok (.invokevirtual 52, 3) := by decide +kernel
theorem dX7_rankOf_9 : decode cX7_rankOf 9 = .ok (.if_icmp .ge 26, 3) := by decide +kernel
theorem dX7_rankOf_12 : decode cX7_rankOf 12 = .ok (.iload_n 3, 1) := by decide +kernel
theorem dX7_rankOf_13 : decode cX7_rankOf 13 = .ok (.iload_n 1, 1) := by decide +kernel
theorem dX7_rankOf_14 : decode cX7_rankOf 14 = .ok (.if_icmp .eq 15, 3) := by decide +kernel
theorem dX7_rankOf_17 : decode cX7_rankOf 17 = .ok (.aload_n 0, 1) := by decide +kernel
theorem dX7_rankOf_18 : decode cX7_rankOf 18 = .ok (.iload_n 3, 1) := by decide +kernel
theorem dX7_rankOf_19 : decode cX7_rankOf 19 = .ok (.iload_n 1, 1) := by decide +kernel
theorem dX7_rankOf_20 : decode cX7_rankOf 20 = .ok (.invokevirtual 70, 3) := by decide +kernel
theorem dX7_rankOf_23 : decode cX7_rankOf 23 = .ok (.ifCond .eq 6, 3) := by decide +kernel
theorem dX7_rankOf_26 : decode cX7_rankOf 26 = .ok (.iinc 2 1, 3) := by decide +kernel
theorem dX7_rankOf_29 : decode cX7_rankOf 29 = .ok (.iinc 3 1, 3) := by decide +kernel
theorem dX7_rankOf_32 : decode cX7_rankOf 32 = .ok (.goto (-28), 3) := by decide +kernel
theorem dX7_rankOf_35 : decode cX7_rankOf 35 = .ok (.iload_n 2, 1) := by decide +kernel
theorem dX7_rankOf_36 : decode cX7_rankOf 36 = .ok (.ireturn, 1) := by decide +kernel
theorem dX7_skaterAt_0 : decode cX7_skaterAt 0 = .ok (.iconst 0, 1) := by decide +kernel
theorem dX7_skaterAt_1 : decode cX7_skaterAt 1 = .ok (.istore_n 2, 1) := by decide +kernel
theorem dX7_skaterAt_2 : decode cX7_skaterAt 2 = .ok (.iload_n 2, 1) := by decide +kernel
theorem dX7_skaterAt_3 : decode cX7_skaterAt 3 = .ok (.aload_n 0, 1) := by decide +kernel
theorem dX7_skaterAt_4 : decode cX7_skaterAt 4 = .ok (.invokevirtual 52, 3) := by decide +kernel
theorem dX7_skaterAt_7 : decode cX7_skaterAt 7 = .ok (.if_icmp .ge 20, 3) := by decide +kernel
theorem dX7_skaterAt_10 : decode cX7_skaterAt 10 = .ok (.aload_n 0, 1) := by decide +kernel
theorem dX7_skaterAt_11 : decode cX7_skaterAt 11 = .ok (.iload_n 2, 1) := by decide +kernel
theorem dX7_skaterAt_12 : decode cX7_skaterAt 12 = .ok (.invokevirtual 74, 3) := by decide +kernel
theorem dX7_skaterAt_15 : decode cX7_skaterAt 15 = .ok (.iload_n 1, 1) := by decide +kernel
theorem dX7_skaterAt_16 : decode cX7_skaterAt 16 = .ok (.if_icmp .ne 5, 3) := by decide +kernel
theorem dX7_skaterAt_19 : decode cX7_skaterAt 19 = .ok (.iload_n 2, 1) := by decide +kernel
theorem dX7_skaterAt_20 : decode cX7_skaterAt 20 = .ok (.ireturn, 1) := by decide +kernel
theorem dX7_skaterAt_21 : decode cX7_skaterAt 21 = .ok (.iinc 2 1, 3) := by decide +kernel
theorem dX7_skaterAt_24 : decode cX7_skaterAt 24 = .ok (.goto (-22), 3) := by decide +kernel
theorem dX7_skaterAt_27 : decode cX7_skaterAt 27 = .ok (.iconst (-1), 1) := by decide +kernel
theorem dX7_skaterAt_28 : decode cX7_skaterAt 28 = .ok (.ireturn, 1) := by decide +kernel
theorem dX7_leadsBy_0 : decode cX7_leadsBy 0 = .ok (.aload_n 0, 1) := by decide +kernel
theorem dX7_leadsBy_1 : decode cX7_leadsBy 1 = .ok (.getfield 11, 3) := by decide +kernel
theorem dX7_leadsBy_4 : decode cX7_leadsBy 4 = .ok (.iload_n 1, 1) := by decide +kernel
theorem dX7_leadsBy_5 : decode cX7_leadsBy 5 = .ok (.aaload, 1) := by decide +kernel
theorem dX7_leadsBy_6 : decode cX7_leadsBy 6 = .ok (.iload_n 2, 1) := by decide +kernel
theorem dX7_leadsBy_7 : decode cX7_leadsBy 7 = .ok (.invokevirtual 60, 3) := by decide +kernel
theorem dX7_leadsBy_10 : decode cX7_leadsBy 10 = .ok (.iconst 0, 1) := by decide +kernel
theorem dX7_leadsBy_11 : decode cX7_leadsBy 11 = .ok (.istore_n 3, 1) := by decide +kernel
theorem dX7_leadsBy_12 : decode cX7_leadsBy 12 = .ok (.iload_n 3, 1) := by decide +kernel
theorem dX7_leadsBy_13 : decode cX7_leadsBy 13 = .ok (.aload_n 0, 1) := by decide +kernel
theorem dX7_leadsBy_14 : decode cX7_leadsBy 14 = .ok (.invokevirtual 52, 3) := by decide +kernel
theorem dX7_leadsBy_17 : decode cX7_leadsBy 17 = .ok (.if_icmp .ge 35, 3) := by decide +kernel
theorem dX7_leadsBy_20 : decode cX7_leadsBy 20 = .ok (.iload_n 3, 1) := by decide +kernel
theorem dX7_leadsBy_21 : decode cX7_leadsBy 21 = .ok (.iload_n 1, 1) := by decide +kernel
theorem dX7_leadsBy_22 : decode cX7_leadsBy 22 = .ok (.if_icmp .eq 24, 3) := by decide +kernel
theorem dX7_leadsBy_25 : decode cX7_leadsBy 25 = .ok (.aload_n 0, 1) := by decide +kernel
theorem dX7_leadsBy_26 : decode cX7_leadsBy 26 = .ok (.getfield 11, 3) := by decide +kernel
theorem dX7_leadsBy_29 : decode cX7_leadsBy 29 = .ok (.iload_n 3, 1) := by decide +kernel
theorem dX7_leadsBy_30 : decode cX7_leadsBy 30 = .ok (.aaload, 1) := by decide +kernel
theorem dX7_leadsBy_31 : decode cX7_leadsBy 31 = .ok (.iload_n 2, 1) := by decide +kernel
theorem dX7_leadsBy_32 : decode cX7_leadsBy 32 = .ok (.invokevirtual 60, 3) := by decide +kernel
theorem dX7_leadsBy_35 : decode cX7_leadsBy 35 = .ok (.aload_n 0, 1) := by decide +kernel
theorem dX7_leadsBy_36 : decode cX7_leadsBy 36 = .ok (.iload_n 3, 1) := by decide +kernel
theorem dX7_leadsBy_37 : decode cX7_leadsBy 37 = .ok (.iload_n 1, 1) := by decide +kernel
theorem dX7_leadsBy_38 : decode cX7_leadsBy 38 = .ok (.invokevirtual 70, 3) := by decide +kernel
theorem dX7_leadsBy_41 : decode cX7_leadsBy 41 = .ok (.ifCond .eq 5, 3) := by decide +kernel
theorem dX7_leadsBy_44 : decode cX7_leadsBy 44 = .ok (.iconst 0, 1) := by decide +kernel
theorem dX7_leadsBy_45 : decode cX7_leadsBy 45 = .ok (.ireturn, 1) := by decide +kernel
theorem dX7_leadsBy_46 : decode cX7_leadsBy 46 = .ok (.iinc 3 1, 3) := by decide +kernel
theorem dX7_leadsBy_49 : decode cX7_leadsBy 49 = .ok (.goto (-37), 3) := by decide +kernel
theorem dX7_leadsBy_52 : decode cX7_leadsBy 52 = .ok (.iconst 1, 1) := by decide +kernel
theorem dX7_leadsBy_53 : decode cX7_leadsBy 53 = .ok (.ireturn, 1) := by decide +kernel
theorem dX7_leaning_0 : decode cX7_leaning 0 = .ok (.aload_n 0, 1) := by decide +kernel
theorem dX7_leaning_1 : decode cX7_leaning 1 = .ok (.getfield 33, 3) := by decide +kernel
theorem dX7_leaning_4 : decode cX7_leaning 4 = .ok (.invokevirtual 78, 3) := by decide +kernel
theorem dX7_leaning_7 : decode cX7_leaning 7 = .ok (.istore_n 2, 1) := by decide +kernel
theorem dX7_leaning_8 : decode cX7_leaning 8 = .ok (.iconst 0, 1) := by decide +kernel
theorem dX7_leaning_9 : decode cX7_leaning 9 = .ok (.istore_n 3, 1) := by decide +kernel
theorem dX7_leaning_10 : decode cX7_leaning 10 = .ok (.iconst 0, 1) := by decide +kernel
theorem dX7_leaning_11 : decode cX7_leaning 11 = .ok (.istore 4, 2) := by decide +kernel
theorem dX7_leaning_13 : decode cX7_leaning 13 = .ok (.iload 4, 2) := by decide +kernel
theorem dX7_leaning_15 : decode cX7_leaning 15 = .ok (.aload_n 0, 1) := by decide +kernel
theorem dX7_leaning_16 : decode cX7_leaning 16 = .ok (.invokevirtual 52, 3) := by decide +kernel
theorem dX7_leaning_19 : decode cX7_leaning 19 = .ok (.if_icmp .ge 82, 3) := by decide +kernel
theorem dX7_leaning_22 : decode cX7_leaning 22 = .ok (.aload_n 0, 1) := by decide +kernel
theorem dX7_leaning_23 : decode cX7_leaning 23 = .ok (.getfield 33, 3) := by decide +kernel
theorem dX7_leaning_26 : decode cX7_leaning 26 = .ok (.getfield 81, 3) := by decide +kernel
theorem dX7_leaning_29 : decode cX7_leaning 29 = .ok (.iload 4, 2) := by decide +kernel
theorem dX7_leaning_31 : decode cX7_leaning 31 = .ok (.aaload, 1) := by decide +kernel
theorem dX7_leaning_32 : decode cX7_leaning 32 = .ok (.astore 5, 2) := by decide +kernel
theorem dX7_leaning_34 : decode cX7_leaning 34 = .ok (.iconst 0, 1) := by decide +kernel
theorem dX7_leaning_35 : decode cX7_leaning 35 = .ok (.istore 6, 2) := by decide +kernel
theorem dX7_leaning_37 : decode cX7_leaning 37 = .ok (.iload 6, 2) := by decide +kernel
theorem dX7_leaning_39 : decode cX7_leaning 39 = .ok (.aload 5, 2) := by decide +kernel
theorem dX7_leaning_41 : decode cX7_leaning 41 = .ok (.getfield 85, 3) := by decide +kernel
theorem dX7_leaning_44 : decode cX7_leaning 44 = .ok (.if_icmp .ge 51, 3) := by decide +kernel
theorem dX7_leaning_47 : decode cX7_leaning 47 = .ok (.aload 5, 2) := by decide +kernel
theorem dX7_leaning_49 : decode cX7_leaning 49 = .ok (.iload 6, 2) := by decide +kernel
theorem dX7_leaning_51 : decode cX7_leaning 51 = .ok (.invokevirtual 90, 3) := by decide +kernel
theorem dX7_leaning_54 : decode cX7_leaning 54 = .ok (.ifCond .eq 35, 3) := by decide +kernel
theorem dX7_leaning_57 : decode cX7_leaning 57 = .ok (.iload_n 3, 1) := by decide +kernel
theorem dX7_leaning_58 : decode cX7_leaning 58 = .ok (.bipush 100, 2) := by decide +kernel
theorem dX7_leaning_60 : decode cX7_leaning 60 = .ok (.aload 5, 2) := by decide +kernel
theorem dX7_leaning_62 : decode cX7_leaning 62 = .ok (.getfield 94, 3) := by decide +kernel
theorem dX7_leaning_65 : decode cX7_leaning 65 = .ok (.iload 6, 2) := by decide +kernel
theorem dX7_leaning_67 : decode cX7_leaning 67 = .ok (.iload_n 1, 1) := by decide +kernel
theorem dX7_leaning_68 : decode cX7_leaning 68 = .ok (.invokestatic 97, 3) := by decide +kernel
theorem dX7_leaning_71 : decode cX7_leaning 71 = .ok (.iaload, 1) := by decide +kernel
theorem dX7_leaning_72 : decode cX7_leaning 72 = .ok (.imul, 1) := by decide +kernel
theorem dX7_leaning_73 : decode cX7_leaning 73 = .ok (.aload_n 0, 1) := by decide +kernel
theorem dX7_leaning_74 : decode cX7_leaning 74 = .ok (.getfield 11, 3) := by decide +kernel
theorem dX7_leaning_77 : decode cX7_leaning 77 = .ok (.iload 4, 2) := by decide +kernel
theorem dX7_leaning_79 : decode cX7_leaning 79 = .ok (.aaload, 1) := by decide +kernel
theorem dX7_leaning_80 : decode cX7_leaning 80 = .ok (.iload 6, 2) := by decide +kernel
theorem dX7_leaning_82 : decode cX7_leaning 82 = .ok (.iload_n 2, 1) := by decide +kernel
theorem dX7_leaning_83 : decode cX7_leaning 83 = .ok (.invokevirtual 101, 3) := by decide +kernel
theorem dX7_leaning_86 : decode cX7_leaning 86 = .ok (.isub, 1) := by decide +kernel
theorem dX7_leaning_87 : decode cX7_leaning 87 = .ok (.iadd, 1) := by decide +kernel
theorem dX7_leaning_88 : decode cX7_leaning 88 = .ok (.istore_n 3, 1) := by decide +kernel
theorem dX7_leaning_89 : decode cX7_leaning 89 = .ok (.iinc 6 1, 3) := by decide +kernel
theorem dX7_leaning_92 : decode cX7_leaning 92 = .ok (.goto (-55), 3) := by decide +kernel
theorem dX7_leaning_95 : decode cX7_leaning 95 = .ok (.iinc 4 1, 3) := by decide +kernel
theorem dX7_leaning_98 : decode cX7_leaning 98 = .ok (.goto (-85), 3) := by decide +kernel
theorem dX7_leaning_101 : decode cX7_leaning 101 = .ok (.iload_n 3, 1) := by decide +kernel
theorem dX7_leaning_102 : decode cX7_leaning 102 = .ok (.ireturn, 1) := by decide +kernel
theorem dX7_farthestLeaning_0 : decode cX7_farthestLeaning 0 = .ok (.iconst 0, 1) := by decide +kernel
theorem dX7_farthestLeaning_1 : decode cX7_farthestLeaning 1 = .ok (.istore_n 1, 1) := by decide +kernel
theorem dX7_farthestLeaning_2 : decode cX7_farthestLeaning 2 = .ok (.iconst 0, 1) := by decide +kernel
theorem dX7_farthestLeaning_3 : decode cX7_farthestLeaning 3 = .ok (.istore_n 2, 1) := by decide +kernel
theorem dX7_farthestLeaning_4 : decode cX7_farthestLeaning 4 = .ok (.iconst 0, 1) := by decide +kernel
theorem dX7_farthestLeaning_5 : decode cX7_farthestLeaning 5 = .ok (.istore_n 3, 1) := by decide +kernel
theorem dX7_farthestLeaning_6 : decode cX7_farthestLeaning 6 = .ok (.iload_n 3, 1) := by decide +kernel
theorem dX7_farthestLeaning_7 : decode cX7_farthestLeaning 7 = .ok (.aload_n 0, 1) := by decide +kernel
theorem dX7_farthestLeaning_8 : decode cX7_farthestLeaning 8 = .ok (.getfield 33, 3) := by decide +kernel
theorem dX7_farthestLeaning_11 : decode cX7_farthestLeaning 11 = .ok (.getfield 104, 3) := by decide +kernel
theorem dX7_farthestLeaning_14 : decode cX7_farthestLeaning 14 = .ok (.if_icmp .ge 30, 3) := by decide +kernel
theorem dX7_farthestLeaning_17 : decode cX7_farthestLeaning 17 = .ok (.aload_n 0, 1) := by decide +kernel
theorem dX7_farthestLeaning_18 : decode cX7_farthestLeaning 18 = .ok (.iload_n 3, 1) := by decide +kernel
theorem dX7_farthestLeaning_19 : decode cX7_farthestLeaning 19 = .ok (.invokevirtual 107, 3) := by decide +kernel
theorem dX7_farthestLeaning_22 : decode cX7_farthestLeaning 22 = .ok (.invokestatic 110, 3) := by decide +kernel
theorem dX7_farthestLeaning_25 : decode cX7_farthestLeaning 25 = .ok (.istore 4, 2) := by decide +kernel
theorem dX7_farthestLeaning_27 : decode cX7_farthestLeaning 27 = .ok (.iload 4, 2) := by decide +kernel
theorem dX7_farthestLeaning_29 : decode cX7_farthestLeaning 29 = .ok (.iload_n 2, 1) := by decide +kernel
theorem dX7_farthestLeaning_30 : decode cX7_farthestLeaning 30 = .ok (.if_icmp .le 8, 3) := by decide +kernel
theorem dX7_farthestLeaning_33 : decode cX7_farthestLeaning 33 = .ok (.iload 4, 2) := by decide +kernel
theorem dX7_farthestLeaning_35 : decode cX7_farthestLeaning 35 = .ok (.istore_n 2, 1) := by decide +kernel
theorem dX7_farthestLeaning_36 : decode cX7_farthestLeaning 36 = .ok (.iload_n 3, 1) := by decide +kernel
theorem dX7_farthestLeaning_37 : decode cX7_farthestLeaning 37 = .ok (.istore_n 1, 1) := by decide +kernel
theorem dX7_farthestLeaning_38 : decode cX7_farthestLeaning 38 = .ok (.iinc 3 1, 3) := by decide +kernel
theorem dX7_farthestLeaning_41 : decode cX7_farthestLeaning 41 = .ok (.goto (-35), 3) := by decide +kernel
theorem dX7_farthestLeaning_44 : decode cX7_farthestLeaning 44 = .ok (.iload_n 1, 1) := by decide +kernel
theorem dX7_farthestLeaning_45 : decode cX7_farthestLeaning 45 = .ok (.ireturn, 1) := by decide +kernel
theorem dX7_turnedPairs_0 : decode cX7_turnedPairs 0 = .ok (.iconst 0, 1) := by decide +kernel
theorem dX7_turnedPairs_1 : decode cX7_turnedPairs 1 = .ok (.istore_n 2, 1) := by decide +kernel
theorem dX7_turnedPairs_2 : decode cX7_turnedPairs 2 = .ok (.iload_n 2, 1) := by decide +kernel
theorem dX7_turnedPairs_3 : decode cX7_turnedPairs 3 = .ok (.aload_n 0, 1) := by decide +kernel
theorem dX7_turnedPairs_4 : decode cX7_turnedPairs 4 = .ok (.invokevirtual 52, 3) := by decide +kernel
theorem dX7_turnedPairs_7 : decode cX7_turnedPairs 7 = .ok (.if_icmp .ge 20, 3) := by decide +kernel
theorem dX7_turnedPairs_10 : decode cX7_turnedPairs 10 = .ok (.aload_n 0, 1) := by decide +kernel
theorem dX7_turnedPairs_11 : decode cX7_turnedPairs 11 = .ok (.getfield 17, 3) := by decide +kernel
theorem dX7_turnedPairs_14 : decode cX7_turnedPairs 14 = .ok (.iload_n 2, 1) := by decide +kernel
theorem dX7_turnedPairs_15 : decode cX7_turnedPairs 15 = .ok (.aload_n 0, 1) := by decide +kernel
theorem dX7_turnedPairs_16 : decode cX7_turnedPairs 16 = .ok (.iload_n 2, 1) := by decide +kernel
theorem dX7_turnedPairs_17 : decode cX7_turnedPairs 17 = .ok (.invokevirtual 74, 3) := by decide +kernel
theorem dX7_turnedPairs_20 : decode cX7_turnedPairs 20 = .ok (.iastore, 1) := by decide +kernel
theorem dX7_turnedPairs_21 : decode cX7_turnedPairs 21 = .ok (.iinc 2 1, 3) := by decide +kernel
theorem dX7_turnedPairs_24 : decode cX7_turnedPairs 24 = .ok (.goto (-22), 3) := by decide +kernel
theorem dX7_turnedPairs_27 : decode cX7_turnedPairs 27 = .ok (.aload_n 0, 1) := by decide +kernel
theorem dX7_turnedPairs_28 : decode cX7_turnedPairs 28 = .ok (.iload_n 1, 1) := by decide +kernel
theorem dX7_turnedPairs_29 : decode cX7_turnedPairs 29 = .ok (.invokevirtual 115, 3) := by decide +kernel
theorem dX7_turnedPairs_32 : decode cX7_turnedPairs 32 = .ok (.iconst 0, 1) := by decide +kernel
theorem dX7_turnedPairs_33 : decode cX7_turnedPairs 33 = .ok (.istore_n 2, 1) := by decide +kernel
theorem dX7_turnedPairs_34 : decode cX7_turnedPairs 34 = .ok (.iconst 0, 1) := by decide +kernel
theorem dX7_turnedPairs_35 : decode cX7_turnedPairs 35 = .ok (.istore_n 3, 1) := by decide +kernel
theorem dX7_turnedPairs_36 : decode cX7_turnedPairs 36 = .ok (.iload_n 3, 1) := by decide +kernel
theorem dX7_turnedPairs_37 : decode cX7_turnedPairs 37 = .ok (.aload_n 0, 1) := by decide +kernel
theorem dX7_turnedPairs_38 : decode cX7_turnedPairs 38 = .ok (.invokevirtual 52, 3) := by decide +kernel
theorem dX7_turnedPairs_41 : decode cX7_turnedPairs 41 = .ok (.if_icmp .ge 63, 3) := by decide +kernel
theorem dX7_turnedPairs_44 : decode cX7_turnedPairs 44 = .ok (.iload_n 3, 1) := by decide +kernel
theorem dX7_turnedPairs_45 : decode cX7_turnedPairs 45 = .ok (.iconst 1, 1) := by decide +kernel
theorem dX7_turnedPairs_46 : decode cX7_turnedPairs 46 = .ok (.iadd, 1) := by decide +kernel
theorem dX7_turnedPairs_47 : decode cX7_turnedPairs 47 = .ok (.istore 4, 2) := by decide +kernel
theorem dX7_turnedPairs_49 : decode cX7_turnedPairs 49 = .ok (.iload 4, 2) := by decide +kernel
theorem dX7_turnedPairs_51 : decode cX7_turnedPairs 51 = .ok (.aload_n 0, 1) := by decide +kernel
theorem dX7_turnedPairs_52 : decode cX7_turnedPairs 52 = .ok (.invokevirtual 52, 3) := by decide +kernel
theorem dX7_turnedPairs_55 : decode cX7_turnedPairs 55 = .ok (.if_icmp .ge 43, 3) := by decide +kernel
theorem dX7_turnedPairs_58 : decode cX7_turnedPairs 58 = .ok (.aload_n 0, 1) := by decide +kernel
theorem dX7_turnedPairs_59 : decode cX7_turnedPairs 59 = .ok (.getfield 17, 3) := by decide +kernel
theorem dX7_turnedPairs_62 : decode cX7_turnedPairs 62 = .ok (.iload_n 3, 1) := by decide +kernel
theorem dX7_turnedPairs_63 : decode cX7_turnedPairs 63 = .ok (.iaload, 1) := by decide +kernel
theorem dX7_turnedPairs_64 : decode cX7_turnedPairs 64 = .ok (.aload_n 0, 1) := by decide +kernel
theorem dX7_turnedPairs_65 : decode cX7_turnedPairs 65 = .ok (.getfield 17, 3) := by decide +kernel
theorem dX7_turnedPairs_68 : decode cX7_turnedPairs 68 = .ok (.iload 4, 2) := by decide +kernel
theorem dX7_turnedPairs_70 : decode cX7_turnedPairs 70 = .ok (.iaload, 1) := by decide +kernel
theorem dX7_turnedPairs_71 : decode cX7_turnedPairs 71 = .ok (.if_icmp .ge 7, 3) := by decide +kernel
theorem dX7_turnedPairs_74 : decode cX7_turnedPairs 74 = .ok (.iconst 1, 1) := by decide +kernel
theorem dX7_turnedPairs_75 : decode cX7_turnedPairs 75 = .ok (.goto 4, 3) := by decide +kernel
theorem dX7_turnedPairs_78 : decode cX7_turnedPairs 78 = .ok (.iconst 0, 1) := by decide +kernel
theorem dX7_turnedPairs_79 : decode cX7_turnedPairs 79 = .ok (.aload_n 0, 1) := by decide +kernel
theorem dX7_turnedPairs_80 : decode cX7_turnedPairs 80 = .ok (.iload_n 3, 1) := by decide +kernel
theorem dX7_turnedPairs_81 : decode cX7_turnedPairs 81 = .ok (.iload 4, 2) := by decide +kernel
theorem dX7_turnedPairs_83 : decode cX7_turnedPairs 83 = .ok (.invokevirtual 70, 3) := by decide +kernel
theorem dX7_turnedPairs_86 : decode cX7_turnedPairs 86 = .ok (.if_icmp .eq 6, 3) := by decide +kernel
theorem dX7_turnedPairs_89 : decode cX7_turnedPairs 89 = .ok (.iinc 2 1, 3) := by decide +kernel
theorem dX7_turnedPairs_92 : decode cX7_turnedPairs 92 = .ok (.iinc 4 1, 3) := by decide +kernel
theorem dX7_turnedPairs_95 : decode cX7_turnedPairs 95 = .ok (.goto (-46), 3) := by decide +kernel
theorem dX7_turnedPairs_98 : decode cX7_turnedPairs 98 = .ok (.iinc 3 1, 3) := by decide +kernel
theorem dX7_turnedPairs_101 : decode cX7_turnedPairs 101 = .ok (.goto (-65), 3) := by decide +kernel
theorem dX7_turnedPairs_104 : decode cX7_turnedPairs 104 = .ok (.iload_n 2, 1) := by decide +kernel
theorem dX7_turnedPairs_105 : decode cX7_turnedPairs 105 = .ok (.ireturn, 1) := by decide +kernel
theorem dX7_findMajorities_0 : decode cX7_findMajorities 0 = .ok (.iconst 0, 1) := by decide +kernel
theorem dX7_findMajorities_1 : decode cX7_findMajorities 1 = .ok (.istore_n 1, 1) := by decide +kernel
theorem dX7_findMajorities_2 : decode cX7_findMajorities 2 = .ok (.iload_n 1, 1) := by decide +kernel
theorem dX7_findMajorities_3 : decode cX7_findMajorities 3 = .ok (.aload_n 0, 1) := by decide +kernel
theorem dX7_findMajorities_4 : decode cX7_findMajorities 4 = .ok (.getfield 33, 3) := by decide +kernel
theorem dX7_findMajorities_7 : decode cX7_findMajorities 7 = .ok (.getfield 104, 3) := by decide +kernel
theorem dX7_findMajorities_10 : decode cX7_findMajorities 10 = .ok (.if_icmp .ge 48, 3) := by decide +kernel
theorem dX7_findMajorities_13 : decode cX7_findMajorities 13 = .ok (.aload_n 0, 1) := by decide +kernel
theorem dX7_findMajorities_14 : decode cX7_findMajorities 14 = .ok (.iconst 1, 1) := by decide +kernel
theorem dX7_findMajorities_15 : decode cX7_findMajorities 15 = .ok (.iload_n 1, 1) := by decide +kernel
theorem dX7_findMajorities_16 : decode cX7_findMajorities 16 = .ok (.ishl, 1) := by decide +kernel
theorem dX7_findMajorities_17 : decode cX7_findMajorities 17 = .ok (.invokevirtual 115, 3) := by decide +kernel
theorem dX7_findMajorities_20 : decode cX7_findMajorities 20 = .ok (.iconst 0, 1) := by decide +kernel
theorem dX7_findMajorities_21 : decode cX7_findMajorities 21 = .ok (.istore_n 2, 1) := by decide +kernel
theorem dX7_findMajorities_22 : decode cX7_findMajorities 22 = .ok (.iload_n 2, 1) := by decide +kernel
theorem dX7_findMajorities_23 : decode cX7_findMajorities 23 = .ok (.aload_n 0, 1) := by decide +kernel
theorem dX7_findMajorities_24 : decode cX7_findMajorities 24 = .ok (.invokevirtual 52, 3) := by decide +kernel
theorem dX7_findMajorities_27 : decode cX7_findMajorities 27 = .ok (.if_icmp .ge 25, 3) := by decide +kernel
theorem dX7_findMajorities_30 : decode cX7_findMajorities 30 = .ok (.aload_n 0, 1) := by decide +kernel
theorem dX7_findMajorities_31 : decode cX7_findMajorities 31 = .ok (.getfield 21, 3) := by decide +kernel
theorem dX7_findMajorities_34 : decode cX7_findMajorities 34 = .ok (.iload_n 2, 1) := by decide +kernel
theorem dX7_findMajorities_35 : decode cX7_findMajorities 35 = .ok (.bipush 9, 2) := by decide +kernel
theorem dX7_findMajorities_37 : decode cX7_findMajorities 37 = .ok (.imul, 1) := by decide +kernel
theorem dX7_findMajorities_38 : decode cX7_findMajorities 38 = .ok (.iload_n 1, 1) := by decide +kernel
theorem dX7_findMajorities_39 : decode cX7_findMajorities 39 = .ok (.iadd, 1) := by decide +kernel
theorem dX7_findMajorities_40 : decode cX7_findMajorities 40 = .ok (.aload_n 0, 1) := by decide +kernel
theorem dX7_findMajorities_41 : decode cX7_findMajorities 41 = .ok (.iload_n 2, 1) := by decide +kernel
theorem dX7_findMajorities_42 : decode cX7_findMajorities 42 = .ok (.invokevirtual 74, 3) := by decide +kernel
theorem dX7_findMajorities_45 : decode cX7_findMajorities 45 = .ok (.iastore, 1) := by decide +kernel
theorem dX7_findMajorities_46 : decode cX7_findMajorities 46 = .ok (.iinc 2 1, 3) := by decide +kernel
theorem dX7_findMajorities_49 : decode cX7_findMajorities 49 = .ok (.goto (-27), 3) := by decide +kernel
theorem dX7_findMajorities_52 : decode cX7_findMajorities 52 = .ok (.iinc 1 1, 3) := by decide +kernel
theorem dX7_findMajorities_55 : decode cX7_findMajorities 55 = .ok (.goto (-53), 3) := by decide +kernel
theorem dX7_findMajorities_58 : decode cX7_findMajorities 58 = .ok (.iconst 0, 1) := by decide +kernel
theorem dX7_findMajorities_59 : decode cX7_findMajorities 59 = .ok (.istore_n 1, 1) := by decide +kernel
theorem dX7_findMajorities_60 : decode cX7_findMajorities 60 = .ok (.iload_n 1, 1) := by decide +kernel
theorem dX7_findMajorities_61 : decode cX7_findMajorities 61 = .ok (.aload_n 0, 1) := by decide +kernel
theorem dX7_findMajorities_62 : decode cX7_findMajorities 62 = .ok (.invokevirtual 52, 3) := by decide +kernel
theorem dX7_findMajorities_65 : decode cX7_findMajorities 65 = .ok (.if_icmp .ge 14, 3) := by decide +kernel
theorem dX7_findMajorities_68 : decode cX7_findMajorities 68 = .ok (.aload_n 0, 1) := by decide +kernel
theorem dX7_findMajorities_69 : decode cX7_findMajorities 69 = .ok (.iload_n 1, 1) := by decide +kernel
theorem dX7_findMajorities_70 : decode cX7_findMajorities 70 = .ok (.invokevirtual 116, 3) := by decide +kernel
theorem dX7_findMajorities_73 : decode cX7_findMajorities 73 = .ok (.iinc 1 1, 3) := by decide +kernel
theorem dX7_findMajorities_76 : decode cX7_findMajorities 76 = .ok (.goto (-16), 3) := by decide +kernel
theorem dX7_findMajorities_79 : decode cX7_findMajorities 79 = .ok (.return_, 1) := by decide +kernel
theorem dX7_findMajority_0 : decode cX7_findMajority 0 = .ok (.aload_n 0, 1) := by decide +kernel
theorem dX7_findMajority_1 : decode cX7_findMajority 1 = .ok (.getfield 30, 3) := by decide +kernel
theorem dX7_findMajority_4 : decode cX7_findMajority 4 = .ok (.iload_n 1, 1) := by decide +kernel
theorem dX7_findMajority_5 : decode cX7_findMajority 5 = .ok (.iconst 0, 1) := by decide +kernel
theorem dX7_findMajority_6 : decode cX7_findMajority 6 = .ok (.iastore, 1) := by decide +kernel
theorem dX7_findMajority_7 : decode cX7_findMajority 7 = .ok (.iconst 0, 1) := by decide +kernel
theorem dX7_findMajority_8 : decode cX7_findMajority 8 = .ok (.istore_n 2, 1) := by decide +kernel
theorem dX7_findMajority_9 : decode cX7_findMajority 9 = .ok (.iload_n 2, 1) := by decide +kernel
theorem dX7_findMajority_10 : decode cX7_findMajority 10 = .ok (.aload_n 0, 1) := by decide +kernel
theorem dX7_findMajority_11 : decode cX7_findMajority 11 = .ok (.getfield 33, 3) := by decide +kernel
theorem dX7_findMajority_14 : decode cX7_findMajority 14 = .ok (.getfield 104, 3) := by decide +kernel
theorem dX7_findMajority_17 : decode cX7_findMajority 17 = .ok (.if_icmp .ge 29, 3) := by decide +kernel
theorem dX7_findMajority_20 : decode cX7_findMajority 20 = .ok (.aload_n 0, 1) := by decide +kernel
theorem dX7_findMajority_21 : decode cX7_findMajority 21 = .ok (.getfield 30, 3) := by decide +kernel
theorem dX7_findMajority_24 : decode cX7_findMajority 24 = .ok (.iload_n 1, 1) := by decide +kernel
theorem dX7_findMajority_25 : decode cX7_findMajority 25 = .ok (.dup2, 1) := by decide +kernel
theorem dX7_findMajority_26 : decode cX7_findMajority 26 = .ok (.iaload, 1) := by decide +kernel
theorem dX7_findMajority_27 : decode cX7_findMajority 27 = .ok (.aload_n 0, 1) := by decide +kernel
theorem dX7_findMajority_28 : decode cX7_findMajority 28 = .ok (.getfield 21, 3) := by decide +kernel
theorem dX7_findMajority_31 : decode cX7_findMajority 31 = .ok (.iload_n 1, 1) := by decide +kernel
theorem dX7_findMajority_32 : decode cX7_findMajority 32 = .ok (.bipush 9, 2) := by decide +kernel
theorem dX7_findMajority_34 : decode cX7_findMajority 34 = .ok (.imul, 1) := by decide +kernel
theorem dX7_findMajority_35 : decode cX7_findMajority 35 = .ok (.iload_n 2, 1) := by decide +kernel
theorem dX7_findMajority_36 : decode cX7_findMajority 36 = .ok (.iadd, 1) := by decide +kernel
theorem dX7_findMajority_37 : decode cX7_findMajority 37 = .ok (.iaload, 1) := by decide +kernel
theorem dX7_findMajority_38 : decode cX7_findMajority 38 = .ok (.iadd, 1) := by decide +kernel
theorem dX7_findMajority_39 : decode cX7_findMajority 39 = .ok (.iastore, 1) := by decide +kernel
theorem dX7_findMajority_40 : decode cX7_findMajority 40 = .ok (.iinc 2 1, 3) := by decide +kernel
theorem dX7_findMajority_43 : decode cX7_findMajority 43 = .ok (.goto (-34), 3) := by decide +kernel
theorem dX7_findMajority_46 : decode cX7_findMajority 46 = .ok (.iconst 0, 1) := by decide +kernel
theorem dX7_findMajority_47 : decode cX7_findMajority 47 = .ok (.istore_n 2, 1) := by decide +kernel
theorem dX7_findMajority_48 : decode cX7_findMajority 48 = .ok (.iload_n 2, 1) := by decide +kernel
theorem dX7_findMajority_49 : decode cX7_findMajority 49 = .ok (.aload_n 0, 1) := by decide +kernel
theorem dX7_findMajority_50 : decode cX7_findMajority 50 = .ok (.invokevirtual 52, 3) := by decide +kernel
theorem dX7_findMajority_53 : decode cX7_findMajority 53 = .ok (.if_icmp .ge 44, 3) := by decide +kernel
theorem dX7_findMajority_56 : decode cX7_findMajority 56 = .ok (.aload_n 0, 1) := by decide +kernel
theorem dX7_findMajority_57 : decode cX7_findMajority 57 = .ok (.iload_n 1, 1) := by decide +kernel
theorem dX7_findMajority_58 : decode cX7_findMajority 58 = .ok (.iload_n 2, 1) := by decide +kernel
theorem dX7_findMajority_59 : decode cX7_findMajority 59 = .ok (.invokevirtual 119, 3) := by decide +kernel
theorem dX7_findMajority_62 : decode cX7_findMajority 62 = .ok (.istore_n 3, 1) := by decide +kernel
theorem dX7_findMajority_63 : decode cX7_findMajority 63 = .ok (.iconst 2, 1) := by decide +kernel
theorem dX7_findMajority_64 : decode cX7_findMajority 64 = .ok (.iload_n 3, 1) := by decide +kernel
theorem dX7_findMajority_65 : decode cX7_findMajority 65 = .ok (.imul, 1) := by decide +kernel
theorem dX7_findMajority_66 : decode cX7_findMajority 66 = .ok (.aload_n 0, 1) := by decide +kernel
theorem dX7_findMajority_67 : decode cX7_findMajority 67 = .ok (.getfield 33, 3) := by decide +kernel
theorem dX7_findMajority_70 : decode cX7_findMajority 70 = .ok (.getfield 104, 3) := by decide +kernel
theorem dX7_findMajority_73 : decode cX7_findMajority 73 = .ok (.if_icmp .le 18, 3) := by decide +kernel
theorem dX7_findMajority_76 : decode cX7_findMajority 76 = .ok (.aload_n 0, 1) := by decide +kernel
theorem dX7_findMajority_77 : decode cX7_findMajority 77 = .ok (.getfield 24, 3) := by decide +kernel
theorem dX7_findMajority_80 : decode cX7_findMajority 80 = .ok (.iload_n 1, 1) := by decide +kernel
theorem dX7_findMajority_81 : decode cX7_findMajority 81 = .ok (.iload_n 2, 1) := by decide +kernel
theorem dX7_findMajority_82 : decode cX7_findMajority 82 = .ok (.iastore, 1) := by decide +kernel
theorem dX7_findMajority_83 : decode cX7_findMajority 83 = .ok (.aload_n 0, 1) := by decide +kernel
theorem dX7_findMajority_84 : decode cX7_findMajority 84 = .ok (.getfield 27, 3) := by decide +kernel
theorem dX7_findMajority_87 : decode cX7_findMajority 87 = .ok (.iload_n 1, 1) := by decide +kernel
theorem dX7_findMajority_88 : decode cX7_findMajority 88 = .ok (.iload_n 3, 1) := by decide +kernel
theorem dX7_findMajority_89 : decode cX7_findMajority 89 = .ok (.iastore, 1) := by decide +kernel
theorem dX7_findMajority_90 : decode cX7_findMajority 90 = .ok (.return_, 1) := by decide +kernel
theorem dX7_findMajority_91 : decode cX7_findMajority 91 = .ok (.iinc 2 1, 3) := by decide +kernel
theorem dX7_findMajority_94 : decode cX7_findMajority 94 = .ok (.goto (-46), 3) := by decide +kernel
theorem dX7_findMajority_97 : decode cX7_findMajority 97 = .ok (.return_, 1) := by decide +kernel
theorem dX7_backersFor_0 : decode cX7_backersFor 0 = .ok (.iconst 0, 1) := by decide +kernel
theorem dX7_backersFor_1 : decode cX7_backersFor 1 = .ok (.istore_n 3, 1) := by decide +kernel
theorem dX7_backersFor_2 : decode cX7_backersFor 2 = .ok (.iconst 0, 1) := by decide +kernel
theorem dX7_backersFor_3 : decode cX7_backersFor 3 = .ok (.istore 4, 2) := by decide +kernel
theorem dX7_backersFor_5 : decode cX7_backersFor 5 = .ok (.iload 4, 2) := by decide +kernel
theorem dX7_backersFor_7 : decode cX7_backersFor 7 = .ok (.aload_n 0, 1) := by decide +kernel
theorem dX7_backersFor_8 : decode cX7_backersFor 8 = .ok (.getfield 33, 3) := by decide +kernel
theorem dX7_backersFor_11 : decode cX7_backersFor 11 = .ok (.getfield 104, 3) := by decide +kernel
theorem dX7_backersFor_14 : decode cX7_backersFor 14 = .ok (.if_icmp .ge 28, 3) := by decide +kernel
theorem dX7_backersFor_17 : decode cX7_backersFor 17 = .ok (.aload_n 0, 1) := by decide +kernel
theorem dX7_backersFor_18 : decode cX7_backersFor 18 = .ok (.getfield 21, 3) := by decide +kernel
theorem dX7_backersFor_21 : decode cX7_backersFor 21 = .ok (.iload_n 1, 1) := by decide +kernel
theorem dX7_backersFor_22 : decode cX7_backersFor 22 = .ok (.bipush 9, 2) := by decide +kernel
theorem dX7_backersFor_24 : decode cX7_backersFor 24 = .ok (.imul, 1) := by decide +kernel
theorem dX7_backersFor_25 : decode cX7_backersFor 25 = .ok (.iload 4, 2) := by decide +kernel
theorem dX7_backersFor_27 : decode cX7_backersFor 27 = .ok (.iadd, 1) := by decide +kernel
theorem dX7_backersFor_28 : decode cX7_backersFor 28 = .ok (.iaload, 1) := by decide +kernel
theorem dX7_backersFor_29 : decode cX7_backersFor 29 = .ok (.iload_n 2, 1) := by decide +kernel
theorem dX7_backersFor_30 : decode cX7_backersFor 30 = .ok (.if_icmp .gt 6, 3) := by decide +kernel
theorem dX7_backersFor_33 : decode cX7_backersFor 33 = .ok (.iinc 3 1, 3) := by decide +kernel
theorem dX7_backersFor_36 : decode cX7_backersFor 36 = .ok (.iinc 4 1, 3) := by decide +kernel
theorem dX7_backersFor_39 : decode cX7_backersFor 39 = .ok (.goto (-34), 3) := by decide +kernel
theorem dX7_backersFor_42 : decode cX7_backersFor 42 = .ok (.iload_n 3, 1) := by decide +kernel
theorem dX7_backersFor_43 : decode cX7_backersFor 43 = .ok (.ireturn, 1) := by decide +kernel
theorem dX7_isAheadByMajorities_0 : decode cX7_isAheadByMajorities 0 = .ok (.aload_n 0, 1) := by decide +kernel
theorem dX7_isAheadByMajorities_1 : decode cX7_isAheadByMajorities 1 = .ok (.getfield 24, 3) := by decide +kernel
theorem dX7_isAheadByMajorities_4 : decode cX7_isAheadByMajorities 4 = .ok (.iload_n 1, 1) := by decide +kernel
theorem dX7_isAheadByMajorities_5 : decode cX7_isAheadByMajorities 5 = .ok (.iaload, 1) := by decide +kernel
theorem dX7_isAheadByMajorities_6 : decode cX7_isAheadByMajorities 6 = .ok (.aload_n 0, 1) := by decide +kernel
theorem dX7_isAheadByMajorities_7 : decode cX7_isAheadByMajorities 7 = .ok (.getfield 24, 3) := by decide +kernel
theorem dX7_isAheadByMajorities_10 : decode cX7_isAheadByMajorities 10 = .ok (.iload_n 2, 1) := by decide +kernel
theorem dX7_isAheadByMajorities_11 : decode cX7_isAheadByMajorities 11 = .ok (.iaload, 1) := by decide +kernel
theorem dX7_isAheadByMajorities_12 : decode cX7_isAheadByMajorities 12 = .ok (.if_icmp .eq 24, 3) := by decide +kernel
theorem dX7_isAheadByMajorities_15 : decode cX7_isAheadByMajorities 15 = .ok (.aload_n 0, 1) := by decide +kernel
theorem dX7_isAheadByMajorities_16 : decode cX7_isAheadByMajorities 16 = .ok (.getfield 24, 3) := by decide +kernel
theorem dX7_isAheadByMajorities_19 : decode cX7_isAheadByMajorities 19 = .ok (.iload_n 1, 1) := by decide +kernel
theorem dX7_isAheadByMajorities_20 : decode cX7_isAheadByMajorities 20 = .ok (.iaload, 1) := by decide +kernel
theorem dX7_isAheadByMajorities_21 : decode cX7_isAheadByMajorities 21 = .ok (.aload_n 0, 1) := by decide +kernel
theorem dX7_isAheadByMajorities_22 : decode cX7_isAheadByMajorities 22 = .ok (.getfield 24, 3) := by decide +kernel
theorem dX7_isAheadByMajorities_25 : decode cX7_isAheadByMajorities 25 = .ok (.iload_n 2, 1) := by decide +kernel
theorem dX7_isAheadByMajorities_26 : decode cX7_isAheadByMajorities 26 = .ok (.iaload, 1) := by decide +kernel
theorem dX7_isAheadByMajorities_27 : decode cX7_isAheadByMajorities 27 = .ok (.if_icmp .ge 7, 3) := by decide +kernel
theorem dX7_isAheadByMajorities_30 : decode cX7_isAheadByMajorities 30 = .ok (.iconst 1, 1) := by decide +kernel
theorem dX7_isAheadByMajorities_31 : decode cX7_isAheadByMajorities 31 = .ok (.goto 4, 3) := by decide +kernel
theorem dX7_isAheadByMajorities_34 : decode cX7_isAheadByMajorities 34 = .ok (.iconst 0, 1) := by decide +kernel
theorem dX7_isAheadByMajorities_35 : decode cX7_isAheadByMajorities 35 = .ok (.ireturn, 1) := by decide +kernel
theorem dX7_isAheadByMajorities_36 : decode cX7_isAheadByMajorities 36 = .ok (.aload_n 0, 1) := by decide +kernel
theorem dX7_isAheadByMajorities_37 : decode cX7_isAheadByMajorities 37 = .ok (.getfield 27, 3) := by decide +kernel
theorem dX7_isAheadByMajorities_40 : decode cX7_isAheadByMajorities 40 = .ok (.iload_n 1, 1) := by decide +kernel
theorem dX7_isAheadByMajorities_41 : decode cX7_isAheadByMajorities 41 = .ok (.iaload, 1) := by decide +kernel
theorem dX7_isAheadByMajorities_42 : decode cX7_isAheadByMajorities 42 = .ok (.aload_n 0, 1) := by decide +kernel
theorem dX7_isAheadByMajorities_43 : decode cX7_isAheadByMajorities 43 = .ok (.getfield 27, 3) := by decide +kernel
theorem dX7_isAheadByMajorities_46 : decode cX7_isAheadByMajorities 46 = .ok (.iload_n 2, 1) := by decide +kernel
theorem dX7_isAheadByMajorities_47 : decode cX7_isAheadByMajorities 47 = .ok (.iaload, 1) := by decide +kernel
theorem dX7_isAheadByMajorities_48 : decode cX7_isAheadByMajorities 48 = .ok (.if_icmp .eq 24, 3) := by decide +kernel
theorem dX7_isAheadByMajorities_51 : decode cX7_isAheadByMajorities 51 = .ok (.aload_n 0, 1) := by decide +kernel
theorem dX7_isAheadByMajorities_52 : decode cX7_isAheadByMajorities 52 = .ok (.getfield 27, 3) := by decide +kernel
theorem dX7_isAheadByMajorities_55 : decode cX7_isAheadByMajorities 55 = .ok (.iload_n 1, 1) := by decide +kernel
theorem dX7_isAheadByMajorities_56 : decode cX7_isAheadByMajorities 56 = .ok (.iaload, 1) := by decide +kernel
theorem dX7_isAheadByMajorities_57 : decode cX7_isAheadByMajorities 57 = .ok (.aload_n 0, 1) := by decide +kernel
theorem dX7_isAheadByMajorities_58 : decode cX7_isAheadByMajorities 58 = .ok (.getfield 27, 3) := by decide +kernel
theorem dX7_isAheadByMajorities_61 : decode cX7_isAheadByMajorities 61 = .ok (.iload_n 2, 1) := by decide +kernel
theorem dX7_isAheadByMajorities_62 : decode cX7_isAheadByMajorities 62 = .ok (.iaload, 1) := by decide +kernel
theorem dX7_isAheadByMajorities_63 : decode cX7_isAheadByMajorities 63 = .ok (.if_icmp .le 7, 3) := by decide +kernel
theorem dX7_isAheadByMajorities_66 : decode cX7_isAheadByMajorities 66 = .ok (.iconst 1, 1) := by decide +kernel
theorem dX7_isAheadByMajorities_67 : decode cX7_isAheadByMajorities 67 = .ok (.goto 4, 3) := by decide +kernel
theorem dX7_isAheadByMajorities_70 : decode cX7_isAheadByMajorities 70 = .ok (.iconst 0, 1) := by decide +kernel
theorem dX7_isAheadByMajorities_71 : decode cX7_isAheadByMajorities 71 = .ok (.ireturn, 1) := by decide +kernel
theorem dX7_isAheadByMajorities_72 : decode cX7_isAheadByMajorities 72 = .ok (.aload_n 0, 1) := by decide +kernel
theorem dX7_isAheadByMajorities_73 : decode cX7_isAheadByMajorities 73 = .ok (.getfield 30, 3) := by decide +kernel
theorem dX7_isAheadByMajorities_76 : decode cX7_isAheadByMajorities 76 = .ok (.iload_n 1, 1) := by decide +kernel
theorem dX7_isAheadByMajorities_77 : decode cX7_isAheadByMajorities 77 = .ok (.iaload, 1) := by decide +kernel
theorem dX7_isAheadByMajorities_78 : decode cX7_isAheadByMajorities 78 = .ok (.aload_n 0, 1) := by decide +kernel
theorem dX7_isAheadByMajorities_79 : decode cX7_isAheadByMajorities 79 = .ok (.getfield 30, 3) := by decide +kernel
theorem dX7_isAheadByMajorities_82 : decode cX7_isAheadByMajorities 82 = .ok (.iload_n 2, 1) := by decide +kernel
theorem dX7_isAheadByMajorities_83 : decode cX7_isAheadByMajorities 83 = .ok (.iaload, 1) := by decide +kernel
theorem dX7_isAheadByMajorities_84 : decode cX7_isAheadByMajorities 84 = .ok (.if_icmp .eq 24, 3) := by decide +kernel
theorem dX7_isAheadByMajorities_87 : decode cX7_isAheadByMajorities 87 = .ok (.aload_n 0, 1) := by decide +kernel
theorem dX7_isAheadByMajorities_88 : decode cX7_isAheadByMajorities 88 = .ok (.getfield 30, 3) := by decide +kernel
theorem dX7_isAheadByMajorities_91 : decode cX7_isAheadByMajorities 91 = .ok (.iload_n 1, 1) := by decide +kernel
theorem dX7_isAheadByMajorities_92 : decode cX7_isAheadByMajorities 92 = .ok (.iaload, 1) := by decide +kernel
theorem dX7_isAheadByMajorities_93 : decode cX7_isAheadByMajorities 93 = .ok (.aload_n 0, 1) := by decide +kernel
theorem dX7_isAheadByMajorities_94 : decode cX7_isAheadByMajorities 94 = .ok (.getfield 30, 3) := by decide +kernel
theorem dX7_isAheadByMajorities_97 : decode cX7_isAheadByMajorities 97 = .ok (.iload_n 2, 1) := by decide +kernel
theorem dX7_isAheadByMajorities_98 : decode cX7_isAheadByMajorities 98 = .ok (.iaload, 1) := by decide +kernel
theorem dX7_isAheadByMajorities_99 : decode cX7_isAheadByMajorities 99 = .ok (.if_icmp .ge 7, 3) := by decide +kernel
theorem dX7_isAheadByMajorities_102 : decode cX7_isAheadByMajorities 102 = .ok (.iconst 1, 1) := by decide +kernel
theorem dX7_isAheadByMajorities_103 : decode cX7_isAheadByMajorities 103 = .ok (.goto 4, 3) := by decide +kernel
theorem dX7_isAheadByMajorities_106 : decode cX7_isAheadByMajorities 106 = .ok (.iconst 0, 1) := by decide +kernel
theorem dX7_isAheadByMajorities_107 : decode cX7_isAheadByMajorities 107 = .ok (.ireturn, 1) := by decide +kernel
theorem dX7_isAheadByMajorities_108 : decode cX7_isAheadByMajorities 108 = .ok (.iload_n 1, 1) := by decide +kernel
theorem dX7_isAheadByMajorities_109 : decode cX7_isAheadByMajorities 109 = .ok (.iload_n 2, 1) := by decide +kernel
theorem dX7_isAheadByMajorities_110 : decode cX7_isAheadByMajorities 110 = .ok (.if_icmp .ge 7, 3) := by decide +kernel
theorem dX7_isAheadByMajorities_113 : decode cX7_isAheadByMajorities 113 = .ok (.iconst 1, 1) := by decide +kernel
theorem dX7_isAheadByMajorities_114 : decode cX7_isAheadByMajorities 114 = .ok (.goto 4, 3) := by decide +kernel
theorem dX7_isAheadByMajorities_117 : decode cX7_isAheadByMajorities 117 = .ok (.iconst 0, 1) := by decide +kernel
theorem dX7_isAheadByMajorities_118 : decode cX7_isAheadByMajorities 118 = .ok (.ireturn, 1) := by decide +kernel
theorem dX7_skaterByMajorities_0 : decode cX7_skaterByMajorities 0 = .ok (.iconst 0, 1) := by decide +kernel
theorem dX7_skaterByMajorities_1 : decode cX7_skaterByMajorities 1 = .ok (.istore_n 2, 1) := by decide +kernel
theorem dX7_skaterByMajorities_2 : decode cX7_skaterByMajorities 2 = .ok (.iload_n 2, 1) := by decide +kernel
theorem dX7_skaterByMajorities_3 : decode cX7_skaterByMajorities 3 = .ok (.aload_n 0, 1) := by decide +kernel
theorem dX7_skaterByMajorities_4 : decode cX7_skaterByMajorities 4 = .ok (.invokevirtual 52, 3) := by decide +kernel
theorem dX7_skaterByMajorities_7 : decode cX7_skaterByMajorities 7 = .ok (.if_icmp .ge 55, 3) := by decide +kernel
theorem dX7_skaterByMajorities_10 : decode cX7_skaterByMajorities 10 = .ok (.iconst 0, 1) := by decide +kernel
theorem dX7_skaterByMajorities_11 : decode cX7_skaterByMajorities 11 = .ok (.istore_n 3, 1) := by decide +kernel
theorem dX7_skaterByMajorities_12 : decode cX7_skaterByMajorities 12 = .ok (.iconst 0, 1) := by decide +kernel
theorem dX7_skaterByMajorities_13 : decode cX7_skaterByMajorities 13 = .ok (.istore 4, 2) := by decide +kernel
theorem dX7_skaterByMajorities_15 : decode cX7_skaterByMajorities 15 = .ok (.iload 4, 2) := by decide +kernel
theorem dX7_skaterByMajorities_17 : decode cX7_skaterByMajorities 17 = .ok (.aload_n 0, 1) := by decide +kernel
theorem dX7_skaterByMajorities_18 : decode cX7_skaterByMajorities 18 = .ok (.invokevirtual 52, 3) := by decide +kernel
theorem dX7_skaterByMajorities_21 : decode cX7_skaterByMajorities 21 = .ok (.if_icmp .ge 28, 3) := by decide +kernel
theorem dX7_skaterByMajorities_24 : decode cX7_skaterByMajorities 24 = .ok (.iload 4, 2) := by decide +kernel
theorem dX7_skaterByMajorities_26 : decode cX7_skaterByMajorities 26 = .ok (.iload_n 2, 1) := by decide +kernel
theorem dX7_skaterByMajorities_27 : decode cX7_skaterByMajorities 27 = .ok (.if_icmp .eq 16, 3) := by decide +kernel
theorem dX7_skaterByMajorities_30 : decode cX7_skaterByMajorities 30 = .ok (.aload_n 0, 1) := by decide +kernel
theorem dX7_skaterByMajorities_31 : decode cX7_skaterByMajorities 31 = .ok (.iload 4, 2) := by decide +kernel
theorem dX7_skaterByMajorities_33 : decode cX7_skaterByMajorities 33 = .ok (.iload_n 2, 1) := by decide +kernel
theorem dX7_skaterByMajorities_34 : decode cX7_skaterByMajorities 34 = .ok (.invokevirtual 122, 3) := by decide +kernel
theorem dX7_skaterByMajorities_37 : decode cX7_skaterByMajorities 37 = .ok (.ifCond .eq 6, 3) := by decide +kernel
theorem dX7_skaterByMajorities_40 : decode cX7_skaterByMajorities 40 = .ok (.iinc 3 1, 3) := by decide +kernel
theorem dX7_skaterByMajorities_43 : decode cX7_skaterByMajorities 43 = .ok (.iinc 4 1, 3) := by decide +kernel
theorem dX7_skaterByMajorities_46 : decode cX7_skaterByMajorities 46 = .ok (.goto (-31), 3) := by decide +kernel
theorem dX7_skaterByMajorities_49 : decode cX7_skaterByMajorities 49 = .ok (.iload_n 3, 1) := by decide +kernel
theorem dX7_skaterByMajorities_50 : decode cX7_skaterByMajorities 50 = .ok (.iload_n 1, 1) := by decide +kernel
theorem dX7_skaterByMajorities_51 : decode cX7_skaterByMajorities 51 = .ok (.if_icmp .ne 5, 3) := by decide +kernel
theorem dX7_skaterByMajorities_54 : decode cX7_skaterByMajorities 54 = .ok (.iload_n 2, 1) := by decide +kernel
theorem dX7_skaterByMajorities_55 : decode cX7_skaterByMajorities 55 = .ok (.ireturn, 1) := by decide +kernel
theorem dX7_skaterByMajorities_56 : decode cX7_skaterByMajorities 56 = .ok (.iinc 2 1, 3) := by decide +kernel
theorem dX7_skaterByMajorities_59 : decode cX7_skaterByMajorities 59 = .ok (.goto (-57), 3) := by decide +kernel
theorem dX7_skaterByMajorities_62 : decode cX7_skaterByMajorities 62 = .ok (.iconst (-1), 1) := by decide +kernel
theorem dX7_skaterByMajorities_63 : decode cX7_skaterByMajorities 63 = .ok (.ireturn, 1) := by decide +kernel
theorem dX7_leastGradeAhead_0 : decode cX7_leastGradeAhead 0 = .ok (.aload_n 0, 1) := by decide +kernel
theorem dX7_leastGradeAhead_1 : decode cX7_leastGradeAhead 1 = .ok (.getfield 11, 3) := by decide +kernel
theorem dX7_leastGradeAhead_4 : decode cX7_leastGradeAhead 4 = .ok (.iload_n 1, 1) := by decide +kernel
theorem dX7_leastGradeAhead_5 : decode cX7_leastGradeAhead 5 = .ok (.aaload, 1) := by decide +kernel
theorem dX7_leastGradeAhead_6 : decode cX7_leastGradeAhead 6 = .ok (.iload_n 3, 1) := by decide +kernel
theorem dX7_leastGradeAhead_7 : decode cX7_leastGradeAhead 7 = .ok (.aload_n 0, 1) := by decide +kernel
theorem dX7_leastGradeAhead_8 : decode cX7_leastGradeAhead 8 = .ok (.getfield 33, 3) := by decide +kernel
theorem dX7_leastGradeAhead_11 : decode cX7_leastGradeAhead 11 = .ok (.invokevirtual 78, 3) := by decide +kernel
theorem dX7_leastGradeAhead_14 : decode cX7_leastGradeAhead 14 = .ok (.invokevirtual 101, 3) := by decide +kernel
theorem dX7_leastGradeAhead_17 : decode cX7_leastGradeAhead 17 = .ok (.istore 4, 2) := by decide +kernel
theorem dX7_leastGradeAhead_19 : decode cX7_leastGradeAhead 19 = .ok (.bipush (-5), 2) := by decide +kernel
theorem dX7_leastGradeAhead_21 : decode cX7_leastGradeAhead 21 = .ok (.istore 5, 2) := by decide +kernel
theorem dX7_leastGradeAhead_23 : decode cX7_leastGradeAhead 23 = .ok (.iload 5, 2) := by decide +kernel
theorem dX7_leastGradeAhead_25 : decode cX7_leastGradeAhead 25 = .ok (.iconst 5, 1) := by decide +kernel
theorem dX7_leastGradeAhead_26 : decode cX7_leastGradeAhead 26 = .ok (.if_icmp .gt 45, 3) := by decide +kernel
theorem dX7_leastGradeAhead_29 : decode cX7_leastGradeAhead 29 = .ok (.aload_n 0, 1) := by decide +kernel
theorem dX7_leastGradeAhead_30 : decode cX7_leastGradeAhead 30 = .ok (.getfield 11, 3) := by decide +kernel
theorem dX7_leastGradeAhead_33 : decode cX7_leastGradeAhead 33 = .ok (.iload_n 1, 1) := by decide +kernel
theorem dX7_leastGradeAhead_34 : decode cX7_leastGradeAhead 34 = .ok (.aaload, 1) := by decide +kernel
theorem dX7_leastGradeAhead_35 : decode cX7_leastGradeAhead 35 = .ok (.iload_n 3, 1) := by decide +kernel
theorem dX7_leastGradeAhead_36 : decode cX7_leastGradeAhead 36 = .ok (.iload 4, 2) := by decide +kernel
theorem dX7_leastGradeAhead_38 : decode cX7_leastGradeAhead 38 = .ok (.bipush 100, 2) := by decide +kernel
theorem dX7_leastGradeAhead_40 : decode cX7_leastGradeAhead 40 = .ok (.iload 5, 2) := by decide +kernel
theorem dX7_leastGradeAhead_42 : decode cX7_leastGradeAhead 42 = .ok (.imul, 1) := by decide +kernel
theorem dX7_leastGradeAhead_43 : decode cX7_leastGradeAhead 43 = .ok (.invokevirtual 125, 3) := by decide +kernel
theorem dX7_leastGradeAhead_46 : decode cX7_leastGradeAhead 46 = .ok (.aload_n 0, 1) := by decide +kernel
theorem dX7_leastGradeAhead_47 : decode cX7_leastGradeAhead 47 = .ok (.iload_n 1, 1) := by decide +kernel
theorem dX7_leastGradeAhead_48 : decode cX7_leastGradeAhead 48 = .ok (.iload_n 2, 1) := by decide +kernel
theorem dX7_leastGradeAhead_49 : decode cX7_leastGradeAhead 49 = .ok (.invokevirtual 70, 3) := by decide +kernel
theorem dX7_leastGradeAhead_52 : decode cX7_leastGradeAhead 52 = .ok (.ifCond .eq 6, 3) := by decide +kernel
theorem dX7_leastGradeAhead_55 : decode cX7_leastGradeAhead 55 = .ok (.iload 5, 2) := by decide +kernel
theorem dX7_leastGradeAhead_57 : decode cX7_leastGradeAhead 57 = .ok (.ireturn, 1) := by decide +kernel
theorem dX7_leastGradeAhead_58 : decode cX7_leastGradeAhead 58 = .ok (.bipush 100, 2) := by decide +kernel
theorem dX7_leastGradeAhead_60 : decode cX7_leastGradeAhead 60 = .ok (.iload 5, 2) := by decide +kernel
theorem dX7_leastGradeAhead_62 : decode cX7_leastGradeAhead 62 = .ok (.imul, 1) := by decide +kernel
theorem dX7_leastGradeAhead_63 : decode cX7_leastGradeAhead 63 = .ok (.istore 4, 2) := by decide +kernel
theorem dX7_leastGradeAhead_65 : decode cX7_leastGradeAhead 65 = .ok (.iinc 5 1, 3) := by decide +kernel
theorem dX7_leastGradeAhead_68 : decode cX7_leastGradeAhead 68 = .ok (.goto (-45), 3) := by decide +kernel
theorem dX7_leastGradeAhead_71 : decode cX7_leastGradeAhead 71 = .ok (.bipush (-100), 2) := by decide +kernel
theorem dX7_leastGradeAhead_73 : decode cX7_leastGradeAhead 73 = .ok (.ireturn, 1) := by decide +kernel
theorem dX8_init_0 : decode cX8_init 0 = .ok (.aload_n 0, 1) := by decide +kernel
theorem dX8_init_1 : decode cX8_init 1 = .ok (.invokespecial 3, 3) := by decide +kernel
theorem dX8_init_4 : decode cX8_init 4 = .ok (.aload_n 0, 1) := by decide +kernel
theorem dX8_init_5 : decode cX8_init 5 = .ok (.iconst 0, 1) := by decide +kernel
theorem dX8_init_6 : decode cX8_init 6 = .ok (.putfield 9, 3) := by decide +kernel
theorem dX8_init_9 : decode cX8_init 9 = .ok (.aload_n 0, 1) := by decide +kernel
theorem dX8_init_10 : decode cX8_init 10 = .ok (.iconst 0, 1) := by decide +kernel
theorem dX8_init_11 : decode cX8_init 11 = .ok (.putfield 15, 3) := by decide +kernel
theorem dX8_init_14 : decode cX8_init 14 = .ok (.aload_n 0, 1) := by decide +kernel
theorem dX8_init_15 : decode cX8_init 15 = .ok (.iconst 0, 1) := by decide +kernel
theorem dX8_init_16 : decode cX8_init 16 = .ok (.putfield 18, 3) := by decide +kernel
theorem dX8_init_19 : decode cX8_init 19 = .ok (.aload_n 0, 1) := by decide +kernel
theorem dX8_init_20 : decode cX8_init 20 = .ok (.iconst 0, 1) := by decide +kernel
theorem dX8_init_21 : decode cX8_init 21 = .ok (.putfield 21, 3) := by decide +kernel
theorem dX8_init_24 : decode cX8_init 24 = .ok (.aload_n 0, 1) := by decide +kernel
theorem dX8_init_25 : decode cX8_init 25 = .ok (.iconst 0, 1) := by decide +kernel
theorem dX8_init_26 : decode cX8_init 26 = .ok (.putfield 24, 3) := by decide +kernel
theorem dX8_init_29 : decode cX8_init 29 = .ok (.aload_n 0, 1) := by decide +kernel
theorem dX8_init_30 : decode cX8_init 30 = .ok (.iconst 0, 1) := by decide +kernel
theorem dX8_init_31 : decode cX8_init 31 = .ok (.putfield 27, 3) := by decide +kernel
theorem dX8_init_34 : decode cX8_init 34 = .ok (.aload_n 0, 1) := by decide +kernel
theorem dX8_init_35 : decode cX8_init 35 = .ok (.iconst 0, 1) := by decide +kernel
theorem dX8_init_36 : decode cX8_init 36 = .ok (.putfield 30, 3) := by decide +kernel
theorem dX8_init_39 : decode cX8_init 39 = .ok (.aload_n 0, 1) := by decide +kernel
theorem dX8_init_40 : decode cX8_init 40 = .ok (.bipush 12, 2) := by decide +kernel
theorem dX8_init_42 : decode cX8_init 42 = .ok (.newarray .int, 2) := by decide +kernel
theorem dX8_init_44 : decode cX8_init 44 = .ok (.putfield 33, 3) := by decide +kernel
theorem dX8_init_47 : decode cX8_init 47 = .ok (.aload_n 0, 1) := by decide +kernel
theorem dX8_init_48 : decode cX8_init 48 = .ok (.bipush 12, 2) := by decide +kernel
theorem dX8_init_50 : decode cX8_init 50 = .ok (.newarray .int, 2) := by decide +kernel
theorem dX8_init_52 : decode cX8_init 52 = .ok (.putfield 37, 3) := by decide +kernel
theorem dX8_init_55 : decode cX8_init 55 = .ok (.aload_n 0, 1) := by decide +kernel
theorem dX8_init_56 : decode cX8_init 56 = .ok (.bipush 12, 2) := by decide +kernel
theorem dX8_init_58 : decode cX8_init 58 = .ok (.newarray .int, 2) := by decide +kernel
theorem dX8_init_60 : decode cX8_init 60 = .ok (.putfield 40, 3) := by decide +kernel
theorem dX8_init_63 : decode cX8_init 63 = .ok (.aload_n 0, 1) := by decide +kernel
theorem dX8_init_64 : decode cX8_init 64 = .ok (.bipush 10, 2) := by decide +kernel
theorem dX8_init_66 : decode cX8_init 66 = .ok (.newarray .int, 2) := by decide +kernel
theorem dX8_init_68 : decode cX8_init 68 = .ok (.putfield 45, 3) := by decide +kernel
theorem dX8_init_71 : decode cX8_init 71 = .ok (.aload_n 0, 1) := by decide +kernel
theorem dX8_init_72 : decode cX8_init 72 = .ok (.bipush 10, 2) := by decide +kernel
theorem dX8_init_74 : decode cX8_init 74 = .ok (.newarray .int, 2) := by decide +kernel
theorem dX8_init_76 : decode cX8_init 76 = .ok (.putfield 48, 3) := by decide +kernel
theorem dX8_init_79 : decode cX8_init 79 = .ok (.aload_n 0, 1) := by decide +kernel
theorem dX8_init_80 : decode cX8_init 80 = .ok (.sipush 135, 3) := by decide +kernel
theorem dX8_init_83 : decode cX8_init 83 = .ok (.newarray .int, 2) := by decide +kernel
theorem dX8_init_85 : decode cX8_init 85 = .ok (.putfield 51, 3) := by decide +kernel
theorem dX8_init_88 : decode cX8_init 88 = .ok (.aload_n 0, 1) := by decide +kernel
theorem dX8_init_89 : decode cX8_init 89 = .ok (.aload_n 1, 1) := by decide +kernel
theorem dX8_init_90 : decode cX8_init 90 = .ok (.putfield 54, 3) := by decide +kernel
theorem dX8_init_93 : decode cX8_init 93 = .ok (.aload_n 0, 1) := by decide +kernel
theorem dX8_init_94 : decode cX8_init 94 = .ok (.aload_n 1, 1) := by decide +kernel
theorem dX8_init_95 : decode cX8_init 95 = .ok (.getfield 58, 3) := by decide +kernel
theorem dX8_init_98 : decode cX8_init 98 = .ok (.iload_n 2, 1) := by decide +kernel
theorem dX8_init_99 : decode cX8_init 99 = .ok (.aaload, 1) := by decide +kernel
theorem dX8_init_100 : decode cX8_init 100 = .ok (.putfield 64, 3) := by decide +kernel
theorem dX8_init_103 : decode cX8_init 103 = .ok (.return_, 1) := by decide +kernel
theorem dX8_weigh_0 : decode cX8_weigh 0 = .ok (.aload_n 0, 1) := by decide +kernel
theorem dX8_weigh_1 : decode cX8_weigh 1 = .ok (.aload_n 1, 1) := by decide +kernel
theorem dX8_weigh_2 : decode cX8_weigh 2 = .ok (.putfield 54, 3) := by decide +kernel
theorem dX8_weigh_5 : decode cX8_weigh 5 = .ok (.aload_n 0, 1) := by decide +kernel
theorem dX8_weigh_6 : decode cX8_weigh 6 = .ok (.aload_n 1, 1) := by decide +kernel
theorem dX8_weigh_7 : decode cX8_weigh 7 = .ok (.getfield 58, 3) := by decide +kernel
theorem dX8_weigh_10 : decode cX8_weigh 10 = .ok (.iload_n 2, 1) := by decide +kernel
theorem dX8_weigh_11 : decode cX8_weigh 11 = .ok (.aaload, 1) := by decide +kernel
theorem dX8_weigh_12 : decode cX8_weigh 12 = .ok (.putfield 64, 3) := by decide +kernel
theorem dX8_weigh_15 : decode cX8_weigh 15 = .ok (.aload_n 0, 1) := by decide +kernel
theorem dX8_weigh_16 : decode cX8_weigh 16 = .ok (.iconst 0, 1) := by decide +kernel
theorem dX8_weigh_17 : decode cX8_weigh 17 = .ok (.putfield 9, 3) := by decide +kernel
theorem dX8_weigh_20 : decode cX8_weigh 20 = .ok (.aload_n 0, 1) := by decide +kernel
theorem dX8_weigh_21 : decode cX8_weigh 21 = .ok (.iconst 0, 1) := by decide +kernel
theorem dX8_weigh_22 : decode cX8_weigh 22 = .ok (.putfield 15, 3) := by decide +kernel
theorem dX8_weigh_25 : decode cX8_weigh 25 = .ok (.aload_n 0, 1) := by decide +kernel
theorem dX8_weigh_26 : decode cX8_weigh 26 = .ok (.iconst 0, 1) := by decide +kernel
theorem dX8_weigh_27 : decode cX8_weigh 27 = .ok (.putfield 18, 3) := by decide +kernel
theorem dX8_weigh_30 : decode cX8_weigh 30 = .ok (.aload_n 0, 1) := by decide +kernel
theorem dX8_weigh_31 : decode cX8_weigh 31 = .ok (.getfield 48, 3) := by decide +kernel
theorem dX8_weigh_34 : decode cX8_weigh 34 = .ok (.iconst 0, 1) := by decide +kernel
theorem dX8_weigh_35 : decode cX8_weigh 35 = .ok (.invokestatic 68, 3) := by decide +kernel
theorem dX8_weigh_38 : decode cX8_weigh 38 = .ok (.aload_n 0, 1) := by decide +kernel
theorem dX8_weigh_39 : decode cX8_weigh 39 = .ok (.getfield 45, 3) := by decide +kernel
theorem dX8_weigh_42 : decode cX8_weigh 42 = .ok (.iconst 0, 1) := by decide +kernel
theorem dX8_weigh_43 : decode cX8_weigh 43 = .ok (.invokestatic 68, 3) := by decide +kernel
theorem dX8_weigh_46 : decode cX8_weigh 46 = .ok (.aload_n 0, 1) := by decide +kernel
theorem dX8_weigh_47 : decode cX8_weigh 47 = .ok (.getfield 45, 3) := by decide +kernel
theorem dX8_weigh_50 : decode cX8_weigh 50 = .ok (.iconst 1, 1) := by decide +kernel
theorem dX8_weigh_51 : decode cX8_weigh 51 = .ok (.aload_n 0, 1) := by decide +kernel
theorem dX8_weigh_52 : decode cX8_weigh 52 = .ok (.getfield 64, 3) := by decide +kernel
theorem dX8_weigh_55 : decode cX8_weigh 55 = .ok (.getfield 74, 3) := by decide +kernel
theorem dX8_weigh_58 : decode cX8_weigh 58 = .ok (.iastore, 1) := by decide +kernel
theorem dX8_weigh_59 : decode cX8_weigh 59 = .ok (.iconst 0, 1) := by decide +kernel
theorem dX8_weigh_60 : decode cX8_weigh 60 = .ok (.istore 5, 2) := by decide +kernel
theorem dX8_weigh_62 : decode cX8_weigh 62 = .ok (.iload 5, 2) := by decide +kernel
theorem dX8_weigh_64 : decode cX8_weigh 64 = .ok (.aload_n 0, 1) := by decide +kernel
theorem dX8_weigh_65 : decode cX8_weigh 65 = .ok (.getfield 64, 3) := by decide +kernel
theorem dX8_weigh_68 : decode cX8_weigh 68 = .ok (.getfield 79, 3) := by decide +kernel
theorem dX8_weigh_71 : decode cX8_weigh 71 = .ok (.if_icmp .ge 73, 3) := by decide +kernel
theorem dX8_weigh_74 : decode cX8_weigh 74 = .ok (.aload_n 0, 1) := by decide +kernel
theorem dX8_weigh_75 : decode cX8_weigh 75 = .ok (.getfield 64, 3) := by decide +kernel
theorem dX8_weigh_78 : decode cX8_weigh 78 = .ok (.iload 5, 2) := by decide +kernel
theorem dX8_weigh_80 : decode cX8_weigh 80 = .ok (.invokevirtual 82, 3) := by decide +kernel
theorem dX8_weigh_83 : decode cX8_weigh 83 = .ok (.ifCond .eq 55, 3) := by decide +kernel
theorem dX8_weigh_86 : decode cX8_weigh 86 = .ok (.aload_n 0, 1) := by decide +kernel
theorem dX8_weigh_87 : decode cX8_weigh 87 = .ok (.getfield 64, 3) := by decide +kernel
theorem dX8_weigh_90 : decode cX8_weigh 90 = .ok (.getfield 86, 3) := by decide +kernel
theorem dX8_weigh_93 : decode cX8_weigh 93 = .ok (.iload 5, 2) := by decide +kernel
theorem dX8_weigh_95 : decode cX8_weigh 95 = .ok (.iaload, 1) := by decide +kernel
theorem dX8_weigh_96 : decode cX8_weigh 96 = .ok (.iload_n 3, 1) := by decide +kernel
theorem dX8_weigh_97 : decode cX8_weigh 97 = .ok (.if_icmp .gt 41, 3) := by decide +kernel
theorem dX8_weigh_100 : decode cX8_weigh 100 = .ok (.aload_n 0, 1) := by decide +kernel
theorem dX8_weigh_101 : decode cX8_weigh 101 = .ok (.dup, 1) := by decide +kernel
theorem dX8_weigh_102 : decode cX8_weigh 102 = .ok (.getfield 9, 3) := by decide +kernel
theorem dX8_weigh_105 : decode cX8_weigh 105 = .ok (.iconst 1, 1) := by decide +kernel
theorem dX8_weigh_106 : decode cX8_weigh 106 = .ok (.iload 5, 2) := by decide +kernel
theorem dX8_weigh_108 : decode cX8_weigh 108 = .ok (.ishl, 1) := by decide +kernel
theorem dX8_weigh_109 : decode cX8_weigh 109 = .ok (.ior, 1) := by decide +kernel
theorem dX8_weigh_110 : decode cX8_weigh 110 = .ok (.putfield 9, 3) := by decide +kernel
theorem dX8_weigh_113 : decode cX8_weigh 113 = .ok (.aload_n 0, 1) := by decide +kernel
theorem dX8_weigh_114 : decode cX8_weigh 114 = .ok (.iload 5, 2) := by decide +kernel
theorem dX8_weigh_116 : decode cX8_weigh 116 = .ok (.aload_n 0, 1) := by decide +kernel
theorem dX8_weigh_117 : decode cX8_weigh 117 = .ok (.getfield 64, 3) := by decide +kernel
theorem dX8_weigh_120 : decode cX8_weigh 120 = .ok (.getfield 89, 3) := by decide +kernel
theorem dX8_weigh_123 : decode cX8_weigh 123 = .ok (.iload 5, 2) := by decide +kernel
theorem dX8_weigh_125 : decode cX8_weigh 125 = .ok (.iaload, 1) := by decide +kernel
theorem dX8_weigh_126 : decode cX8_weigh 126 = .ok (.iload 4, 2) := by decide +kernel
theorem dX8_weigh_128 : decode cX8_weigh 128 = .ok (.iand, 1) := by decide +kernel
theorem dX8_weigh_129 : decode cX8_weigh 129 = .ok (.invokevirtual 92, 3) := by decide +kernel
theorem dX8_weigh_132 : decode cX8_weigh 132 = .ok (.aload_n 0, 1) := by decide +kernel
theorem dX8_weigh_133 : decode cX8_weigh 133 = .ok (.iload 5, 2) := by decide +kernel
theorem dX8_weigh_135 : decode cX8_weigh 135 = .ok (.invokevirtual 96, 3) := by decide +kernel
theorem dX8_weigh_138 : decode cX8_weigh 138 = .ok (.iinc 5 1, 3) := by decide +kernel
theorem dX8_weigh_141 : decode cX8_weigh 141 = .ok (.goto (-79), 3) := by decide +kernel
theorem dX8_weigh_144 : decode cX8_weigh 144 = .ok (.iconst 0, 1) := by decide +kernel
theorem dX8_weigh_145 : decode cX8_weigh 145 = .ok (.istore 5, 2) := by decide +kernel
theorem dX8_weigh_147 : decode cX8_weigh 147 = .ok (.iload 5, 2) := by decide +kernel
theorem dX8_weigh_149 : decode cX8_weigh 149 = .ok (.iconst 3, 1) := by decide +kernel
theorem dX8_weigh_150 : decode cX8_weigh 150 = .ok (.if_icmp .ge 18, 3) := by decide +kernel
theorem dX8_weigh_153 : decode cX8_weigh 153 = .ok (.aload_n 0, 1) := by decide +kernel
theorem dX8_weigh_154 : decode cX8_weigh 154 = .ok (.bipush 12, 2) := by decide +kernel
theorem dX8_weigh_156 : decode cX8_weigh 156 = .ok (.iload 5, 2) := by decide +kernel
theorem dX8_weigh_158 : decode cX8_weigh 158 = .ok (.iadd, 1) := by decide +kernel
theorem dX8_weigh_159 : decode cX8_weigh 159 = .ok (.invokevirtual 96, 3) := by decide +kernel
theorem dX8_weigh_162 : decode cX8_weigh 162 = .ok (.iinc 5 1, 3) := by decide +kernel
theorem dX8_weigh_165 : decode cX8_weigh 165 = .ok (.goto (-18), 3) := by decide +kernel
theorem dX8_weigh_168 : decode cX8_weigh 168 = .ok (.aload_n 0, 1) := by decide +kernel
theorem dX8_weigh_169 : decode cX8_weigh 169 = .ok (.iconst 0, 1) := by decide +kernel
theorem dX8_weigh_170 : decode cX8_weigh 170 = .ok (.putfield 21, 3) := by decide +kernel
theorem dX8_weigh_173 : decode cX8_weigh 173 = .ok (.iconst 0, 1) := by decide +kernel
theorem dX8_weigh_174 : decode cX8_weigh 174 = .ok (.istore 5, 2) := by decide +kernel
theorem dX8_weigh_176 : decode cX8_weigh 176 = .ok (.iload 5, 2) := by decide +kernel
theorem dX8_weigh_178 : decode cX8_weigh 178 = .ok (.aload_n 0, 1) := by decide +kernel
theorem dX8_weigh_179 : decode cX8_weigh 179 = .ok (.getfield 54, 3) := by decide +kernel
theorem dX8_weigh_182 : decode cX8_weigh 182 = .ok (.getfield 100, 3) := by decide +kernel
theorem dX8_weigh_185 : decode cX8_weigh 185 = .ok (.getfield 104, 3) := by decide +kernel
theorem dX8_weigh_188 : decode cX8_weigh 188 = .ok (.if_icmp .ge 34, 3) := by decide +kernel
theorem dX8_weigh_191 : decode cX8_weigh 191 = .ok (.aload_n 0, 1) := by decide +kernel
theorem dX8_weigh_192 : decode cX8_weigh 192 = .ok (.dup, 1) := by decide +kernel
theorem dX8_weigh_193 : decode cX8_weigh 193 = .ok (.getfield 21, 3) := by decide +kernel
theorem dX8_weigh_196 : decode cX8_weigh 196 = .ok (.aload_n 0, 1) := by decide +kernel
theorem dX8_weigh_197 : decode cX8_weigh 197 = .ok (.getfield 54, 3) := by decide +kernel
theorem dX8_weigh_200 : decode cX8_weigh 200 = .ok (.getfield 100, 3) := by decide +kernel
theorem dX8_weigh_203 : decode cX8_weigh 203 = .ok (.iload 5, 2) := by decide +kernel
theorem dX8_weigh_205 : decode cX8_weigh 205 = .ok (.aload_n 0, 1) := by decide +kernel
theorem dX8_weigh_206 : decode cX8_weigh 206 = .ok (.getfield 45, 3) := by decide +kernel
theorem dX8_weigh_209 : decode cX8_weigh 209 = .ok (.invokevirtual 107, 3) := by decide +kernel
theorem dX8_weigh_212 : decode cX8_weigh 212 = .ok (.iadd, 1) := by decide +kernel
theorem dX8_weigh_213 : decode cX8_weigh 213 = .ok (.putfield 21, 3) := by decide +kernel
theorem dX8_weigh_216 : decode cX8_weigh 216 = .ok (.iinc 5 1, 3) := by decide +kernel
theorem dX8_weigh_219 : decode cX8_weigh 219 = .ok (.goto (-43), 3) := by decide +kernel
theorem dX8_weigh_222 : decode cX8_weigh 222 = .ok (.aload_n 0, 1) := by decide +kernel
theorem dX8_weigh_223 : decode cX8_weigh 223 = .ok (.aload_n 0, 1) := by decide +kernel
theorem dX8_weigh_224 : decode cX8_weigh 224 = .ok (.getfield 54, 3) := by decide +kernel
theorem dX8_weigh_227 : decode cX8_weigh 227 = .ok (.invokevirtual 111, 3) := by decide +kernel
theorem dX8_weigh_230 : decode cX8_weigh 230 = .ok (.invokevirtual 115, 3) := by decide +kernel
theorem dX8_weigh_233 : decode cX8_weigh 233 = .ok (.return_, 1) := by decide +kernel
theorem dX8_weighAttempt_0 : decode cX8_weighAttempt 0 = .ok (.aload_n 0, 1) := by decide +kernel
theorem dX8_weighAttempt_1 : decode cX8_weighAttempt 1 = .ok (.iload_n 1, 1) := by decide +kernel
theorem dX8_weighAttempt_2 : decode cX8_weighAttempt 2 = .ok (.invokevirtual 118, 3) := by decide +kernel
theorem dX8_weighAttempt_5 : decode cX8_weighAttempt 5 = .ok (.istore_n 3, 1) := by decide +kernel
theorem dX8_weighAttempt_6 : decode cX8_weighAttempt 6 = .ok (.iload_n 2, 1) := by decide +kernel
theorem dX8_weighAttempt_7 : decode cX8_weighAttempt 7 = .ok (.iconst 1, 1) := by decide +kernel
theorem dX8_weighAttempt_8 : decode cX8_weighAttempt 8 = .ok (.iand, 1) := by decide +kernel
theorem dX8_weighAttempt_9 : decode cX8_weighAttempt 9 = .ok (.ifCond .eq 22, 3) := by decide +kernel
theorem dX8_weighAttempt_12 : decode cX8_weighAttempt 12 = .ok (.iload_n 3, 1) := by decide +kernel
theorem dX8_weighAttempt_13 : decode cX8_weighAttempt 13 = .ok (.bipush 8, 2) := by decide +kernel
theorem dX8_weighAttempt_15 : decode cX8_weighAttempt 15 = .ok (.imul, 1) := by decide +kernel
theorem dX8_weighAttempt_16 : decode cX8_weighAttempt 16 = .ok (.bipush 10, 2) := by decide +kernel
theorem dX8_weighAttempt_18 : decode cX8_weighAttempt 18 = .ok (.idiv, 1) := by decide +kernel
theorem dX8_weighAttempt_19 : decode cX8_weighAttempt 19 = .ok (.istore_n 3, 1) := by decide +kernel
theorem dX8_weighAttempt_20 : decode cX8_weighAttempt 20 = .ok (.aload_n 0, 1) := by decide +kernel
theorem dX8_weighAttempt_21 : decode cX8_weighAttempt 21 = .ok (.getfield 45, 3) := by decide +kernel
theorem dX8_weighAttempt_24 : decode cX8_weighAttempt 24 = .ok (.bipush 8, 2) := by decide +kernel
theorem dX8_weighAttempt_26 : decode cX8_weighAttempt 26 = .ok (.dup2, 1) := by decide +kernel
theorem dX8_weighAttempt_27 : decode cX8_weighAttempt 27 = .ok (.iaload, 1) := by decide +kernel
theorem dX8_weighAttempt_28 : decode cX8_weighAttempt 28 = .ok (.iconst 1, 1) := by decide +kernel
theorem dX8_weighAttempt_29 : decode cX8_weighAttempt 29 = .ok (.iadd, 1) := by decide +kernel
theorem dX8_weighAttempt_30 : decode cX8_weighAttempt 30 = .ok (.iastore, 1) := by decide +kernel
theorem dX8_weighAttempt_31 : decode cX8_weighAttempt 31 = .ok (.iload_n 2, 1) := by decide +kernel
theorem dX8_weighAttempt_32 : decode cX8_weighAttempt 32 = .ok (.iconst 2, 1) := by decide +kernel
theorem dX8_weighAttempt_33 : decode cX8_weighAttempt 33 = .ok (.iand, 1) := by decide +kernel
theorem dX8_weighAttempt_34 : decode cX8_weighAttempt 34 = .ok (.ifCond .eq 22, 3) := by decide +kernel
theorem dX8_weighAttempt_37 : decode cX8_weighAttempt 37 = .ok (.iload_n 3, 1) := by decide +kernel
theorem dX8_weighAttempt_38 : decode cX8_weighAttempt 38 = .ok (.bipush 7, 2) := by decide +kernel
theorem dX8_weighAttempt_40 : decode cX8_weighAttempt 40 = .ok (.imul, 1) := by decide +kernel
theorem dX8_weighAttempt_41 : decode cX8_weighAttempt 41 = .ok (.bipush 10, 2) := by decide +kernel
theorem dX8_weighAttempt_43 : decode cX8_weighAttempt 43 = .ok (.idiv, 1) := by decide +kernel
theorem dX8_weighAttempt_44 : decode cX8_weighAttempt 44 = .ok (.istore_n 3, 1) := by decide +kernel
theorem dX8_weighAttempt_45 : decode cX8_weighAttempt 45 = .ok (.aload_n 0, 1) := by decide +kernel
theorem dX8_weighAttempt_46 : decode cX8_weighAttempt 46 = .ok (.getfield 45, 3) := by decide +kernel
theorem dX8_weighAttempt_49 : decode cX8_weighAttempt 49 = .ok (.bipush 9, 2) := by decide +kernel
theorem dX8_weighAttempt_51 : decode cX8_weighAttempt 51 = .ok (.dup2, 1) := by decide +kernel
theorem dX8_weighAttempt_52 : decode cX8_weighAttempt 52 = .ok (.iaload, 1) := by decide +kernel
theorem dX8_weighAttempt_53 : decode cX8_weighAttempt 53 = .ok (.iconst 1, 1) := by decide +kernel
theorem dX8_weighAttempt_54 : decode cX8_weighAttempt 54 = .ok (.iadd, 1) := by decide +kernel
theorem dX8_weighAttempt_55 : decode cX8_weighAttempt 55 = .ok (.iastore, 1) := by decide +kernel
theorem dX8_weighAttempt_56 : decode cX8_weighAttempt 56 = .ok (.iload_n 2, 1) := by decide +kernel
theorem dX8_weighAttempt_57 : decode cX8_weighAttempt 57 = .ok (.iconst 4, 1) := by decide +kernel
theorem dX8_weighAttempt_58 : decode cX8_weighAttempt 58 = .ok (.iand, 1) := by decide +kernel
theorem dX8_weighAttempt_59 : decode cX8_weighAttempt 59 = .ok (.ifCond .eq 13, 3) := by decide +kernel
theorem dX8_weighAttempt_62 : decode cX8_weighAttempt 62 = .ok (.aload_n 0, 1) := by decide +kernel
theorem dX8_weighAttempt_63 : decode cX8_weighAttempt 63 = .ok (.getfield 45, 3) := by decide +kernel
theorem dX8_weighAttempt_66 : decode cX8_weighAttempt 66 = .ok (.iconst 0, 1) := by decide +kernel
theorem dX8_weighAttempt_67 : decode cX8_weighAttempt 67 = .ok (.dup2, 1) := by decide +kernel
theorem dX8_weighAttempt_68 : decode cX8_weighAttempt 68 = .ok (.iaload, 1) := by decide +kernel
theorem dX8_weighAttempt_69 : decode cX8_weighAttempt 69 = .ok (.iconst 1, 1) := by decide +kernel
theorem dX8_weighAttempt_70 : decode cX8_weighAttempt 70 = .ok (.iadd, 1) := by decide +kernel
theorem dX8_weighAttempt_71 : decode cX8_weighAttempt 71 = .ok (.iastore, 1) := by decide +kernel
theorem dX8_weighAttempt_72 : decode cX8_weighAttempt 72 = .ok (.aload_n 0, 1) := by decide +kernel
theorem dX8_weighAttempt_73 : decode cX8_weighAttempt 73 = .ok (.getfield 37, 3) := by decide +kernel
theorem dX8_weighAttempt_76 : decode cX8_weighAttempt 76 = .ok (.iload_n 1, 1) := by decide +kernel
theorem dX8_weighAttempt_77 : decode cX8_weighAttempt 77 = .ok (.iload_n 3, 1) := by decide +kernel
theorem dX8_weighAttempt_78 : decode cX8_weighAttempt 78 = .ok (.iastore, 1) := by decide +kernel
theorem dX8_weighAttempt_79 : decode cX8_weighAttempt 79 = .ok (.aload_n 0, 1) := by decide +kernel
theorem dX8_weighAttempt_80 : decode cX8_weighAttempt 80 = .ok (.iload_n 1, 1) := by decide +kernel
theorem dX8_weighAttempt_81 : decode cX8_weighAttempt 81 = .ok (.invokevirtual 122, 3) := by decide +kernel
theorem dX8_weighAttempt_84 : decode cX8_weighAttempt 84 = .ok (.ifCond .eq 47, 3) := by decide +kernel
theorem dX8_weighAttempt_87 : decode cX8_weighAttempt 87 = .ok (.aload_n 0, 1) := by decide +kernel
theorem dX8_weighAttempt_88 : decode cX8_weighAttempt 88 = .ok (.getfield 64, 3) := by decide +kernel
theorem dX8_weighAttempt_91 : decode cX8_weighAttempt 91 = .ok (.getfield 86, 3) := by decide +kernel
theorem dX8_weighAttempt_94 : decode cX8_weighAttempt 94 = .ok (.iload_n 1, 1) := by decide +kernel
theorem dX8_weighAttempt_95 : decode cX8_weighAttempt 95 = .ok (.iaload, 1) := by decide +kernel
theorem dX8_weighAttempt_96 : decode cX8_weighAttempt 96 = .ok (.aload_n 0, 1) := by decide +kernel
theorem dX8_weighAttempt_97 : decode cX8_weighAttempt 97 = .ok (.getfield 54, 3) := by decide +kernel
theorem dX8_weighAttempt_100 : decode cX8_weighAttempt 100 = .ok (.getfield 125, 3) := by decide +kernel
theorem dX8_weighAttempt_103 : decode cX8_weighAttempt 103 = .ok (.iconst 1, 1) := by decide +kernel
theorem dX8_weighAttempt_104 : decode cX8_weighAttempt 104 = .ok (.iaload, 1) := by decide +kernel
theorem dX8_weighAttempt_105 : decode cX8_weighAttempt 105 = .ok (.if_icmp .lt 26, 3) := by decide +kernel
theorem dX8_weighAttempt_108 : decode cX8_weighAttempt 108 = .ok (.aload_n 0, 1) := by decide +kernel
theorem dX8_weighAttempt_109 : decode cX8_weighAttempt 109 = .ok (.dup, 1) := by decide +kernel
theorem dX8_weighAttempt_110 : decode cX8_weighAttempt 110 = .ok (.getfield 15, 3) := by decide +kernel
theorem dX8_weighAttempt_113 : decode cX8_weighAttempt 113 = .ok (.iconst 1, 1) := by decide +kernel
theorem dX8_weighAttempt_114 : decode cX8_weighAttempt 114 = .ok (.iload_n 1, 1) := by decide +kernel
theorem dX8_weighAttempt_115 : decode cX8_weighAttempt 115 = .ok (.ishl, 1) := by decide +kernel
theorem dX8_weighAttempt_116 : decode cX8_weighAttempt 116 = .ok (.ior, 1) := by decide +kernel
theorem dX8_weighAttempt_117 : decode cX8_weighAttempt 117 = .ok (.putfield 15, 3) := by decide +kernel
theorem dX8_weighAttempt_120 : decode cX8_weighAttempt 120 = .ok (.aload_n 0, 1) := by decide +kernel
theorem dX8_weighAttempt_121 : decode cX8_weighAttempt 121 = .ok (.getfield 45, 3) := by decide +kernel
theorem dX8_weighAttempt_124 : decode cX8_weighAttempt 124 = .ok (.bipush 6, 2) := by decide +kernel
theorem dX8_weighAttempt_126 : decode cX8_weighAttempt 126 = .ok (.dup2, 1) := by decide +kernel
theorem dX8_weighAttempt_127 : decode cX8_weighAttempt 127 = .ok (.iaload, 1) := by decide +kernel
theorem dX8_weighAttempt_128 : decode cX8_weighAttempt 128 = .ok (.iconst 1, 1) := by decide +kernel
theorem dX8_weighAttempt_129 : decode cX8_weighAttempt 129 = .ok (.iadd, 1) := by decide +kernel
theorem dX8_weighAttempt_130 : decode cX8_weighAttempt 130 = .ok (.iastore, 1) := by decide +kernel
theorem dX8_weighAttempt_131 : decode cX8_weighAttempt 131 = .ok (.aload_n 0, 1) := by decide +kernel
theorem dX8_weighAttempt_132 : decode cX8_weighAttempt 132 = .ok (.getfield 45, 3) := by decide +kernel
theorem dX8_weighAttempt_135 : decode cX8_weighAttempt 135 = .ok (.iconst 2, 1) := by decide +kernel
theorem dX8_weighAttempt_136 : decode cX8_weighAttempt 136 = .ok (.dup2, 1) := by decide +kernel
theorem dX8_weighAttempt_137 : decode cX8_weighAttempt 137 = .ok (.iaload, 1) := by decide +kernel
theorem dX8_weighAttempt_138 : decode cX8_weighAttempt 138 = .ok (.iconst 1, 1) := by decide +kernel
theorem dX8_weighAttempt_139 : decode cX8_weighAttempt 139 = .ok (.iadd, 1) := by decide +kernel
theorem dX8_weighAttempt_140 : decode cX8_weighAttempt 140 = .ok (.iastore, 1) := by decide +kernel
theorem dX8_weighAttempt_141 : decode cX8_weighAttempt 141 = .ok (.aload_n 0, 1) := by decide +kernel
theorem dX8_weighAttempt_142 : decode cX8_weighAttempt 142 = .ok (.dup, 1) := by decide +kernel
theorem dX8_weighAttempt_143 : decode cX8_weighAttempt 143 = .ok (.getfield 18, 3) := by decide +kernel
theorem dX8_weighAttempt_146 : decode cX8_weighAttempt 146 = .ok (.aload_n 0, 1) := by decide +kernel
theorem dX8_weighAttempt_147 : decode cX8_weighAttempt 147 = .ok (.iload_n 1, 1) := by decide +kernel
theorem dX8_weighAttempt_148 : decode cX8_weighAttempt 148 = .ok (.invokevirtual 128, 3) := by decide +kernel
theorem dX8_weighAttempt_151 : decode cX8_weighAttempt 151 = .ok (.iadd, 1) := by decide +kernel
theorem dX8_weighAttempt_152 : decode cX8_weighAttempt 152 = .ok (.putfield 18, 3) := by decide +kernel
theorem dX8_weighAttempt_155 : decode cX8_weighAttempt 155 = .ok (.return_, 1) := by decide +kernel
theorem dX8_unstruckBases_0 : decode cX8_unstruckBases 0 = .ok (.iconst 0, 1) := by decide +kernel
theorem dX8_unstruckBases_1 : decode cX8_unstruckBases 1 = .ok (.istore_n 2, 1) := by decide +kernel
theorem dX8_unstruckBases_2 : decode cX8_unstruckBases 2 = .ok (.aload_n 0, 1) := by decide +kernel
theorem dX8_unstruckBases_3 : decode cX8_unstruckBases 3 = .ok (.getfield 40, 3) := by decide +kernel
theorem dX8_unstruckBases_6 : decode cX8_unstruckBases 6 = .ok (.iload_n 1, 1) := by decide +kernel
theorem dX8_unstruckBases_7 : decode cX8_unstruckBases 7 = .ok (.iconst 0, 1) := by decide +kernel
theorem dX8_unstruckBases_8 : decode cX8_unstruckBases 8 = .ok (.iastore, 1) := by decide +kernel
theorem dX8_unstruckBases_9 : decode cX8_unstruckBases 9 = .ok (.aload_n 0, 1) := by decide +kernel
theorem dX8_unstruckBases_10 : decode cX8_unstruckBases 10 = .ok (.getfield 33, 3) := by decide +kernel
theorem dX8_unstruckBases_13 : decode cX8_unstruckBases 13 = .ok (.iload_n 1, 1) := by decide +kernel
theorem dX8_unstruckBases_14 : decode cX8_unstruckBases 14 = .ok (.iconst 0, 1) := by decide +kernel
theorem dX8_unstruckBases_15 : decode cX8_unstruckBases 15 = .ok (.iastore, 1) := by decide +kernel
theorem dX8_unstruckBases_16 : decode cX8_unstruckBases 16 = .ok (.iconst 0, 1) := by decide +kernel
theorem dX8_unstruckBases_17 : decode cX8_unstruckBases 17 = .ok (.istore_n 3, 1) := by decide +kernel
theorem dX8_unstruckBases_18 : decode cX8_unstruckBases 18 = .ok (.iload_n 3, 1) := by decide +kernel
theorem dX8_unstruckBases_19 : decode cX8_unstruckBases 19 = .ok (.aload_n 0, 1) := by decide +kernel
theorem dX8_unstruckBases_20 : decode cX8_unstruckBases 20 = .ok (.getfield 64, 3) := by decide +kernel
theorem dX8_unstruckBases_23 : decode cX8_unstruckBases 23 = .ok (.getfield 131, 3) := by decide +kernel
theorem dX8_unstruckBases_26 : decode cX8_unstruckBases 26 = .ok (.iload_n 1, 1) := by decide +kernel
theorem dX8_unstruckBases_27 : decode cX8_unstruckBases 27 = .ok (.iaload, 1) := by decide +kernel
theorem dX8_unstruckBases_28 : decode cX8_unstruckBases 28 = .ok (.if_icmp .ge 156, 3) := by decide +kernel
theorem dX8_unstruckBases_31 : decode cX8_unstruckBases 31 = .ok (.aload_n 0, 1) := by decide +kernel
theorem dX8_unstruckBases_32 : decode cX8_unstruckBases 32 = .ok (.getfield 64, 3) := by decide +kernel
theorem dX8_unstruckBases_35 : decode cX8_unstruckBases 35 = .ok (.getfield 134, 3) := by decide +kernel
theorem dX8_unstruckBases_38 : decode cX8_unstruckBases 38 = .ok (.iload_n 1, 1) := by decide +kernel
theorem dX8_unstruckBases_39 : decode cX8_unstruckBases 39 = .ok (.iconst 3, 1) := by decide +kernel
theorem dX8_unstruckBases_40 : decode cX8_unstruckBases 40 = .ok (.imul, 1) := by decide +kernel
theorem dX8_unstruckBases_41 : decode cX8_unstruckBases 41 = .ok (.iload_n 3, 1) := by decide +kernel
theorem dX8_unstruckBases_42 : decode cX8_unstruckBases 42 = .ok (.iadd, 1) := by decide +kernel
theorem dX8_unstruckBases_43 : decode cX8_unstruckBases 43 = .ok (.iaload, 1) := by decide +kernel
theorem dX8_unstruckBases_44 : decode cX8_unstruckBases 44 = .ok (.istore 4, 2) := by decide +kernel
theorem dX8_unstruckBases_46 : decode cX8_unstruckBases 46 = .ok (.aload_n 0, 1) := by decide +kernel
theorem dX8_unstruckBases_47 : decode cX8_unstruckBases 47 = .ok (.getfield 54, 3) := by decide +kernel
theorem dX8_unstruckBases_50 : decode cX8_unstruckBases 50 = .ok (.getfield 137, 3) := by decide +kernel
theorem dX8_unstruckBases_53 : decode cX8_unstruckBases 53 = .ok (.iload 4, 2) := by decide +kernel
theorem dX8_unstruckBases_55 : decode cX8_unstruckBases 55 = .ok (.iaload, 1) := by decide +kernel
theorem dX8_unstruckBases_56 : decode cX8_unstruckBases 56 = .ok (.istore 5, 2) := by decide +kernel
theorem dX8_unstruckBases_58 : decode cX8_unstruckBases 58 = .ok (.iload 5, 2) := by decide +kernel
theorem dX8_unstruckBases_60 : decode cX8_unstruckBases 60 = .ok (.ifCond .ne 15, 3) := by decide +kernel
theorem dX8_unstruckBases_63 : decode cX8_unstruckBases 63 = .ok (.aload_n 0, 1) := by decide +kernel
theorem dX8_unstruckBases_64 : decode cX8_unstruckBases 64 = .ok (.getfield 54, 3) := by decide +kernel
theorem dX8_unstruckBases_67 : decode cX8_unstruckBases 67 = .ok (.getfield 125, 3) := by decide +kernel
theorem dX8_unstruckBases_70 : decode cX8_unstruckBases 70 = .ok (.iconst 3, 1) := by decide +kernel
theorem dX8_unstruckBases_71 : decode cX8_unstruckBases 71 = .ok (.iaload, 1) := by decide +kernel
theorem dX8_unstruckBases_72 : decode cX8_unstruckBases 72 = .ok (.goto 4, 3) := by decide +kernel
theorem dX8_unstruckBases_75 : decode cX8_unstruckBases 75 = .ok (.iconst 1, 1) := by decide +kernel
theorem dX8_unstruckBases_76 : decode cX8_unstruckBases 76 = .ok (.istore 6, 2) := by decide +kernel
theorem dX8_unstruckBases_78 : decode cX8_unstruckBases 78 = .ok (.aload_n 0, 1) := by decide +kernel
theorem dX8_unstruckBases_79 : decode cX8_unstruckBases 79 = .ok (.getfield 45, 3) := by decide +kernel
theorem dX8_unstruckBases_82 : decode cX8_unstruckBases 82 = .ok (.iconst 3, 1) := by decide +kernel
theorem dX8_unstruckBases_83 : decode cX8_unstruckBases 83 = .ok (.iload 5, 2) := by decide +kernel
theorem dX8_unstruckBases_85 : decode cX8_unstruckBases 85 = .ok (.iadd, 1) := by decide +kernel
theorem dX8_unstruckBases_86 : decode cX8_unstruckBases 86 = .ok (.dup2, 1) := by decide +kernel
theorem dX8_unstruckBases_87 : decode cX8_unstruckBases 87 = .ok (.iaload, 1) := by decide +kernel
theorem dX8_unstruckBases_88 : decode cX8_unstruckBases 88 = .ok (.iconst 1, 1) := by decide +kernel
theorem dX8_unstruckBases_89 : decode cX8_unstruckBases 89 = .ok (.iadd, 1) := by decide +kernel
theorem dX8_unstruckBases_90 : decode cX8_unstruckBases 90 = .ok (.iastore, 1) := by decide +kernel
theorem dX8_unstruckBases_91 : decode cX8_unstruckBases 91 = .ok (.aload_n 0, 1) := by decide +kernel
theorem dX8_unstruckBases_92 : decode cX8_unstruckBases 92 = .ok (.getfield 48, 3) := by decide +kernel
theorem dX8_unstruckBases_95 : decode cX8_unstruckBases 95 = .ok (.iload 4, 2) := by decide +kernel
theorem dX8_unstruckBases_97 : decode cX8_unstruckBases 97 = .ok (.iaload, 1) := by decide +kernel
theorem dX8_unstruckBases_98 : decode cX8_unstruckBases 98 = .ok (.iload 6, 2) := by decide +kernel
theorem dX8_unstruckBases_100 : decode cX8_unstruckBases 100 = .ok (.if_icmp .lt 29, 3) := by decide +kernel
theorem dX8_unstruckBases_103 : decode cX8_unstruckBases 103 = .ok (.aload_n 0, 1) := by decide +kernel
theorem dX8_unstruckBases_104 : decode cX8_unstruckBases 104 = .ok (.getfield 33, 3) := by decide +kernel
theorem dX8_unstruckBases_107 : decode cX8_unstruckBases 107 = .ok (.iload_n 1, 1) := by decide +kernel
theorem dX8_unstruckBases_108 : decode cX8_unstruckBases 108 = .ok (.dup2, 1) := by decide +kernel
theorem dX8_unstruckBases_109 : decode cX8_unstruckBases 109 = .ok (.iaload, 1) := by decide +kernel
theorem dX8_unstruckBases_110 : decode cX8_unstruckBases 110 = .ok (.iconst 1, 1) := by decide +kernel
theorem dX8_unstruckBases_111 : decode cX8_unstruckBases 111 = .ok (.iload_n 3, 1) := by decide +kernel
theorem dX8_unstruckBases_112 : decode cX8_unstruckBases 112 = .ok (.ishl, 1) := by decide +kernel
theorem dX8_unstruckBases_113 : decode cX8_unstruckBases 113 = .ok (.ior, 1) := by decide +kernel
theorem dX8_unstruckBases_114 : decode cX8_unstruckBases 114 = .ok (.iastore, 1) := by decide +kernel
theorem dX8_unstruckBases_115 : decode cX8_unstruckBases 115 = .ok (.aload_n 0, 1) := by decide +kernel
theorem dX8_unstruckBases_116 : decode cX8_unstruckBases 116 = .ok (.getfield 45, 3) := by decide +kernel
theorem dX8_unstruckBases_119 : decode cX8_unstruckBases 119 = .ok (.bipush 7, 2) := by decide +kernel
theorem dX8_unstruckBases_121 : decode cX8_unstruckBases 121 = .ok (.dup2, 1) := by decide +kernel
theorem dX8_unstruckBases_122 : decode cX8_unstruckBases 122 = .ok (.iaload, 1) := by decide +kernel
theorem dX8_unstruckBases_123 : decode cX8_unstruckBases 123 = .ok (.iconst 1, 1) := by decide +kernel
theorem dX8_unstruckBases_124 : decode cX8_unstruckBases 124 = .ok (.iadd, 1) := by decide +kernel
theorem dX8_unstruckBases_125 : decode cX8_unstruckBases 125 = .ok (.iastore, 1) := by decide +kernel
theorem dX8_unstruckBases_126 : decode cX8_unstruckBases 126 = .ok (.goto 41, 3) := by decide +kernel
theorem dX8_unstruckBases_129 : decode cX8_unstruckBases 129 = .ok (.iload_n 2, 1) := by decide +kernel
theorem dX8_unstruckBases_130 : decode cX8_unstruckBases 130 = .ok (.aload_n 0, 1) := by decide +kernel
theorem dX8_unstruckBases_131 : decode cX8_unstruckBases 131 = .ok (.getfield 54, 3) := by decide +kernel
theorem dX8_unstruckBases_134 : decode cX8_unstruckBases 134 = .ok (.getfield 140, 3) := by decide +kernel
theorem dX8_unstruckBases_137 : decode cX8_unstruckBases 137 = .ok (.iload 4, 2) := by decide +kernel
theorem dX8_unstruckBases_139 : decode cX8_unstruckBases 139 = .ok (.iaload, 1) := by decide +kernel
theorem dX8_unstruckBases_140 : decode cX8_unstruckBases 140 = .ok (.iadd, 1) := by decide +kernel
theorem dX8_unstruckBases_141 : decode cX8_unstruckBases 141 = .ok (.istore_n 2, 1) := by decide +kernel
theorem dX8_unstruckBases_142 : decode cX8_unstruckBases 142 = .ok (.aload_n 0, 1) := by decide +kernel
theorem dX8_unstruckBases_143 : decode cX8_unstruckBases 143 = .ok (.getfield 40, 3) := by decide +kernel
theorem dX8_unstruckBases_146 : decode cX8_unstruckBases 146 = .ok (.iload_n 1, 1) := by decide +kernel
theorem dX8_unstruckBases_147 : decode cX8_unstruckBases 147 = .ok (.aload_n 0, 1) := by decide +kernel
theorem dX8_unstruckBases_148 : decode cX8_unstruckBases 148 = .ok (.getfield 40, 3) := by decide +kernel
theorem dX8_unstruckBases_151 : decode cX8_unstruckBases 151 = .ok (.iload_n 1, 1) := by decide +kernel
theorem dX8_unstruckBases_152 : decode cX8_unstruckBases 152 = .ok (.iaload, 1) := by decide +kernel
theorem dX8_unstruckBases_153 : decode cX8_unstruckBases 153 = .ok (.aload_n 0, 1) := by decide +kernel
theorem dX8_unstruckBases_154 : decode cX8_unstruckBases 154 = .ok (.getfield 54, 3) := by decide +kernel
theorem dX8_unstruckBases_157 : decode cX8_unstruckBases 157 = .ok (.getfield 140, 3) := by decide +kernel
theorem dX8_unstruckBases_160 : decode cX8_unstruckBases 160 = .ok (.iload 4, 2) := by decide +kernel
theorem dX8_unstruckBases_162 : decode cX8_unstruckBases 162 = .ok (.iaload, 1) := by decide +kernel
theorem dX8_unstruckBases_163 : decode cX8_unstruckBases 163 = .ok (.invokestatic 143, 3) := by decide +kernel
theorem dX8_unstruckBases_166 : decode cX8_unstruckBases 166 = .ok (.iastore, 1) := by decide +kernel
theorem dX8_unstruckBases_167 : decode cX8_unstruckBases 167 = .ok (.aload_n 0, 1) := by decide +kernel
theorem dX8_unstruckBases_168 : decode cX8_unstruckBases 168 = .ok (.getfield 48, 3) := by decide +kernel
