theorem dX8_unstruckBases_171 : decode cX8_unstruckBases 171 = .ok (.iload 4, 2) := by decide +kernel
theorem dX8_unstruckBases_173 : decode cX8_unstruckBases 173 = .ok (.dup2, 1) := by decide +kernel
theorem dX8_unstruckBases_174 : decode cX8_unstruckBases 174 = .ok (.iaload, 1) := by decide +kernel
theorem dX8_unstruckBases_175 : decode cX8_unstruckBases 175 = .ok (.iconst 1, 1) := by decide +kernel
theorem dX8_unstruckBases_176 : decode cX8_unstruckBases 176 = .ok (.iadd, 1) := by decide +kernel
theorem dX8_unstruckBases_177 : decode cX8_unstruckBases 177 = .ok (.iastore, 1) := by decide +kernel
theorem dX8_unstruckBases_178 : decode cX8_unstruckBases 178 = .ok (.iinc 3 1, 3) := by decide +kernel
theorem dX8_unstruckBases_181 : decode cX8_unstruckBases 181 = .ok (.goto (-163), 3) := by decide +kernel
theorem dX8_unstruckBases_184 : decode cX8_unstruckBases 184 = .ok (.iload_n 2, 1) := by decide +kernel
theorem dX8_unstruckBases_185 : decode cX8_unstruckBases 185 = .ok (.ireturn, 1) := by decide +kernel
theorem dX8_beginsWithJump_0 : decode cX8_beginsWithJump 0 = .ok (.aload_n 0, 1) := by decide +kernel
theorem dX8_beginsWithJump_1 : decode cX8_beginsWithJump 1 = .ok (.getfield 54, 3) := by decide +kernel
theorem dX8_beginsWithJump_4 : decode cX8_beginsWithJump 4 = .ok (.getfield 137, 3) := by decide +kernel
theorem dX8_beginsWithJump_7 : decode cX8_beginsWithJump 7 = .ok (.aload_n 0, 1) := by decide +kernel
theorem dX8_beginsWithJump_8 : decode cX8_beginsWithJump 8 = .ok (.getfield 64, 3) := by decide +kernel
theorem dX8_beginsWithJump_11 : decode cX8_beginsWithJump 11 = .ok (.getfield 134, 3) := by decide +kernel
theorem dX8_beginsWithJump_14 : decode cX8_beginsWithJump 14 = .ok (.iload_n 1, 1) := by decide +kernel
theorem dX8_beginsWithJump_15 : decode cX8_beginsWithJump 15 = .ok (.iconst 3, 1) := by decide +kernel
theorem dX8_beginsWithJump_16 : decode cX8_beginsWithJump 16 = .ok (.imul, 1) := by decide +kernel
theorem dX8_beginsWithJump_17 : decode cX8_beginsWithJump 17 = .ok (.iaload, 1) := by decide +kernel
theorem dX8_beginsWithJump_18 : decode cX8_beginsWithJump 18 = .ok (.iaload, 1) := by decide +kernel
theorem dX8_beginsWithJump_19 : decode cX8_beginsWithJump 19 = .ok (.ifCond .ne 7, 3) := by decide +kernel
theorem dX8_beginsWithJump_22 : decode cX8_beginsWithJump 22 = .ok (.iconst 1, 1) := by decide +kernel
theorem dX8_beginsWithJump_23 : decode cX8_beginsWithJump 23 = .ok (.goto 4, 3) := by decide +kernel
theorem dX8_beginsWithJump_26 : decode cX8_beginsWithJump 26 = .ok (.iconst 0, 1) := by decide +kernel
theorem dX8_beginsWithJump_27 : decode cX8_beginsWithJump 27 = .ok (.ireturn, 1) := by decide +kernel
theorem dX8_sortJudges_0 : decode cX8_sortJudges 0 = .ok (.iload_n 1, 1) := by decide +kernel
theorem dX8_sortJudges_1 : decode cX8_sortJudges 1 = .ok (.bipush 9, 2) := by decide +kernel
theorem dX8_sortJudges_3 : decode cX8_sortJudges 3 = .ok (.imul, 1) := by decide +kernel
theorem dX8_sortJudges_4 : decode cX8_sortJudges 4 = .ok (.istore_n 2, 1) := by decide +kernel
theorem dX8_sortJudges_5 : decode cX8_sortJudges 5 = .ok (.iconst 0, 1) := by decide +kernel
theorem dX8_sortJudges_6 : decode cX8_sortJudges 6 = .ok (.istore_n 3, 1) := by decide +kernel
theorem dX8_sortJudges_7 : decode cX8_sortJudges 7 = .ok (.iload_n 3, 1) := by decide +kernel
theorem dX8_sortJudges_8 : decode cX8_sortJudges 8 = .ok (.aload_n 0, 1) := by decide +kernel
theorem dX8_sortJudges_9 : decode cX8_sortJudges 9 = .ok (.getfield 54, 3) := by decide +kernel
theorem dX8_sortJudges_12 : decode cX8_sortJudges 12 = .ok (.getfield 149, 3) := by decide +kernel
theorem dX8_sortJudges_15 : decode cX8_sortJudges 15 = .ok (.if_icmp .ge 86, 3) := by decide +kernel
theorem dX8_sortJudges_18 : decode cX8_sortJudges 18 = .ok (.iload_n 2, 1) := by decide +kernel
theorem dX8_sortJudges_19 : decode cX8_sortJudges 19 = .ok (.iload_n 3, 1) := by decide +kernel
theorem dX8_sortJudges_20 : decode cX8_sortJudges 20 = .ok (.iadd, 1) := by decide +kernel
theorem dX8_sortJudges_21 : decode cX8_sortJudges 21 = .ok (.istore 4, 2) := by decide +kernel
theorem dX8_sortJudges_23 : decode cX8_sortJudges 23 = .ok (.aload_n 0, 1) := by decide +kernel
theorem dX8_sortJudges_24 : decode cX8_sortJudges 24 = .ok (.getfield 64, 3) := by decide +kernel
theorem dX8_sortJudges_27 : decode cX8_sortJudges 27 = .ok (.getfield 152, 3) := by decide +kernel
theorem dX8_sortJudges_30 : decode cX8_sortJudges 30 = .ok (.iload 4, 2) := by decide +kernel
theorem dX8_sortJudges_32 : decode cX8_sortJudges 32 = .ok (.iaload, 1) := by decide +kernel
theorem dX8_sortJudges_33 : decode cX8_sortJudges 33 = .ok (.istore 5, 2) := by decide +kernel
theorem dX8_sortJudges_35 : decode cX8_sortJudges 35 = .ok (.iload 4, 2) := by decide +kernel
theorem dX8_sortJudges_37 : decode cX8_sortJudges 37 = .ok (.iload_n 2, 1) := by decide +kernel
theorem dX8_sortJudges_38 : decode cX8_sortJudges 38 = .ok (.if_icmp .le 49, 3) := by decide +kernel
theorem dX8_sortJudges_41 : decode cX8_sortJudges 41 = .ok (.aload_n 0, 1) := by decide +kernel
theorem dX8_sortJudges_42 : decode cX8_sortJudges 42 = .ok (.getfield 64, 3) := by decide +kernel
theorem dX8_sortJudges_45 : decode cX8_sortJudges 45 = .ok (.getfield 152, 3) := by decide +kernel
theorem dX8_sortJudges_48 : decode cX8_sortJudges 48 = .ok (.iload_n 2, 1) := by decide +kernel
theorem dX8_sortJudges_49 : decode cX8_sortJudges 49 = .ok (.aload_n 0, 1) := by decide +kernel
theorem dX8_sortJudges_50 : decode cX8_sortJudges 50 = .ok (.getfield 51, 3) := by decide +kernel
theorem dX8_sortJudges_53 : decode cX8_sortJudges 53 = .ok (.iload 4, 2) := by decide +kernel
theorem dX8_sortJudges_55 : decode cX8_sortJudges 55 = .ok (.iconst 1, 1) := by decide +kernel
theorem dX8_sortJudges_56 : decode cX8_sortJudges 56 = .ok (.isub, 1) := by decide +kernel
theorem dX8_sortJudges_57 : decode cX8_sortJudges 57 = .ok (.iaload, 1) := by decide +kernel
theorem dX8_sortJudges_58 : decode cX8_sortJudges 58 = .ok (.iadd, 1) := by decide +kernel
theorem dX8_sortJudges_59 : decode cX8_sortJudges 59 = .ok (.iaload, 1) := by decide +kernel
theorem dX8_sortJudges_60 : decode cX8_sortJudges 60 = .ok (.iload 5, 2) := by decide +kernel
theorem dX8_sortJudges_62 : decode cX8_sortJudges 62 = .ok (.if_icmp .le 25, 3) := by decide +kernel
theorem dX8_sortJudges_65 : decode cX8_sortJudges 65 = .ok (.aload_n 0, 1) := by decide +kernel
theorem dX8_sortJudges_66 : decode cX8_sortJudges 66 = .ok (.getfield 51, 3) := by decide +kernel
theorem dX8_sortJudges_69 : decode cX8_sortJudges 69 = .ok (.iload 4, 2) := by decide +kernel
theorem dX8_sortJudges_71 : decode cX8_sortJudges 71 = .ok (.aload_n 0, 1) := by decide +kernel
theorem dX8_sortJudges_72 : decode cX8_sortJudges 72 = .ok (.getfield 51, 3) := by decide +kernel
theorem dX8_sortJudges_75 : decode cX8_sortJudges 75 = .ok (.iload 4, 2) := by decide +kernel
theorem dX8_sortJudges_77 : decode cX8_sortJudges 77 = .ok (.iconst 1, 1) := by decide +kernel
theorem dX8_sortJudges_78 : decode cX8_sortJudges 78 = .ok (.isub, 1) := by decide +kernel
theorem dX8_sortJudges_79 : decode cX8_sortJudges 79 = .ok (.iaload, 1) := by decide +kernel
theorem dX8_sortJudges_80 : decode cX8_sortJudges 80 = .ok (.iastore, 1) := by decide +kernel
theorem dX8_sortJudges_81 : decode cX8_sortJudges 81 = .ok (.iinc 4 (-1), 3) := by decide +kernel
theorem dX8_sortJudges_84 : decode cX8_sortJudges 84 = .ok (.goto (-49), 3) := by decide +kernel
theorem dX8_sortJudges_87 : decode cX8_sortJudges 87 = .ok (.aload_n 0, 1) := by decide +kernel
theorem dX8_sortJudges_88 : decode cX8_sortJudges 88 = .ok (.getfield 51, 3) := by decide +kernel
theorem dX8_sortJudges_91 : decode cX8_sortJudges 91 = .ok (.iload 4, 2) := by decide +kernel
theorem dX8_sortJudges_93 : decode cX8_sortJudges 93 = .ok (.iload_n 3, 1) := by decide +kernel
theorem dX8_sortJudges_94 : decode cX8_sortJudges 94 = .ok (.iastore, 1) := by decide +kernel
theorem dX8_sortJudges_95 : decode cX8_sortJudges 95 = .ok (.iinc 3 1, 3) := by decide +kernel
theorem dX8_sortJudges_98 : decode cX8_sortJudges 98 = .ok (.goto (-91), 3) := by decide +kernel
theorem dX8_sortJudges_101 : decode cX8_sortJudges 101 = .ok (.return_, 1) := by decide +kernel
theorem dX8_judgeBy_0 : decode cX8_judgeBy 0 = .ok (.aload_n 0, 1) := by decide +kernel
theorem dX8_judgeBy_1 : decode cX8_judgeBy 1 = .ok (.aload_n 0, 1) := by decide +kernel
theorem dX8_judgeBy_2 : decode cX8_judgeBy 2 = .ok (.getfield 18, 3) := by decide +kernel
theorem dX8_judgeBy_5 : decode cX8_judgeBy 5 = .ok (.putfield 24, 3) := by decide +kernel
theorem dX8_judgeBy_8 : decode cX8_judgeBy 8 = .ok (.iconst 0, 1) := by decide +kernel
theorem dX8_judgeBy_9 : decode cX8_judgeBy 9 = .ok (.istore_n 2, 1) := by decide +kernel
theorem dX8_judgeBy_10 : decode cX8_judgeBy 10 = .ok (.iload_n 2, 1) := by decide +kernel
theorem dX8_judgeBy_11 : decode cX8_judgeBy 11 = .ok (.aload_n 0, 1) := by decide +kernel
theorem dX8_judgeBy_12 : decode cX8_judgeBy 12 = .ok (.getfield 64, 3) := by decide +kernel
theorem dX8_judgeBy_15 : decode cX8_judgeBy 15 = .ok (.getfield 79, 3) := by decide +kernel
theorem dX8_judgeBy_18 : decode cX8_judgeBy 18 = .ok (.if_icmp .ge 35, 3) := by decide +kernel
theorem dX8_judgeBy_21 : decode cX8_judgeBy 21 = .ok (.aload_n 0, 1) := by decide +kernel
theorem dX8_judgeBy_22 : decode cX8_judgeBy 22 = .ok (.getfield 9, 3) := by decide +kernel
theorem dX8_judgeBy_25 : decode cX8_judgeBy 25 = .ok (.iload_n 2, 1) := by decide +kernel
theorem dX8_judgeBy_26 : decode cX8_judgeBy 26 = .ok (.ishr, 1) := by decide +kernel
theorem dX8_judgeBy_27 : decode cX8_judgeBy 27 = .ok (.iconst 1, 1) := by decide +kernel
theorem dX8_judgeBy_28 : decode cX8_judgeBy 28 = .ok (.iand, 1) := by decide +kernel
theorem dX8_judgeBy_29 : decode cX8_judgeBy 29 = .ok (.ifCond .eq 18, 3) := by decide +kernel
theorem dX8_judgeBy_32 : decode cX8_judgeBy 32 = .ok (.aload_n 0, 1) := by decide +kernel
theorem dX8_judgeBy_33 : decode cX8_judgeBy 33 = .ok (.dup, 1) := by decide +kernel
theorem dX8_judgeBy_34 : decode cX8_judgeBy 34 = .ok (.getfield 24, 3) := by decide +kernel
theorem dX8_judgeBy_37 : decode cX8_judgeBy 37 = .ok (.aload_n 0, 1) := by decide +kernel
theorem dX8_judgeBy_38 : decode cX8_judgeBy 38 = .ok (.iload_n 2, 1) := by decide +kernel
theorem dX8_judgeBy_39 : decode cX8_judgeBy 39 = .ok (.iload_n 1, 1) := by decide +kernel
theorem dX8_judgeBy_40 : decode cX8_judgeBy 40 = .ok (.invokevirtual 155, 3) := by decide +kernel
theorem dX8_judgeBy_43 : decode cX8_judgeBy 43 = .ok (.iadd, 1) := by decide +kernel
theorem dX8_judgeBy_44 : decode cX8_judgeBy 44 = .ok (.putfield 24, 3) := by decide +kernel
theorem dX8_judgeBy_47 : decode cX8_judgeBy 47 = .ok (.iinc 2 1, 3) := by decide +kernel
theorem dX8_judgeBy_50 : decode cX8_judgeBy 50 = .ok (.goto (-40), 3) := by decide +kernel
theorem dX8_judgeBy_53 : decode cX8_judgeBy 53 = .ok (.aload_n 0, 1) := by decide +kernel
theorem dX8_judgeBy_54 : decode cX8_judgeBy 54 = .ok (.iconst 0, 1) := by decide +kernel
theorem dX8_judgeBy_55 : decode cX8_judgeBy 55 = .ok (.putfield 27, 3) := by decide +kernel
theorem dX8_judgeBy_58 : decode cX8_judgeBy 58 = .ok (.iconst 0, 1) := by decide +kernel
theorem dX8_judgeBy_59 : decode cX8_judgeBy 59 = .ok (.istore_n 2, 1) := by decide +kernel
theorem dX8_judgeBy_60 : decode cX8_judgeBy 60 = .ok (.iload_n 2, 1) := by decide +kernel
theorem dX8_judgeBy_61 : decode cX8_judgeBy 61 = .ok (.iconst 3, 1) := by decide +kernel
theorem dX8_judgeBy_62 : decode cX8_judgeBy 62 = .ok (.if_icmp .ge 24, 3) := by decide +kernel
theorem dX8_judgeBy_65 : decode cX8_judgeBy 65 = .ok (.aload_n 0, 1) := by decide +kernel
theorem dX8_judgeBy_66 : decode cX8_judgeBy 66 = .ok (.dup, 1) := by decide +kernel
theorem dX8_judgeBy_67 : decode cX8_judgeBy 67 = .ok (.getfield 27, 3) := by decide +kernel
theorem dX8_judgeBy_70 : decode cX8_judgeBy 70 = .ok (.aload_n 0, 1) := by decide +kernel
theorem dX8_judgeBy_71 : decode cX8_judgeBy 71 = .ok (.iload_n 2, 1) := by decide +kernel
theorem dX8_judgeBy_72 : decode cX8_judgeBy 72 = .ok (.iload_n 1, 1) := by decide +kernel
theorem dX8_judgeBy_73 : decode cX8_judgeBy 73 = .ok (.invokevirtual 158, 3) := by decide +kernel
theorem dX8_judgeBy_76 : decode cX8_judgeBy 76 = .ok (.iadd, 1) := by decide +kernel
theorem dX8_judgeBy_77 : decode cX8_judgeBy 77 = .ok (.putfield 27, 3) := by decide +kernel
theorem dX8_judgeBy_80 : decode cX8_judgeBy 80 = .ok (.iinc 2 1, 3) := by decide +kernel
theorem dX8_judgeBy_83 : decode cX8_judgeBy 83 = .ok (.goto (-23), 3) := by decide +kernel
theorem dX8_judgeBy_86 : decode cX8_judgeBy 86 = .ok (.aload_n 0, 1) := by decide +kernel
theorem dX8_judgeBy_87 : decode cX8_judgeBy 87 = .ok (.invokevirtual 161, 3) := by decide +kernel
theorem dX8_judgeBy_90 : decode cX8_judgeBy 90 = .ok (.return_, 1) := by decide +kernel
theorem dX8_regrade_0 : decode cX8_regrade 0 = .ok (.aload_n 0, 1) := by decide +kernel
theorem dX8_regrade_1 : decode cX8_regrade 1 = .ok (.dup, 1) := by decide +kernel
theorem dX8_regrade_2 : decode cX8_regrade 2 = .ok (.getfield 24, 3) := by decide +kernel
theorem dX8_regrade_5 : decode cX8_regrade 5 = .ok (.aload_n 0, 1) := by decide +kernel
theorem dX8_regrade_6 : decode cX8_regrade 6 = .ok (.iload_n 1, 1) := by decide +kernel
theorem dX8_regrade_7 : decode cX8_regrade 7 = .ok (.iload_n 3, 1) := by decide +kernel
theorem dX8_regrade_8 : decode cX8_regrade 8 = .ok (.invokevirtual 164, 3) := by decide +kernel
theorem dX8_regrade_11 : decode cX8_regrade 11 = .ok (.aload_n 0, 1) := by decide +kernel
theorem dX8_regrade_12 : decode cX8_regrade 12 = .ok (.iload_n 1, 1) := by decide +kernel
theorem dX8_regrade_13 : decode cX8_regrade 13 = .ok (.iload_n 2, 1) := by decide +kernel
theorem dX8_regrade_14 : decode cX8_regrade 14 = .ok (.invokevirtual 164, 3) := by decide +kernel
theorem dX8_regrade_17 : decode cX8_regrade 17 = .ok (.isub, 1) := by decide +kernel
theorem dX8_regrade_18 : decode cX8_regrade 18 = .ok (.iadd, 1) := by decide +kernel
theorem dX8_regrade_19 : decode cX8_regrade 19 = .ok (.putfield 24, 3) := by decide +kernel
theorem dX8_regrade_22 : decode cX8_regrade 22 = .ok (.aload_n 0, 1) := by decide +kernel
theorem dX8_regrade_23 : decode cX8_regrade 23 = .ok (.invokevirtual 161, 3) := by decide +kernel
theorem dX8_regrade_26 : decode cX8_regrade 26 = .ok (.return_, 1) := by decide +kernel
theorem dX8_sumUp_0 : decode cX8_sumUp 0 = .ok (.aload_n 0, 1) := by decide +kernel
theorem dX8_sumUp_1 : decode cX8_sumUp 1 = .ok (.iconst 0, 1) := by decide +kernel
theorem dX8_sumUp_2 : decode cX8_sumUp 2 = .ok (.aload_n 0, 1) := by decide +kernel
theorem dX8_sumUp_3 : decode cX8_sumUp 3 = .ok (.getfield 24, 3) := by decide +kernel
theorem dX8_sumUp_6 : decode cX8_sumUp 6 = .ok (.aload_n 0, 1) := by decide +kernel
theorem dX8_sumUp_7 : decode cX8_sumUp 7 = .ok (.getfield 27, 3) := by decide +kernel
theorem dX8_sumUp_10 : decode cX8_sumUp 10 = .ok (.iadd, 1) := by decide +kernel
theorem dX8_sumUp_11 : decode cX8_sumUp 11 = .ok (.bipush 100, 2) := by decide +kernel
theorem dX8_sumUp_13 : decode cX8_sumUp 13 = .ok (.aload_n 0, 1) := by decide +kernel
theorem dX8_sumUp_14 : decode cX8_sumUp 14 = .ok (.getfield 45, 3) := by decide +kernel
theorem dX8_sumUp_17 : decode cX8_sumUp 17 = .ok (.iconst 0, 1) := by decide +kernel
theorem dX8_sumUp_18 : decode cX8_sumUp 18 = .ok (.iaload, 1) := by decide +kernel
theorem dX8_sumUp_19 : decode cX8_sumUp 19 = .ok (.imul, 1) := by decide +kernel
theorem dX8_sumUp_20 : decode cX8_sumUp 20 = .ok (.isub, 1) := by decide +kernel
theorem dX8_sumUp_21 : decode cX8_sumUp 21 = .ok (.aload_n 0, 1) := by decide +kernel
theorem dX8_sumUp_22 : decode cX8_sumUp 22 = .ok (.getfield 21, 3) := by decide +kernel
theorem dX8_sumUp_25 : decode cX8_sumUp 25 = .ok (.isub, 1) := by decide +kernel
theorem dX8_sumUp_26 : decode cX8_sumUp 26 = .ok (.invokestatic 143, 3) := by decide +kernel
theorem dX8_sumUp_29 : decode cX8_sumUp 29 = .ok (.putfield 30, 3) := by decide +kernel
theorem dX8_sumUp_32 : decode cX8_sumUp 32 = .ok (.return_, 1) := by decide +kernel
theorem dX8_isLate_0 : decode cX8_isLate 0 = .ok (.aload_n 0, 1) := by decide +kernel
theorem dX8_isLate_1 : decode cX8_isLate 1 = .ok (.getfield 15, 3) := by decide +kernel
theorem dX8_isLate_4 : decode cX8_isLate 4 = .ok (.iload_n 1, 1) := by decide +kernel
theorem dX8_isLate_5 : decode cX8_isLate 5 = .ok (.ishr, 1) := by decide +kernel
theorem dX8_isLate_6 : decode cX8_isLate 6 = .ok (.iconst 1, 1) := by decide +kernel
theorem dX8_isLate_7 : decode cX8_isLate 7 = .ok (.iand, 1) := by decide +kernel
theorem dX8_isLate_8 : decode cX8_isLate 8 = .ok (.ifCond .eq 7, 3) := by decide +kernel
theorem dX8_isLate_11 : decode cX8_isLate 11 = .ok (.iconst 1, 1) := by decide +kernel
theorem dX8_isLate_12 : decode cX8_isLate 12 = .ok (.goto 4, 3) := by decide +kernel
theorem dX8_isLate_15 : decode cX8_isLate 15 = .ok (.iconst 0, 1) := by decide +kernel
theorem dX8_isLate_16 : decode cX8_isLate 16 = .ok (.ireturn, 1) := by decide +kernel
theorem dX8_bonusOf_0 : decode cX8_bonusOf 0 = .ok (.aload_n 0, 1) := by decide +kernel
theorem dX8_bonusOf_1 : decode cX8_bonusOf 1 = .ok (.getfield 37, 3) := by decide +kernel
theorem dX8_bonusOf_4 : decode cX8_bonusOf 4 = .ok (.iload_n 1, 1) := by decide +kernel
theorem dX8_bonusOf_5 : decode cX8_bonusOf 5 = .ok (.iaload, 1) := by decide +kernel
theorem dX8_bonusOf_6 : decode cX8_bonusOf 6 = .ok (.aload_n 0, 1) := by decide +kernel
theorem dX8_bonusOf_7 : decode cX8_bonusOf 7 = .ok (.getfield 54, 3) := by decide +kernel
theorem dX8_bonusOf_10 : decode cX8_bonusOf 10 = .ok (.getfield 125, 3) := by decide +kernel
theorem dX8_bonusOf_13 : decode cX8_bonusOf 13 = .ok (.iconst 2, 1) := by decide +kernel
theorem dX8_bonusOf_14 : decode cX8_bonusOf 14 = .ok (.iaload, 1) := by decide +kernel
theorem dX8_bonusOf_15 : decode cX8_bonusOf 15 = .ok (.imul, 1) := by decide +kernel
theorem dX8_bonusOf_16 : decode cX8_bonusOf 16 = .ok (.bipush 100, 2) := by decide +kernel
theorem dX8_bonusOf_18 : decode cX8_bonusOf 18 = .ok (.idiv, 1) := by decide +kernel
theorem dX8_bonusOf_19 : decode cX8_bonusOf 19 = .ok (.ireturn, 1) := by decide +kernel
theorem dX8_worthOf_0 : decode cX8_worthOf 0 = .ok (.aload_n 0, 1) := by decide +kernel
theorem dX8_worthOf_1 : decode cX8_worthOf 1 = .ok (.iload_n 1, 1) := by decide +kernel
theorem dX8_worthOf_2 : decode cX8_worthOf 2 = .ok (.invokevirtual 167, 3) := by decide +kernel
theorem dX8_worthOf_5 : decode cX8_worthOf 5 = .ok (.ifCond .eq 18, 3) := by decide +kernel
theorem dX8_worthOf_8 : decode cX8_worthOf 8 = .ok (.aload_n 0, 1) := by decide +kernel
theorem dX8_worthOf_9 : decode cX8_worthOf 9 = .ok (.getfield 37, 3) := by decide +kernel
theorem dX8_worthOf_12 : decode cX8_worthOf 12 = .ok (.iload_n 1, 1) := by decide +kernel
theorem dX8_worthOf_13 : decode cX8_worthOf 13 = .ok (.iaload, 1) := by decide +kernel
theorem dX8_worthOf_14 : decode cX8_worthOf 14 = .ok (.aload_n 0, 1) := by decide +kernel
theorem dX8_worthOf_15 : decode cX8_worthOf 15 = .ok (.iload_n 1, 1) := by decide +kernel
theorem dX8_worthOf_16 : decode cX8_worthOf 16 = .ok (.invokevirtual 170, 3) := by decide +kernel
theorem dX8_worthOf_19 : decode cX8_worthOf 19 = .ok (.iadd, 1) := by decide +kernel
theorem dX8_worthOf_20 : decode cX8_worthOf 20 = .ok (.goto 9, 3) := by decide +kernel
theorem dX8_worthOf_23 : decode cX8_worthOf 23 = .ok (.aload_n 0, 1) := by decide +kernel
theorem dX8_worthOf_24 : decode cX8_worthOf 24 = .ok (.getfield 37, 3) := by decide +kernel
theorem dX8_worthOf_27 : decode cX8_worthOf 27 = .ok (.iload_n 1, 1) := by decide +kernel
theorem dX8_worthOf_28 : decode cX8_worthOf 28 = .ok (.iaload, 1) := by decide +kernel
theorem dX8_worthOf_29 : decode cX8_worthOf 29 = .ok (.ireturn, 1) := by decide +kernel
theorem dX8_gainBy_0 : decode cX8_gainBy 0 = .ok (.aload_n 0, 1) := by decide +kernel
theorem dX8_gainBy_1 : decode cX8_gainBy 1 = .ok (.getfield 40, 3) := by decide +kernel
theorem dX8_gainBy_4 : decode cX8_gainBy 4 = .ok (.iload_n 1, 1) := by decide +kernel
theorem dX8_gainBy_5 : decode cX8_gainBy 5 = .ok (.iaload, 1) := by decide +kernel
theorem dX8_gainBy_6 : decode cX8_gainBy 6 = .ok (.iload_n 2, 1) := by decide +kernel
theorem dX8_gainBy_7 : decode cX8_gainBy 7 = .ok (.imul, 1) := by decide +kernel
theorem dX8_gainBy_8 : decode cX8_gainBy 8 = .ok (.sipush 1000, 3) := by decide +kernel
theorem dX8_gainBy_11 : decode cX8_gainBy 11 = .ok (.invokestatic 173, 3) := by decide +kernel
theorem dX8_gainBy_14 : decode cX8_gainBy 14 = .ok (.ireturn, 1) := by decide +kernel
theorem dX8_gainOf_0 : decode cX8_gainOf 0 = .ok (.aload_n 0, 1) := by decide +kernel
theorem dX8_gainOf_1 : decode cX8_gainOf 1 = .ok (.iload_n 1, 1) := by decide +kernel
theorem dX8_gainOf_2 : decode cX8_gainOf 2 = .ok (.aload_n 0, 1) := by decide +kernel
theorem dX8_gainOf_3 : decode cX8_gainOf 3 = .ok (.iload_n 1, 1) := by decide +kernel
theorem dX8_gainOf_4 : decode cX8_gainOf 4 = .ok (.iload_n 2, 1) := by decide +kernel
theorem dX8_gainOf_5 : decode cX8_gainOf 5 = .ok (.invokevirtual 176, 3) := by decide +kernel
theorem dX8_gainOf_8 : decode cX8_gainOf 8 = .ok (.invokevirtual 164, 3) := by decide +kernel
theorem dX8_gainOf_11 : decode cX8_gainOf 11 = .ok (.ireturn, 1) := by decide +kernel
theorem dX8_pointsOf_0 : decode cX8_pointsOf 0 = .ok (.aload_n 0, 1) := by decide +kernel
theorem dX8_pointsOf_1 : decode cX8_pointsOf 1 = .ok (.iload_n 1, 1) := by decide +kernel
theorem dX8_pointsOf_2 : decode cX8_pointsOf 2 = .ok (.invokevirtual 128, 3) := by decide +kernel
theorem dX8_pointsOf_5 : decode cX8_pointsOf 5 = .ok (.aload_n 0, 1) := by decide +kernel
theorem dX8_pointsOf_6 : decode cX8_pointsOf 6 = .ok (.iload_n 1, 1) := by decide +kernel
theorem dX8_pointsOf_7 : decode cX8_pointsOf 7 = .ok (.iload_n 2, 1) := by decide +kernel
theorem dX8_pointsOf_8 : decode cX8_pointsOf 8 = .ok (.invokevirtual 155, 3) := by decide +kernel
theorem dX8_pointsOf_11 : decode cX8_pointsOf 11 = .ok (.iadd, 1) := by decide +kernel
theorem dX8_pointsOf_12 : decode cX8_pointsOf 12 = .ok (.ireturn, 1) := by decide +kernel
theorem dX8_shownOf_0 : decode cX8_shownOf 0 = .ok (.aload_n 0, 1) := by decide +kernel
theorem dX8_shownOf_1 : decode cX8_shownOf 1 = .ok (.bipush 12, 2) := by decide +kernel
theorem dX8_shownOf_3 : decode cX8_shownOf 3 = .ok (.iload_n 1, 1) := by decide +kernel
theorem dX8_shownOf_4 : decode cX8_shownOf 4 = .ok (.iadd, 1) := by decide +kernel
theorem dX8_shownOf_5 : decode cX8_shownOf 5 = .ok (.iload_n 2, 1) := by decide +kernel
theorem dX8_shownOf_6 : decode cX8_shownOf 6 = .ok (.invokevirtual 176, 3) := by decide +kernel
theorem dX8_shownOf_9 : decode cX8_shownOf 9 = .ok (.aload_n 0, 1) := by decide +kernel
theorem dX8_shownOf_10 : decode cX8_shownOf 10 = .ok (.getfield 54, 3) := by decide +kernel
theorem dX8_shownOf_13 : decode cX8_shownOf 13 = .ok (.getfield 125, 3) := by decide +kernel
theorem dX8_shownOf_16 : decode cX8_shownOf 16 = .ok (.iconst 4, 1) := by decide +kernel
theorem dX8_shownOf_17 : decode cX8_shownOf 17 = .ok (.iload_n 1, 1) := by decide +kernel
theorem dX8_shownOf_18 : decode cX8_shownOf 18 = .ok (.iadd, 1) := by decide +kernel
theorem dX8_shownOf_19 : decode cX8_shownOf 19 = .ok (.iaload, 1) := by decide +kernel
theorem dX8_shownOf_20 : decode cX8_shownOf 20 = .ok (.imul, 1) := by decide +kernel
theorem dX8_shownOf_21 : decode cX8_shownOf 21 = .ok (.bipush 100, 2) := by decide +kernel
theorem dX8_shownOf_23 : decode cX8_shownOf 23 = .ok (.idiv, 1) := by decide +kernel
theorem dX8_shownOf_24 : decode cX8_shownOf 24 = .ok (.ireturn, 1) := by decide +kernel
theorem dX8_trimmed_0 : decode cX8_trimmed 0 = .ok (.iload_n 2, 1) := by decide +kernel
theorem dX8_trimmed_1 : decode cX8_trimmed 1 = .ok (.invokestatic 179, 3) := by decide +kernel
theorem dX8_trimmed_4 : decode cX8_trimmed 4 = .ok (.istore_n 3, 1) := by decide +kernel
theorem dX8_trimmed_5 : decode cX8_trimmed 5 = .ok (.aload_n 0, 1) := by decide +kernel
theorem dX8_trimmed_6 : decode cX8_trimmed 6 = .ok (.getfield 54, 3) := by decide +kernel
theorem dX8_trimmed_9 : decode cX8_trimmed 9 = .ok (.getfield 125, 3) := by decide +kernel
theorem dX8_trimmed_12 : decode cX8_trimmed 12 = .ok (.iconst 0, 1) := by decide +kernel
theorem dX8_trimmed_13 : decode cX8_trimmed 13 = .ok (.iaload, 1) := by decide +kernel
theorem dX8_trimmed_14 : decode cX8_trimmed 14 = .ok (.iload_n 3, 1) := by decide +kernel
theorem dX8_trimmed_15 : decode cX8_trimmed 15 = .ok (.iconst 1, 1) := by decide +kernel
theorem dX8_trimmed_16 : decode cX8_trimmed 16 = .ok (.isub, 1) := by decide +kernel
theorem dX8_trimmed_17 : decode cX8_trimmed 17 = .ok (.iconst 2, 1) := by decide +kernel
theorem dX8_trimmed_18 : decode cX8_trimmed 18 = .ok (.idiv, 1) := by decide +kernel
theorem dX8_trimmed_19 : decode cX8_trimmed 19 = .ok (.invokestatic 184, 3) := by decide +kernel
theorem dX8_trimmed_22 : decode cX8_trimmed 22 = .ok (.istore 4, 2) := by decide +kernel
theorem dX8_trimmed_24 : decode cX8_trimmed 24 = .ok (.iload_n 3, 1) := by decide +kernel
theorem dX8_trimmed_25 : decode cX8_trimmed 25 = .ok (.iconst 2, 1) := by decide +kernel
theorem dX8_trimmed_26 : decode cX8_trimmed 26 = .ok (.iload 4, 2) := by decide +kernel
theorem dX8_trimmed_28 : decode cX8_trimmed 28 = .ok (.imul, 1) := by decide +kernel
theorem dX8_trimmed_29 : decode cX8_trimmed 29 = .ok (.isub, 1) := by decide +kernel
theorem dX8_trimmed_30 : decode cX8_trimmed 30 = .ok (.istore 5, 2) := by decide +kernel
theorem dX8_trimmed_32 : decode cX8_trimmed 32 = .ok (.iload 5, 2) := by decide +kernel
theorem dX8_trimmed_34 : decode cX8_trimmed 34 = .ok (.iconst 1, 1) := by decide +kernel
theorem dX8_trimmed_35 : decode cX8_trimmed 35 = .ok (.if_icmp .ge 5, 3) := by decide +kernel
theorem dX8_trimmed_38 : decode cX8_trimmed 38 = .ok (.iconst 0, 1) := by decide +kernel
theorem dX8_trimmed_39 : decode cX8_trimmed 39 = .ok (.ireturn, 1) := by decide +kernel
theorem dX8_trimmed_40 : decode cX8_trimmed 40 = .ok (.iload_n 1, 1) := by decide +kernel
theorem dX8_trimmed_41 : decode cX8_trimmed 41 = .ok (.bipush 9, 2) := by decide +kernel
theorem dX8_trimmed_43 : decode cX8_trimmed 43 = .ok (.imul, 1) := by decide +kernel
theorem dX8_trimmed_44 : decode cX8_trimmed 44 = .ok (.istore 6, 2) := by decide +kernel
theorem dX8_trimmed_46 : decode cX8_trimmed 46 = .ok (.iconst 0, 1) := by decide +kernel
theorem dX8_trimmed_47 : decode cX8_trimmed 47 = .ok (.istore 7, 2) := by decide +kernel
theorem dX8_trimmed_49 : decode cX8_trimmed 49 = .ok (.iconst 0, 1) := by decide +kernel
theorem dX8_trimmed_50 : decode cX8_trimmed 50 = .ok (.istore 8, 2) := by decide +kernel
theorem dX8_trimmed_52 : decode cX8_trimmed 52 = .ok (.iload 6, 2) := by decide +kernel
theorem dX8_trimmed_54 : decode cX8_trimmed 54 = .ok (.istore 9, 2) := by decide +kernel
theorem dX8_trimmed_56 : decode cX8_trimmed 56 = .ok (.iload 9, 2) := by decide +kernel
theorem dX8_trimmed_58 : decode cX8_trimmed 58 = .ok (.iload 6, 2) := by decide +kernel
theorem dX8_trimmed_60 : decode cX8_trimmed 60 = .ok (.aload_n 0, 1) := by decide +kernel
theorem dX8_trimmed_61 : decode cX8_trimmed 61 = .ok (.getfield 54, 3) := by decide +kernel
theorem dX8_trimmed_64 : decode cX8_trimmed 64 = .ok (.getfield 149, 3) := by decide +kernel
theorem dX8_trimmed_67 : decode cX8_trimmed 67 = .ok (.iadd, 1) := by decide +kernel
theorem dX8_trimmed_68 : decode cX8_trimmed 68 = .ok (.if_icmp .ge 64, 3) := by decide +kernel
theorem dX8_trimmed_71 : decode cX8_trimmed 71 = .ok (.aload_n 0, 1) := by decide +kernel
theorem dX8_trimmed_72 : decode cX8_trimmed 72 = .ok (.getfield 51, 3) := by decide +kernel
theorem dX8_trimmed_75 : decode cX8_trimmed 75 = .ok (.iload 9, 2) := by decide +kernel
theorem dX8_trimmed_77 : decode cX8_trimmed 77 = .ok (.iaload, 1) := by decide +kernel
theorem dX8_trimmed_78 : decode cX8_trimmed 78 = .ok (.istore 10, 2) := by decide +kernel
theorem dX8_trimmed_80 : decode cX8_trimmed 80 = .ok (.iload_n 2, 1) := by decide +kernel
theorem dX8_trimmed_81 : decode cX8_trimmed 81 = .ok (.iload 10, 2) := by decide +kernel
theorem dX8_trimmed_83 : decode cX8_trimmed 83 = .ok (.ishr, 1) := by decide +kernel
theorem dX8_trimmed_84 : decode cX8_trimmed 84 = .ok (.iconst 1, 1) := by decide +kernel
theorem dX8_trimmed_85 : decode cX8_trimmed 85 = .ok (.iand, 1) := by decide +kernel
theorem dX8_trimmed_86 : decode cX8_trimmed 86 = .ok (.ifCond .eq 40, 3) := by decide +kernel
theorem dX8_trimmed_89 : decode cX8_trimmed 89 = .ok (.iload 7, 2) := by decide +kernel
theorem dX8_trimmed_91 : decode cX8_trimmed 91 = .ok (.iload 4, 2) := by decide +kernel
theorem dX8_trimmed_93 : decode cX8_trimmed 93 = .ok (.if_icmp .lt 30, 3) := by decide +kernel
theorem dX8_trimmed_96 : decode cX8_trimmed 96 = .ok (.iload 7, 2) := by decide +kernel
theorem dX8_trimmed_98 : decode cX8_trimmed 98 = .ok (.iload_n 3, 1) := by decide +kernel
theorem dX8_trimmed_99 : decode cX8_trimmed 99 = .ok (.iload 4, 2) := by decide +kernel
theorem dX8_trimmed_101 : decode cX8_trimmed 101 = .ok (.isub, 1) := by decide +kernel
theorem dX8_trimmed_102 : decode cX8_trimmed 102 = .ok (.if_icmp .ge 21, 3) := by decide +kernel
theorem dX8_trimmed_105 : decode cX8_trimmed 105 = .ok (.iload 8, 2) := by decide +kernel
theorem dX8_trimmed_107 : decode cX8_trimmed 107 = .ok (.aload_n 0, 1) := by decide +kernel
theorem dX8_trimmed_108 : decode cX8_trimmed 108 = .ok (.getfield 64, 3) := by decide +kernel
theorem dX8_trimmed_111 : decode cX8_trimmed 111 = .ok (.getfield 152, 3) := by decide +kernel
theorem dX8_trimmed_114 : decode cX8_trimmed 114 = .ok (.iload 6, 2) := by decide +kernel
theorem dX8_trimmed_116 : decode cX8_trimmed 116 = .ok (.iload 10, 2) := by decide +kernel
theorem dX8_trimmed_118 : decode cX8_trimmed 118 = .ok (.iadd, 1) := by decide +kernel
theorem dX8_trimmed_119 : decode cX8_trimmed 119 = .ok (.iaload, 1) := by decide +kernel
theorem dX8_trimmed_120 : decode cX8_trimmed 120 = .ok (.iadd, 1) := by decide +kernel
theorem dX8_trimmed_121 : decode cX8_trimmed 121 = .ok (.istore 8, 2) := by decide +kernel
theorem dX8_trimmed_123 : decode cX8_trimmed 123 = .ok (.iinc 7 1, 3) := by decide +kernel
theorem dX8_trimmed_126 : decode cX8_trimmed 126 = .ok (.iinc 9 1, 3) := by decide +kernel
theorem dX8_trimmed_129 : decode cX8_trimmed 129 = .ok (.goto (-73), 3) := by decide +kernel
theorem dX8_trimmed_132 : decode cX8_trimmed 132 = .ok (.bipush 100, 2) := by decide +kernel
theorem dX8_trimmed_134 : decode cX8_trimmed 134 = .ok (.iload 8, 2) := by decide +kernel
theorem dX8_trimmed_136 : decode cX8_trimmed 136 = .ok (.imul, 1) := by decide +kernel
theorem dX8_trimmed_137 : decode cX8_trimmed 137 = .ok (.iload 5, 2) := by decide +kernel
theorem dX8_trimmed_139 : decode cX8_trimmed 139 = .ok (.invokestatic 173, 3) := by decide +kernel
theorem dX8_trimmed_142 : decode cX8_trimmed 142 = .ok (.ireturn, 1) := by decide +kernel
theorem dX8_bestLate_0 : decode cX8_bestLate 0 = .ok (.iconst 0, 1) := by decide +kernel
theorem dX8_bestLate_1 : decode cX8_bestLate 1 = .ok (.istore_n 2, 1) := by decide +kernel
theorem dX8_bestLate_2 : decode cX8_bestLate 2 = .ok (.iconst 0, 1) := by decide +kernel
theorem dX8_bestLate_3 : decode cX8_bestLate 3 = .ok (.istore_n 3, 1) := by decide +kernel
theorem dX8_bestLate_4 : decode cX8_bestLate 4 = .ok (.iload_n 3, 1) := by decide +kernel
theorem dX8_bestLate_5 : decode cX8_bestLate 5 = .ok (.iload_n 1, 1) := by decide +kernel
theorem dX8_bestLate_6 : decode cX8_bestLate 6 = .ok (.if_icmp .ge 38, 3) := by decide +kernel
theorem dX8_bestLate_9 : decode cX8_bestLate 9 = .ok (.aload_n 0, 1) := by decide +kernel
theorem dX8_bestLate_10 : decode cX8_bestLate 10 = .ok (.aload_n 0, 1) := by decide +kernel
theorem dX8_bestLate_11 : decode cX8_bestLate 11 = .ok (.getfield 9, 3) := by decide +kernel
theorem dX8_bestLate_14 : decode cX8_bestLate 14 = .ok (.iload_n 2, 1) := by decide +kernel
theorem dX8_bestLate_15 : decode cX8_bestLate 15 = .ok (.iconst (-1), 1) := by decide +kernel
theorem dX8_bestLate_16 : decode cX8_bestLate 16 = .ok (.ixor, 1) := by decide +kernel
theorem dX8_bestLate_17 : decode cX8_bestLate 17 = .ok (.iand, 1) := by decide +kernel
theorem dX8_bestLate_18 : decode cX8_bestLate 18 = .ok (.invokevirtual 187, 3) := by decide +kernel
theorem dX8_bestLate_21 : decode cX8_bestLate 21 = .ok (.istore 4, 2) := by decide +kernel
theorem dX8_bestLate_23 : decode cX8_bestLate 23 = .ok (.iload 4, 2) := by decide +kernel
theorem dX8_bestLate_25 : decode cX8_bestLate 25 = .ok (.iconst (-1), 1) := by decide +kernel
theorem dX8_bestLate_26 : decode cX8_bestLate 26 = .ok (.if_icmp .ne 5, 3) := by decide +kernel
theorem dX8_bestLate_29 : decode cX8_bestLate 29 = .ok (.iload_n 2, 1) := by decide +kernel
theorem dX8_bestLate_30 : decode cX8_bestLate 30 = .ok (.ireturn, 1) := by decide +kernel
theorem dX8_bestLate_31 : decode cX8_bestLate 31 = .ok (.iload_n 2, 1) := by decide +kernel
theorem dX8_bestLate_32 : decode cX8_bestLate 32 = .ok (.iconst 1, 1) := by decide +kernel
theorem dX8_bestLate_33 : decode cX8_bestLate 33 = .ok (.iload 4, 2) := by decide +kernel
theorem dX8_bestLate_35 : decode cX8_bestLate 35 = .ok (.ishl, 1) := by decide +kernel
theorem dX8_bestLate_36 : decode cX8_bestLate 36 = .ok (.ior, 1) := by decide +kernel
theorem dX8_bestLate_37 : decode cX8_bestLate 37 = .ok (.istore_n 2, 1) := by decide +kernel
theorem dX8_bestLate_38 : decode cX8_bestLate 38 = .ok (.iinc 3 1, 3) := by decide +kernel
theorem dX8_bestLate_41 : decode cX8_bestLate 41 = .ok (.goto (-37), 3) := by decide +kernel
theorem dX8_bestLate_44 : decode cX8_bestLate 44 = .ok (.iload_n 2, 1) := by decide +kernel
theorem dX8_bestLate_45 : decode cX8_bestLate 45 = .ok (.ireturn, 1) := by decide +kernel
theorem dX8_greatestBonus_0 : decode cX8_greatestBonus 0 = .ok (.iconst (-1), 1) := by decide +kernel
theorem dX8_greatestBonus_1 : decode cX8_greatestBonus 1 = .ok (.istore_n 2, 1) := by decide +kernel
theorem dX8_greatestBonus_2 : decode cX8_greatestBonus 2 = .ok (.iconst 0, 1) := by decide +kernel
theorem dX8_greatestBonus_3 : decode cX8_greatestBonus 3 = .ok (.istore_n 3, 1) := by decide +kernel
theorem dX8_greatestBonus_4 : decode cX8_greatestBonus 4 = .ok (.iload_n 3, 1) := by decide +kernel
theorem dX8_greatestBonus_5 : decode cX8_greatestBonus 5 = .ok (.aload_n 0, 1) := by decide +kernel
theorem dX8_greatestBonus_6 : decode cX8_greatestBonus 6 = .ok (.getfield 64, 3) := by decide +kernel
theorem dX8_greatestBonus_9 : decode cX8_greatestBonus 9 = .ok (.getfield 79, 3) := by decide +kernel
theorem dX8_greatestBonus_12 : decode cX8_greatestBonus 12 = .ok (.if_icmp .ge 57, 3) := by decide +kernel
theorem dX8_greatestBonus_15 : decode cX8_greatestBonus 15 = .ok (.iload_n 1, 1) := by decide +kernel
theorem dX8_greatestBonus_16 : decode cX8_greatestBonus 16 = .ok (.iload_n 3, 1) := by decide +kernel
theorem dX8_greatestBonus_17 : decode cX8_greatestBonus 17 = .ok (.ishr, 1) := by decide +kernel
theorem dX8_greatestBonus_18 : decode cX8_greatestBonus 18 = .ok (.iconst 1, 1) := by decide +kernel
theorem dX8_greatestBonus_19 : decode cX8_greatestBonus 19 = .ok (.iand, 1) := by decide +kernel
theorem dX8_greatestBonus_20 : decode cX8_greatestBonus 20 = .ok (.ifCond .eq 15, 3) := by decide +kernel
theorem dX8_greatestBonus_23 : decode cX8_greatestBonus 23 = .ok (.aload_n 0, 1) := by decide +kernel
theorem dX8_greatestBonus_24 : decode cX8_greatestBonus 24 = .ok (.iload_n 3, 1) := by decide +kernel
theorem dX8_greatestBonus_25 : decode cX8_greatestBonus 25 = .ok (.invokevirtual 122, 3) := by decide +kernel
theorem dX8_greatestBonus_28 : decode cX8_greatestBonus 28 = .ok (.ifCond .eq 7, 3) := by decide +kernel
theorem dX8_greatestBonus_31 : decode cX8_greatestBonus 31 = .ok (.iconst 1, 1) := by decide +kernel
theorem dX8_greatestBonus_32 : decode cX8_greatestBonus 32 = .ok (.goto 4, 3) := by decide +kernel
theorem dX8_greatestBonus_35 : decode cX8_greatestBonus 35 = .ok (.iconst 0, 1) := by decide +kernel
theorem dX8_greatestBonus_36 : decode cX8_greatestBonus 36 = .ok (.istore 4, 2) := by decide +kernel
theorem dX8_greatestBonus_38 : decode cX8_greatestBonus 38 = .ok (.iload 4, 2) := by decide +kernel
theorem dX8_greatestBonus_40 : decode cX8_greatestBonus 40 = .ok (.ifCond .eq 23, 3) := by decide +kernel
theorem dX8_greatestBonus_43 : decode cX8_greatestBonus 43 = .ok (.iload_n 2, 1) := by decide +kernel
theorem dX8_greatestBonus_44 : decode cX8_greatestBonus 44 = .ok (.iconst (-1), 1) := by decide +kernel
theorem dX8_greatestBonus_45 : decode cX8_greatestBonus 45 = .ok (.if_icmp .eq 16, 3) := by decide +kernel
theorem dX8_greatestBonus_48 : decode cX8_greatestBonus 48 = .ok (.aload_n 0, 1) := by decide +kernel
theorem dX8_greatestBonus_49 : decode cX8_greatestBonus 49 = .ok (.iload_n 3, 1) := by decide +kernel
theorem dX8_greatestBonus_50 : decode cX8_greatestBonus 50 = .ok (.invokevirtual 170, 3) := by decide +kernel
theorem dX8_greatestBonus_53 : decode cX8_greatestBonus 53 = .ok (.aload_n 0, 1) := by decide +kernel
theorem dX8_greatestBonus_54 : decode cX8_greatestBonus 54 = .ok (.iload_n 2, 1) := by decide +kernel
theorem dX8_greatestBonus_55 : decode cX8_greatestBonus 55 = .ok (.invokevirtual 170, 3) := by decide +kernel
theorem dX8_greatestBonus_58 : decode cX8_greatestBonus 58 = .ok (.if_icmp .le 5, 3) := by decide +kernel
theorem dX8_greatestBonus_61 : decode cX8_greatestBonus 61 = .ok (.iload_n 3, 1) := by decide +kernel
theorem dX8_greatestBonus_62 : decode cX8_greatestBonus 62 = .ok (.istore_n 2, 1) := by decide +kernel
theorem dX8_greatestBonus_63 : decode cX8_greatestBonus 63 = .ok (.iinc 3 1, 3) := by decide +kernel
theorem dX8_greatestBonus_66 : decode cX8_greatestBonus 66 = .ok (.goto (-62), 3) := by decide +kernel
theorem dX8_greatestBonus_69 : decode cX8_greatestBonus 69 = .ok (.iload_n 2, 1) := by decide +kernel
theorem dX8_greatestBonus_70 : decode cX8_greatestBonus 70 = .ok (.ireturn, 1) := by decide +kernel
theorem dX9_init_0 : decode cX9_init 0 = .ok (.aload_n 0, 1) := by decide +kernel
theorem dX9_init_1 : decode cX9_init 1 = .ok (.invokespecial 3, 3) := by decide +kernel
theorem dX9_init_4 : decode cX9_init 4 = .ok (.aload_n 0, 1) := by decide +kernel
theorem dX9_init_5 : decode cX9_init 5 = .ok (.sipush 600, 3) := by decide +kernel
theorem dX9_init_8 : decode cX9_init 8 = .ok (.newarray .int, 2) := by decide +kernel
theorem dX9_init_10 : decode cX9_init 10 = .ok (.putfield 9, 3) := by decide +kernel
theorem dX9_init_13 : decode cX9_init 13 = .ok (.aload_n 0, 1) := by decide +kernel
theorem dX9_init_14 : decode cX9_init 14 = .ok (.iconst 0, 1) := by decide +kernel
theorem dX9_init_15 : decode cX9_init 15 = .ok (.putfield 13, 3) := by decide +kernel
theorem dX9_init_18 : decode cX9_init 18 = .ok (.aload_n 0, 1) := by decide +kernel
theorem dX9_init_19 : decode cX9_init 19 = .ok (.iconst (-1), 1) := by decide +kernel
theorem dX9_init_20 : decode cX9_init 20 = .ok (.putfield 17, 3) := by decide +kernel
theorem dX9_init_23 : decode cX9_init 23 = .ok (.aload_n 0, 1) := by decide +kernel
theorem dX9_init_24 : decode cX9_init 24 = .ok (.new 20, 3) := by decide +kernel
theorem dX9_init_27 : decode cX9_init 27 = .ok (.dup, 1) := by decide +kernel
theorem dX9_init_28 : decode cX9_init 28 = .ok (.invokespecial 22, 3) := by decide +kernel
theorem dX9_init_31 : decode cX9_init 31 = .ok (.putfield 23, 3) := by decide +kernel
theorem dX9_init_34 : decode cX9_init 34 = .ok (.aload_n 0, 1) := by decide +kernel
theorem dX9_init_35 : decode cX9_init 35 = .ok (.new 20, 3) := by decide +kernel
theorem dX9_init_38 : decode cX9_init 38 = .ok (.dup, 1) := by decide +kernel
theorem dX9_init_39 : decode cX9_init 39 = .ok (.invokespecial 22, 3) := by decide +kernel
theorem dX9_init_42 : decode cX9_init 42 = .ok (.putfield 27, 3) := by decide +kernel
theorem dX9_init_45 : decode cX9_init 45 = .ok (.aload_n 0, 1) := by decide +kernel
theorem dX9_init_46 : decode cX9_init 46 = .ok (.new 30, 3) := by decide +kernel
theorem dX9_init_49 : decode cX9_init 49 = .ok (.dup, 1) := by decide +kernel
theorem dX9_init_50 : decode cX9_init 50 = .ok (.aload_n 0, 1) := by decide +kernel
theorem dX9_init_51 : decode cX9_init 51 = .ok (.getfield 9, 3) := by decide +kernel
theorem dX9_init_54 : decode cX9_init 54 = .ok (.aload_n 0, 1) := by decide +kernel
theorem dX9_init_55 : decode cX9_init 55 = .ok (.getfield 27, 3) := by decide +kernel
theorem dX9_init_58 : decode cX9_init 58 = .ok (.invokespecial 32, 3) := by decide +kernel
theorem dX9_init_61 : decode cX9_init 61 = .ok (.putfield 35, 3) := by decide +kernel
theorem dX9_init_64 : decode cX9_init 64 = .ok (.aload_n 0, 1) := by decide +kernel
theorem dX9_init_65 : decode cX9_init 65 = .ok (.new 39, 3) := by decide +kernel
theorem dX9_init_68 : decode cX9_init 68 = .ok (.dup, 1) := by decide +kernel
theorem dX9_init_69 : decode cX9_init 69 = .ok (.aload_n 0, 1) := by decide +kernel
theorem dX9_init_70 : decode cX9_init 70 = .ok (.getfield 23, 3) := by decide +kernel
theorem dX9_init_73 : decode cX9_init 73 = .ok (.invokespecial 41, 3) := by decide +kernel
theorem dX9_init_76 : decode cX9_init 76 = .ok (.putfield 44, 3) := by decide +kernel
theorem dX9_init_79 : decode cX9_init 79 = .ok (.aload_n 0, 1) := by decide +kernel
theorem dX9_init_80 : decode cX9_init 80 = .ok (.new 48, 3) := by decide +kernel
theorem dX9_init_83 : decode cX9_init 83 = .ok (.dup, 1) := by decide +kernel
theorem dX9_init_84 : decode cX9_init 84 = .ok (.invokespecial 50, 3) := by decide +kernel
theorem dX9_init_87 : decode cX9_init 87 = .ok (.putfield 51, 3) := by decide +kernel
theorem dX9_init_90 : decode cX9_init 90 = .ok (.aload_n 0, 1) := by decide +kernel
theorem dX9_init_91 : decode cX9_init 91 = .ok (.new 55, 3) := by decide +kernel
theorem dX9_init_94 : decode cX9_init 94 = .ok (.dup, 1) := by decide +kernel
theorem dX9_init_95 : decode cX9_init 95 = .ok (.invokespecial 57, 3) := by decide +kernel
theorem dX9_init_98 : decode cX9_init 98 = .ok (.putfield 58, 3) := by decide +kernel
theorem dX9_init_101 : decode cX9_init 101 = .ok (.return_, 1) := by decide +kernel
theorem dX9_feed_0 : decode cX9_feed 0 = .ok (.aload_n 0, 1) := by decide +kernel
theorem dX9_feed_1 : decode cX9_feed 1 = .ok (.getfield 13, 3) := by decide +kernel
theorem dX9_feed_4 : decode cX9_feed 4 = .ok (.bipush 20, 2) := by decide +kernel
theorem dX9_feed_6 : decode cX9_feed 6 = .ok (.iadd, 1) := by decide +kernel
theorem dX9_feed_7 : decode cX9_feed 7 = .ok (.sipush 600, 3) := by decide +kernel
theorem dX9_feed_10 : decode cX9_feed 10 = .ok (.if_icmp .le 5, 3) := by decide +kernel
theorem dX9_feed_13 : decode cX9_feed 13 = .ok (.iconst (-1), 1) := by decide +kernel
theorem dX9_feed_14 : decode cX9_feed 14 = .ok (.ireturn, 1) := by decide +kernel
theorem dX9_feed_15 : decode cX9_feed 15 = .ok (.aload_n 0, 1) := by decide +kernel
theorem dX9_feed_16 : decode cX9_feed 16 = .ok (.iload_n 1, 1) := by decide +kernel
theorem dX9_feed_17 : decode cX9_feed 17 = .ok (.invokevirtual 62, 3) := by decide +kernel
theorem dX9_feed_20 : decode cX9_feed 20 = .ok (.aload_n 0, 1) := by decide +kernel
theorem dX9_feed_21 : decode cX9_feed 21 = .ok (.iload_n 2, 1) := by decide +kernel
theorem dX9_feed_22 : decode cX9_feed 22 = .ok (.invokevirtual 62, 3) := by decide +kernel
theorem dX9_feed_25 : decode cX9_feed 25 = .ok (.aload_n 0, 1) := by decide +kernel
theorem dX9_feed_26 : decode cX9_feed 26 = .ok (.iload_n 3, 1) := by decide +kernel
theorem dX9_feed_27 : decode cX9_feed 27 = .ok (.invokevirtual 62, 3) := by decide +kernel
theorem dX9_feed_30 : decode cX9_feed 30 = .ok (.aload_n 0, 1) := by decide +kernel
theorem dX9_feed_31 : decode cX9_feed 31 = .ok (.iload 4, 2) := by decide +kernel
theorem dX9_feed_33 : decode cX9_feed 33 = .ok (.invokevirtual 62, 3) := by decide +kernel
theorem dX9_feed_36 : decode cX9_feed 36 = .ok (.aload_n 0, 1) := by decide +kernel
theorem dX9_feed_37 : decode cX9_feed 37 = .ok (.iload 5, 2) := by decide +kernel
theorem dX9_feed_39 : decode cX9_feed 39 = .ok (.invokevirtual 62, 3) := by decide +kernel
theorem dX9_feed_42 : decode cX9_feed 42 = .ok (.aload_n 0, 1) := by decide +kernel
theorem dX9_feed_43 : decode cX9_feed 43 = .ok (.getfield 13, 3) := by decide +kernel
theorem dX9_feed_46 : decode cX9_feed 46 = .ok (.ireturn, 1) := by decide +kernel
theorem dX9_end_0 : decode cX9_end 0 = .ok (.iload_n 1, 1) := by decide +kernel
theorem dX9_end_1 : decode cX9_end 1 = .ok (.ifCond .lt 11, 3) := by decide +kernel
theorem dX9_end_4 : decode cX9_end 4 = .ok (.iload_n 1, 1) := by decide +kernel
theorem dX9_end_5 : decode cX9_end 5 = .ok (.aload_n 0, 1) := by decide +kernel
theorem dX9_end_6 : decode cX9_end 6 = .ok (.getfield 13, 3) := by decide +kernel
theorem dX9_end_9 : decode cX9_end 9 = .ok (.if_icmp .le 5, 3) := by decide +kernel
theorem dX9_end_12 : decode cX9_end 12 = .ok (.iconst 0, 1) := by decide +kernel
theorem dX9_end_13 : decode cX9_end 13 = .ok (.ireturn, 1) := by decide +kernel
theorem dX9_end_14 : decode cX9_end 14 = .ok (.aload_n 0, 1) := by decide +kernel
theorem dX9_end_15 : decode cX9_end 15 = .ok (.iload_n 1, 1) := by decide +kernel
theorem dX9_end_16 : decode cX9_end 16 = .ok (.putfield 13, 3) := by decide +kernel
theorem dX9_end_19 : decode cX9_end 19 = .ok (.iconst 1, 1) := by decide +kernel
theorem dX9_end_20 : decode cX9_end 20 = .ok (.ireturn, 1) := by decide +kernel
theorem dX9_read_0 : decode cX9_read 0 = .ok (.aload_n 0, 1) := by decide +kernel
theorem dX9_read_1 : decode cX9_read 1 = .ok (.getfield 13, 3) := by decide +kernel
theorem dX9_read_4 : decode cX9_read 4 = .ok (.istore_n 1, 1) := by decide +kernel
theorem dX9_read_5 : decode cX9_read 5 = .ok (.aload_n 0, 1) := by decide +kernel
theorem dX9_read_6 : decode cX9_read 6 = .ok (.iconst 0, 1) := by decide +kernel
theorem dX9_read_7 : decode cX9_read 7 = .ok (.putfield 13, 3) := by decide +kernel
theorem dX9_read_10 : decode cX9_read 10 = .ok (.aload_n 0, 1) := by decide +kernel
theorem dX9_read_11 : decode cX9_read 11 = .ok (.aload_n 0, 1) := by decide +kernel
theorem dX9_read_12 : decode cX9_read 12 = .ok (.getfield 35, 3) := by decide +kernel
theorem dX9_read_15 : decode cX9_read 15 = .ok (.iload_n 1, 1) := by decide +kernel
theorem dX9_read_16 : decode cX9_read 16 = .ok (.aload_n 0, 1) := by decide +kernel
theorem dX9_read_17 : decode cX9_read 17 = .ok (.getfield 27, 3) := by decide +kernel
theorem dX9_read_20 : decode cX9_read 20 = .ok (.invokevirtual 66, 3) := by decide +kernel
theorem dX9_read_23 : decode cX9_read 23 = .ok (.putfield 17, 3) := by decide +kernel
theorem dX9_read_26 : decode cX9_read 26 = .ok (.aload_n 0, 1) := by decide +kernel
theorem dX9_read_27 : decode cX9_read 27 = .ok (.getfield 17, 3) := by decide +kernel
theorem dX9_read_30 : decode cX9_read 30 = .ok (.iconst (-1), 1) := by decide +kernel
theorem dX9_read_31 : decode cX9_read 31 = .ok (.if_icmp .eq 13, 3) := by decide +kernel
theorem dX9_read_34 : decode cX9_read 34 = .ok (.new 70, 3) := by decide +kernel
theorem dX9_read_37 : decode cX9_read 37 = .ok (.dup, 1) := by decide +kernel
theorem dX9_read_38 : decode cX9_read 38 = .ok (.ldc 72, 2) := by decide +kernel
theorem dX9_read_40 : decode cX9_read 40 = .ok (.invokespecial 74, 3) := by decide +kernel
theorem dX9_read_43 : decode cX9_read 43 = .ok (.athrow, 1) := by decide +kernel
theorem dX9_read_44 : decode cX9_read 44 = .ok (.aload_n 0, 1) := by decide +kernel
theorem dX9_read_45 : decode cX9_read 45 = .ok (.getfield 23, 3) := by decide +kernel
theorem dX9_read_48 : decode cX9_read 48 = .ok (.astore_n 2, 1) := by decide +kernel
theorem dX9_read_49 : decode cX9_read 49 = .ok (.aload_n 0, 1) := by decide +kernel
theorem dX9_read_50 : decode cX9_read 50 = .ok (.aload_n 0, 1) := by decide +kernel
theorem dX9_read_51 : decode cX9_read 51 = .ok (.getfield 27, 3) := by decide +kernel
theorem dX9_read_54 : decode cX9_read 54 = .ok (.putfield 23, 3) := by decide +kernel
theorem dX9_read_57 : decode cX9_read 57 = .ok (.aload_n 0, 1) := by decide +kernel
theorem dX9_read_58 : decode cX9_read 58 = .ok (.aload_n 2, 1) := by decide +kernel
theorem dX9_read_59 : decode cX9_read 59 = .ok (.putfield 27, 3) := by decide +kernel
theorem dX9_read_62 : decode cX9_read 62 = .ok (.aload_n 0, 1) := by decide +kernel
theorem dX9_read_63 : decode cX9_read 63 = .ok (.getfield 51, 3) := by decide +kernel
theorem dX9_read_66 : decode cX9_read 66 = .ok (.invokevirtual 77, 3) := by decide +kernel
theorem dX9_read_69 : decode cX9_read 69 = .ok (.aload_n 0, 1) := by decide +kernel
theorem dX9_read_70 : decode cX9_read 70 = .ok (.getfield 23, 3) := by decide +kernel
theorem dX9_read_73 : decode cX9_read 73 = .ok (.getfield 80, 3) := by decide +kernel
theorem dX9_read_76 : decode cX9_read 76 = .ok (.getfield 84, 3) := by decide +kernel
theorem dX9_read_79 : decode cX9_read 79 = .ok (.ireturn, 1) := by decide +kernel
theorem dX9_fault_0 : decode cX9_fault 0 = .ok (.aload_n 0, 1) := by decide +kernel
theorem dX9_fault_1 : decode cX9_fault 1 = .ok (.getfield 17, 3) := by decide +kernel
theorem dX9_fault_4 : decode cX9_fault 4 = .ok (.ireturn, 1) := by decide +kernel
theorem dX9_name_0 : decode cX9_name 0 = .ok (.iload_n 1, 1) := by decide +kernel
theorem dX9_name_1 : decode cX9_name 1 = .ok (.ifCond .eq 21, 3) := by decide +kernel
theorem dX9_name_4 : decode cX9_name 4 = .ok (.aload_n 0, 1) := by decide +kernel
theorem dX9_name_5 : decode cX9_name 5 = .ok (.iload_n 2, 1) := by decide +kernel
theorem dX9_name_6 : decode cX9_name 6 = .ok (.invokevirtual 89, 3) := by decide +kernel
theorem dX9_name_9 : decode cX9_name 9 = .ok (.aload_n 0, 1) := by decide +kernel
theorem dX9_name_10 : decode cX9_name 10 = .ok (.getfield 23, 3) := by decide +kernel
theorem dX9_name_13 : decode cX9_name 13 = .ok (.getfield 80, 3) := by decide +kernel
theorem dX9_name_16 : decode cX9_name 16 = .ok (.iload_n 2, 1) := by decide +kernel
theorem dX9_name_17 : decode cX9_name 17 = .ok (.iload_n 3, 1) := by decide +kernel
theorem dX9_name_18 : decode cX9_name 18 = .ok (.invokevirtual 92, 3) := by decide +kernel
theorem dX9_name_21 : decode cX9_name 21 = .ok (.ireturn, 1) := by decide +kernel
theorem dX9_name_22 : decode cX9_name 22 = .ok (.aload_n 0, 1) := by decide +kernel
theorem dX9_name_23 : decode cX9_name 23 = .ok (.iload_n 2, 1) := by decide +kernel
theorem dX9_name_24 : decode cX9_name 24 = .ok (.invokevirtual 96, 3) := by decide +kernel
theorem dX9_name_27 : decode cX9_name 27 = .ok (.aload_n 0, 1) := by decide +kernel
theorem dX9_name_28 : decode cX9_name 28 = .ok (.getfield 23, 3) := by decide +kernel
theorem dX9_name_31 : decode cX9_name 31 = .ok (.getfield 99, 3) := by decide +kernel
theorem dX9_name_34 : decode cX9_name 34 = .ok (.iload_n 2, 1) := by decide +kernel
theorem dX9_name_35 : decode cX9_name 35 = .ok (.iload_n 3, 1) := by decide +kernel
theorem dX9_name_36 : decode cX9_name 36 = .ok (.invokevirtual 92, 3) := by decide +kernel
theorem dX9_name_39 : decode cX9_name 39 = .ok (.ireturn, 1) := by decide +kernel
theorem dX9_element_0 : decode cX9_element 0 = .ok (.aload_n 0, 1) := by decide +kernel
theorem dX9_element_1 : decode cX9_element 1 = .ok (.iload_n 1, 1) := by decide +kernel
theorem dX9_element_2 : decode cX9_element 2 = .ok (.invokevirtual 96, 3) := by decide +kernel
theorem dX9_element_5 : decode cX9_element 5 = .ok (.iload_n 2, 1) := by decide +kernel
theorem dX9_element_6 : decode cX9_element 6 = .ok (.lookupswitch 46 #[(0, 26), (1, 36)], 26) := by decide +kernel
theorem dX9_element_32 : decode cX9_element 32 = .ok (.aload_n 0, 1) := by decide +kernel
theorem dX9_element_33 : decode cX9_element 33 = .ok (.getfield 23, 3) := by decide +kernel
theorem dX9_element_36 : decode cX9_element 36 = .ok (.getfield 102, 3) := by decide +kernel
theorem dX9_element_39 : decode cX9_element 39 = .ok (.iload_n 1, 1) := by decide +kernel
theorem dX9_element_40 : decode cX9_element 40 = .ok (.iaload, 1) := by decide +kernel
theorem dX9_element_41 : decode cX9_element 41 = .ok (.ireturn, 1) := by decide +kernel
theorem dX9_element_42 : decode cX9_element 42 = .ok (.aload_n 0, 1) := by decide +kernel
theorem dX9_element_43 : decode cX9_element 43 = .ok (.getfield 23, 3) := by decide +kernel
theorem dX9_element_46 : decode cX9_element 46 = .ok (.getfield 105, 3) := by decide +kernel
theorem dX9_element_49 : decode cX9_element 49 = .ok (.iload_n 1, 1) := by decide +kernel
theorem dX9_element_50 : decode cX9_element 50 = .ok (.iaload, 1) := by decide +kernel
theorem dX9_element_51 : decode cX9_element 51 = .ok (.ireturn, 1) := by decide +kernel
theorem dX9_element_52 : decode cX9_element 52 = .ok (.new 108, 3) := by decide +kernel
theorem dX9_element_55 : decode cX9_element 55 = .ok (.dup, 1) := by decide +kernel
theorem dX9_element_56 : decode cX9_element 56 = .ok (.ldc 110, 2) := by decide +kernel
theorem dX9_element_58 : decode cX9_element 58 = .ok (.invokespecial 112, 3) := by decide +kernel
theorem dX9_element_61 : decode cX9_element 61 = .ok (.athrow, 1) := by decide +kernel
theorem dX9_attempt_0 : decode cX9_attempt 0 = .ok (.aload_n 0, 1) := by decide +kernel
theorem dX9_attempt_1 : decode cX9_attempt 1 = .ok (.iload_n 1, 1) := by decide +kernel
theorem dX9_attempt_2 : decode cX9_attempt 2 = .ok (.iload_n 2, 1) := by decide +kernel
theorem dX9_attempt_3 : decode cX9_attempt 3 = .ok (.invokevirtual 113, 3) := by decide +kernel
theorem dX9_attempt_6 : decode cX9_attempt 6 = .ok (.aload_n 0, 1) := by decide +kernel
theorem dX9_attempt_7 : decode cX9_attempt 7 = .ok (.getfield 23, 3) := by decide +kernel
theorem dX9_attempt_10 : decode cX9_attempt 10 = .ok (.getfield 117, 3) := by decide +kernel
theorem dX9_attempt_13 : decode cX9_attempt 13 = .ok (.iload_n 1, 1) := by decide +kernel
theorem dX9_attempt_14 : decode cX9_attempt 14 = .ok (.aaload, 1) := by decide +kernel
theorem dX9_attempt_15 : decode cX9_attempt 15 = .ok (.astore 4, 2) := by decide +kernel
theorem dX9_attempt_17 : decode cX9_attempt 17 = .ok (.aload_n 0, 1) := by decide +kernel
theorem dX9_attempt_18 : decode cX9_attempt 18 = .ok (.iload_n 1, 1) := by decide +kernel
theorem dX9_attempt_19 : decode cX9_attempt 19 = .ok (.invokevirtual 121, 3) := by decide +kernel
theorem dX9_attempt_22 : decode cX9_attempt 22 = .ok (.astore 5, 2) := by decide +kernel
theorem dX9_attempt_24 : decode cX9_attempt 24 = .ok (.iload_n 3, 1) := by decide +kernel
theorem dX9_attempt_25 : decode cX9_attempt 25 = .ok (.tableswitch 159 0 10 #[59, 67, 75, 83, 91, 99, 107, 122, 130, 137, 148], 59) := by decide +kernel
theorem dX9_attempt_84 : decode cX9_attempt 84 = .ok (.aload 4, 2) := by decide +kernel
theorem dX9_attempt_86 : decode cX9_attempt 86 = .ok (.getfield 125, 3) := by decide +kernel
theorem dX9_attempt_89 : decode cX9_attempt 89 = .ok (.iload_n 2, 1) := by decide +kernel
theorem dX9_attempt_90 : decode cX9_attempt 90 = .ok (.iaload, 1) := by decide +kernel
theorem dX9_attempt_91 : decode cX9_attempt 91 = .ok (.ireturn, 1) := by decide +kernel
theorem dX9_attempt_92 : decode cX9_attempt 92 = .ok (.aload 4, 2) := by decide +kernel
theorem dX9_attempt_94 : decode cX9_attempt 94 = .ok (.getfield 130, 3) := by decide +kernel
theorem dX9_attempt_97 : decode cX9_attempt 97 = .ok (.iload_n 2, 1) := by decide +kernel
theorem dX9_attempt_98 : decode cX9_attempt 98 = .ok (.iaload, 1) := by decide +kernel
theorem dX9_attempt_99 : decode cX9_attempt 99 = .ok (.ireturn, 1) := by decide +kernel
theorem dX9_attempt_100 : decode cX9_attempt 100 = .ok (.aload 4, 2) := by decide +kernel
theorem dX9_attempt_102 : decode cX9_attempt 102 = .ok (.iload_n 2, 1) := by decide +kernel
theorem dX9_attempt_103 : decode cX9_attempt 103 = .ok (.iconst 0, 1) := by decide +kernel
theorem dX9_attempt_104 : decode cX9_attempt 104 = .ok (.invokevirtual 133, 3) := by decide +kernel
theorem dX9_attempt_107 : decode cX9_attempt 107 = .ok (.ireturn, 1) := by decide +kernel
theorem dX9_attempt_108 : decode cX9_attempt 108 = .ok (.aload 4, 2) := by decide +kernel
theorem dX9_attempt_110 : decode cX9_attempt 110 = .ok (.iload_n 2, 1) := by decide +kernel
theorem dX9_attempt_111 : decode cX9_attempt 111 = .ok (.iconst 1, 1) := by decide +kernel
theorem dX9_attempt_112 : decode cX9_attempt 112 = .ok (.invokevirtual 133, 3) := by decide +kernel
theorem dX9_attempt_115 : decode cX9_attempt 115 = .ok (.ireturn, 1) := by decide +kernel
theorem dX9_attempt_116 : decode cX9_attempt 116 = .ok (.aload 4, 2) := by decide +kernel
theorem dX9_attempt_118 : decode cX9_attempt 118 = .ok (.iload_n 2, 1) := by decide +kernel
theorem dX9_attempt_119 : decode cX9_attempt 119 = .ok (.iconst 2, 1) := by decide +kernel
theorem dX9_attempt_120 : decode cX9_attempt 120 = .ok (.invokevirtual 133, 3) := by decide +kernel
theorem dX9_attempt_123 : decode cX9_attempt 123 = .ok (.ireturn, 1) := by decide +kernel
theorem dX9_attempt_124 : decode cX9_attempt 124 = .ok (.aload 4, 2) := by decide +kernel
theorem dX9_attempt_126 : decode cX9_attempt 126 = .ok (.getfield 136, 3) := by decide +kernel
theorem dX9_attempt_129 : decode cX9_attempt 129 = .ok (.iload_n 2, 1) := by decide +kernel
theorem dX9_attempt_130 : decode cX9_attempt 130 = .ok (.iaload, 1) := by decide +kernel
theorem dX9_attempt_131 : decode cX9_attempt 131 = .ok (.ireturn, 1) := by decide +kernel
theorem dX9_attempt_132 : decode cX9_attempt 132 = .ok (.aload 5, 2) := by decide +kernel
theorem dX9_attempt_134 : decode cX9_attempt 134 = .ok (.iload_n 2, 1) := by decide +kernel
theorem dX9_attempt_135 : decode cX9_attempt 135 = .ok (.invokevirtual 139, 3) := by decide +kernel
theorem dX9_attempt_138 : decode cX9_attempt 138 = .ok (.ifCond .eq 7, 3) := by decide +kernel
theorem dX9_attempt_141 : decode cX9_attempt 141 = .ok (.iconst 1, 1) := by decide +kernel
theorem dX9_attempt_142 : decode cX9_attempt 142 = .ok (.goto 4, 3) := by decide +kernel
theorem dX9_attempt_145 : decode cX9_attempt 145 = .ok (.iconst 0, 1) := by decide +kernel
theorem dX9_attempt_146 : decode cX9_attempt 146 = .ok (.ireturn, 1) := by decide +kernel
theorem dX9_attempt_147 : decode cX9_attempt 147 = .ok (.aload 5, 2) := by decide +kernel
theorem dX9_attempt_149 : decode cX9_attempt 149 = .ok (.getfield 145, 3) := by decide +kernel
theorem dX9_attempt_152 : decode cX9_attempt 152 = .ok (.iload_n 2, 1) := by decide +kernel
theorem dX9_attempt_153 : decode cX9_attempt 153 = .ok (.iaload, 1) := by decide +kernel
theorem dX9_attempt_154 : decode cX9_attempt 154 = .ok (.ireturn, 1) := by decide +kernel
theorem dX9_attempt_155 : decode cX9_attempt 155 = .ok (.aload 5, 2) := by decide +kernel
theorem dX9_attempt_157 : decode cX9_attempt 157 = .ok (.iload_n 2, 1) := by decide +kernel
theorem dX9_attempt_158 : decode cX9_attempt 158 = .ok (.invokevirtual 148, 3) := by decide +kernel
theorem dX9_attempt_161 : decode cX9_attempt 161 = .ok (.ireturn, 1) := by decide +kernel
theorem dX9_attempt_162 : decode cX9_attempt 162 = .ok (.aload 5, 2) := by decide +kernel
theorem dX9_attempt_164 : decode cX9_attempt 164 = .ok (.iload_n 2, 1) := by decide +kernel
theorem dX9_attempt_165 : decode cX9_attempt 165 = .ok (.aload_n 0, 1) := by decide +kernel
theorem dX9_attempt_166 : decode cX9_attempt 166 = .ok (.invokevirtual 152, 3) := by decide +kernel
theorem dX9_attempt_169 : decode cX9_attempt 169 = .ok (.invokevirtual 156, 3) := by decide +kernel
theorem dX9_attempt_172 : decode cX9_attempt 172 = .ok (.ireturn, 1) := by decide +kernel
theorem dX9_attempt_173 : decode cX9_attempt 173 = .ok (.aload 5, 2) := by decide +kernel
theorem dX9_attempt_175 : decode cX9_attempt 175 = .ok (.iload_n 2, 1) := by decide +kernel
theorem dX9_attempt_176 : decode cX9_attempt 176 = .ok (.aload_n 0, 1) := by decide +kernel
theorem dX9_attempt_177 : decode cX9_attempt 177 = .ok (.invokevirtual 152, 3) := by decide +kernel
theorem dX9_attempt_180 : decode cX9_attempt 180 = .ok (.invokevirtual 159, 3) := by decide +kernel
theorem dX9_attempt_183 : decode cX9_attempt 183 = .ok (.ireturn, 1) := by decide +kernel
theorem dX9_attempt_184 : decode cX9_attempt 184 = .ok (.new 108, 3) := by decide +kernel
theorem dX9_attempt_187 : decode cX9_attempt 187 = .ok (.dup, 1) := by decide +kernel
theorem dX9_attempt_188 : decode cX9_attempt 188 = .ok (.ldc 162, 2) := by decide +kernel
theorem dX9_attempt_190 : decode cX9_attempt 190 = .ok (.invokespecial 112, 3) := by decide +kernel
theorem dX9_attempt_193 : decode cX9_attempt 193 = .ok (.athrow, 1) := by decide +kernel
theorem dX9_grade_0 : decode cX9_grade 0 = .ok (.aload_n 0, 1) := by decide +kernel
theorem dX9_grade_1 : decode cX9_grade 1 = .ok (.iload_n 1, 1) := by decide +kernel
theorem dX9_grade_2 : decode cX9_grade 2 = .ok (.iload_n 2, 1) := by decide +kernel
theorem dX9_grade_3 : decode cX9_grade 3 = .ok (.invokevirtual 113, 3) := by decide +kernel
theorem dX9_grade_6 : decode cX9_grade 6 = .ok (.aload_n 0, 1) := by decide +kernel
theorem dX9_grade_7 : decode cX9_grade 7 = .ok (.iload_n 3, 1) := by decide +kernel
theorem dX9_grade_8 : decode cX9_grade 8 = .ok (.invokevirtual 164, 3) := by decide +kernel
theorem dX9_grade_11 : decode cX9_grade 11 = .ok (.aload_n 0, 1) := by decide +kernel
theorem dX9_grade_12 : decode cX9_grade 12 = .ok (.getfield 23, 3) := by decide +kernel
theorem dX9_grade_15 : decode cX9_grade 15 = .ok (.getfield 117, 3) := by decide +kernel
theorem dX9_grade_18 : decode cX9_grade 18 = .ok (.iload_n 1, 1) := by decide +kernel
theorem dX9_grade_19 : decode cX9_grade 19 = .ok (.aaload, 1) := by decide +kernel
theorem dX9_grade_20 : decode cX9_grade 20 = .ok (.getfield 167, 3) := by decide +kernel
theorem dX9_grade_23 : decode cX9_grade 23 = .ok (.iload_n 2, 1) := by decide +kernel
theorem dX9_grade_24 : decode cX9_grade 24 = .ok (.iload_n 3, 1) := by decide +kernel
theorem dX9_grade_25 : decode cX9_grade 25 = .ok (.invokestatic 170, 3) := by decide +kernel
theorem dX9_grade_28 : decode cX9_grade 28 = .ok (.iaload, 1) := by decide +kernel
theorem dX9_grade_29 : decode cX9_grade 29 = .ok (.ireturn, 1) := by decide +kernel
theorem dX9_mean_0 : decode cX9_mean 0 = .ok (.aload_n 0, 1) := by decide +kernel
theorem dX9_mean_1 : decode cX9_mean 1 = .ok (.iload_n 1, 1) := by decide +kernel
theorem dX9_mean_2 : decode cX9_mean 2 = .ok (.iload_n 2, 1) := by decide +kernel
theorem dX9_mean_3 : decode cX9_mean 3 = .ok (.invokevirtual 113, 3) := by decide +kernel
theorem dX9_mean_6 : decode cX9_mean 6 = .ok (.aload_n 0, 1) := by decide +kernel
theorem dX9_mean_7 : decode cX9_mean 7 = .ok (.iload_n 1, 1) := by decide +kernel
theorem dX9_mean_8 : decode cX9_mean 8 = .ok (.invokevirtual 121, 3) := by decide +kernel
theorem dX9_mean_11 : decode cX9_mean 11 = .ok (.iload_n 2, 1) := by decide +kernel
theorem dX9_mean_12 : decode cX9_mean 12 = .ok (.aload_n 0, 1) := by decide +kernel
theorem dX9_mean_13 : decode cX9_mean 13 = .ok (.invokevirtual 152, 3) := by decide +kernel
theorem dX9_mean_16 : decode cX9_mean 16 = .ok (.invokevirtual 173, 3) := by decide +kernel
theorem dX9_mean_19 : decode cX9_mean 19 = .ok (.ireturn, 1) := by decide +kernel
theorem dX9_mark_0 : decode cX9_mark 0 = .ok (.aload_n 0, 1) := by decide +kernel
theorem dX9_mark_1 : decode cX9_mark 1 = .ok (.iload_n 1, 1) := by decide +kernel
theorem dX9_mark_2 : decode cX9_mark 2 = .ok (.invokevirtual 89, 3) := by decide +kernel
theorem dX9_mark_5 : decode cX9_mark 5 = .ok (.aload_n 0, 1) := by decide +kernel
theorem dX9_mark_6 : decode cX9_mark 6 = .ok (.iload_n 2, 1) := by decide +kernel
theorem dX9_mark_7 : decode cX9_mark 7 = .ok (.invokevirtual 176, 3) := by decide +kernel
theorem dX9_mark_10 : decode cX9_mark 10 = .ok (.aload_n 0, 1) := by decide +kernel
theorem dX9_mark_11 : decode cX9_mark 11 = .ok (.iload_n 3, 1) := by decide +kernel
theorem dX9_mark_12 : decode cX9_mark 12 = .ok (.invokevirtual 164, 3) := by decide +kernel
theorem dX9_mark_15 : decode cX9_mark 15 = .ok (.aload_n 0, 1) := by decide +kernel
theorem dX9_mark_16 : decode cX9_mark 16 = .ok (.getfield 23, 3) := by decide +kernel
theorem dX9_mark_19 : decode cX9_mark 19 = .ok (.getfield 117, 3) := by decide +kernel
theorem dX9_mark_22 : decode cX9_mark 22 = .ok (.iload_n 1, 1) := by decide +kernel
theorem dX9_mark_23 : decode cX9_mark 23 = .ok (.aaload, 1) := by decide +kernel
theorem dX9_mark_24 : decode cX9_mark 24 = .ok (.getfield 167, 3) := by decide +kernel
theorem dX9_mark_27 : decode cX9_mark 27 = .ok (.iload_n 2, 1) := by decide +kernel
theorem dX9_mark_28 : decode cX9_mark 28 = .ok (.iload_n 3, 1) := by decide +kernel
theorem dX9_mark_29 : decode cX9_mark 29 = .ok (.invokestatic 179, 3) := by decide +kernel
theorem dX9_mark_32 : decode cX9_mark 32 = .ok (.iaload, 1) := by decide +kernel
theorem dX9_mark_33 : decode cX9_mark 33 = .ok (.ireturn, 1) := by decide +kernel
theorem dX9_component_0 : decode cX9_component 0 = .ok (.aload_n 0, 1) := by decide +kernel
theorem dX9_component_1 : decode cX9_component 1 = .ok (.iload_n 1, 1) := by decide +kernel
theorem dX9_component_2 : decode cX9_component 2 = .ok (.invokevirtual 89, 3) := by decide +kernel
theorem dX9_component_5 : decode cX9_component 5 = .ok (.aload_n 0, 1) := by decide +kernel
theorem dX9_component_6 : decode cX9_component 6 = .ok (.iload_n 2, 1) := by decide +kernel
theorem dX9_component_7 : decode cX9_component 7 = .ok (.invokevirtual 176, 3) := by decide +kernel
theorem dX9_component_10 : decode cX9_component 10 = .ok (.aload_n 0, 1) := by decide +kernel
theorem dX9_component_11 : decode cX9_component 11 = .ok (.iload_n 1, 1) := by decide +kernel
theorem dX9_component_12 : decode cX9_component 12 = .ok (.invokevirtual 121, 3) := by decide +kernel
theorem dX9_component_15 : decode cX9_component 15 = .ok (.iload_n 2, 1) := by decide +kernel
theorem dX9_component_16 : decode cX9_component 16 = .ok (.aload_n 0, 1) := by decide +kernel
theorem dX9_component_17 : decode cX9_component 17 = .ok (.invokevirtual 152, 3) := by decide +kernel
theorem dX9_component_20 : decode cX9_component 20 = .ok (.invokevirtual 182, 3) := by decide +kernel
theorem dX9_component_23 : decode cX9_component 23 = .ok (.ireturn, 1) := by decide +kernel
theorem dX9_total_0 : decode cX9_total 0 = .ok (.aload_n 0, 1) := by decide +kernel
theorem dX9_total_1 : decode cX9_total 1 = .ok (.iload_n 1, 1) := by decide +kernel
theorem dX9_total_2 : decode cX9_total 2 = .ok (.invokevirtual 89, 3) := by decide +kernel
theorem dX9_total_5 : decode cX9_total 5 = .ok (.aload_n 0, 1) := by decide +kernel
theorem dX9_total_6 : decode cX9_total 6 = .ok (.iload_n 1, 1) := by decide +kernel
theorem dX9_total_7 : decode cX9_total 7 = .ok (.invokevirtual 121, 3) := by decide +kernel
theorem dX9_total_10 : decode cX9_total 10 = .ok (.astore_n 3, 1) := by decide +kernel
theorem dX9_total_11 : decode cX9_total 11 = .ok (.iload_n 2, 1) := by decide +kernel
theorem dX9_total_12 : decode cX9_total 12 = .ok (.tableswitch 63 0 4 #[36, 41, 46, 53, 58], 36) := by decide +kernel
theorem dX9_total_48 : decode cX9_total 48 = .ok (.aload_n 3, 1) := by decide +kernel
theorem dX9_total_49 : decode cX9_total 49 = .ok (.getfield 185, 3) := by decide +kernel
theorem dX9_total_52 : decode cX9_total 52 = .ok (.ireturn, 1) := by decide +kernel
theorem dX9_total_53 : decode cX9_total 53 = .ok (.aload_n 3, 1) := by decide +kernel
theorem dX9_total_54 : decode cX9_total 54 = .ok (.getfield 188, 3) := by decide +kernel
theorem dX9_total_57 : decode cX9_total 57 = .ok (.ireturn, 1) := by decide +kernel
theorem dX9_total_58 : decode cX9_total 58 = .ok (.aload_n 3, 1) := by decide +kernel
theorem dX9_total_59 : decode cX9_total 59 = .ok (.getfield 191, 3) := by decide +kernel
theorem dX9_total_62 : decode cX9_total 62 = .ok (.iconst 0, 1) := by decide +kernel
theorem dX9_total_63 : decode cX9_total 63 = .ok (.iaload, 1) := by decide +kernel
theorem dX9_total_64 : decode cX9_total 64 = .ok (.ireturn, 1) := by decide +kernel
theorem dX9_total_65 : decode cX9_total 65 = .ok (.aload_n 3, 1) := by decide +kernel
theorem dX9_total_66 : decode cX9_total 66 = .ok (.getfield 196, 3) := by decide +kernel
theorem dX9_total_69 : decode cX9_total 69 = .ok (.ireturn, 1) := by decide +kernel
theorem dX9_total_70 : decode cX9_total 70 = .ok (.aload_n 3, 1) := by decide +kernel
theorem dX9_total_71 : decode cX9_total 71 = .ok (.getfield 199, 3) := by decide +kernel
theorem dX9_total_74 : decode cX9_total 74 = .ok (.ireturn, 1) := by decide +kernel
theorem dX9_total_75 : decode cX9_total 75 = .ok (.new 108, 3) := by decide +kernel
theorem dX9_total_78 : decode cX9_total 78 = .ok (.dup, 1) := by decide +kernel
theorem dX9_total_79 : decode cX9_total 79 = .ok (.ldc 202, 2) := by decide +kernel
theorem dX9_total_81 : decode cX9_total 81 = .ok (.invokespecial 112, 3) := by decide +kernel
theorem dX9_total_84 : decode cX9_total 84 = .ok (.athrow, 1) := by decide +kernel
theorem dX9_rule_0 : decode cX9_rule 0 = .ok (.aload_n 0, 1) := by decide +kernel
theorem dX9_rule_1 : decode cX9_rule 1 = .ok (.iload_n 1, 1) := by decide +kernel
theorem dX9_rule_2 : decode cX9_rule 2 = .ok (.invokevirtual 89, 3) := by decide +kernel
theorem dX9_rule_5 : decode cX9_rule 5 = .ok (.iload_n 2, 1) := by decide +kernel
theorem dX9_rule_6 : decode cX9_rule 6 = .ok (.ifCond .lt 17, 3) := by decide +kernel
theorem dX9_rule_9 : decode cX9_rule 9 = .ok (.iload_n 2, 1) := by decide +kernel
theorem dX9_rule_10 : decode cX9_rule 10 = .ok (.aload_n 0, 1) := by decide +kernel
theorem dX9_rule_11 : decode cX9_rule 11 = .ok (.getfield 23, 3) := by decide +kernel
theorem dX9_rule_14 : decode cX9_rule 14 = .ok (.getfield 204, 3) := by decide +kernel
theorem dX9_rule_17 : decode cX9_rule 17 = .ok (.getfield 208, 3) := by decide +kernel
theorem dX9_rule_20 : decode cX9_rule 20 = .ok (.if_icmp .lt 13, 3) := by decide +kernel
theorem dX9_rule_23 : decode cX9_rule 23 = .ok (.new 108, 3) := by decide +kernel
theorem dX9_rule_26 : decode cX9_rule 26 = .ok (.dup, 1) := by decide +kernel
theorem dX9_rule_27 : decode cX9_rule 27 = .ok (.ldc 209, 2) := by decide +kernel
theorem dX9_rule_29 : decode cX9_rule 29 = .ok (.invokespecial 112, 3) := by decide +kernel
theorem dX9_rule_32 : decode cX9_rule 32 = .ok (.athrow, 1) := by decide +kernel
theorem dX9_rule_33 : decode cX9_rule 33 = .ok (.aload_n 0, 1) := by decide +kernel
theorem dX9_rule_34 : decode cX9_rule 34 = .ok (.getfield 23, 3) := by decide +kernel
theorem dX9_rule_37 : decode cX9_rule 37 = .ok (.getfield 204, 3) := by decide +kernel
theorem dX9_rule_40 : decode cX9_rule 40 = .ok (.iload_n 2, 1) := by decide +kernel
theorem dX9_rule_41 : decode cX9_rule 41 = .ok (.aload_n 0, 1) := by decide +kernel
theorem dX9_rule_42 : decode cX9_rule 42 = .ok (.iload_n 1, 1) := by decide +kernel
theorem dX9_rule_43 : decode cX9_rule 43 = .ok (.invokevirtual 121, 3) := by decide +kernel
theorem dX9_rule_46 : decode cX9_rule 46 = .ok (.getfield 191, 3) := by decide +kernel
theorem dX9_rule_49 : decode cX9_rule 49 = .ok (.invokevirtual 211, 3) := by decide +kernel
theorem dX9_rule_52 : decode cX9_rule 52 = .ok (.ireturn, 1) := by decide +kernel
theorem dX9_rank_0 : decode cX9_rank 0 = .ok (.aload_n 0, 1) := by decide +kernel
theorem dX9_rank_1 : decode cX9_rank 1 = .ok (.iload_n 1, 1) := by decide +kernel
theorem dX9_rank_2 : decode cX9_rank 2 = .ok (.invokevirtual 89, 3) := by decide +kernel
theorem dX9_rank_5 : decode cX9_rank 5 = .ok (.aload_n 0, 1) := by decide +kernel
theorem dX9_rank_6 : decode cX9_rank 6 = .ok (.getfield 44, 3) := by decide +kernel
theorem dX9_rank_9 : decode cX9_rank 9 = .ok (.aload_n 0, 1) := by decide +kernel
theorem dX9_rank_10 : decode cX9_rank 10 = .ok (.getfield 23, 3) := by decide +kernel
theorem dX9_rank_13 : decode cX9_rank 13 = .ok (.sipush 600, 3) := by decide +kernel
theorem dX9_rank_16 : decode cX9_rank 16 = .ok (.invokevirtual 215, 3) := by decide +kernel
theorem dX9_rank_19 : decode cX9_rank 19 = .ok (.aload_n 0, 1) := by decide +kernel
theorem dX9_rank_20 : decode cX9_rank 20 = .ok (.getfield 44, 3) := by decide +kernel
theorem dX9_rank_23 : decode cX9_rank 23 = .ok (.iload_n 1, 1) := by decide +kernel
theorem dX9_rank_24 : decode cX9_rank 24 = .ok (.invokevirtual 219, 3) := by decide +kernel
theorem dX9_rank_27 : decode cX9_rank 27 = .ok (.ireturn, 1) := by decide +kernel
theorem dX9_ranked_0 : decode cX9_ranked 0 = .ok (.aload_n 0, 1) := by decide +kernel
theorem dX9_ranked_1 : decode cX9_ranked 1 = .ok (.getfield 44, 3) := by decide +kernel
theorem dX9_ranked_4 : decode cX9_ranked 4 = .ok (.aload_n 0, 1) := by decide +kernel
theorem dX9_ranked_5 : decode cX9_ranked 5 = .ok (.getfield 23, 3) := by decide +kernel
theorem dX9_ranked_8 : decode cX9_ranked 8 = .ok (.sipush 600, 3) := by decide +kernel
theorem dX9_ranked_11 : decode cX9_ranked 11 = .ok (.invokevirtual 215, 3) := by decide +kernel
theorem dX9_ranked_14 : decode cX9_ranked 14 = .ok (.aload_n 0, 1) := by decide +kernel
theorem dX9_ranked_15 : decode cX9_ranked 15 = .ok (.getfield 44, 3) := by decide +kernel
theorem dX9_ranked_18 : decode cX9_ranked 18 = .ok (.iload_n 1, 1) := by decide +kernel
theorem dX9_ranked_19 : decode cX9_ranked 19 = .ok (.invokevirtual 222, 3) := by decide +kernel
theorem dX9_ranked_22 : decode cX9_ranked 22 = .ok (.ireturn, 1) := by decide +kernel
theorem dX9_tell_0 : decode cX9_tell 0 = .ok (.aload_n 0, 1) := by decide +kernel
theorem dX9_tell_1 : decode cX9_tell 1 = .ok (.iload_n 1, 1) := by decide +kernel
theorem dX9_tell_2 : decode cX9_tell 2 = .ok (.iload_n 2, 1) := by decide +kernel
theorem dX9_tell_3 : decode cX9_tell 3 = .ok (.invokevirtual 113, 3) := by decide +kernel
theorem dX9_tell_6 : decode cX9_tell 6 = .ok (.aload_n 0, 1) := by decide +kernel
theorem dX9_tell_7 : decode cX9_tell 7 = .ok (.iload_n 3, 1) := by decide +kernel
theorem dX9_tell_8 : decode cX9_tell 8 = .ok (.invokevirtual 164, 3) := by decide +kernel
theorem dX9_tell_11 : decode cX9_tell 11 = .ok (.iload 4, 2) := by decide +kernel
theorem dX9_tell_13 : decode cX9_tell 13 = .ok (.bipush (-5), 2) := by decide +kernel
theorem dX9_tell_15 : decode cX9_tell 15 = .ok (.if_icmp .lt 9, 3) := by decide +kernel
theorem dX9_tell_18 : decode cX9_tell 18 = .ok (.iload 4, 2) := by decide +kernel
theorem dX9_tell_20 : decode cX9_tell 20 = .ok (.iconst 5, 1) := by decide +kernel
theorem dX9_tell_21 : decode cX9_tell 21 = .ok (.if_icmp .le 13, 3) := by decide +kernel
theorem dX9_tell_24 : decode cX9_tell 24 = .ok (.new 70, 3) := by decide +kernel
theorem dX9_tell_27 : decode cX9_tell 27 = .ok (.dup, 1) := by decide +kernel
theorem dX9_tell_28 : decode cX9_tell 28 = .ok (.ldc 225, 2) := by decide +kernel
theorem dX9_tell_30 : decode cX9_tell 30 = .ok (.invokespecial 74, 3) := by decide +kernel
theorem dX9_tell_33 : decode cX9_tell 33 = .ok (.athrow, 1) := by decide +kernel
theorem dX9_tell_34 : decode cX9_tell 34 = .ok (.aload_n 0, 1) := by decide +kernel
theorem dX9_tell_35 : decode cX9_tell 35 = .ok (.iload_n 1, 1) := by decide +kernel
theorem dX9_tell_36 : decode cX9_tell 36 = .ok (.iload_n 2, 1) := by decide +kernel
theorem dX9_tell_37 : decode cX9_tell 37 = .ok (.iload_n 3, 1) := by decide +kernel
theorem dX9_tell_38 : decode cX9_tell 38 = .ok (.invokestatic 170, 3) := by decide +kernel
theorem dX9_tell_41 : decode cX9_tell 41 = .ok (.iload 4, 2) := by decide +kernel
theorem dX9_tell_43 : decode cX9_tell 43 = .ok (.invokevirtual 227, 3) := by decide +kernel
theorem dX9_tell_46 : decode cX9_tell 46 = .ok (.ireturn, 1) := by decide +kernel
theorem dX9_show_0 : decode cX9_show 0 = .ok (.aload_n 0, 1) := by decide +kernel
theorem dX9_show_1 : decode cX9_show 1 = .ok (.iload_n 1, 1) := by decide +kernel
theorem dX9_show_2 : decode cX9_show 2 = .ok (.invokevirtual 89, 3) := by decide +kernel
theorem dX9_show_5 : decode cX9_show 5 = .ok (.aload_n 0, 1) := by decide +kernel
theorem dX9_show_6 : decode cX9_show 6 = .ok (.iload_n 2, 1) := by decide +kernel
theorem dX9_show_7 : decode cX9_show 7 = .ok (.invokevirtual 176, 3) := by decide +kernel
theorem dX9_show_10 : decode cX9_show 10 = .ok (.aload_n 0, 1) := by decide +kernel
theorem dX9_show_11 : decode cX9_show 11 = .ok (.iload_n 3, 1) := by decide +kernel
theorem dX9_show_12 : decode cX9_show 12 = .ok (.invokevirtual 164, 3) := by decide +kernel
theorem dX9_show_15 : decode cX9_show 15 = .ok (.iload 4, 2) := by decide +kernel
theorem dX9_show_17 : decode cX9_show 17 = .ok (.ifCond .lt 10, 3) := by decide +kernel
theorem dX9_show_20 : decode cX9_show 20 = .ok (.iload 4, 2) := by decide +kernel
theorem dX9_show_22 : decode cX9_show 22 = .ok (.bipush 10, 2) := by decide +kernel
theorem dX9_show_24 : decode cX9_show 24 = .ok (.if_icmp .le 13, 3) := by decide +kernel
theorem dX9_show_27 : decode cX9_show 27 = .ok (.new 70, 3) := by decide +kernel
theorem dX9_show_30 : decode cX9_show 30 = .ok (.dup, 1) := by decide +kernel
theorem dX9_show_31 : decode cX9_show 31 = .ok (.ldc 231, 2) := by decide +kernel
theorem dX9_show_33 : decode cX9_show 33 = .ok (.invokespecial 74, 3) := by decide +kernel
theorem dX9_show_36 : decode cX9_show 36 = .ok (.athrow, 1) := by decide +kernel
theorem dX9_show_37 : decode cX9_show 37 = .ok (.aload_n 0, 1) := by decide +kernel
theorem dX9_show_38 : decode cX9_show 38 = .ok (.iload_n 1, 1) := by decide +kernel
theorem dX9_show_39 : decode cX9_show 39 = .ok (.iload_n 2, 1) := by decide +kernel
theorem dX9_show_40 : decode cX9_show 40 = .ok (.iload_n 3, 1) := by decide +kernel
theorem dX9_show_41 : decode cX9_show 41 = .ok (.invokestatic 179, 3) := by decide +kernel
theorem dX9_show_44 : decode cX9_show 44 = .ok (.iload 4, 2) := by decide +kernel
theorem dX9_show_46 : decode cX9_show 46 = .ok (.invokevirtual 227, 3) := by decide +kernel
theorem dX9_show_49 : decode cX9_show 49 = .ok (.ireturn, 1) := by decide +kernel
theorem dX9_call_0 : decode cX9_call 0 = .ok (.aload_n 0, 1) := by decide +kernel
theorem dX9_call_1 : decode cX9_call 1 = .ok (.iload_n 1, 1) := by decide +kernel
theorem dX9_call_2 : decode cX9_call 2 = .ok (.iload_n 2, 1) := by decide +kernel
theorem dX9_call_3 : decode cX9_call 3 = .ok (.invokevirtual 113, 3) := by decide +kernel
theorem dX9_call_6 : decode cX9_call 6 = .ok (.iload_n 3, 1) := by decide +kernel
theorem dX9_call_7 : decode cX9_call 7 = .ok (.ifCond .lt 8, 3) := by decide +kernel
theorem dX9_call_10 : decode cX9_call 10 = .ok (.iload_n 3, 1) := by decide +kernel
theorem dX9_call_11 : decode cX9_call 11 = .ok (.iconst 3, 1) := by decide +kernel
theorem dX9_call_12 : decode cX9_call 12 = .ok (.if_icmp .lt 13, 3) := by decide +kernel
theorem dX9_call_15 : decode cX9_call 15 = .ok (.new 70, 3) := by decide +kernel
theorem dX9_call_18 : decode cX9_call 18 = .ok (.dup, 1) := by decide +kernel
theorem dX9_call_19 : decode cX9_call 19 = .ok (.ldc 233, 2) := by decide +kernel
theorem dX9_call_21 : decode cX9_call 21 = .ok (.invokespecial 74, 3) := by decide +kernel
theorem dX9_call_24 : decode cX9_call 24 = .ok (.athrow, 1) := by decide +kernel
theorem dX9_call_25 : decode cX9_call 25 = .ok (.aload_n 0, 1) := by decide +kernel
theorem dX9_call_26 : decode cX9_call 26 = .ok (.getfield 23, 3) := by decide +kernel
theorem dX9_call_29 : decode cX9_call 29 = .ok (.getfield 117, 3) := by decide +kernel
theorem dX9_call_32 : decode cX9_call 32 = .ok (.iload_n 1, 1) := by decide +kernel
theorem dX9_call_33 : decode cX9_call 33 = .ok (.aaload, 1) := by decide +kernel
theorem dX9_call_34 : decode cX9_call 34 = .ok (.getfield 136, 3) := by decide +kernel
theorem dX9_call_37 : decode cX9_call 37 = .ok (.astore 5, 2) := by decide +kernel
theorem dX9_call_39 : decode cX9_call 39 = .ok (.aload 5, 2) := by decide +kernel
theorem dX9_call_41 : decode cX9_call 41 = .ok (.iload_n 2, 1) := by decide +kernel
theorem dX9_call_42 : decode cX9_call 42 = .ok (.iaload, 1) := by decide +kernel
theorem dX9_call_43 : decode cX9_call 43 = .ok (.istore 6, 2) := by decide +kernel
theorem dX9_call_45 : decode cX9_call 45 = .ok (.iconst 1, 1) := by decide +kernel
theorem dX9_call_46 : decode cX9_call 46 = .ok (.iload_n 3, 1) := by decide +kernel
theorem dX9_call_47 : decode cX9_call 47 = .ok (.ishl, 1) := by decide +kernel
theorem dX9_call_48 : decode cX9_call 48 = .ok (.istore 7, 2) := by decide +kernel
theorem dX9_call_50 : decode cX9_call 50 = .ok (.aload_n 0, 1) := by decide +kernel
theorem dX9_call_51 : decode cX9_call 51 = .ok (.getfield 51, 3) := by decide +kernel
theorem dX9_call_54 : decode cX9_call 54 = .ok (.iconst 1, 1) := by decide +kernel
theorem dX9_call_55 : decode cX9_call 55 = .ok (.iload_n 1, 1) := by decide +kernel
theorem dX9_call_56 : decode cX9_call 56 = .ok (.iload_n 2, 1) := by decide +kernel
theorem dX9_call_57 : decode cX9_call 57 = .ok (.iload 6, 2) := by decide +kernel
theorem dX9_call_59 : decode cX9_call 59 = .ok (.invokevirtual 235, 3) := by decide +kernel
theorem dX9_call_62 : decode cX9_call 62 = .ok (.aload 5, 2) := by decide +kernel
theorem dX9_call_64 : decode cX9_call 64 = .ok (.iload_n 2, 1) := by decide +kernel
theorem dX9_call_65 : decode cX9_call 65 = .ok (.iload 4, 2) := by decide +kernel
theorem dX9_call_67 : decode cX9_call 67 = .ok (.ifCond .eq 11, 3) := by decide +kernel
theorem dX9_call_70 : decode cX9_call 70 = .ok (.iload 6, 2) := by decide +kernel
theorem dX9_call_72 : decode cX9_call 72 = .ok (.iload 7, 2) := by decide +kernel
theorem dX9_call_74 : decode cX9_call 74 = .ok (.ior, 1) := by decide +kernel
theorem dX9_call_75 : decode cX9_call 75 = .ok (.goto 10, 3) := by decide +kernel
theorem dX9_call_78 : decode cX9_call 78 = .ok (.iload 6, 2) := by decide +kernel
theorem dX9_call_80 : decode cX9_call 80 = .ok (.iload 7, 2) := by decide +kernel
theorem dX9_call_82 : decode cX9_call 82 = .ok (.iconst (-1), 1) := by decide +kernel
theorem dX9_call_83 : decode cX9_call 83 = .ok (.ixor, 1) := by decide +kernel
theorem dX9_call_84 : decode cX9_call 84 = .ok (.iand, 1) := by decide +kernel
theorem dX9_call_85 : decode cX9_call 85 = .ok (.iastore, 1) := by decide +kernel
theorem dX9_call_86 : decode cX9_call 86 = .ok (.iload 6, 2) := by decide +kernel
theorem dX9_call_88 : decode cX9_call 88 = .ok (.iload 7, 2) := by decide +kernel
theorem dX9_call_90 : decode cX9_call 90 = .ok (.iand, 1) := by decide +kernel
theorem dX9_call_91 : decode cX9_call 91 = .ok (.ifCond .eq 7, 3) := by decide +kernel
theorem dX9_call_94 : decode cX9_call 94 = .ok (.iconst 1, 1) := by decide +kernel
theorem dX9_call_95 : decode cX9_call 95 = .ok (.goto 4, 3) := by decide +kernel
theorem dX9_call_98 : decode cX9_call 98 = .ok (.iconst 0, 1) := by decide +kernel
theorem dX9_call_99 : decode cX9_call 99 = .ok (.ireturn, 1) := by decide +kernel
theorem dX9_base_0 : decode cX9_base 0 = .ok (.aload_n 0, 1) := by decide +kernel
theorem dX9_base_1 : decode cX9_base 1 = .ok (.iload_n 1, 1) := by decide +kernel
theorem dX9_base_2 : decode cX9_base 2 = .ok (.invokevirtual 96, 3) := by decide +kernel
theorem dX9_base_5 : decode cX9_base 5 = .ok (.iload_n 2, 1) := by decide +kernel
theorem dX9_base_6 : decode cX9_base 6 = .ok (.ifCond .lt 10, 3) := by decide +kernel
theorem dX9_base_9 : decode cX9_base 9 = .ok (.iload_n 2, 1) := by decide +kernel
theorem dX9_base_10 : decode cX9_base 10 = .ok (.sipush 2000, 3) := by decide +kernel
theorem dX9_base_13 : decode cX9_base 13 = .ok (.if_icmp .le 13, 3) := by decide +kernel
theorem dX9_base_16 : decode cX9_base 16 = .ok (.new 70, 3) := by decide +kernel
theorem dX9_base_19 : decode cX9_base 19 = .ok (.dup, 1) := by decide +kernel
theorem dX9_base_20 : decode cX9_base 20 = .ok (.ldc 239, 2) := by decide +kernel
theorem dX9_base_22 : decode cX9_base 22 = .ok (.invokespecial 74, 3) := by decide +kernel
theorem dX9_base_25 : decode cX9_base 25 = .ok (.athrow, 1) := by decide +kernel
theorem dX9_base_26 : decode cX9_base 26 = .ok (.aload_n 0, 1) := by decide +kernel
theorem dX9_base_27 : decode cX9_base 27 = .ok (.getfield 23, 3) := by decide +kernel
theorem dX9_base_30 : decode cX9_base 30 = .ok (.getfield 102, 3) := by decide +kernel
theorem dX9_base_33 : decode cX9_base 33 = .ok (.iload_n 1, 1) := by decide +kernel
theorem dX9_base_34 : decode cX9_base 34 = .ok (.iaload, 1) := by decide +kernel
theorem dX9_base_35 : decode cX9_base 35 = .ok (.istore_n 3, 1) := by decide +kernel
theorem dX9_base_36 : decode cX9_base 36 = .ok (.aload_n 0, 1) := by decide +kernel
theorem dX9_base_37 : decode cX9_base 37 = .ok (.getfield 51, 3) := by decide +kernel
theorem dX9_base_40 : decode cX9_base 40 = .ok (.iconst 2, 1) := by decide +kernel
theorem dX9_base_41 : decode cX9_base 41 = .ok (.iconst 0, 1) := by decide +kernel
theorem dX9_base_42 : decode cX9_base 42 = .ok (.iload_n 1, 1) := by decide +kernel
theorem dX9_base_43 : decode cX9_base 43 = .ok (.iload_n 3, 1) := by decide +kernel
theorem dX9_base_44 : decode cX9_base 44 = .ok (.invokevirtual 235, 3) := by decide +kernel
theorem dX9_base_47 : decode cX9_base 47 = .ok (.aload_n 0, 1) := by decide +kernel
theorem dX9_base_48 : decode cX9_base 48 = .ok (.getfield 23, 3) := by decide +kernel
theorem dX9_base_51 : decode cX9_base 51 = .ok (.getfield 102, 3) := by decide +kernel
theorem dX9_base_54 : decode cX9_base 54 = .ok (.iload_n 1, 1) := by decide +kernel
theorem dX9_base_55 : decode cX9_base 55 = .ok (.iload_n 2, 1) := by decide +kernel
theorem dX9_base_56 : decode cX9_base 56 = .ok (.iastore, 1) := by decide +kernel
theorem dX9_base_57 : decode cX9_base 57 = .ok (.iload_n 3, 1) := by decide +kernel
theorem dX9_base_58 : decode cX9_base 58 = .ok (.ireturn, 1) := by decide +kernel
theorem dX9_set_0 : decode cX9_set 0 = .ok (.iload_n 1, 1) := by decide +kernel
theorem dX9_set_1 : decode cX9_set 1 = .ok (.ifCond .lt 9, 3) := by decide +kernel
theorem dX9_set_4 : decode cX9_set 4 = .ok (.iload_n 1, 1) := by decide +kernel
theorem dX9_set_5 : decode cX9_set 5 = .ok (.bipush 7, 2) := by decide +kernel
theorem dX9_set_7 : decode cX9_set 7 = .ok (.if_icmp .lt 13, 3) := by decide +kernel
theorem dX9_set_10 : decode cX9_set 10 = .ok (.new 108, 3) := by decide +kernel
theorem dX9_set_13 : decode cX9_set 13 = .ok (.dup, 1) := by decide +kernel
theorem dX9_set_14 : decode cX9_set 14 = .ok (.ldc 241, 2) := by decide +kernel
theorem dX9_set_16 : decode cX9_set 16 = .ok (.invokespecial 112, 3) := by decide +kernel
theorem dX9_set_19 : decode cX9_set 19 = .ok (.athrow, 1) := by decide +kernel
theorem dX9_set_20 : decode cX9_set 20 = .ok (.iload_n 2, 1) := by decide +kernel
theorem dX9_set_21 : decode cX9_set 21 = .ok (.getstatic 243, 3) := by decide +kernel
theorem dX9_set_24 : decode cX9_set 24 = .ok (.iload_n 1, 1) := by decide +kernel
theorem dX9_set_25 : decode cX9_set 25 = .ok (.iaload, 1) := by decide +kernel
theorem dX9_set_26 : decode cX9_set 26 = .ok (.if_icmp .lt 12, 3) := by decide +kernel
theorem dX9_set_29 : decode cX9_set 29 = .ok (.iload_n 2, 1) := by decide +kernel
theorem dX9_set_30 : decode cX9_set 30 = .ok (.getstatic 246, 3) := by decide +kernel
theorem dX9_set_33 : decode cX9_set 33 = .ok (.iload_n 1, 1) := by decide +kernel
theorem dX9_set_34 : decode cX9_set 34 = .ok (.iaload, 1) := by decide +kernel
theorem dX9_set_35 : decode cX9_set 35 = .ok (.if_icmp .le 13, 3) := by decide +kernel
theorem dX9_set_38 : decode cX9_set 38 = .ok (.new 70, 3) := by decide +kernel
theorem dX9_set_41 : decode cX9_set 41 = .ok (.dup, 1) := by decide +kernel
theorem dX9_set_42 : decode cX9_set 42 = .ok (.ldc 249, 2) := by decide +kernel
theorem dX9_set_44 : decode cX9_set 44 = .ok (.invokespecial 74, 3) := by decide +kernel
theorem dX9_set_47 : decode cX9_set 47 = .ok (.athrow, 1) := by decide +kernel
theorem dX9_set_48 : decode cX9_set 48 = .ok (.aload_n 0, 1) := by decide +kernel
theorem dX9_set_49 : decode cX9_set 49 = .ok (.getfield 23, 3) := by decide +kernel
theorem dX9_set_52 : decode cX9_set 52 = .ok (.getfield 251, 3) := by decide +kernel
theorem dX9_set_55 : decode cX9_set 55 = .ok (.iload_n 1, 1) := by decide +kernel
theorem dX9_set_56 : decode cX9_set 56 = .ok (.iaload, 1) := by decide +kernel
theorem dX9_set_57 : decode cX9_set 57 = .ok (.istore_n 3, 1) := by decide +kernel
theorem dX9_set_58 : decode cX9_set 58 = .ok (.aload_n 0, 1) := by decide +kernel
theorem dX9_set_59 : decode cX9_set 59 = .ok (.getfield 51, 3) := by decide +kernel
theorem dX9_set_62 : decode cX9_set 62 = .ok (.iconst 3, 1) := by decide +kernel
theorem dX9_set_63 : decode cX9_set 63 = .ok (.iconst 0, 1) := by decide +kernel
theorem dX9_set_64 : decode cX9_set 64 = .ok (.iload_n 1, 1) := by decide +kernel
theorem dX9_set_65 : decode cX9_set 65 = .ok (.iload_n 3, 1) := by decide +kernel
theorem dX9_set_66 : decode cX9_set 66 = .ok (.invokevirtual 235, 3) := by decide +kernel
theorem dX9_set_69 : decode cX9_set 69 = .ok (.aload_n 0, 1) := by decide +kernel
theorem dX9_set_70 : decode cX9_set 70 = .ok (.getfield 23, 3) := by decide +kernel
theorem dX9_set_73 : decode cX9_set 73 = .ok (.getfield 251, 3) := by decide +kernel
theorem dX9_set_76 : decode cX9_set 76 = .ok (.iload_n 1, 1) := by decide +kernel
theorem dX9_set_77 : decode cX9_set 77 = .ok (.iload_n 2, 1) := by decide +kernel
theorem dX9_set_78 : decode cX9_set 78 = .ok (.iastore, 1) := by decide +kernel
theorem dX9_set_79 : decode cX9_set 79 = .ok (.iload_n 3, 1) := by decide +kernel
theorem dX9_set_80 : decode cX9_set 80 = .ok (.ireturn, 1) := by decide +kernel
theorem dX9_scratch_0 : decode cX9_scratch 0 = .ok (.aload_n 0, 1) := by decide +kernel
theorem dX9_scratch_1 : decode cX9_scratch 1 = .ok (.iload_n 1, 1) := by decide +kernel
theorem dX9_scratch_2 : decode cX9_scratch 2 = .ok (.iload_n 2, 1) := by decide +kernel
theorem dX9_scratch_3 : decode cX9_scratch 3 = .ok (.invokevirtual 113, 3) := by decide +kernel
theorem dX9_scratch_6 : decode cX9_scratch 6 = .ok (.aload_n 0, 1) := by decide +kernel
theorem dX9_scratch_7 : decode cX9_scratch 7 = .ok (.getfield 23, 3) := by decide +kernel
theorem dX9_scratch_10 : decode cX9_scratch 10 = .ok (.getfield 117, 3) := by decide +kernel
theorem dX9_scratch_13 : decode cX9_scratch 13 = .ok (.iload_n 1, 1) := by decide +kernel
theorem dX9_scratch_14 : decode cX9_scratch 14 = .ok (.aaload, 1) := by decide +kernel
theorem dX9_scratch_15 : decode cX9_scratch 15 = .ok (.astore_n 3, 1) := by decide +kernel
theorem dX9_scratch_16 : decode cX9_scratch 16 = .ok (.aload_n 0, 1) := by decide +kernel
theorem dX9_scratch_17 : decode cX9_scratch 17 = .ok (.getfield 51, 3) := by decide +kernel
theorem dX9_scratch_20 : decode cX9_scratch 20 = .ok (.iconst 4, 1) := by decide +kernel
theorem dX9_scratch_21 : decode cX9_scratch 21 = .ok (.iload_n 1, 1) := by decide +kernel
theorem dX9_scratch_22 : decode cX9_scratch 22 = .ok (.iconst 0, 1) := by decide +kernel
theorem dX9_scratch_23 : decode cX9_scratch 23 = .ok (.aload_n 3, 1) := by decide +kernel
theorem dX9_scratch_24 : decode cX9_scratch 24 = .ok (.getfield 254, 3) := by decide +kernel
theorem dX9_scratch_27 : decode cX9_scratch 27 = .ok (.invokevirtual 235, 3) := by decide +kernel
theorem dX9_scratch_30 : decode cX9_scratch 30 = .ok (.aload_n 3, 1) := by decide +kernel
theorem dX9_scratch_31 : decode cX9_scratch 31 = .ok (.dup, 1) := by decide +kernel
theorem dX9_scratch_32 : decode cX9_scratch 32 = .ok (.getfield 254, 3) := by decide +kernel
theorem dX9_scratch_35 : decode cX9_scratch 35 = .ok (.iconst 1, 1) := by decide +kernel
theorem dX9_scratch_36 : decode cX9_scratch 36 = .ok (.iload_n 2, 1) := by decide +kernel
theorem dX9_scratch_37 : decode cX9_scratch 37 = .ok (.ishl, 1) := by decide +kernel
theorem dX9_scratch_38 : decode cX9_scratch 38 = .ok (.ior, 1) := by decide +kernel
theorem dX9_scratch_39 : decode cX9_scratch 39 = .ok (.putfield 254, 3) := by decide +kernel
theorem dX9_scratch_42 : decode cX9_scratch 42 = .ok (.aload_n 3, 1) := by decide +kernel
theorem dX9_scratch_43 : decode cX9_scratch 43 = .ok (.invokevirtual 257, 3) := by decide +kernel
theorem dX9_scratch_46 : decode cX9_scratch 46 = .ok (.ireturn, 1) := by decide +kernel
theorem dX9_undo_0 : decode cX9_undo 0 = .ok (.aload_n 0, 1) := by decide +kernel
theorem dX9_undo_1 : decode cX9_undo 1 = .ok (.getfield 51, 3) := by decide +kernel
theorem dX9_undo_4 : decode cX9_undo 4 = .ok (.aload_n 0, 1) := by decide +kernel
theorem dX9_undo_5 : decode cX9_undo 5 = .ok (.getfield 23, 3) := by decide +kernel
theorem dX9_undo_8 : decode cX9_undo 8 = .ok (.invokevirtual 260, 3) := by decide +kernel
theorem dX9_undo_11 : decode cX9_undo 11 = .ok (.ifCond .eq 13, 3) := by decide +kernel
theorem dX9_undo_14 : decode cX9_undo 14 = .ok (.aload_n 0, 1) := by decide +kernel
theorem dX9_undo_15 : decode cX9_undo 15 = .ok (.getfield 51, 3) := by decide +kernel
theorem dX9_undo_18 : decode cX9_undo 18 = .ok (.getfield 264, 3) := by decide +kernel
theorem dX9_undo_21 : decode cX9_undo 21 = .ok (.goto 4, 3) := by decide +kernel
theorem dX9_undo_24 : decode cX9_undo 24 = .ok (.iconst (-1), 1) := by decide +kernel
theorem dX9_undo_25 : decode cX9_undo 25 = .ok (.ireturn, 1) := by decide +kernel
theorem dX9_bias_0 : decode cX9_bias 0 = .ok (.aload_n 0, 1) := by decide +kernel
theorem dX9_bias_1 : decode cX9_bias 1 = .ok (.iload_n 1, 1) := by decide +kernel
theorem dX9_bias_2 : decode cX9_bias 2 = .ok (.invokevirtual 164, 3) := by decide +kernel
theorem dX9_bias_5 : decode cX9_bias 5 = .ok (.aload_n 0, 1) := by decide +kernel
theorem dX9_bias_6 : decode cX9_bias 6 = .ok (.getfield 44, 3) := by decide +kernel
theorem dX9_bias_9 : decode cX9_bias 9 = .ok (.aload_n 0, 1) := by decide +kernel
theorem dX9_bias_10 : decode cX9_bias 10 = .ok (.getfield 23, 3) := by decide +kernel
theorem dX9_bias_13 : decode cX9_bias 13 = .ok (.sipush 600, 3) := by decide +kernel
theorem dX9_bias_16 : decode cX9_bias 16 = .ok (.invokevirtual 215, 3) := by decide +kernel
theorem dX9_bias_19 : decode cX9_bias 19 = .ok (.aload_n 0, 1) := by decide +kernel
theorem dX9_bias_20 : decode cX9_bias 20 = .ok (.getfield 44, 3) := by decide +kernel
theorem dX9_bias_23 : decode cX9_bias 23 = .ok (.iload_n 1, 1) := by decide +kernel
theorem dX9_bias_24 : decode cX9_bias 24 = .ok (.invokevirtual 265, 3) := by decide +kernel
theorem dX9_bias_27 : decode cX9_bias 27 = .ok (.ireturn, 1) := by decide +kernel
theorem dX9_odd_0 : decode cX9_odd 0 = .ok (.aload_n 0, 1) := by decide +kernel
theorem dX9_odd_1 : decode cX9_odd 1 = .ok (.getfield 44, 3) := by decide +kernel
theorem dX9_odd_4 : decode cX9_odd 4 = .ok (.aload_n 0, 1) := by decide +kernel
theorem dX9_odd_5 : decode cX9_odd 5 = .ok (.getfield 23, 3) := by decide +kernel
theorem dX9_odd_8 : decode cX9_odd 8 = .ok (.sipush 600, 3) := by decide +kernel
theorem dX9_odd_11 : decode cX9_odd 11 = .ok (.invokevirtual 215, 3) := by decide +kernel
theorem dX9_odd_14 : decode cX9_odd 14 = .ok (.aload_n 0, 1) := by decide +kernel
theorem dX9_odd_15 : decode cX9_odd 15 = .ok (.getfield 44, 3) := by decide +kernel
theorem dX9_odd_18 : decode cX9_odd 18 = .ok (.invokevirtual 268, 3) := by decide +kernel
theorem dX9_odd_21 : decode cX9_odd 21 = .ok (.ireturn, 1) := by decide +kernel
theorem dX9_without_0 : decode cX9_without 0 = .ok (.aload_n 0, 1) := by decide +kernel
theorem dX9_without_1 : decode cX9_without 1 = .ok (.iload_n 1, 1) := by decide +kernel
theorem dX9_without_2 : decode cX9_without 2 = .ok (.invokevirtual 89, 3) := by decide +kernel
theorem dX9_without_5 : decode cX9_without 5 = .ok (.aload_n 0, 1) := by decide +kernel
theorem dX9_without_6 : decode cX9_without 6 = .ok (.iload_n 2, 1) := by decide +kernel
theorem dX9_without_7 : decode cX9_without 7 = .ok (.invokevirtual 164, 3) := by decide +kernel
theorem dX9_without_10 : decode cX9_without 10 = .ok (.aload_n 0, 1) := by decide +kernel
theorem dX9_without_11 : decode cX9_without 11 = .ok (.invokevirtual 271, 3) := by decide +kernel
theorem dX9_without_14 : decode cX9_without 14 = .ok (.aload_n 0, 1) := by decide +kernel
theorem dX9_without_15 : decode cX9_without 15 = .ok (.iload_n 1, 1) := by decide +kernel
theorem dX9_without_16 : decode cX9_without 16 = .ok (.aload_n 0, 1) := by decide +kernel
theorem dX9_without_17 : decode cX9_without 17 = .ok (.invokevirtual 152, 3) := by decide +kernel
theorem dX9_without_20 : decode cX9_without 20 = .ok (.iconst 1, 1) := by decide +kernel
theorem dX9_without_21 : decode cX9_without 21 = .ok (.iload_n 2, 1) := by decide +kernel
theorem dX9_without_22 : decode cX9_without 22 = .ok (.ishl, 1) := by decide +kernel
theorem dX9_without_23 : decode cX9_without 23 = .ok (.iconst (-1), 1) := by decide +kernel
theorem dX9_without_24 : decode cX9_without 24 = .ok (.ixor, 1) := by decide +kernel
theorem dX9_without_25 : decode cX9_without 25 = .ok (.iand, 1) := by decide +kernel
theorem dX9_without_26 : decode cX9_without 26 = .ok (.invokevirtual 274, 3) := by decide +kernel
theorem dX9_without_29 : decode cX9_without 29 = .ok (.ireturn, 1) := by decide +kernel
theorem dX9_sways_0 : decode cX9_sways 0 = .ok (.aload_n 0, 1) := by decide +kernel
theorem dX9_sways_1 : decode cX9_sways 1 = .ok (.iload_n 1, 1) := by decide +kernel
theorem dX9_sways_2 : decode cX9_sways 2 = .ok (.invokevirtual 164, 3) := by decide +kernel
theorem dX9_sways_5 : decode cX9_sways 5 = .ok (.aload_n 0, 1) := by decide +kernel
theorem dX9_sways_6 : decode cX9_sways 6 = .ok (.invokevirtual 271, 3) := by decide +kernel
theorem dX9_sways_9 : decode cX9_sways 9 = .ok (.aload_n 0, 1) := by decide +kernel
theorem dX9_sways_10 : decode cX9_sways 10 = .ok (.getfield 44, 3) := by decide +kernel
theorem dX9_sways_13 : decode cX9_sways 13 = .ok (.aload_n 0, 1) := by decide +kernel
theorem dX9_sways_14 : decode cX9_sways 14 = .ok (.getfield 23, 3) := by decide +kernel
theorem dX9_sways_17 : decode cX9_sways 17 = .ok (.sipush 600, 3) := by decide +kernel
theorem dX9_sways_20 : decode cX9_sways 20 = .ok (.invokevirtual 215, 3) := by decide +kernel
theorem dX9_sways_23 : decode cX9_sways 23 = .ok (.aload_n 0, 1) := by decide +kernel
theorem dX9_sways_24 : decode cX9_sways 24 = .ok (.getfield 44, 3) := by decide +kernel
theorem dX9_sways_27 : decode cX9_sways 27 = .ok (.aload_n 0, 1) := by decide +kernel
theorem dX9_sways_28 : decode cX9_sways 28 = .ok (.invokevirtual 152, 3) := by decide +kernel
theorem dX9_sways_31 : decode cX9_sways 31 = .ok (.iconst 1, 1) := by decide +kernel
theorem dX9_sways_32 : decode cX9_sways 32 = .ok (.iload_n 1, 1) := by decide +kernel
theorem dX9_sways_33 : decode cX9_sways 33 = .ok (.ishl, 1) := by decide +kernel
theorem dX9_sways_34 : decode cX9_sways 34 = .ok (.iconst (-1), 1) := by decide +kernel
theorem dX9_sways_35 : decode cX9_sways 35 = .ok (.ixor, 1) := by decide +kernel
theorem dX9_sways_36 : decode cX9_sways 36 = .ok (.iand, 1) := by decide +kernel
theorem dX9_sways_37 : decode cX9_sways 37 = .ok (.invokevirtual 277, 3) := by decide +kernel
theorem dX9_sways_40 : decode cX9_sways 40 = .ok (.ireturn, 1) := by decide +kernel
theorem dX9_alone_0 : decode cX9_alone 0 = .ok (.aload_n 0, 1) := by decide +kernel
theorem dX9_alone_1 : decode cX9_alone 1 = .ok (.iload_n 1, 1) := by decide +kernel
theorem dX9_alone_2 : decode cX9_alone 2 = .ok (.invokevirtual 89, 3) := by decide +kernel
theorem dX9_alone_5 : decode cX9_alone 5 = .ok (.aload_n 0, 1) := by decide +kernel
theorem dX9_alone_6 : decode cX9_alone 6 = .ok (.iload_n 2, 1) := by decide +kernel
theorem dX9_alone_7 : decode cX9_alone 7 = .ok (.invokevirtual 164, 3) := by decide +kernel
theorem dX9_alone_10 : decode cX9_alone 10 = .ok (.aload_n 0, 1) := by decide +kernel
theorem dX9_alone_11 : decode cX9_alone 11 = .ok (.iload_n 1, 1) := by decide +kernel
theorem dX9_alone_12 : decode cX9_alone 12 = .ok (.iconst 1, 1) := by decide +kernel
theorem dX9_alone_13 : decode cX9_alone 13 = .ok (.iload_n 2, 1) := by decide +kernel
theorem dX9_alone_14 : decode cX9_alone 14 = .ok (.ishl, 1) := by decide +kernel
theorem dX9_alone_15 : decode cX9_alone 15 = .ok (.invokevirtual 274, 3) := by decide +kernel
theorem dX9_alone_18 : decode cX9_alone 18 = .ok (.ireturn, 1) := by decide +kernel
theorem dX9_place_0 : decode cX9_place 0 = .ok (.aload_n 0, 1) := by decide +kernel
theorem dX9_place_1 : decode cX9_place 1 = .ok (.iload_n 1, 1) := by decide +kernel
theorem dX9_place_2 : decode cX9_place 2 = .ok (.invokevirtual 89, 3) := by decide +kernel
theorem dX9_place_5 : decode cX9_place 5 = .ok (.aload_n 0, 1) := by decide +kernel
theorem dX9_place_6 : decode cX9_place 6 = .ok (.iload_n 2, 1) := by decide +kernel
theorem dX9_place_7 : decode cX9_place 7 = .ok (.invokevirtual 164, 3) := by decide +kernel
theorem dX9_place_10 : decode cX9_place 10 = .ok (.aload_n 0, 1) := by decide +kernel
theorem dX9_place_11 : decode cX9_place 11 = .ok (.getfield 44, 3) := by decide +kernel
theorem dX9_place_14 : decode cX9_place 14 = .ok (.aload_n 0, 1) := by decide +kernel
theorem dX9_place_15 : decode cX9_place 15 = .ok (.getfield 23, 3) := by decide +kernel
theorem dX9_place_18 : decode cX9_place 18 = .ok (.sipush 600, 3) := by decide +kernel
theorem dX9_place_21 : decode cX9_place 21 = .ok (.invokevirtual 215, 3) := by decide +kernel
theorem dX9_place_24 : decode cX9_place 24 = .ok (.aload_n 0, 1) := by decide +kernel
theorem dX9_place_25 : decode cX9_place 25 = .ok (.getfield 44, 3) := by decide +kernel
theorem dX9_place_28 : decode cX9_place 28 = .ok (.iconst 1, 1) := by decide +kernel
theorem dX9_place_29 : decode cX9_place 29 = .ok (.iload_n 2, 1) := by decide +kernel
theorem dX9_place_30 : decode cX9_place 30 = .ok (.ishl, 1) := by decide +kernel
theorem dX9_place_31 : decode cX9_place 31 = .ok (.invokevirtual 280, 3) := by decide +kernel
theorem dX9_place_34 : decode cX9_place 34 = .ok (.aload_n 0, 1) := by decide +kernel
theorem dX9_place_35 : decode cX9_place 35 = .ok (.getfield 44, 3) := by decide +kernel
theorem dX9_place_38 : decode cX9_place 38 = .ok (.iload_n 1, 1) := by decide +kernel
theorem dX9_place_39 : decode cX9_place 39 = .ok (.invokevirtual 219, 3) := by decide +kernel
theorem dX9_place_42 : decode cX9_place 42 = .ok (.ireturn, 1) := by decide +kernel
theorem dX9_majority_0 : decode cX9_majority 0 = .ok (.aload_n 0, 1) := by decide +kernel
theorem dX9_majority_1 : decode cX9_majority 1 = .ok (.iload_n 1, 1) := by decide +kernel
theorem dX9_majority_2 : decode cX9_majority 2 = .ok (.invokevirtual 89, 3) := by decide +kernel
theorem dX9_majority_5 : decode cX9_majority 5 = .ok (.aload_n 0, 1) := by decide +kernel
theorem dX9_majority_6 : decode cX9_majority 6 = .ok (.getfield 44, 3) := by decide +kernel
theorem dX9_majority_9 : decode cX9_majority 9 = .ok (.aload_n 0, 1) := by decide +kernel
theorem dX9_majority_10 : decode cX9_majority 10 = .ok (.getfield 23, 3) := by decide +kernel
theorem dX9_majority_13 : decode cX9_majority 13 = .ok (.sipush 600, 3) := by decide +kernel
theorem dX9_majority_16 : decode cX9_majority 16 = .ok (.invokevirtual 215, 3) := by decide +kernel
theorem dX9_majority_19 : decode cX9_majority 19 = .ok (.aload_n 0, 1) := by decide +kernel
theorem dX9_majority_20 : decode cX9_majority 20 = .ok (.getfield 44, 3) := by decide +kernel
theorem dX9_majority_23 : decode cX9_majority 23 = .ok (.invokevirtual 283, 3) := by decide +kernel
theorem dX9_majority_26 : decode cX9_majority 26 = .ok (.aload_n 0, 1) := by decide +kernel
theorem dX9_majority_27 : decode cX9_majority 27 = .ok (.getfield 44, 3) := by decide +kernel
theorem dX9_majority_30 : decode cX9_majority 30 = .ok (.getfield 286, 3) := by decide +kernel
theorem dX9_majority_33 : decode cX9_majority 33 = .ok (.iload_n 1, 1) := by decide +kernel
theorem dX9_majority_34 : decode cX9_majority 34 = .ok (.iaload, 1) := by decide +kernel
theorem dX9_majority_35 : decode cX9_majority 35 = .ok (.ireturn, 1) := by decide +kernel
theorem dX9_major_0 : decode cX9_major 0 = .ok (.aload_n 0, 1) := by decide +kernel
theorem dX9_major_1 : decode cX9_major 1 = .ok (.getfield 44, 3) := by decide +kernel
theorem dX9_major_4 : decode cX9_major 4 = .ok (.aload_n 0, 1) := by decide +kernel
theorem dX9_major_5 : decode cX9_major 5 = .ok (.getfield 23, 3) := by decide +kernel
theorem dX9_major_8 : decode cX9_major 8 = .ok (.sipush 600, 3) := by decide +kernel
theorem dX9_major_11 : decode cX9_major 11 = .ok (.invokevirtual 215, 3) := by decide +kernel
theorem dX9_major_14 : decode cX9_major 14 = .ok (.aload_n 0, 1) := by decide +kernel
theorem dX9_major_15 : decode cX9_major 15 = .ok (.getfield 44, 3) := by decide +kernel
theorem dX9_major_18 : decode cX9_major 18 = .ok (.invokevirtual 283, 3) := by decide +kernel
theorem dX9_major_21 : decode cX9_major 21 = .ok (.aload_n 0, 1) := by decide +kernel
theorem dX9_major_22 : decode cX9_major 22 = .ok (.getfield 44, 3) := by decide +kernel
theorem dX9_major_25 : decode cX9_major 25 = .ok (.iload_n 1, 1) := by decide +kernel
theorem dX9_major_26 : decode cX9_major 26 = .ok (.invokevirtual 289, 3) := by decide +kernel
theorem dX9_major_29 : decode cX9_major 29 = .ok (.ireturn, 1) := by decide +kernel
theorem dX9_panel_0 : decode cX9_panel 0 = .ok (.aload_n 0, 1) := by decide +kernel
theorem dX9_panel_1 : decode cX9_panel 1 = .ok (.iload_n 2, 1) := by decide +kernel
theorem dX9_panel_2 : decode cX9_panel 2 = .ok (.invokevirtual 292, 3) := by decide +kernel
theorem dX9_panel_5 : decode cX9_panel 5 = .ok (.iload_n 1, 1) := by decide +kernel
theorem dX9_panel_6 : decode cX9_panel 6 = .ok (.istore_n 3, 1) := by decide +kernel
theorem dX9_panel_7 : decode cX9_panel 7 = .ok (.iconst 0, 1) := by decide +kernel
theorem dX9_panel_8 : decode cX9_panel 8 = .ok (.istore 4, 2) := by decide +kernel
theorem dX9_panel_10 : decode cX9_panel 10 = .ok (.aload_n 0, 1) := by decide +kernel
theorem dX9_panel_11 : decode cX9_panel 11 = .ok (.getfield 23, 3) := by decide +kernel
theorem dX9_panel_14 : decode cX9_panel 14 = .ok (.getfield 295, 3) := by decide +kernel
theorem dX9_panel_17 : decode cX9_panel 17 = .ok (.istore 5, 2) := by decide +kernel
theorem dX9_panel_19 : decode cX9_panel 19 = .ok (.iload 5, 2) := by decide +kernel
theorem dX9_panel_21 : decode cX9_panel 21 = .ok (.aload_n 0, 1) := by decide +kernel
theorem dX9_panel_22 : decode cX9_panel 22 = .ok (.getfield 23, 3) := by decide +kernel
theorem dX9_panel_25 : decode cX9_panel 25 = .ok (.getfield 295, 3) := by decide +kernel
theorem dX9_panel_28 : decode cX9_panel 28 = .ok (.iload_n 2, 1) := by decide +kernel
theorem dX9_panel_29 : decode cX9_panel 29 = .ok (.isub, 1) := by decide +kernel
theorem dX9_panel_30 : decode cX9_panel 30 = .ok (.if_icmp .le 48, 3) := by decide +kernel
theorem dX9_panel_33 : decode cX9_panel 33 = .ok (.iload 5, 2) := by decide +kernel
theorem dX9_panel_35 : decode cX9_panel 35 = .ok (.ifCond .le 43, 3) := by decide +kernel
theorem dX9_panel_38 : decode cX9_panel 38 = .ok (.ldc_w 298, 3) := by decide +kernel
theorem dX9_panel_41 : decode cX9_panel 41 = .ok (.iload_n 3, 1) := by decide +kernel
theorem dX9_panel_42 : decode cX9_panel 42 = .ok (.imul, 1) := by decide +kernel
theorem dX9_panel_43 : decode cX9_panel 43 = .ok (.sipush 12345, 3) := by decide +kernel
theorem dX9_panel_46 : decode cX9_panel 46 = .ok (.iadd, 1) := by decide +kernel
theorem dX9_panel_47 : decode cX9_panel 47 = .ok (.istore_n 3, 1) := by decide +kernel
theorem dX9_panel_48 : decode cX9_panel 48 = .ok (.iload 4, 2) := by decide +kernel
theorem dX9_panel_50 : decode cX9_panel 50 = .ok (.iconst 1, 1) := by decide +kernel
theorem dX9_panel_51 : decode cX9_panel 51 = .ok (.aload_n 0, 1) := by decide +kernel
theorem dX9_panel_52 : decode cX9_panel 52 = .ok (.iload 4, 2) := by decide +kernel
theorem dX9_panel_54 : decode cX9_panel 54 = .ok (.iload_n 3, 1) := by decide +kernel
theorem dX9_panel_55 : decode cX9_panel 55 = .ok (.bipush 16, 2) := by decide +kernel
theorem dX9_panel_57 : decode cX9_panel 57 = .ok (.iushr, 1) := by decide +kernel
theorem dX9_panel_58 : decode cX9_panel 58 = .ok (.sipush 32767, 3) := by decide +kernel
theorem dX9_panel_61 : decode cX9_panel 61 = .ok (.iand, 1) := by decide +kernel
theorem dX9_panel_62 : decode cX9_panel 62 = .ok (.iload 5, 2) := by decide +kernel
theorem dX9_panel_64 : decode cX9_panel 64 = .ok (.irem, 1) := by decide +kernel
theorem dX9_panel_65 : decode cX9_panel 65 = .ok (.invokevirtual 299, 3) := by decide +kernel
theorem dX9_panel_68 : decode cX9_panel 68 = .ok (.ishl, 1) := by decide +kernel
theorem dX9_panel_69 : decode cX9_panel 69 = .ok (.ior, 1) := by decide +kernel
theorem dX9_panel_70 : decode cX9_panel 70 = .ok (.istore 4, 2) := by decide +kernel
theorem dX9_panel_72 : decode cX9_panel 72 = .ok (.iinc 5 (-1), 3) := by decide +kernel
theorem dX9_panel_75 : decode cX9_panel 75 = .ok (.goto (-56), 3) := by decide +kernel
theorem dX9_panel_78 : decode cX9_panel 78 = .ok (.iload 4, 2) := by decide +kernel
theorem dX9_panel_80 : decode cX9_panel 80 = .ok (.ireturn, 1) := by decide +kernel
theorem dX9_by_0 : decode cX9_by 0 = .ok (.aload_n 0, 1) := by decide +kernel
theorem dX9_by_1 : decode cX9_by 1 = .ok (.iload_n 1, 1) := by decide +kernel
theorem dX9_by_2 : decode cX9_by 2 = .ok (.invokevirtual 89, 3) := by decide +kernel
theorem dX9_by_5 : decode cX9_by 5 = .ok (.iload_n 2, 1) := by decide +kernel
theorem dX9_by_6 : decode cX9_by 6 = .ok (.iconst 1, 1) := by decide +kernel
theorem dX9_by_7 : decode cX9_by 7 = .ok (.if_icmp .lt 11, 3) := by decide +kernel
theorem dX9_by_10 : decode cX9_by 10 = .ok (.iload_n 2, 1) := by decide +kernel
theorem dX9_by_11 : decode cX9_by 11 = .ok (.aload_n 0, 1) := by decide +kernel
theorem dX9_by_12 : decode cX9_by 12 = .ok (.invokevirtual 152, 3) := by decide +kernel
theorem dX9_by_15 : decode cX9_by 15 = .ok (.if_icmp .le 14, 3) := by decide +kernel
theorem dX9_by_18 : decode cX9_by 18 = .ok (.new 70, 3) := by decide +kernel
theorem dX9_by_21 : decode cX9_by 21 = .ok (.dup, 1) := by decide +kernel
theorem dX9_by_22 : decode cX9_by 22 = .ok (.ldc_w 302, 3) := by decide +kernel
theorem dX9_by_25 : decode cX9_by 25 = .ok (.invokespecial 74, 3) := by decide +kernel
theorem dX9_by_28 : decode cX9_by 28 = .ok (.athrow, 1) := by decide +kernel
theorem dX9_by_29 : decode cX9_by 29 = .ok (.aload_n 0, 1) := by decide +kernel
theorem dX9_by_30 : decode cX9_by 30 = .ok (.iload_n 1, 1) := by decide +kernel
theorem dX9_by_31 : decode cX9_by 31 = .ok (.iload_n 2, 1) := by decide +kernel
theorem dX9_by_32 : decode cX9_by 32 = .ok (.invokevirtual 274, 3) := by decide +kernel
theorem dX9_by_35 : decode cX9_by 35 = .ok (.ireturn, 1) := by decide +kernel
theorem dX9_firsts_0 : decode cX9_firsts 0 = .ok (.aload_n 0, 1) := by decide +kernel
theorem dX9_firsts_1 : decode cX9_firsts 1 = .ok (.iload_n 1, 1) := by decide +kernel
theorem dX9_firsts_2 : decode cX9_firsts 2 = .ok (.invokevirtual 89, 3) := by decide +kernel
theorem dX9_firsts_5 : decode cX9_firsts 5 = .ok (.aload_n 0, 1) := by decide +kernel
theorem dX9_firsts_6 : decode cX9_firsts 6 = .ok (.iload_n 2, 1) := by decide +kernel
theorem dX9_firsts_7 : decode cX9_firsts 7 = .ok (.invokevirtual 292, 3) := by decide +kernel
theorem dX9_firsts_10 : decode cX9_firsts 10 = .ok (.aload_n 0, 1) := by decide +kernel
theorem dX9_firsts_11 : decode cX9_firsts 11 = .ok (.getfield 44, 3) := by decide +kernel
theorem dX9_firsts_14 : decode cX9_firsts 14 = .ok (.aload_n 0, 1) := by decide +kernel
theorem dX9_firsts_15 : decode cX9_firsts 15 = .ok (.getfield 23, 3) := by decide +kernel
theorem dX9_firsts_18 : decode cX9_firsts 18 = .ok (.sipush 600, 3) := by decide +kernel
theorem dX9_firsts_21 : decode cX9_firsts 21 = .ok (.invokevirtual 215, 3) := by decide +kernel
theorem dX9_firsts_24 : decode cX9_firsts 24 = .ok (.iconst 0, 1) := by decide +kernel
theorem dX9_firsts_25 : decode cX9_firsts 25 = .ok (.istore_n 3, 1) := by decide +kernel
theorem dX9_firsts_26 : decode cX9_firsts 26 = .ok (.iconst 1, 1) := by decide +kernel
theorem dX9_firsts_27 : decode cX9_firsts 27 = .ok (.istore 4, 2) := by decide +kernel
theorem dX9_firsts_29 : decode cX9_firsts 29 = .ok (.iload 4, 2) := by decide +kernel
theorem dX9_firsts_31 : decode cX9_firsts 31 = .ok (.aload_n 0, 1) := by decide +kernel
theorem dX9_firsts_32 : decode cX9_firsts 32 = .ok (.invokevirtual 152, 3) := by decide +kernel
theorem dX9_firsts_35 : decode cX9_firsts 35 = .ok (.if_icmp .gt 34, 3) := by decide +kernel
theorem dX9_firsts_38 : decode cX9_firsts 38 = .ok (.iload 4, 2) := by decide +kernel
theorem dX9_firsts_40 : decode cX9_firsts 40 = .ok (.invokestatic 304, 3) := by decide +kernel
theorem dX9_firsts_43 : decode cX9_firsts 43 = .ok (.iload_n 2, 1) := by decide +kernel
theorem dX9_firsts_44 : decode cX9_firsts 44 = .ok (.if_icmp .ne 19, 3) := by decide +kernel
theorem dX9_firsts_47 : decode cX9_firsts 47 = .ok (.aload_n 0, 1) := by decide +kernel
theorem dX9_firsts_48 : decode cX9_firsts 48 = .ok (.getfield 44, 3) := by decide +kernel
theorem dX9_firsts_51 : decode cX9_firsts 51 = .ok (.iload_n 1, 1) := by decide +kernel
theorem dX9_firsts_52 : decode cX9_firsts 52 = .ok (.iload 4, 2) := by decide +kernel
theorem dX9_firsts_54 : decode cX9_firsts 54 = .ok (.invokevirtual 309, 3) := by decide +kernel
theorem dX9_firsts_57 : decode cX9_firsts 57 = .ok (.ifCond .eq 6, 3) := by decide +kernel
theorem dX9_firsts_60 : decode cX9_firsts 60 = .ok (.iinc 3 1, 3) := by decide +kernel
theorem dX9_firsts_63 : decode cX9_firsts 63 = .ok (.iinc 4 1, 3) := by decide +kernel
theorem dX9_firsts_66 : decode cX9_firsts 66 = .ok (.goto (-37), 3) := by decide +kernel
theorem dX9_firsts_69 : decode cX9_firsts 69 = .ok (.iload_n 3, 1) := by decide +kernel
theorem dX9_firsts_70 : decode cX9_firsts 70 = .ok (.ireturn, 1) := by decide +kernel
theorem dX9_needed_0 : decode cX9_needed 0 = .ok (.aload_n 0, 1) := by decide +kernel
theorem dX9_needed_1 : decode cX9_needed 1 = .ok (.iload_n 1, 1) := by decide +kernel
theorem dX9_needed_2 : decode cX9_needed 2 = .ok (.invokevirtual 89, 3) := by decide +kernel
theorem dX9_needed_5 : decode cX9_needed 5 = .ok (.aload_n 0, 1) := by decide +kernel
theorem dX9_needed_6 : decode cX9_needed 6 = .ok (.iload_n 2, 1) := by decide +kernel
theorem dX9_needed_7 : decode cX9_needed 7 = .ok (.invokevirtual 89, 3) := by decide +kernel
theorem dX9_needed_10 : decode cX9_needed 10 = .ok (.iload_n 1, 1) := by decide +kernel
theorem dX9_needed_11 : decode cX9_needed 11 = .ok (.iload_n 2, 1) := by decide +kernel
theorem dX9_needed_12 : decode cX9_needed 12 = .ok (.if_icmp .ne 14, 3) := by decide +kernel
theorem dX9_needed_15 : decode cX9_needed 15 = .ok (.new 70, 3) := by decide +kernel
theorem dX9_needed_18 : decode cX9_needed 18 = .ok (.dup, 1) := by decide +kernel
theorem dX9_needed_19 : decode cX9_needed 19 = .ok (.ldc_w 313, 3) := by decide +kernel
theorem dX9_needed_22 : decode cX9_needed 22 = .ok (.invokespecial 74, 3) := by decide +kernel
theorem dX9_needed_25 : decode cX9_needed 25 = .ok (.athrow, 1) := by decide +kernel
theorem dX9_needed_26 : decode cX9_needed 26 = .ok (.aload_n 0, 1) := by decide +kernel
theorem dX9_needed_27 : decode cX9_needed 27 = .ok (.getfield 23, 3) := by decide +kernel
theorem dX9_needed_30 : decode cX9_needed 30 = .ok (.getfield 117, 3) := by decide +kernel
theorem dX9_needed_33 : decode cX9_needed 33 = .ok (.iload_n 1, 1) := by decide +kernel
theorem dX9_needed_34 : decode cX9_needed 34 = .ok (.aaload, 1) := by decide +kernel
theorem dX9_needed_35 : decode cX9_needed 35 = .ok (.invokevirtual 315, 3) := by decide +kernel
theorem dX9_needed_38 : decode cX9_needed 38 = .ok (.istore_n 3, 1) := by decide +kernel
theorem dX9_needed_39 : decode cX9_needed 39 = .ok (.iload_n 3, 1) := by decide +kernel
theorem dX9_needed_40 : decode cX9_needed 40 = .ok (.iconst (-1), 1) := by decide +kernel
theorem dX9_needed_41 : decode cX9_needed 41 = .ok (.if_icmp .ne 6, 3) := by decide +kernel
theorem dX9_needed_44 : decode cX9_needed 44 = .ok (.bipush (-100), 2) := by decide +kernel
theorem dX9_needed_46 : decode cX9_needed 46 = .ok (.ireturn, 1) := by decide +kernel
theorem dX9_needed_47 : decode cX9_needed 47 = .ok (.aload_n 0, 1) := by decide +kernel
theorem dX9_needed_48 : decode cX9_needed 48 = .ok (.getfield 44, 3) := by decide +kernel
theorem dX9_needed_51 : decode cX9_needed 51 = .ok (.aload_n 0, 1) := by decide +kernel
theorem dX9_needed_52 : decode cX9_needed 52 = .ok (.getfield 23, 3) := by decide +kernel
theorem dX9_needed_55 : decode cX9_needed 55 = .ok (.sipush 600, 3) := by decide +kernel
theorem dX9_needed_58 : decode cX9_needed 58 = .ok (.invokevirtual 215, 3) := by decide +kernel
theorem dX9_needed_61 : decode cX9_needed 61 = .ok (.aload_n 0, 1) := by decide +kernel
theorem dX9_needed_62 : decode cX9_needed 62 = .ok (.getfield 44, 3) := by decide +kernel
theorem dX9_needed_65 : decode cX9_needed 65 = .ok (.iload_n 1, 1) := by decide +kernel
theorem dX9_needed_66 : decode cX9_needed 66 = .ok (.iload_n 2, 1) := by decide +kernel
theorem dX9_needed_67 : decode cX9_needed 67 = .ok (.iload_n 3, 1) := by decide +kernel
theorem dX9_needed_68 : decode cX9_needed 68 = .ok (.invokevirtual 318, 3) := by decide +kernel
theorem dX9_needed_71 : decode cX9_needed 71 = .ok (.ireturn, 1) := by decide +kernel
theorem dX9_raise_0 : decode cX9_raise 0 = .ok (.aload_n 0, 1) := by decide +kernel
theorem dX9_raise_1 : decode cX9_raise 1 = .ok (.iload_n 1, 1) := by decide +kernel
theorem dX9_raise_2 : decode cX9_raise 2 = .ok (.iload_n 2, 1) := by decide +kernel
theorem dX9_raise_3 : decode cX9_raise 3 = .ok (.invokevirtual 113, 3) := by decide +kernel
theorem dX9_raise_6 : decode cX9_raise 6 = .ok (.aload_n 0, 1) := by decide +kernel
theorem dX9_raise_7 : decode cX9_raise 7 = .ok (.iload_n 3, 1) := by decide +kernel
theorem dX9_raise_8 : decode cX9_raise 8 = .ok (.invokevirtual 164, 3) := by decide +kernel
theorem dX9_raise_11 : decode cX9_raise 11 = .ok (.aload_n 0, 1) := by decide +kernel
theorem dX9_raise_12 : decode cX9_raise 12 = .ok (.getfield 23, 3) := by decide +kernel
theorem dX9_raise_15 : decode cX9_raise 15 = .ok (.getfield 117, 3) := by decide +kernel
theorem dX9_raise_18 : decode cX9_raise 18 = .ok (.iload_n 1, 1) := by decide +kernel
theorem dX9_raise_19 : decode cX9_raise 19 = .ok (.aaload, 1) := by decide +kernel
theorem dX9_raise_20 : decode cX9_raise 20 = .ok (.getfield 167, 3) := by decide +kernel
theorem dX9_raise_23 : decode cX9_raise 23 = .ok (.astore 4, 2) := by decide +kernel
theorem dX9_raise_25 : decode cX9_raise 25 = .ok (.iload_n 2, 1) := by decide +kernel
theorem dX9_raise_26 : decode cX9_raise 26 = .ok (.iload_n 3, 1) := by decide +kernel
theorem dX9_raise_27 : decode cX9_raise 27 = .ok (.invokestatic 170, 3) := by decide +kernel
theorem dX9_raise_30 : decode cX9_raise 30 = .ok (.istore 5, 2) := by decide +kernel
theorem dX9_raise_32 : decode cX9_raise 32 = .ok (.aload 4, 2) := by decide +kernel
theorem dX9_raise_34 : decode cX9_raise 34 = .ok (.iload 5, 2) := by decide +kernel
theorem dX9_raise_36 : decode cX9_raise 36 = .ok (.iaload, 1) := by decide +kernel
theorem dX9_raise_37 : decode cX9_raise 37 = .ok (.iconst 5, 1) := by decide +kernel
theorem dX9_raise_38 : decode cX9_raise 38 = .ok (.if_icmp .lt 14, 3) := by decide +kernel
theorem dX9_raise_41 : decode cX9_raise 41 = .ok (.new 321, 3) := by decide +kernel
theorem dX9_raise_44 : decode cX9_raise 44 = .ok (.dup, 1) := by decide +kernel
theorem dX9_raise_45 : decode cX9_raise 45 = .ok (.ldc_w 323, 3) := by decide +kernel
theorem dX9_raise_48 : decode cX9_raise 48 = .ok (.invokespecial 325, 3) := by decide +kernel
theorem dX9_raise_51 : decode cX9_raise 51 = .ok (.athrow, 1) := by decide +kernel
theorem dX9_raise_52 : decode cX9_raise 52 = .ok (.aload_n 0, 1) := by decide +kernel
theorem dX9_raise_53 : decode cX9_raise 53 = .ok (.iload_n 1, 1) := by decide +kernel
theorem dX9_raise_54 : decode cX9_raise 54 = .ok (.aload_n 0, 1) := by decide +kernel
theorem dX9_raise_55 : decode cX9_raise 55 = .ok (.invokevirtual 152, 3) := by decide +kernel
theorem dX9_raise_58 : decode cX9_raise 58 = .ok (.invokevirtual 274, 3) := by decide +kernel
theorem dX9_raise_61 : decode cX9_raise 61 = .ok (.istore 6, 2) := by decide +kernel
theorem dX9_raise_63 : decode cX9_raise 63 = .ok (.aload 4, 2) := by decide +kernel
theorem dX9_raise_65 : decode cX9_raise 65 = .ok (.iload 5, 2) := by decide +kernel
theorem dX9_raise_67 : decode cX9_raise 67 = .ok (.dup2, 1) := by decide +kernel
theorem dX9_raise_68 : decode cX9_raise 68 = .ok (.iaload, 1) := by decide +kernel
theorem dX9_raise_69 : decode cX9_raise 69 = .ok (.iconst 1, 1) := by decide +kernel
theorem dX9_raise_70 : decode cX9_raise 70 = .ok (.iadd, 1) := by decide +kernel
theorem dX9_raise_71 : decode cX9_raise 71 = .ok (.iastore, 1) := by decide +kernel
theorem dX9_raise_72 : decode cX9_raise 72 = .ok (.aload_n 0, 1) := by decide +kernel
theorem dX9_raise_73 : decode cX9_raise 73 = .ok (.iload_n 1, 1) := by decide +kernel
theorem dX9_raise_74 : decode cX9_raise 74 = .ok (.aload_n 0, 1) := by decide +kernel
theorem dX9_raise_75 : decode cX9_raise 75 = .ok (.invokevirtual 152, 3) := by decide +kernel
theorem dX9_raise_78 : decode cX9_raise 78 = .ok (.invokevirtual 274, 3) := by decide +kernel
theorem dX9_raise_81 : decode cX9_raise 81 = .ok (.istore 7, 2) := by decide +kernel
theorem dX9_raise_83 : decode cX9_raise 83 = .ok (.aload 4, 2) := by decide +kernel
theorem dX9_raise_85 : decode cX9_raise 85 = .ok (.iload 5, 2) := by decide +kernel
theorem dX9_raise_87 : decode cX9_raise 87 = .ok (.dup2, 1) := by decide +kernel
theorem dX9_raise_88 : decode cX9_raise 88 = .ok (.iaload, 1) := by decide +kernel
theorem dX9_raise_89 : decode cX9_raise 89 = .ok (.iconst 1, 1) := by decide +kernel
theorem dX9_raise_90 : decode cX9_raise 90 = .ok (.isub, 1) := by decide +kernel
theorem dX9_raise_91 : decode cX9_raise 91 = .ok (.iastore, 1) := by decide +kernel
theorem dX9_raise_92 : decode cX9_raise 92 = .ok (.iload 7, 2) := by decide +kernel
theorem dX9_raise_94 : decode cX9_raise 94 = .ok (.iload 6, 2) := by decide +kernel
theorem dX9_raise_96 : decode cX9_raise 96 = .ok (.isub, 1) := by decide +kernel
theorem dX9_raise_97 : decode cX9_raise 97 = .ok (.ireturn, 1) := by decide +kernel
theorem dX9_prime_0 : decode cX9_prime 0 = .ok (.aload_n 0, 1) := by decide +kernel
theorem dX9_prime_1 : decode cX9_prime 1 = .ok (.iload_n 1, 1) := by decide +kernel
theorem dX9_prime_2 : decode cX9_prime 2 = .ok (.invokevirtual 89, 3) := by decide +kernel
theorem dX9_prime_5 : decode cX9_prime 5 = .ok (.iload_n 2, 1) := by decide +kernel
theorem dX9_prime_6 : decode cX9_prime 6 = .ok (.ifCond .lt 9, 3) := by decide +kernel
theorem dX9_prime_9 : decode cX9_prime 9 = .ok (.iload_n 2, 1) := by decide +kernel
theorem dX9_prime_10 : decode cX9_prime 10 = .ok (.bipush 12, 2) := by decide +kernel
theorem dX9_prime_12 : decode cX9_prime 12 = .ok (.if_icmp .le 14, 3) := by decide +kernel
theorem dX9_prime_15 : decode cX9_prime 15 = .ok (.new 70, 3) := by decide +kernel
theorem dX9_prime_18 : decode cX9_prime 18 = .ok (.dup, 1) := by decide +kernel
theorem dX9_prime_19 : decode cX9_prime 19 = .ok (.ldc_w 326, 3) := by decide +kernel
theorem dX9_prime_22 : decode cX9_prime 22 = .ok (.invokespecial 74, 3) := by decide +kernel
theorem dX9_prime_25 : decode cX9_prime 25 = .ok (.athrow, 1) := by decide +kernel
theorem dX9_prime_26 : decode cX9_prime 26 = .ok (.aload_n 0, 1) := by decide +kernel
theorem dX9_prime_27 : decode cX9_prime 27 = .ok (.iload_n 1, 1) := by decide +kernel
theorem dX9_prime_28 : decode cX9_prime 28 = .ok (.invokevirtual 121, 3) := by decide +kernel
theorem dX9_prime_31 : decode cX9_prime 31 = .ok (.iload_n 2, 1) := by decide +kernel
theorem dX9_prime_32 : decode cX9_prime 32 = .ok (.invokevirtual 328, 3) := by decide +kernel
theorem dX9_prime_35 : decode cX9_prime 35 = .ok (.ireturn, 1) := by decide +kernel
theorem dX9_led_0 : decode cX9_led 0 = .ok (.iload_n 1, 1) := by decide +kernel
theorem dX9_led_1 : decode cX9_led 1 = .ok (.ifCond .lt 10, 3) := by decide +kernel
theorem dX9_led_4 : decode cX9_led 4 = .ok (.iload_n 1, 1) := by decide +kernel
theorem dX9_led_5 : decode cX9_led 5 = .ok (.sipush 600, 3) := by decide +kernel
theorem dX9_led_8 : decode cX9_led 8 = .ok (.if_icmp .le 14, 3) := by decide +kernel
theorem dX9_led_11 : decode cX9_led 11 = .ok (.new 70, 3) := by decide +kernel
theorem dX9_led_14 : decode cX9_led 14 = .ok (.dup, 1) := by decide +kernel
theorem dX9_led_15 : decode cX9_led 15 = .ok (.ldc_w 331, 3) := by decide +kernel
theorem dX9_led_18 : decode cX9_led 18 = .ok (.invokespecial 74, 3) := by decide +kernel
theorem dX9_led_21 : decode cX9_led 21 = .ok (.athrow, 1) := by decide +kernel
theorem dX9_led_22 : decode cX9_led 22 = .ok (.aload_n 0, 1) := by decide +kernel
theorem dX9_led_23 : decode cX9_led 23 = .ok (.getfield 44, 3) := by decide +kernel
theorem dX9_led_26 : decode cX9_led 26 = .ok (.aload_n 0, 1) := by decide +kernel
theorem dX9_led_27 : decode cX9_led 27 = .ok (.getfield 23, 3) := by decide +kernel
theorem dX9_led_30 : decode cX9_led 30 = .ok (.iload_n 1, 1) := by decide +kernel
theorem dX9_led_31 : decode cX9_led 31 = .ok (.invokevirtual 215, 3) := by decide +kernel
theorem dX9_led_34 : decode cX9_led 34 = .ok (.aload_n 0, 1) := by decide +kernel
theorem dX9_led_35 : decode cX9_led 35 = .ok (.getfield 44, 3) := by decide +kernel
theorem dX9_led_38 : decode cX9_led 38 = .ok (.iconst 0, 1) := by decide +kernel
theorem dX9_led_39 : decode cX9_led 39 = .ok (.invokevirtual 222, 3) := by decide +kernel
theorem dX9_led_42 : decode cX9_led 42 = .ok (.ireturn, 1) := by decide +kernel
theorem dX9_doubt_0 : decode cX9_doubt 0 = .ok (.aload_n 0, 1) := by decide +kernel
theorem dX9_doubt_1 : decode cX9_doubt 1 = .ok (.iload_n 1, 1) := by decide +kernel
theorem dX9_doubt_2 : decode cX9_doubt 2 = .ok (.invokevirtual 89, 3) := by decide +kernel
theorem dX9_doubt_5 : decode cX9_doubt 5 = .ok (.aload_n 0, 1) := by decide +kernel
theorem dX9_doubt_6 : decode cX9_doubt 6 = .ok (.getfield 23, 3) := by decide +kernel
theorem dX9_doubt_9 : decode cX9_doubt 9 = .ok (.getfield 117, 3) := by decide +kernel
theorem dX9_doubt_12 : decode cX9_doubt 12 = .ok (.iload_n 1, 1) := by decide +kernel
theorem dX9_doubt_13 : decode cX9_doubt 13 = .ok (.aaload, 1) := by decide +kernel
theorem dX9_doubt_14 : decode cX9_doubt 14 = .ok (.aload_n 0, 1) := by decide +kernel
theorem dX9_doubt_15 : decode cX9_doubt 15 = .ok (.getfield 23, 3) := by decide +kernel
theorem dX9_doubt_18 : decode cX9_doubt 18 = .ok (.getfield 295, 3) := by decide +kernel
theorem dX9_doubt_21 : decode cX9_doubt 21 = .ok (.invokevirtual 333, 3) := by decide +kernel
theorem dX9_doubt_24 : decode cX9_doubt 24 = .ok (.ireturn, 1) := by decide +kernel
theorem dX9_clean_0 : decode cX9_clean 0 = .ok (.aload_n 0, 1) := by decide +kernel
theorem dX9_clean_1 : decode cX9_clean 1 = .ok (.iload_n 1, 1) := by decide +kernel
theorem dX9_clean_2 : decode cX9_clean 2 = .ok (.invokevirtual 89, 3) := by decide +kernel
theorem dX9_clean_5 : decode cX9_clean 5 = .ok (.aload_n 0, 1) := by decide +kernel
theorem dX9_clean_6 : decode cX9_clean 6 = .ok (.getfield 44, 3) := by decide +kernel
theorem dX9_clean_9 : decode cX9_clean 9 = .ok (.getfield 336, 3) := by decide +kernel
theorem dX9_clean_12 : decode cX9_clean 12 = .ok (.iload_n 1, 1) := by decide +kernel
theorem dX9_clean_13 : decode cX9_clean 13 = .ok (.aaload, 1) := by decide +kernel
theorem dX9_clean_14 : decode cX9_clean 14 = .ok (.astore_n 2, 1) := by decide +kernel
theorem dX9_clean_15 : decode cX9_clean 15 = .ok (.aload_n 2, 1) := by decide +kernel
theorem dX9_clean_16 : decode cX9_clean 16 = .ok (.aload_n 0, 1) := by decide +kernel
theorem dX9_clean_17 : decode cX9_clean 17 = .ok (.getfield 23, 3) := by decide +kernel
theorem dX9_clean_20 : decode cX9_clean 20 = .ok (.iload_n 1, 1) := by decide +kernel
theorem dX9_clean_21 : decode cX9_clean 21 = .ok (.sipush 600, 3) := by decide +kernel
theorem dX9_clean_24 : decode cX9_clean 24 = .ok (.iconst 0, 1) := by decide +kernel
theorem dX9_clean_25 : decode cX9_clean 25 = .ok (.invokevirtual 340, 3) := by decide +kernel
theorem dX9_clean_28 : decode cX9_clean 28 = .ok (.aload_n 2, 1) := by decide +kernel
theorem dX9_clean_29 : decode cX9_clean 29 = .ok (.getfield 199, 3) := by decide +kernel
theorem dX9_clean_32 : decode cX9_clean 32 = .ok (.ireturn, 1) := by decide +kernel
theorem dX9_write_0 : decode cX9_write 0 = .ok (.aload_n 0, 1) := by decide +kernel
theorem dX9_write_1 : decode cX9_write 1 = .ok (.iload_n 1, 1) := by decide +kernel
theorem dX9_write_2 : decode cX9_write 2 = .ok (.invokevirtual 89, 3) := by decide +kernel
theorem dX9_write_5 : decode cX9_write 5 = .ok (.aload_n 0, 1) := by decide +kernel
theorem dX9_write_6 : decode cX9_write 6 = .ok (.getfield 58, 3) := by decide +kernel
theorem dX9_write_9 : decode cX9_write 9 = .ok (.aload_n 0, 1) := by decide +kernel
theorem dX9_write_10 : decode cX9_write 10 = .ok (.getfield 23, 3) := by decide +kernel
theorem dX9_write_13 : decode cX9_write 13 = .ok (.iload_n 1, 1) := by decide +kernel
theorem dX9_write_14 : decode cX9_write 14 = .ok (.aload_n 0, 1) := by decide +kernel
theorem dX9_write_15 : decode cX9_write 15 = .ok (.iload_n 1, 1) := by decide +kernel
theorem dX9_write_16 : decode cX9_write 16 = .ok (.invokevirtual 121, 3) := by decide +kernel
theorem dX9_write_19 : decode cX9_write 19 = .ok (.invokevirtual 343, 3) := by decide +kernel
theorem dX9_write_22 : decode cX9_write 22 = .ok (.aload_n 0, 1) := by decide +kernel
theorem dX9_write_23 : decode cX9_write 23 = .ok (.getfield 58, 3) := by decide +kernel
theorem dX9_write_26 : decode cX9_write 26 = .ok (.getfield 347, 3) := by decide +kernel
theorem dX9_write_29 : decode cX9_write 29 = .ok (.ireturn, 1) := by decide +kernel
theorem dX9_octet_0 : decode cX9_octet 0 = .ok (.iload_n 1, 1) := by decide +kernel
theorem dX9_octet_1 : decode cX9_octet 1 = .ok (.ifCond .lt 26, 3) := by decide +kernel
theorem dX9_octet_4 : decode cX9_octet 4 = .ok (.iload_n 1, 1) := by decide +kernel
theorem dX9_octet_5 : decode cX9_octet 5 = .ok (.aload_n 0, 1) := by decide +kernel
theorem dX9_octet_6 : decode cX9_octet 6 = .ok (.getfield 58, 3) := by decide +kernel
theorem dX9_octet_9 : decode cX9_octet 9 = .ok (.getfield 347, 3) := by decide +kernel
theorem dX9_octet_12 : decode cX9_octet 12 = .ok (.if_icmp .ge 15, 3) := by decide +kernel
theorem dX9_octet_15 : decode cX9_octet 15 = .ok (.aload_n 0, 1) := by decide +kernel
theorem dX9_octet_16 : decode cX9_octet 16 = .ok (.getfield 58, 3) := by decide +kernel
theorem dX9_octet_19 : decode cX9_octet 19 = .ok (.getfield 348, 3) := by decide +kernel
theorem dX9_octet_22 : decode cX9_octet 22 = .ok (.iload_n 1, 1) := by decide +kernel
theorem dX9_octet_23 : decode cX9_octet 23 = .ok (.iaload, 1) := by decide +kernel
theorem dX9_octet_24 : decode cX9_octet 24 = .ok (.goto 4, 3) := by decide +kernel
theorem dX9_octet_27 : decode cX9_octet 27 = .ok (.iconst (-1), 1) := by decide +kernel
theorem dX9_octet_28 : decode cX9_octet 28 = .ok (.ireturn, 1) := by decide +kernel
theorem dX9_count_0 : decode cX9_count 0 = .ok (.iload_n 1, 1) := by decide +kernel
theorem dX9_count_1 : decode cX9_count 1 = .ok (.tableswitch 124 0 12 #[67, 78, 89, 124, 124, 124, 124, 124, 124, 124, 97, 108, 116], 67) := by decide +kernel
theorem dX9_count_68 : decode cX9_count 68 = .ok (.aload_n 0, 1) := by decide +kernel
theorem dX9_count_69 : decode cX9_count 69 = .ok (.getfield 23, 3) := by decide +kernel
theorem dX9_count_72 : decode cX9_count 72 = .ok (.getfield 99, 3) := by decide +kernel
theorem dX9_count_75 : decode cX9_count 75 = .ok (.getfield 84, 3) := by decide +kernel
theorem dX9_count_78 : decode cX9_count 78 = .ok (.ireturn, 1) := by decide +kernel
theorem dX9_count_79 : decode cX9_count 79 = .ok (.aload_n 0, 1) := by decide +kernel
theorem dX9_count_80 : decode cX9_count 80 = .ok (.getfield 23, 3) := by decide +kernel
theorem dX9_count_83 : decode cX9_count 83 = .ok (.getfield 80, 3) := by decide +kernel
theorem dX9_count_86 : decode cX9_count 86 = .ok (.getfield 84, 3) := by decide +kernel
theorem dX9_count_89 : decode cX9_count 89 = .ok (.ireturn, 1) := by decide +kernel
theorem dX9_count_90 : decode cX9_count 90 = .ok (.aload_n 0, 1) := by decide +kernel
theorem dX9_count_91 : decode cX9_count 91 = .ok (.getfield 23, 3) := by decide +kernel
theorem dX9_count_94 : decode cX9_count 94 = .ok (.getfield 295, 3) := by decide +kernel
theorem dX9_count_97 : decode cX9_count 97 = .ok (.ireturn, 1) := by decide +kernel
theorem dX9_count_98 : decode cX9_count 98 = .ok (.aload_n 0, 1) := by decide +kernel
theorem dX9_count_99 : decode cX9_count 99 = .ok (.getfield 23, 3) := by decide +kernel
theorem dX9_count_102 : decode cX9_count 102 = .ok (.getfield 204, 3) := by decide +kernel
theorem dX9_count_105 : decode cX9_count 105 = .ok (.getfield 208, 3) := by decide +kernel
theorem dX9_count_108 : decode cX9_count 108 = .ok (.ireturn, 1) := by decide +kernel
theorem dX9_count_109 : decode cX9_count 109 = .ok (.aload_n 0, 1) := by decide +kernel
theorem dX9_count_110 : decode cX9_count 110 = .ok (.getfield 51, 3) := by decide +kernel
theorem dX9_count_113 : decode cX9_count 113 = .ok (.getfield 264, 3) := by decide +kernel
theorem dX9_count_116 : decode cX9_count 116 = .ok (.ireturn, 1) := by decide +kernel
theorem dX9_count_117 : decode cX9_count 117 = .ok (.aload_n 0, 1) := by decide +kernel
theorem dX9_count_118 : decode cX9_count 118 = .ok (.getfield 58, 3) := by decide +kernel
theorem dX9_count_121 : decode cX9_count 121 = .ok (.getfield 347, 3) := by decide +kernel
theorem dX9_count_124 : decode cX9_count 124 = .ok (.ireturn, 1) := by decide +kernel
theorem dX9_count_125 : decode cX9_count 125 = .ok (.iload_n 1, 1) := by decide +kernel
theorem dX9_count_126 : decode cX9_count 126 = .ok (.iconst 3, 1) := by decide +kernel
theorem dX9_count_127 : decode cX9_count 127 = .ok (.if_icmp .lt 21, 3) := by decide +kernel
theorem dX9_count_130 : decode cX9_count 130 = .ok (.iload_n 1, 1) := by decide +kernel
theorem dX9_count_131 : decode cX9_count 131 = .ok (.bipush 10, 2) := by decide +kernel
theorem dX9_count_133 : decode cX9_count 133 = .ok (.if_icmp .ge 15, 3) := by decide +kernel
theorem dX9_count_136 : decode cX9_count 136 = .ok (.aload_n 0, 1) := by decide +kernel
theorem dX9_count_137 : decode cX9_count 137 = .ok (.getfield 23, 3) := by decide +kernel
theorem dX9_count_140 : decode cX9_count 140 = .ok (.getfield 251, 3) := by decide +kernel
theorem dX9_count_143 : decode cX9_count 143 = .ok (.iload_n 1, 1) := by decide +kernel
theorem dX9_count_144 : decode cX9_count 144 = .ok (.iconst 3, 1) := by decide +kernel
theorem dX9_count_145 : decode cX9_count 145 = .ok (.isub, 1) := by decide +kernel
theorem dX9_count_146 : decode cX9_count 146 = .ok (.iaload, 1) := by decide +kernel
theorem dX9_count_147 : decode cX9_count 147 = .ok (.ireturn, 1) := by decide +kernel
theorem dX9_count_148 : decode cX9_count 148 = .ok (.iload_n 1, 1) := by decide +kernel
theorem dX9_count_149 : decode cX9_count 149 = .ok (.bipush 20, 2) := by decide +kernel
theorem dX9_count_151 : decode cX9_count 151 = .ok (.if_icmp .lt 36, 3) := by decide +kernel
theorem dX9_count_154 : decode cX9_count 154 = .ok (.iload_n 1, 1) := by decide +kernel
theorem dX9_count_155 : decode cX9_count 155 = .ok (.bipush 20, 2) := by decide +kernel
theorem dX9_count_157 : decode cX9_count 157 = .ok (.aload_n 0, 1) := by decide +kernel
theorem dX9_count_158 : decode cX9_count 158 = .ok (.getfield 23, 3) := by decide +kernel
theorem dX9_count_161 : decode cX9_count 161 = .ok (.getfield 80, 3) := by decide +kernel
theorem dX9_count_164 : decode cX9_count 164 = .ok (.getfield 84, 3) := by decide +kernel
theorem dX9_count_167 : decode cX9_count 167 = .ok (.iadd, 1) := by decide +kernel
theorem dX9_count_168 : decode cX9_count 168 = .ok (.if_icmp .ge 19, 3) := by decide +kernel
theorem dX9_count_171 : decode cX9_count 171 = .ok (.aload_n 0, 1) := by decide +kernel
theorem dX9_count_172 : decode cX9_count 172 = .ok (.getfield 23, 3) := by decide +kernel
theorem dX9_count_175 : decode cX9_count 175 = .ok (.getfield 117, 3) := by decide +kernel
theorem dX9_count_178 : decode cX9_count 178 = .ok (.iload_n 1, 1) := by decide +kernel
theorem dX9_count_179 : decode cX9_count 179 = .ok (.bipush 20, 2) := by decide +kernel
theorem dX9_count_181 : decode cX9_count 181 = .ok (.isub, 1) := by decide +kernel
theorem dX9_count_182 : decode cX9_count 182 = .ok (.aaload, 1) := by decide +kernel
theorem dX9_count_183 : decode cX9_count 183 = .ok (.getfield 351, 3) := by decide +kernel
theorem dX9_count_186 : decode cX9_count 186 = .ok (.ireturn, 1) := by decide +kernel
theorem dX9_count_187 : decode cX9_count 187 = .ok (.iconst (-1), 1) := by decide +kernel
theorem dX9_count_188 : decode cX9_count 188 = .ok (.ireturn, 1) := by decide +kernel
theorem dX9_wantSkater_0 : decode cX9_wantSkater 0 = .ok (.iload_n 1, 1) := by decide +kernel
theorem dX9_wantSkater_1 : decode cX9_wantSkater 1 = .ok (.ifCond .lt 17, 3) := by decide +kernel
theorem dX9_wantSkater_4 : decode cX9_wantSkater 4 = .ok (.iload_n 1, 1) := by decide +kernel
theorem dX9_wantSkater_5 : decode cX9_wantSkater 5 = .ok (.aload_n 0, 1) := by decide +kernel
theorem dX9_wantSkater_6 : decode cX9_wantSkater 6 = .ok (.getfield 23, 3) := by decide +kernel
theorem dX9_wantSkater_9 : decode cX9_wantSkater 9 = .ok (.getfield 80, 3) := by decide +kernel
theorem dX9_wantSkater_12 : decode cX9_wantSkater 12 = .ok (.getfield 84, 3) := by decide +kernel
theorem dX9_wantSkater_15 : decode cX9_wantSkater 15 = .ok (.if_icmp .lt 14, 3) := by decide +kernel
theorem dX9_wantSkater_18 : decode cX9_wantSkater 18 = .ok (.new 354, 3) := by decide +kernel
theorem dX9_wantSkater_21 : decode cX9_wantSkater 21 = .ok (.dup, 1) := by decide +kernel
theorem dX9_wantSkater_22 : decode cX9_wantSkater 22 = .ok (.ldc_w 356, 3) := by decide +kernel
theorem dX9_wantSkater_25 : decode cX9_wantSkater 25 = .ok (.invokespecial 358, 3) := by decide +kernel
theorem dX9_wantSkater_28 : decode cX9_wantSkater 28 = .ok (.athrow, 1) := by decide +kernel
theorem dX9_wantSkater_29 : decode cX9_wantSkater 29 = .ok (.return_, 1) := by decide +kernel
theorem dX9_wantElement_0 : decode cX9_wantElement 0 = .ok (.iload_n 1, 1) := by decide +kernel
theorem dX9_wantElement_1 : decode cX9_wantElement 1 = .ok (.ifCond .lt 17, 3) := by decide +kernel
theorem dX9_wantElement_4 : decode cX9_wantElement 4 = .ok (.iload_n 1, 1) := by decide +kernel
theorem dX9_wantElement_5 : decode cX9_wantElement 5 = .ok (.aload_n 0, 1) := by decide +kernel
theorem dX9_wantElement_6 : decode cX9_wantElement 6 = .ok (.getfield 23, 3) := by decide +kernel
theorem dX9_wantElement_9 : decode cX9_wantElement 9 = .ok (.getfield 99, 3) := by decide +kernel
theorem dX9_wantElement_12 : decode cX9_wantElement 12 = .ok (.getfield 84, 3) := by decide +kernel
theorem dX9_wantElement_15 : decode cX9_wantElement 15 = .ok (.if_icmp .lt 14, 3) := by decide +kernel
theorem dX9_wantElement_18 : decode cX9_wantElement 18 = .ok (.new 354, 3) := by decide +kernel
theorem dX9_wantElement_21 : decode cX9_wantElement 21 = .ok (.dup, 1) := by decide +kernel
theorem dX9_wantElement_22 : decode cX9_wantElement 22 = .ok (.ldc_w 359, 3) := by decide +kernel
theorem dX9_wantElement_25 : decode cX9_wantElement 25 = .ok (.invokespecial 358, 3) := by decide +kernel
theorem dX9_wantElement_28 : decode cX9_wantElement 28 = .ok (.athrow, 1) := by decide +kernel
theorem dX9_wantElement_29 : decode cX9_wantElement 29 = .ok (.return_, 1) := by decide +kernel
theorem dX9_wantAttempt_0 : decode cX9_wantAttempt 0 = .ok (.aload_n 0, 1) := by decide +kernel
theorem dX9_wantAttempt_1 : decode cX9_wantAttempt 1 = .ok (.iload_n 1, 1) := by decide +kernel
theorem dX9_wantAttempt_2 : decode cX9_wantAttempt 2 = .ok (.invokevirtual 89, 3) := by decide +kernel
theorem dX9_wantAttempt_5 : decode cX9_wantAttempt 5 = .ok (.aload_n 0, 1) := by decide +kernel
theorem dX9_wantAttempt_6 : decode cX9_wantAttempt 6 = .ok (.getfield 23, 3) := by decide +kernel
theorem dX9_wantAttempt_9 : decode cX9_wantAttempt 9 = .ok (.getfield 117, 3) := by decide +kernel
theorem dX9_wantAttempt_12 : decode cX9_wantAttempt 12 = .ok (.iload_n 1, 1) := by decide +kernel
theorem dX9_wantAttempt_13 : decode cX9_wantAttempt 13 = .ok (.aaload, 1) := by decide +kernel
theorem dX9_wantAttempt_14 : decode cX9_wantAttempt 14 = .ok (.iload_n 2, 1) := by decide +kernel
theorem dX9_wantAttempt_15 : decode cX9_wantAttempt 15 = .ok (.invokevirtual 361, 3) := by decide +kernel
theorem dX9_wantAttempt_18 : decode cX9_wantAttempt 18 = .ok (.ifCond .ne 14, 3) := by decide +kernel
theorem dX9_wantAttempt_21 : decode cX9_wantAttempt 21 = .ok (.new 354, 3) := by decide +kernel
theorem dX9_wantAttempt_24 : decode cX9_wantAttempt 24 = .ok (.dup, 1) := by decide +kernel
theorem dX9_wantAttempt_25 : decode cX9_wantAttempt 25 = .ok (.ldc_w 364, 3) := by decide +kernel
theorem dX9_wantAttempt_28 : decode cX9_wantAttempt 28 = .ok (.invokespecial 358, 3) := by decide +kernel
theorem dX9_wantAttempt_31 : decode cX9_wantAttempt 31 = .ok (.athrow, 1) := by decide +kernel
theorem dX9_wantAttempt_32 : decode cX9_wantAttempt 32 = .ok (.return_, 1) := by decide +kernel
theorem dX9_wantJudge_0 : decode cX9_wantJudge 0 = .ok (.iload_n 1, 1) := by decide +kernel
theorem dX9_wantJudge_1 : decode cX9_wantJudge 1 = .ok (.ifCond .lt 14, 3) := by decide +kernel
theorem dX9_wantJudge_4 : decode cX9_wantJudge 4 = .ok (.iload_n 1, 1) := by decide +kernel
theorem dX9_wantJudge_5 : decode cX9_wantJudge 5 = .ok (.aload_n 0, 1) := by decide +kernel
theorem dX9_wantJudge_6 : decode cX9_wantJudge 6 = .ok (.getfield 23, 3) := by decide +kernel
theorem dX9_wantJudge_9 : decode cX9_wantJudge 9 = .ok (.getfield 295, 3) := by decide +kernel
theorem dX9_wantJudge_12 : decode cX9_wantJudge 12 = .ok (.if_icmp .lt 14, 3) := by decide +kernel
theorem dX9_wantJudge_15 : decode cX9_wantJudge 15 = .ok (.new 354, 3) := by decide +kernel
theorem dX9_wantJudge_18 : decode cX9_wantJudge 18 = .ok (.dup, 1) := by decide +kernel
theorem dX9_wantJudge_19 : decode cX9_wantJudge 19 = .ok (.ldc_w 366, 3) := by decide +kernel
theorem dX9_wantJudge_22 : decode cX9_wantJudge 22 = .ok (.invokespecial 358, 3) := by decide +kernel
theorem dX9_wantJudge_25 : decode cX9_wantJudge 25 = .ok (.athrow, 1) := by decide +kernel
theorem dX9_wantJudge_26 : decode cX9_wantJudge 26 = .ok (.return_, 1) := by decide +kernel
theorem dX9_wantComponent_0 : decode cX9_wantComponent 0 = .ok (.iload_n 1, 1) := by decide +kernel
theorem dX9_wantComponent_1 : decode cX9_wantComponent 1 = .ok (.ifCond .lt 8, 3) := by decide +kernel
theorem dX9_wantComponent_4 : decode cX9_wantComponent 4 = .ok (.iload_n 1, 1) := by decide +kernel
theorem dX9_wantComponent_5 : decode cX9_wantComponent 5 = .ok (.iconst 3, 1) := by decide +kernel
theorem dX9_wantComponent_6 : decode cX9_wantComponent 6 = .ok (.if_icmp .lt 14, 3) := by decide +kernel
theorem dX9_wantComponent_9 : decode cX9_wantComponent 9 = .ok (.new 354, 3) := by decide +kernel
theorem dX9_wantComponent_12 : decode cX9_wantComponent 12 = .ok (.dup, 1) := by decide +kernel
theorem dX9_wantComponent_13 : decode cX9_wantComponent 13 = .ok (.ldc_w 368, 3) := by decide +kernel
theorem dX9_wantComponent_16 : decode cX9_wantComponent 16 = .ok (.invokespecial 358, 3) := by decide +kernel
theorem dX9_wantComponent_19 : decode cX9_wantComponent 19 = .ok (.athrow, 1) := by decide +kernel
theorem dX9_wantComponent_20 : decode cX9_wantComponent 20 = .ok (.return_, 1) := by decide +kernel
theorem dX9_wantOtherJudge_0 : decode cX9_wantOtherJudge 0 = .ok (.aload_n 0, 1) := by decide +kernel
theorem dX9_wantOtherJudge_1 : decode cX9_wantOtherJudge 1 = .ok (.getfield 23, 3) := by decide +kernel
theorem dX9_wantOtherJudge_4 : decode cX9_wantOtherJudge 4 = .ok (.getfield 295, 3) := by decide +kernel
theorem dX9_wantOtherJudge_7 : decode cX9_wantOtherJudge 7 = .ok (.iconst 2, 1) := by decide +kernel
theorem dX9_wantOtherJudge_8 : decode cX9_wantOtherJudge 8 = .ok (.if_icmp .ge 14, 3) := by decide +kernel
theorem dX9_wantOtherJudge_11 : decode cX9_wantOtherJudge 11 = .ok (.new 321, 3) := by decide +kernel
theorem dX9_wantOtherJudge_14 : decode cX9_wantOtherJudge 14 = .ok (.dup, 1) := by decide +kernel
theorem dX9_wantOtherJudge_15 : decode cX9_wantOtherJudge 15 = .ok (.ldc_w 370, 3) := by decide +kernel
theorem dX9_wantOtherJudge_18 : decode cX9_wantOtherJudge 18 = .ok (.invokespecial 325, 3) := by decide +kernel
theorem dX9_wantOtherJudge_21 : decode cX9_wantOtherJudge 21 = .ok (.athrow, 1) := by decide +kernel
theorem dX9_wantOtherJudge_22 : decode cX9_wantOtherJudge 22 = .ok (.return_, 1) := by decide +kernel
theorem dX9_wantPanelSize_0 : decode cX9_wantPanelSize 0 = .ok (.iload_n 1, 1) := by decide +kernel
theorem dX9_wantPanelSize_1 : decode cX9_wantPanelSize 1 = .ok (.iconst 1, 1) := by decide +kernel
theorem dX9_wantPanelSize_2 : decode cX9_wantPanelSize 2 = .ok (.if_icmp .lt 14, 3) := by decide +kernel
theorem dX9_wantPanelSize_5 : decode cX9_wantPanelSize 5 = .ok (.iload_n 1, 1) := by decide +kernel
theorem dX9_wantPanelSize_6 : decode cX9_wantPanelSize 6 = .ok (.aload_n 0, 1) := by decide +kernel
theorem dX9_wantPanelSize_7 : decode cX9_wantPanelSize 7 = .ok (.getfield 23, 3) := by decide +kernel
theorem dX9_wantPanelSize_10 : decode cX9_wantPanelSize 10 = .ok (.getfield 295, 3) := by decide +kernel
theorem dX9_wantPanelSize_13 : decode cX9_wantPanelSize 13 = .ok (.if_icmp .le 14, 3) := by decide +kernel
theorem dX9_wantPanelSize_16 : decode cX9_wantPanelSize 16 = .ok (.new 70, 3) := by decide +kernel
theorem dX9_wantPanelSize_19 : decode cX9_wantPanelSize 19 = .ok (.dup, 1) := by decide +kernel
theorem dX9_wantPanelSize_20 : decode cX9_wantPanelSize 20 = .ok (.ldc_w 372, 3) := by decide +kernel
theorem dX9_wantPanelSize_23 : decode cX9_wantPanelSize 23 = .ok (.invokespecial 74, 3) := by decide +kernel
theorem dX9_wantPanelSize_26 : decode cX9_wantPanelSize 26 = .ok (.athrow, 1) := by decide +kernel
theorem dX9_wantPanelSize_27 : decode cX9_wantPanelSize 27 = .ok (.return_, 1) := by decide +kernel
theorem dX9_tapeNumber_0 : decode cX9_tapeNumber 0 = .ok (.bipush 24, 2) := by decide +kernel
theorem dX9_tapeNumber_2 : decode cX9_tapeNumber 2 = .ok (.istore_n 2, 1) := by decide +kernel
theorem dX9_tapeNumber_3 : decode cX9_tapeNumber 3 = .ok (.iload_n 2, 1) := by decide +kernel
theorem dX9_tapeNumber_4 : decode cX9_tapeNumber 4 = .ok (.ifCond .lt 47, 3) := by decide +kernel
theorem dX9_tapeNumber_7 : decode cX9_tapeNumber 7 = .ok (.aload_n 0, 1) := by decide +kernel
theorem dX9_tapeNumber_8 : decode cX9_tapeNumber 8 = .ok (.getfield 13, 3) := by decide +kernel
theorem dX9_tapeNumber_11 : decode cX9_tapeNumber 11 = .ok (.aload_n 0, 1) := by decide +kernel
theorem dX9_tapeNumber_12 : decode cX9_tapeNumber 12 = .ok (.getfield 9, 3) := by decide +kernel
theorem dX9_tapeNumber_15 : decode cX9_tapeNumber 15 = .ok (.arraylength, 1) := by decide +kernel
theorem dX9_tapeNumber_16 : decode cX9_tapeNumber 16 = .ok (.if_icmp .ge 35, 3) := by decide +kernel
theorem dX9_tapeNumber_19 : decode cX9_tapeNumber 19 = .ok (.aload_n 0, 1) := by decide +kernel
theorem dX9_tapeNumber_20 : decode cX9_tapeNumber 20 = .ok (.getfield 9, 3) := by decide +kernel
theorem dX9_tapeNumber_23 : decode cX9_tapeNumber 23 = .ok (.aload_n 0, 1) := by decide +kernel
theorem dX9_tapeNumber_24 : decode cX9_tapeNumber 24 = .ok (.getfield 13, 3) := by decide +kernel
theorem dX9_tapeNumber_27 : decode cX9_tapeNumber 27 = .ok (.iload_n 1, 1) := by decide +kernel
theorem dX9_tapeNumber_28 : decode cX9_tapeNumber 28 = .ok (.iload_n 2, 1) := by decide +kernel
theorem dX9_tapeNumber_29 : decode cX9_tapeNumber 29 = .ok (.iushr, 1) := by decide +kernel
theorem dX9_tapeNumber_30 : decode cX9_tapeNumber 30 = .ok (.sipush 255, 3) := by decide +kernel
theorem dX9_tapeNumber_33 : decode cX9_tapeNumber 33 = .ok (.iand, 1) := by decide +kernel
theorem dX9_tapeNumber_34 : decode cX9_tapeNumber 34 = .ok (.iastore, 1) := by decide +kernel
theorem dX9_tapeNumber_35 : decode cX9_tapeNumber 35 = .ok (.aload_n 0, 1) := by decide +kernel
theorem dX9_tapeNumber_36 : decode cX9_tapeNumber 36 = .ok (.dup, 1) := by decide +kernel
theorem dX9_tapeNumber_37 : decode cX9_tapeNumber 37 = .ok (.getfield 13, 3) := by decide +kernel
theorem dX9_tapeNumber_40 : decode cX9_tapeNumber 40 = .ok (.iconst 1, 1) := by decide +kernel
theorem dX9_tapeNumber_41 : decode cX9_tapeNumber 41 = .ok (.iadd, 1) := by decide +kernel
theorem dX9_tapeNumber_42 : decode cX9_tapeNumber 42 = .ok (.putfield 13, 3) := by decide +kernel
theorem dX9_tapeNumber_45 : decode cX9_tapeNumber 45 = .ok (.iinc 2 (-8), 3) := by decide +kernel
theorem dX9_tapeNumber_48 : decode cX9_tapeNumber 48 = .ok (.goto (-45), 3) := by decide +kernel
theorem dX9_tapeNumber_51 : decode cX9_tapeNumber 51 = .ok (.return_, 1) := by decide +kernel
theorem dX9_voteOfGrade_0 : decode cX9_voteOfGrade 0 = .ok (.iload_n 0, 1) := by decide +kernel
theorem dX9_voteOfGrade_1 : decode cX9_voteOfGrade 1 = .ok (.bipush 9, 2) := by decide +kernel
theorem dX9_voteOfGrade_3 : decode cX9_voteOfGrade 3 = .ok (.imul, 1) := by decide +kernel
theorem dX9_voteOfGrade_4 : decode cX9_voteOfGrade 4 = .ok (.iload_n 1, 1) := by decide +kernel
theorem dX9_voteOfGrade_5 : decode cX9_voteOfGrade 5 = .ok (.iadd, 1) := by decide +kernel
theorem dX9_voteOfGrade_6 : decode cX9_voteOfGrade 6 = .ok (.ireturn, 1) := by decide +kernel
theorem dX9_voteOfMark_0 : decode cX9_voteOfMark 0 = .ok (.bipush 12, 2) := by decide +kernel
theorem dX9_voteOfMark_2 : decode cX9_voteOfMark 2 = .ok (.iload_n 0, 1) := by decide +kernel
theorem dX9_voteOfMark_3 : decode cX9_voteOfMark 3 = .ok (.iadd, 1) := by decide +kernel
theorem dX9_voteOfMark_4 : decode cX9_voteOfMark 4 = .ok (.bipush 9, 2) := by decide +kernel
theorem dX9_voteOfMark_6 : decode cX9_voteOfMark 6 = .ok (.imul, 1) := by decide +kernel
theorem dX9_voteOfMark_7 : decode cX9_voteOfMark 7 = .ok (.iload_n 1, 1) := by decide +kernel
theorem dX9_voteOfMark_8 : decode cX9_voteOfMark 8 = .ok (.iadd, 1) := by decide +kernel
theorem dX9_voteOfMark_9 : decode cX9_voteOfMark 9 = .ok (.ireturn, 1) := by decide +kernel
theorem dX9_tellVote_0 : decode cX9_tellVote 0 = .ok (.aload_n 0, 1) := by decide +kernel
theorem dX9_tellVote_1 : decode cX9_tellVote 1 = .ok (.getfield 23, 3) := by decide +kernel
theorem dX9_tellVote_4 : decode cX9_tellVote 4 = .ok (.getfield 117, 3) := by decide +kernel
theorem dX9_tellVote_7 : decode cX9_tellVote 7 = .ok (.iload_n 1, 1) := by decide +kernel
theorem dX9_tellVote_8 : decode cX9_tellVote 8 = .ok (.aaload, 1) := by decide +kernel
theorem dX9_tellVote_9 : decode cX9_tellVote 9 = .ok (.getfield 167, 3) := by decide +kernel
theorem dX9_tellVote_12 : decode cX9_tellVote 12 = .ok (.astore 4, 2) := by decide +kernel
theorem dX9_tellVote_14 : decode cX9_tellVote 14 = .ok (.aload 4, 2) := by decide +kernel
theorem dX9_tellVote_16 : decode cX9_tellVote 16 = .ok (.iload_n 2, 1) := by decide +kernel
theorem dX9_tellVote_17 : decode cX9_tellVote 17 = .ok (.iaload, 1) := by decide +kernel
theorem dX9_tellVote_18 : decode cX9_tellVote 18 = .ok (.istore 5, 2) := by decide +kernel
theorem dX9_tellVote_20 : decode cX9_tellVote 20 = .ok (.aload_n 0, 1) := by decide +kernel
theorem dX9_tellVote_21 : decode cX9_tellVote 21 = .ok (.getfield 51, 3) := by decide +kernel
theorem dX9_tellVote_24 : decode cX9_tellVote 24 = .ok (.iconst 0, 1) := by decide +kernel
theorem dX9_tellVote_25 : decode cX9_tellVote 25 = .ok (.iload_n 1, 1) := by decide +kernel
theorem dX9_tellVote_26 : decode cX9_tellVote 26 = .ok (.iload_n 2, 1) := by decide +kernel
theorem dX9_tellVote_27 : decode cX9_tellVote 27 = .ok (.iload 5, 2) := by decide +kernel
theorem dX9_tellVote_29 : decode cX9_tellVote 29 = .ok (.invokevirtual 235, 3) := by decide +kernel
theorem dX9_tellVote_32 : decode cX9_tellVote 32 = .ok (.aload 4, 2) := by decide +kernel
theorem dX9_tellVote_34 : decode cX9_tellVote 34 = .ok (.iload_n 2, 1) := by decide +kernel
theorem dX9_tellVote_35 : decode cX9_tellVote 35 = .ok (.iload_n 3, 1) := by decide +kernel
theorem dX9_tellVote_36 : decode cX9_tellVote 36 = .ok (.iastore, 1) := by decide +kernel
theorem dX9_tellVote_37 : decode cX9_tellVote 37 = .ok (.iload 5, 2) := by decide +kernel
theorem dX9_tellVote_39 : decode cX9_tellVote 39 = .ok (.ireturn, 1) := by decide +kernel
theorem dX9_everyJudge_0 : decode cX9_everyJudge 0 = .ok (.aload_n 0, 1) := by decide +kernel
theorem dX9_everyJudge_1 : decode cX9_everyJudge 1 = .ok (.getfield 23, 3) := by decide +kernel
theorem dX9_everyJudge_4 : decode cX9_everyJudge 4 = .ok (.invokevirtual 374, 3) := by decide +kernel
theorem dX9_everyJudge_7 : decode cX9_everyJudge 7 = .ok (.ireturn, 1) := by decide +kernel
theorem dX9_tallied_0 : decode cX9_tallied 0 = .ok (.aload_n 0, 1) := by decide +kernel
theorem dX9_tallied_1 : decode cX9_tallied 1 = .ok (.getfield 44, 3) := by decide +kernel
theorem dX9_tallied_4 : decode cX9_tallied 4 = .ok (.getfield 336, 3) := by decide +kernel
theorem dX9_tallied_7 : decode cX9_tallied 7 = .ok (.iload_n 1, 1) := by decide +kernel
theorem dX9_tallied_8 : decode cX9_tallied 8 = .ok (.aaload, 1) := by decide +kernel
theorem dX9_tallied_9 : decode cX9_tallied 9 = .ok (.astore_n 2, 1) := by decide +kernel
theorem dX9_tallied_10 : decode cX9_tallied 10 = .ok (.aload_n 2, 1) := by decide +kernel
theorem dX9_tallied_11 : decode cX9_tallied 11 = .ok (.aload_n 0, 1) := by decide +kernel
theorem dX9_tallied_12 : decode cX9_tallied 12 = .ok (.getfield 23, 3) := by decide +kernel
theorem dX9_tallied_15 : decode cX9_tallied 15 = .ok (.iload_n 1, 1) := by decide +kernel
theorem dX9_tallied_16 : decode cX9_tallied 16 = .ok (.sipush 600, 3) := by decide +kernel
theorem dX9_tallied_19 : decode cX9_tallied 19 = .ok (.bipush 7, 2) := by decide +kernel
theorem dX9_tallied_21 : decode cX9_tallied 21 = .ok (.invokevirtual 340, 3) := by decide +kernel
theorem dX9_tallied_24 : decode cX9_tallied 24 = .ok (.aload_n 2, 1) := by decide +kernel
theorem dX9_tallied_25 : decode cX9_tallied 25 = .ok (.areturn, 1) := by decide +kernel
theorem dX9_totalBy_0 : decode cX9_totalBy 0 = .ok (.aload_n 0, 1) := by decide +kernel
theorem dX9_totalBy_1 : decode cX9_totalBy 1 = .ok (.iload_n 1, 1) := by decide +kernel
theorem dX9_totalBy_2 : decode cX9_totalBy 2 = .ok (.invokevirtual 121, 3) := by decide +kernel
theorem dX9_totalBy_5 : decode cX9_totalBy 5 = .ok (.astore_n 3, 1) := by decide +kernel
theorem dX9_totalBy_6 : decode cX9_totalBy 6 = .ok (.aload_n 3, 1) := by decide +kernel
theorem dX9_totalBy_7 : decode cX9_totalBy 7 = .ok (.iload_n 2, 1) := by decide +kernel
theorem dX9_totalBy_8 : decode cX9_totalBy 8 = .ok (.invokevirtual 375, 3) := by decide +kernel
theorem dX9_totalBy_11 : decode cX9_totalBy 11 = .ok (.aload_n 3, 1) := by decide +kernel
theorem dX9_totalBy_12 : decode cX9_totalBy 12 = .ok (.getfield 199, 3) := by decide +kernel
theorem dX9_totalBy_15 : decode cX9_totalBy 15 = .ok (.ireturn, 1) := by decide +kernel
theorem dX9_judgeOutside_0 : decode cX9_judgeOutside 0 = .ok (.iconst 0, 1) := by decide +kernel
theorem dX9_judgeOutside_1 : decode cX9_judgeOutside 1 = .ok (.istore_n 3, 1) := by decide +kernel
theorem dX9_judgeOutside_2 : decode cX9_judgeOutside 2 = .ok (.iconst 0, 1) := by decide +kernel
theorem dX9_judgeOutside_3 : decode cX9_judgeOutside 3 = .ok (.istore 4, 2) := by decide +kernel
theorem dX9_judgeOutside_5 : decode cX9_judgeOutside 5 = .ok (.iload 4, 2) := by decide +kernel
theorem dX9_judgeOutside_7 : decode cX9_judgeOutside 7 = .ok (.aload_n 0, 1) := by decide +kernel
theorem dX9_judgeOutside_8 : decode cX9_judgeOutside 8 = .ok (.getfield 23, 3) := by decide +kernel
theorem dX9_judgeOutside_11 : decode cX9_judgeOutside 11 = .ok (.getfield 295, 3) := by decide +kernel
theorem dX9_judgeOutside_14 : decode cX9_judgeOutside 14 = .ok (.if_icmp .ge 29, 3) := by decide +kernel
theorem dX9_judgeOutside_17 : decode cX9_judgeOutside 17 = .ok (.iload_n 1, 1) := by decide +kernel
theorem dX9_judgeOutside_18 : decode cX9_judgeOutside 18 = .ok (.iload 4, 2) := by decide +kernel
theorem dX9_judgeOutside_20 : decode cX9_judgeOutside 20 = .ok (.ishr, 1) := by decide +kernel
theorem dX9_judgeOutside_21 : decode cX9_judgeOutside 21 = .ok (.iconst 1, 1) := by decide +kernel
theorem dX9_judgeOutside_22 : decode cX9_judgeOutside 22 = .ok (.iand, 1) := by decide +kernel
theorem dX9_judgeOutside_23 : decode cX9_judgeOutside 23 = .ok (.ifCond .ne 14, 3) := by decide +kernel
theorem dX9_judgeOutside_26 : decode cX9_judgeOutside 26 = .ok (.iload_n 3, 1) := by decide +kernel
theorem dX9_judgeOutside_27 : decode cX9_judgeOutside 27 = .ok (.iload_n 2, 1) := by decide +kernel
theorem dX9_judgeOutside_28 : decode cX9_judgeOutside 28 = .ok (.if_icmp .ne 6, 3) := by decide +kernel
theorem dX9_judgeOutside_31 : decode cX9_judgeOutside 31 = .ok (.iload 4, 2) := by decide +kernel
theorem dX9_judgeOutside_33 : decode cX9_judgeOutside 33 = .ok (.ireturn, 1) := by decide +kernel
theorem dX9_judgeOutside_34 : decode cX9_judgeOutside 34 = .ok (.iinc 3 1, 3) := by decide +kernel
theorem dX9_judgeOutside_37 : decode cX9_judgeOutside 37 = .ok (.iinc 4 1, 3) := by decide +kernel
theorem dX9_judgeOutside_40 : decode cX9_judgeOutside 40 = .ok (.goto (-35), 3) := by decide +kernel
theorem dX9_judgeOutside_43 : decode cX9_judgeOutside 43 = .ok (.iconst 0, 1) := by decide +kernel
theorem dX9_judgeOutside_44 : decode cX9_judgeOutside 44 = .ok (.ireturn, 1) := by decide +kernel
theorem dX10_thrown_0 : decode cX10_thrown 0 = .ok (.aload_n 0, 1) := by decide +kernel
theorem dX10_thrown_1 : decode cX10_thrown 1 = .ok (.getfield 3, 3) := by decide +kernel
theorem dX10_thrown_4 : decode cX10_thrown 4 = .ok (.ireturn, 1) := by decide +kernel
theorem dX10_throwsIf_0 : decode cX10_throwsIf 0 = .ok (.iload_n 1, 1) := by decide +kernel
theorem dX10_throwsIf_1 : decode cX10_throwsIf 1 = .ok (.ifCond .eq 8, 3) := by decide +kernel
theorem dX10_throwsIf_4 : decode cX10_throwsIf 4 = .ok (.aload_n 0, 1) := by decide +kernel
theorem dX10_throwsIf_5 : decode cX10_throwsIf 5 = .ok (.iload_n 2, 1) := by decide +kernel
theorem dX10_throwsIf_6 : decode cX10_throwsIf 6 = .ok (.putfield 3, 3) := by decide +kernel
theorem dX10_throwsIf_9 : decode cX10_throwsIf 9 = .ok (.iload_n 1, 1) := by decide +kernel
theorem dX10_throwsIf_10 : decode cX10_throwsIf 10 = .ok (.ireturn, 1) := by decide +kernel
theorem dX10_in_0 : decode cX10_in 0 = .ok (.iload_n 0, 1) := by decide +kernel
theorem dX10_in_1 : decode cX10_in 1 = .ok (.iload_n 1, 1) := by decide +kernel
theorem dX10_in_2 : decode cX10_in 2 = .ok (.if_icmp .lt 12, 3) := by decide +kernel
theorem dX10_in_5 : decode cX10_in 5 = .ok (.iload_n 0, 1) := by decide +kernel
theorem dX10_in_6 : decode cX10_in 6 = .ok (.iload_n 2, 1) := by decide +kernel
theorem dX10_in_7 : decode cX10_in 7 = .ok (.if_icmp .gt 7, 3) := by decide +kernel
theorem dX10_in_10 : decode cX10_in 10 = .ok (.iconst 1, 1) := by decide +kernel
theorem dX10_in_11 : decode cX10_in 11 = .ok (.goto 4, 3) := by decide +kernel
theorem dX10_in_14 : decode cX10_in 14 = .ok (.iconst 0, 1) := by decide +kernel
theorem dX10_in_15 : decode cX10_in 15 = .ok (.ireturn, 1) := by decide +kernel
theorem dX10_isIn_0 : decode cX10_isIn 0 = .ok (.iload_n 0, 1) := by decide +kernel
theorem dX10_isIn_1 : decode cX10_isIn 1 = .ok (.iload_n 1, 1) := by decide +kernel
theorem dX10_isIn_2 : decode cX10_isIn 2 = .ok (.ishr, 1) := by decide +kernel
theorem dX10_isIn_3 : decode cX10_isIn 3 = .ok (.iconst 1, 1) := by decide +kernel
theorem dX10_isIn_4 : decode cX10_isIn 4 = .ok (.iand, 1) := by decide +kernel
theorem dX10_isIn_5 : decode cX10_isIn 5 = .ok (.iconst 1, 1) := by decide +kernel
theorem dX10_isIn_6 : decode cX10_isIn 6 = .ok (.if_icmp .ne 7, 3) := by decide +kernel
theorem dX10_isIn_9 : decode cX10_isIn 9 = .ok (.iconst 1, 1) := by decide +kernel
theorem dX10_isIn_10 : decode cX10_isIn 10 = .ok (.goto 4, 3) := by decide +kernel
theorem dX10_isIn_13 : decode cX10_isIn 13 = .ok (.iconst 0, 1) := by decide +kernel
theorem dX10_isIn_14 : decode cX10_isIn 14 = .ok (.ireturn, 1) := by decide +kernel
theorem dX10_bits_0 : decode cX10_bits 0 = .ok (.iconst 0, 1) := by decide +kernel
theorem dX10_bits_1 : decode cX10_bits 1 = .ok (.istore_n 1, 1) := by decide +kernel
theorem dX10_bits_2 : decode cX10_bits 2 = .ok (.iconst 0, 1) := by decide +kernel
theorem dX10_bits_3 : decode cX10_bits 3 = .ok (.istore_n 2, 1) := by decide +kernel
theorem dX10_bits_4 : decode cX10_bits 4 = .ok (.iload_n 2, 1) := by decide +kernel
theorem dX10_bits_5 : decode cX10_bits 5 = .ok (.bipush 12, 2) := by decide +kernel
theorem dX10_bits_7 : decode cX10_bits 7 = .ok (.if_icmp .ge 17, 3) := by decide +kernel
theorem dX10_bits_10 : decode cX10_bits 10 = .ok (.iload_n 1, 1) := by decide +kernel
theorem dX10_bits_11 : decode cX10_bits 11 = .ok (.iload_n 0, 1) := by decide +kernel
theorem dX10_bits_12 : decode cX10_bits 12 = .ok (.iload_n 2, 1) := by decide +kernel
theorem dX10_bits_13 : decode cX10_bits 13 = .ok (.ishr, 1) := by decide +kernel
theorem dX10_bits_14 : decode cX10_bits 14 = .ok (.iconst 1, 1) := by decide +kernel
theorem dX10_bits_15 : decode cX10_bits 15 = .ok (.iand, 1) := by decide +kernel
theorem dX10_bits_16 : decode cX10_bits 16 = .ok (.iadd, 1) := by decide +kernel
theorem dX10_bits_17 : decode cX10_bits 17 = .ok (.istore_n 1, 1) := by decide +kernel
theorem dX10_bits_18 : decode cX10_bits 18 = .ok (.iinc 2 1, 3) := by decide +kernel
theorem dX10_bits_21 : decode cX10_bits 21 = .ok (.goto (-17), 3) := by decide +kernel
theorem dX10_bits_24 : decode cX10_bits 24 = .ok (.iload_n 1, 1) := by decide +kernel
theorem dX10_bits_25 : decode cX10_bits 25 = .ok (.ireturn, 1) := by decide +kernel
theorem dX10_feed_0 : decode cX10_feed 0 = .ok (.aload_n 0, 1) := by decide +kernel
theorem dX10_feed_1 : decode cX10_feed 1 = .ok (.iconst 0, 1) := by decide +kernel
theorem dX10_feed_2 : decode cX10_feed 2 = .ok (.putfield 3, 3) := by decide +kernel
theorem dX10_feed_5 : decode cX10_feed 5 = .ok (.aload_n 0, 1) := by decide +kernel
theorem dX10_feed_6 : decode cX10_feed 6 = .ok (.getfield 7, 3) := by decide +kernel
theorem dX10_feed_9 : decode cX10_feed 9 = .ok (.bipush 20, 2) := by decide +kernel
theorem dX10_feed_11 : decode cX10_feed 11 = .ok (.iadd, 1) := by decide +kernel
theorem dX10_feed_12 : decode cX10_feed 12 = .ok (.sipush 600, 3) := by decide +kernel
theorem dX10_feed_15 : decode cX10_feed 15 = .ok (.if_icmp .le 5, 3) := by decide +kernel
theorem dX10_feed_18 : decode cX10_feed 18 = .ok (.iconst (-1), 1) := by decide +kernel
theorem dX10_feed_19 : decode cX10_feed 19 = .ok (.ireturn, 1) := by decide +kernel
theorem dX10_feed_20 : decode cX10_feed 20 = .ok (.aload_n 0, 1) := by decide +kernel
theorem dX10_feed_21 : decode cX10_feed 21 = .ok (.getfield 10, 3) := by decide +kernel
theorem dX10_feed_24 : decode cX10_feed 24 = .ok (.iconst 0, 1) := by decide +kernel
theorem dX10_feed_25 : decode cX10_feed 25 = .ok (.iload_n 1, 1) := by decide +kernel
theorem dX10_feed_26 : decode cX10_feed 26 = .ok (.iastore, 1) := by decide +kernel
theorem dX10_feed_27 : decode cX10_feed 27 = .ok (.aload_n 0, 1) := by decide +kernel
theorem dX10_feed_28 : decode cX10_feed 28 = .ok (.getfield 10, 3) := by decide +kernel
theorem dX10_feed_31 : decode cX10_feed 31 = .ok (.iconst 1, 1) := by decide +kernel
theorem dX10_feed_32 : decode cX10_feed 32 = .ok (.iload_n 2, 1) := by decide +kernel
theorem dX10_feed_33 : decode cX10_feed 33 = .ok (.iastore, 1) := by decide +kernel
theorem dX10_feed_34 : decode cX10_feed 34 = .ok (.aload_n 0, 1) := by decide +kernel
theorem dX10_feed_35 : decode cX10_feed 35 = .ok (.getfield 10, 3) := by decide +kernel
theorem dX10_feed_38 : decode cX10_feed 38 = .ok (.iconst 2, 1) := by decide +kernel
theorem dX10_feed_39 : decode cX10_feed 39 = .ok (.iload_n 3, 1) := by decide +kernel
theorem dX10_feed_40 : decode cX10_feed 40 = .ok (.iastore, 1) := by decide +kernel
theorem dX10_feed_41 : decode cX10_feed 41 = .ok (.aload_n 0, 1) := by decide +kernel
theorem dX10_feed_42 : decode cX10_feed 42 = .ok (.getfield 10, 3) := by decide +kernel
theorem dX10_feed_45 : decode cX10_feed 45 = .ok (.iconst 3, 1) := by decide +kernel
theorem dX10_feed_46 : decode cX10_feed 46 = .ok (.iload 4, 2) := by decide +kernel
theorem dX10_feed_48 : decode cX10_feed 48 = .ok (.iastore, 1) := by decide +kernel
theorem dX10_feed_49 : decode cX10_feed 49 = .ok (.aload_n 0, 1) := by decide +kernel
theorem dX10_feed_50 : decode cX10_feed 50 = .ok (.getfield 10, 3) := by decide +kernel
theorem dX10_feed_53 : decode cX10_feed 53 = .ok (.iconst 4, 1) := by decide +kernel
theorem dX10_feed_54 : decode cX10_feed 54 = .ok (.iload 5, 2) := by decide +kernel
theorem dX10_feed_56 : decode cX10_feed 56 = .ok (.iastore, 1) := by decide +kernel
theorem dX10_feed_57 : decode cX10_feed 57 = .ok (.iconst 0, 1) := by decide +kernel
theorem dX10_feed_58 : decode cX10_feed 58 = .ok (.istore 6, 2) := by decide +kernel
theorem dX10_feed_60 : decode cX10_feed 60 = .ok (.iload 6, 2) := by decide +kernel
theorem dX10_feed_62 : decode cX10_feed 62 = .ok (.bipush 20, 2) := by decide +kernel
theorem dX10_feed_64 : decode cX10_feed 64 = .ok (.if_icmp .ge 42, 3) := by decide +kernel
theorem dX10_feed_67 : decode cX10_feed 67 = .ok (.aload_n 0, 1) := by decide +kernel
theorem dX10_feed_68 : decode cX10_feed 68 = .ok (.getfield 14, 3) := by decide +kernel
theorem dX10_feed_71 : decode cX10_feed 71 = .ok (.aload_n 0, 1) := by decide +kernel
theorem dX10_feed_72 : decode cX10_feed 72 = .ok (.getfield 7, 3) := by decide +kernel
theorem dX10_feed_75 : decode cX10_feed 75 = .ok (.iload 6, 2) := by decide +kernel
theorem dX10_feed_77 : decode cX10_feed 77 = .ok (.iadd, 1) := by decide +kernel
theorem dX10_feed_78 : decode cX10_feed 78 = .ok (.aload_n 0, 1) := by decide +kernel
theorem dX10_feed_79 : decode cX10_feed 79 = .ok (.getfield 10, 3) := by decide +kernel
theorem dX10_feed_82 : decode cX10_feed 82 = .ok (.iload 6, 2) := by decide +kernel
theorem dX10_feed_84 : decode cX10_feed 84 = .ok (.iconst 4, 1) := by decide +kernel
theorem dX10_feed_85 : decode cX10_feed 85 = .ok (.idiv, 1) := by decide +kernel
theorem dX10_feed_86 : decode cX10_feed 86 = .ok (.iaload, 1) := by decide +kernel
theorem dX10_feed_87 : decode cX10_feed 87 = .ok (.bipush 24, 2) := by decide +kernel
theorem dX10_feed_89 : decode cX10_feed 89 = .ok (.bipush 8, 2) := by decide +kernel
theorem dX10_feed_91 : decode cX10_feed 91 = .ok (.iload 6, 2) := by decide +kernel
theorem dX10_feed_93 : decode cX10_feed 93 = .ok (.iconst 4, 1) := by decide +kernel
theorem dX10_feed_94 : decode cX10_feed 94 = .ok (.irem, 1) := by decide +kernel
theorem dX10_feed_95 : decode cX10_feed 95 = .ok (.imul, 1) := by decide +kernel
theorem dX10_feed_96 : decode cX10_feed 96 = .ok (.isub, 1) := by decide +kernel
theorem dX10_feed_97 : decode cX10_feed 97 = .ok (.ishr, 1) := by decide +kernel
theorem dX10_feed_98 : decode cX10_feed 98 = .ok (.i2b, 1) := by decide +kernel
theorem dX10_feed_99 : decode cX10_feed 99 = .ok (.bastore, 1) := by decide +kernel
theorem dX10_feed_100 : decode cX10_feed 100 = .ok (.iinc 6 1, 3) := by decide +kernel
theorem dX10_feed_103 : decode cX10_feed 103 = .ok (.goto (-43), 3) := by decide +kernel
theorem dX10_feed_106 : decode cX10_feed 106 = .ok (.aload_n 0, 1) := by decide +kernel
theorem dX10_feed_107 : decode cX10_feed 107 = .ok (.dup, 1) := by decide +kernel
theorem dX10_feed_108 : decode cX10_feed 108 = .ok (.getfield 7, 3) := by decide +kernel
theorem dX10_feed_111 : decode cX10_feed 111 = .ok (.bipush 20, 2) := by decide +kernel
theorem dX10_feed_113 : decode cX10_feed 113 = .ok (.iadd, 1) := by decide +kernel
theorem dX10_feed_114 : decode cX10_feed 114 = .ok (.putfield 7, 3) := by decide +kernel
theorem dX10_feed_117 : decode cX10_feed 117 = .ok (.aload_n 0, 1) := by decide +kernel
theorem dX10_feed_118 : decode cX10_feed 118 = .ok (.getfield 7, 3) := by decide +kernel
theorem dX10_feed_121 : decode cX10_feed 121 = .ok (.ireturn, 1) := by decide +kernel
theorem dX10_end_0 : decode cX10_end 0 = .ok (.aload_n 0, 1) := by decide +kernel
theorem dX10_end_1 : decode cX10_end 1 = .ok (.iconst 0, 1) := by decide +kernel
theorem dX10_end_2 : decode cX10_end 2 = .ok (.putfield 3, 3) := by decide +kernel
theorem dX10_end_5 : decode cX10_end 5 = .ok (.iload_n 1, 1) := by decide +kernel
theorem dX10_end_6 : decode cX10_end 6 = .ok (.ifCond .lt 11, 3) := by decide +kernel
theorem dX10_end_9 : decode cX10_end 9 = .ok (.iload_n 1, 1) := by decide +kernel
theorem dX10_end_10 : decode cX10_end 10 = .ok (.aload_n 0, 1) := by decide +kernel
theorem dX10_end_11 : decode cX10_end 11 = .ok (.getfield 7, 3) := by decide +kernel
theorem dX10_end_14 : decode cX10_end 14 = .ok (.if_icmp .le 5, 3) := by decide +kernel
theorem dX10_end_17 : decode cX10_end 17 = .ok (.iconst 0, 1) := by decide +kernel
theorem dX10_end_18 : decode cX10_end 18 = .ok (.ireturn, 1) := by decide +kernel
theorem dX10_end_19 : decode cX10_end 19 = .ok (.aload_n 0, 1) := by decide +kernel
theorem dX10_end_20 : decode cX10_end 20 = .ok (.iload_n 1, 1) := by decide +kernel
theorem dX10_end_21 : decode cX10_end 21 = .ok (.putfield 7, 3) := by decide +kernel
theorem dX10_end_24 : decode cX10_end 24 = .ok (.iconst 1, 1) := by decide +kernel
theorem dX10_end_25 : decode cX10_end 25 = .ok (.ireturn, 1) := by decide +kernel
theorem dX10_hasFailed_0 : decode cX10_hasFailed 0 = .ok (.aload_n 0, 1) := by decide +kernel
theorem dX10_hasFailed_1 : decode cX10_hasFailed 1 = .ok (.getfield 18, 3) := by decide +kernel
theorem dX10_hasFailed_4 : decode cX10_hasFailed 4 = .ok (.iconst (-1), 1) := by decide +kernel
theorem dX10_hasFailed_5 : decode cX10_hasFailed 5 = .ok (.if_icmp .eq 7, 3) := by decide +kernel
theorem dX10_hasFailed_8 : decode cX10_hasFailed 8 = .ok (.iconst 1, 1) := by decide +kernel
theorem dX10_hasFailed_9 : decode cX10_hasFailed 9 = .ok (.goto 4, 3) := by decide +kernel
theorem dX10_hasFailed_12 : decode cX10_hasFailed 12 = .ok (.iconst 0, 1) := by decide +kernel
theorem dX10_hasFailed_13 : decode cX10_hasFailed 13 = .ok (.ireturn, 1) := by decide +kernel
theorem dX10_isAt_0 : decode cX10_isAt 0 = .ok (.aload_n 0, 1) := by decide +kernel
theorem dX10_isAt_1 : decode cX10_isAt 1 = .ok (.getfield 21, 3) := by decide +kernel
theorem dX10_isAt_4 : decode cX10_isAt 4 = .ok (.aload_n 0, 1) := by decide +kernel
theorem dX10_isAt_5 : decode cX10_isAt 5 = .ok (.getfield 24, 3) := by decide +kernel
theorem dX10_isAt_8 : decode cX10_isAt 8 = .ok (.if_icmp .ge 33, 3) := by decide +kernel
theorem dX10_isAt_11 : decode cX10_isAt 11 = .ok (.aload_n 0, 1) := by decide +kernel
theorem dX10_isAt_12 : decode cX10_isAt 12 = .ok (.getfield 14, 3) := by decide +kernel
theorem dX10_isAt_15 : decode cX10_isAt 15 = .ok (.aload_n 0, 1) := by decide +kernel
theorem dX10_isAt_16 : decode cX10_isAt 16 = .ok (.getfield 21, 3) := by decide +kernel
theorem dX10_isAt_19 : decode cX10_isAt 19 = .ok (.baload, 1) := by decide +kernel
theorem dX10_isAt_20 : decode cX10_isAt 20 = .ok (.iload_n 1, 1) := by decide +kernel
theorem dX10_isAt_21 : decode cX10_isAt 21 = .ok (.if_icmp .lt 20, 3) := by decide +kernel
theorem dX10_isAt_24 : decode cX10_isAt 24 = .ok (.aload_n 0, 1) := by decide +kernel
theorem dX10_isAt_25 : decode cX10_isAt 25 = .ok (.getfield 14, 3) := by decide +kernel
theorem dX10_isAt_28 : decode cX10_isAt 28 = .ok (.aload_n 0, 1) := by decide +kernel
theorem dX10_isAt_29 : decode cX10_isAt 29 = .ok (.getfield 21, 3) := by decide +kernel
theorem dX10_isAt_32 : decode cX10_isAt 32 = .ok (.baload, 1) := by decide +kernel
theorem dX10_isAt_33 : decode cX10_isAt 33 = .ok (.iload_n 2, 1) := by decide +kernel
theorem dX10_isAt_34 : decode cX10_isAt 34 = .ok (.if_icmp .gt 7, 3) := by decide +kernel
theorem dX10_isAt_37 : decode cX10_isAt 37 = .ok (.iconst 1, 1) := by decide +kernel
theorem dX10_isAt_38 : decode cX10_isAt 38 = .ok (.goto 4, 3) := by decide +kernel
theorem dX10_isAt_41 : decode cX10_isAt 41 = .ok (.iconst 0, 1) := by decide +kernel
theorem dX10_isAt_42 : decode cX10_isAt 42 = .ok (.ireturn, 1) := by decide +kernel
theorem dX10_blanks_0 : decode cX10_blanks 0 = .ok (.aload_n 0, 1) := by decide +kernel
theorem dX10_blanks_1 : decode cX10_blanks 1 = .ok (.bipush 9, 2) := by decide +kernel
theorem dX10_blanks_3 : decode cX10_blanks 3 = .ok (.bipush 10, 2) := by decide +kernel
theorem dX10_blanks_5 : decode cX10_blanks 5 = .ok (.invokevirtual 27, 3) := by decide +kernel
theorem dX10_blanks_8 : decode cX10_blanks 8 = .ok (.ifCond .ne 14, 3) := by decide +kernel
theorem dX10_blanks_11 : decode cX10_blanks 11 = .ok (.aload_n 0, 1) := by decide +kernel
theorem dX10_blanks_12 : decode cX10_blanks 12 = .ok (.bipush 32, 2) := by decide +kernel
theorem dX10_blanks_14 : decode cX10_blanks 14 = .ok (.bipush 32, 2) := by decide +kernel
theorem dX10_blanks_16 : decode cX10_blanks 16 = .ok (.invokevirtual 27, 3) := by decide +kernel
theorem dX10_blanks_19 : decode cX10_blanks 19 = .ok (.ifCond .eq 16, 3) := by decide +kernel
theorem dX10_blanks_22 : decode cX10_blanks 22 = .ok (.aload_n 0, 1) := by decide +kernel
theorem dX10_blanks_23 : decode cX10_blanks 23 = .ok (.dup, 1) := by decide +kernel
theorem dX10_blanks_24 : decode cX10_blanks 24 = .ok (.getfield 21, 3) := by decide +kernel
theorem dX10_blanks_27 : decode cX10_blanks 27 = .ok (.iconst 1, 1) := by decide +kernel
theorem dX10_blanks_28 : decode cX10_blanks 28 = .ok (.iadd, 1) := by decide +kernel
theorem dX10_blanks_29 : decode cX10_blanks 29 = .ok (.putfield 21, 3) := by decide +kernel
theorem dX10_blanks_32 : decode cX10_blanks 32 = .ok (.goto (-32), 3) := by decide +kernel
theorem dX10_blanks_35 : decode cX10_blanks 35 = .ok (.aload_n 0, 1) := by decide +kernel
theorem dX10_blanks_36 : decode cX10_blanks 36 = .ok (.aload_n 0, 1) := by decide +kernel
theorem dX10_blanks_37 : decode cX10_blanks 37 = .ok (.getfield 21, 3) := by decide +kernel
theorem dX10_blanks_40 : decode cX10_blanks 40 = .ok (.putfield 31, 3) := by decide +kernel
theorem dX10_blanks_43 : decode cX10_blanks 43 = .ok (.return_, 1) := by decide +kernel
theorem dX10_fails_0 : decode cX10_fails 0 = .ok (.aload_n 0, 1) := by decide +kernel
theorem dX10_fails_1 : decode cX10_fails 1 = .ok (.getfield 18, 3) := by decide +kernel
theorem dX10_fails_4 : decode cX10_fails 4 = .ok (.iconst (-1), 1) := by decide +kernel
theorem dX10_fails_5 : decode cX10_fails 5 = .ok (.if_icmp .ne 11, 3) := by decide +kernel
theorem dX10_fails_8 : decode cX10_fails 8 = .ok (.aload_n 0, 1) := by decide +kernel
theorem dX10_fails_9 : decode cX10_fails 9 = .ok (.aload_n 0, 1) := by decide +kernel
theorem dX10_fails_10 : decode cX10_fails 10 = .ok (.getfield 31, 3) := by decide +kernel
theorem dX10_fails_13 : decode cX10_fails 13 = .ok (.putfield 18, 3) := by decide +kernel
theorem dX10_fails_16 : decode cX10_fails 16 = .ok (.return_, 1) := by decide +kernel
theorem dX10_isSign_0 : decode cX10_isSign 0 = .ok (.aload_n 0, 1) := by decide +kernel
theorem dX10_isSign_1 : decode cX10_isSign 1 = .ok (.invokevirtual 34, 3) := by decide +kernel
theorem dX10_isSign_4 : decode cX10_isSign 4 = .ok (.aload_n 0, 1) := by decide +kernel
theorem dX10_isSign_5 : decode cX10_isSign 5 = .ok (.invokevirtual 38, 3) := by decide +kernel
theorem dX10_isSign_8 : decode cX10_isSign 8 = .ok (.ifCond .ne 16, 3) := by decide +kernel
theorem dX10_isSign_11 : decode cX10_isSign 11 = .ok (.aload_n 0, 1) := by decide +kernel
theorem dX10_isSign_12 : decode cX10_isSign 12 = .ok (.iload_n 1, 1) := by decide +kernel
theorem dX10_isSign_13 : decode cX10_isSign 13 = .ok (.iload_n 1, 1) := by decide +kernel
theorem dX10_isSign_14 : decode cX10_isSign 14 = .ok (.invokevirtual 27, 3) := by decide +kernel
theorem dX10_isSign_17 : decode cX10_isSign 17 = .ok (.ifCond .eq 7, 3) := by decide +kernel
theorem dX10_isSign_20 : decode cX10_isSign 20 = .ok (.iconst 1, 1) := by decide +kernel
theorem dX10_isSign_21 : decode cX10_isSign 21 = .ok (.goto 4, 3) := by decide +kernel
theorem dX10_isSign_24 : decode cX10_isSign 24 = .ok (.iconst 0, 1) := by decide +kernel
theorem dX10_isSign_25 : decode cX10_isSign 25 = .ok (.ireturn, 1) := by decide +kernel
theorem dX10_takes_0 : decode cX10_takes 0 = .ok (.aload_n 0, 1) := by decide +kernel
theorem dX10_takes_1 : decode cX10_takes 1 = .ok (.iload_n 1, 1) := by decide +kernel
theorem dX10_takes_2 : decode cX10_takes 2 = .ok (.invokevirtual 42, 3) := by decide +kernel
theorem dX10_takes_5 : decode cX10_takes 5 = .ok (.istore_n 2, 1) := by decide +kernel
theorem dX10_takes_6 : decode cX10_takes 6 = .ok (.iload_n 2, 1) := by decide +kernel
theorem dX10_takes_7 : decode cX10_takes 7 = .ok (.ifCond .eq 13, 3) := by decide +kernel
theorem dX10_takes_10 : decode cX10_takes 10 = .ok (.aload_n 0, 1) := by decide +kernel
theorem dX10_takes_11 : decode cX10_takes 11 = .ok (.dup, 1) := by decide +kernel
theorem dX10_takes_12 : decode cX10_takes 12 = .ok (.getfield 21, 3) := by decide +kernel
theorem dX10_takes_15 : decode cX10_takes 15 = .ok (.iconst 1, 1) := by decide +kernel
theorem dX10_takes_16 : decode cX10_takes 16 = .ok (.iadd, 1) := by decide +kernel
theorem dX10_takes_17 : decode cX10_takes 17 = .ok (.putfield 21, 3) := by decide +kernel
theorem dX10_takes_20 : decode cX10_takes 20 = .ok (.iload_n 2, 1) := by decide +kernel
theorem dX10_takes_21 : decode cX10_takes 21 = .ok (.ireturn, 1) := by decide +kernel
theorem dX10_asksSign_0 : decode cX10_asksSign 0 = .ok (.aload_n 0, 1) := by decide +kernel
theorem dX10_asksSign_1 : decode cX10_asksSign 1 = .ok (.iload_n 1, 1) := by decide +kernel
theorem dX10_asksSign_2 : decode cX10_asksSign 2 = .ok (.invokevirtual 46, 3) := by decide +kernel
theorem dX10_asksSign_5 : decode cX10_asksSign 5 = .ok (.ifCond .ne 7, 3) := by decide +kernel
theorem dX10_asksSign_8 : decode cX10_asksSign 8 = .ok (.aload_n 0, 1) := by decide +kernel
theorem dX10_asksSign_9 : decode cX10_asksSign 9 = .ok (.invokevirtual 49, 3) := by decide +kernel
theorem dX10_asksSign_12 : decode cX10_asksSign 12 = .ok (.return_, 1) := by decide +kernel
theorem dX10_wordMany_0 : decode cX10_wordMany 0 = .ok (.aload_n 0, 1) := by decide +kernel
theorem dX10_wordMany_1 : decode cX10_wordMany 1 = .ok (.invokevirtual 34, 3) := by decide +kernel
theorem dX10_wordMany_4 : decode cX10_wordMany 4 = .ok (.aload_n 0, 1) := by decide +kernel
theorem dX10_wordMany_5 : decode cX10_wordMany 5 = .ok (.getfield 21, 3) := by decide +kernel
theorem dX10_wordMany_8 : decode cX10_wordMany 8 = .ok (.istore_n 1, 1) := by decide +kernel
theorem dX10_wordMany_9 : decode cX10_wordMany 9 = .ok (.iload_n 1, 1) := by decide +kernel
theorem dX10_wordMany_10 : decode cX10_wordMany 10 = .ok (.aload_n 0, 1) := by decide +kernel
theorem dX10_wordMany_11 : decode cX10_wordMany 11 = .ok (.getfield 24, 3) := by decide +kernel
theorem dX10_wordMany_14 : decode cX10_wordMany 14 = .ok (.if_icmp .ge 31, 3) := by decide +kernel
theorem dX10_wordMany_17 : decode cX10_wordMany 17 = .ok (.aload_n 0, 1) := by decide +kernel
theorem dX10_wordMany_18 : decode cX10_wordMany 18 = .ok (.getfield 14, 3) := by decide +kernel
theorem dX10_wordMany_21 : decode cX10_wordMany 21 = .ok (.iload_n 1, 1) := by decide +kernel
theorem dX10_wordMany_22 : decode cX10_wordMany 22 = .ok (.baload, 1) := by decide +kernel
theorem dX10_wordMany_23 : decode cX10_wordMany 23 = .ok (.bipush 97, 2) := by decide +kernel
theorem dX10_wordMany_25 : decode cX10_wordMany 25 = .ok (.if_icmp .lt 20, 3) := by decide +kernel
theorem dX10_wordMany_28 : decode cX10_wordMany 28 = .ok (.aload_n 0, 1) := by decide +kernel
theorem dX10_wordMany_29 : decode cX10_wordMany 29 = .ok (.getfield 14, 3) := by decide +kernel
theorem dX10_wordMany_32 : decode cX10_wordMany 32 = .ok (.iload_n 1, 1) := by decide +kernel
theorem dX10_wordMany_33 : decode cX10_wordMany 33 = .ok (.baload, 1) := by decide +kernel
theorem dX10_wordMany_34 : decode cX10_wordMany 34 = .ok (.bipush 122, 2) := by decide +kernel
theorem dX10_wordMany_36 : decode cX10_wordMany 36 = .ok (.if_icmp .gt 9, 3) := by decide +kernel
theorem dX10_wordMany_39 : decode cX10_wordMany 39 = .ok (.iinc 1 1, 3) := by decide +kernel
theorem dX10_wordMany_42 : decode cX10_wordMany 42 = .ok (.goto (-33), 3) := by decide +kernel
theorem dX10_wordMany_45 : decode cX10_wordMany 45 = .ok (.iload_n 1, 1) := by decide +kernel
theorem dX10_wordMany_46 : decode cX10_wordMany 46 = .ok (.aload_n 0, 1) := by decide +kernel
theorem dX10_wordMany_47 : decode cX10_wordMany 47 = .ok (.getfield 21, 3) := by decide +kernel
theorem dX10_wordMany_50 : decode cX10_wordMany 50 = .ok (.isub, 1) := by decide +kernel
theorem dX10_wordMany_51 : decode cX10_wordMany 51 = .ok (.ireturn, 1) := by decide +kernel
theorem dX10_isWord_0 : decode cX10_isWord 0 = .ok (.aload_n 0, 1) := by decide +kernel
theorem dX10_isWord_1 : decode cX10_isWord 1 = .ok (.invokevirtual 38, 3) := by decide +kernel
theorem dX10_isWord_4 : decode cX10_isWord 4 = .ok (.ifCond .ne 18, 3) := by decide +kernel
theorem dX10_isWord_7 : decode cX10_isWord 7 = .ok (.aload_n 0, 1) := by decide +kernel
theorem dX10_isWord_8 : decode cX10_isWord 8 = .ok (.invokevirtual 52, 3) := by decide +kernel
theorem dX10_isWord_11 : decode cX10_isWord 11 = .ok (.aload_n 1, 1) := by decide +kernel
theorem dX10_isWord_12 : decode cX10_isWord 12 = .ok (.invokevirtual 56, 3) := by decide +kernel
theorem dX10_isWord_15 : decode cX10_isWord 15 = .ok (.if_icmp .ne 7, 3) := by decide +kernel
theorem dX10_isWord_18 : decode cX10_isWord 18 = .ok (.iconst 1, 1) := by decide +kernel
theorem dX10_isWord_19 : decode cX10_isWord 19 = .ok (.goto 4, 3) := by decide +kernel
theorem dX10_isWord_22 : decode cX10_isWord 22 = .ok (.iconst 0, 1) := by decide +kernel
theorem dX10_isWord_23 : decode cX10_isWord 23 = .ok (.istore_n 2, 1) := by decide +kernel
theorem dX10_isWord_24 : decode cX10_isWord 24 = .ok (.iconst 0, 1) := by decide +kernel
theorem dX10_isWord_25 : decode cX10_isWord 25 = .ok (.istore_n 3, 1) := by decide +kernel
theorem dX10_isWord_26 : decode cX10_isWord 26 = .ok (.iload_n 2, 1) := by decide +kernel
theorem dX10_isWord_27 : decode cX10_isWord 27 = .ok (.ifCond .eq 42, 3) := by decide +kernel
theorem dX10_isWord_30 : decode cX10_isWord 30 = .ok (.iload_n 3, 1) := by decide +kernel
theorem dX10_isWord_31 : decode cX10_isWord 31 = .ok (.aload_n 1, 1) := by decide +kernel
theorem dX10_isWord_32 : decode cX10_isWord 32 = .ok (.invokevirtual 56, 3) := by decide +kernel
theorem dX10_isWord_35 : decode cX10_isWord 35 = .ok (.if_icmp .ge 34, 3) := by decide +kernel
theorem dX10_isWord_38 : decode cX10_isWord 38 = .ok (.aload_n 0, 1) := by decide +kernel
theorem dX10_isWord_39 : decode cX10_isWord 39 = .ok (.getfield 14, 3) := by decide +kernel
theorem dX10_isWord_42 : decode cX10_isWord 42 = .ok (.aload_n 0, 1) := by decide +kernel
theorem dX10_isWord_43 : decode cX10_isWord 43 = .ok (.getfield 21, 3) := by decide +kernel
theorem dX10_isWord_46 : decode cX10_isWord 46 = .ok (.iload_n 3, 1) := by decide +kernel
theorem dX10_isWord_47 : decode cX10_isWord 47 = .ok (.iadd, 1) := by decide +kernel
theorem dX10_isWord_48 : decode cX10_isWord 48 = .ok (.baload, 1) := by decide +kernel
theorem dX10_isWord_49 : decode cX10_isWord 49 = .ok (.aload_n 1, 1) := by decide +kernel
theorem dX10_isWord_50 : decode cX10_isWord 50 = .ok (.iload_n 3, 1) := by decide +kernel
theorem dX10_isWord_51 : decode cX10_isWord 51 = .ok (.invokevirtual 61, 3) := by decide +kernel
theorem dX10_isWord_54 : decode cX10_isWord 54 = .ok (.if_icmp .ne 7, 3) := by decide +kernel
theorem dX10_isWord_57 : decode cX10_isWord 57 = .ok (.iconst 1, 1) := by decide +kernel
theorem dX10_isWord_58 : decode cX10_isWord 58 = .ok (.goto 4, 3) := by decide +kernel
theorem dX10_isWord_61 : decode cX10_isWord 61 = .ok (.iconst 0, 1) := by decide +kernel
theorem dX10_isWord_62 : decode cX10_isWord 62 = .ok (.istore_n 2, 1) := by decide +kernel
theorem dX10_isWord_63 : decode cX10_isWord 63 = .ok (.iinc 3 1, 3) := by decide +kernel
theorem dX10_isWord_66 : decode cX10_isWord 66 = .ok (.goto (-40), 3) := by decide +kernel
theorem dX10_isWord_69 : decode cX10_isWord 69 = .ok (.iload_n 2, 1) := by decide +kernel
theorem dX10_isWord_70 : decode cX10_isWord 70 = .ok (.ireturn, 1) := by decide +kernel
theorem dX10_takesWord_0 : decode cX10_takesWord 0 = .ok (.aload_n 0, 1) := by decide +kernel
theorem dX10_takesWord_1 : decode cX10_takesWord 1 = .ok (.aload_n 1, 1) := by decide +kernel
theorem dX10_takesWord_2 : decode cX10_takesWord 2 = .ok (.invokevirtual 65, 3) := by decide +kernel
theorem dX10_takesWord_5 : decode cX10_takesWord 5 = .ok (.istore_n 2, 1) := by decide +kernel
theorem dX10_takesWord_6 : decode cX10_takesWord 6 = .ok (.iload_n 2, 1) := by decide +kernel
theorem dX10_takesWord_7 : decode cX10_takesWord 7 = .ok (.ifCond .eq 16, 3) := by decide +kernel
theorem dX10_takesWord_10 : decode cX10_takesWord 10 = .ok (.aload_n 0, 1) := by decide +kernel
theorem dX10_takesWord_11 : decode cX10_takesWord 11 = .ok (.dup, 1) := by decide +kernel
theorem dX10_takesWord_12 : decode cX10_takesWord 12 = .ok (.getfield 21, 3) := by decide +kernel
theorem dX10_takesWord_15 : decode cX10_takesWord 15 = .ok (.aload_n 1, 1) := by decide +kernel
theorem dX10_takesWord_16 : decode cX10_takesWord 16 = .ok (.invokevirtual 56, 3) := by decide +kernel
theorem dX10_takesWord_19 : decode cX10_takesWord 19 = .ok (.iadd, 1) := by decide +kernel
theorem dX10_takesWord_20 : decode cX10_takesWord 20 = .ok (.putfield 21, 3) := by decide +kernel
theorem dX10_takesWord_23 : decode cX10_takesWord 23 = .ok (.iload_n 2, 1) := by decide +kernel
theorem dX10_takesWord_24 : decode cX10_takesWord 24 = .ok (.ireturn, 1) := by decide +kernel
theorem dX10_number_0 : decode cX10_number 0 = .ok (.aload_n 0, 1) := by decide +kernel
theorem dX10_number_1 : decode cX10_number 1 = .ok (.invokevirtual 38, 3) := by decide +kernel
theorem dX10_number_4 : decode cX10_number 4 = .ok (.ifCond .eq 5, 3) := by decide +kernel
theorem dX10_number_7 : decode cX10_number 7 = .ok (.iload_n 1, 1) := by decide +kernel
theorem dX10_number_8 : decode cX10_number 8 = .ok (.ireturn, 1) := by decide +kernel
theorem dX10_number_9 : decode cX10_number 9 = .ok (.aload_n 0, 1) := by decide +kernel
theorem dX10_number_10 : decode cX10_number 10 = .ok (.invokevirtual 34, 3) := by decide +kernel
theorem dX10_number_13 : decode cX10_number 13 = .ok (.iconst 0, 1) := by decide +kernel
theorem dX10_number_14 : decode cX10_number 14 = .ok (.istore_n 3, 1) := by decide +kernel
theorem dX10_number_15 : decode cX10_number 15 = .ok (.aload_n 0, 1) := by decide +kernel
theorem dX10_number_16 : decode cX10_number 16 = .ok (.bipush 48, 2) := by decide +kernel
theorem dX10_number_18 : decode cX10_number 18 = .ok (.bipush 57, 2) := by decide +kernel
theorem dX10_number_20 : decode cX10_number 20 = .ok (.invokevirtual 27, 3) := by decide +kernel
theorem dX10_number_23 : decode cX10_number 23 = .ok (.ifCond .eq 47, 3) := by decide +kernel
theorem dX10_number_26 : decode cX10_number 26 = .ok (.aload_n 0, 1) := by decide +kernel
theorem dX10_number_27 : decode cX10_number 27 = .ok (.getfield 21, 3) := by decide +kernel
theorem dX10_number_30 : decode cX10_number 30 = .ok (.aload_n 0, 1) := by decide +kernel
theorem dX10_number_31 : decode cX10_number 31 = .ok (.getfield 31, 3) := by decide +kernel
theorem dX10_number_34 : decode cX10_number 34 = .ok (.isub, 1) := by decide +kernel
theorem dX10_number_35 : decode cX10_number 35 = .ok (.iconst 4, 1) := by decide +kernel
theorem dX10_number_36 : decode cX10_number 36 = .ok (.if_icmp .ge 21, 3) := by decide +kernel
theorem dX10_number_39 : decode cX10_number 39 = .ok (.bipush 10, 2) := by decide +kernel
theorem dX10_number_41 : decode cX10_number 41 = .ok (.iload_n 3, 1) := by decide +kernel
theorem dX10_number_42 : decode cX10_number 42 = .ok (.imul, 1) := by decide +kernel
theorem dX10_number_43 : decode cX10_number 43 = .ok (.aload_n 0, 1) := by decide +kernel
theorem dX10_number_44 : decode cX10_number 44 = .ok (.getfield 14, 3) := by decide +kernel
theorem dX10_number_47 : decode cX10_number 47 = .ok (.aload_n 0, 1) := by decide +kernel
theorem dX10_number_48 : decode cX10_number 48 = .ok (.getfield 21, 3) := by decide +kernel
theorem dX10_number_51 : decode cX10_number 51 = .ok (.baload, 1) := by decide +kernel
theorem dX10_number_52 : decode cX10_number 52 = .ok (.iadd, 1) := by decide +kernel
theorem dX10_number_53 : decode cX10_number 53 = .ok (.bipush 48, 2) := by decide +kernel
theorem dX10_number_55 : decode cX10_number 55 = .ok (.isub, 1) := by decide +kernel
theorem dX10_number_56 : decode cX10_number 56 = .ok (.istore_n 3, 1) := by decide +kernel
theorem dX10_number_57 : decode cX10_number 57 = .ok (.aload_n 0, 1) := by decide +kernel
theorem dX10_number_58 : decode cX10_number 58 = .ok (.dup, 1) := by decide +kernel
theorem dX10_number_59 : decode cX10_number 59 = .ok (.getfield 21, 3) := by decide +kernel
theorem dX10_number_62 : decode cX10_number 62 = .ok (.iconst 1, 1) := by decide +kernel
theorem dX10_number_63 : decode cX10_number 63 = .ok (.iadd, 1) := by decide +kernel
theorem dX10_number_64 : decode cX10_number 64 = .ok (.putfield 21, 3) := by decide +kernel
theorem dX10_number_67 : decode cX10_number 67 = .ok (.goto (-52), 3) := by decide +kernel
theorem dX10_number_70 : decode cX10_number 70 = .ok (.aload_n 0, 1) := by decide +kernel
theorem dX10_number_71 : decode cX10_number 71 = .ok (.getfield 21, 3) := by decide +kernel
theorem dX10_number_74 : decode cX10_number 74 = .ok (.aload_n 0, 1) := by decide +kernel
theorem dX10_number_75 : decode cX10_number 75 = .ok (.getfield 31, 3) := by decide +kernel
theorem dX10_number_78 : decode cX10_number 78 = .ok (.isub, 1) := by decide +kernel
theorem dX10_number_79 : decode cX10_number 79 = .ok (.istore 4, 2) := by decide +kernel
theorem dX10_number_81 : decode cX10_number 81 = .ok (.iload 4, 2) := by decide +kernel
theorem dX10_number_83 : decode cX10_number 83 = .ok (.ifCond .eq 18, 3) := by decide +kernel
theorem dX10_number_86 : decode cX10_number 86 = .ok (.iload 4, 2) := by decide +kernel
theorem dX10_number_88 : decode cX10_number 88 = .ok (.iconst 4, 1) := by decide +kernel
theorem dX10_number_89 : decode cX10_number 89 = .ok (.if_icmp .gt 12, 3) := by decide +kernel
theorem dX10_number_92 : decode cX10_number 92 = .ok (.iload_n 3, 1) := by decide +kernel
theorem dX10_number_93 : decode cX10_number 93 = .ok (.iload_n 1, 1) := by decide +kernel
theorem dX10_number_94 : decode cX10_number 94 = .ok (.iload_n 2, 1) := by decide +kernel
theorem dX10_number_95 : decode cX10_number 95 = .ok (.invokestatic 69, 3) := by decide +kernel
theorem dX10_number_98 : decode cX10_number 98 = .ok (.ifCond .ne 7, 3) := by decide +kernel
theorem dX10_number_101 : decode cX10_number 101 = .ok (.aload_n 0, 1) := by decide +kernel
theorem dX10_number_102 : decode cX10_number 102 = .ok (.invokevirtual 49, 3) := by decide +kernel
theorem dX10_number_105 : decode cX10_number 105 = .ok (.iload_n 3, 1) := by decide +kernel
theorem dX10_number_106 : decode cX10_number 106 = .ok (.ireturn, 1) := by decide +kernel
theorem dX10_fault_0 : decode cX10_fault 0 = .ok (.aload_n 0, 1) := by decide +kernel
theorem dX10_fault_1 : decode cX10_fault 1 = .ok (.iconst 0, 1) := by decide +kernel
theorem dX10_fault_2 : decode cX10_fault 2 = .ok (.putfield 3, 3) := by decide +kernel
theorem dX10_fault_5 : decode cX10_fault 5 = .ok (.aload_n 0, 1) := by decide +kernel
theorem dX10_fault_6 : decode cX10_fault 6 = .ok (.getfield 73, 3) := by decide +kernel
theorem dX10_fault_9 : decode cX10_fault 9 = .ok (.ireturn, 1) := by decide +kernel
theorem dX10_init_0 : decode cX10_init 0 = .ok (.aload_n 0, 1) := by decide +kernel
theorem dX10_init_1 : decode cX10_init 1 = .ok (.invokespecial 76, 3) := by decide +kernel
theorem dX10_init_4 : decode cX10_init 4 = .ok (.aload_n 0, 1) := by decide +kernel
theorem dX10_init_5 : decode cX10_init 5 = .ok (.sipush 600, 3) := by decide +kernel
theorem dX10_init_8 : decode cX10_init 8 = .ok (.newarray .byte, 2) := by decide +kernel
theorem dX10_init_10 : decode cX10_init 10 = .ok (.putfield 14, 3) := by decide +kernel
theorem dX10_init_13 : decode cX10_init 13 = .ok (.aload_n 0, 1) := by decide +kernel
theorem dX10_init_14 : decode cX10_init 14 = .ok (.iconst 5, 1) := by decide +kernel
theorem dX10_init_15 : decode cX10_init 15 = .ok (.newarray .int, 2) := by decide +kernel
theorem dX10_init_17 : decode cX10_init 17 = .ok (.putfield 10, 3) := by decide +kernel
theorem dX10_init_20 : decode cX10_init 20 = .ok (.aload_n 0, 1) := by decide +kernel
theorem dX10_init_21 : decode cX10_init 21 = .ok (.iconst (-1), 1) := by decide +kernel
theorem dX10_init_22 : decode cX10_init 22 = .ok (.putfield 73, 3) := by decide +kernel
theorem dX10_init_25 : decode cX10_init 25 = .ok (.aload_n 0, 1) := by decide +kernel
theorem dX10_init_26 : decode cX10_init 26 = .ok (.sipush 1089, 3) := by decide +kernel
theorem dX10_init_29 : decode cX10_init 29 = .ok (.newarray .int, 2) := by decide +kernel
theorem dX10_init_31 : decode cX10_init 31 = .ok (.putfield 81, 3) := by decide +kernel
theorem dX10_init_34 : decode cX10_init 34 = .ok (.aload_n 0, 1) := by decide +kernel
theorem dX10_init_35 : decode cX10_init 35 = .ok (.sipush 971, 3) := by decide +kernel
theorem dX10_init_38 : decode cX10_init 38 = .ok (.newarray .int, 2) := by decide +kernel
theorem dX10_init_40 : decode cX10_init 40 = .ok (.putfield 84, 3) := by decide +kernel
theorem dX10_init_43 : decode cX10_init 43 = .ok (.aload_n 0, 1) := by decide +kernel
theorem dX10_init_44 : decode cX10_init 44 = .ok (.sipush 1089, 3) := by decide +kernel
theorem dX10_init_47 : decode cX10_init 47 = .ok (.newarray .int, 2) := by decide +kernel
theorem dX10_init_49 : decode cX10_init 49 = .ok (.putfield 87, 3) := by decide +kernel
theorem dX10_init_52 : decode cX10_init 52 = .ok (.aload_n 0, 1) := by decide +kernel
theorem dX10_init_53 : decode cX10_init 53 = .ok (.sipush 971, 3) := by decide +kernel
theorem dX10_init_56 : decode cX10_init 56 = .ok (.newarray .int, 2) := by decide +kernel
theorem dX10_init_58 : decode cX10_init 58 = .ok (.putfield 90, 3) := by decide +kernel
theorem dX10_init_61 : decode cX10_init 61 = .ok (.aload_n 0, 1) := by decide +kernel
theorem dX10_init_62 : decode cX10_init 62 = .ok (.bipush 9, 2) := by decide +kernel
theorem dX10_init_64 : decode cX10_init 64 = .ok (.newarray .int, 2) := by decide +kernel
theorem dX10_init_66 : decode cX10_init 66 = .ok (.putfield 93, 3) := by decide +kernel
theorem dX10_init_69 : decode cX10_init 69 = .ok (.aload_n 0, 1) := by decide +kernel
theorem dX10_init_70 : decode cX10_init 70 = .ok (.sipush 600, 3) := by decide +kernel
theorem dX10_init_73 : decode cX10_init 73 = .ok (.newarray .long, 2) := by decide +kernel
theorem dX10_init_75 : decode cX10_init 75 = .ok (.putfield 96, 3) := by decide +kernel
theorem dX10_init_78 : decode cX10_init 78 = .ok (.aload_n 0, 1) := by decide +kernel
theorem dX10_init_79 : decode cX10_init 79 = .ok (.bipush 6, 2) := by decide +kernel
theorem dX10_init_81 : decode cX10_init 81 = .ok (.newarray .int, 2) := by decide +kernel
theorem dX10_init_83 : decode cX10_init 83 = .ok (.putfield 100, 3) := by decide +kernel
theorem dX10_init_86 : decode cX10_init 86 = .ok (.aload_n 0, 1) := by decide +kernel
theorem dX10_init_87 : decode cX10_init 87 = .ok (.bipush 6, 2) := by decide +kernel
theorem dX10_init_89 : decode cX10_init 89 = .ok (.newarray .int, 2) := by decide +kernel
theorem dX10_init_91 : decode cX10_init 91 = .ok (.putfield 103, 3) := by decide +kernel
theorem dX10_init_94 : decode cX10_init 94 = .ok (.aload_n 0, 1) := by decide +kernel
theorem dX10_init_95 : decode cX10_init 95 = .ok (.bipush 54, 2) := by decide +kernel
theorem dX10_init_97 : decode cX10_init 97 = .ok (.newarray .int, 2) := by decide +kernel
theorem dX10_init_99 : decode cX10_init 99 = .ok (.putfield 106, 3) := by decide +kernel
theorem dX10_init_102 : decode cX10_init 102 = .ok (.aload_n 0, 1) := by decide +kernel
theorem dX10_init_103 : decode cX10_init 103 = .ok (.sipush 15536, 3) := by decide +kernel
theorem dX10_init_106 : decode cX10_init 106 = .ok (.newarray .int, 2) := by decide +kernel
theorem dX10_init_108 : decode cX10_init 108 = .ok (.putfield 109, 3) := by decide +kernel
theorem dX10_init_111 : decode cX10_init 111 = .ok (.aload_n 0, 1) := by decide +kernel
theorem dX10_init_112 : decode cX10_init 112 = .ok (.sipush 1200, 3) := by decide +kernel
theorem dX10_init_115 : decode cX10_init 115 = .ok (.newarray .byte, 2) := by decide +kernel
theorem dX10_init_117 : decode cX10_init 117 = .ok (.putfield 112, 3) := by decide +kernel
theorem dX10_init_120 : decode cX10_init 120 = .ok (.aload_n 0, 1) := by decide +kernel
theorem dX10_init_121 : decode cX10_init 121 = .ok (.invokevirtual 115, 3) := by decide +kernel
theorem dX10_init_124 : decode cX10_init 124 = .ok (.aload_n 0, 1) := by decide +kernel
theorem dX10_init_125 : decode cX10_init 125 = .ok (.invokevirtual 118, 3) := by decide +kernel
theorem dX10_init_128 : decode cX10_init 128 = .ok (.return_, 1) := by decide +kernel
theorem dX10_usual_0 : decode cX10_usual 0 = .ok (.iconst 0, 1) := by decide +kernel
theorem dX10_usual_1 : decode cX10_usual 1 = .ok (.istore_n 1, 1) := by decide +kernel
theorem dX10_usual_2 : decode cX10_usual 2 = .ok (.iload_n 1, 1) := by decide +kernel
theorem dX10_usual_3 : decode cX10_usual 3 = .ok (.sipush 1089, 3) := by decide +kernel
theorem dX10_usual_6 : decode cX10_usual 6 = .ok (.if_icmp .ge 16, 3) := by decide +kernel
theorem dX10_usual_9 : decode cX10_usual 9 = .ok (.aload_n 0, 1) := by decide +kernel
theorem dX10_usual_10 : decode cX10_usual 10 = .ok (.getfield 87, 3) := by decide +kernel
theorem dX10_usual_13 : decode cX10_usual 13 = .ok (.iload_n 1, 1) := by decide +kernel
theorem dX10_usual_14 : decode cX10_usual 14 = .ok (.iconst 0, 1) := by decide +kernel
theorem dX10_usual_15 : decode cX10_usual 15 = .ok (.iastore, 1) := by decide +kernel
theorem dX10_usual_16 : decode cX10_usual 16 = .ok (.iinc 1 1, 3) := by decide +kernel
theorem dX10_usual_19 : decode cX10_usual 19 = .ok (.goto (-17), 3) := by decide +kernel
theorem dX10_usual_22 : decode cX10_usual 22 = .ok (.iconst 0, 1) := by decide +kernel
theorem dX10_usual_23 : decode cX10_usual 23 = .ok (.istore_n 1, 1) := by decide +kernel
theorem dX10_usual_24 : decode cX10_usual 24 = .ok (.iload_n 1, 1) := by decide +kernel
theorem dX10_usual_25 : decode cX10_usual 25 = .ok (.sipush 971, 3) := by decide +kernel
theorem dX10_usual_28 : decode cX10_usual 28 = .ok (.if_icmp .ge 16, 3) := by decide +kernel
theorem dX10_usual_31 : decode cX10_usual 31 = .ok (.aload_n 0, 1) := by decide +kernel
theorem dX10_usual_32 : decode cX10_usual 32 = .ok (.getfield 90, 3) := by decide +kernel
theorem dX10_usual_35 : decode cX10_usual 35 = .ok (.iload_n 1, 1) := by decide +kernel
theorem dX10_usual_36 : decode cX10_usual 36 = .ok (.iconst 0, 1) := by decide +kernel
theorem dX10_usual_37 : decode cX10_usual 37 = .ok (.iastore, 1) := by decide +kernel
theorem dX10_usual_38 : decode cX10_usual 38 = .ok (.iinc 1 1, 3) := by decide +kernel
theorem dX10_usual_41 : decode cX10_usual 41 = .ok (.goto (-17), 3) := by decide +kernel
theorem dX10_usual_44 : decode cX10_usual 44 = .ok (.aload_n 0, 1) := by decide +kernel
theorem dX10_usual_45 : decode cX10_usual 45 = .ok (.getfield 87, 3) := by decide +kernel
theorem dX10_usual_48 : decode cX10_usual 48 = .ok (.iconst 2, 1) := by decide +kernel
theorem dX10_usual_49 : decode cX10_usual 49 = .ok (.iconst 5, 1) := by decide +kernel
theorem dX10_usual_50 : decode cX10_usual 50 = .ok (.iastore, 1) := by decide +kernel
theorem dX10_usual_51 : decode cX10_usual 51 = .ok (.aload_n 0, 1) := by decide +kernel
theorem dX10_usual_52 : decode cX10_usual 52 = .ok (.getfield 90, 3) := by decide +kernel
theorem dX10_usual_55 : decode cX10_usual 55 = .ok (.sipush 964, 3) := by decide +kernel
theorem dX10_usual_58 : decode cX10_usual 58 = .ok (.iconst 1, 1) := by decide +kernel
theorem dX10_usual_59 : decode cX10_usual 59 = .ok (.iastore, 1) := by decide +kernel
theorem dX10_usual_60 : decode cX10_usual 60 = .ok (.aload_n 0, 1) := by decide +kernel
theorem dX10_usual_61 : decode cX10_usual 61 = .ok (.getfield 90, 3) := by decide +kernel
theorem dX10_usual_64 : decode cX10_usual 64 = .ok (.sipush 965, 3) := by decide +kernel
theorem dX10_usual_67 : decode cX10_usual 67 = .ok (.bipush 120, 2) := by decide +kernel
theorem dX10_usual_69 : decode cX10_usual 69 = .ok (.iastore, 1) := by decide +kernel
theorem dX10_usual_70 : decode cX10_usual 70 = .ok (.aload_n 0, 1) := by decide +kernel
theorem dX10_usual_71 : decode cX10_usual 71 = .ok (.getfield 90, 3) := by decide +kernel
theorem dX10_usual_74 : decode cX10_usual 74 = .ok (.sipush 966, 3) := by decide +kernel
theorem dX10_usual_77 : decode cX10_usual 77 = .ok (.bipush 10, 2) := by decide +kernel
theorem dX10_usual_79 : decode cX10_usual 79 = .ok (.iastore, 1) := by decide +kernel
theorem dX10_usual_80 : decode cX10_usual 80 = .ok (.aload_n 0, 1) := by decide +kernel
theorem dX10_usual_81 : decode cX10_usual 81 = .ok (.getfield 90, 3) := by decide +kernel
theorem dX10_usual_84 : decode cX10_usual 84 = .ok (.sipush 967, 3) := by decide +kernel
theorem dX10_usual_87 : decode cX10_usual 87 = .ok (.iconst 2, 1) := by decide +kernel
theorem dX10_usual_88 : decode cX10_usual 88 = .ok (.iastore, 1) := by decide +kernel
theorem dX10_usual_89 : decode cX10_usual 89 = .ok (.iconst 0, 1) := by decide +kernel
theorem dX10_usual_90 : decode cX10_usual 90 = .ok (.istore_n 1, 1) := by decide +kernel
theorem dX10_usual_91 : decode cX10_usual 91 = .ok (.iload_n 1, 1) := by decide +kernel
theorem dX10_usual_92 : decode cX10_usual 92 = .ok (.iconst 3, 1) := by decide +kernel
theorem dX10_usual_93 : decode cX10_usual 93 = .ok (.if_icmp .ge 21, 3) := by decide +kernel
theorem dX10_usual_96 : decode cX10_usual 96 = .ok (.aload_n 0, 1) := by decide +kernel
theorem dX10_usual_97 : decode cX10_usual 97 = .ok (.getfield 90, 3) := by decide +kernel
theorem dX10_usual_100 : decode cX10_usual 100 = .ok (.sipush 968, 3) := by decide +kernel
theorem dX10_usual_103 : decode cX10_usual 103 = .ok (.iload_n 1, 1) := by decide +kernel
theorem dX10_usual_104 : decode cX10_usual 104 = .ok (.iadd, 1) := by decide +kernel
theorem dX10_usual_105 : decode cX10_usual 105 = .ok (.bipush 100, 2) := by decide +kernel
theorem dX10_usual_107 : decode cX10_usual 107 = .ok (.iastore, 1) := by decide +kernel
theorem dX10_usual_108 : decode cX10_usual 108 = .ok (.iinc 1 1, 3) := by decide +kernel
theorem dX10_usual_111 : decode cX10_usual 111 = .ok (.goto (-20), 3) := by decide +kernel
theorem dX10_usual_114 : decode cX10_usual 114 = .ok (.return_, 1) := by decide +kernel
theorem dX10_taken_0 : decode cX10_taken 0 = .ok (.iconst 0, 1) := by decide +kernel
theorem dX10_taken_1 : decode cX10_taken 1 = .ok (.istore_n 1, 1) := by decide +kernel
theorem dX10_taken_2 : decode cX10_taken 2 = .ok (.iload_n 1, 1) := by decide +kernel
theorem dX10_taken_3 : decode cX10_taken 3 = .ok (.sipush 1089, 3) := by decide +kernel
theorem dX10_taken_6 : decode cX10_taken 6 = .ok (.if_icmp .ge 21, 3) := by decide +kernel
theorem dX10_taken_9 : decode cX10_taken 9 = .ok (.aload_n 0, 1) := by decide +kernel
theorem dX10_taken_10 : decode cX10_taken 10 = .ok (.getfield 81, 3) := by decide +kernel
theorem dX10_taken_13 : decode cX10_taken 13 = .ok (.iload_n 1, 1) := by decide +kernel
theorem dX10_taken_14 : decode cX10_taken 14 = .ok (.aload_n 0, 1) := by decide +kernel
theorem dX10_taken_15 : decode cX10_taken 15 = .ok (.getfield 87, 3) := by decide +kernel
theorem dX10_taken_18 : decode cX10_taken 18 = .ok (.iload_n 1, 1) := by decide +kernel
theorem dX10_taken_19 : decode cX10_taken 19 = .ok (.iaload, 1) := by decide +kernel
theorem dX10_taken_20 : decode cX10_taken 20 = .ok (.iastore, 1) := by decide +kernel
theorem dX10_taken_21 : decode cX10_taken 21 = .ok (.iinc 1 1, 3) := by decide +kernel
theorem dX10_taken_24 : decode cX10_taken 24 = .ok (.goto (-22), 3) := by decide +kernel
theorem dX10_taken_27 : decode cX10_taken 27 = .ok (.iconst 0, 1) := by decide +kernel
theorem dX10_taken_28 : decode cX10_taken 28 = .ok (.istore_n 1, 1) := by decide +kernel
theorem dX10_taken_29 : decode cX10_taken 29 = .ok (.iload_n 1, 1) := by decide +kernel
theorem dX10_taken_30 : decode cX10_taken 30 = .ok (.sipush 971, 3) := by decide +kernel
theorem dX10_taken_33 : decode cX10_taken 33 = .ok (.if_icmp .ge 21, 3) := by decide +kernel
theorem dX10_taken_36 : decode cX10_taken 36 = .ok (.aload_n 0, 1) := by decide +kernel
theorem dX10_taken_37 : decode cX10_taken 37 = .ok (.getfield 84, 3) := by decide +kernel
theorem dX10_taken_40 : decode cX10_taken 40 = .ok (.iload_n 1, 1) := by decide +kernel
theorem dX10_taken_41 : decode cX10_taken 41 = .ok (.aload_n 0, 1) := by decide +kernel
theorem dX10_taken_42 : decode cX10_taken 42 = .ok (.getfield 90, 3) := by decide +kernel
theorem dX10_taken_45 : decode cX10_taken 45 = .ok (.iload_n 1, 1) := by decide +kernel
theorem dX10_taken_46 : decode cX10_taken 46 = .ok (.iaload, 1) := by decide +kernel
theorem dX10_taken_47 : decode cX10_taken 47 = .ok (.iastore, 1) := by decide +kernel
theorem dX10_taken_48 : decode cX10_taken 48 = .ok (.iinc 1 1, 3) := by decide +kernel
theorem dX10_taken_51 : decode cX10_taken 51 = .ok (.goto (-22), 3) := by decide +kernel
theorem dX10_taken_54 : decode cX10_taken 54 = .ok (.return_, 1) := by decide +kernel
theorem dX10_named_0 : decode cX10_named 0 = .ok (.aload_n 0, 1) := by decide +kernel
theorem dX10_named_1 : decode cX10_named 1 = .ok (.invokevirtual 52, 3) := by decide +kernel
theorem dX10_named_4 : decode cX10_named 4 = .ok (.istore_n 3, 1) := by decide +kernel
theorem dX10_named_5 : decode cX10_named 5 = .ok (.iconst 0, 1) := by decide +kernel
theorem dX10_named_6 : decode cX10_named 6 = .ok (.istore 4, 2) := by decide +kernel
theorem dX10_named_8 : decode cX10_named 8 = .ok (.iload 4, 2) := by decide +kernel
theorem dX10_named_10 : decode cX10_named 10 = .ok (.iload_n 2, 1) := by decide +kernel
theorem dX10_named_11 : decode cX10_named 11 = .ok (.if_icmp .ge 94, 3) := by decide +kernel
theorem dX10_named_14 : decode cX10_named 14 = .ok (.iconst 1, 1) := by decide +kernel
theorem dX10_named_15 : decode cX10_named 15 = .ok (.istore 5, 2) := by decide +kernel
theorem dX10_named_17 : decode cX10_named 17 = .ok (.iconst 0, 1) := by decide +kernel
theorem dX10_named_18 : decode cX10_named 18 = .ok (.istore 6, 2) := by decide +kernel
theorem dX10_named_20 : decode cX10_named 20 = .ok (.iload 6, 2) := by decide +kernel
theorem dX10_named_22 : decode cX10_named 22 = .ok (.bipush 6, 2) := by decide +kernel
theorem dX10_named_24 : decode cX10_named 24 = .ok (.if_icmp .ge 61, 3) := by decide +kernel
theorem dX10_named_27 : decode cX10_named 27 = .ok (.iload 5, 2) := by decide +kernel
theorem dX10_named_29 : decode cX10_named 29 = .ok (.ifCond .eq 47, 3) := by decide +kernel
theorem dX10_named_32 : decode cX10_named 32 = .ok (.aload_n 0, 1) := by decide +kernel
theorem dX10_named_33 : decode cX10_named 33 = .ok (.getfield 87, 3) := by decide +kernel
theorem dX10_named_36 : decode cX10_named 36 = .ok (.iload_n 1, 1) := by decide +kernel
theorem dX10_named_37 : decode cX10_named 37 = .ok (.bipush 6, 2) := by decide +kernel
theorem dX10_named_39 : decode cX10_named 39 = .ok (.iload 4, 2) := by decide +kernel
theorem dX10_named_41 : decode cX10_named 41 = .ok (.imul, 1) := by decide +kernel
theorem dX10_named_42 : decode cX10_named 42 = .ok (.iadd, 1) := by decide +kernel
theorem dX10_named_43 : decode cX10_named 43 = .ok (.iload 6, 2) := by decide +kernel
theorem dX10_named_45 : decode cX10_named 45 = .ok (.iadd, 1) := by decide +kernel
theorem dX10_named_46 : decode cX10_named 46 = .ok (.iaload, 1) := by decide +kernel
theorem dX10_named_47 : decode cX10_named 47 = .ok (.iload 6, 2) := by decide +kernel
theorem dX10_named_49 : decode cX10_named 49 = .ok (.iload_n 3, 1) := by decide +kernel
theorem dX10_named_50 : decode cX10_named 50 = .ok (.if_icmp .ge 18, 3) := by decide +kernel
theorem dX10_named_53 : decode cX10_named 53 = .ok (.aload_n 0, 1) := by decide +kernel
theorem dX10_named_54 : decode cX10_named 54 = .ok (.getfield 14, 3) := by decide +kernel
theorem dX10_named_57 : decode cX10_named 57 = .ok (.aload_n 0, 1) := by decide +kernel
theorem dX10_named_58 : decode cX10_named 58 = .ok (.getfield 21, 3) := by decide +kernel
theorem dX10_named_61 : decode cX10_named 61 = .ok (.iload 6, 2) := by decide +kernel
theorem dX10_named_63 : decode cX10_named 63 = .ok (.iadd, 1) := by decide +kernel
theorem dX10_named_64 : decode cX10_named 64 = .ok (.baload, 1) := by decide +kernel
theorem dX10_named_65 : decode cX10_named 65 = .ok (.goto 4, 3) := by decide +kernel
theorem dX10_named_68 : decode cX10_named 68 = .ok (.iconst 0, 1) := by decide +kernel
theorem dX10_named_69 : decode cX10_named 69 = .ok (.if_icmp .ne 7, 3) := by decide +kernel
theorem dX10_named_72 : decode cX10_named 72 = .ok (.iconst 1, 1) := by decide +kernel
theorem dX10_named_73 : decode cX10_named 73 = .ok (.goto 4, 3) := by decide +kernel
theorem dX10_named_76 : decode cX10_named 76 = .ok (.iconst 0, 1) := by decide +kernel
theorem dX10_named_77 : decode cX10_named 77 = .ok (.istore 5, 2) := by decide +kernel
theorem dX10_named_79 : decode cX10_named 79 = .ok (.iinc 6 1, 3) := by decide +kernel
theorem dX10_named_82 : decode cX10_named 82 = .ok (.goto (-62), 3) := by decide +kernel
theorem dX10_named_85 : decode cX10_named 85 = .ok (.iload 5, 2) := by decide +kernel
theorem dX10_named_87 : decode cX10_named 87 = .ok (.ifCond .eq 12, 3) := by decide +kernel
theorem dX10_named_90 : decode cX10_named 90 = .ok (.iload_n 3, 1) := by decide +kernel
theorem dX10_named_91 : decode cX10_named 91 = .ok (.bipush 6, 2) := by decide +kernel
theorem dX10_named_93 : decode cX10_named 93 = .ok (.if_icmp .gt 6, 3) := by decide +kernel
theorem dX10_named_96 : decode cX10_named 96 = .ok (.iload 4, 2) := by decide +kernel
theorem dX10_named_98 : decode cX10_named 98 = .ok (.ireturn, 1) := by decide +kernel
theorem dX10_named_99 : decode cX10_named 99 = .ok (.iinc 4 1, 3) := by decide +kernel
theorem dX10_named_102 : decode cX10_named 102 = .ok (.goto (-94), 3) := by decide +kernel
theorem dX10_named_105 : decode cX10_named 105 = .ok (.iconst (-1), 1) := by decide +kernel
theorem dX10_named_106 : decode cX10_named 106 = .ok (.ireturn, 1) := by decide +kernel
theorem dX10_isName_0 : decode cX10_isName 0 = .ok (.aload_n 0, 1) := by decide +kernel
theorem dX10_isName_1 : decode cX10_isName 1 = .ok (.invokevirtual 52, 3) := by decide +kernel
theorem dX10_isName_4 : decode cX10_isName 4 = .ok (.istore_n 1, 1) := by decide +kernel
theorem dX10_isName_5 : decode cX10_isName 5 = .ok (.aload_n 0, 1) := by decide +kernel
theorem dX10_isName_6 : decode cX10_isName 6 = .ok (.invokevirtual 38, 3) := by decide +kernel
theorem dX10_isName_9 : decode cX10_isName 9 = .ok (.ifCond .ne 17, 3) := by decide +kernel
theorem dX10_isName_12 : decode cX10_isName 12 = .ok (.iload_n 1, 1) := by decide +kernel
theorem dX10_isName_13 : decode cX10_isName 13 = .ok (.iconst 1, 1) := by decide +kernel
theorem dX10_isName_14 : decode cX10_isName 14 = .ok (.bipush 6, 2) := by decide +kernel
theorem dX10_isName_16 : decode cX10_isName 16 = .ok (.invokestatic 69, 3) := by decide +kernel
theorem dX10_isName_19 : decode cX10_isName 19 = .ok (.ifCond .eq 7, 3) := by decide +kernel
theorem dX10_isName_22 : decode cX10_isName 22 = .ok (.iconst 1, 1) := by decide +kernel
theorem dX10_isName_23 : decode cX10_isName 23 = .ok (.goto 4, 3) := by decide +kernel
theorem dX10_isName_26 : decode cX10_isName 26 = .ok (.iconst 0, 1) := by decide +kernel
theorem dX10_isName_27 : decode cX10_isName 27 = .ok (.ireturn, 1) := by decide +kernel
theorem dX10_freshName_0 : decode cX10_freshName 0 = .ok (.aload_n 0, 1) := by decide +kernel
theorem dX10_freshName_1 : decode cX10_freshName 1 = .ok (.invokevirtual 38, 3) := by decide +kernel
theorem dX10_freshName_4 : decode cX10_freshName 4 = .ok (.ifCond .eq 4, 3) := by decide +kernel
theorem dX10_freshName_7 : decode cX10_freshName 7 = .ok (.return_, 1) := by decide +kernel
theorem dX10_freshName_8 : decode cX10_freshName 8 = .ok (.aload_n 0, 1) := by decide +kernel
theorem dX10_freshName_9 : decode cX10_freshName 9 = .ok (.invokevirtual 121, 3) := by decide +kernel
theorem dX10_freshName_12 : decode cX10_freshName 12 = .ok (.ifCond .eq 13, 3) := by decide +kernel
theorem dX10_freshName_15 : decode cX10_freshName 15 = .ok (.aload_n 0, 1) := by decide +kernel
theorem dX10_freshName_16 : decode cX10_freshName 16 = .ok (.iload_n 1, 1) := by decide +kernel
theorem dX10_freshName_17 : decode cX10_freshName 17 = .ok (.iload_n 2, 1) := by decide +kernel
theorem dX10_freshName_18 : decode cX10_freshName 18 = .ok (.invokevirtual 124, 3) := by decide +kernel
theorem dX10_freshName_21 : decode cX10_freshName 21 = .ok (.iconst (-1), 1) := by decide +kernel
theorem dX10_freshName_22 : decode cX10_freshName 22 = .ok (.if_icmp .eq 8, 3) := by decide +kernel
theorem dX10_freshName_25 : decode cX10_freshName 25 = .ok (.aload_n 0, 1) := by decide +kernel
theorem dX10_freshName_26 : decode cX10_freshName 26 = .ok (.invokevirtual 49, 3) := by decide +kernel
theorem dX10_freshName_29 : decode cX10_freshName 29 = .ok (.return_, 1) := by decide +kernel
theorem dX10_freshName_30 : decode cX10_freshName 30 = .ok (.aload_n 0, 1) := by decide +kernel
theorem dX10_freshName_31 : decode cX10_freshName 31 = .ok (.invokevirtual 52, 3) := by decide +kernel
theorem dX10_freshName_34 : decode cX10_freshName 34 = .ok (.istore_n 3, 1) := by decide +kernel
theorem dX10_freshName_35 : decode cX10_freshName 35 = .ok (.iconst 0, 1) := by decide +kernel
theorem dX10_freshName_36 : decode cX10_freshName 36 = .ok (.istore 4, 2) := by decide +kernel
theorem dX10_freshName_38 : decode cX10_freshName 38 = .ok (.iload 4, 2) := by decide +kernel
theorem dX10_freshName_40 : decode cX10_freshName 40 = .ok (.bipush 6, 2) := by decide +kernel
theorem dX10_freshName_42 : decode cX10_freshName 42 = .ok (.if_icmp .ge 45, 3) := by decide +kernel
theorem dX10_freshName_45 : decode cX10_freshName 45 = .ok (.aload_n 0, 1) := by decide +kernel
theorem dX10_freshName_46 : decode cX10_freshName 46 = .ok (.getfield 87, 3) := by decide +kernel
theorem dX10_freshName_49 : decode cX10_freshName 49 = .ok (.iload_n 1, 1) := by decide +kernel
theorem dX10_freshName_50 : decode cX10_freshName 50 = .ok (.bipush 6, 2) := by decide +kernel
theorem dX10_freshName_52 : decode cX10_freshName 52 = .ok (.iload_n 2, 1) := by decide +kernel
theorem dX10_freshName_53 : decode cX10_freshName 53 = .ok (.imul, 1) := by decide +kernel
theorem dX10_freshName_54 : decode cX10_freshName 54 = .ok (.iadd, 1) := by decide +kernel
theorem dX10_freshName_55 : decode cX10_freshName 55 = .ok (.iload 4, 2) := by decide +kernel
theorem dX10_freshName_57 : decode cX10_freshName 57 = .ok (.iadd, 1) := by decide +kernel
theorem dX10_freshName_58 : decode cX10_freshName 58 = .ok (.iload 4, 2) := by decide +kernel
theorem dX10_freshName_60 : decode cX10_freshName 60 = .ok (.iload_n 3, 1) := by decide +kernel
theorem dX10_freshName_61 : decode cX10_freshName 61 = .ok (.if_icmp .ge 18, 3) := by decide +kernel
theorem dX10_freshName_64 : decode cX10_freshName 64 = .ok (.aload_n 0, 1) := by decide +kernel
theorem dX10_freshName_65 : decode cX10_freshName 65 = .ok (.getfield 14, 3) := by decide +kernel
theorem dX10_freshName_68 : decode cX10_freshName 68 = .ok (.aload_n 0, 1) := by decide +kernel
theorem dX10_freshName_69 : decode cX10_freshName 69 = .ok (.getfield 21, 3) := by decide +kernel
theorem dX10_freshName_72 : decode cX10_freshName 72 = .ok (.iload 4, 2) := by decide +kernel
theorem dX10_freshName_74 : decode cX10_freshName 74 = .ok (.iadd, 1) := by decide +kernel
theorem dX10_freshName_75 : decode cX10_freshName 75 = .ok (.baload, 1) := by decide +kernel
theorem dX10_freshName_76 : decode cX10_freshName 76 = .ok (.goto 4, 3) := by decide +kernel
theorem dX10_freshName_79 : decode cX10_freshName 79 = .ok (.iconst 0, 1) := by decide +kernel
theorem dX10_freshName_80 : decode cX10_freshName 80 = .ok (.iastore, 1) := by decide +kernel
theorem dX10_freshName_81 : decode cX10_freshName 81 = .ok (.iinc 4 1, 3) := by decide +kernel
theorem dX10_freshName_84 : decode cX10_freshName 84 = .ok (.goto (-46), 3) := by decide +kernel
theorem dX10_freshName_87 : decode cX10_freshName 87 = .ok (.aload_n 0, 1) := by decide +kernel
theorem dX10_freshName_88 : decode cX10_freshName 88 = .ok (.dup, 1) := by decide +kernel
theorem dX10_freshName_89 : decode cX10_freshName 89 = .ok (.getfield 21, 3) := by decide +kernel
theorem dX10_freshName_92 : decode cX10_freshName 92 = .ok (.iload_n 3, 1) := by decide +kernel
theorem dX10_freshName_93 : decode cX10_freshName 93 = .ok (.iadd, 1) := by decide +kernel
theorem dX10_freshName_94 : decode cX10_freshName 94 = .ok (.putfield 21, 3) := by decide +kernel
theorem dX10_freshName_97 : decode cX10_freshName 97 = .ok (.return_, 1) := by decide +kernel
theorem dX10_elementTold_0 : decode cX10_elementTold 0 = .ok (.aload_n 0, 1) := by decide +kernel
theorem dX10_elementTold_1 : decode cX10_elementTold 1 = .ok (.invokevirtual 38, 3) := by decide +kernel
theorem dX10_elementTold_4 : decode cX10_elementTold 4 = .ok (.ifCond .eq 5, 3) := by decide +kernel
theorem dX10_elementTold_7 : decode cX10_elementTold 7 = .ok (.iconst 0, 1) := by decide +kernel
theorem dX10_elementTold_8 : decode cX10_elementTold 8 = .ok (.ireturn, 1) := by decide +kernel
theorem dX10_elementTold_9 : decode cX10_elementTold 9 = .ok (.aload_n 0, 1) := by decide +kernel
theorem dX10_elementTold_10 : decode cX10_elementTold 10 = .ok (.invokevirtual 121, 3) := by decide +kernel
theorem dX10_elementTold_13 : decode cX10_elementTold 13 = .ok (.ifCond .eq 18, 3) := by decide +kernel
theorem dX10_elementTold_16 : decode cX10_elementTold 16 = .ok (.aload_n 0, 1) := by decide +kernel
theorem dX10_elementTold_17 : decode cX10_elementTold 17 = .ok (.bipush 14, 2) := by decide +kernel
theorem dX10_elementTold_19 : decode cX10_elementTold 19 = .ok (.aload_n 0, 1) := by decide +kernel
theorem dX10_elementTold_20 : decode cX10_elementTold 20 = .ok (.getfield 87, 3) := by decide +kernel
theorem dX10_elementTold_23 : decode cX10_elementTold 23 = .ok (.iconst 0, 1) := by decide +kernel
theorem dX10_elementTold_24 : decode cX10_elementTold 24 = .ok (.iaload, 1) := by decide +kernel
theorem dX10_elementTold_25 : decode cX10_elementTold 25 = .ok (.invokevirtual 124, 3) := by decide +kernel
theorem dX10_elementTold_28 : decode cX10_elementTold 28 = .ok (.goto 4, 3) := by decide +kernel
theorem dX10_elementTold_31 : decode cX10_elementTold 31 = .ok (.iconst (-1), 1) := by decide +kernel
theorem dX10_elementTold_32 : decode cX10_elementTold 32 = .ok (.istore_n 2, 1) := by decide +kernel
theorem dX10_elementTold_33 : decode cX10_elementTold 33 = .ok (.iload_n 2, 1) := by decide +kernel
theorem dX10_elementTold_34 : decode cX10_elementTold 34 = .ok (.iconst (-1), 1) := by decide +kernel
theorem dX10_elementTold_35 : decode cX10_elementTold 35 = .ok (.if_icmp .eq 18, 3) := by decide +kernel
theorem dX10_elementTold_38 : decode cX10_elementTold 38 = .ok (.iload_n 1, 1) := by decide +kernel
theorem dX10_elementTold_39 : decode cX10_elementTold 39 = .ok (.ifCond .eq 20, 3) := by decide +kernel
theorem dX10_elementTold_42 : decode cX10_elementTold 42 = .ok (.aload_n 0, 1) := by decide +kernel
theorem dX10_elementTold_43 : decode cX10_elementTold 43 = .ok (.getfield 87, 3) := by decide +kernel
theorem dX10_elementTold_46 : decode cX10_elementTold 46 = .ok (.iconst 4, 1) := by decide +kernel
theorem dX10_elementTold_47 : decode cX10_elementTold 47 = .ok (.iload_n 2, 1) := by decide +kernel
theorem dX10_elementTold_48 : decode cX10_elementTold 48 = .ok (.iadd, 1) := by decide +kernel
theorem dX10_elementTold_49 : decode cX10_elementTold 49 = .ok (.iaload, 1) := by decide +kernel
theorem dX10_elementTold_50 : decode cX10_elementTold 50 = .ok (.ifCond .eq 9, 3) := by decide +kernel
theorem dX10_elementTold_53 : decode cX10_elementTold 53 = .ok (.aload_n 0, 1) := by decide +kernel
theorem dX10_elementTold_54 : decode cX10_elementTold 54 = .ok (.invokevirtual 49, 3) := by decide +kernel
theorem dX10_elementTold_57 : decode cX10_elementTold 57 = .ok (.iconst 0, 1) := by decide +kernel
theorem dX10_elementTold_58 : decode cX10_elementTold 58 = .ok (.ireturn, 1) := by decide +kernel
theorem dX10_elementTold_59 : decode cX10_elementTold 59 = .ok (.aload_n 0, 1) := by decide +kernel
theorem dX10_elementTold_60 : decode cX10_elementTold 60 = .ok (.dup, 1) := by decide +kernel
theorem dX10_elementTold_61 : decode cX10_elementTold 61 = .ok (.getfield 21, 3) := by decide +kernel
theorem dX10_elementTold_64 : decode cX10_elementTold 64 = .ok (.aload_n 0, 1) := by decide +kernel
theorem dX10_elementTold_65 : decode cX10_elementTold 65 = .ok (.invokevirtual 52, 3) := by decide +kernel
theorem dX10_elementTold_68 : decode cX10_elementTold 68 = .ok (.iadd, 1) := by decide +kernel
theorem dX10_elementTold_69 : decode cX10_elementTold 69 = .ok (.putfield 21, 3) := by decide +kernel
theorem dX10_elementTold_72 : decode cX10_elementTold 72 = .ok (.iload_n 2, 1) := by decide +kernel
theorem dX10_elementTold_73 : decode cX10_elementTold 73 = .ok (.ireturn, 1) := by decide +kernel
theorem dX10_letters_0 : decode cX10_letters 0 = .ok (.aload_n 0, 1) := by decide +kernel
theorem dX10_letters_1 : decode cX10_letters 1 = .ok (.invokevirtual 38, 3) := by decide +kernel
theorem dX10_letters_4 : decode cX10_letters 4 = .ok (.ifCond .eq 4, 3) := by decide +kernel
theorem dX10_letters_7 : decode cX10_letters 7 = .ok (.return_, 1) := by decide +kernel
theorem dX10_letters_8 : decode cX10_letters 8 = .ok (.aload_n 0, 1) := by decide +kernel
theorem dX10_letters_9 : decode cX10_letters 9 = .ok (.invokevirtual 52, 3) := by decide +kernel
theorem dX10_letters_12 : decode cX10_letters 12 = .ok (.istore_n 3, 1) := by decide +kernel
theorem dX10_letters_13 : decode cX10_letters 13 = .ok (.iload_n 3, 1) := by decide +kernel
theorem dX10_letters_14 : decode cX10_letters 14 = .ok (.aload_n 0, 1) := by decide +kernel
theorem dX10_letters_15 : decode cX10_letters 15 = .ok (.getfield 87, 3) := by decide +kernel
theorem dX10_letters_18 : decode cX10_letters 18 = .ok (.iconst 2, 1) := by decide +kernel
theorem dX10_letters_19 : decode cX10_letters 19 = .ok (.iaload, 1) := by decide +kernel
theorem dX10_letters_20 : decode cX10_letters 20 = .ok (.if_icmp .ne 7, 3) := by decide +kernel
theorem dX10_letters_23 : decode cX10_letters 23 = .ok (.iconst 1, 1) := by decide +kernel
theorem dX10_letters_24 : decode cX10_letters 24 = .ok (.goto 4, 3) := by decide +kernel
theorem dX10_letters_27 : decode cX10_letters 27 = .ok (.iconst 0, 1) := by decide +kernel
theorem dX10_letters_28 : decode cX10_letters 28 = .ok (.istore 4, 2) := by decide +kernel
theorem dX10_letters_30 : decode cX10_letters 30 = .ok (.iconst 0, 1) := by decide +kernel
theorem dX10_letters_31 : decode cX10_letters 31 = .ok (.istore 5, 2) := by decide +kernel
theorem dX10_letters_33 : decode cX10_letters 33 = .ok (.iload 5, 2) := by decide +kernel
theorem dX10_letters_35 : decode cX10_letters 35 = .ok (.iload_n 3, 1) := by decide +kernel
theorem dX10_letters_36 : decode cX10_letters 36 = .ok (.if_icmp .ge 38, 3) := by decide +kernel
theorem dX10_letters_39 : decode cX10_letters 39 = .ok (.iload 4, 2) := by decide +kernel
theorem dX10_letters_41 : decode cX10_letters 41 = .ok (.ifCond .eq 33, 3) := by decide +kernel
theorem dX10_letters_44 : decode cX10_letters 44 = .ok (.aload_n 0, 1) := by decide +kernel
theorem dX10_letters_45 : decode cX10_letters 45 = .ok (.getfield 14, 3) := by decide +kernel
theorem dX10_letters_48 : decode cX10_letters 48 = .ok (.aload_n 0, 1) := by decide +kernel
theorem dX10_letters_49 : decode cX10_letters 49 = .ok (.getfield 21, 3) := by decide +kernel
theorem dX10_letters_52 : decode cX10_letters 52 = .ok (.iload 5, 2) := by decide +kernel
theorem dX10_letters_54 : decode cX10_letters 54 = .ok (.iadd, 1) := by decide +kernel
theorem dX10_letters_55 : decode cX10_letters 55 = .ok (.baload, 1) := by decide +kernel
theorem dX10_letters_56 : decode cX10_letters 56 = .ok (.bipush 107, 2) := by decide +kernel
theorem dX10_letters_58 : decode cX10_letters 58 = .ok (.if_icmp .gt 7, 3) := by decide +kernel
theorem dX10_letters_61 : decode cX10_letters 61 = .ok (.iconst 1, 1) := by decide +kernel
theorem dX10_letters_62 : decode cX10_letters 62 = .ok (.goto 4, 3) := by decide +kernel
theorem dX10_letters_65 : decode cX10_letters 65 = .ok (.iconst 0, 1) := by decide +kernel
theorem dX10_letters_66 : decode cX10_letters 66 = .ok (.istore 4, 2) := by decide +kernel
theorem dX10_letters_68 : decode cX10_letters 68 = .ok (.iinc 5 1, 3) := by decide +kernel
theorem dX10_letters_71 : decode cX10_letters 71 = .ok (.goto (-38), 3) := by decide +kernel
theorem dX10_letters_74 : decode cX10_letters 74 = .ok (.iload 4, 2) := by decide +kernel
theorem dX10_letters_76 : decode cX10_letters 76 = .ok (.ifCond .ne 8, 3) := by decide +kernel
theorem dX10_letters_79 : decode cX10_letters 79 = .ok (.aload_n 0, 1) := by decide +kernel
theorem dX10_letters_80 : decode cX10_letters 80 = .ok (.invokevirtual 49, 3) := by decide +kernel
theorem dX10_letters_83 : decode cX10_letters 83 = .ok (.return_, 1) := by decide +kernel
theorem dX10_letters_84 : decode cX10_letters 84 = .ok (.iconst 0, 1) := by decide +kernel
theorem dX10_letters_85 : decode cX10_letters 85 = .ok (.istore 5, 2) := by decide +kernel
theorem dX10_letters_87 : decode cX10_letters 87 = .ok (.iload 5, 2) := by decide +kernel
theorem dX10_letters_89 : decode cX10_letters 89 = .ok (.iload_n 3, 1) := by decide +kernel
theorem dX10_letters_90 : decode cX10_letters 90 = .ok (.if_icmp .ge 35, 3) := by decide +kernel
theorem dX10_letters_93 : decode cX10_letters 93 = .ok (.aload_n 0, 1) := by decide +kernel
theorem dX10_letters_94 : decode cX10_letters 94 = .ok (.getfield 90, 3) := by decide +kernel
theorem dX10_letters_97 : decode cX10_letters 97 = .ok (.iload_n 1, 1) := by decide +kernel
theorem dX10_letters_98 : decode cX10_letters 98 = .ok (.iload 5, 2) := by decide +kernel
theorem dX10_letters_100 : decode cX10_letters 100 = .ok (.iadd, 1) := by decide +kernel
theorem dX10_letters_101 : decode cX10_letters 101 = .ok (.aload_n 0, 1) := by decide +kernel
theorem dX10_letters_102 : decode cX10_letters 102 = .ok (.getfield 14, 3) := by decide +kernel
theorem dX10_letters_105 : decode cX10_letters 105 = .ok (.aload_n 0, 1) := by decide +kernel
theorem dX10_letters_106 : decode cX10_letters 106 = .ok (.getfield 21, 3) := by decide +kernel
theorem dX10_letters_109 : decode cX10_letters 109 = .ok (.iload 5, 2) := by decide +kernel
theorem dX10_letters_111 : decode cX10_letters 111 = .ok (.iadd, 1) := by decide +kernel
theorem dX10_letters_112 : decode cX10_letters 112 = .ok (.baload, 1) := by decide +kernel
theorem dX10_letters_113 : decode cX10_letters 113 = .ok (.bipush 97, 2) := by decide +kernel
theorem dX10_letters_115 : decode cX10_letters 115 = .ok (.isub, 1) := by decide +kernel
theorem dX10_letters_116 : decode cX10_letters 116 = .ok (.iload_n 2, 1) := by decide +kernel
theorem dX10_letters_117 : decode cX10_letters 117 = .ok (.isub, 1) := by decide +kernel
theorem dX10_letters_118 : decode cX10_letters 118 = .ok (.iastore, 1) := by decide +kernel
theorem dX10_letters_119 : decode cX10_letters 119 = .ok (.iinc 5 1, 3) := by decide +kernel
theorem dX10_letters_122 : decode cX10_letters 122 = .ok (.goto (-35), 3) := by decide +kernel
theorem dX10_letters_125 : decode cX10_letters 125 = .ok (.aload_n 0, 1) := by decide +kernel
theorem dX10_letters_126 : decode cX10_letters 126 = .ok (.dup, 1) := by decide +kernel
theorem dX10_letters_127 : decode cX10_letters 127 = .ok (.getfield 21, 3) := by decide +kernel
theorem dX10_letters_130 : decode cX10_letters 130 = .ok (.iload_n 3, 1) := by decide +kernel
theorem dX10_letters_131 : decode cX10_letters 131 = .ok (.iadd, 1) := by decide +kernel
theorem dX10_letters_132 : decode cX10_letters 132 = .ok (.putfield 21, 3) := by decide +kernel
theorem dX10_letters_135 : decode cX10_letters 135 = .ok (.return_, 1) := by decide +kernel
theorem dX10_code_0 : decode cX10_code 0 = .ok (.aload_n 0, 1) := by decide +kernel
theorem dX10_code_1 : decode cX10_code 1 = .ok (.invokevirtual 38, 3) := by decide +kernel
theorem dX10_code_4 : decode cX10_code 4 = .ok (.ifCond .eq 4, 3) := by decide +kernel
theorem dX10_code_7 : decode cX10_code 7 = .ok (.return_, 1) := by decide +kernel
theorem dX10_code_8 : decode cX10_code 8 = .ok (.aload_n 0, 1) := by decide +kernel
theorem dX10_code_9 : decode cX10_code 9 = .ok (.getfield 87, 3) := by decide +kernel
theorem dX10_code_12 : decode cX10_code 12 = .ok (.sipush 482, 3) := by decide +kernel
theorem dX10_code_15 : decode cX10_code 15 = .ok (.aload_n 0, 1) := by decide +kernel
theorem dX10_code_16 : decode cX10_code 16 = .ok (.getfield 87, 3) := by decide +kernel
theorem dX10_code_19 : decode cX10_code 19 = .ok (.iconst 3, 1) := by decide +kernel
theorem dX10_code_20 : decode cX10_code 20 = .ok (.iaload, 1) := by decide +kernel
theorem dX10_code_21 : decode cX10_code 21 = .ok (.iadd, 1) := by decide +kernel
theorem dX10_code_22 : decode cX10_code 22 = .ok (.iconst 1, 1) := by decide +kernel
theorem dX10_code_23 : decode cX10_code 23 = .ok (.iadd, 1) := by decide +kernel
theorem dX10_code_24 : decode cX10_code 24 = .ok (.iaload, 1) := by decide +kernel
theorem dX10_code_25 : decode cX10_code 25 = .ok (.istore_n 2, 1) := by decide +kernel
theorem dX10_code_26 : decode cX10_code 26 = .ok (.aload_n 0, 1) := by decide +kernel
theorem dX10_code_27 : decode cX10_code 27 = .ok (.getfield 87, 3) := by decide +kernel
theorem dX10_code_30 : decode cX10_code 30 = .ok (.sipush 489, 3) := by decide +kernel
theorem dX10_code_33 : decode cX10_code 33 = .ok (.iload_n 2, 1) := by decide +kernel
theorem dX10_code_34 : decode cX10_code 34 = .ok (.iadd, 1) := by decide +kernel
theorem dX10_code_35 : decode cX10_code 35 = .ok (.iload_n 1, 1) := by decide +kernel
theorem dX10_code_36 : decode cX10_code 36 = .ok (.iastore, 1) := by decide +kernel
theorem dX10_code_37 : decode cX10_code 37 = .ok (.aload_n 0, 1) := by decide +kernel
theorem dX10_code_38 : decode cX10_code 38 = .ok (.getfield 87, 3) := by decide +kernel
theorem dX10_code_41 : decode cX10_code 41 = .ok (.sipush 482, 3) := by decide +kernel
theorem dX10_code_44 : decode cX10_code 44 = .ok (.aload_n 0, 1) := by decide +kernel
theorem dX10_code_45 : decode cX10_code 45 = .ok (.getfield 87, 3) := by decide +kernel
theorem dX10_code_48 : decode cX10_code 48 = .ok (.iconst 3, 1) := by decide +kernel
theorem dX10_code_49 : decode cX10_code 49 = .ok (.iaload, 1) := by decide +kernel
theorem dX10_code_50 : decode cX10_code 50 = .ok (.iadd, 1) := by decide +kernel
theorem dX10_code_51 : decode cX10_code 51 = .ok (.iconst 1, 1) := by decide +kernel
theorem dX10_code_52 : decode cX10_code 52 = .ok (.iadd, 1) := by decide +kernel
theorem dX10_code_53 : decode cX10_code 53 = .ok (.iload_n 2, 1) := by decide +kernel
theorem dX10_code_54 : decode cX10_code 54 = .ok (.iconst 1, 1) := by decide +kernel
theorem dX10_code_55 : decode cX10_code 55 = .ok (.iadd, 1) := by decide +kernel
theorem dX10_code_56 : decode cX10_code 56 = .ok (.iastore, 1) := by decide +kernel
theorem dX10_code_57 : decode cX10_code 57 = .ok (.return_, 1) := by decide +kernel
theorem dX10_wordTold_0 : decode cX10_wordTold 0 = .ok (.aload_n 0, 1) := by decide +kernel
theorem dX10_wordTold_1 : decode cX10_wordTold 1 = .ok (.ldc 128, 2) := by decide +kernel
theorem dX10_wordTold_3 : decode cX10_wordTold 3 = .ok (.invokevirtual 65, 3) := by decide +kernel
theorem dX10_wordTold_6 : decode cX10_wordTold 6 = .ok (.ifCond .eq 7, 3) := by decide +kernel
theorem dX10_wordTold_9 : decode cX10_wordTold 9 = .ok (.iconst 0, 1) := by decide +kernel
theorem dX10_wordTold_10 : decode cX10_wordTold 10 = .ok (.goto 125, 3) := by decide +kernel
theorem dX10_wordTold_13 : decode cX10_wordTold 13 = .ok (.aload_n 0, 1) := by decide +kernel
theorem dX10_wordTold_14 : decode cX10_wordTold 14 = .ok (.ldc 130, 2) := by decide +kernel
theorem dX10_wordTold_16 : decode cX10_wordTold 16 = .ok (.invokevirtual 65, 3) := by decide +kernel
theorem dX10_wordTold_19 : decode cX10_wordTold 19 = .ok (.ifCond .eq 7, 3) := by decide +kernel
theorem dX10_wordTold_22 : decode cX10_wordTold 22 = .ok (.iconst 1, 1) := by decide +kernel
theorem dX10_wordTold_23 : decode cX10_wordTold 23 = .ok (.goto 112, 3) := by decide +kernel
theorem dX10_wordTold_26 : decode cX10_wordTold 26 = .ok (.aload_n 0, 1) := by decide +kernel
theorem dX10_wordTold_27 : decode cX10_wordTold 27 = .ok (.ldc 132, 2) := by decide +kernel
theorem dX10_wordTold_29 : decode cX10_wordTold 29 = .ok (.invokevirtual 65, 3) := by decide +kernel
theorem dX10_wordTold_32 : decode cX10_wordTold 32 = .ok (.ifCond .eq 7, 3) := by decide +kernel
theorem dX10_wordTold_35 : decode cX10_wordTold 35 = .ok (.iconst 2, 1) := by decide +kernel
theorem dX10_wordTold_36 : decode cX10_wordTold 36 = .ok (.goto 99, 3) := by decide +kernel
theorem dX10_wordTold_39 : decode cX10_wordTold 39 = .ok (.aload_n 0, 1) := by decide +kernel
theorem dX10_wordTold_40 : decode cX10_wordTold 40 = .ok (.ldc 134, 2) := by decide +kernel
theorem dX10_wordTold_42 : decode cX10_wordTold 42 = .ok (.invokevirtual 65, 3) := by decide +kernel
theorem dX10_wordTold_45 : decode cX10_wordTold 45 = .ok (.ifCond .eq 7, 3) := by decide +kernel
theorem dX10_wordTold_48 : decode cX10_wordTold 48 = .ok (.iconst 3, 1) := by decide +kernel
theorem dX10_wordTold_49 : decode cX10_wordTold 49 = .ok (.goto 86, 3) := by decide +kernel
theorem dX10_wordTold_52 : decode cX10_wordTold 52 = .ok (.aload_n 0, 1) := by decide +kernel
theorem dX10_wordTold_53 : decode cX10_wordTold 53 = .ok (.ldc 136, 2) := by decide +kernel
theorem dX10_wordTold_55 : decode cX10_wordTold 55 = .ok (.invokevirtual 65, 3) := by decide +kernel
theorem dX10_wordTold_58 : decode cX10_wordTold 58 = .ok (.ifCond .eq 7, 3) := by decide +kernel
theorem dX10_wordTold_61 : decode cX10_wordTold 61 = .ok (.iconst 4, 1) := by decide +kernel
theorem dX10_wordTold_62 : decode cX10_wordTold 62 = .ok (.goto 73, 3) := by decide +kernel
theorem dX10_wordTold_65 : decode cX10_wordTold 65 = .ok (.aload_n 0, 1) := by decide +kernel
theorem dX10_wordTold_66 : decode cX10_wordTold 66 = .ok (.ldc 138, 2) := by decide +kernel
theorem dX10_wordTold_68 : decode cX10_wordTold 68 = .ok (.invokevirtual 65, 3) := by decide +kernel
theorem dX10_wordTold_71 : decode cX10_wordTold 71 = .ok (.ifCond .eq 7, 3) := by decide +kernel
theorem dX10_wordTold_74 : decode cX10_wordTold 74 = .ok (.iconst 5, 1) := by decide +kernel
theorem dX10_wordTold_75 : decode cX10_wordTold 75 = .ok (.goto 60, 3) := by decide +kernel
theorem dX10_wordTold_78 : decode cX10_wordTold 78 = .ok (.aload_n 0, 1) := by decide +kernel
theorem dX10_wordTold_79 : decode cX10_wordTold 79 = .ok (.ldc 140, 2) := by decide +kernel
theorem dX10_wordTold_81 : decode cX10_wordTold 81 = .ok (.invokevirtual 65, 3) := by decide +kernel
theorem dX10_wordTold_84 : decode cX10_wordTold 84 = .ok (.ifCond .eq 8, 3) := by decide +kernel
theorem dX10_wordTold_87 : decode cX10_wordTold 87 = .ok (.bipush 6, 2) := by decide +kernel
theorem dX10_wordTold_89 : decode cX10_wordTold 89 = .ok (.goto 46, 3) := by decide +kernel
theorem dX10_wordTold_92 : decode cX10_wordTold 92 = .ok (.aload_n 0, 1) := by decide +kernel
theorem dX10_wordTold_93 : decode cX10_wordTold 93 = .ok (.ldc 142, 2) := by decide +kernel
theorem dX10_wordTold_95 : decode cX10_wordTold 95 = .ok (.invokevirtual 65, 3) := by decide +kernel
theorem dX10_wordTold_98 : decode cX10_wordTold 98 = .ok (.ifCond .eq 8, 3) := by decide +kernel
theorem dX10_wordTold_101 : decode cX10_wordTold 101 = .ok (.bipush 7, 2) := by decide +kernel
theorem dX10_wordTold_103 : decode cX10_wordTold 103 = .ok (.goto 32, 3) := by decide +kernel
theorem dX10_wordTold_106 : decode cX10_wordTold 106 = .ok (.aload_n 0, 1) := by decide +kernel
theorem dX10_wordTold_107 : decode cX10_wordTold 107 = .ok (.ldc 144, 2) := by decide +kernel
theorem dX10_wordTold_109 : decode cX10_wordTold 109 = .ok (.invokevirtual 65, 3) := by decide +kernel
theorem dX10_wordTold_112 : decode cX10_wordTold 112 = .ok (.ifCond .eq 8, 3) := by decide +kernel
theorem dX10_wordTold_115 : decode cX10_wordTold 115 = .ok (.bipush 8, 2) := by decide +kernel
theorem dX10_wordTold_117 : decode cX10_wordTold 117 = .ok (.goto 18, 3) := by decide +kernel
theorem dX10_wordTold_120 : decode cX10_wordTold 120 = .ok (.aload_n 0, 1) := by decide +kernel
theorem dX10_wordTold_121 : decode cX10_wordTold 121 = .ok (.ldc 146, 2) := by decide +kernel
theorem dX10_wordTold_123 : decode cX10_wordTold 123 = .ok (.invokevirtual 65, 3) := by decide +kernel
theorem dX10_wordTold_126 : decode cX10_wordTold 126 = .ok (.ifCond .eq 8, 3) := by decide +kernel
theorem dX10_wordTold_129 : decode cX10_wordTold 129 = .ok (.bipush 9, 2) := by decide +kernel
theorem dX10_wordTold_131 : decode cX10_wordTold 131 = .ok (.goto 4, 3) := by decide +kernel
theorem dX10_wordTold_134 : decode cX10_wordTold 134 = .ok (.iconst (-1), 1) := by decide +kernel
theorem dX10_wordTold_135 : decode cX10_wordTold 135 = .ok (.ireturn, 1) := by decide +kernel
theorem dX10_atom_0 : decode cX10_atom 0 = .ok (.aload_n 0, 1) := by decide +kernel
theorem dX10_atom_1 : decode cX10_atom 1 = .ok (.bipush 40, 2) := by decide +kernel
theorem dX10_atom_3 : decode cX10_atom 3 = .ok (.invokevirtual 42, 3) := by decide +kernel
theorem dX10_atom_6 : decode cX10_atom 6 = .ok (.ifCond .eq 56, 3) := by decide +kernel
theorem dX10_atom_9 : decode cX10_atom 9 = .ok (.aload_n 0, 1) := by decide +kernel
theorem dX10_atom_10 : decode cX10_atom 10 = .ok (.getfield 148, 3) := by decide +kernel
theorem dX10_atom_13 : decode cX10_atom 13 = .ok (.iconst 4, 1) := by decide +kernel
theorem dX10_atom_14 : decode cX10_atom 14 = .ok (.if_icmp .ne 7, 3) := by decide +kernel
theorem dX10_atom_17 : decode cX10_atom 17 = .ok (.aload_n 0, 1) := by decide +kernel
theorem dX10_atom_18 : decode cX10_atom 18 = .ok (.invokevirtual 49, 3) := by decide +kernel
theorem dX10_atom_21 : decode cX10_atom 21 = .ok (.aload_n 0, 1) := by decide +kernel
theorem dX10_atom_22 : decode cX10_atom 22 = .ok (.dup, 1) := by decide +kernel
theorem dX10_atom_23 : decode cX10_atom 23 = .ok (.getfield 148, 3) := by decide +kernel
theorem dX10_atom_26 : decode cX10_atom 26 = .ok (.iconst 1, 1) := by decide +kernel
theorem dX10_atom_27 : decode cX10_atom 27 = .ok (.iadd, 1) := by decide +kernel
theorem dX10_atom_28 : decode cX10_atom 28 = .ok (.putfield 148, 3) := by decide +kernel
theorem dX10_atom_31 : decode cX10_atom 31 = .ok (.aload_n 0, 1) := by decide +kernel
theorem dX10_atom_32 : decode cX10_atom 32 = .ok (.dup, 1) := by decide +kernel
theorem dX10_atom_33 : decode cX10_atom 33 = .ok (.getfield 21, 3) := by decide +kernel
theorem dX10_atom_36 : decode cX10_atom 36 = .ok (.iconst 1, 1) := by decide +kernel
theorem dX10_atom_37 : decode cX10_atom 37 = .ok (.iadd, 1) := by decide +kernel
theorem dX10_atom_38 : decode cX10_atom 38 = .ok (.putfield 21, 3) := by decide +kernel
theorem dX10_atom_41 : decode cX10_atom 41 = .ok (.aload_n 0, 1) := by decide +kernel
theorem dX10_atom_42 : decode cX10_atom 42 = .ok (.invokevirtual 151, 3) := by decide +kernel
theorem dX10_atom_45 : decode cX10_atom 45 = .ok (.aload_n 0, 1) := by decide +kernel
theorem dX10_atom_46 : decode cX10_atom 46 = .ok (.bipush 41, 2) := by decide +kernel
theorem dX10_atom_48 : decode cX10_atom 48 = .ok (.invokevirtual 154, 3) := by decide +kernel
theorem dX10_atom_51 : decode cX10_atom 51 = .ok (.aload_n 0, 1) := by decide +kernel
theorem dX10_atom_52 : decode cX10_atom 52 = .ok (.dup, 1) := by decide +kernel
theorem dX10_atom_53 : decode cX10_atom 53 = .ok (.getfield 148, 3) := by decide +kernel
theorem dX10_atom_56 : decode cX10_atom 56 = .ok (.iconst 1, 1) := by decide +kernel
theorem dX10_atom_57 : decode cX10_atom 57 = .ok (.isub, 1) := by decide +kernel
theorem dX10_atom_58 : decode cX10_atom 58 = .ok (.putfield 148, 3) := by decide +kernel
theorem dX10_atom_61 : decode cX10_atom 61 = .ok (.return_, 1) := by decide +kernel
theorem dX10_atom_62 : decode cX10_atom 62 = .ok (.aload_n 0, 1) := by decide +kernel
theorem dX10_atom_63 : decode cX10_atom 63 = .ok (.invokevirtual 158, 3) := by decide +kernel
theorem dX10_atom_66 : decode cX10_atom 66 = .ok (.istore_n 1, 1) := by decide +kernel
theorem dX10_atom_67 : decode cX10_atom 67 = .ok (.iload_n 1, 1) := by decide +kernel
theorem dX10_atom_68 : decode cX10_atom 68 = .ok (.iconst (-1), 1) := by decide +kernel
theorem dX10_atom_69 : decode cX10_atom 69 = .ok (.if_icmp .ne 18, 3) := by decide +kernel
theorem dX10_atom_72 : decode cX10_atom 72 = .ok (.aload_n 0, 1) := by decide +kernel
theorem dX10_atom_73 : decode cX10_atom 73 = .ok (.aload_n 0, 1) := by decide +kernel
theorem dX10_atom_74 : decode cX10_atom 74 = .ok (.iconst 0, 1) := by decide +kernel
theorem dX10_atom_75 : decode cX10_atom 75 = .ok (.sipush 9999, 3) := by decide +kernel
theorem dX10_atom_78 : decode cX10_atom 78 = .ok (.invokevirtual 161, 3) := by decide +kernel
theorem dX10_atom_81 : decode cX10_atom 81 = .ok (.invokevirtual 164, 3) := by decide +kernel
theorem dX10_atom_84 : decode cX10_atom 84 = .ok (.goto 25, 3) := by decide +kernel
theorem dX10_atom_87 : decode cX10_atom 87 = .ok (.aload_n 0, 1) := by decide +kernel
theorem dX10_atom_88 : decode cX10_atom 88 = .ok (.dup, 1) := by decide +kernel
theorem dX10_atom_89 : decode cX10_atom 89 = .ok (.getfield 21, 3) := by decide +kernel
theorem dX10_atom_92 : decode cX10_atom 92 = .ok (.aload_n 0, 1) := by decide +kernel
theorem dX10_atom_93 : decode cX10_atom 93 = .ok (.invokevirtual 52, 3) := by decide +kernel
theorem dX10_atom_96 : decode cX10_atom 96 = .ok (.iadd, 1) := by decide +kernel
theorem dX10_atom_97 : decode cX10_atom 97 = .ok (.putfield 21, 3) := by decide +kernel
theorem dX10_atom_100 : decode cX10_atom 100 = .ok (.aload_n 0, 1) := by decide +kernel
theorem dX10_atom_101 : decode cX10_atom 101 = .ok (.sipush 10020, 3) := by decide +kernel
theorem dX10_atom_104 : decode cX10_atom 104 = .ok (.iload_n 1, 1) := by decide +kernel
theorem dX10_atom_105 : decode cX10_atom 105 = .ok (.iadd, 1) := by decide +kernel
theorem dX10_atom_106 : decode cX10_atom 106 = .ok (.invokevirtual 164, 3) := by decide +kernel
theorem dX10_atom_109 : decode cX10_atom 109 = .ok (.return_, 1) := by decide +kernel
theorem dX10_term_0 : decode cX10_term 0 = .ok (.aload_n 0, 1) := by decide +kernel
theorem dX10_term_1 : decode cX10_term 1 = .ok (.invokevirtual 167, 3) := by decide +kernel
theorem dX10_term_4 : decode cX10_term 4 = .ok (.aload_n 0, 1) := by decide +kernel
theorem dX10_term_5 : decode cX10_term 5 = .ok (.bipush 42, 2) := by decide +kernel
theorem dX10_term_7 : decode cX10_term 7 = .ok (.invokevirtual 46, 3) := by decide +kernel
theorem dX10_term_10 : decode cX10_term 10 = .ok (.ifCond .eq 17, 3) := by decide +kernel
theorem dX10_term_13 : decode cX10_term 13 = .ok (.aload_n 0, 1) := by decide +kernel
theorem dX10_term_14 : decode cX10_term 14 = .ok (.invokevirtual 167, 3) := by decide +kernel
theorem dX10_term_17 : decode cX10_term 17 = .ok (.aload_n 0, 1) := by decide +kernel
theorem dX10_term_18 : decode cX10_term 18 = .ok (.sipush 10003, 3) := by decide +kernel
theorem dX10_term_21 : decode cX10_term 21 = .ok (.invokevirtual 164, 3) := by decide +kernel
theorem dX10_term_24 : decode cX10_term 24 = .ok (.goto (-20), 3) := by decide +kernel
theorem dX10_term_27 : decode cX10_term 27 = .ok (.return_, 1) := by decide +kernel
theorem dX10_sum_0 : decode cX10_sum 0 = .ok (.aload_n 0, 1) := by decide +kernel
theorem dX10_sum_1 : decode cX10_sum 1 = .ok (.invokevirtual 38, 3) := by decide +kernel
theorem dX10_sum_4 : decode cX10_sum 4 = .ok (.ifCond .eq 4, 3) := by decide +kernel
theorem dX10_sum_7 : decode cX10_sum 7 = .ok (.return_, 1) := by decide +kernel
theorem dX10_sum_8 : decode cX10_sum 8 = .ok (.aload_n 0, 1) := by decide +kernel
theorem dX10_sum_9 : decode cX10_sum 9 = .ok (.invokevirtual 170, 3) := by decide +kernel
theorem dX10_sum_12 : decode cX10_sum 12 = .ok (.aload_n 0, 1) := by decide +kernel
theorem dX10_sum_13 : decode cX10_sum 13 = .ok (.bipush 43, 2) := by decide +kernel
theorem dX10_sum_15 : decode cX10_sum 15 = .ok (.invokevirtual 42, 3) := by decide +kernel
theorem dX10_sum_18 : decode cX10_sum 18 = .ok (.ifCond .ne 12, 3) := by decide +kernel
theorem dX10_sum_21 : decode cX10_sum 21 = .ok (.aload_n 0, 1) := by decide +kernel
theorem dX10_sum_22 : decode cX10_sum 22 = .ok (.bipush 45, 2) := by decide +kernel
theorem dX10_sum_24 : decode cX10_sum 24 = .ok (.invokevirtual 42, 3) := by decide +kernel
theorem dX10_sum_27 : decode cX10_sum 27 = .ok (.ifCond .eq 49, 3) := by decide +kernel
theorem dX10_sum_30 : decode cX10_sum 30 = .ok (.aload_n 0, 1) := by decide +kernel
theorem dX10_sum_31 : decode cX10_sum 31 = .ok (.getfield 14, 3) := by decide +kernel
theorem dX10_sum_34 : decode cX10_sum 34 = .ok (.aload_n 0, 1) := by decide +kernel
theorem dX10_sum_35 : decode cX10_sum 35 = .ok (.getfield 21, 3) := by decide +kernel
theorem dX10_sum_38 : decode cX10_sum 38 = .ok (.baload, 1) := by decide +kernel
theorem dX10_sum_39 : decode cX10_sum 39 = .ok (.istore_n 1, 1) := by decide +kernel
theorem dX10_sum_40 : decode cX10_sum 40 = .ok (.aload_n 0, 1) := by decide +kernel
theorem dX10_sum_41 : decode cX10_sum 41 = .ok (.dup, 1) := by decide +kernel
theorem dX10_sum_42 : decode cX10_sum 42 = .ok (.getfield 21, 3) := by decide +kernel
theorem dX10_sum_45 : decode cX10_sum 45 = .ok (.iconst 1, 1) := by decide +kernel
theorem dX10_sum_46 : decode cX10_sum 46 = .ok (.iadd, 1) := by decide +kernel
theorem dX10_sum_47 : decode cX10_sum 47 = .ok (.putfield 21, 3) := by decide +kernel
theorem dX10_sum_50 : decode cX10_sum 50 = .ok (.aload_n 0, 1) := by decide +kernel
theorem dX10_sum_51 : decode cX10_sum 51 = .ok (.invokevirtual 170, 3) := by decide +kernel
theorem dX10_sum_54 : decode cX10_sum 54 = .ok (.aload_n 0, 1) := by decide +kernel
theorem dX10_sum_55 : decode cX10_sum 55 = .ok (.iload_n 1, 1) := by decide +kernel
theorem dX10_sum_56 : decode cX10_sum 56 = .ok (.bipush 43, 2) := by decide +kernel
theorem dX10_sum_58 : decode cX10_sum 58 = .ok (.if_icmp .ne 9, 3) := by decide +kernel
theorem dX10_sum_61 : decode cX10_sum 61 = .ok (.sipush 10001, 3) := by decide +kernel
theorem dX10_sum_64 : decode cX10_sum 64 = .ok (.goto 6, 3) := by decide +kernel
theorem dX10_sum_67 : decode cX10_sum 67 = .ok (.sipush 10002, 3) := by decide +kernel
theorem dX10_sum_70 : decode cX10_sum 70 = .ok (.invokevirtual 164, 3) := by decide +kernel
theorem dX10_sum_73 : decode cX10_sum 73 = .ok (.goto (-61), 3) := by decide +kernel
theorem dX10_sum_76 : decode cX10_sum 76 = .ok (.return_, 1) := by decide +kernel
theorem dX10_fact_0 : decode cX10_fact 0 = .ok (.aload_n 0, 1) := by decide +kernel
theorem dX10_fact_1 : decode cX10_fact 1 = .ok (.invokevirtual 151, 3) := by decide +kernel
theorem dX10_fact_4 : decode cX10_fact 4 = .ok (.aload_n 0, 1) := by decide +kernel
theorem dX10_fact_5 : decode cX10_fact 5 = .ok (.invokevirtual 34, 3) := by decide +kernel
theorem dX10_fact_8 : decode cX10_fact 8 = .ok (.aload_n 0, 1) := by decide +kernel
theorem dX10_fact_9 : decode cX10_fact 9 = .ok (.getfield 21, 3) := by decide +kernel
theorem dX10_fact_12 : decode cX10_fact 12 = .ok (.aload_n 0, 1) := by decide +kernel
theorem dX10_fact_13 : decode cX10_fact 13 = .ok (.getfield 24, 3) := by decide +kernel
theorem dX10_fact_16 : decode cX10_fact 16 = .ok (.if_icmp .ge 15, 3) := by decide +kernel
theorem dX10_fact_19 : decode cX10_fact 19 = .ok (.aload_n 0, 1) := by decide +kernel
theorem dX10_fact_20 : decode cX10_fact 20 = .ok (.getfield 14, 3) := by decide +kernel
theorem dX10_fact_23 : decode cX10_fact 23 = .ok (.aload_n 0, 1) := by decide +kernel
theorem dX10_fact_24 : decode cX10_fact 24 = .ok (.getfield 21, 3) := by decide +kernel
theorem dX10_fact_27 : decode cX10_fact 27 = .ok (.baload, 1) := by decide +kernel
theorem dX10_fact_28 : decode cX10_fact 28 = .ok (.goto 4, 3) := by decide +kernel
theorem dX10_fact_31 : decode cX10_fact 31 = .ok (.iconst 0, 1) := by decide +kernel
theorem dX10_fact_32 : decode cX10_fact 32 = .ok (.istore_n 1, 1) := by decide +kernel
theorem dX10_fact_33 : decode cX10_fact 33 = .ok (.aload_n 0, 1) := by decide +kernel
theorem dX10_fact_34 : decode cX10_fact 34 = .ok (.invokevirtual 38, 3) := by decide +kernel
theorem dX10_fact_37 : decode cX10_fact 37 = .ok (.ifCond .ne 21, 3) := by decide +kernel
theorem dX10_fact_40 : decode cX10_fact 40 = .ok (.iload_n 1, 1) := by decide +kernel
theorem dX10_fact_41 : decode cX10_fact 41 = .ok (.bipush 60, 2) := by decide +kernel
theorem dX10_fact_43 : decode cX10_fact 43 = .ok (.if_icmp .eq 20, 3) := by decide +kernel
theorem dX10_fact_46 : decode cX10_fact 46 = .ok (.iload_n 1, 1) := by decide +kernel
theorem dX10_fact_47 : decode cX10_fact 47 = .ok (.bipush 61, 2) := by decide +kernel
theorem dX10_fact_49 : decode cX10_fact 49 = .ok (.if_icmp .eq 14, 3) := by decide +kernel
theorem dX10_fact_52 : decode cX10_fact 52 = .ok (.iload_n 1, 1) := by decide +kernel
theorem dX10_fact_53 : decode cX10_fact 53 = .ok (.bipush 62, 2) := by decide +kernel
theorem dX10_fact_55 : decode cX10_fact 55 = .ok (.if_icmp .eq 8, 3) := by decide +kernel
theorem dX10_fact_58 : decode cX10_fact 58 = .ok (.aload_n 0, 1) := by decide +kernel
theorem dX10_fact_59 : decode cX10_fact 59 = .ok (.invokevirtual 49, 3) := by decide +kernel
theorem dX10_fact_62 : decode cX10_fact 62 = .ok (.return_, 1) := by decide +kernel
theorem dX10_fact_63 : decode cX10_fact 63 = .ok (.aload_n 0, 1) := by decide +kernel
theorem dX10_fact_64 : decode cX10_fact 64 = .ok (.dup, 1) := by decide +kernel
theorem dX10_fact_65 : decode cX10_fact 65 = .ok (.getfield 21, 3) := by decide +kernel
theorem dX10_fact_68 : decode cX10_fact 68 = .ok (.iconst 1, 1) := by decide +kernel
theorem dX10_fact_69 : decode cX10_fact 69 = .ok (.iadd, 1) := by decide +kernel
theorem dX10_fact_70 : decode cX10_fact 70 = .ok (.putfield 21, 3) := by decide +kernel
theorem dX10_fact_73 : decode cX10_fact 73 = .ok (.aload_n 0, 1) := by decide +kernel
theorem dX10_fact_74 : decode cX10_fact 74 = .ok (.invokevirtual 151, 3) := by decide +kernel
theorem dX10_fact_77 : decode cX10_fact 77 = .ok (.aload_n 0, 1) := by decide +kernel
theorem dX10_fact_78 : decode cX10_fact 78 = .ok (.iload_n 1, 1) := by decide +kernel
theorem dX10_fact_79 : decode cX10_fact 79 = .ok (.bipush 60, 2) := by decide +kernel
theorem dX10_fact_81 : decode cX10_fact 81 = .ok (.if_icmp .ne 9, 3) := by decide +kernel
theorem dX10_fact_84 : decode cX10_fact 84 = .ok (.sipush 10004, 3) := by decide +kernel
theorem dX10_fact_87 : decode cX10_fact 87 = .ok (.goto 18, 3) := by decide +kernel
theorem dX10_fact_90 : decode cX10_fact 90 = .ok (.iload_n 1, 1) := by decide +kernel
theorem dX10_fact_91 : decode cX10_fact 91 = .ok (.bipush 61, 2) := by decide +kernel
theorem dX10_fact_93 : decode cX10_fact 93 = .ok (.if_icmp .ne 9, 3) := by decide +kernel
theorem dX10_fact_96 : decode cX10_fact 96 = .ok (.sipush 10005, 3) := by decide +kernel
theorem dX10_fact_99 : decode cX10_fact 99 = .ok (.goto 6, 3) := by decide +kernel
theorem dX10_fact_102 : decode cX10_fact 102 = .ok (.sipush 10006, 3) := by decide +kernel
theorem dX10_fact_105 : decode cX10_fact 105 = .ok (.invokevirtual 164, 3) := by decide +kernel
theorem dX10_fact_108 : decode cX10_fact 108 = .ok (.return_, 1) := by decide +kernel
theorem dX10_part_0 : decode cX10_part 0 = .ok (.aload_n 0, 1) := by decide +kernel
theorem dX10_part_1 : decode cX10_part 1 = .ok (.invokevirtual 173, 3) := by decide +kernel
theorem dX10_part_4 : decode cX10_part 4 = .ok (.aload_n 0, 1) := by decide +kernel
theorem dX10_part_5 : decode cX10_part 5 = .ok (.ldc 176, 2) := by decide +kernel
theorem dX10_part_7 : decode cX10_part 7 = .ok (.invokevirtual 178, 3) := by decide +kernel
theorem dX10_part_10 : decode cX10_part 10 = .ok (.ifCond .eq 17, 3) := by decide +kernel
theorem dX10_part_13 : decode cX10_part 13 = .ok (.aload_n 0, 1) := by decide +kernel
theorem dX10_part_14 : decode cX10_part 14 = .ok (.invokevirtual 173, 3) := by decide +kernel
theorem dX10_part_17 : decode cX10_part 17 = .ok (.aload_n 0, 1) := by decide +kernel
theorem dX10_part_18 : decode cX10_part 18 = .ok (.sipush 10007, 3) := by decide +kernel
theorem dX10_part_21 : decode cX10_part 21 = .ok (.invokevirtual 164, 3) := by decide +kernel
theorem dX10_part_24 : decode cX10_part 24 = .ok (.goto (-20), 3) := by decide +kernel
theorem dX10_part_27 : decode cX10_part 27 = .ok (.return_, 1) := by decide +kernel
theorem dX10_test_0 : decode cX10_test 0 = .ok (.aload_n 0, 1) := by decide +kernel
theorem dX10_test_1 : decode cX10_test 1 = .ok (.invokevirtual 181, 3) := by decide +kernel
theorem dX10_test_4 : decode cX10_test 4 = .ok (.aload_n 0, 1) := by decide +kernel
theorem dX10_test_5 : decode cX10_test 5 = .ok (.ldc 184, 2) := by decide +kernel
theorem dX10_test_7 : decode cX10_test 7 = .ok (.invokevirtual 178, 3) := by decide +kernel
theorem dX10_test_10 : decode cX10_test 10 = .ok (.ifCond .eq 17, 3) := by decide +kernel
theorem dX10_test_13 : decode cX10_test 13 = .ok (.aload_n 0, 1) := by decide +kernel
theorem dX10_test_14 : decode cX10_test 14 = .ok (.invokevirtual 181, 3) := by decide +kernel
theorem dX10_test_17 : decode cX10_test 17 = .ok (.aload_n 0, 1) := by decide +kernel
theorem dX10_test_18 : decode cX10_test 18 = .ok (.sipush 10008, 3) := by decide +kernel
theorem dX10_test_21 : decode cX10_test 21 = .ok (.invokevirtual 164, 3) := by decide +kernel
theorem dX10_test_24 : decode cX10_test 24 = .ok (.goto (-20), 3) := by decide +kernel
theorem dX10_test_27 : decode cX10_test 27 = .ok (.return_, 1) := by decide +kernel
theorem dX10_ruleLine_0 : decode cX10_ruleLine 0 = .ok (.aload_n 0, 1) := by decide +kernel
theorem dX10_ruleLine_1 : decode cX10_ruleLine 1 = .ok (.getfield 87, 3) := by decide +kernel
theorem dX10_ruleLine_4 : decode cX10_ruleLine 4 = .ok (.sipush 482, 3) := by decide +kernel
theorem dX10_ruleLine_7 : decode cX10_ruleLine 7 = .ok (.aload_n 0, 1) := by decide +kernel
theorem dX10_ruleLine_8 : decode cX10_ruleLine 8 = .ok (.getfield 87, 3) := by decide +kernel
theorem dX10_ruleLine_11 : decode cX10_ruleLine 11 = .ok (.iconst 3, 1) := by decide +kernel
theorem dX10_ruleLine_12 : decode cX10_ruleLine 12 = .ok (.iaload, 1) := by decide +kernel
theorem dX10_ruleLine_13 : decode cX10_ruleLine 13 = .ok (.iadd, 1) := by decide +kernel
theorem dX10_ruleLine_14 : decode cX10_ruleLine 14 = .ok (.iconst 1, 1) := by decide +kernel
theorem dX10_ruleLine_15 : decode cX10_ruleLine 15 = .ok (.iadd, 1) := by decide +kernel
theorem dX10_ruleLine_16 : decode cX10_ruleLine 16 = .ok (.aload_n 0, 1) := by decide +kernel
theorem dX10_ruleLine_17 : decode cX10_ruleLine 17 = .ok (.getfield 87, 3) := by decide +kernel
theorem dX10_ruleLine_20 : decode cX10_ruleLine 20 = .ok (.sipush 482, 3) := by decide +kernel
theorem dX10_ruleLine_23 : decode cX10_ruleLine 23 = .ok (.aload_n 0, 1) := by decide +kernel
theorem dX10_ruleLine_24 : decode cX10_ruleLine 24 = .ok (.getfield 87, 3) := by decide +kernel
theorem dX10_ruleLine_27 : decode cX10_ruleLine 27 = .ok (.iconst 3, 1) := by decide +kernel
theorem dX10_ruleLine_28 : decode cX10_ruleLine 28 = .ok (.iaload, 1) := by decide +kernel
theorem dX10_ruleLine_29 : decode cX10_ruleLine 29 = .ok (.iadd, 1) := by decide +kernel
theorem dX10_ruleLine_30 : decode cX10_ruleLine 30 = .ok (.iaload, 1) := by decide +kernel
theorem dX10_ruleLine_31 : decode cX10_ruleLine 31 = .ok (.iastore, 1) := by decide +kernel
theorem dX10_ruleLine_32 : decode cX10_ruleLine 32 = .ok (.aload_n 0, 1) := by decide +kernel
theorem dX10_ruleLine_33 : decode cX10_ruleLine 33 = .ok (.invokevirtual 151, 3) := by decide +kernel
theorem dX10_ruleLine_36 : decode cX10_ruleLine 36 = .ok (.aload_n 0, 1) := by decide +kernel
theorem dX10_ruleLine_37 : decode cX10_ruleLine 37 = .ok (.ldc 186, 2) := by decide +kernel
theorem dX10_ruleLine_39 : decode cX10_ruleLine 39 = .ok (.invokevirtual 178, 3) := by decide +kernel
theorem dX10_ruleLine_42 : decode cX10_ruleLine 42 = .ok (.ifCond .eq 14, 3) := by decide +kernel
theorem dX10_ruleLine_45 : decode cX10_ruleLine 45 = .ok (.aload_n 0, 1) := by decide +kernel
theorem dX10_ruleLine_46 : decode cX10_ruleLine 46 = .ok (.invokevirtual 188, 3) := by decide +kernel
theorem dX10_ruleLine_49 : decode cX10_ruleLine 49 = .ok (.aload_n 0, 1) := by decide +kernel
theorem dX10_ruleLine_50 : decode cX10_ruleLine 50 = .ok (.sipush 10009, 3) := by decide +kernel
theorem dX10_ruleLine_53 : decode cX10_ruleLine 53 = .ok (.invokevirtual 164, 3) := by decide +kernel
theorem dX10_ruleLine_56 : decode cX10_ruleLine 56 = .ok (.aload_n 0, 1) := by decide +kernel
theorem dX10_ruleLine_57 : decode cX10_ruleLine 57 = .ok (.getfield 87, 3) := by decide +kernel
theorem dX10_ruleLine_60 : decode cX10_ruleLine 60 = .ok (.iconst 3, 1) := by decide +kernel
theorem dX10_ruleLine_61 : decode cX10_ruleLine 61 = .ok (.dup2, 1) := by decide +kernel
theorem dX10_ruleLine_62 : decode cX10_ruleLine 62 = .ok (.iaload, 1) := by decide +kernel
theorem dX10_ruleLine_63 : decode cX10_ruleLine 63 = .ok (.iconst 1, 1) := by decide +kernel
theorem dX10_ruleLine_64 : decode cX10_ruleLine 64 = .ok (.iadd, 1) := by decide +kernel
theorem dX10_ruleLine_65 : decode cX10_ruleLine 65 = .ok (.iastore, 1) := by decide +kernel
theorem dX10_ruleLine_66 : decode cX10_ruleLine 66 = .ok (.return_, 1) := by decide +kernel
theorem dX10_elementLine_0 : decode cX10_elementLine 0 = .ok (.aload_n 0, 1) := by decide +kernel
theorem dX10_elementLine_1 : decode cX10_elementLine 1 = .ok (.getfield 87, 3) := by decide +kernel
theorem dX10_elementLine_4 : decode cX10_elementLine 4 = .ok (.iconst 0, 1) := by decide +kernel
theorem dX10_elementLine_5 : decode cX10_elementLine 5 = .ok (.iaload, 1) := by decide +kernel
theorem dX10_elementLine_6 : decode cX10_elementLine 6 = .ok (.istore_n 1, 1) := by decide +kernel
theorem dX10_elementLine_7 : decode cX10_elementLine 7 = .ok (.aload_n 0, 1) := by decide +kernel
theorem dX10_elementLine_8 : decode cX10_elementLine 8 = .ok (.bipush 14, 2) := by decide +kernel
theorem dX10_elementLine_10 : decode cX10_elementLine 10 = .ok (.iload_n 1, 1) := by decide +kernel
theorem dX10_elementLine_11 : decode cX10_elementLine 11 = .ok (.invokevirtual 191, 3) := by decide +kernel
theorem dX10_elementLine_14 : decode cX10_elementLine 14 = .ok (.aload_n 0, 1) := by decide +kernel
theorem dX10_elementLine_15 : decode cX10_elementLine 15 = .ok (.getfield 87, 3) := by decide +kernel
theorem dX10_elementLine_18 : decode cX10_elementLine 18 = .ok (.iconst 4, 1) := by decide +kernel
theorem dX10_elementLine_19 : decode cX10_elementLine 19 = .ok (.iload_n 1, 1) := by decide +kernel
theorem dX10_elementLine_20 : decode cX10_elementLine 20 = .ok (.iadd, 1) := by decide +kernel
theorem dX10_elementLine_21 : decode cX10_elementLine 21 = .ok (.aload_n 0, 1) := by decide +kernel
theorem dX10_elementLine_22 : decode cX10_elementLine 22 = .ok (.ldc 195, 2) := by decide +kernel
theorem dX10_elementLine_24 : decode cX10_elementLine 24 = .ok (.invokevirtual 178, 3) := by decide +kernel
theorem dX10_elementLine_27 : decode cX10_elementLine 27 = .ok (.ifCond .eq 7, 3) := by decide +kernel
theorem dX10_elementLine_30 : decode cX10_elementLine 30 = .ok (.iconst 0, 1) := by decide +kernel
theorem dX10_elementLine_31 : decode cX10_elementLine 31 = .ok (.goto 17, 3) := by decide +kernel
theorem dX10_elementLine_34 : decode cX10_elementLine 34 = .ok (.aload_n 0, 1) := by decide +kernel
theorem dX10_elementLine_35 : decode cX10_elementLine 35 = .ok (.ldc 197, 2) := by decide +kernel
theorem dX10_elementLine_37 : decode cX10_elementLine 37 = .ok (.invokevirtual 178, 3) := by decide +kernel
theorem dX10_elementLine_40 : decode cX10_elementLine 40 = .ok (.ifCond .eq 7, 3) := by decide +kernel
theorem dX10_elementLine_43 : decode cX10_elementLine 43 = .ok (.iconst 1, 1) := by decide +kernel
theorem dX10_elementLine_44 : decode cX10_elementLine 44 = .ok (.goto 4, 3) := by decide +kernel
theorem dX10_elementLine_47 : decode cX10_elementLine 47 = .ok (.iconst 2, 1) := by decide +kernel
theorem dX10_elementLine_48 : decode cX10_elementLine 48 = .ok (.iastore, 1) := by decide +kernel
theorem dX10_elementLine_49 : decode cX10_elementLine 49 = .ok (.aload_n 0, 1) := by decide +kernel
theorem dX10_elementLine_50 : decode cX10_elementLine 50 = .ok (.getfield 87, 3) := by decide +kernel
theorem dX10_elementLine_53 : decode cX10_elementLine 53 = .ok (.iconst 4, 1) := by decide +kernel
theorem dX10_elementLine_54 : decode cX10_elementLine 54 = .ok (.iload_n 1, 1) := by decide +kernel
theorem dX10_elementLine_55 : decode cX10_elementLine 55 = .ok (.iadd, 1) := by decide +kernel
theorem dX10_elementLine_56 : decode cX10_elementLine 56 = .ok (.iaload, 1) := by decide +kernel
theorem dX10_elementLine_57 : decode cX10_elementLine 57 = .ok (.iconst 2, 1) := by decide +kernel
theorem dX10_elementLine_58 : decode cX10_elementLine 58 = .ok (.if_icmp .ne 16, 3) := by decide +kernel
theorem dX10_elementLine_61 : decode cX10_elementLine 61 = .ok (.aload_n 0, 1) := by decide +kernel
theorem dX10_elementLine_62 : decode cX10_elementLine 62 = .ok (.ldc 138, 2) := by decide +kernel
theorem dX10_elementLine_64 : decode cX10_elementLine 64 = .ok (.invokevirtual 178, 3) := by decide +kernel
theorem dX10_elementLine_67 : decode cX10_elementLine 67 = .ok (.ifCond .ne 7, 3) := by decide +kernel
theorem dX10_elementLine_70 : decode cX10_elementLine 70 = .ok (.aload_n 0, 1) := by decide +kernel
theorem dX10_elementLine_71 : decode cX10_elementLine 71 = .ok (.invokevirtual 49, 3) := by decide +kernel
theorem dX10_elementLine_74 : decode cX10_elementLine 74 = .ok (.aload_n 0, 1) := by decide +kernel
theorem dX10_elementLine_75 : decode cX10_elementLine 75 = .ok (.getfield 90, 3) := by decide +kernel
theorem dX10_elementLine_78 : decode cX10_elementLine 78 = .ok (.sipush 954, 3) := by decide +kernel
theorem dX10_elementLine_81 : decode cX10_elementLine 81 = .ok (.iload_n 1, 1) := by decide +kernel
theorem dX10_elementLine_82 : decode cX10_elementLine 82 = .ok (.iadd, 1) := by decide +kernel
theorem dX10_elementLine_83 : decode cX10_elementLine 83 = .ok (.aload_n 0, 1) := by decide +kernel
theorem dX10_elementLine_84 : decode cX10_elementLine 84 = .ok (.iconst 0, 1) := by decide +kernel
theorem dX10_elementLine_85 : decode cX10_elementLine 85 = .ok (.sipush 2000, 3) := by decide +kernel
theorem dX10_elementLine_88 : decode cX10_elementLine 88 = .ok (.invokevirtual 161, 3) := by decide +kernel
theorem dX10_elementLine_91 : decode cX10_elementLine 91 = .ok (.iastore, 1) := by decide +kernel
theorem dX10_elementLine_92 : decode cX10_elementLine 92 = .ok (.aload_n 0, 1) := by decide +kernel
theorem dX10_elementLine_93 : decode cX10_elementLine 93 = .ok (.getfield 87, 3) := by decide +kernel
theorem dX10_elementLine_96 : decode cX10_elementLine 96 = .ok (.iconst 0, 1) := by decide +kernel
theorem dX10_elementLine_97 : decode cX10_elementLine 97 = .ok (.dup2, 1) := by decide +kernel
theorem dX10_elementLine_98 : decode cX10_elementLine 98 = .ok (.iaload, 1) := by decide +kernel
theorem dX10_elementLine_99 : decode cX10_elementLine 99 = .ok (.iconst 1, 1) := by decide +kernel
theorem dX10_elementLine_100 : decode cX10_elementLine 100 = .ok (.iadd, 1) := by decide +kernel
theorem dX10_elementLine_101 : decode cX10_elementLine 101 = .ok (.iastore, 1) := by decide +kernel
theorem dX10_elementLine_102 : decode cX10_elementLine 102 = .ok (.return_, 1) := by decide +kernel
theorem dX10_tryAt_0 : decode cX10_tryAt 0 = .ok (.bipush 12, 2) := by decide +kernel
theorem dX10_tryAt_2 : decode cX10_tryAt 2 = .ok (.iload_n 0, 1) := by decide +kernel
theorem dX10_tryAt_3 : decode cX10_tryAt 3 = .ok (.imul, 1) := by decide +kernel
theorem dX10_tryAt_4 : decode cX10_tryAt 4 = .ok (.iload_n 1, 1) := by decide +kernel
theorem dX10_tryAt_5 : decode cX10_tryAt 5 = .ok (.iadd, 1) := by decide +kernel
theorem dX10_tryAt_6 : decode cX10_tryAt 6 = .ok (.ireturn, 1) := by decide +kernel
theorem dX10_doLine_0 : decode cX10_doLine 0 = .ok (.aload_n 0, 1) := by decide +kernel
theorem dX10_doLine_1 : decode cX10_doLine 1 = .ok (.getfield 87, 3) := by decide +kernel
theorem dX10_doLine_4 : decode cX10_doLine 4 = .ok (.iconst 1, 1) := by decide +kernel
theorem dX10_doLine_5 : decode cX10_doLine 5 = .ok (.iaload, 1) := by decide +kernel
theorem dX10_doLine_6 : decode cX10_doLine 6 = .ok (.iconst 1, 1) := by decide +kernel
theorem dX10_doLine_7 : decode cX10_doLine 7 = .ok (.isub, 1) := by decide +kernel
theorem dX10_doLine_8 : decode cX10_doLine 8 = .ok (.istore_n 1, 1) := by decide +kernel
theorem dX10_doLine_9 : decode cX10_doLine 9 = .ok (.aload_n 0, 1) := by decide +kernel
theorem dX10_doLine_10 : decode cX10_doLine 10 = .ok (.getfield 87, 3) := by decide +kernel
theorem dX10_doLine_13 : decode cX10_doLine 13 = .ok (.bipush 116, 2) := by decide +kernel
theorem dX10_doLine_15 : decode cX10_doLine 15 = .ok (.iload_n 1, 1) := by decide +kernel
theorem dX10_doLine_16 : decode cX10_doLine 16 = .ok (.iadd, 1) := by decide +kernel
theorem dX10_doLine_17 : decode cX10_doLine 17 = .ok (.iaload, 1) := by decide +kernel
theorem dX10_doLine_18 : decode cX10_doLine 18 = .ok (.istore_n 2, 1) := by decide +kernel
theorem dX10_doLine_19 : decode cX10_doLine 19 = .ok (.iload_n 1, 1) := by decide +kernel
theorem dX10_doLine_20 : decode cX10_doLine 20 = .ok (.iload_n 2, 1) := by decide +kernel
theorem dX10_doLine_21 : decode cX10_doLine 21 = .ok (.invokestatic 199, 3) := by decide +kernel
theorem dX10_doLine_24 : decode cX10_doLine 24 = .ok (.istore_n 3, 1) := by decide +kernel
theorem dX10_doLine_25 : decode cX10_doLine 25 = .ok (.iconst 1, 1) := by decide +kernel
theorem dX10_doLine_26 : decode cX10_doLine 26 = .ok (.istore 4, 2) := by decide +kernel
theorem dX10_doLine_28 : decode cX10_doLine 28 = .ok (.aload_n 0, 1) := by decide +kernel
theorem dX10_doLine_29 : decode cX10_doLine 29 = .ok (.getfield 87, 3) := by decide +kernel
theorem dX10_doLine_32 : decode cX10_doLine 32 = .ok (.sipush 266, 3) := by decide +kernel
theorem dX10_doLine_35 : decode cX10_doLine 35 = .ok (.iconst 3, 1) := by decide +kernel
theorem dX10_doLine_36 : decode cX10_doLine 36 = .ok (.iload_n 3, 1) := by decide +kernel
theorem dX10_doLine_37 : decode cX10_doLine 37 = .ok (.imul, 1) := by decide +kernel
theorem dX10_doLine_38 : decode cX10_doLine 38 = .ok (.iadd, 1) := by decide +kernel
theorem dX10_doLine_39 : decode cX10_doLine 39 = .ok (.aload_n 0, 1) := by decide +kernel
theorem dX10_doLine_40 : decode cX10_doLine 40 = .ok (.iconst 0, 1) := by decide +kernel
theorem dX10_doLine_41 : decode cX10_doLine 41 = .ok (.invokevirtual 202, 3) := by decide +kernel
theorem dX10_doLine_44 : decode cX10_doLine 44 = .ok (.iastore, 1) := by decide +kernel
theorem dX10_doLine_45 : decode cX10_doLine 45 = .ok (.aload_n 0, 1) := by decide +kernel
theorem dX10_doLine_46 : decode cX10_doLine 46 = .ok (.bipush 43, 2) := by decide +kernel
theorem dX10_doLine_48 : decode cX10_doLine 48 = .ok (.invokevirtual 42, 3) := by decide +kernel
theorem dX10_doLine_51 : decode cX10_doLine 51 = .ok (.ifCond .eq 77, 3) := by decide +kernel
theorem dX10_doLine_54 : decode cX10_doLine 54 = .ok (.iload 4, 2) := by decide +kernel
theorem dX10_doLine_56 : decode cX10_doLine 56 = .ok (.iconst 3, 1) := by decide +kernel
theorem dX10_doLine_57 : decode cX10_doLine 57 = .ok (.if_icmp .eq 30, 3) := by decide +kernel
theorem dX10_doLine_60 : decode cX10_doLine 60 = .ok (.aload_n 0, 1) := by decide +kernel
theorem dX10_doLine_61 : decode cX10_doLine 61 = .ok (.getfield 87, 3) := by decide +kernel
theorem dX10_doLine_64 : decode cX10_doLine 64 = .ok (.iconst 4, 1) := by decide +kernel
theorem dX10_doLine_65 : decode cX10_doLine 65 = .ok (.aload_n 0, 1) := by decide +kernel
theorem dX10_doLine_66 : decode cX10_doLine 66 = .ok (.getfield 87, 3) := by decide +kernel
theorem dX10_doLine_69 : decode cX10_doLine 69 = .ok (.sipush 266, 3) := by decide +kernel
theorem dX10_doLine_72 : decode cX10_doLine 72 = .ok (.iconst 3, 1) := by decide +kernel
theorem dX10_doLine_73 : decode cX10_doLine 73 = .ok (.iload_n 3, 1) := by decide +kernel
theorem dX10_doLine_74 : decode cX10_doLine 74 = .ok (.imul, 1) := by decide +kernel
theorem dX10_doLine_75 : decode cX10_doLine 75 = .ok (.iadd, 1) := by decide +kernel
theorem dX10_doLine_76 : decode cX10_doLine 76 = .ok (.iload 4, 2) := by decide +kernel
theorem dX10_doLine_78 : decode cX10_doLine 78 = .ok (.iadd, 1) := by decide +kernel
theorem dX10_doLine_79 : decode cX10_doLine 79 = .ok (.iconst 1, 1) := by decide +kernel
theorem dX10_doLine_80 : decode cX10_doLine 80 = .ok (.isub, 1) := by decide +kernel
theorem dX10_doLine_81 : decode cX10_doLine 81 = .ok (.iaload, 1) := by decide +kernel
theorem dX10_doLine_82 : decode cX10_doLine 82 = .ok (.iadd, 1) := by decide +kernel
theorem dX10_doLine_83 : decode cX10_doLine 83 = .ok (.iaload, 1) := by decide +kernel
theorem dX10_doLine_84 : decode cX10_doLine 84 = .ok (.ifCond .eq 8, 3) := by decide +kernel
theorem dX10_doLine_87 : decode cX10_doLine 87 = .ok (.aload_n 0, 1) := by decide +kernel
theorem dX10_doLine_88 : decode cX10_doLine 88 = .ok (.invokevirtual 49, 3) := by decide +kernel
theorem dX10_doLine_91 : decode cX10_doLine 91 = .ok (.return_, 1) := by decide +kernel
theorem dX10_doLine_92 : decode cX10_doLine 92 = .ok (.aload_n 0, 1) := by decide +kernel
theorem dX10_doLine_93 : decode cX10_doLine 93 = .ok (.dup, 1) := by decide +kernel
theorem dX10_doLine_94 : decode cX10_doLine 94 = .ok (.getfield 21, 3) := by decide +kernel
theorem dX10_doLine_97 : decode cX10_doLine 97 = .ok (.iconst 1, 1) := by decide +kernel
theorem dX10_doLine_98 : decode cX10_doLine 98 = .ok (.iadd, 1) := by decide +kernel
theorem dX10_doLine_99 : decode cX10_doLine 99 = .ok (.putfield 21, 3) := by decide +kernel
theorem dX10_doLine_102 : decode cX10_doLine 102 = .ok (.aload_n 0, 1) := by decide +kernel
theorem dX10_doLine_103 : decode cX10_doLine 103 = .ok (.getfield 87, 3) := by decide +kernel
theorem dX10_doLine_106 : decode cX10_doLine 106 = .ok (.sipush 266, 3) := by decide +kernel
theorem dX10_doLine_109 : decode cX10_doLine 109 = .ok (.iconst 3, 1) := by decide +kernel
theorem dX10_doLine_110 : decode cX10_doLine 110 = .ok (.iload_n 3, 1) := by decide +kernel
theorem dX10_doLine_111 : decode cX10_doLine 111 = .ok (.imul, 1) := by decide +kernel
theorem dX10_doLine_112 : decode cX10_doLine 112 = .ok (.iadd, 1) := by decide +kernel
theorem dX10_doLine_113 : decode cX10_doLine 113 = .ok (.iload 4, 2) := by decide +kernel
theorem dX10_doLine_115 : decode cX10_doLine 115 = .ok (.iadd, 1) := by decide +kernel
theorem dX10_doLine_116 : decode cX10_doLine 116 = .ok (.aload_n 0, 1) := by decide +kernel
theorem dX10_doLine_117 : decode cX10_doLine 117 = .ok (.iconst 1, 1) := by decide +kernel
theorem dX10_doLine_118 : decode cX10_doLine 118 = .ok (.invokevirtual 202, 3) := by decide +kernel
theorem dX10_doLine_121 : decode cX10_doLine 121 = .ok (.iastore, 1) := by decide +kernel
theorem dX10_doLine_122 : decode cX10_doLine 122 = .ok (.iinc 4 1, 3) := by decide +kernel
theorem dX10_doLine_125 : decode cX10_doLine 125 = .ok (.goto (-80), 3) := by decide +kernel
theorem dX10_doLine_128 : decode cX10_doLine 128 = .ok (.aload_n 0, 1) := by decide +kernel
theorem dX10_doLine_129 : decode cX10_doLine 129 = .ok (.getfield 87, 3) := by decide +kernel
theorem dX10_doLine_132 : decode cX10_doLine 132 = .ok (.sipush 194, 3) := by decide +kernel
theorem dX10_doLine_135 : decode cX10_doLine 135 = .ok (.iload_n 3, 1) := by decide +kernel
theorem dX10_doLine_136 : decode cX10_doLine 136 = .ok (.iadd, 1) := by decide +kernel
theorem dX10_doLine_137 : decode cX10_doLine 137 = .ok (.iload 4, 2) := by decide +kernel
theorem dX10_doLine_139 : decode cX10_doLine 139 = .ok (.iastore, 1) := by decide +kernel
theorem dX10_doLine_140 : decode cX10_doLine 140 = .ok (.aload_n 0, 1) := by decide +kernel
theorem dX10_doLine_141 : decode cX10_doLine 141 = .ok (.getfield 87, 3) := by decide +kernel
theorem dX10_doLine_144 : decode cX10_doLine 144 = .ok (.bipush 122, 2) := by decide +kernel
theorem dX10_doLine_146 : decode cX10_doLine 146 = .ok (.iload_n 3, 1) := by decide +kernel
theorem dX10_doLine_147 : decode cX10_doLine 147 = .ok (.iadd, 1) := by decide +kernel
theorem dX10_doLine_148 : decode cX10_doLine 148 = .ok (.aload_n 0, 1) := by decide +kernel
theorem dX10_doLine_149 : decode cX10_doLine 149 = .ok (.iload_n 2, 1) := by decide +kernel
theorem dX10_doLine_150 : decode cX10_doLine 150 = .ok (.ifCond .ne 7, 3) := by decide +kernel
theorem dX10_doLine_153 : decode cX10_doLine 153 = .ok (.iconst 0, 1) := by decide +kernel
theorem dX10_doLine_154 : decode cX10_doLine 154 = .ok (.goto 14, 3) := by decide +kernel
theorem dX10_doLine_157 : decode cX10_doLine 157 = .ok (.aload_n 0, 1) := by decide +kernel
theorem dX10_doLine_158 : decode cX10_doLine 158 = .ok (.getfield 87, 3) := by decide +kernel
theorem dX10_doLine_161 : decode cX10_doLine 161 = .ok (.bipush 122, 2) := by decide +kernel
theorem dX10_doLine_163 : decode cX10_doLine 163 = .ok (.iload_n 3, 1) := by decide +kernel
theorem dX10_doLine_164 : decode cX10_doLine 164 = .ok (.iadd, 1) := by decide +kernel
theorem dX10_doLine_165 : decode cX10_doLine 165 = .ok (.iconst 1, 1) := by decide +kernel
theorem dX10_doLine_166 : decode cX10_doLine 166 = .ok (.isub, 1) := by decide +kernel
theorem dX10_doLine_167 : decode cX10_doLine 167 = .ok (.iaload, 1) := by decide +kernel
theorem dX10_doLine_168 : decode cX10_doLine 168 = .ok (.sipush 600, 3) := by decide +kernel
theorem dX10_doLine_171 : decode cX10_doLine 171 = .ok (.invokevirtual 161, 3) := by decide +kernel
theorem dX10_doLine_174 : decode cX10_doLine 174 = .ok (.iastore, 1) := by decide +kernel
theorem dX10_doLine_175 : decode cX10_doLine 175 = .ok (.aload_n 0, 1) := by decide +kernel
theorem dX10_doLine_176 : decode cX10_doLine 176 = .ok (.iconst 0, 1) := by decide +kernel
theorem dX10_doLine_177 : decode cX10_doLine 177 = .ok (.bipush 9, 2) := by decide +kernel
theorem dX10_doLine_179 : decode cX10_doLine 179 = .ok (.iload_n 3, 1) := by decide +kernel
theorem dX10_doLine_180 : decode cX10_doLine 180 = .ok (.imul, 1) := by decide +kernel
theorem dX10_doLine_181 : decode cX10_doLine 181 = .ok (.iadd, 1) := by decide +kernel
theorem dX10_doLine_182 : decode cX10_doLine 182 = .ok (.iconst 5, 1) := by decide +kernel
theorem dX10_doLine_183 : decode cX10_doLine 183 = .ok (.invokevirtual 206, 3) := by decide +kernel
theorem dX10_doLine_186 : decode cX10_doLine 186 = .ok (.aload_n 0, 1) := by decide +kernel
theorem dX10_doLine_187 : decode cX10_doLine 187 = .ok (.getfield 90, 3) := by decide +kernel
theorem dX10_doLine_190 : decode cX10_doLine 190 = .ok (.sipush 810, 3) := by decide +kernel
theorem dX10_doLine_193 : decode cX10_doLine 193 = .ok (.iload_n 3, 1) := by decide +kernel
theorem dX10_doLine_194 : decode cX10_doLine 194 = .ok (.iadd, 1) := by decide +kernel
theorem dX10_doLine_195 : decode cX10_doLine 195 = .ok (.iconst 0, 1) := by decide +kernel
theorem dX10_doLine_196 : decode cX10_doLine 196 = .ok (.iastore, 1) := by decide +kernel
theorem dX10_doLine_197 : decode cX10_doLine 197 = .ok (.aload_n 0, 1) := by decide +kernel
theorem dX10_doLine_198 : decode cX10_doLine 198 = .ok (.invokevirtual 209, 3) := by decide +kernel
theorem dX10_doLine_201 : decode cX10_doLine 201 = .ok (.istore 5, 2) := by decide +kernel
theorem dX10_doLine_203 : decode cX10_doLine 203 = .ok (.iload 5, 2) := by decide +kernel
theorem dX10_doLine_205 : decode cX10_doLine 205 = .ok (.iconst (-1), 1) := by decide +kernel
theorem dX10_doLine_206 : decode cX10_doLine 206 = .ok (.if_icmp .eq 65, 3) := by decide +kernel
theorem dX10_doLine_209 : decode cX10_doLine 209 = .ok (.aload_n 0, 1) := by decide +kernel
theorem dX10_doLine_210 : decode cX10_doLine 210 = .ok (.getfield 90, 3) := by decide +kernel
theorem dX10_doLine_213 : decode cX10_doLine 213 = .ok (.sipush 810, 3) := by decide +kernel
theorem dX10_doLine_216 : decode cX10_doLine 216 = .ok (.iload_n 3, 1) := by decide +kernel
theorem dX10_doLine_217 : decode cX10_doLine 217 = .ok (.iadd, 1) := by decide +kernel
theorem dX10_doLine_218 : decode cX10_doLine 218 = .ok (.iaload, 1) := by decide +kernel
theorem dX10_doLine_219 : decode cX10_doLine 219 = .ok (.iload 5, 2) := by decide +kernel
theorem dX10_doLine_221 : decode cX10_doLine 221 = .ok (.invokestatic 212, 3) := by decide +kernel
theorem dX10_doLine_224 : decode cX10_doLine 224 = .ok (.ifCond .eq 8, 3) := by decide +kernel
theorem dX10_doLine_227 : decode cX10_doLine 227 = .ok (.aload_n 0, 1) := by decide +kernel
theorem dX10_doLine_228 : decode cX10_doLine 228 = .ok (.invokevirtual 49, 3) := by decide +kernel
theorem dX10_doLine_231 : decode cX10_doLine 231 = .ok (.return_, 1) := by decide +kernel
theorem dX10_doLine_232 : decode cX10_doLine 232 = .ok (.aload_n 0, 1) := by decide +kernel
theorem dX10_doLine_233 : decode cX10_doLine 233 = .ok (.getfield 90, 3) := by decide +kernel
theorem dX10_doLine_236 : decode cX10_doLine 236 = .ok (.sipush 810, 3) := by decide +kernel
theorem dX10_doLine_239 : decode cX10_doLine 239 = .ok (.iload_n 3, 1) := by decide +kernel
theorem dX10_doLine_240 : decode cX10_doLine 240 = .ok (.iadd, 1) := by decide +kernel
theorem dX10_doLine_241 : decode cX10_doLine 241 = .ok (.dup2, 1) := by decide +kernel
theorem dX10_doLine_242 : decode cX10_doLine 242 = .ok (.iaload, 1) := by decide +kernel
theorem dX10_doLine_243 : decode cX10_doLine 243 = .ok (.iconst 1, 1) := by decide +kernel
theorem dX10_doLine_244 : decode cX10_doLine 244 = .ok (.iload 5, 2) := by decide +kernel
theorem dX10_doLine_246 : decode cX10_doLine 246 = .ok (.ishl, 1) := by decide +kernel
theorem dX10_doLine_247 : decode cX10_doLine 247 = .ok (.ior, 1) := by decide +kernel
theorem dX10_doLine_248 : decode cX10_doLine 248 = .ok (.iastore, 1) := by decide +kernel
theorem dX10_doLine_249 : decode cX10_doLine 249 = .ok (.aload_n 0, 1) := by decide +kernel
theorem dX10_doLine_250 : decode cX10_doLine 250 = .ok (.dup, 1) := by decide +kernel
theorem dX10_doLine_251 : decode cX10_doLine 251 = .ok (.getfield 21, 3) := by decide +kernel
theorem dX10_doLine_254 : decode cX10_doLine 254 = .ok (.aload_n 0, 1) := by decide +kernel
theorem dX10_doLine_255 : decode cX10_doLine 255 = .ok (.invokevirtual 52, 3) := by decide +kernel
theorem dX10_doLine_258 : decode cX10_doLine 258 = .ok (.iadd, 1) := by decide +kernel
theorem dX10_doLine_259 : decode cX10_doLine 259 = .ok (.putfield 21, 3) := by decide +kernel
theorem dX10_doLine_262 : decode cX10_doLine 262 = .ok (.aload_n 0, 1) := by decide +kernel
theorem dX10_doLine_263 : decode cX10_doLine 263 = .ok (.invokevirtual 209, 3) := by decide +kernel
theorem dX10_doLine_266 : decode cX10_doLine 266 = .ok (.istore 5, 2) := by decide +kernel
theorem dX10_doLine_268 : decode cX10_doLine 268 = .ok (.goto (-65), 3) := by decide +kernel
theorem dX10_doLine_271 : decode cX10_doLine 271 = .ok (.aload_n 0, 1) := by decide +kernel
theorem dX10_doLine_272 : decode cX10_doLine 272 = .ok (.getfield 87, 3) := by decide +kernel
theorem dX10_doLine_275 : decode cX10_doLine 275 = .ok (.bipush 116, 2) := by decide +kernel
theorem dX10_doLine_277 : decode cX10_doLine 277 = .ok (.iload_n 1, 1) := by decide +kernel
theorem dX10_doLine_278 : decode cX10_doLine 278 = .ok (.iadd, 1) := by decide +kernel
theorem dX10_doLine_279 : decode cX10_doLine 279 = .ok (.dup2, 1) := by decide +kernel
theorem dX10_doLine_280 : decode cX10_doLine 280 = .ok (.iaload, 1) := by decide +kernel
theorem dX10_doLine_281 : decode cX10_doLine 281 = .ok (.iconst 1, 1) := by decide +kernel
theorem dX10_doLine_282 : decode cX10_doLine 282 = .ok (.iadd, 1) := by decide +kernel
theorem dX10_doLine_283 : decode cX10_doLine 283 = .ok (.iastore, 1) := by decide +kernel
theorem dX10_doLine_284 : decode cX10_doLine 284 = .ok (.aload_n 0, 1) := by decide +kernel
theorem dX10_doLine_285 : decode cX10_doLine 285 = .ok (.iconst 1, 1) := by decide +kernel
theorem dX10_doLine_286 : decode cX10_doLine 286 = .ok (.putfield 215, 3) := by decide +kernel
theorem dX10_doLine_289 : decode cX10_doLine 289 = .ok (.return_, 1) := by decide +kernel
theorem dX10_callTold_0 : decode cX10_callTold 0 = .ok (.aload_n 0, 1) := by decide +kernel
theorem dX10_callTold_1 : decode cX10_callTold 1 = .ok (.ldc 219, 2) := by decide +kernel
theorem dX10_callTold_3 : decode cX10_callTold 3 = .ok (.invokevirtual 65, 3) := by decide +kernel
theorem dX10_callTold_6 : decode cX10_callTold 6 = .ok (.ifCond .eq 7, 3) := by decide +kernel
theorem dX10_callTold_9 : decode cX10_callTold 9 = .ok (.iconst 0, 1) := by decide +kernel
theorem dX10_callTold_10 : decode cX10_callTold 10 = .ok (.goto 30, 3) := by decide +kernel
theorem dX10_callTold_13 : decode cX10_callTold 13 = .ok (.aload_n 0, 1) := by decide +kernel
theorem dX10_callTold_14 : decode cX10_callTold 14 = .ok (.ldc 221, 2) := by decide +kernel
theorem dX10_callTold_16 : decode cX10_callTold 16 = .ok (.invokevirtual 65, 3) := by decide +kernel
theorem dX10_callTold_19 : decode cX10_callTold 19 = .ok (.ifCond .eq 7, 3) := by decide +kernel
theorem dX10_callTold_22 : decode cX10_callTold 22 = .ok (.iconst 1, 1) := by decide +kernel
theorem dX10_callTold_23 : decode cX10_callTold 23 = .ok (.goto 17, 3) := by decide +kernel
theorem dX10_callTold_26 : decode cX10_callTold 26 = .ok (.aload_n 0, 1) := by decide +kernel
theorem dX10_callTold_27 : decode cX10_callTold 27 = .ok (.ldc 223, 2) := by decide +kernel
theorem dX10_callTold_29 : decode cX10_callTold 29 = .ok (.invokevirtual 65, 3) := by decide +kernel
theorem dX10_callTold_32 : decode cX10_callTold 32 = .ok (.ifCond .eq 7, 3) := by decide +kernel
theorem dX10_callTold_35 : decode cX10_callTold 35 = .ok (.iconst 2, 1) := by decide +kernel
theorem dX10_callTold_36 : decode cX10_callTold 36 = .ok (.goto 4, 3) := by decide +kernel
theorem dX10_callTold_39 : decode cX10_callTold 39 = .ok (.iconst (-1), 1) := by decide +kernel
theorem dX10_callTold_40 : decode cX10_callTold 40 = .ok (.ireturn, 1) := by decide +kernel
theorem dX10_begins_0 : decode cX10_begins 0 = .ok (.aload_n 0, 1) := by decide +kernel
theorem dX10_begins_1 : decode cX10_begins 1 = .ok (.aload_n 1, 1) := by decide +kernel
theorem dX10_begins_2 : decode cX10_begins 2 = .ok (.invokevirtual 65, 3) := by decide +kernel
theorem dX10_begins_5 : decode cX10_begins 5 = .ok (.ifCond .ne 5, 3) := by decide +kernel
theorem dX10_begins_8 : decode cX10_begins 8 = .ok (.iconst 0, 1) := by decide +kernel
theorem dX10_begins_9 : decode cX10_begins 9 = .ok (.ireturn, 1) := by decide +kernel
theorem dX10_begins_10 : decode cX10_begins 10 = .ok (.iload_n 2, 1) := by decide +kernel
theorem dX10_begins_11 : decode cX10_begins 11 = .ok (.ifCond .ne 9, 3) := by decide +kernel
theorem dX10_begins_14 : decode cX10_begins 14 = .ok (.aload_n 0, 1) := by decide +kernel
theorem dX10_begins_15 : decode cX10_begins 15 = .ok (.invokevirtual 49, 3) := by decide +kernel
theorem dX10_begins_18 : decode cX10_begins 18 = .ok (.iconst 1, 1) := by decide +kernel
theorem dX10_begins_19 : decode cX10_begins 19 = .ok (.ireturn, 1) := by decide +kernel
theorem dX10_begins_20 : decode cX10_begins 20 = .ok (.aload_n 0, 1) := by decide +kernel
theorem dX10_begins_21 : decode cX10_begins 21 = .ok (.dup, 1) := by decide +kernel
theorem dX10_begins_22 : decode cX10_begins 22 = .ok (.getfield 21, 3) := by decide +kernel
theorem dX10_begins_25 : decode cX10_begins 25 = .ok (.aload_n 1, 1) := by decide +kernel
theorem dX10_begins_26 : decode cX10_begins 26 = .ok (.invokevirtual 56, 3) := by decide +kernel
theorem dX10_begins_29 : decode cX10_begins 29 = .ok (.iadd, 1) := by decide +kernel
theorem dX10_begins_30 : decode cX10_begins 30 = .ok (.putfield 21, 3) := by decide +kernel
theorem dX10_begins_33 : decode cX10_begins 33 = .ok (.iconst 1, 1) := by decide +kernel
theorem dX10_begins_34 : decode cX10_begins 34 = .ok (.ireturn, 1) := by decide +kernel
theorem dX10_line_0 : decode cX10_line 0 = .ok (.aload_n 0, 1) := by decide +kernel
theorem dX10_line_1 : decode cX10_line 1 = .ok (.invokevirtual 34, 3) := by decide +kernel
theorem dX10_line_4 : decode cX10_line 4 = .ok (.aload_n 0, 1) := by decide +kernel
theorem dX10_line_5 : decode cX10_line 5 = .ok (.getfield 87, 3) := by decide +kernel
theorem dX10_line_8 : decode cX10_line 8 = .ok (.iconst 1, 1) := by decide +kernel
theorem dX10_line_9 : decode cX10_line 9 = .ok (.iaload, 1) := by decide +kernel
theorem dX10_line_10 : decode cX10_line 10 = .ok (.iconst 1, 1) := by decide +kernel
theorem dX10_line_11 : decode cX10_line 11 = .ok (.isub, 1) := by decide +kernel
theorem dX10_line_12 : decode cX10_line 12 = .ok (.istore_n 1, 1) := by decide +kernel
theorem dX10_line_13 : decode cX10_line 13 = .ok (.iload_n 1, 1) := by decide +kernel
theorem dX10_line_14 : decode cX10_line 14 = .ok (.ifCond .lt 7, 3) := by decide +kernel
theorem dX10_line_17 : decode cX10_line 17 = .ok (.iconst 1, 1) := by decide +kernel
theorem dX10_line_18 : decode cX10_line 18 = .ok (.goto 4, 3) := by decide +kernel
theorem dX10_line_21 : decode cX10_line 21 = .ok (.iconst 0, 1) := by decide +kernel
theorem dX10_line_22 : decode cX10_line 22 = .ok (.istore_n 2, 1) := by decide +kernel
theorem dX10_line_23 : decode cX10_line 23 = .ok (.aload_n 0, 1) := by decide +kernel
theorem dX10_line_24 : decode cX10_line 24 = .ok (.ldc 225, 2) := by decide +kernel
theorem dX10_line_26 : decode cX10_line 26 = .ok (.aload_n 0, 1) := by decide +kernel
theorem dX10_line_27 : decode cX10_line 27 = .ok (.getfield 87, 3) := by decide +kernel
theorem dX10_line_30 : decode cX10_line 30 = .ok (.iconst 0, 1) := by decide +kernel
theorem dX10_line_31 : decode cX10_line 31 = .ok (.iaload, 1) := by decide +kernel
theorem dX10_line_32 : decode cX10_line 32 = .ok (.bipush 10, 2) := by decide +kernel
theorem dX10_line_34 : decode cX10_line 34 = .ok (.if_icmp .ge 7, 3) := by decide +kernel
theorem dX10_line_37 : decode cX10_line 37 = .ok (.iconst 1, 1) := by decide +kernel
theorem dX10_line_38 : decode cX10_line 38 = .ok (.goto 4, 3) := by decide +kernel
theorem dX10_line_41 : decode cX10_line 41 = .ok (.iconst 0, 1) := by decide +kernel
theorem dX10_line_42 : decode cX10_line 42 = .ok (.invokevirtual 227, 3) := by decide +kernel
theorem dX10_line_45 : decode cX10_line 45 = .ok (.ifCond .eq 17, 3) := by decide +kernel
theorem dX10_line_48 : decode cX10_line 48 = .ok (.aload_n 0, 1) := by decide +kernel
theorem dX10_line_49 : decode cX10_line 49 = .ok (.invokevirtual 38, 3) := by decide +kernel
theorem dX10_line_52 : decode cX10_line 52 = .ok (.ifCond .ne 428, 3) := by decide +kernel
theorem dX10_line_55 : decode cX10_line 55 = .ok (.aload_n 0, 1) := by decide +kernel
theorem dX10_line_56 : decode cX10_line 56 = .ok (.invokevirtual 231, 3) := by decide +kernel
theorem dX10_line_59 : decode cX10_line 59 = .ok (.goto 421, 3) := by decide +kernel
theorem dX10_line_62 : decode cX10_line 62 = .ok (.aload_n 0, 1) := by decide +kernel
theorem dX10_line_63 : decode cX10_line 63 = .ok (.ldc 234, 2) := by decide +kernel
theorem dX10_line_65 : decode cX10_line 65 = .ok (.aload_n 0, 1) := by decide +kernel
