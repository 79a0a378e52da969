/-! ===== the methods that catch; by program ===== -/
theorem dL_read_0 : decode cL_read 0 = .ok (.aload_n 1, 1) := by decide +kernel
theorem dL_read_1 : decode cL_read 1 = .ok (.iconst 0, 1) := by decide +kernel
theorem dL_read_2 : decode cL_read 2 = .ok (.aload_n 0, 1) := by decide +kernel
theorem dL_read_3 : decode cL_read 3 = .ok (.invokevirtual 7, 3) := by decide +kernel
theorem dL_read_6 : decode cL_read 6 = .ok (.i2l, 1) := by decide +kernel
theorem dL_read_7 : decode cL_read 7 = .ok (.lastore, 1) := by decide +kernel
theorem dL_read_8 : decode cL_read 8 = .ok (.goto 6, 3) := by decide +kernel
theorem dL_read_11 : decode cL_read 11 = .ok (.astore_n 2, 1) := by decide +kernel
theorem dL_read_12 : decode cL_read 12 = .ok (.iconst 1, 1) := by decide +kernel
theorem dL_read_13 : decode cL_read 13 = .ok (.ireturn, 1) := by decide +kernel
theorem dL_read_14 : decode cL_read 14 = .ok (.iconst 0, 1) := by decide +kernel
theorem dL_read_15 : decode cL_read 15 = .ok (.ireturn, 1) := by decide +kernel
theorem dL_name_0 : decode cL_name 0 = .ok (.aload 4, 2) := by decide +kernel
theorem dL_name_2 : decode cL_name 2 = .ok (.iconst 0, 1) := by decide +kernel
theorem dL_name_3 : decode cL_name 3 = .ok (.aload_n 0, 1) := by decide +kernel
theorem dL_name_4 : decode cL_name 4 = .ok (.iload_n 1, 1) := by decide +kernel
theorem dL_name_5 : decode cL_name 5 = .ok (.iload_n 2, 1) := by decide +kernel
theorem dL_name_6 : decode cL_name 6 = .ok (.iload_n 3, 1) := by decide +kernel
theorem dL_name_7 : decode cL_name 7 = .ok (.invokevirtual 15, 3) := by decide +kernel
theorem dL_name_10 : decode cL_name 10 = .ok (.i2l, 1) := by decide +kernel
theorem dL_name_11 : decode cL_name 11 = .ok (.lastore, 1) := by decide +kernel
theorem dL_name_12 : decode cL_name 12 = .ok (.goto 7, 3) := by decide +kernel
theorem dL_name_15 : decode cL_name 15 = .ok (.astore 5, 2) := by decide +kernel
theorem dL_name_17 : decode cL_name 17 = .ok (.iconst 1, 1) := by decide +kernel
theorem dL_name_18 : decode cL_name 18 = .ok (.ireturn, 1) := by decide +kernel
theorem dL_name_19 : decode cL_name 19 = .ok (.iconst 0, 1) := by decide +kernel
theorem dL_name_20 : decode cL_name 20 = .ok (.ireturn, 1) := by decide +kernel
theorem dL_element_0 : decode cL_element 0 = .ok (.aload_n 3, 1) := by decide +kernel
theorem dL_element_1 : decode cL_element 1 = .ok (.iconst 0, 1) := by decide +kernel
theorem dL_element_2 : decode cL_element 2 = .ok (.aload_n 0, 1) := by decide +kernel
theorem dL_element_3 : decode cL_element 3 = .ok (.iload_n 1, 1) := by decide +kernel
theorem dL_element_4 : decode cL_element 4 = .ok (.iload_n 2, 1) := by decide +kernel
theorem dL_element_5 : decode cL_element 5 = .ok (.invokevirtual 21, 3) := by decide +kernel
theorem dL_element_8 : decode cL_element 8 = .ok (.i2l, 1) := by decide +kernel
theorem dL_element_9 : decode cL_element 9 = .ok (.lastore, 1) := by decide +kernel
theorem dL_element_10 : decode cL_element 10 = .ok (.goto 11, 3) := by decide +kernel
theorem dL_element_13 : decode cL_element 13 = .ok (.astore 4, 2) := by decide +kernel
theorem dL_element_15 : decode cL_element 15 = .ok (.iconst 1, 1) := by decide +kernel
theorem dL_element_16 : decode cL_element 16 = .ok (.ireturn, 1) := by decide +kernel
theorem dL_element_17 : decode cL_element 17 = .ok (.astore 4, 2) := by decide +kernel
theorem dL_element_19 : decode cL_element 19 = .ok (.iconst 2, 1) := by decide +kernel
theorem dL_element_20 : decode cL_element 20 = .ok (.ireturn, 1) := by decide +kernel
theorem dL_element_21 : decode cL_element 21 = .ok (.iconst 0, 1) := by decide +kernel
theorem dL_element_22 : decode cL_element 22 = .ok (.ireturn, 1) := by decide +kernel
theorem dL_attempt_0 : decode cL_attempt 0 = .ok (.aload 4, 2) := by decide +kernel
theorem dL_attempt_2 : decode cL_attempt 2 = .ok (.iconst 0, 1) := by decide +kernel
theorem dL_attempt_3 : decode cL_attempt 3 = .ok (.aload_n 0, 1) := by decide +kernel
theorem dL_attempt_4 : decode cL_attempt 4 = .ok (.iload_n 1, 1) := by decide +kernel
theorem dL_attempt_5 : decode cL_attempt 5 = .ok (.iload_n 2, 1) := by decide +kernel
theorem dL_attempt_6 : decode cL_attempt 6 = .ok (.iload_n 3, 1) := by decide +kernel
theorem dL_attempt_7 : decode cL_attempt 7 = .ok (.invokevirtual 27, 3) := by decide +kernel
theorem dL_attempt_10 : decode cL_attempt 10 = .ok (.i2l, 1) := by decide +kernel
theorem dL_attempt_11 : decode cL_attempt 11 = .ok (.lastore, 1) := by decide +kernel
theorem dL_attempt_12 : decode cL_attempt 12 = .ok (.goto 11, 3) := by decide +kernel
theorem dL_attempt_15 : decode cL_attempt 15 = .ok (.astore 5, 2) := by decide +kernel
theorem dL_attempt_17 : decode cL_attempt 17 = .ok (.iconst 1, 1) := by decide +kernel
theorem dL_attempt_18 : decode cL_attempt 18 = .ok (.ireturn, 1) := by decide +kernel
theorem dL_attempt_19 : decode cL_attempt 19 = .ok (.astore 5, 2) := by decide +kernel
theorem dL_attempt_21 : decode cL_attempt 21 = .ok (.iconst 2, 1) := by decide +kernel
theorem dL_attempt_22 : decode cL_attempt 22 = .ok (.ireturn, 1) := by decide +kernel
theorem dL_attempt_23 : decode cL_attempt 23 = .ok (.iconst 0, 1) := by decide +kernel
theorem dL_attempt_24 : decode cL_attempt 24 = .ok (.ireturn, 1) := by decide +kernel
theorem dL_grade_0 : decode cL_grade 0 = .ok (.aload 4, 2) := by decide +kernel
theorem dL_grade_2 : decode cL_grade 2 = .ok (.iconst 0, 1) := by decide +kernel
theorem dL_grade_3 : decode cL_grade 3 = .ok (.aload_n 0, 1) := by decide +kernel
theorem dL_grade_4 : decode cL_grade 4 = .ok (.iload_n 1, 1) := by decide +kernel
theorem dL_grade_5 : decode cL_grade 5 = .ok (.iload_n 2, 1) := by decide +kernel
theorem dL_grade_6 : decode cL_grade 6 = .ok (.iload_n 3, 1) := by decide +kernel
theorem dL_grade_7 : decode cL_grade 7 = .ok (.invokevirtual 31, 3) := by decide +kernel
theorem dL_grade_10 : decode cL_grade 10 = .ok (.i2l, 1) := by decide +kernel
theorem dL_grade_11 : decode cL_grade 11 = .ok (.lastore, 1) := by decide +kernel
theorem dL_grade_12 : decode cL_grade 12 = .ok (.goto 7, 3) := by decide +kernel
theorem dL_grade_15 : decode cL_grade 15 = .ok (.astore 5, 2) := by decide +kernel
theorem dL_grade_17 : decode cL_grade 17 = .ok (.iconst 1, 1) := by decide +kernel
theorem dL_grade_18 : decode cL_grade 18 = .ok (.ireturn, 1) := by decide +kernel
theorem dL_grade_19 : decode cL_grade 19 = .ok (.iconst 0, 1) := by decide +kernel
theorem dL_grade_20 : decode cL_grade 20 = .ok (.ireturn, 1) := by decide +kernel
theorem dL_mean_0 : decode cL_mean 0 = .ok (.aload_n 3, 1) := by decide +kernel
theorem dL_mean_1 : decode cL_mean 1 = .ok (.iconst 0, 1) := by decide +kernel
theorem dL_mean_2 : decode cL_mean 2 = .ok (.aload_n 0, 1) := by decide +kernel
theorem dL_mean_3 : decode cL_mean 3 = .ok (.iload_n 1, 1) := by decide +kernel
theorem dL_mean_4 : decode cL_mean 4 = .ok (.iload_n 2, 1) := by decide +kernel
theorem dL_mean_5 : decode cL_mean 5 = .ok (.invokevirtual 34, 3) := by decide +kernel
theorem dL_mean_8 : decode cL_mean 8 = .ok (.i2l, 1) := by decide +kernel
theorem dL_mean_9 : decode cL_mean 9 = .ok (.lastore, 1) := by decide +kernel
theorem dL_mean_10 : decode cL_mean 10 = .ok (.goto 7, 3) := by decide +kernel
theorem dL_mean_13 : decode cL_mean 13 = .ok (.astore 4, 2) := by decide +kernel
theorem dL_mean_15 : decode cL_mean 15 = .ok (.iconst 1, 1) := by decide +kernel
theorem dL_mean_16 : decode cL_mean 16 = .ok (.ireturn, 1) := by decide +kernel
theorem dL_mean_17 : decode cL_mean 17 = .ok (.iconst 0, 1) := by decide +kernel
theorem dL_mean_18 : decode cL_mean 18 = .ok (.ireturn, 1) := by decide +kernel
theorem dL_mark_0 : decode cL_mark 0 = .ok (.aload 4, 2) := by decide +kernel
theorem dL_mark_2 : decode cL_mark 2 = .ok (.iconst 0, 1) := by decide +kernel
theorem dL_mark_3 : decode cL_mark 3 = .ok (.aload_n 0, 1) := by decide +kernel
theorem dL_mark_4 : decode cL_mark 4 = .ok (.iload_n 1, 1) := by decide +kernel
theorem dL_mark_5 : decode cL_mark 5 = .ok (.iload_n 2, 1) := by decide +kernel
theorem dL_mark_6 : decode cL_mark 6 = .ok (.iload_n 3, 1) := by decide +kernel
theorem dL_mark_7 : decode cL_mark 7 = .ok (.invokevirtual 37, 3) := by decide +kernel
theorem dL_mark_10 : decode cL_mark 10 = .ok (.i2l, 1) := by decide +kernel
theorem dL_mark_11 : decode cL_mark 11 = .ok (.lastore, 1) := by decide +kernel
theorem dL_mark_12 : decode cL_mark 12 = .ok (.goto 7, 3) := by decide +kernel
theorem dL_mark_15 : decode cL_mark 15 = .ok (.astore 5, 2) := by decide +kernel
theorem dL_mark_17 : decode cL_mark 17 = .ok (.iconst 1, 1) := by decide +kernel
theorem dL_mark_18 : decode cL_mark 18 = .ok (.ireturn, 1) := by decide +kernel
theorem dL_mark_19 : decode cL_mark 19 = .ok (.iconst 0, 1) := by decide +kernel
theorem dL_mark_20 : decode cL_mark 20 = .ok (.ireturn, 1) := by decide +kernel
theorem dL_component_0 : decode cL_component 0 = .ok (.aload_n 3, 1) := by decide +kernel
theorem dL_component_1 : decode cL_component 1 = .ok (.iconst 0, 1) := by decide +kernel
theorem dL_component_2 : decode cL_component 2 = .ok (.aload_n 0, 1) := by decide +kernel
theorem dL_component_3 : decode cL_component 3 = .ok (.iload_n 1, 1) := by decide +kernel
theorem dL_component_4 : decode cL_component 4 = .ok (.iload_n 2, 1) := by decide +kernel
theorem dL_component_5 : decode cL_component 5 = .ok (.invokevirtual 40, 3) := by decide +kernel
theorem dL_component_8 : decode cL_component 8 = .ok (.i2l, 1) := by decide +kernel
theorem dL_component_9 : decode cL_component 9 = .ok (.lastore, 1) := by decide +kernel
theorem dL_component_10 : decode cL_component 10 = .ok (.goto 7, 3) := by decide +kernel
theorem dL_component_13 : decode cL_component 13 = .ok (.astore 4, 2) := by decide +kernel
theorem dL_component_15 : decode cL_component 15 = .ok (.iconst 1, 1) := by decide +kernel
theorem dL_component_16 : decode cL_component 16 = .ok (.ireturn, 1) := by decide +kernel
theorem dL_component_17 : decode cL_component 17 = .ok (.iconst 0, 1) := by decide +kernel
theorem dL_component_18 : decode cL_component 18 = .ok (.ireturn, 1) := by decide +kernel
theorem dL_total_0 : decode cL_total 0 = .ok (.aload_n 3, 1) := by decide +kernel
theorem dL_total_1 : decode cL_total 1 = .ok (.iconst 0, 1) := by decide +kernel
theorem dL_total_2 : decode cL_total 2 = .ok (.aload_n 0, 1) := by decide +kernel
theorem dL_total_3 : decode cL_total 3 = .ok (.iload_n 1, 1) := by decide +kernel
theorem dL_total_4 : decode cL_total 4 = .ok (.iload_n 2, 1) := by decide +kernel
theorem dL_total_5 : decode cL_total 5 = .ok (.invokevirtual 43, 3) := by decide +kernel
theorem dL_total_8 : decode cL_total 8 = .ok (.i2l, 1) := by decide +kernel
theorem dL_total_9 : decode cL_total 9 = .ok (.lastore, 1) := by decide +kernel
theorem dL_total_10 : decode cL_total 10 = .ok (.goto 11, 3) := by decide +kernel
theorem dL_total_13 : decode cL_total 13 = .ok (.astore 4, 2) := by decide +kernel
theorem dL_total_15 : decode cL_total 15 = .ok (.iconst 1, 1) := by decide +kernel
theorem dL_total_16 : decode cL_total 16 = .ok (.ireturn, 1) := by decide +kernel
theorem dL_total_17 : decode cL_total 17 = .ok (.astore 4, 2) := by decide +kernel
theorem dL_total_19 : decode cL_total 19 = .ok (.iconst 2, 1) := by decide +kernel
theorem dL_total_20 : decode cL_total 20 = .ok (.ireturn, 1) := by decide +kernel
theorem dL_total_21 : decode cL_total 21 = .ok (.iconst 0, 1) := by decide +kernel
theorem dL_total_22 : decode cL_total 22 = .ok (.ireturn, 1) := by decide +kernel
theorem dL_rule_0 : decode cL_rule 0 = .ok (.aload_n 3, 1) := by decide +kernel
theorem dL_rule_1 : decode cL_rule 1 = .ok (.iconst 0, 1) := by decide +kernel
theorem dL_rule_2 : decode cL_rule 2 = .ok (.aload_n 0, 1) := by decide +kernel
theorem dL_rule_3 : decode cL_rule 3 = .ok (.iload_n 1, 1) := by decide +kernel
theorem dL_rule_4 : decode cL_rule 4 = .ok (.iload_n 2, 1) := by decide +kernel
theorem dL_rule_5 : decode cL_rule 5 = .ok (.invokevirtual 46, 3) := by decide +kernel
theorem dL_rule_8 : decode cL_rule 8 = .ok (.i2l, 1) := by decide +kernel
theorem dL_rule_9 : decode cL_rule 9 = .ok (.lastore, 1) := by decide +kernel
theorem dL_rule_10 : decode cL_rule 10 = .ok (.goto 11, 3) := by decide +kernel
theorem dL_rule_13 : decode cL_rule 13 = .ok (.astore 4, 2) := by decide +kernel
theorem dL_rule_15 : decode cL_rule 15 = .ok (.iconst 1, 1) := by decide +kernel
theorem dL_rule_16 : decode cL_rule 16 = .ok (.ireturn, 1) := by decide +kernel
theorem dL_rule_17 : decode cL_rule 17 = .ok (.astore 4, 2) := by decide +kernel
theorem dL_rule_19 : decode cL_rule 19 = .ok (.iconst 2, 1) := by decide +kernel
theorem dL_rule_20 : decode cL_rule 20 = .ok (.ireturn, 1) := by decide +kernel
theorem dL_rule_21 : decode cL_rule 21 = .ok (.iconst 0, 1) := by decide +kernel
theorem dL_rule_22 : decode cL_rule 22 = .ok (.ireturn, 1) := by decide +kernel
theorem dL_rank_0 : decode cL_rank 0 = .ok (.aload_n 2, 1) := by decide +kernel
theorem dL_rank_1 : decode cL_rank 1 = .ok (.iconst 0, 1) := by decide +kernel
theorem dL_rank_2 : decode cL_rank 2 = .ok (.aload_n 0, 1) := by decide +kernel
theorem dL_rank_3 : decode cL_rank 3 = .ok (.iload_n 1, 1) := by decide +kernel
theorem dL_rank_4 : decode cL_rank 4 = .ok (.invokevirtual 49, 3) := by decide +kernel
theorem dL_rank_7 : decode cL_rank 7 = .ok (.i2l, 1) := by decide +kernel
theorem dL_rank_8 : decode cL_rank 8 = .ok (.lastore, 1) := by decide +kernel
theorem dL_rank_9 : decode cL_rank 9 = .ok (.goto 6, 3) := by decide +kernel
theorem dL_rank_12 : decode cL_rank 12 = .ok (.astore_n 3, 1) := by decide +kernel
theorem dL_rank_13 : decode cL_rank 13 = .ok (.iconst 1, 1) := by decide +kernel
theorem dL_rank_14 : decode cL_rank 14 = .ok (.ireturn, 1) := by decide +kernel
theorem dL_rank_15 : decode cL_rank 15 = .ok (.iconst 0, 1) := by decide +kernel
theorem dL_rank_16 : decode cL_rank 16 = .ok (.ireturn, 1) := by decide +kernel
theorem dL_tell_0 : decode cL_tell 0 = .ok (.aload 5, 2) := by decide +kernel
theorem dL_tell_2 : decode cL_tell 2 = .ok (.iconst 0, 1) := by decide +kernel
theorem dL_tell_3 : decode cL_tell 3 = .ok (.aload_n 0, 1) := by decide +kernel
theorem dL_tell_4 : decode cL_tell 4 = .ok (.iload_n 1, 1) := by decide +kernel
theorem dL_tell_5 : decode cL_tell 5 = .ok (.iload_n 2, 1) := by decide +kernel
theorem dL_tell_6 : decode cL_tell 6 = .ok (.iload_n 3, 1) := by decide +kernel
theorem dL_tell_7 : decode cL_tell 7 = .ok (.iload 4, 2) := by decide +kernel
theorem dL_tell_9 : decode cL_tell 9 = .ok (.invokevirtual 53, 3) := by decide +kernel
theorem dL_tell_12 : decode cL_tell 12 = .ok (.i2l, 1) := by decide +kernel
theorem dL_tell_13 : decode cL_tell 13 = .ok (.lastore, 1) := by decide +kernel
theorem dL_tell_14 : decode cL_tell 14 = .ok (.goto 11, 3) := by decide +kernel
theorem dL_tell_17 : decode cL_tell 17 = .ok (.astore 6, 2) := by decide +kernel
theorem dL_tell_19 : decode cL_tell 19 = .ok (.iconst 1, 1) := by decide +kernel
theorem dL_tell_20 : decode cL_tell 20 = .ok (.ireturn, 1) := by decide +kernel
theorem dL_tell_21 : decode cL_tell 21 = .ok (.astore 6, 2) := by decide +kernel
theorem dL_tell_23 : decode cL_tell 23 = .ok (.iconst 2, 1) := by decide +kernel
theorem dL_tell_24 : decode cL_tell 24 = .ok (.ireturn, 1) := by decide +kernel
theorem dL_tell_25 : decode cL_tell 25 = .ok (.iconst 0, 1) := by decide +kernel
theorem dL_tell_26 : decode cL_tell 26 = .ok (.ireturn, 1) := by decide +kernel
theorem dL_show_0 : decode cL_show 0 = .ok (.aload 5, 2) := by decide +kernel
theorem dL_show_2 : decode cL_show 2 = .ok (.iconst 0, 1) := by decide +kernel
theorem dL_show_3 : decode cL_show 3 = .ok (.aload_n 0, 1) := by decide +kernel
theorem dL_show_4 : decode cL_show 4 = .ok (.iload_n 1, 1) := by decide +kernel
theorem dL_show_5 : decode cL_show 5 = .ok (.iload_n 2, 1) := by decide +kernel
theorem dL_show_6 : decode cL_show 6 = .ok (.iload_n 3, 1) := by decide +kernel
theorem dL_show_7 : decode cL_show 7 = .ok (.iload 4, 2) := by decide +kernel
theorem dL_show_9 : decode cL_show 9 = .ok (.invokevirtual 57, 3) := by decide +kernel
theorem dL_show_12 : decode cL_show 12 = .ok (.i2l, 1) := by decide +kernel
theorem dL_show_13 : decode cL_show 13 = .ok (.lastore, 1) := by decide +kernel
theorem dL_show_14 : decode cL_show 14 = .ok (.goto 11, 3) := by decide +kernel
theorem dL_show_17 : decode cL_show 17 = .ok (.astore 6, 2) := by decide +kernel
theorem dL_show_19 : decode cL_show 19 = .ok (.iconst 1, 1) := by decide +kernel
theorem dL_show_20 : decode cL_show 20 = .ok (.ireturn, 1) := by decide +kernel
theorem dL_show_21 : decode cL_show 21 = .ok (.astore 6, 2) := by decide +kernel
theorem dL_show_23 : decode cL_show 23 = .ok (.iconst 2, 1) := by decide +kernel
theorem dL_show_24 : decode cL_show 24 = .ok (.ireturn, 1) := by decide +kernel
theorem dL_show_25 : decode cL_show 25 = .ok (.iconst 0, 1) := by decide +kernel
theorem dL_show_26 : decode cL_show 26 = .ok (.ireturn, 1) := by decide +kernel
theorem dL_call_0 : decode cL_call 0 = .ok (.aload 5, 2) := by decide +kernel
theorem dL_call_2 : decode cL_call 2 = .ok (.iconst 0, 1) := by decide +kernel
theorem dL_call_3 : decode cL_call 3 = .ok (.aload_n 0, 1) := by decide +kernel
theorem dL_call_4 : decode cL_call 4 = .ok (.iload_n 1, 1) := by decide +kernel
theorem dL_call_5 : decode cL_call 5 = .ok (.iload_n 2, 1) := by decide +kernel
theorem dL_call_6 : decode cL_call 6 = .ok (.iload_n 3, 1) := by decide +kernel
theorem dL_call_7 : decode cL_call 7 = .ok (.iload 4, 2) := by decide +kernel
theorem dL_call_9 : decode cL_call 9 = .ok (.invokevirtual 60, 3) := by decide +kernel
theorem dL_call_12 : decode cL_call 12 = .ok (.ifCond .eq 7, 3) := by decide +kernel
theorem dL_call_15 : decode cL_call 15 = .ok (.lconst 1, 1) := by decide +kernel
theorem dL_call_16 : decode cL_call 16 = .ok (.goto 4, 3) := by decide +kernel
theorem dL_call_19 : decode cL_call 19 = .ok (.lconst 0, 1) := by decide +kernel
theorem dL_call_20 : decode cL_call 20 = .ok (.lastore, 1) := by decide +kernel
theorem dL_call_21 : decode cL_call 21 = .ok (.goto 11, 3) := by decide +kernel
theorem dL_call_24 : decode cL_call 24 = .ok (.astore 6, 2) := by decide +kernel
theorem dL_call_26 : decode cL_call 26 = .ok (.iconst 1, 1) := by decide +kernel
theorem dL_call_27 : decode cL_call 27 = .ok (.ireturn, 1) := by decide +kernel
theorem dL_call_28 : decode cL_call 28 = .ok (.astore 6, 2) := by decide +kernel
theorem dL_call_30 : decode cL_call 30 = .ok (.iconst 2, 1) := by decide +kernel
theorem dL_call_31 : decode cL_call 31 = .ok (.ireturn, 1) := by decide +kernel
theorem dL_call_32 : decode cL_call 32 = .ok (.iconst 0, 1) := by decide +kernel
theorem dL_call_33 : decode cL_call 33 = .ok (.ireturn, 1) := by decide +kernel
theorem dL_base_0 : decode cL_base 0 = .ok (.aload_n 3, 1) := by decide +kernel
theorem dL_base_1 : decode cL_base 1 = .ok (.iconst 0, 1) := by decide +kernel
theorem dL_base_2 : decode cL_base 2 = .ok (.aload_n 0, 1) := by decide +kernel
theorem dL_base_3 : decode cL_base 3 = .ok (.iload_n 1, 1) := by decide +kernel
theorem dL_base_4 : decode cL_base 4 = .ok (.iload_n 2, 1) := by decide +kernel
theorem dL_base_5 : decode cL_base 5 = .ok (.invokevirtual 64, 3) := by decide +kernel
theorem dL_base_8 : decode cL_base 8 = .ok (.i2l, 1) := by decide +kernel
theorem dL_base_9 : decode cL_base 9 = .ok (.lastore, 1) := by decide +kernel
theorem dL_base_10 : decode cL_base 10 = .ok (.goto 11, 3) := by decide +kernel
theorem dL_base_13 : decode cL_base 13 = .ok (.astore 4, 2) := by decide +kernel
theorem dL_base_15 : decode cL_base 15 = .ok (.iconst 1, 1) := by decide +kernel
theorem dL_base_16 : decode cL_base 16 = .ok (.ireturn, 1) := by decide +kernel
theorem dL_base_17 : decode cL_base 17 = .ok (.astore 4, 2) := by decide +kernel
theorem dL_base_19 : decode cL_base 19 = .ok (.iconst 2, 1) := by decide +kernel
theorem dL_base_20 : decode cL_base 20 = .ok (.ireturn, 1) := by decide +kernel
theorem dL_base_21 : decode cL_base 21 = .ok (.iconst 0, 1) := by decide +kernel
theorem dL_base_22 : decode cL_base 22 = .ok (.ireturn, 1) := by decide +kernel
theorem dL_set_0 : decode cL_set 0 = .ok (.aload_n 3, 1) := by decide +kernel
theorem dL_set_1 : decode cL_set 1 = .ok (.iconst 0, 1) := by decide +kernel
theorem dL_set_2 : decode cL_set 2 = .ok (.aload_n 0, 1) := by decide +kernel
theorem dL_set_3 : decode cL_set 3 = .ok (.iload_n 1, 1) := by decide +kernel
theorem dL_set_4 : decode cL_set 4 = .ok (.iload_n 2, 1) := by decide +kernel
theorem dL_set_5 : decode cL_set 5 = .ok (.invokevirtual 67, 3) := by decide +kernel
theorem dL_set_8 : decode cL_set 8 = .ok (.i2l, 1) := by decide +kernel
theorem dL_set_9 : decode cL_set 9 = .ok (.lastore, 1) := by decide +kernel
theorem dL_set_10 : decode cL_set 10 = .ok (.goto 11, 3) := by decide +kernel
theorem dL_set_13 : decode cL_set 13 = .ok (.astore 4, 2) := by decide +kernel
theorem dL_set_15 : decode cL_set 15 = .ok (.iconst 1, 1) := by decide +kernel
theorem dL_set_16 : decode cL_set 16 = .ok (.ireturn, 1) := by decide +kernel
theorem dL_set_17 : decode cL_set 17 = .ok (.astore 4, 2) := by decide +kernel
theorem dL_set_19 : decode cL_set 19 = .ok (.iconst 2, 1) := by decide +kernel
theorem dL_set_20 : decode cL_set 20 = .ok (.ireturn, 1) := by decide +kernel
theorem dL_set_21 : decode cL_set 21 = .ok (.iconst 0, 1) := by decide +kernel
theorem dL_set_22 : decode cL_set 22 = .ok (.ireturn, 1) := by decide +kernel
theorem dL_scratch_0 : decode cL_scratch 0 = .ok (.aload_n 3, 1) := by decide +kernel
theorem dL_scratch_1 : decode cL_scratch 1 = .ok (.iconst 0, 1) := by decide +kernel
theorem dL_scratch_2 : decode cL_scratch 2 = .ok (.aload_n 0, 1) := by decide +kernel
theorem dL_scratch_3 : decode cL_scratch 3 = .ok (.iload_n 1, 1) := by decide +kernel
theorem dL_scratch_4 : decode cL_scratch 4 = .ok (.iload_n 2, 1) := by decide +kernel
theorem dL_scratch_5 : decode cL_scratch 5 = .ok (.invokevirtual 70, 3) := by decide +kernel
theorem dL_scratch_8 : decode cL_scratch 8 = .ok (.i2l, 1) := by decide +kernel
theorem dL_scratch_9 : decode cL_scratch 9 = .ok (.lastore, 1) := by decide +kernel
theorem dL_scratch_10 : decode cL_scratch 10 = .ok (.goto 7, 3) := by decide +kernel
theorem dL_scratch_13 : decode cL_scratch 13 = .ok (.astore 4, 2) := by decide +kernel
theorem dL_scratch_15 : decode cL_scratch 15 = .ok (.iconst 1, 1) := by decide +kernel
theorem dL_scratch_16 : decode cL_scratch 16 = .ok (.ireturn, 1) := by decide +kernel
theorem dL_scratch_17 : decode cL_scratch 17 = .ok (.iconst 0, 1) := by decide +kernel
theorem dL_scratch_18 : decode cL_scratch 18 = .ok (.ireturn, 1) := by decide +kernel
theorem dL_bias_0 : decode cL_bias 0 = .ok (.aload_n 2, 1) := by decide +kernel
theorem dL_bias_1 : decode cL_bias 1 = .ok (.iconst 0, 1) := by decide +kernel
theorem dL_bias_2 : decode cL_bias 2 = .ok (.aload_n 0, 1) := by decide +kernel
theorem dL_bias_3 : decode cL_bias 3 = .ok (.iload_n 1, 1) := by decide +kernel
theorem dL_bias_4 : decode cL_bias 4 = .ok (.invokevirtual 73, 3) := by decide +kernel
theorem dL_bias_7 : decode cL_bias 7 = .ok (.i2l, 1) := by decide +kernel
theorem dL_bias_8 : decode cL_bias 8 = .ok (.lastore, 1) := by decide +kernel
theorem dL_bias_9 : decode cL_bias 9 = .ok (.goto 6, 3) := by decide +kernel
theorem dL_bias_12 : decode cL_bias 12 = .ok (.astore_n 3, 1) := by decide +kernel
theorem dL_bias_13 : decode cL_bias 13 = .ok (.iconst 1, 1) := by decide +kernel
theorem dL_bias_14 : decode cL_bias 14 = .ok (.ireturn, 1) := by decide +kernel
theorem dL_bias_15 : decode cL_bias 15 = .ok (.iconst 0, 1) := by decide +kernel
theorem dL_bias_16 : decode cL_bias 16 = .ok (.ireturn, 1) := by decide +kernel
theorem dL_without_0 : decode cL_without 0 = .ok (.aload_n 3, 1) := by decide +kernel
theorem dL_without_1 : decode cL_without 1 = .ok (.iconst 0, 1) := by decide +kernel
theorem dL_without_2 : decode cL_without 2 = .ok (.aload_n 0, 1) := by decide +kernel
theorem dL_without_3 : decode cL_without 3 = .ok (.iload_n 1, 1) := by decide +kernel
theorem dL_without_4 : decode cL_without 4 = .ok (.iload_n 2, 1) := by decide +kernel
theorem dL_without_5 : decode cL_without 5 = .ok (.invokevirtual 76, 3) := by decide +kernel
theorem dL_without_8 : decode cL_without 8 = .ok (.i2l, 1) := by decide +kernel
theorem dL_without_9 : decode cL_without 9 = .ok (.lastore, 1) := by decide +kernel
theorem dL_without_10 : decode cL_without 10 = .ok (.goto 11, 3) := by decide +kernel
theorem dL_without_13 : decode cL_without 13 = .ok (.astore 4, 2) := by decide +kernel
theorem dL_without_15 : decode cL_without 15 = .ok (.iconst 1, 1) := by decide +kernel
theorem dL_without_16 : decode cL_without 16 = .ok (.ireturn, 1) := by decide +kernel
theorem dL_without_17 : decode cL_without 17 = .ok (.astore 4, 2) := by decide +kernel
theorem dL_without_19 : decode cL_without 19 = .ok (.iconst 2, 1) := by decide +kernel
theorem dL_without_20 : decode cL_without 20 = .ok (.ireturn, 1) := by decide +kernel
theorem dL_without_21 : decode cL_without 21 = .ok (.iconst 0, 1) := by decide +kernel
theorem dL_without_22 : decode cL_without 22 = .ok (.ireturn, 1) := by decide +kernel
theorem dL_sways_0 : decode cL_sways 0 = .ok (.aload_n 2, 1) := by decide +kernel
theorem dL_sways_1 : decode cL_sways 1 = .ok (.iconst 0, 1) := by decide +kernel
theorem dL_sways_2 : decode cL_sways 2 = .ok (.aload_n 0, 1) := by decide +kernel
theorem dL_sways_3 : decode cL_sways 3 = .ok (.iload_n 1, 1) := by decide +kernel
theorem dL_sways_4 : decode cL_sways 4 = .ok (.invokevirtual 81, 3) := by decide +kernel
theorem dL_sways_7 : decode cL_sways 7 = .ok (.i2l, 1) := by decide +kernel
theorem dL_sways_8 : decode cL_sways 8 = .ok (.lastore, 1) := by decide +kernel
theorem dL_sways_9 : decode cL_sways 9 = .ok (.goto 9, 3) := by decide +kernel
theorem dL_sways_12 : decode cL_sways 12 = .ok (.astore_n 3, 1) := by decide +kernel
theorem dL_sways_13 : decode cL_sways 13 = .ok (.iconst 1, 1) := by decide +kernel
theorem dL_sways_14 : decode cL_sways 14 = .ok (.ireturn, 1) := by decide +kernel
theorem dL_sways_15 : decode cL_sways 15 = .ok (.astore_n 3, 1) := by decide +kernel
theorem dL_sways_16 : decode cL_sways 16 = .ok (.iconst 2, 1) := by decide +kernel
theorem dL_sways_17 : decode cL_sways 17 = .ok (.ireturn, 1) := by decide +kernel
theorem dL_sways_18 : decode cL_sways 18 = .ok (.iconst 0, 1) := by decide +kernel
theorem dL_sways_19 : decode cL_sways 19 = .ok (.ireturn, 1) := by decide +kernel
theorem dL_alone_0 : decode cL_alone 0 = .ok (.aload_n 3, 1) := by decide +kernel
theorem dL_alone_1 : decode cL_alone 1 = .ok (.iconst 0, 1) := by decide +kernel
theorem dL_alone_2 : decode cL_alone 2 = .ok (.aload_n 0, 1) := by decide +kernel
theorem dL_alone_3 : decode cL_alone 3 = .ok (.iload_n 1, 1) := by decide +kernel
theorem dL_alone_4 : decode cL_alone 4 = .ok (.iload_n 2, 1) := by decide +kernel
theorem dL_alone_5 : decode cL_alone 5 = .ok (.invokevirtual 84, 3) := by decide +kernel
theorem dL_alone_8 : decode cL_alone 8 = .ok (.i2l, 1) := by decide +kernel
theorem dL_alone_9 : decode cL_alone 9 = .ok (.lastore, 1) := by decide +kernel
theorem dL_alone_10 : decode cL_alone 10 = .ok (.goto 7, 3) := by decide +kernel
theorem dL_alone_13 : decode cL_alone 13 = .ok (.astore 4, 2) := by decide +kernel
theorem dL_alone_15 : decode cL_alone 15 = .ok (.iconst 1, 1) := by decide +kernel
theorem dL_alone_16 : decode cL_alone 16 = .ok (.ireturn, 1) := by decide +kernel
theorem dL_alone_17 : decode cL_alone 17 = .ok (.iconst 0, 1) := by decide +kernel
theorem dL_alone_18 : decode cL_alone 18 = .ok (.ireturn, 1) := by decide +kernel
theorem dL_place_0 : decode cL_place 0 = .ok (.aload_n 3, 1) := by decide +kernel
theorem dL_place_1 : decode cL_place 1 = .ok (.iconst 0, 1) := by decide +kernel
theorem dL_place_2 : decode cL_place 2 = .ok (.aload_n 0, 1) := by decide +kernel
theorem dL_place_3 : decode cL_place 3 = .ok (.iload_n 1, 1) := by decide +kernel
theorem dL_place_4 : decode cL_place 4 = .ok (.iload_n 2, 1) := by decide +kernel
theorem dL_place_5 : decode cL_place 5 = .ok (.invokevirtual 87, 3) := by decide +kernel
theorem dL_place_8 : decode cL_place 8 = .ok (.i2l, 1) := by decide +kernel
theorem dL_place_9 : decode cL_place 9 = .ok (.lastore, 1) := by decide +kernel
theorem dL_place_10 : decode cL_place 10 = .ok (.goto 7, 3) := by decide +kernel
theorem dL_place_13 : decode cL_place 13 = .ok (.astore 4, 2) := by decide +kernel
theorem dL_place_15 : decode cL_place 15 = .ok (.iconst 1, 1) := by decide +kernel
theorem dL_place_16 : decode cL_place 16 = .ok (.ireturn, 1) := by decide +kernel
theorem dL_place_17 : decode cL_place 17 = .ok (.iconst 0, 1) := by decide +kernel
theorem dL_place_18 : decode cL_place 18 = .ok (.ireturn, 1) := by decide +kernel
theorem dL_majority_0 : decode cL_majority 0 = .ok (.aload_n 2, 1) := by decide +kernel
theorem dL_majority_1 : decode cL_majority 1 = .ok (.iconst 0, 1) := by decide +kernel
theorem dL_majority_2 : decode cL_majority 2 = .ok (.aload_n 0, 1) := by decide +kernel
theorem dL_majority_3 : decode cL_majority 3 = .ok (.iload_n 1, 1) := by decide +kernel
theorem dL_majority_4 : decode cL_majority 4 = .ok (.invokevirtual 90, 3) := by decide +kernel
theorem dL_majority_7 : decode cL_majority 7 = .ok (.i2l, 1) := by decide +kernel
theorem dL_majority_8 : decode cL_majority 8 = .ok (.lastore, 1) := by decide +kernel
theorem dL_majority_9 : decode cL_majority 9 = .ok (.goto 6, 3) := by decide +kernel
theorem dL_majority_12 : decode cL_majority 12 = .ok (.astore_n 3, 1) := by decide +kernel
theorem dL_majority_13 : decode cL_majority 13 = .ok (.iconst 1, 1) := by decide +kernel
theorem dL_majority_14 : decode cL_majority 14 = .ok (.ireturn, 1) := by decide +kernel
theorem dL_majority_15 : decode cL_majority 15 = .ok (.iconst 0, 1) := by decide +kernel
theorem dL_majority_16 : decode cL_majority 16 = .ok (.ireturn, 1) := by decide +kernel
theorem dL_panel_0 : decode cL_panel 0 = .ok (.aload_n 3, 1) := by decide +kernel
theorem dL_panel_1 : decode cL_panel 1 = .ok (.iconst 0, 1) := by decide +kernel
theorem dL_panel_2 : decode cL_panel 2 = .ok (.aload_n 0, 1) := by decide +kernel
theorem dL_panel_3 : decode cL_panel 3 = .ok (.iload_n 1, 1) := by decide +kernel
theorem dL_panel_4 : decode cL_panel 4 = .ok (.iload_n 2, 1) := by decide +kernel
theorem dL_panel_5 : decode cL_panel 5 = .ok (.invokevirtual 93, 3) := by decide +kernel
theorem dL_panel_8 : decode cL_panel 8 = .ok (.i2l, 1) := by decide +kernel
theorem dL_panel_9 : decode cL_panel 9 = .ok (.lastore, 1) := by decide +kernel
theorem dL_panel_10 : decode cL_panel 10 = .ok (.goto 7, 3) := by decide +kernel
theorem dL_panel_13 : decode cL_panel 13 = .ok (.astore 4, 2) := by decide +kernel
theorem dL_panel_15 : decode cL_panel 15 = .ok (.iconst 1, 1) := by decide +kernel
theorem dL_panel_16 : decode cL_panel 16 = .ok (.ireturn, 1) := by decide +kernel
theorem dL_panel_17 : decode cL_panel 17 = .ok (.iconst 0, 1) := by decide +kernel
theorem dL_panel_18 : decode cL_panel 18 = .ok (.ireturn, 1) := by decide +kernel
theorem dL_by_0 : decode cL_by 0 = .ok (.aload_n 3, 1) := by decide +kernel
theorem dL_by_1 : decode cL_by 1 = .ok (.iconst 0, 1) := by decide +kernel
theorem dL_by_2 : decode cL_by 2 = .ok (.aload_n 0, 1) := by decide +kernel
theorem dL_by_3 : decode cL_by 3 = .ok (.iload_n 1, 1) := by decide +kernel
theorem dL_by_4 : decode cL_by 4 = .ok (.iload_n 2, 1) := by decide +kernel
theorem dL_by_5 : decode cL_by 5 = .ok (.invokevirtual 96, 3) := by decide +kernel
theorem dL_by_8 : decode cL_by 8 = .ok (.i2l, 1) := by decide +kernel
theorem dL_by_9 : decode cL_by 9 = .ok (.lastore, 1) := by decide +kernel
theorem dL_by_10 : decode cL_by 10 = .ok (.goto 11, 3) := by decide +kernel
theorem dL_by_13 : decode cL_by 13 = .ok (.astore 4, 2) := by decide +kernel
theorem dL_by_15 : decode cL_by 15 = .ok (.iconst 1, 1) := by decide +kernel
theorem dL_by_16 : decode cL_by 16 = .ok (.ireturn, 1) := by decide +kernel
theorem dL_by_17 : decode cL_by 17 = .ok (.astore 4, 2) := by decide +kernel
theorem dL_by_19 : decode cL_by 19 = .ok (.iconst 2, 1) := by decide +kernel
theorem dL_by_20 : decode cL_by 20 = .ok (.ireturn, 1) := by decide +kernel
theorem dL_by_21 : decode cL_by 21 = .ok (.iconst 0, 1) := by decide +kernel
theorem dL_by_22 : decode cL_by 22 = .ok (.ireturn, 1) := by decide +kernel
theorem dL_firsts_0 : decode cL_firsts 0 = .ok (.aload_n 3, 1) := by decide +kernel
theorem dL_firsts_1 : decode cL_firsts 1 = .ok (.iconst 0, 1) := by decide +kernel
theorem dL_firsts_2 : decode cL_firsts 2 = .ok (.aload_n 0, 1) := by decide +kernel
theorem dL_firsts_3 : decode cL_firsts 3 = .ok (.iload_n 1, 1) := by decide +kernel
theorem dL_firsts_4 : decode cL_firsts 4 = .ok (.iload_n 2, 1) := by decide +kernel
theorem dL_firsts_5 : decode cL_firsts 5 = .ok (.invokevirtual 99, 3) := by decide +kernel
theorem dL_firsts_8 : decode cL_firsts 8 = .ok (.i2l, 1) := by decide +kernel
theorem dL_firsts_9 : decode cL_firsts 9 = .ok (.lastore, 1) := by decide +kernel
theorem dL_firsts_10 : decode cL_firsts 10 = .ok (.goto 11, 3) := by decide +kernel
theorem dL_firsts_13 : decode cL_firsts 13 = .ok (.astore 4, 2) := by decide +kernel
theorem dL_firsts_15 : decode cL_firsts 15 = .ok (.iconst 1, 1) := by decide +kernel
theorem dL_firsts_16 : decode cL_firsts 16 = .ok (.ireturn, 1) := by decide +kernel
theorem dL_firsts_17 : decode cL_firsts 17 = .ok (.astore 4, 2) := by decide +kernel
theorem dL_firsts_19 : decode cL_firsts 19 = .ok (.iconst 2, 1) := by decide +kernel
theorem dL_firsts_20 : decode cL_firsts 20 = .ok (.ireturn, 1) := by decide +kernel
theorem dL_firsts_21 : decode cL_firsts 21 = .ok (.iconst 0, 1) := by decide +kernel
theorem dL_firsts_22 : decode cL_firsts 22 = .ok (.ireturn, 1) := by decide +kernel
theorem dL_needed_0 : decode cL_needed 0 = .ok (.aload_n 3, 1) := by decide +kernel
theorem dL_needed_1 : decode cL_needed 1 = .ok (.iconst 0, 1) := by decide +kernel
theorem dL_needed_2 : decode cL_needed 2 = .ok (.aload_n 0, 1) := by decide +kernel
theorem dL_needed_3 : decode cL_needed 3 = .ok (.iload_n 1, 1) := by decide +kernel
theorem dL_needed_4 : decode cL_needed 4 = .ok (.iload_n 2, 1) := by decide +kernel
theorem dL_needed_5 : decode cL_needed 5 = .ok (.invokevirtual 102, 3) := by decide +kernel
theorem dL_needed_8 : decode cL_needed 8 = .ok (.i2l, 1) := by decide +kernel
theorem dL_needed_9 : decode cL_needed 9 = .ok (.lastore, 1) := by decide +kernel
theorem dL_needed_10 : decode cL_needed 10 = .ok (.goto 11, 3) := by decide +kernel
theorem dL_needed_13 : decode cL_needed 13 = .ok (.astore 4, 2) := by decide +kernel
theorem dL_needed_15 : decode cL_needed 15 = .ok (.iconst 1, 1) := by decide +kernel
theorem dL_needed_16 : decode cL_needed 16 = .ok (.ireturn, 1) := by decide +kernel
theorem dL_needed_17 : decode cL_needed 17 = .ok (.astore 4, 2) := by decide +kernel
theorem dL_needed_19 : decode cL_needed 19 = .ok (.iconst 2, 1) := by decide +kernel
theorem dL_needed_20 : decode cL_needed 20 = .ok (.ireturn, 1) := by decide +kernel
theorem dL_needed_21 : decode cL_needed 21 = .ok (.iconst 0, 1) := by decide +kernel
theorem dL_needed_22 : decode cL_needed 22 = .ok (.ireturn, 1) := by decide +kernel
theorem dL_raise_0 : decode cL_raise 0 = .ok (.aload 4, 2) := by decide +kernel
theorem dL_raise_2 : decode cL_raise 2 = .ok (.iconst 0, 1) := by decide +kernel
theorem dL_raise_3 : decode cL_raise 3 = .ok (.aload_n 0, 1) := by decide +kernel
theorem dL_raise_4 : decode cL_raise 4 = .ok (.iload_n 1, 1) := by decide +kernel
theorem dL_raise_5 : decode cL_raise 5 = .ok (.iload_n 2, 1) := by decide +kernel
theorem dL_raise_6 : decode cL_raise 6 = .ok (.iload_n 3, 1) := by decide +kernel
theorem dL_raise_7 : decode cL_raise 7 = .ok (.invokevirtual 105, 3) := by decide +kernel
theorem dL_raise_10 : decode cL_raise 10 = .ok (.i2l, 1) := by decide +kernel
theorem dL_raise_11 : decode cL_raise 11 = .ok (.lastore, 1) := by decide +kernel
theorem dL_raise_12 : decode cL_raise 12 = .ok (.goto 11, 3) := by decide +kernel
theorem dL_raise_15 : decode cL_raise 15 = .ok (.astore 5, 2) := by decide +kernel
theorem dL_raise_17 : decode cL_raise 17 = .ok (.iconst 1, 1) := by decide +kernel
theorem dL_raise_18 : decode cL_raise 18 = .ok (.ireturn, 1) := by decide +kernel
theorem dL_raise_19 : decode cL_raise 19 = .ok (.astore 5, 2) := by decide +kernel
theorem dL_raise_21 : decode cL_raise 21 = .ok (.iconst 2, 1) := by decide +kernel
theorem dL_raise_22 : decode cL_raise 22 = .ok (.ireturn, 1) := by decide +kernel
theorem dL_raise_23 : decode cL_raise 23 = .ok (.iconst 0, 1) := by decide +kernel
theorem dL_raise_24 : decode cL_raise 24 = .ok (.ireturn, 1) := by decide +kernel
theorem dL_prime_0 : decode cL_prime 0 = .ok (.aload_n 3, 1) := by decide +kernel
theorem dL_prime_1 : decode cL_prime 1 = .ok (.iconst 0, 1) := by decide +kernel
theorem dL_prime_2 : decode cL_prime 2 = .ok (.aload_n 0, 1) := by decide +kernel
theorem dL_prime_3 : decode cL_prime 3 = .ok (.iload_n 1, 1) := by decide +kernel
theorem dL_prime_4 : decode cL_prime 4 = .ok (.iload_n 2, 1) := by decide +kernel
theorem dL_prime_5 : decode cL_prime 5 = .ok (.invokevirtual 108, 3) := by decide +kernel
theorem dL_prime_8 : decode cL_prime 8 = .ok (.i2l, 1) := by decide +kernel
theorem dL_prime_9 : decode cL_prime 9 = .ok (.lastore, 1) := by decide +kernel
theorem dL_prime_10 : decode cL_prime 10 = .ok (.goto 11, 3) := by decide +kernel
theorem dL_prime_13 : decode cL_prime 13 = .ok (.astore 4, 2) := by decide +kernel
theorem dL_prime_15 : decode cL_prime 15 = .ok (.iconst 1, 1) := by decide +kernel
theorem dL_prime_16 : decode cL_prime 16 = .ok (.ireturn, 1) := by decide +kernel
theorem dL_prime_17 : decode cL_prime 17 = .ok (.astore 4, 2) := by decide +kernel
theorem dL_prime_19 : decode cL_prime 19 = .ok (.iconst 2, 1) := by decide +kernel
theorem dL_prime_20 : decode cL_prime 20 = .ok (.ireturn, 1) := by decide +kernel
theorem dL_prime_21 : decode cL_prime 21 = .ok (.iconst 0, 1) := by decide +kernel
theorem dL_prime_22 : decode cL_prime 22 = .ok (.ireturn, 1) := by decide +kernel
theorem dL_led_0 : decode cL_led 0 = .ok (.aload_n 2, 1) := by decide +kernel
theorem dL_led_1 : decode cL_led 1 = .ok (.iconst 0, 1) := by decide +kernel
theorem dL_led_2 : decode cL_led 2 = .ok (.aload_n 0, 1) := by decide +kernel
theorem dL_led_3 : decode cL_led 3 = .ok (.iload_n 1, 1) := by decide +kernel
theorem dL_led_4 : decode cL_led 4 = .ok (.invokevirtual 111, 3) := by decide +kernel
theorem dL_led_7 : decode cL_led 7 = .ok (.i2l, 1) := by decide +kernel
theorem dL_led_8 : decode cL_led 8 = .ok (.lastore, 1) := by decide +kernel
theorem dL_led_9 : decode cL_led 9 = .ok (.goto 6, 3) := by decide +kernel
theorem dL_led_12 : decode cL_led 12 = .ok (.astore_n 3, 1) := by decide +kernel
theorem dL_led_13 : decode cL_led 13 = .ok (.iconst 1, 1) := by decide +kernel
theorem dL_led_14 : decode cL_led 14 = .ok (.ireturn, 1) := by decide +kernel
theorem dL_led_15 : decode cL_led 15 = .ok (.iconst 0, 1) := by decide +kernel
theorem dL_led_16 : decode cL_led 16 = .ok (.ireturn, 1) := by decide +kernel
theorem dL_doubt_0 : decode cL_doubt 0 = .ok (.aload_n 2, 1) := by decide +kernel
theorem dL_doubt_1 : decode cL_doubt 1 = .ok (.iconst 0, 1) := by decide +kernel
theorem dL_doubt_2 : decode cL_doubt 2 = .ok (.aload_n 0, 1) := by decide +kernel
theorem dL_doubt_3 : decode cL_doubt 3 = .ok (.iload_n 1, 1) := by decide +kernel
theorem dL_doubt_4 : decode cL_doubt 4 = .ok (.invokevirtual 114, 3) := by decide +kernel
theorem dL_doubt_7 : decode cL_doubt 7 = .ok (.i2l, 1) := by decide +kernel
theorem dL_doubt_8 : decode cL_doubt 8 = .ok (.lastore, 1) := by decide +kernel
theorem dL_doubt_9 : decode cL_doubt 9 = .ok (.goto 6, 3) := by decide +kernel
theorem dL_doubt_12 : decode cL_doubt 12 = .ok (.astore_n 3, 1) := by decide +kernel
theorem dL_doubt_13 : decode cL_doubt 13 = .ok (.iconst 1, 1) := by decide +kernel
theorem dL_doubt_14 : decode cL_doubt 14 = .ok (.ireturn, 1) := by decide +kernel
theorem dL_doubt_15 : decode cL_doubt 15 = .ok (.iconst 0, 1) := by decide +kernel
theorem dL_doubt_16 : decode cL_doubt 16 = .ok (.ireturn, 1) := by decide +kernel
theorem dL_clean_0 : decode cL_clean 0 = .ok (.aload_n 2, 1) := by decide +kernel
theorem dL_clean_1 : decode cL_clean 1 = .ok (.iconst 0, 1) := by decide +kernel
theorem dL_clean_2 : decode cL_clean 2 = .ok (.aload_n 0, 1) := by decide +kernel
theorem dL_clean_3 : decode cL_clean 3 = .ok (.iload_n 1, 1) := by decide +kernel
theorem dL_clean_4 : decode cL_clean 4 = .ok (.invokevirtual 117, 3) := by decide +kernel
theorem dL_clean_7 : decode cL_clean 7 = .ok (.i2l, 1) := by decide +kernel
theorem dL_clean_8 : decode cL_clean 8 = .ok (.lastore, 1) := by decide +kernel
theorem dL_clean_9 : decode cL_clean 9 = .ok (.goto 6, 3) := by decide +kernel
theorem dL_clean_12 : decode cL_clean 12 = .ok (.astore_n 3, 1) := by decide +kernel
theorem dL_clean_13 : decode cL_clean 13 = .ok (.iconst 1, 1) := by decide +kernel
theorem dL_clean_14 : decode cL_clean 14 = .ok (.ireturn, 1) := by decide +kernel
theorem dL_clean_15 : decode cL_clean 15 = .ok (.iconst 0, 1) := by decide +kernel
theorem dL_clean_16 : decode cL_clean 16 = .ok (.ireturn, 1) := by decide +kernel
theorem dL_write_0 : decode cL_write 0 = .ok (.aload_n 2, 1) := by decide +kernel
theorem dL_write_1 : decode cL_write 1 = .ok (.iconst 0, 1) := by decide +kernel
theorem dL_write_2 : decode cL_write 2 = .ok (.aload_n 0, 1) := by decide +kernel
theorem dL_write_3 : decode cL_write 3 = .ok (.iload_n 1, 1) := by decide +kernel
theorem dL_write_4 : decode cL_write 4 = .ok (.invokevirtual 120, 3) := by decide +kernel
theorem dL_write_7 : decode cL_write 7 = .ok (.i2l, 1) := by decide +kernel
theorem dL_write_8 : decode cL_write 8 = .ok (.lastore, 1) := by decide +kernel
theorem dL_write_9 : decode cL_write 9 = .ok (.goto 6, 3) := by decide +kernel
theorem dL_write_12 : decode cL_write 12 = .ok (.astore_n 3, 1) := by decide +kernel
theorem dL_write_13 : decode cL_write 13 = .ok (.iconst 1, 1) := by decide +kernel
theorem dL_write_14 : decode cL_write 14 = .ok (.ireturn, 1) := by decide +kernel
theorem dL_write_15 : decode cL_write 15 = .ok (.iconst 0, 1) := by decide +kernel
theorem dL_write_16 : decode cL_write 16 = .ok (.ireturn, 1) := by decide +kernel
theorem wm_767 : Cond.classLink "IceJudgeLaw" 13 "java/lang/IllegalArgumentException" ∈ lw_tbl := List.mem_append_right _ (List.mem_append_right _ (List.mem_append_right _ (List.mem_append_left _ (List.mem_of_getElem? (i := 147) (by decide +kernel : tables_1_3[147]? = some (Cond.classLink "IceJudgeLaw" 13 "java/lang/IllegalArgumentException"))))))
theorem wm_973 : Cond.castable "java/lang/IllegalArgumentException" "java/lang/IllegalArgumentException" ∈ lw_tbl := List.mem_append_right _ (List.mem_append_right _ (List.mem_append_right _ (List.mem_append_right _ (List.mem_append_left _ (List.mem_of_getElem? (i := 113) (by decide +kernel : tables_1_4[113]? = some (Cond.castable "java/lang/IllegalArgumentException" "java/lang/IllegalArgumentException")))))))
theorem wm_1047 : Cond.classLink "IceJudgeLaw" 19 "java/lang/IndexOutOfBoundsException" ∈ lw_tbl := List.mem_append_right _ (List.mem_append_right _ (List.mem_append_right _ (List.mem_append_right _ (List.mem_append_left _ (List.mem_of_getElem? (i := 187) (by decide +kernel : tables_1_4[187]? = some (Cond.classLink "IceJudgeLaw" 19 "java/lang/IndexOutOfBoundsException")))))))
theorem wm_1058 : Cond.castable "java/lang/IndexOutOfBoundsException" "java/lang/IndexOutOfBoundsException" ∈ lw_tbl := List.mem_append_right _ (List.mem_append_right _ (List.mem_append_right _ (List.mem_append_right _ (List.mem_append_left _ (List.mem_of_getElem? (i := 198) (by decide +kernel : tables_1_4[198]? = some (Cond.castable "java/lang/IndexOutOfBoundsException" "java/lang/IndexOutOfBoundsException")))))))
theorem wm_1084 : Cond.classLink "IceJudgeLaw" 25 "java/util/NoSuchElementException" ∈ lw_tbl := List.mem_append_right _ (List.mem_append_right _ (List.mem_append_right _ (List.mem_append_right _ (List.mem_append_left _ (List.mem_of_getElem? (i := 224) (by decide +kernel : tables_1_4[224]? = some (Cond.classLink "IceJudgeLaw" 25 "java/util/NoSuchElementException")))))))
theorem wm_1091 : Cond.castable "java/util/NoSuchElementException" "java/util/NoSuchElementException" ∈ lw_tbl := List.mem_append_right _ (List.mem_append_right _ (List.mem_append_right _ (List.mem_append_right _ (List.mem_append_left _ (List.mem_of_getElem? (i := 231) (by decide +kernel : tables_1_4[231]? = some (Cond.castable "java/util/NoSuchElementException" "java/util/NoSuchElementException")))))))
theorem wm_1284 : Cond.classLink "IceJudgeLaw" 79 "java/lang/IllegalStateException" ∈ lw_tbl := List.mem_append_right _ (List.mem_append_right _ (List.mem_append_right _ (List.mem_append_right _ (List.mem_append_right _ (List.mem_append_left _ (List.mem_of_getElem? (i := 184) (by decide +kernel : tables_1_5[184]? = some (Cond.classLink "IceJudgeLaw" 79 "java/lang/IllegalStateException"))))))))
theorem wm_1295 : Cond.castable "java/lang/IllegalStateException" "java/lang/IllegalStateException" ∈ lw_tbl := List.mem_append_right _ (List.mem_append_right _ (List.mem_append_right _ (List.mem_append_right _ (List.mem_append_right _ (List.mem_append_left _ (List.mem_of_getElem? (i := 195) (by decide +kernel : tables_1_5[195]? = some (Cond.castable "java/lang/IllegalStateException" "java/lang/IllegalStateException"))))))))
theorem cl_L13 : Cond.classLink RL 13 (jen 1) ∈ jTB := jTB_mem wm_767 rfl
theorem cl_L19 : Cond.classLink RL 19 (jen 2) ∈ jTB := jTB_mem wm_1047 rfl
theorem cl_L25 : Cond.classLink RL 25 (jen 3) ∈ jTB := jTB_mem wm_1084 rfl
theorem cl_L79 : Cond.classLink RL 79 (jen 4) ∈ jTB := jTB_mem wm_1284 rfl
theorem cs_L1 : Cond.castable (jen 1) (jen 1) ∈ jNB := jNB_mem wm_973 rfl
theorem cs_L2 : Cond.castable (jen 2) (jen 2) ∈ jNB := jNB_mem wm_1058 rfl
theorem cs_L3 : Cond.castable (jen 3) (jen 3) ∈ jNB := jNB_mem wm_1091 rfl
theorem cs_L4 : Cond.castable (jen 4) (jen 4) ∈ jNB := jNB_mem wm_1295 rfl
set_option maxHeartbeats 4000000 in
theorem ok_L_read {X : jX} {n : Nat} (hn : 180 ≤ n) {M : jM} {rz : Int} {Mz : jM} (h : w_read M = some (rz, Mz)) : jCw X n yL_read cL_read 3 [(0, 8, 11, 13)] 34 1 [jA 1, jA 180] M rz Mz := by
  refine jCw_of (own := RL) (ls := [jA 1, jA 180, jN]) (by decide +kernel) rfl (by omega) (Nat.le_of_ble_eq_true rfl) rfl ?_
  intro C hC hR
  unfold w_read at h
  obtain ⟨c, v, M1, e, h⟩ := jbT3_some h
  refine x_aloadA_n (pc := 0) hC dL_read_0 rfl rfl kk_180 (by decide) ?_
  refine x_iconst (pc := 1) hC dL_read_1 ?_
  refine x_aloadA_n (pc := 2) hC dL_read_2 rfl rfl kk_1 (by decide) ?_
  refine x_cVC (pc := 3) hC hR mv_L_7 (jTB_mem wm_768 rfl) (ok_X9_read (by omega) e) rfl (Nat.le_of_ble_eq_true rfl) kk_1 rfl (by decide) (Nat.le_of_ble_eq_true rfl) dL_read_3 rfl rfl rfl (fun hc => ?_) (fun hc => ?_)
  · replace h := jit_pos hc h
    refine x_i2l (pc := 6) hC dL_read_6 ?_
    refine x_last (pc := 7) hC kk_180 (by omega) (by decide +kernel) dL_read_7 rfl ?_
    refine x_goto (tgt := 14) (pc := 8) hC dL_read_8 (by decide) ?_
    refine x_iconst (pc := 14) hC dL_read_14 ?_
    exact x_iretW (pc := 15) hC hR dL_read_15 rfl rfl (jr1 h) (jr2 h)
  · replace h := jit_neg hc h
    rcases jit_or h with ⟨h2, h⟩ | ⟨h2, h⟩
    · subst h2
      refine ⟨11, ⟨[], [], 0, 8, 13, rfl, by decide, by decide, by decide, by decide, cl_L13, cs_L1, fun z hz => by cases hz⟩, fun q hq => ?_⟩
      refine x_astore_n (ls2 := [jA 1, jA 180, (8, q)]) (pc := 11) hC dL_read_11 rfl (by decide) rfl (show (8 : Nat) ≠ 3 by decide) (q := q.toNat) rfl rfl ?_
      refine x_iconst (pc := 12) hC dL_read_12 ?_
      exact x_iretW (pc := 13) hC hR dL_read_13 rfl rfl (jr1 h) (jr2 h)
    · cases h
set_option maxHeartbeats 4000000 in
theorem ok_L_name {X : jX} {n : Nat} (hn : 180 ≤ n) {l1 : Int} {l2 : Int} {l3 : Int} {M : jM} {rz : Int} {Mz : jM} (h : w_name l1 l2 l3 M = some (rz, Mz)) : jCw X n yL_name cL_name 6 [(0, 12, 15, 19)] 8 1 [jA 1, jI l1, jI l2, jI l3, jA 180] M rz Mz := by
  refine jCw_of (own := RL) (ls := [jA 1, jI l1, jI l2, jI l3, jA 180, jN]) (by decide +kernel) rfl (by omega) (Nat.le_of_ble_eq_true rfl) rfl ?_
  intro C hC hR
  unfold w_name at h
  obtain ⟨c, v, e, h⟩ := jbT2_some h
  refine x_aloadA (pc := 0) hC dL_name_0 rfl kk_180 (by decide) ?_
  refine x_iconst (pc := 2) hC dL_name_2 ?_
  refine x_aloadA_n (pc := 3) hC dL_name_3 rfl rfl kk_1 (by decide) ?_
  refine x_iload_n (pc := 4) hC dL_name_4 rfl rfl ?_
  refine x_iload_n (pc := 5) hC dL_name_5 rfl rfl ?_
  refine x_iload_n (pc := 6) hC dL_name_6 rfl rfl ?_
  refine x_cVC (pc := 7) hC hR mv_L_15 (jTB_mem wm_1048 rfl) (ok_X9_name (by omega) e) rfl (Nat.le_of_ble_eq_true rfl) kk_1 rfl (by decide) (Nat.le_of_ble_eq_true rfl) dL_name_7 rfl rfl rfl (fun hc => ?_) (fun hc => ?_)
  · replace h := jit_pos hc h
    refine x_i2l (pc := 10) hC dL_name_10 ?_
    refine x_last (pc := 11) hC kk_180 (by omega) (by decide +kernel) dL_name_11 rfl ?_
    refine x_goto (tgt := 19) (pc := 12) hC dL_name_12 (by decide) ?_
    refine x_iconst (pc := 19) hC dL_name_19 ?_
    exact x_iretW (pc := 20) hC hR dL_name_20 rfl rfl (jr1 h) (jr2 h)
  · replace h := jit_neg hc h
    rcases jit_or h with ⟨h2, h⟩ | ⟨h2, h⟩
    · subst h2
      refine ⟨15, ⟨[], [], 0, 12, 19, rfl, by decide, by decide, by decide, by decide, cl_L19, cs_L2, fun z hz => by cases hz⟩, fun q hq => ?_⟩
      refine x_astore (ls2 := [jA 1, jI l1, jI l2, jI l3, jA 180, (8, q)]) (pc := 15) hC dL_name_15 (by decide) rfl (show (8 : Nat) ≠ 3 by decide) (q := q.toNat) rfl rfl ?_
      refine x_iconst (pc := 17) hC dL_name_17 ?_
      exact x_iretW (pc := 18) hC hR dL_name_18 rfl rfl (jr1 h) (jr2 h)
    · cases h
set_option maxHeartbeats 4000000 in
theorem ok_L_element {X : jX} {n : Nat} (hn : 180 ≤ n) {l1 : Int} {l2 : Int} {M : jM} {rz : Int} {Mz : jM} (h : w_element l1 l2 M = some (rz, Mz)) : jCw X n yL_element cL_element 5 [(0, 10, 13, 19), (0, 10, 17, 25)] 8 2 [jA 1, jI l1, jI l2, jA 180] M rz Mz := by
  refine jCw_of (own := RL) (ls := [jA 1, jI l1, jI l2, jA 180, jN]) (by decide +kernel) rfl (by omega) (Nat.le_of_ble_eq_true rfl) rfl ?_
  intro C hC hR
  unfold w_element at h
  obtain ⟨c, v, e, h⟩ := jbT2_some h
  refine x_aloadA_n (pc := 0) hC dL_element_0 rfl rfl kk_180 (by decide) ?_
  refine x_iconst (pc := 1) hC dL_element_1 ?_
  refine x_aloadA_n (pc := 2) hC dL_element_2 rfl rfl kk_1 (by decide) ?_
  refine x_iload_n (pc := 3) hC dL_element_3 rfl rfl ?_
  refine x_iload_n (pc := 4) hC dL_element_4 rfl rfl ?_
  refine x_cVC (pc := 5) hC hR mv_L_21 (jTB_mem wm_1085 rfl) (ok_X9_element (by omega) e) rfl (Nat.le_of_ble_eq_true rfl) kk_1 rfl (by decide) (Nat.le_of_ble_eq_true rfl) dL_element_5 rfl rfl rfl (fun hc => ?_) (fun hc => ?_)
  · replace h := jit_pos hc h
    refine x_i2l (pc := 8) hC dL_element_8 ?_
    refine x_last (pc := 9) hC kk_180 (by omega) (by decide +kernel) dL_element_9 rfl ?_
    refine x_goto (tgt := 21) (pc := 10) hC dL_element_10 (by decide) ?_
    refine x_iconst (pc := 21) hC dL_element_21 ?_
    exact x_iretW (pc := 22) hC hR dL_element_22 rfl rfl (jr1 h) (jr2 h)
  · replace h := jit_neg hc h
    rcases jit_or h with ⟨h2, h⟩ | ⟨h2, h⟩
    · subst h2
      refine ⟨13, ⟨[], [(0, 10, 17, 25)], 0, 10, 19, rfl, by decide, by decide, by decide, by decide, cl_L19, cs_L2, fun z hz => by cases hz⟩, fun q hq => ?_⟩
      refine x_astore (ls2 := [jA 1, jI l1, jI l2, jA 180, (8, q)]) (pc := 13) hC dL_element_13 (by decide) rfl (show (8 : Nat) ≠ 3 by decide) (q := q.toNat) rfl rfl ?_
      refine x_iconst (pc := 15) hC dL_element_15 ?_
      exact x_iretW (pc := 16) hC hR dL_element_16 rfl rfl (jr1 h) (jr2 h)
    · rcases jit_or h with ⟨h2, h⟩ | ⟨h2, h⟩
      · subst h2
        refine ⟨17, ⟨[(0, 10, 13, 19)], [], 0, 10, 25, rfl, by decide, by decide, by decide, by decide, cl_L25, cs_L3, fun z hz => by rw [List.mem_singleton] at hz; subst hz; exact ⟨by decide, 2, by decide, by decide, cl_L19⟩⟩, fun q hq => ?_⟩
        refine x_astore (ls2 := [jA 1, jI l1, jI l2, jA 180, (8, q)]) (pc := 17) hC dL_element_17 (by decide) rfl (show (8 : Nat) ≠ 3 by decide) (q := q.toNat) rfl rfl ?_
        refine x_iconst (pc := 19) hC dL_element_19 ?_
        exact x_iretW (pc := 20) hC hR dL_element_20 rfl rfl (jr1 h) (jr2 h)
      · cases h
set_option maxHeartbeats 4000000 in
theorem ok_L_attempt {X : jX} {n : Nat} (hn : 180 ≤ n) {l1 : Int} {l2 : Int} {l3 : Int} {M : jM} {rz : Int} {Mz : jM} (h : w_attempt l1 l2 l3 M = some (rz, Mz)) : jCw X n yL_attempt cL_attempt 6 [(0, 12, 15, 19), (0, 12, 19, 25)] 9 3 [jA 1, jI l1, jI l2, jI l3, jA 180] M rz Mz := by
  refine jCw_of (own := RL) (ls := [jA 1, jI l1, jI l2, jI l3, jA 180, jN]) (by decide +kernel) rfl (by omega) (Nat.le_of_ble_eq_true rfl) rfl ?_
  intro C hC hR
  unfold w_attempt at h
  obtain ⟨c, v, M1, e, h⟩ := jbT3_some h
  refine x_aloadA (pc := 0) hC dL_attempt_0 rfl kk_180 (by decide) ?_
  refine x_iconst (pc := 2) hC dL_attempt_2 ?_
  refine x_aloadA_n (pc := 3) hC dL_attempt_3 rfl rfl kk_1 (by decide) ?_
  refine x_iload_n (pc := 4) hC dL_attempt_4 rfl rfl ?_
  refine x_iload_n (pc := 5) hC dL_attempt_5 rfl rfl ?_
  refine x_iload_n (pc := 6) hC dL_attempt_6 rfl rfl ?_
  refine x_cVC (pc := 7) hC hR mv_L_27 (jTB_mem wm_1108 rfl) (ok_X9_attempt (by omega) e) rfl (Nat.le_of_ble_eq_true rfl) kk_1 rfl (by decide) (Nat.le_of_ble_eq_true rfl) dL_attempt_7 rfl rfl rfl (fun hc => ?_) (fun hc => ?_)
  · replace h := jit_pos hc h
    refine x_i2l (pc := 10) hC dL_attempt_10 ?_
    refine x_last (pc := 11) hC kk_180 (by omega) (by decide +kernel) dL_attempt_11 rfl ?_
    refine x_goto (tgt := 23) (pc := 12) hC dL_attempt_12 (by decide) ?_
    refine x_iconst (pc := 23) hC dL_attempt_23 ?_
    exact x_iretW (pc := 24) hC hR dL_attempt_24 rfl rfl (jr1 h) (jr2 h)
  · replace h := jit_neg hc h
    rcases jit_or h with ⟨h2, h⟩ | ⟨h2, h⟩
    · subst h2
      refine ⟨15, ⟨[], [(0, 12, 19, 25)], 0, 12, 19, rfl, by decide, by decide, by decide, by decide, cl_L19, cs_L2, fun z hz => by cases hz⟩, fun q hq => ?_⟩
      refine x_astore (ls2 := [jA 1, jI l1, jI l2, jI l3, jA 180, (8, q)]) (pc := 15) hC dL_attempt_15 (by decide) rfl (show (8 : Nat) ≠ 3 by decide) (q := q.toNat) rfl rfl ?_
      refine x_iconst (pc := 17) hC dL_attempt_17 ?_
      exact x_iretW (pc := 18) hC hR dL_attempt_18 rfl rfl (jr1 h) (jr2 h)
    · rcases jit_or h with ⟨h2, h⟩ | ⟨h2, h⟩
      · subst h2
        refine ⟨19, ⟨[(0, 12, 15, 19)], [], 0, 12, 25, rfl, by decide, by decide, by decide, by decide, cl_L25, cs_L3, fun z hz => by rw [List.mem_singleton] at hz; subst hz; exact ⟨by decide, 2, by decide, by decide, cl_L19⟩⟩, fun q hq => ?_⟩
        refine x_astore (ls2 := [jA 1, jI l1, jI l2, jI l3, jA 180, (8, q)]) (pc := 19) hC dL_attempt_19 (by decide) rfl (show (8 : Nat) ≠ 3 by decide) (q := q.toNat) rfl rfl ?_
        refine x_iconst (pc := 21) hC dL_attempt_21 ?_
        exact x_iretW (pc := 22) hC hR dL_attempt_22 rfl rfl (jr1 h) (jr2 h)
      · cases h
set_option maxHeartbeats 4000000 in
theorem ok_L_grade {X : jX} {n : Nat} (hn : 180 ≤ n) {l1 : Int} {l2 : Int} {l3 : Int} {M : jM} {rz : Int} {Mz : jM} (h : w_grade l1 l2 l3 M = some (rz, Mz)) : jCw X n yL_grade cL_grade 6 [(0, 12, 15, 19)] 9 3 [jA 1, jI l1, jI l2, jI l3, jA 180] M rz Mz := by
  refine jCw_of (own := RL) (ls := [jA 1, jI l1, jI l2, jI l3, jA 180, jN]) (by decide +kernel) rfl (by omega) (Nat.le_of_ble_eq_true rfl) rfl ?_
  intro C hC hR
  unfold w_grade at h
  obtain ⟨c, v, e, h⟩ := jbT2_some h
  refine x_aloadA (pc := 0) hC dL_grade_0 rfl kk_180 (by decide) ?_
  refine x_iconst (pc := 2) hC dL_grade_2 ?_
  refine x_aloadA_n (pc := 3) hC dL_grade_3 rfl rfl kk_1 (by decide) ?_
  refine x_iload_n (pc := 4) hC dL_grade_4 rfl rfl ?_
  refine x_iload_n (pc := 5) hC dL_grade_5 rfl rfl ?_
  refine x_iload_n (pc := 6) hC dL_grade_6 rfl rfl ?_
  refine x_cVC (pc := 7) hC hR mv_L_31 (jTB_mem wm_1143 rfl) (ok_X9_grade (by omega) e) rfl (Nat.le_of_ble_eq_true rfl) kk_1 rfl (by decide) (Nat.le_of_ble_eq_true rfl) dL_grade_7 rfl rfl rfl (fun hc => ?_) (fun hc => ?_)
  · replace h := jit_pos hc h
    refine x_i2l (pc := 10) hC dL_grade_10 ?_
    refine x_last (pc := 11) hC kk_180 (by omega) (by decide +kernel) dL_grade_11 rfl ?_
    refine x_goto (tgt := 19) (pc := 12) hC dL_grade_12 (by decide) ?_
    refine x_iconst (pc := 19) hC dL_grade_19 ?_
    exact x_iretW (pc := 20) hC hR dL_grade_20 rfl rfl (jr1 h) (jr2 h)
  · replace h := jit_neg hc h
    rcases jit_or h with ⟨h2, h⟩ | ⟨h2, h⟩
    · subst h2
      refine ⟨15, ⟨[], [], 0, 12, 19, rfl, by decide, by decide, by decide, by decide, cl_L19, cs_L2, fun z hz => by cases hz⟩, fun q hq => ?_⟩
      refine x_astore (ls2 := [jA 1, jI l1, jI l2, jI l3, jA 180, (8, q)]) (pc := 15) hC dL_grade_15 (by decide) rfl (show (8 : Nat) ≠ 3 by decide) (q := q.toNat) rfl rfl ?_
      refine x_iconst (pc := 17) hC dL_grade_17 ?_
      exact x_iretW (pc := 18) hC hR dL_grade_18 rfl rfl (jr1 h) (jr2 h)
    · cases h
set_option maxHeartbeats 4000000 in
theorem ok_L_mean {X : jX} {n : Nat} (hn : 180 ≤ n) {l1 : Int} {l2 : Int} {M : jM} {rz : Int} {Mz : jM} (h : w_mean l1 l2 M = some (rz, Mz)) : jCw X n yL_mean cL_mean 5 [(0, 10, 13, 19)] 9 2 [jA 1, jI l1, jI l2, jA 180] M rz Mz := by
  refine jCw_of (own := RL) (ls := [jA 1, jI l1, jI l2, jA 180, jN]) (by decide +kernel) rfl (by omega) (Nat.le_of_ble_eq_true rfl) rfl ?_
  intro C hC hR
  unfold w_mean at h
  obtain ⟨c, v, M1, e, h⟩ := jbT3_some h
  refine x_aloadA_n (pc := 0) hC dL_mean_0 rfl rfl kk_180 (by decide) ?_
  refine x_iconst (pc := 1) hC dL_mean_1 ?_
  refine x_aloadA_n (pc := 2) hC dL_mean_2 rfl rfl kk_1 (by decide) ?_
  refine x_iload_n (pc := 3) hC dL_mean_3 rfl rfl ?_
  refine x_iload_n (pc := 4) hC dL_mean_4 rfl rfl ?_
  refine x_cVC (pc := 5) hC hR mv_L_34 (jTB_mem wm_1156 rfl) (ok_X9_mean (by omega) e) rfl (Nat.le_of_ble_eq_true rfl) kk_1 rfl (by decide) (Nat.le_of_ble_eq_true rfl) dL_mean_5 rfl rfl rfl (fun hc => ?_) (fun hc => ?_)
  · replace h := jit_pos hc h
    refine x_i2l (pc := 8) hC dL_mean_8 ?_
    refine x_last (pc := 9) hC kk_180 (by omega) (by decide +kernel) dL_mean_9 rfl ?_
    refine x_goto (tgt := 17) (pc := 10) hC dL_mean_10 (by decide) ?_
    refine x_iconst (pc := 17) hC dL_mean_17 ?_
    exact x_iretW (pc := 18) hC hR dL_mean_18 rfl rfl (jr1 h) (jr2 h)
  · replace h := jit_neg hc h
    rcases jit_or h with ⟨h2, h⟩ | ⟨h2, h⟩
    · subst h2
      refine ⟨13, ⟨[], [], 0, 10, 19, rfl, by decide, by decide, by decide, by decide, cl_L19, cs_L2, fun z hz => by cases hz⟩, fun q hq => ?_⟩
      refine x_astore (ls2 := [jA 1, jI l1, jI l2, jA 180, (8, q)]) (pc := 13) hC dL_mean_13 (by decide) rfl (show (8 : Nat) ≠ 3 by decide) (q := q.toNat) rfl rfl ?_
      refine x_iconst (pc := 15) hC dL_mean_15 ?_
      exact x_iretW (pc := 16) hC hR dL_mean_16 rfl rfl (jr1 h) (jr2 h)
    · cases h
set_option maxHeartbeats 4000000 in
theorem ok_L_mark {X : jX} {n : Nat} (hn : 180 ≤ n) {l1 : Int} {l2 : Int} {l3 : Int} {M : jM} {rz : Int} {Mz : jM} (h : w_mark l1 l2 l3 M = some (rz, Mz)) : jCw X n yL_mark cL_mark 6 [(0, 12, 15, 19)] 8 3 [jA 1, jI l1, jI l2, jI l3, jA 180] M rz Mz := by
  refine jCw_of (own := RL) (ls := [jA 1, jI l1, jI l2, jI l3, jA 180, jN]) (by decide +kernel) rfl (by omega) (Nat.le_of_ble_eq_true rfl) rfl ?_
  intro C hC hR
  unfold w_mark at h
  obtain ⟨c, v, e, h⟩ := jbT2_some h
  refine x_aloadA (pc := 0) hC dL_mark_0 rfl kk_180 (by decide) ?_
  refine x_iconst (pc := 2) hC dL_mark_2 ?_
  refine x_aloadA_n (pc := 3) hC dL_mark_3 rfl rfl kk_1 (by decide) ?_
  refine x_iload_n (pc := 4) hC dL_mark_4 rfl rfl ?_
  refine x_iload_n (pc := 5) hC dL_mark_5 rfl rfl ?_
  refine x_iload_n (pc := 6) hC dL_mark_6 rfl rfl ?_
  refine x_cVC (pc := 7) hC hR mv_L_37 (jTB_mem wm_1164 rfl) (ok_X9_mark (by omega) e) rfl (Nat.le_of_ble_eq_true rfl) kk_1 rfl (by decide) (Nat.le_of_ble_eq_true rfl) dL_mark_7 rfl rfl rfl (fun hc => ?_) (fun hc => ?_)
  · replace h := jit_pos hc h
    refine x_i2l (pc := 10) hC dL_mark_10 ?_
    refine x_last (pc := 11) hC kk_180 (by omega) (by decide +kernel) dL_mark_11 rfl ?_
    refine x_goto (tgt := 19) (pc := 12) hC dL_mark_12 (by decide) ?_
    refine x_iconst (pc := 19) hC dL_mark_19 ?_
    exact x_iretW (pc := 20) hC hR dL_mark_20 rfl rfl (jr1 h) (jr2 h)
  · replace h := jit_neg hc h
    rcases jit_or h with ⟨h2, h⟩ | ⟨h2, h⟩
    · subst h2
      refine ⟨15, ⟨[], [], 0, 12, 19, rfl, by decide, by decide, by decide, by decide, cl_L19, cs_L2, fun z hz => by cases hz⟩, fun q hq => ?_⟩
      refine x_astore (ls2 := [jA 1, jI l1, jI l2, jI l3, jA 180, (8, q)]) (pc := 15) hC dL_mark_15 (by decide) rfl (show (8 : Nat) ≠ 3 by decide) (q := q.toNat) rfl rfl ?_
      refine x_iconst (pc := 17) hC dL_mark_17 ?_
      exact x_iretW (pc := 18) hC hR dL_mark_18 rfl rfl (jr1 h) (jr2 h)
    · cases h
set_option maxHeartbeats 4000000 in
theorem ok_L_component {X : jX} {n : Nat} (hn : 180 ≤ n) {l1 : Int} {l2 : Int} {M : jM} {rz : Int} {Mz : jM} (h : w_component l1 l2 M = some (rz, Mz)) : jCw X n yL_component cL_component 5 [(0, 10, 13, 19)] 8 2 [jA 1, jI l1, jI l2, jA 180] M rz Mz := by
  refine jCw_of (own := RL) (ls := [jA 1, jI l1, jI l2, jA 180, jN]) (by decide +kernel) rfl (by omega) (Nat.le_of_ble_eq_true rfl) rfl ?_
  intro C hC hR
  unfold w_component at h
  obtain ⟨c, v, M1, e, h⟩ := jbT3_some h
  refine x_aloadA_n (pc := 0) hC dL_component_0 rfl rfl kk_180 (by decide) ?_
  refine x_iconst (pc := 1) hC dL_component_1 ?_
  refine x_aloadA_n (pc := 2) hC dL_component_2 rfl rfl kk_1 (by decide) ?_
  refine x_iload_n (pc := 3) hC dL_component_3 rfl rfl ?_
  refine x_iload_n (pc := 4) hC dL_component_4 rfl rfl ?_
  refine x_cVC (pc := 5) hC hR mv_L_40 (jTB_mem wm_1179 rfl) (ok_X9_component (by omega) e) rfl (Nat.le_of_ble_eq_true rfl) kk_1 rfl (by decide) (Nat.le_of_ble_eq_true rfl) dL_component_5 rfl rfl rfl (fun hc => ?_) (fun hc => ?_)
  · replace h := jit_pos hc h
    refine x_i2l (pc := 8) hC dL_component_8 ?_
    refine x_last (pc := 9) hC kk_180 (by omega) (by decide +kernel) dL_component_9 rfl ?_
    refine x_goto (tgt := 17) (pc := 10) hC dL_component_10 (by decide) ?_
    refine x_iconst (pc := 17) hC dL_component_17 ?_
    exact x_iretW (pc := 18) hC hR dL_component_18 rfl rfl (jr1 h) (jr2 h)
  · replace h := jit_neg hc h
    rcases jit_or h with ⟨h2, h⟩ | ⟨h2, h⟩
    · subst h2
      refine ⟨13, ⟨[], [], 0, 10, 19, rfl, by decide, by decide, by decide, by decide, cl_L19, cs_L2, fun z hz => by cases hz⟩, fun q hq => ?_⟩
      refine x_astore (ls2 := [jA 1, jI l1, jI l2, jA 180, (8, q)]) (pc := 13) hC dL_component_13 (by decide) rfl (show (8 : Nat) ≠ 3 by decide) (q := q.toNat) rfl rfl ?_
      refine x_iconst (pc := 15) hC dL_component_15 ?_
      exact x_iretW (pc := 16) hC hR dL_component_16 rfl rfl (jr1 h) (jr2 h)
    · cases h
set_option maxHeartbeats 4000000 in
theorem ok_L_total {X : jX} {n : Nat} (hn : 180 ≤ n) {l1 : Int} {l2 : Int} {M : jM} {rz : Int} {Mz : jM} (h : w_total l1 l2 M = some (rz, Mz)) : jCw X n yL_total cL_total 5 [(0, 10, 13, 19), (0, 10, 17, 25)] 8 2 [jA 1, jI l1, jI l2, jA 180] M rz Mz := by
  refine jCw_of (own := RL) (ls := [jA 1, jI l1, jI l2, jA 180, jN]) (by decide +kernel) rfl (by omega) (Nat.le_of_ble_eq_true rfl) rfl ?_
  intro C hC hR
  unfold w_total at h
  obtain ⟨c, v, M1, e, h⟩ := jbT3_some h
  refine x_aloadA_n (pc := 0) hC dL_total_0 rfl rfl kk_180 (by decide) ?_
  refine x_iconst (pc := 1) hC dL_total_1 ?_
  refine x_aloadA_n (pc := 2) hC dL_total_2 rfl rfl kk_1 (by decide) ?_
  refine x_iload_n (pc := 3) hC dL_total_3 rfl rfl ?_
  refine x_iload_n (pc := 4) hC dL_total_4 rfl rfl ?_
  refine x_cVC (pc := 5) hC hR mv_L_43 (jTB_mem wm_1187 rfl) (ok_X9_total (by omega) e) rfl (Nat.le_of_ble_eq_true rfl) kk_1 rfl (by decide) (Nat.le_of_ble_eq_true rfl) dL_total_5 rfl rfl rfl (fun hc => ?_) (fun hc => ?_)
  · replace h := jit_pos hc h
    refine x_i2l (pc := 8) hC dL_total_8 ?_
    refine x_last (pc := 9) hC kk_180 (by omega) (by decide +kernel) dL_total_9 rfl ?_
    refine x_goto (tgt := 21) (pc := 10) hC dL_total_10 (by decide) ?_
    refine x_iconst (pc := 21) hC dL_total_21 ?_
    exact x_iretW (pc := 22) hC hR dL_total_22 rfl rfl (jr1 h) (jr2 h)
  · replace h := jit_neg hc h
    rcases jit_or h with ⟨h2, h⟩ | ⟨h2, h⟩
    · subst h2
      refine ⟨13, ⟨[], [(0, 10, 17, 25)], 0, 10, 19, rfl, by decide, by decide, by decide, by decide, cl_L19, cs_L2, fun z hz => by cases hz⟩, fun q hq => ?_⟩
      refine x_astore (ls2 := [jA 1, jI l1, jI l2, jA 180, (8, q)]) (pc := 13) hC dL_total_13 (by decide) rfl (show (8 : Nat) ≠ 3 by decide) (q := q.toNat) rfl rfl ?_
      refine x_iconst (pc := 15) hC dL_total_15 ?_
      exact x_iretW (pc := 16) hC hR dL_total_16 rfl rfl (jr1 h) (jr2 h)
    · rcases jit_or h with ⟨h2, h⟩ | ⟨h2, h⟩
      · subst h2
        refine ⟨17, ⟨[(0, 10, 13, 19)], [], 0, 10, 25, rfl, by decide, by decide, by decide, by decide, cl_L25, cs_L3, fun z hz => by rw [List.mem_singleton] at hz; subst hz; exact ⟨by decide, 2, by decide, by decide, cl_L19⟩⟩, fun q hq => ?_⟩
        refine x_astore (ls2 := [jA 1, jI l1, jI l2, jA 180, (8, q)]) (pc := 17) hC dL_total_17 (by decide) rfl (show (8 : Nat) ≠ 3 by decide) (q := q.toNat) rfl rfl ?_
        refine x_iconst (pc := 19) hC dL_total_19 ?_
        exact x_iretW (pc := 20) hC hR dL_total_20 rfl rfl (jr1 h) (jr2 h)
      · cases h
set_option maxHeartbeats 4000000 in
theorem ok_L_rule {X : jX} {n : Nat} (hn : 180 ≤ n) {l1 : Int} {l2 : Int} {M : jM} {rz : Int} {Mz : jM} (h : w_rule l1 l2 M = some (rz, Mz)) : jCw X n yL_rule cL_rule 5 [(0, 10, 13, 19), (0, 10, 17, 25)] 8 2 [jA 1, jI l1, jI l2, jA 180] M rz Mz := by
  refine jCw_of (own := RL) (ls := [jA 1, jI l1, jI l2, jA 180, jN]) (by decide +kernel) rfl (by omega) (Nat.le_of_ble_eq_true rfl) rfl ?_
  intro C hC hR
  unfold w_rule at h
  obtain ⟨c, v, M1, e, h⟩ := jbT3_some h
  refine x_aloadA_n (pc := 0) hC dL_rule_0 rfl rfl kk_180 (by decide) ?_
  refine x_iconst (pc := 1) hC dL_rule_1 ?_
  refine x_aloadA_n (pc := 2) hC dL_rule_2 rfl rfl kk_1 (by decide) ?_
  refine x_iload_n (pc := 3) hC dL_rule_3 rfl rfl ?_
  refine x_iload_n (pc := 4) hC dL_rule_4 rfl rfl ?_
  refine x_cVC (pc := 5) hC hR mv_L_46 (jTB_mem wm_1195 rfl) (ok_X9_rule (by omega) e) rfl (Nat.le_of_ble_eq_true rfl) kk_1 rfl (by decide) (Nat.le_of_ble_eq_true rfl) dL_rule_5 rfl rfl rfl (fun hc => ?_) (fun hc => ?_)
  · replace h := jit_pos hc h
    refine x_i2l (pc := 8) hC dL_rule_8 ?_
    refine x_last (pc := 9) hC kk_180 (by omega) (by decide +kernel) dL_rule_9 rfl ?_
    refine x_goto (tgt := 21) (pc := 10) hC dL_rule_10 (by decide) ?_
    refine x_iconst (pc := 21) hC dL_rule_21 ?_
    exact x_iretW (pc := 22) hC hR dL_rule_22 rfl rfl (jr1 h) (jr2 h)
  · replace h := jit_neg hc h
    rcases jit_or h with ⟨h2, h⟩ | ⟨h2, h⟩
    · subst h2
      refine ⟨13, ⟨[], [(0, 10, 17, 25)], 0, 10, 19, rfl, by decide, by decide, by decide, by decide, cl_L19, cs_L2, fun z hz => by cases hz⟩, fun q hq => ?_⟩
      refine x_astore (ls2 := [jA 1, jI l1, jI l2, jA 180, (8, q)]) (pc := 13) hC dL_rule_13 (by decide) rfl (show (8 : Nat) ≠ 3 by decide) (q := q.toNat) rfl rfl ?_
      refine x_iconst (pc := 15) hC dL_rule_15 ?_
      exact x_iretW (pc := 16) hC hR dL_rule_16 rfl rfl (jr1 h) (jr2 h)
    · rcases jit_or h with ⟨h2, h⟩ | ⟨h2, h⟩
      · subst h2
        refine ⟨17, ⟨[(0, 10, 13, 19)], [], 0, 10, 25, rfl, by decide, by decide, by decide, by decide, cl_L25, cs_L3, fun z hz => by rw [List.mem_singleton] at hz; subst hz; exact ⟨by decide, 2, by decide, by decide, cl_L19⟩⟩, fun q hq => ?_⟩
        refine x_astore (ls2 := [jA 1, jI l1, jI l2, jA 180, (8, q)]) (pc := 17) hC dL_rule_17 (by decide) rfl (show (8 : Nat) ≠ 3 by decide) (q := q.toNat) rfl rfl ?_
        refine x_iconst (pc := 19) hC dL_rule_19 ?_
        exact x_iretW (pc := 20) hC hR dL_rule_20 rfl rfl (jr1 h) (jr2 h)
      · cases h
set_option maxHeartbeats 4000000 in
theorem ok_L_rank {X : jX} {n : Nat} (hn : 180 ≤ n) {l1 : Int} {M : jM} {rz : Int} {Mz : jM} (h : w_rank l1 M = some (rz, Mz)) : jCw X n yL_rank cL_rank 4 [(0, 9, 12, 19)] 8 1 [jA 1, jI l1, jA 180] M rz Mz := by
  refine jCw_of (own := RL) (ls := [jA 1, jI l1, jA 180, jN]) (by decide +kernel) rfl (by omega) (Nat.le_of_ble_eq_true rfl) rfl ?_
  intro C hC hR
  unfold w_rank at h
  obtain ⟨c, v, M1, e, h⟩ := jbT3_some h
  refine x_aloadA_n (pc := 0) hC dL_rank_0 rfl rfl kk_180 (by decide) ?_
  refine x_iconst (pc := 1) hC dL_rank_1 ?_
  refine x_aloadA_n (pc := 2) hC dL_rank_2 rfl rfl kk_1 (by decide) ?_
  refine x_iload_n (pc := 3) hC dL_rank_3 rfl rfl ?_
  refine x_cVC (pc := 4) hC hR mv_L_49 (jTB_mem wm_1204 rfl) (ok_X9_rank (by omega) e) rfl (Nat.le_of_ble_eq_true rfl) kk_1 rfl (by decide) (Nat.le_of_ble_eq_true rfl) dL_rank_4 rfl rfl rfl (fun hc => ?_) (fun hc => ?_)
  · replace h := jit_pos hc h
    refine x_i2l (pc := 7) hC dL_rank_7 ?_
    refine x_last (pc := 8) hC kk_180 (by omega) (by decide +kernel) dL_rank_8 rfl ?_
    refine x_goto (tgt := 15) (pc := 9) hC dL_rank_9 (by decide) ?_
    refine x_iconst (pc := 15) hC dL_rank_15 ?_
    exact x_iretW (pc := 16) hC hR dL_rank_16 rfl rfl (jr1 h) (jr2 h)
  · replace h := jit_neg hc h
    rcases jit_or h with ⟨h2, h⟩ | ⟨h2, h⟩
    · subst h2
      refine ⟨12, ⟨[], [], 0, 9, 19, rfl, by decide, by decide, by decide, by decide, cl_L19, cs_L2, fun z hz => by cases hz⟩, fun q hq => ?_⟩
      refine x_astore_n (ls2 := [jA 1, jI l1, jA 180, (8, q)]) (pc := 12) hC dL_rank_12 rfl (by decide) rfl (show (8 : Nat) ≠ 3 by decide) (q := q.toNat) rfl rfl ?_
      refine x_iconst (pc := 13) hC dL_rank_13 ?_
      exact x_iretW (pc := 14) hC hR dL_rank_14 rfl rfl (jr1 h) (jr2 h)
    · cases h
set_option maxHeartbeats 4000000 in
theorem ok_L_tell {X : jX} {n : Nat} (hn : 180 ≤ n) {l1 : Int} {l2 : Int} {l3 : Int} {l4 : Int} {M : jM} {rz : Int} {Mz : jM} (h : w_tell l1 l2 l3 l4 M = some (rz, Mz)) : jCw X n yL_tell cL_tell 7 [(0, 14, 17, 19), (0, 14, 21, 13)] 9 4 [jA 1, jI l1, jI l2, jI l3, jI l4, jA 180] M rz Mz := by
  refine jCw_of (own := RL) (ls := [jA 1, jI l1, jI l2, jI l3, jI l4, jA 180, jN]) (by decide +kernel) rfl (by omega) (Nat.le_of_ble_eq_true rfl) rfl ?_
  intro C hC hR
  unfold w_tell at h
  obtain ⟨c, v, M1, e, h⟩ := jbT3_some h
  refine x_aloadA (pc := 0) hC dL_tell_0 rfl kk_180 (by decide) ?_
  refine x_iconst (pc := 2) hC dL_tell_2 ?_
  refine x_aloadA_n (pc := 3) hC dL_tell_3 rfl rfl kk_1 (by decide) ?_
  refine x_iload_n (pc := 4) hC dL_tell_4 rfl rfl ?_
  refine x_iload_n (pc := 5) hC dL_tell_5 rfl rfl ?_
  refine x_iload_n (pc := 6) hC dL_tell_6 rfl rfl ?_
  refine x_iload (pc := 7) hC dL_tell_7 rfl ?_
  refine x_cVC (pc := 9) hC hR mv_L_53 (jTB_mem wm_1212 rfl) (ok_X9_tell (by omega) e) rfl (Nat.le_of_ble_eq_true rfl) kk_1 rfl (by decide) (Nat.le_of_ble_eq_true rfl) dL_tell_9 rfl rfl rfl (fun hc => ?_) (fun hc => ?_)
  · replace h := jit_pos hc h
    refine x_i2l (pc := 12) hC dL_tell_12 ?_
    refine x_last (pc := 13) hC kk_180 (by omega) (by decide +kernel) dL_tell_13 rfl ?_
    refine x_goto (tgt := 25) (pc := 14) hC dL_tell_14 (by decide) ?_
    refine x_iconst (pc := 25) hC dL_tell_25 ?_
    exact x_iretW (pc := 26) hC hR dL_tell_26 rfl rfl (jr1 h) (jr2 h)
  · replace h := jit_neg hc h
    rcases jit_or h with ⟨h2, h⟩ | ⟨h2, h⟩
    · subst h2
      refine ⟨17, ⟨[], [(0, 14, 21, 13)], 0, 14, 19, rfl, by decide, by decide, by decide, by decide, cl_L19, cs_L2, fun z hz => by cases hz⟩, fun q hq => ?_⟩
      refine x_astore (ls2 := [jA 1, jI l1, jI l2, jI l3, jI l4, jA 180, (8, q)]) (pc := 17) hC dL_tell_17 (by decide) rfl (show (8 : Nat) ≠ 3 by decide) (q := q.toNat) rfl rfl ?_
      refine x_iconst (pc := 19) hC dL_tell_19 ?_
      exact x_iretW (pc := 20) hC hR dL_tell_20 rfl rfl (jr1 h) (jr2 h)
    · rcases jit_or h with ⟨h2, h⟩ | ⟨h2, h⟩
      · subst h2
        refine ⟨21, ⟨[(0, 14, 17, 19)], [], 0, 14, 13, rfl, by decide, by decide, by decide, by decide, cl_L13, cs_L1, fun z hz => by rw [List.mem_singleton] at hz; subst hz; exact ⟨by decide, 2, by decide, by decide, cl_L19⟩⟩, fun q hq => ?_⟩
        refine x_astore (ls2 := [jA 1, jI l1, jI l2, jI l3, jI l4, jA 180, (8, q)]) (pc := 21) hC dL_tell_21 (by decide) rfl (show (8 : Nat) ≠ 3 by decide) (q := q.toNat) rfl rfl ?_
        refine x_iconst (pc := 23) hC dL_tell_23 ?_
        exact x_iretW (pc := 24) hC hR dL_tell_24 rfl rfl (jr1 h) (jr2 h)
      · cases h
set_option maxHeartbeats 4000000 in
theorem ok_L_show {X : jX} {n : Nat} (hn : 180 ≤ n) {l1 : Int} {l2 : Int} {l3 : Int} {l4 : Int} {M : jM} {rz : Int} {Mz : jM} (h : w_show l1 l2 l3 l4 M = some (rz, Mz)) : jCw X n yL_show cL_show 7 [(0, 14, 17, 19), (0, 14, 21, 13)] 8 4 [jA 1, jI l1, jI l2, jI l3, jI l4, jA 180] M rz Mz := by
  refine jCw_of (own := RL) (ls := [jA 1, jI l1, jI l2, jI l3, jI l4, jA 180, jN]) (by decide +kernel) rfl (by omega) (Nat.le_of_ble_eq_true rfl) rfl ?_
  intro C hC hR
  unfold w_show at h
  obtain ⟨c, v, M1, e, h⟩ := jbT3_some h
  refine x_aloadA (pc := 0) hC dL_show_0 rfl kk_180 (by decide) ?_
  refine x_iconst (pc := 2) hC dL_show_2 ?_
  refine x_aloadA_n (pc := 3) hC dL_show_3 rfl rfl kk_1 (by decide) ?_
  refine x_iload_n (pc := 4) hC dL_show_4 rfl rfl ?_
  refine x_iload_n (pc := 5) hC dL_show_5 rfl rfl ?_
  refine x_iload_n (pc := 6) hC dL_show_6 rfl rfl ?_
  refine x_iload (pc := 7) hC dL_show_7 rfl ?_
  refine x_cVC (pc := 9) hC hR mv_L_57 (jTB_mem wm_1229 rfl) (ok_X9_show (by omega) e) rfl (Nat.le_of_ble_eq_true rfl) kk_1 rfl (by decide) (Nat.le_of_ble_eq_true rfl) dL_show_9 rfl rfl rfl (fun hc => ?_) (fun hc => ?_)
  · replace h := jit_pos hc h
    refine x_i2l (pc := 12) hC dL_show_12 ?_
    refine x_last (pc := 13) hC kk_180 (by omega) (by decide +kernel) dL_show_13 rfl ?_
    refine x_goto (tgt := 25) (pc := 14) hC dL_show_14 (by decide) ?_
    refine x_iconst (pc := 25) hC dL_show_25 ?_
    exact x_iretW (pc := 26) hC hR dL_show_26 rfl rfl (jr1 h) (jr2 h)
  · replace h := jit_neg hc h
    rcases jit_or h with ⟨h2, h⟩ | ⟨h2, h⟩
    · subst h2
      refine ⟨17, ⟨[], [(0, 14, 21, 13)], 0, 14, 19, rfl, by decide, by decide, by decide, by decide, cl_L19, cs_L2, fun z hz => by cases hz⟩, fun q hq => ?_⟩
      refine x_astore (ls2 := [jA 1, jI l1, jI l2, jI l3, jI l4, jA 180, (8, q)]) (pc := 17) hC dL_show_17 (by decide) rfl (show (8 : Nat) ≠ 3 by decide) (q := q.toNat) rfl rfl ?_
      refine x_iconst (pc := 19) hC dL_show_19 ?_
      exact x_iretW (pc := 20) hC hR dL_show_20 rfl rfl (jr1 h) (jr2 h)
    · rcases jit_or h with ⟨h2, h⟩ | ⟨h2, h⟩
      · subst h2
        refine ⟨21, ⟨[(0, 14, 17, 19)], [], 0, 14, 13, rfl, by decide, by decide, by decide, by decide, cl_L13, cs_L1, fun z hz => by rw [List.mem_singleton] at hz; subst hz; exact ⟨by decide, 2, by decide, by decide, cl_L19⟩⟩, fun q hq => ?_⟩
        refine x_astore (ls2 := [jA 1, jI l1, jI l2, jI l3, jI l4, jA 180, (8, q)]) (pc := 21) hC dL_show_21 (by decide) rfl (show (8 : Nat) ≠ 3 by decide) (q := q.toNat) rfl rfl ?_
        refine x_iconst (pc := 23) hC dL_show_23 ?_
        exact x_iretW (pc := 24) hC hR dL_show_24 rfl rfl (jr1 h) (jr2 h)
      · cases h
set_option maxHeartbeats 4000000 in
theorem ok_L_call {X : jX} {n : Nat} (hn : 180 ≤ n) {l1 : Int} {l2 : Int} {l3 : Int} {l4 : Int} {M : jM} {rz : Int} {Mz : jM} (h : w_call l1 l2 l3 l4 M = some (rz, Mz)) : jCw X n yL_call cL_call 7 [(0, 21, 24, 19), (0, 21, 28, 13)] 9 3 [jA 1, jI l1, jI l2, jI l3, jI l4, jA 180] M rz Mz := by
  refine jCw_of (own := RL) (ls := [jA 1, jI l1, jI l2, jI l3, jI l4, jA 180, jN]) (by decide +kernel) rfl (by omega) (Nat.le_of_ble_eq_true rfl) rfl ?_
  intro C hC hR
  unfold w_call at h
  obtain ⟨c, v, M1, e, h⟩ := jbT3_some h
  refine x_aloadA (pc := 0) hC dL_call_0 rfl kk_180 (by decide) ?_
  refine x_iconst (pc := 2) hC dL_call_2 ?_
  refine x_aloadA_n (pc := 3) hC dL_call_3 rfl rfl kk_1 (by decide) ?_
  refine x_iload_n (pc := 4) hC dL_call_4 rfl rfl ?_
  refine x_iload_n (pc := 5) hC dL_call_5 rfl rfl ?_
  refine x_iload_n (pc := 6) hC dL_call_6 rfl rfl ?_
  refine x_iload (pc := 7) hC dL_call_7 rfl ?_
  refine x_cVC (pc := 9) hC hR mv_L_60 (jTB_mem wm_1237 rfl) (ok_X9_call (by omega) e) rfl (Nat.le_of_ble_eq_true rfl) kk_1 rfl (by decide) (Nat.le_of_ble_eq_true rfl) dL_call_9 rfl rfl rfl (fun hc => ?_) (fun hc => ?_)
  · replace h := jit_pos hc h
    refine x_if_eq (tgt := 19) (pc := 12) hC dL_call_12 (by decide) (fun hv => ?_) (fun hv => ?_)
    · replace h := jit_pos hv h
      refine x_lconst (z := 0) (pc := 19) hC dL_call_19 rfl ?_
      refine x_last (pc := 20) hC kk_180 (by omega) (by decide +kernel) dL_call_20 rfl ?_
      refine x_goto (tgt := 32) (pc := 21) hC dL_call_21 (by decide) ?_
      refine x_iconst (pc := 32) hC dL_call_32 ?_
      exact x_iretW (pc := 33) hC hR dL_call_33 rfl rfl (jr1 h) (jr2 h)
    · replace h := jit_neg hv h
      refine x_lconst (z := 1) (pc := 15) hC dL_call_15 rfl ?_
      refine x_goto (tgt := 20) (pc := 16) hC dL_call_16 (by decide) ?_
      refine x_last (pc := 20) hC kk_180 (by omega) (by decide +kernel) dL_call_20 rfl ?_
      refine x_goto (tgt := 32) (pc := 21) hC dL_call_21 (by decide) ?_
      refine x_iconst (pc := 32) hC dL_call_32 ?_
      exact x_iretW (pc := 33) hC hR dL_call_33 rfl rfl (jr1 h) (jr2 h)
  · replace h := jit_neg hc h
    rcases jit_or h with ⟨h2, h⟩ | ⟨h2, h⟩
    · subst h2
      refine ⟨24, ⟨[], [(0, 21, 28, 13)], 0, 21, 19, rfl, by decide, by decide, by decide, by decide, cl_L19, cs_L2, fun z hz => by cases hz⟩, fun q hq => ?_⟩
      refine x_astore (ls2 := [jA 1, jI l1, jI l2, jI l3, jI l4, jA 180, (8, q)]) (pc := 24) hC dL_call_24 (by decide) rfl (show (8 : Nat) ≠ 3 by decide) (q := q.toNat) rfl rfl ?_
      refine x_iconst (pc := 26) hC dL_call_26 ?_
      exact x_iretW (pc := 27) hC hR dL_call_27 rfl rfl (jr1 h) (jr2 h)
    · rcases jit_or h with ⟨h2, h⟩ | ⟨h2, h⟩
      · subst h2
        refine ⟨28, ⟨[(0, 21, 24, 19)], [], 0, 21, 13, rfl, by decide, by decide, by decide, by decide, cl_L13, cs_L1, fun z hz => by rw [List.mem_singleton] at hz; subst hz; exact ⟨by decide, 2, by decide, by decide, cl_L19⟩⟩, fun q hq => ?_⟩
        refine x_astore (ls2 := [jA 1, jI l1, jI l2, jI l3, jI l4, jA 180, (8, q)]) (pc := 28) hC dL_call_28 (by decide) rfl (show (8 : Nat) ≠ 3 by decide) (q := q.toNat) rfl rfl ?_
        refine x_iconst (pc := 30) hC dL_call_30 ?_
        exact x_iretW (pc := 31) hC hR dL_call_31 rfl rfl (jr1 h) (jr2 h)
      · cases h
set_option maxHeartbeats 4000000 in
theorem ok_L_base {X : jX} {n : Nat} (hn : 180 ≤ n) {l1 : Int} {l2 : Int} {M : jM} {rz : Int} {Mz : jM} (h : w_base l1 l2 M = some (rz, Mz)) : jCw X n yL_base cL_base 5 [(0, 10, 13, 19), (0, 10, 17, 13)] 8 2 [jA 1, jI l1, jI l2, jA 180] M rz Mz := by
  refine jCw_of (own := RL) (ls := [jA 1, jI l1, jI l2, jA 180, jN]) (by decide +kernel) rfl (by omega) (Nat.le_of_ble_eq_true rfl) rfl ?_
  intro C hC hR
  unfold w_base at h
  obtain ⟨c, v, M1, e, h⟩ := jbT3_some h
  refine x_aloadA_n (pc := 0) hC dL_base_0 rfl rfl kk_180 (by decide) ?_
  refine x_iconst (pc := 1) hC dL_base_1 ?_
  refine x_aloadA_n (pc := 2) hC dL_base_2 rfl rfl kk_1 (by decide) ?_
  refine x_iload_n (pc := 3) hC dL_base_3 rfl rfl ?_
  refine x_iload_n (pc := 4) hC dL_base_4 rfl rfl ?_
  refine x_cVC (pc := 5) hC hR mv_L_64 (jTB_mem wm_1245 rfl) (ok_X9_base (by omega) e) rfl (Nat.le_of_ble_eq_true rfl) kk_1 rfl (by decide) (Nat.le_of_ble_eq_true rfl) dL_base_5 rfl rfl rfl (fun hc => ?_) (fun hc => ?_)
  · replace h := jit_pos hc h
    refine x_i2l (pc := 8) hC dL_base_8 ?_
    refine x_last (pc := 9) hC kk_180 (by omega) (by decide +kernel) dL_base_9 rfl ?_
    refine x_goto (tgt := 21) (pc := 10) hC dL_base_10 (by decide) ?_
    refine x_iconst (pc := 21) hC dL_base_21 ?_
    exact x_iretW (pc := 22) hC hR dL_base_22 rfl rfl (jr1 h) (jr2 h)
  · replace h := jit_neg hc h
    rcases jit_or h with ⟨h2, h⟩ | ⟨h2, h⟩
    · subst h2
      refine ⟨13, ⟨[], [(0, 10, 17, 13)], 0, 10, 19, rfl, by decide, by decide, by decide, by decide, cl_L19, cs_L2, fun z hz => by cases hz⟩, fun q hq => ?_⟩
      refine x_astore (ls2 := [jA 1, jI l1, jI l2, jA 180, (8, q)]) (pc := 13) hC dL_base_13 (by decide) rfl (show (8 : Nat) ≠ 3 by decide) (q := q.toNat) rfl rfl ?_
      refine x_iconst (pc := 15) hC dL_base_15 ?_
      exact x_iretW (pc := 16) hC hR dL_base_16 rfl rfl (jr1 h) (jr2 h)
    · rcases jit_or h with ⟨h2, h⟩ | ⟨h2, h⟩
      · subst h2
        refine ⟨17, ⟨[(0, 10, 13, 19)], [], 0, 10, 13, rfl, by decide, by decide, by decide, by decide, cl_L13, cs_L1, fun z hz => by rw [List.mem_singleton] at hz; subst hz; exact ⟨by decide, 2, by decide, by decide, cl_L19⟩⟩, fun q hq => ?_⟩
        refine x_astore (ls2 := [jA 1, jI l1, jI l2, jA 180, (8, q)]) (pc := 17) hC dL_base_17 (by decide) rfl (show (8 : Nat) ≠ 3 by decide) (q := q.toNat) rfl rfl ?_
        refine x_iconst (pc := 19) hC dL_base_19 ?_
        exact x_iretW (pc := 20) hC hR dL_base_20 rfl rfl (jr1 h) (jr2 h)
      · cases h
set_option maxHeartbeats 4000000 in
theorem ok_L_set {X : jX} {n : Nat} (hn : 180 ≤ n) {l1 : Int} {l2 : Int} {M : jM} {rz : Int} {Mz : jM} (h : w_set l1 l2 M = some (rz, Mz)) : jCw X n yL_set cL_set 5 [(0, 10, 13, 25), (0, 10, 17, 13)] 7 1 [jA 1, jI l1, jI l2, jA 180] M rz Mz := by
  refine jCw_of (own := RL) (ls := [jA 1, jI l1, jI l2, jA 180, jN]) (by decide +kernel) rfl (by omega) (Nat.le_of_ble_eq_true rfl) rfl ?_
  intro C hC hR
  unfold w_set at h
  obtain ⟨c, v, M1, e, h⟩ := jbT3_some h
  refine x_aloadA_n (pc := 0) hC dL_set_0 rfl rfl kk_180 (by decide) ?_
  refine x_iconst (pc := 1) hC dL_set_1 ?_
  refine x_aloadA_n (pc := 2) hC dL_set_2 rfl rfl kk_1 (by decide) ?_
  refine x_iload_n (pc := 3) hC dL_set_3 rfl rfl ?_
  refine x_iload_n (pc := 4) hC dL_set_4 rfl rfl ?_
  refine x_cVC (pc := 5) hC hR mv_L_67 (jTB_mem wm_1253 rfl) (ok_X9_set (by omega) e) rfl (Nat.le_of_ble_eq_true rfl) kk_1 rfl (by decide) (Nat.le_of_ble_eq_true rfl) dL_set_5 rfl rfl rfl (fun hc => ?_) (fun hc => ?_)
  · replace h := jit_pos hc h
    refine x_i2l (pc := 8) hC dL_set_8 ?_
    refine x_last (pc := 9) hC kk_180 (by omega) (by decide +kernel) dL_set_9 rfl ?_
    refine x_goto (tgt := 21) (pc := 10) hC dL_set_10 (by decide) ?_
    refine x_iconst (pc := 21) hC dL_set_21 ?_
    exact x_iretW (pc := 22) hC hR dL_set_22 rfl rfl (jr1 h) (jr2 h)
  · replace h := jit_neg hc h
    rcases jit_or h with ⟨h2, h⟩ | ⟨h2, h⟩
    · subst h2
      refine ⟨13, ⟨[], [(0, 10, 17, 13)], 0, 10, 25, rfl, by decide, by decide, by decide, by decide, cl_L25, cs_L3, fun z hz => by cases hz⟩, fun q hq => ?_⟩
      refine x_astore (ls2 := [jA 1, jI l1, jI l2, jA 180, (8, q)]) (pc := 13) hC dL_set_13 (by decide) rfl (show (8 : Nat) ≠ 3 by decide) (q := q.toNat) rfl rfl ?_
      refine x_iconst (pc := 15) hC dL_set_15 ?_
      exact x_iretW (pc := 16) hC hR dL_set_16 rfl rfl (jr1 h) (jr2 h)
    · rcases jit_or h with ⟨h2, h⟩ | ⟨h2, h⟩
      · subst h2
        refine ⟨17, ⟨[(0, 10, 13, 25)], [], 0, 10, 13, rfl, by decide, by decide, by decide, by decide, cl_L13, cs_L1, fun z hz => by rw [List.mem_singleton] at hz; subst hz; exact ⟨by decide, 3, by decide, by decide, cl_L25⟩⟩, fun q hq => ?_⟩
        refine x_astore (ls2 := [jA 1, jI l1, jI l2, jA 180, (8, q)]) (pc := 17) hC dL_set_17 (by decide) rfl (show (8 : Nat) ≠ 3 by decide) (q := q.toNat) rfl rfl ?_
        refine x_iconst (pc := 19) hC dL_set_19 ?_
        exact x_iretW (pc := 20) hC hR dL_set_20 rfl rfl (jr1 h) (jr2 h)
      · cases h
set_option maxHeartbeats 4000000 in
theorem ok_L_scratch {X : jX} {n : Nat} (hn : 180 ≤ n) {l1 : Int} {l2 : Int} {M : jM} {rz : Int} {Mz : jM} (h : w_scratch l1 l2 M = some (rz, Mz)) : jCw X n yL_scratch cL_scratch 5 [(0, 10, 13, 19)] 9 2 [jA 1, jI l1, jI l2, jA 180] M rz Mz := by
  refine jCw_of (own := RL) (ls := [jA 1, jI l1, jI l2, jA 180, jN]) (by decide +kernel) rfl (by omega) (Nat.le_of_ble_eq_true rfl) rfl ?_
  intro C hC hR
  unfold w_scratch at h
  obtain ⟨c, v, M1, e, h⟩ := jbT3_some h
  refine x_aloadA_n (pc := 0) hC dL_scratch_0 rfl rfl kk_180 (by decide) ?_
  refine x_iconst (pc := 1) hC dL_scratch_1 ?_
  refine x_aloadA_n (pc := 2) hC dL_scratch_2 rfl rfl kk_1 (by decide) ?_
  refine x_iload_n (pc := 3) hC dL_scratch_3 rfl rfl ?_
  refine x_iload_n (pc := 4) hC dL_scratch_4 rfl rfl ?_
  refine x_cVC (pc := 5) hC hR mv_L_70 (jTB_mem wm_1264 rfl) (ok_X9_scratch (by omega) e) rfl (Nat.le_of_ble_eq_true rfl) kk_1 rfl (by decide) (Nat.le_of_ble_eq_true rfl) dL_scratch_5 rfl rfl rfl (fun hc => ?_) (fun hc => ?_)
  · replace h := jit_pos hc h
    refine x_i2l (pc := 8) hC dL_scratch_8 ?_
    refine x_last (pc := 9) hC kk_180 (by omega) (by decide +kernel) dL_scratch_9 rfl ?_
    refine x_goto (tgt := 17) (pc := 10) hC dL_scratch_10 (by decide) ?_
    refine x_iconst (pc := 17) hC dL_scratch_17 ?_
    exact x_iretW (pc := 18) hC hR dL_scratch_18 rfl rfl (jr1 h) (jr2 h)
  · replace h := jit_neg hc h
    rcases jit_or h with ⟨h2, h⟩ | ⟨h2, h⟩
    · subst h2
      refine ⟨13, ⟨[], [], 0, 10, 19, rfl, by decide, by decide, by decide, by decide, cl_L19, cs_L2, fun z hz => by cases hz⟩, fun q hq => ?_⟩
      refine x_astore (ls2 := [jA 1, jI l1, jI l2, jA 180, (8, q)]) (pc := 13) hC dL_scratch_13 (by decide) rfl (show (8 : Nat) ≠ 3 by decide) (q := q.toNat) rfl rfl ?_
      refine x_iconst (pc := 15) hC dL_scratch_15 ?_
      exact x_iretW (pc := 16) hC hR dL_scratch_16 rfl rfl (jr1 h) (jr2 h)
    · cases h
set_option maxHeartbeats 4000000 in
theorem ok_L_bias {X : jX} {n : Nat} (hn : 180 ≤ n) {l1 : Int} {M : jM} {rz : Int} {Mz : jM} (h : w_bias l1 M = some (rz, Mz)) : jCw X n yL_bias cL_bias 4 [(0, 9, 12, 19)] 8 1 [jA 1, jI l1, jA 180] M rz Mz := by
  refine jCw_of (own := RL) (ls := [jA 1, jI l1, jA 180, jN]) (by decide +kernel) rfl (by omega) (Nat.le_of_ble_eq_true rfl) rfl ?_
  intro C hC hR
  unfold w_bias at h
  obtain ⟨c, v, M1, e, h⟩ := jbT3_some h
  refine x_aloadA_n (pc := 0) hC dL_bias_0 rfl rfl kk_180 (by decide) ?_
  refine x_iconst (pc := 1) hC dL_bias_1 ?_
  refine x_aloadA_n (pc := 2) hC dL_bias_2 rfl rfl kk_1 (by decide) ?_
  refine x_iload_n (pc := 3) hC dL_bias_3 rfl rfl ?_
  refine x_cVC (pc := 4) hC hR mv_L_73 (jTB_mem wm_1276 rfl) (ok_X9_bias (by omega) e) rfl (Nat.le_of_ble_eq_true rfl) kk_1 rfl (by decide) (Nat.le_of_ble_eq_true rfl) dL_bias_4 rfl rfl rfl (fun hc => ?_) (fun hc => ?_)
  · replace h := jit_pos hc h
    refine x_i2l (pc := 7) hC dL_bias_7 ?_
    refine x_last (pc := 8) hC kk_180 (by omega) (by decide +kernel) dL_bias_8 rfl ?_
    refine x_goto (tgt := 15) (pc := 9) hC dL_bias_9 (by decide) ?_
    refine x_iconst (pc := 15) hC dL_bias_15 ?_
    exact x_iretW (pc := 16) hC hR dL_bias_16 rfl rfl (jr1 h) (jr2 h)
  · replace h := jit_neg hc h
    rcases jit_or h with ⟨h2, h⟩ | ⟨h2, h⟩
    · subst h2
      refine ⟨12, ⟨[], [], 0, 9, 19, rfl, by decide, by decide, by decide, by decide, cl_L19, cs_L2, fun z hz => by cases hz⟩, fun q hq => ?_⟩
      refine x_astore_n (ls2 := [jA 1, jI l1, jA 180, (8, q)]) (pc := 12) hC dL_bias_12 rfl (by decide) rfl (show (8 : Nat) ≠ 3 by decide) (q := q.toNat) rfl rfl ?_
      refine x_iconst (pc := 13) hC dL_bias_13 ?_
      exact x_iretW (pc := 14) hC hR dL_bias_14 rfl rfl (jr1 h) (jr2 h)
    · cases h
set_option maxHeartbeats 4000000 in
theorem ok_L_without {X : jX} {n : Nat} (hn : 180 ≤ n) {l1 : Int} {l2 : Int} {M : jM} {rz : Int} {Mz : jM} (h : w_without l1 l2 M = some (rz, Mz)) : jCw X n yL_without cL_without 5 [(0, 10, 13, 19), (0, 10, 17, 79)] 8 3 [jA 1, jI l1, jI l2, jA 180] M rz Mz := by
  refine jCw_of (own := RL) (ls := [jA 1, jI l1, jI l2, jA 180, jN]) (by decide +kernel) rfl (by omega) (Nat.le_of_ble_eq_true rfl) rfl ?_
  intro C hC hR
  unfold w_without at h
  obtain ⟨c, v, M1, e, h⟩ := jbT3_some h
  refine x_aloadA_n (pc := 0) hC dL_without_0 rfl rfl kk_180 (by decide) ?_
  refine x_iconst (pc := 1) hC dL_without_1 ?_
  refine x_aloadA_n (pc := 2) hC dL_without_2 rfl rfl kk_1 (by decide) ?_
  refine x_iload_n (pc := 3) hC dL_without_3 rfl rfl ?_
  refine x_iload_n (pc := 4) hC dL_without_4 rfl rfl ?_
  refine x_cVC (pc := 5) hC hR mv_L_76 (jTB_mem wm_1285 rfl) (ok_X9_without (by omega) e) rfl (Nat.le_of_ble_eq_true rfl) kk_1 rfl (by decide) (Nat.le_of_ble_eq_true rfl) dL_without_5 rfl rfl rfl (fun hc => ?_) (fun hc => ?_)
  · replace h := jit_pos hc h
    refine x_i2l (pc := 8) hC dL_without_8 ?_
    refine x_last (pc := 9) hC kk_180 (by omega) (by decide +kernel) dL_without_9 rfl ?_
    refine x_goto (tgt := 21) (pc := 10) hC dL_without_10 (by decide) ?_
    refine x_iconst (pc := 21) hC dL_without_21 ?_
    exact x_iretW (pc := 22) hC hR dL_without_22 rfl rfl (jr1 h) (jr2 h)
  · replace h := jit_neg hc h
    rcases jit_or h with ⟨h2, h⟩ | ⟨h2, h⟩
    · subst h2
      refine ⟨13, ⟨[], [(0, 10, 17, 79)], 0, 10, 19, rfl, by decide, by decide, by decide, by decide, cl_L19, cs_L2, fun z hz => by cases hz⟩, fun q hq => ?_⟩
      refine x_astore (ls2 := [jA 1, jI l1, jI l2, jA 180, (8, q)]) (pc := 13) hC dL_without_13 (by decide) rfl (show (8 : Nat) ≠ 3 by decide) (q := q.toNat) rfl rfl ?_
      refine x_iconst (pc := 15) hC dL_without_15 ?_
      exact x_iretW (pc := 16) hC hR dL_without_16 rfl rfl (jr1 h) (jr2 h)
    · rcases jit_or h with ⟨h2, h⟩ | ⟨h2, h⟩
      · subst h2
        refine ⟨17, ⟨[(0, 10, 13, 19)], [], 0, 10, 79, rfl, by decide, by decide, by decide, by decide, cl_L79, cs_L4, fun z hz => by rw [List.mem_singleton] at hz; subst hz; exact ⟨by decide, 2, by decide, by decide, cl_L19⟩⟩, fun q hq => ?_⟩
        refine x_astore (ls2 := [jA 1, jI l1, jI l2, jA 180, (8, q)]) (pc := 17) hC dL_without_17 (by decide) rfl (show (8 : Nat) ≠ 3 by decide) (q := q.toNat) rfl rfl ?_
        refine x_iconst (pc := 19) hC dL_without_19 ?_
        exact x_iretW (pc := 20) hC hR dL_without_20 rfl rfl (jr1 h) (jr2 h)
      · cases h
set_option maxHeartbeats 4000000 in
theorem ok_L_sways {X : jX} {n : Nat} (hn : 180 ≤ n) {l1 : Int} {M : jM} {rz : Int} {Mz : jM} (h : w_sways l1 M = some (rz, Mz)) : jCw X n yL_sways cL_sways 4 [(0, 9, 12, 19), (0, 9, 15, 79)] 8 2 [jA 1, jI l1, jA 180] M rz Mz := by
  refine jCw_of (own := RL) (ls := [jA 1, jI l1, jA 180, jN]) (by decide +kernel) rfl (by omega) (Nat.le_of_ble_eq_true rfl) rfl ?_
  intro C hC hR
  unfold w_sways at h
  obtain ⟨c, v, M1, e, h⟩ := jbT3_some h
  refine x_aloadA_n (pc := 0) hC dL_sways_0 rfl rfl kk_180 (by decide) ?_
  refine x_iconst (pc := 1) hC dL_sways_1 ?_
  refine x_aloadA_n (pc := 2) hC dL_sways_2 rfl rfl kk_1 (by decide) ?_
  refine x_iload_n (pc := 3) hC dL_sways_3 rfl rfl ?_
  refine x_cVC (pc := 4) hC hR mv_L_81 (jTB_mem wm_1317 rfl) (ok_X9_sways (by omega) e) rfl (Nat.le_of_ble_eq_true rfl) kk_1 rfl (by decide) (Nat.le_of_ble_eq_true rfl) dL_sways_4 rfl rfl rfl (fun hc => ?_) (fun hc => ?_)
  · replace h := jit_pos hc h
    refine x_i2l (pc := 7) hC dL_sways_7 ?_
    refine x_last (pc := 8) hC kk_180 (by omega) (by decide +kernel) dL_sways_8 rfl ?_
    refine x_goto (tgt := 18) (pc := 9) hC dL_sways_9 (by decide) ?_
    refine x_iconst (pc := 18) hC dL_sways_18 ?_
    exact x_iretW (pc := 19) hC hR dL_sways_19 rfl rfl (jr1 h) (jr2 h)
  · replace h := jit_neg hc h
    rcases jit_or h with ⟨h2, h⟩ | ⟨h2, h⟩
    · subst h2
      refine ⟨12, ⟨[], [(0, 9, 15, 79)], 0, 9, 19, rfl, by decide, by decide, by decide, by decide, cl_L19, cs_L2, fun z hz => by cases hz⟩, fun q hq => ?_⟩
      refine x_astore_n (ls2 := [jA 1, jI l1, jA 180, (8, q)]) (pc := 12) hC dL_sways_12 rfl (by decide) rfl (show (8 : Nat) ≠ 3 by decide) (q := q.toNat) rfl rfl ?_
      refine x_iconst (pc := 13) hC dL_sways_13 ?_
      exact x_iretW (pc := 14) hC hR dL_sways_14 rfl rfl (jr1 h) (jr2 h)
    · rcases jit_or h with ⟨h2, h⟩ | ⟨h2, h⟩
      · subst h2
        refine ⟨15, ⟨[(0, 9, 12, 19)], [], 0, 9, 79, rfl, by decide, by decide, by decide, by decide, cl_L79, cs_L4, fun z hz => by rw [List.mem_singleton] at hz; subst hz; exact ⟨by decide, 2, by decide, by decide, cl_L19⟩⟩, fun q hq => ?_⟩
        refine x_astore_n (ls2 := [jA 1, jI l1, jA 180, (8, q)]) (pc := 15) hC dL_sways_15 rfl (by decide) rfl (show (8 : Nat) ≠ 3 by decide) (q := q.toNat) rfl rfl ?_
        refine x_iconst (pc := 16) hC dL_sways_16 ?_
        exact x_iretW (pc := 17) hC hR dL_sways_17 rfl rfl (jr1 h) (jr2 h)
      · cases h
set_option maxHeartbeats 4000000 in
theorem ok_L_alone {X : jX} {n : Nat} (hn : 180 ≤ n) {l1 : Int} {l2 : Int} {M : jM} {rz : Int} {Mz : jM} (h : w_alone l1 l2 M = some (rz, Mz)) : jCw X n yL_alone cL_alone 5 [(0, 10, 13, 19)] 8 2 [jA 1, jI l1, jI l2, jA 180] M rz Mz := by
  refine jCw_of (own := RL) (ls := [jA 1, jI l1, jI l2, jA 180, jN]) (by decide +kernel) rfl (by omega) (Nat.le_of_ble_eq_true rfl) rfl ?_
  intro C hC hR
  unfold w_alone at h
  obtain ⟨c, v, M1, e, h⟩ := jbT3_some h
  refine x_aloadA_n (pc := 0) hC dL_alone_0 rfl rfl kk_180 (by decide) ?_
  refine x_iconst (pc := 1) hC dL_alone_1 ?_
  refine x_aloadA_n (pc := 2) hC dL_alone_2 rfl rfl kk_1 (by decide) ?_
  refine x_iload_n (pc := 3) hC dL_alone_3 rfl rfl ?_
  refine x_iload_n (pc := 4) hC dL_alone_4 rfl rfl ?_
  refine x_cVC (pc := 5) hC hR mv_L_84 (jTB_mem wm_1328 rfl) (ok_X9_alone (by omega) e) rfl (Nat.le_of_ble_eq_true rfl) kk_1 rfl (by decide) (Nat.le_of_ble_eq_true rfl) dL_alone_5 rfl rfl rfl (fun hc => ?_) (fun hc => ?_)
  · replace h := jit_pos hc h
    refine x_i2l (pc := 8) hC dL_alone_8 ?_
    refine x_last (pc := 9) hC kk_180 (by omega) (by decide +kernel) dL_alone_9 rfl ?_
    refine x_goto (tgt := 17) (pc := 10) hC dL_alone_10 (by decide) ?_
    refine x_iconst (pc := 17) hC dL_alone_17 ?_
    exact x_iretW (pc := 18) hC hR dL_alone_18 rfl rfl (jr1 h) (jr2 h)
  · replace h := jit_neg hc h
    rcases jit_or h with ⟨h2, h⟩ | ⟨h2, h⟩
    · subst h2
      refine ⟨13, ⟨[], [], 0, 10, 19, rfl, by decide, by decide, by decide, by decide, cl_L19, cs_L2, fun z hz => by cases hz⟩, fun q hq => ?_⟩
      refine x_astore (ls2 := [jA 1, jI l1, jI l2, jA 180, (8, q)]) (pc := 13) hC dL_alone_13 (by decide) rfl (show (8 : Nat) ≠ 3 by decide) (q := q.toNat) rfl rfl ?_
      refine x_iconst (pc := 15) hC dL_alone_15 ?_
      exact x_iretW (pc := 16) hC hR dL_alone_16 rfl rfl (jr1 h) (jr2 h)
    · cases h
set_option maxHeartbeats 4000000 in
theorem ok_L_place {X : jX} {n : Nat} (hn : 180 ≤ n) {l1 : Int} {l2 : Int} {M : jM} {rz : Int} {Mz : jM} (h : w_place l1 l2 M = some (rz, Mz)) : jCw X n yL_place cL_place 5 [(0, 10, 13, 19)] 8 2 [jA 1, jI l1, jI l2, jA 180] M rz Mz := by
  refine jCw_of (own := RL) (ls := [jA 1, jI l1, jI l2, jA 180, jN]) (by decide +kernel) rfl (by omega) (Nat.le_of_ble_eq_true rfl) rfl ?_
  intro C hC hR
  unfold w_place at h
  obtain ⟨c, v, M1, e, h⟩ := jbT3_some h
  refine x_aloadA_n (pc := 0) hC dL_place_0 rfl rfl kk_180 (by decide) ?_
  refine x_iconst (pc := 1) hC dL_place_1 ?_
  refine x_aloadA_n (pc := 2) hC dL_place_2 rfl rfl kk_1 (by decide) ?_
  refine x_iload_n (pc := 3) hC dL_place_3 rfl rfl ?_
  refine x_iload_n (pc := 4) hC dL_place_4 rfl rfl ?_
  refine x_cVC (pc := 5) hC hR mv_L_87 (jTB_mem wm_1335 rfl) (ok_X9_place (by omega) e) rfl (Nat.le_of_ble_eq_true rfl) kk_1 rfl (by decide) (Nat.le_of_ble_eq_true rfl) dL_place_5 rfl rfl rfl (fun hc => ?_) (fun hc => ?_)
  · replace h := jit_pos hc h
    refine x_i2l (pc := 8) hC dL_place_8 ?_
    refine x_last (pc := 9) hC kk_180 (by omega) (by decide +kernel) dL_place_9 rfl ?_
    refine x_goto (tgt := 17) (pc := 10) hC dL_place_10 (by decide) ?_
    refine x_iconst (pc := 17) hC dL_place_17 ?_
    exact x_iretW (pc := 18) hC hR dL_place_18 rfl rfl (jr1 h) (jr2 h)
  · replace h := jit_neg hc h
    rcases jit_or h with ⟨h2, h⟩ | ⟨h2, h⟩
    · subst h2
      refine ⟨13, ⟨[], [], 0, 10, 19, rfl, by decide, by decide, by decide, by decide, cl_L19, cs_L2, fun z hz => by cases hz⟩, fun q hq => ?_⟩
      refine x_astore (ls2 := [jA 1, jI l1, jI l2, jA 180, (8, q)]) (pc := 13) hC dL_place_13 (by decide) rfl (show (8 : Nat) ≠ 3 by decide) (q := q.toNat) rfl rfl ?_
      refine x_iconst (pc := 15) hC dL_place_15 ?_
      exact x_iretW (pc := 16) hC hR dL_place_16 rfl rfl (jr1 h) (jr2 h)
    · cases h
set_option maxHeartbeats 4000000 in
theorem ok_L_majority {X : jX} {n : Nat} (hn : 180 ≤ n) {l1 : Int} {M : jM} {rz : Int} {Mz : jM} (h : w_majority l1 M = some (rz, Mz)) : jCw X n yL_majority cL_majority 4 [(0, 9, 12, 19)] 8 1 [jA 1, jI l1, jA 180] M rz Mz := by
  refine jCw_of (own := RL) (ls := [jA 1, jI l1, jA 180, jN]) (by decide +kernel) rfl (by omega) (Nat.le_of_ble_eq_true rfl) rfl ?_
  intro C hC hR
  unfold w_majority at h
  obtain ⟨c, v, M1, e, h⟩ := jbT3_some h
  refine x_aloadA_n (pc := 0) hC dL_majority_0 rfl rfl kk_180 (by decide) ?_
  refine x_iconst (pc := 1) hC dL_majority_1 ?_
  refine x_aloadA_n (pc := 2) hC dL_majority_2 rfl rfl kk_1 (by decide) ?_
  refine x_iload_n (pc := 3) hC dL_majority_3 rfl rfl ?_
  refine x_cVC (pc := 4) hC hR mv_L_90 (jTB_mem wm_1343 rfl) (ok_X9_majority (by omega) e) rfl (Nat.le_of_ble_eq_true rfl) kk_1 rfl (by decide) (Nat.le_of_ble_eq_true rfl) dL_majority_4 rfl rfl rfl (fun hc => ?_) (fun hc => ?_)
  · replace h := jit_pos hc h
    refine x_i2l (pc := 7) hC dL_majority_7 ?_
    refine x_last (pc := 8) hC kk_180 (by omega) (by decide +kernel) dL_majority_8 rfl ?_
    refine x_goto (tgt := 15) (pc := 9) hC dL_majority_9 (by decide) ?_
    refine x_iconst (pc := 15) hC dL_majority_15 ?_
    exact x_iretW (pc := 16) hC hR dL_majority_16 rfl rfl (jr1 h) (jr2 h)
  · replace h := jit_neg hc h
    rcases jit_or h with ⟨h2, h⟩ | ⟨h2, h⟩
    · subst h2
      refine ⟨12, ⟨[], [], 0, 9, 19, rfl, by decide, by decide, by decide, by decide, cl_L19, cs_L2, fun z hz => by cases hz⟩, fun q hq => ?_⟩
      refine x_astore_n (ls2 := [jA 1, jI l1, jA 180, (8, q)]) (pc := 12) hC dL_majority_12 rfl (by decide) rfl (show (8 : Nat) ≠ 3 by decide) (q := q.toNat) rfl rfl ?_
      refine x_iconst (pc := 13) hC dL_majority_13 ?_
      exact x_iretW (pc := 14) hC hR dL_majority_14 rfl rfl (jr1 h) (jr2 h)
    · cases h
set_option maxHeartbeats 4000000 in
theorem ok_L_panel {X : jX} {n : Nat} (hn : 180 ≤ n) {l1 : Int} {l2 : Int} {M : jM} {rz : Int} {Mz : jM} (h : w_panel l1 l2 M = some (rz, Mz)) : jCw X n yL_panel cL_panel 5 [(0, 10, 13, 13)] 8 1 [jA 1, jI l1, jI l2, jA 180] M rz Mz := by
  refine jCw_of (own := RL) (ls := [jA 1, jI l1, jI l2, jA 180, jN]) (by decide +kernel) rfl (by omega) (Nat.le_of_ble_eq_true rfl) rfl ?_
  intro C hC hR
  unfold w_panel at h
  obtain ⟨c, v, e, h⟩ := jbT2_some h
  refine x_aloadA_n (pc := 0) hC dL_panel_0 rfl rfl kk_180 (by decide) ?_
  refine x_iconst (pc := 1) hC dL_panel_1 ?_
  refine x_aloadA_n (pc := 2) hC dL_panel_2 rfl rfl kk_1 (by decide) ?_
  refine x_iload_n (pc := 3) hC dL_panel_3 rfl rfl ?_
  refine x_iload_n (pc := 4) hC dL_panel_4 rfl rfl ?_
  refine x_cVC (pc := 5) hC hR mv_L_93 (jTB_mem wm_1350 rfl) (ok_X9_panel (by omega) e) rfl (Nat.le_of_ble_eq_true rfl) kk_1 rfl (by decide) (Nat.le_of_ble_eq_true rfl) dL_panel_5 rfl rfl rfl (fun hc => ?_) (fun hc => ?_)
  · replace h := jit_pos hc h
    refine x_i2l (pc := 8) hC dL_panel_8 ?_
    refine x_last (pc := 9) hC kk_180 (by omega) (by decide +kernel) dL_panel_9 rfl ?_
    refine x_goto (tgt := 17) (pc := 10) hC dL_panel_10 (by decide) ?_
    refine x_iconst (pc := 17) hC dL_panel_17 ?_
    exact x_iretW (pc := 18) hC hR dL_panel_18 rfl rfl (jr1 h) (jr2 h)
  · replace h := jit_neg hc h
    rcases jit_or h with ⟨h2, h⟩ | ⟨h2, h⟩
    · subst h2
      refine ⟨13, ⟨[], [], 0, 10, 13, rfl, by decide, by decide, by decide, by decide, cl_L13, cs_L1, fun z hz => by cases hz⟩, fun q hq => ?_⟩
      refine x_astore (ls2 := [jA 1, jI l1, jI l2, jA 180, (8, q)]) (pc := 13) hC dL_panel_13 (by decide) rfl (show (8 : Nat) ≠ 3 by decide) (q := q.toNat) rfl rfl ?_
      refine x_iconst (pc := 15) hC dL_panel_15 ?_
      exact x_iretW (pc := 16) hC hR dL_panel_16 rfl rfl (jr1 h) (jr2 h)
    · cases h
set_option maxHeartbeats 4000000 in
theorem ok_L_by {X : jX} {n : Nat} (hn : 180 ≤ n) {l1 : Int} {l2 : Int} {M : jM} {rz : Int} {Mz : jM} (h : w_by l1 l2 M = some (rz, Mz)) : jCw X n yL_by cL_by 5 [(0, 10, 13, 19), (0, 10, 17, 13)] 8 2 [jA 1, jI l1, jI l2, jA 180] M rz Mz := by
  refine jCw_of (own := RL) (ls := [jA 1, jI l1, jI l2, jA 180, jN]) (by decide +kernel) rfl (by omega) (Nat.le_of_ble_eq_true rfl) rfl ?_
  intro C hC hR
  unfold w_by at h
  obtain ⟨c, v, M1, e, h⟩ := jbT3_some h
  refine x_aloadA_n (pc := 0) hC dL_by_0 rfl rfl kk_180 (by decide) ?_
  refine x_iconst (pc := 1) hC dL_by_1 ?_
  refine x_aloadA_n (pc := 2) hC dL_by_2 rfl rfl kk_1 (by decide) ?_
  refine x_iload_n (pc := 3) hC dL_by_3 rfl rfl ?_
  refine x_iload_n (pc := 4) hC dL_by_4 rfl rfl ?_
  refine x_cVC (pc := 5) hC hR mv_L_96 (jTB_mem wm_1367 rfl) (ok_X9_by (by omega) e) rfl (Nat.le_of_ble_eq_true rfl) kk_1 rfl (by decide) (Nat.le_of_ble_eq_true rfl) dL_by_5 rfl rfl rfl (fun hc => ?_) (fun hc => ?_)
  · replace h := jit_pos hc h
    refine x_i2l (pc := 8) hC dL_by_8 ?_
    refine x_last (pc := 9) hC kk_180 (by omega) (by decide +kernel) dL_by_9 rfl ?_
    refine x_goto (tgt := 21) (pc := 10) hC dL_by_10 (by decide) ?_
    refine x_iconst (pc := 21) hC dL_by_21 ?_
    exact x_iretW (pc := 22) hC hR dL_by_22 rfl rfl (jr1 h) (jr2 h)
  · replace h := jit_neg hc h
    rcases jit_or h with ⟨h2, h⟩ | ⟨h2, h⟩
    · subst h2
      refine ⟨13, ⟨[], [(0, 10, 17, 13)], 0, 10, 19, rfl, by decide, by decide, by decide, by decide, cl_L19, cs_L2, fun z hz => by cases hz⟩, fun q hq => ?_⟩
      refine x_astore (ls2 := [jA 1, jI l1, jI l2, jA 180, (8, q)]) (pc := 13) hC dL_by_13 (by decide) rfl (show (8 : Nat) ≠ 3 by decide) (q := q.toNat) rfl rfl ?_
      refine x_iconst (pc := 15) hC dL_by_15 ?_
      exact x_iretW (pc := 16) hC hR dL_by_16 rfl rfl (jr1 h) (jr2 h)
    · rcases jit_or h with ⟨h2, h⟩ | ⟨h2, h⟩
      · subst h2
        refine ⟨17, ⟨[(0, 10, 13, 19)], [], 0, 10, 13, rfl, by decide, by decide, by decide, by decide, cl_L13, cs_L1, fun z hz => by rw [List.mem_singleton] at hz; subst hz; exact ⟨by decide, 2, by decide, by decide, cl_L19⟩⟩, fun q hq => ?_⟩
        refine x_astore (ls2 := [jA 1, jI l1, jI l2, jA 180, (8, q)]) (pc := 17) hC dL_by_17 (by decide) rfl (show (8 : Nat) ≠ 3 by decide) (q := q.toNat) rfl rfl ?_
        refine x_iconst (pc := 19) hC dL_by_19 ?_
        exact x_iretW (pc := 20) hC hR dL_by_20 rfl rfl (jr1 h) (jr2 h)
      · cases h
set_option maxHeartbeats 4000000 in
theorem ok_L_firsts {X : jX} {n : Nat} (hn : 180 ≤ n) {l1 : Int} {l2 : Int} {M : jM} {rz : Int} {Mz : jM} (h : w_firsts l1 l2 M = some (rz, Mz)) : jCw X n yL_firsts cL_firsts 5 [(0, 10, 13, 19), (0, 10, 17, 13)] 8 2 [jA 1, jI l1, jI l2, jA 180] M rz Mz := by
  refine jCw_of (own := RL) (ls := [jA 1, jI l1, jI l2, jA 180, jN]) (by decide +kernel) rfl (by omega) (Nat.le_of_ble_eq_true rfl) rfl ?_
  intro C hC hR
  unfold w_firsts at h
  obtain ⟨c, v, M1, e, h⟩ := jbT3_some h
  refine x_aloadA_n (pc := 0) hC dL_firsts_0 rfl rfl kk_180 (by decide) ?_
  refine x_iconst (pc := 1) hC dL_firsts_1 ?_
  refine x_aloadA_n (pc := 2) hC dL_firsts_2 rfl rfl kk_1 (by decide) ?_
  refine x_iload_n (pc := 3) hC dL_firsts_3 rfl rfl ?_
  refine x_iload_n (pc := 4) hC dL_firsts_4 rfl rfl ?_
  refine x_cVC (pc := 5) hC hR mv_L_99 (jTB_mem wm_1375 rfl) (ok_X9_firsts (by omega) e) rfl (Nat.le_of_ble_eq_true rfl) kk_1 rfl (by decide) (Nat.le_of_ble_eq_true rfl) dL_firsts_5 rfl rfl rfl (fun hc => ?_) (fun hc => ?_)
  · replace h := jit_pos hc h
    refine x_i2l (pc := 8) hC dL_firsts_8 ?_
    refine x_last (pc := 9) hC kk_180 (by omega) (by decide +kernel) dL_firsts_9 rfl ?_
    refine x_goto (tgt := 21) (pc := 10) hC dL_firsts_10 (by decide) ?_
    refine x_iconst (pc := 21) hC dL_firsts_21 ?_
    exact x_iretW (pc := 22) hC hR dL_firsts_22 rfl rfl (jr1 h) (jr2 h)
  · replace h := jit_neg hc h
    rcases jit_or h with ⟨h2, h⟩ | ⟨h2, h⟩
    · subst h2
      refine ⟨13, ⟨[], [(0, 10, 17, 13)], 0, 10, 19, rfl, by decide, by decide, by decide, by decide, cl_L19, cs_L2, fun z hz => by cases hz⟩, fun q hq => ?_⟩
      refine x_astore (ls2 := [jA 1, jI l1, jI l2, jA 180, (8, q)]) (pc := 13) hC dL_firsts_13 (by decide) rfl (show (8 : Nat) ≠ 3 by decide) (q := q.toNat) rfl rfl ?_
      refine x_iconst (pc := 15) hC dL_firsts_15 ?_
      exact x_iretW (pc := 16) hC hR dL_firsts_16 rfl rfl (jr1 h) (jr2 h)
    · rcases jit_or h with ⟨h2, h⟩ | ⟨h2, h⟩
      · subst h2
        refine ⟨17, ⟨[(0, 10, 13, 19)], [], 0, 10, 13, rfl, by decide, by decide, by decide, by decide, cl_L13, cs_L1, fun z hz => by rw [List.mem_singleton] at hz; subst hz; exact ⟨by decide, 2, by decide, by decide, cl_L19⟩⟩, fun q hq => ?_⟩
        refine x_astore (ls2 := [jA 1, jI l1, jI l2, jA 180, (8, q)]) (pc := 17) hC dL_firsts_17 (by decide) rfl (show (8 : Nat) ≠ 3 by decide) (q := q.toNat) rfl rfl ?_
        refine x_iconst (pc := 19) hC dL_firsts_19 ?_
        exact x_iretW (pc := 20) hC hR dL_firsts_20 rfl rfl (jr1 h) (jr2 h)
      · cases h
set_option maxHeartbeats 4000000 in
theorem ok_L_needed {X : jX} {n : Nat} (hn : 180 ≤ n) {l1 : Int} {l2 : Int} {M : jM} {rz : Int} {Mz : jM} (h : w_needed l1 l2 M = some (rz, Mz)) : jCw X n yL_needed cL_needed 5 [(0, 10, 13, 19), (0, 10, 17, 13)] 8 3 [jA 1, jI l1, jI l2, jA 180] M rz Mz := by
  refine jCw_of (own := RL) (ls := [jA 1, jI l1, jI l2, jA 180, jN]) (by decide +kernel) rfl (by omega) (Nat.le_of_ble_eq_true rfl) rfl ?_
  intro C hC hR
  unfold w_needed at h
  obtain ⟨c, v, M1, e, h⟩ := jbT3_some h
  refine x_aloadA_n (pc := 0) hC dL_needed_0 rfl rfl kk_180 (by decide) ?_
  refine x_iconst (pc := 1) hC dL_needed_1 ?_
  refine x_aloadA_n (pc := 2) hC dL_needed_2 rfl rfl kk_1 (by decide) ?_
  refine x_iload_n (pc := 3) hC dL_needed_3 rfl rfl ?_
  refine x_iload_n (pc := 4) hC dL_needed_4 rfl rfl ?_
  refine x_cVC (pc := 5) hC hR mv_L_102 (jTB_mem wm_1387 rfl) (ok_X9_needed (by omega) e) rfl (Nat.le_of_ble_eq_true rfl) kk_1 rfl (by decide) (Nat.le_of_ble_eq_true rfl) dL_needed_5 rfl rfl rfl (fun hc => ?_) (fun hc => ?_)
  · replace h := jit_pos hc h
    refine x_i2l (pc := 8) hC dL_needed_8 ?_
    refine x_last (pc := 9) hC kk_180 (by omega) (by decide +kernel) dL_needed_9 rfl ?_
    refine x_goto (tgt := 21) (pc := 10) hC dL_needed_10 (by decide) ?_
    refine x_iconst (pc := 21) hC dL_needed_21 ?_
    exact x_iretW (pc := 22) hC hR dL_needed_22 rfl rfl (jr1 h) (jr2 h)
  · replace h := jit_neg hc h
    rcases jit_or h with ⟨h2, h⟩ | ⟨h2, h⟩
    · subst h2
      refine ⟨13, ⟨[], [(0, 10, 17, 13)], 0, 10, 19, rfl, by decide, by decide, by decide, by decide, cl_L19, cs_L2, fun z hz => by cases hz⟩, fun q hq => ?_⟩
      refine x_astore (ls2 := [jA 1, jI l1, jI l2, jA 180, (8, q)]) (pc := 13) hC dL_needed_13 (by decide) rfl (show (8 : Nat) ≠ 3 by decide) (q := q.toNat) rfl rfl ?_
      refine x_iconst (pc := 15) hC dL_needed_15 ?_
      exact x_iretW (pc := 16) hC hR dL_needed_16 rfl rfl (jr1 h) (jr2 h)
    · rcases jit_or h with ⟨h2, h⟩ | ⟨h2, h⟩
      · subst h2
        refine ⟨17, ⟨[(0, 10, 13, 19)], [], 0, 10, 13, rfl, by decide, by decide, by decide, by decide, cl_L13, cs_L1, fun z hz => by rw [List.mem_singleton] at hz; subst hz; exact ⟨by decide, 2, by decide, by decide, cl_L19⟩⟩, fun q hq => ?_⟩
        refine x_astore (ls2 := [jA 1, jI l1, jI l2, jA 180, (8, q)]) (pc := 17) hC dL_needed_17 (by decide) rfl (show (8 : Nat) ≠ 3 by decide) (q := q.toNat) rfl rfl ?_
        refine x_iconst (pc := 19) hC dL_needed_19 ?_
        exact x_iretW (pc := 20) hC hR dL_needed_20 rfl rfl (jr1 h) (jr2 h)
      · cases h
set_option maxHeartbeats 4000000 in
theorem ok_L_raise {X : jX} {n : Nat} (hn : 180 ≤ n) {l1 : Int} {l2 : Int} {l3 : Int} {M : jM} {rz : Int} {Mz : jM} (h : w_raise l1 l2 l3 M = some (rz, Mz)) : jCw X n yL_raise cL_raise 6 [(0, 12, 15, 19), (0, 12, 19, 79)] 9 4 [jA 1, jI l1, jI l2, jI l3, jA 180] M rz Mz := by
  refine jCw_of (own := RL) (ls := [jA 1, jI l1, jI l2, jI l3, jA 180, jN]) (by decide +kernel) rfl (by omega) (Nat.le_of_ble_eq_true rfl) rfl ?_
  intro C hC hR
  unfold w_raise at h
  obtain ⟨c, v, M1, e, h⟩ := jbT3_some h
  refine x_aloadA (pc := 0) hC dL_raise_0 rfl kk_180 (by decide) ?_
  refine x_iconst (pc := 2) hC dL_raise_2 ?_
  refine x_aloadA_n (pc := 3) hC dL_raise_3 rfl rfl kk_1 (by decide) ?_
  refine x_iload_n (pc := 4) hC dL_raise_4 rfl rfl ?_
  refine x_iload_n (pc := 5) hC dL_raise_5 rfl rfl ?_
  refine x_iload_n (pc := 6) hC dL_raise_6 rfl rfl ?_
  refine x_cVC (pc := 7) hC hR mv_L_105 (jTB_mem wm_1408 rfl) (ok_X9_raise (by omega) e) rfl (Nat.le_of_ble_eq_true rfl) kk_1 rfl (by decide) (Nat.le_of_ble_eq_true rfl) dL_raise_7 rfl rfl rfl (fun hc => ?_) (fun hc => ?_)
  · replace h := jit_pos hc h
    refine x_i2l (pc := 10) hC dL_raise_10 ?_
    refine x_last (pc := 11) hC kk_180 (by omega) (by decide +kernel) dL_raise_11 rfl ?_
    refine x_goto (tgt := 23) (pc := 12) hC dL_raise_12 (by decide) ?_
    refine x_iconst (pc := 23) hC dL_raise_23 ?_
    exact x_iretW (pc := 24) hC hR dL_raise_24 rfl rfl (jr1 h) (jr2 h)
  · replace h := jit_neg hc h
    rcases jit_or h with ⟨h2, h⟩ | ⟨h2, h⟩
    · subst h2
      refine ⟨15, ⟨[], [(0, 12, 19, 79)], 0, 12, 19, rfl, by decide, by decide, by decide, by decide, cl_L19, cs_L2, fun z hz => by cases hz⟩, fun q hq => ?_⟩
      refine x_astore (ls2 := [jA 1, jI l1, jI l2, jI l3, jA 180, (8, q)]) (pc := 15) hC dL_raise_15 (by decide) rfl (show (8 : Nat) ≠ 3 by decide) (q := q.toNat) rfl rfl ?_
      refine x_iconst (pc := 17) hC dL_raise_17 ?_
      exact x_iretW (pc := 18) hC hR dL_raise_18 rfl rfl (jr1 h) (jr2 h)
    · rcases jit_or h with ⟨h2, h⟩ | ⟨h2, h⟩
      · subst h2
        refine ⟨19, ⟨[(0, 12, 15, 19)], [], 0, 12, 79, rfl, by decide, by decide, by decide, by decide, cl_L79, cs_L4, fun z hz => by rw [List.mem_singleton] at hz; subst hz; exact ⟨by decide, 2, by decide, by decide, cl_L19⟩⟩, fun q hq => ?_⟩
        refine x_astore (ls2 := [jA 1, jI l1, jI l2, jI l3, jA 180, (8, q)]) (pc := 19) hC dL_raise_19 (by decide) rfl (show (8 : Nat) ≠ 3 by decide) (q := q.toNat) rfl rfl ?_
        refine x_iconst (pc := 21) hC dL_raise_21 ?_
        exact x_iretW (pc := 22) hC hR dL_raise_22 rfl rfl (jr1 h) (jr2 h)
      · cases h
set_option maxHeartbeats 4000000 in
theorem ok_L_prime {X : jX} {n : Nat} (hn : 180 ≤ n) {l1 : Int} {l2 : Int} {M : jM} {rz : Int} {Mz : jM} (h : w_prime l1 l2 M = some (rz, Mz)) : jCw X n yL_prime cL_prime 5 [(0, 10, 13, 19), (0, 10, 17, 13)] 8 2 [jA 1, jI l1, jI l2, jA 180] M rz Mz := by
  refine jCw_of (own := RL) (ls := [jA 1, jI l1, jI l2, jA 180, jN]) (by decide +kernel) rfl (by omega) (Nat.le_of_ble_eq_true rfl) rfl ?_
  intro C hC hR
  unfold w_prime at h
  obtain ⟨c, v, M1, e, h⟩ := jbT3_some h
  refine x_aloadA_n (pc := 0) hC dL_prime_0 rfl rfl kk_180 (by decide) ?_
  refine x_iconst (pc := 1) hC dL_prime_1 ?_
  refine x_aloadA_n (pc := 2) hC dL_prime_2 rfl rfl kk_1 (by decide) ?_
  refine x_iload_n (pc := 3) hC dL_prime_3 rfl rfl ?_
  refine x_iload_n (pc := 4) hC dL_prime_4 rfl rfl ?_
  refine x_cVC (pc := 5) hC hR mv_L_108 (jTB_mem wm_1416 rfl) (ok_X9_prime (by omega) e) rfl (Nat.le_of_ble_eq_true rfl) kk_1 rfl (by decide) (Nat.le_of_ble_eq_true rfl) dL_prime_5 rfl rfl rfl (fun hc => ?_) (fun hc => ?_)
  · replace h := jit_pos hc h
    refine x_i2l (pc := 8) hC dL_prime_8 ?_
    refine x_last (pc := 9) hC kk_180 (by omega) (by decide +kernel) dL_prime_9 rfl ?_
    refine x_goto (tgt := 21) (pc := 10) hC dL_prime_10 (by decide) ?_
    refine x_iconst (pc := 21) hC dL_prime_21 ?_
    exact x_iretW (pc := 22) hC hR dL_prime_22 rfl rfl (jr1 h) (jr2 h)
  · replace h := jit_neg hc h
    rcases jit_or h with ⟨h2, h⟩ | ⟨h2, h⟩
    · subst h2
      refine ⟨13, ⟨[], [(0, 10, 17, 13)], 0, 10, 19, rfl, by decide, by decide, by decide, by decide, cl_L19, cs_L2, fun z hz => by cases hz⟩, fun q hq => ?_⟩
      refine x_astore (ls2 := [jA 1, jI l1, jI l2, jA 180, (8, q)]) (pc := 13) hC dL_prime_13 (by decide) rfl (show (8 : Nat) ≠ 3 by decide) (q := q.toNat) rfl rfl ?_
      refine x_iconst (pc := 15) hC dL_prime_15 ?_
      exact x_iretW (pc := 16) hC hR dL_prime_16 rfl rfl (jr1 h) (jr2 h)
    · rcases jit_or h with ⟨h2, h⟩ | ⟨h2, h⟩
      · subst h2
        refine ⟨17, ⟨[(0, 10, 13, 19)], [], 0, 10, 13, rfl, by decide, by decide, by decide, by decide, cl_L13, cs_L1, fun z hz => by rw [List.mem_singleton] at hz; subst hz; exact ⟨by decide, 2, by decide, by decide, cl_L19⟩⟩, fun q hq => ?_⟩
        refine x_astore (ls2 := [jA 1, jI l1, jI l2, jA 180, (8, q)]) (pc := 17) hC dL_prime_17 (by decide) rfl (show (8 : Nat) ≠ 3 by decide) (q := q.toNat) rfl rfl ?_
        refine x_iconst (pc := 19) hC dL_prime_19 ?_
        exact x_iretW (pc := 20) hC hR dL_prime_20 rfl rfl (jr1 h) (jr2 h)
      · cases h
set_option maxHeartbeats 4000000 in
theorem ok_L_led {X : jX} {n : Nat} (hn : 180 ≤ n) {l1 : Int} {M : jM} {rz : Int} {Mz : jM} (h : w_led l1 M = some (rz, Mz)) : jCw X n yL_led cL_led 4 [(0, 9, 12, 13)] 7 1 [jA 1, jI l1, jA 180] M rz Mz := by
  refine jCw_of (own := RL) (ls := [jA 1, jI l1, jA 180, jN]) (by decide +kernel) rfl (by omega) (Nat.le_of_ble_eq_true rfl) rfl ?_
  intro C hC hR
  unfold w_led at h
  obtain ⟨c, v, M1, e, h⟩ := jbT3_some h
  refine x_aloadA_n (pc := 0) hC dL_led_0 rfl rfl kk_180 (by decide) ?_
  refine x_iconst (pc := 1) hC dL_led_1 ?_
  refine x_aloadA_n (pc := 2) hC dL_led_2 rfl rfl kk_1 (by decide) ?_
  refine x_iload_n (pc := 3) hC dL_led_3 rfl rfl ?_
  refine x_cVC (pc := 4) hC hR mv_L_111 (jTB_mem wm_1432 rfl) (ok_X9_led (by omega) e) rfl (Nat.le_of_ble_eq_true rfl) kk_1 rfl (by decide) (Nat.le_of_ble_eq_true rfl) dL_led_4 rfl rfl rfl (fun hc => ?_) (fun hc => ?_)
  · replace h := jit_pos hc h
    refine x_i2l (pc := 7) hC dL_led_7 ?_
    refine x_last (pc := 8) hC kk_180 (by omega) (by decide +kernel) dL_led_8 rfl ?_
    refine x_goto (tgt := 15) (pc := 9) hC dL_led_9 (by decide) ?_
    refine x_iconst (pc := 15) hC dL_led_15 ?_
    exact x_iretW (pc := 16) hC hR dL_led_16 rfl rfl (jr1 h) (jr2 h)
  · replace h := jit_neg hc h
    rcases jit_or h with ⟨h2, h⟩ | ⟨h2, h⟩
    · subst h2
      refine ⟨12, ⟨[], [], 0, 9, 13, rfl, by decide, by decide, by decide, by decide, cl_L13, cs_L1, fun z hz => by cases hz⟩, fun q hq => ?_⟩
      refine x_astore_n (ls2 := [jA 1, jI l1, jA 180, (8, q)]) (pc := 12) hC dL_led_12 rfl (by decide) rfl (show (8 : Nat) ≠ 3 by decide) (q := q.toNat) rfl rfl ?_
      refine x_iconst (pc := 13) hC dL_led_13 ?_
      exact x_iretW (pc := 14) hC hR dL_led_14 rfl rfl (jr1 h) (jr2 h)
    · cases h
set_option maxHeartbeats 4000000 in
theorem ok_L_doubt {X : jX} {n : Nat} (hn : 180 ≤ n) {l1 : Int} {M : jM} {rz : Int} {Mz : jM} (h : w_doubt l1 M = some (rz, Mz)) : jCw X n yL_doubt cL_doubt 4 [(0, 9, 12, 19)] 8 1 [jA 1, jI l1, jA 180] M rz Mz := by
  refine jCw_of (own := RL) (ls := [jA 1, jI l1, jA 180, jN]) (by decide +kernel) rfl (by omega) (Nat.le_of_ble_eq_true rfl) rfl ?_
  intro C hC hR
  unfold w_doubt at h
  obtain ⟨c, v, e, h⟩ := jbT2_some h
  refine x_aloadA_n (pc := 0) hC dL_doubt_0 rfl rfl kk_180 (by decide) ?_
  refine x_iconst (pc := 1) hC dL_doubt_1 ?_
  refine x_aloadA_n (pc := 2) hC dL_doubt_2 rfl rfl kk_1 (by decide) ?_
  refine x_iload_n (pc := 3) hC dL_doubt_3 rfl rfl ?_
  refine x_cVC (pc := 4) hC hR mv_L_114 (jTB_mem wm_1440 rfl) (ok_X9_doubt (by omega) e) rfl (Nat.le_of_ble_eq_true rfl) kk_1 rfl (by decide) (Nat.le_of_ble_eq_true rfl) dL_doubt_4 rfl rfl rfl (fun hc => ?_) (fun hc => ?_)
  · replace h := jit_pos hc h
    refine x_i2l (pc := 7) hC dL_doubt_7 ?_
    refine x_last (pc := 8) hC kk_180 (by omega) (by decide +kernel) dL_doubt_8 rfl ?_
    refine x_goto (tgt := 15) (pc := 9) hC dL_doubt_9 (by decide) ?_
    refine x_iconst (pc := 15) hC dL_doubt_15 ?_
    exact x_iretW (pc := 16) hC hR dL_doubt_16 rfl rfl (jr1 h) (jr2 h)
  · replace h := jit_neg hc h
    rcases jit_or h with ⟨h2, h⟩ | ⟨h2, h⟩
    · subst h2
      refine ⟨12, ⟨[], [], 0, 9, 19, rfl, by decide, by decide, by decide, by decide, cl_L19, cs_L2, fun z hz => by cases hz⟩, fun q hq => ?_⟩
      refine x_astore_n (ls2 := [jA 1, jI l1, jA 180, (8, q)]) (pc := 12) hC dL_doubt_12 rfl (by decide) rfl (show (8 : Nat) ≠ 3 by decide) (q := q.toNat) rfl rfl ?_
      refine x_iconst (pc := 13) hC dL_doubt_13 ?_
      exact x_iretW (pc := 14) hC hR dL_doubt_14 rfl rfl (jr1 h) (jr2 h)
    · cases h
set_option maxHeartbeats 4000000 in
theorem ok_L_clean {X : jX} {n : Nat} (hn : 180 ≤ n) {l1 : Int} {M : jM} {rz : Int} {Mz : jM} (h : w_clean l1 M = some (rz, Mz)) : jCw X n yL_clean cL_clean 4 [(0, 9, 12, 19)] 8 1 [jA 1, jI l1, jA 180] M rz Mz := by
  refine jCw_of (own := RL) (ls := [jA 1, jI l1, jA 180, jN]) (by decide +kernel) rfl (by omega) (Nat.le_of_ble_eq_true rfl) rfl ?_
  intro C hC hR
  unfold w_clean at h
  obtain ⟨c, v, M1, e, h⟩ := jbT3_some h
  refine x_aloadA_n (pc := 0) hC dL_clean_0 rfl rfl kk_180 (by decide) ?_
  refine x_iconst (pc := 1) hC dL_clean_1 ?_
  refine x_aloadA_n (pc := 2) hC dL_clean_2 rfl rfl kk_1 (by decide) ?_
  refine x_iload_n (pc := 3) hC dL_clean_3 rfl rfl ?_
  refine x_cVC (pc := 4) hC hR mv_L_117 (jTB_mem wm_1458 rfl) (ok_X9_clean (by omega) e) rfl (Nat.le_of_ble_eq_true rfl) kk_1 rfl (by decide) (Nat.le_of_ble_eq_true rfl) dL_clean_4 rfl rfl rfl (fun hc => ?_) (fun hc => ?_)
  · replace h := jit_pos hc h
    refine x_i2l (pc := 7) hC dL_clean_7 ?_
    refine x_last (pc := 8) hC kk_180 (by omega) (by decide +kernel) dL_clean_8 rfl ?_
    refine x_goto (tgt := 15) (pc := 9) hC dL_clean_9 (by decide) ?_
    refine x_iconst (pc := 15) hC dL_clean_15 ?_
    exact x_iretW (pc := 16) hC hR dL_clean_16 rfl rfl (jr1 h) (jr2 h)
  · replace h := jit_neg hc h
    rcases jit_or h with ⟨h2, h⟩ | ⟨h2, h⟩
    · subst h2
      refine ⟨12, ⟨[], [], 0, 9, 19, rfl, by decide, by decide, by decide, by decide, cl_L19, cs_L2, fun z hz => by cases hz⟩, fun q hq => ?_⟩
      refine x_astore_n (ls2 := [jA 1, jI l1, jA 180, (8, q)]) (pc := 12) hC dL_clean_12 rfl (by decide) rfl (show (8 : Nat) ≠ 3 by decide) (q := q.toNat) rfl rfl ?_
      refine x_iconst (pc := 13) hC dL_clean_13 ?_
      exact x_iretW (pc := 14) hC hR dL_clean_14 rfl rfl (jr1 h) (jr2 h)
    · cases h
set_option maxHeartbeats 4000000 in
theorem ok_L_write {X : jX} {n : Nat} (hn : 180 ≤ n) {l1 : Int} {M : jM} {rz : Int} {Mz : jM} (h : w_write l1 M = some (rz, Mz)) : jCw X n yL_write cL_write 4 [(0, 9, 12, 19)] 8 1 [jA 1, jI l1, jA 180] M rz Mz := by
  refine jCw_of (own := RL) (ls := [jA 1, jI l1, jA 180, jN]) (by decide +kernel) rfl (by omega) (Nat.le_of_ble_eq_true rfl) rfl ?_
  intro C hC hR
  unfold w_write at h
  obtain ⟨c, v, M1, e, h⟩ := jbT3_some h
  refine x_aloadA_n (pc := 0) hC dL_write_0 rfl rfl kk_180 (by decide) ?_
  refine x_iconst (pc := 1) hC dL_write_1 ?_
  refine x_aloadA_n (pc := 2) hC dL_write_2 rfl rfl kk_1 (by decide) ?_
  refine x_iload_n (pc := 3) hC dL_write_3 rfl rfl ?_
  refine x_cVC (pc := 4) hC hR mv_L_120 (jTB_mem wm_1465 rfl) (ok_X9_write (by omega) e) rfl (Nat.le_of_ble_eq_true rfl) kk_1 rfl (by decide) (Nat.le_of_ble_eq_true rfl) dL_write_4 rfl rfl rfl (fun hc => ?_) (fun hc => ?_)
  · replace h := jit_pos hc h
    refine x_i2l (pc := 7) hC dL_write_7 ?_
    refine x_last (pc := 8) hC kk_180 (by omega) (by decide +kernel) dL_write_8 rfl ?_
    refine x_goto (tgt := 15) (pc := 9) hC dL_write_9 (by decide) ?_
    refine x_iconst (pc := 15) hC dL_write_15 ?_
    exact x_iretW (pc := 16) hC hR dL_write_16 rfl rfl (jr1 h) (jr2 h)
  · replace h := jit_neg hc h
    rcases jit_or h with ⟨h2, h⟩ | ⟨h2, h⟩
    · subst h2
      refine ⟨12, ⟨[], [], 0, 9, 19, rfl, by decide, by decide, by decide, by decide, cl_L19, cs_L2, fun z hz => by cases hz⟩, fun q hq => ?_⟩
      refine x_astore_n (ls2 := [jA 1, jI l1, jA 180, (8, q)]) (pc := 12) hC dL_write_12 rfl (by decide) rfl (show (8 : Nat) ≠ 3 by decide) (q := q.toNat) rfl rfl ?_
      refine x_iconst (pc := 13) hC dL_write_13 ?_
      exact x_iretW (pc := 14) hC hR dL_write_14 rfl rfl (jr1 h) (jr2 h)
    · cases h
