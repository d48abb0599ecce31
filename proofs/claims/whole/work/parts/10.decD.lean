theorem d_L_call_0 : decode b_L_call 0 = .ok (.aload_n 2, 1) := by decide +kernel
theorem d_L_call_1 : decode b_L_call 1 = .ok (.iconst 0, 1) := by decide +kernel
theorem d_L_call_2 : decode b_L_call 2 = .ok (.aload_n 0, 1) := by decide +kernel
theorem d_L_call_3 : decode b_L_call 3 = .ok (.iload_n 1, 1) := by decide +kernel
theorem d_L_call_4 : decode b_L_call 4 = .ok (.invokevirtual 7, 3) := by decide +kernel
theorem d_L_call_7 : decode b_L_call 7 = .ok (.i2l, 1) := by decide +kernel
theorem d_L_call_8 : decode b_L_call 8 = .ok (.lastore, 1) := by decide +kernel
theorem d_L_call_9 : decode b_L_call 9 = .ok (.goto 12, 3) := by decide +kernel
theorem d_L_call_12 : decode b_L_call 12 = .ok (.astore_n 3, 1) := by decide +kernel
theorem d_L_call_13 : decode b_L_call 13 = .ok (.iconst 1, 1) := by decide +kernel
theorem d_L_call_14 : decode b_L_call 14 = .ok (.ireturn, 1) := by decide +kernel
theorem d_L_call_15 : decode b_L_call 15 = .ok (.astore_n 3, 1) := by decide +kernel
theorem d_L_call_16 : decode b_L_call 16 = .ok (.iconst 2, 1) := by decide +kernel
theorem d_L_call_17 : decode b_L_call 17 = .ok (.ireturn, 1) := by decide +kernel
theorem d_L_call_18 : decode b_L_call 18 = .ok (.astore_n 3, 1) := by decide +kernel
theorem d_L_call_19 : decode b_L_call 19 = .ok (.iconst 3, 1) := by decide +kernel
theorem d_L_call_20 : decode b_L_call 20 = .ok (.ireturn, 1) := by decide +kernel
theorem d_L_call_21 : decode b_L_call 21 = .ok (.iconst 0, 1) := by decide +kernel
theorem d_L_call_22 : decode b_L_call 22 = .ok (.ireturn, 1) := by decide +kernel
theorem d_L_course_0 : decode b_L_course 0 = .ok (.aload_n 1, 1) := by decide +kernel
theorem d_L_course_1 : decode b_L_course 1 = .ok (.iconst 0, 1) := by decide +kernel
theorem d_L_course_2 : decode b_L_course 2 = .ok (.aload_n 0, 1) := by decide +kernel
theorem d_L_course_3 : decode b_L_course 3 = .ok (.invokevirtual 19, 3) := by decide +kernel
theorem d_L_course_6 : decode b_L_course 6 = .ok (.i2l, 1) := by decide +kernel
theorem d_L_course_7 : decode b_L_course 7 = .ok (.lastore, 1) := by decide +kernel
theorem d_L_course_8 : decode b_L_course 8 = .ok (.goto 6, 3) := by decide +kernel
theorem d_L_course_11 : decode b_L_course 11 = .ok (.astore_n 2, 1) := by decide +kernel
theorem d_L_course_12 : decode b_L_course 12 = .ok (.iconst 1, 1) := by decide +kernel
theorem d_L_course_13 : decode b_L_course 13 = .ok (.ireturn, 1) := by decide +kernel
theorem d_L_course_14 : decode b_L_course 14 = .ok (.iconst 0, 1) := by decide +kernel
theorem d_L_course_15 : decode b_L_course 15 = .ok (.ireturn, 1) := by decide +kernel
theorem d_L_falseLeads_0 : decode b_L_falseLeads 0 = .ok (.aload_n 3, 1) := by decide +kernel
theorem d_L_falseLeads_1 : decode b_L_falseLeads 1 = .ok (.iconst 0, 1) := by decide +kernel
theorem d_L_falseLeads_2 : decode b_L_falseLeads 2 = .ok (.aload_n 0, 1) := by decide +kernel
theorem d_L_falseLeads_3 : decode b_L_falseLeads 3 = .ok (.iload_n 1, 1) := by decide +kernel
theorem d_L_falseLeads_4 : decode b_L_falseLeads 4 = .ok (.iload_n 2, 1) := by decide +kernel
theorem d_L_falseLeads_5 : decode b_L_falseLeads 5 = .ok (.invokevirtual 23, 3) := by decide +kernel
theorem d_L_falseLeads_8 : decode b_L_falseLeads 8 = .ok (.ifCond .eq 7, 3) := by decide +kernel
theorem d_L_falseLeads_11 : decode b_L_falseLeads 11 = .ok (.lconst 1, 1) := by decide +kernel
theorem d_L_falseLeads_12 : decode b_L_falseLeads 12 = .ok (.goto 4, 3) := by decide +kernel
theorem d_L_falseLeads_15 : decode b_L_falseLeads 15 = .ok (.lconst 0, 1) := by decide +kernel
theorem d_L_falseLeads_16 : decode b_L_falseLeads 16 = .ok (.lastore, 1) := by decide +kernel
theorem d_L_falseLeads_17 : decode b_L_falseLeads 17 = .ok (.goto 11, 3) := by decide +kernel
theorem d_L_falseLeads_20 : decode b_L_falseLeads 20 = .ok (.astore 4, 2) := by decide +kernel
theorem d_L_falseLeads_22 : decode b_L_falseLeads 22 = .ok (.iconst 1, 1) := by decide +kernel
theorem d_L_falseLeads_23 : decode b_L_falseLeads 23 = .ok (.ireturn, 1) := by decide +kernel
theorem d_L_falseLeads_24 : decode b_L_falseLeads 24 = .ok (.astore 4, 2) := by decide +kernel
theorem d_L_falseLeads_26 : decode b_L_falseLeads 26 = .ok (.iconst 2, 1) := by decide +kernel
theorem d_L_falseLeads_27 : decode b_L_falseLeads 27 = .ok (.ireturn, 1) := by decide +kernel
theorem d_L_falseLeads_28 : decode b_L_falseLeads 28 = .ok (.iconst 0, 1) := by decide +kernel
theorem d_L_falseLeads_29 : decode b_L_falseLeads 29 = .ok (.ireturn, 1) := by decide +kernel
theorem d_L_search_0 : decode b_L_search 0 = .ok (.aload 4, 2) := by decide +kernel
theorem d_L_search_2 : decode b_L_search 2 = .ok (.iconst 0, 1) := by decide +kernel
theorem d_L_search_3 : decode b_L_search 3 = .ok (.aload_n 0, 1) := by decide +kernel
theorem d_L_search_4 : decode b_L_search 4 = .ok (.iload_n 1, 1) := by decide +kernel
theorem d_L_search_5 : decode b_L_search 5 = .ok (.iload_n 2, 1) := by decide +kernel
theorem d_L_search_6 : decode b_L_search 6 = .ok (.iload_n 3, 1) := by decide +kernel
theorem d_L_search_7 : decode b_L_search 7 = .ok (.invokevirtual 27, 3) := by decide +kernel
theorem d_L_search_10 : decode b_L_search 10 = .ok (.i2l, 1) := by decide +kernel
theorem d_L_search_11 : decode b_L_search 11 = .ok (.lastore, 1) := by decide +kernel
theorem d_L_search_12 : decode b_L_search 12 = .ok (.goto 11, 3) := by decide +kernel
theorem d_L_search_15 : decode b_L_search 15 = .ok (.astore 5, 2) := by decide +kernel
theorem d_L_search_17 : decode b_L_search 17 = .ok (.iconst 1, 1) := by decide +kernel
theorem d_L_search_18 : decode b_L_search 18 = .ok (.ireturn, 1) := by decide +kernel
theorem d_L_search_19 : decode b_L_search 19 = .ok (.astore 5, 2) := by decide +kernel
theorem d_L_search_21 : decode b_L_search 21 = .ok (.iconst 2, 1) := by decide +kernel
theorem d_L_search_22 : decode b_L_search 22 = .ok (.ireturn, 1) := by decide +kernel
theorem d_L_search_23 : decode b_L_search 23 = .ok (.iconst 0, 1) := by decide +kernel
theorem d_L_search_24 : decode b_L_search 24 = .ok (.ireturn, 1) := by decide +kernel
theorem d_L_count_0 : decode b_L_count 0 = .ok (.aload_n 3, 1) := by decide +kernel
theorem d_L_count_1 : decode b_L_count 1 = .ok (.iconst 0, 1) := by decide +kernel
theorem d_L_count_2 : decode b_L_count 2 = .ok (.aload_n 0, 1) := by decide +kernel
theorem d_L_count_3 : decode b_L_count 3 = .ok (.iload_n 1, 1) := by decide +kernel
theorem d_L_count_4 : decode b_L_count 4 = .ok (.iload_n 2, 1) := by decide +kernel
theorem d_L_count_5 : decode b_L_count 5 = .ok (.invokevirtual 31, 3) := by decide +kernel
theorem d_L_count_8 : decode b_L_count 8 = .ok (.i2l, 1) := by decide +kernel
theorem d_L_count_9 : decode b_L_count 9 = .ok (.lastore, 1) := by decide +kernel
theorem d_L_count_10 : decode b_L_count 10 = .ok (.goto 11, 3) := by decide +kernel
theorem d_L_count_13 : decode b_L_count 13 = .ok (.astore 4, 2) := by decide +kernel
theorem d_L_count_15 : decode b_L_count 15 = .ok (.iconst 1, 1) := by decide +kernel
theorem d_L_count_16 : decode b_L_count 16 = .ok (.ireturn, 1) := by decide +kernel
theorem d_L_count_17 : decode b_L_count 17 = .ok (.astore 4, 2) := by decide +kernel
theorem d_L_count_19 : decode b_L_count 19 = .ok (.iconst 2, 1) := by decide +kernel
theorem d_L_count_20 : decode b_L_count 20 = .ok (.ireturn, 1) := by decide +kernel
theorem d_L_count_21 : decode b_L_count 21 = .ok (.iconst 0, 1) := by decide +kernel
theorem d_L_count_22 : decode b_L_count 22 = .ok (.ireturn, 1) := by decide +kernel
