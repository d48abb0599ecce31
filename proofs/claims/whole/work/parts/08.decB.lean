theorem d_RT_init_0 : decode b_RT_init 0 = .ok (.aload_n 0, 1) := by decide +kernel
theorem d_RT_init_1 : decode b_RT_init 1 = .ok (.invokespecial 1, 3) := by decide +kernel
theorem d_RT_init_4 : decode b_RT_init 4 = .ok (.aload_n 0, 1) := by decide +kernel
theorem d_RT_init_5 : decode b_RT_init 5 = .ok (.new 7, 3) := by decide +kernel
theorem d_RT_init_8 : decode b_RT_init 8 = .ok (.dup, 1) := by decide +kernel
theorem d_RT_init_9 : decode b_RT_init 9 = .ok (.invokespecial 9, 3) := by decide +kernel
theorem d_RT_init_12 : decode b_RT_init 12 = .ok (.putfield 10, 3) := by decide +kernel
theorem d_RT_init_15 : decode b_RT_init 15 = .ok (.aload_n 0, 1) := by decide +kernel
theorem d_RT_init_16 : decode b_RT_init 16 = .ok (.new 16, 3) := by decide +kernel
theorem d_RT_init_19 : decode b_RT_init 19 = .ok (.dup, 1) := by decide +kernel
theorem d_RT_init_20 : decode b_RT_init 20 = .ok (.invokespecial 18, 3) := by decide +kernel
theorem d_RT_init_23 : decode b_RT_init 23 = .ok (.putfield 19, 3) := by decide +kernel
theorem d_RT_init_26 : decode b_RT_init 26 = .ok (.aload_n 0, 1) := by decide +kernel
theorem d_RT_init_27 : decode b_RT_init 27 = .ok (.new 23, 3) := by decide +kernel
theorem d_RT_init_30 : decode b_RT_init 30 = .ok (.dup, 1) := by decide +kernel
theorem d_RT_init_31 : decode b_RT_init 31 = .ok (.aload_n 0, 1) := by decide +kernel
theorem d_RT_init_32 : decode b_RT_init 32 = .ok (.getfield 19, 3) := by decide +kernel
theorem d_RT_init_35 : decode b_RT_init 35 = .ok (.aload_n 0, 1) := by decide +kernel
theorem d_RT_init_36 : decode b_RT_init 36 = .ok (.getfield 10, 3) := by decide +kernel
theorem d_RT_init_39 : decode b_RT_init 39 = .ok (.invokespecial 25, 3) := by decide +kernel
theorem d_RT_init_42 : decode b_RT_init 42 = .ok (.putfield 28, 3) := by decide +kernel
theorem d_RT_init_45 : decode b_RT_init 45 = .ok (.aload_n 0, 1) := by decide +kernel
theorem d_RT_init_46 : decode b_RT_init 46 = .ok (.new 32, 3) := by decide +kernel
theorem d_RT_init_49 : decode b_RT_init 49 = .ok (.dup, 1) := by decide +kernel
theorem d_RT_init_50 : decode b_RT_init 50 = .ok (.aload_n 0, 1) := by decide +kernel
theorem d_RT_init_51 : decode b_RT_init 51 = .ok (.getfield 19, 3) := by decide +kernel
theorem d_RT_init_54 : decode b_RT_init 54 = .ok (.aload_n 0, 1) := by decide +kernel
theorem d_RT_init_55 : decode b_RT_init 55 = .ok (.getfield 28, 3) := by decide +kernel
theorem d_RT_init_58 : decode b_RT_init 58 = .ok (.invokespecial 34, 3) := by decide +kernel
theorem d_RT_init_61 : decode b_RT_init 61 = .ok (.putfield 37, 3) := by decide +kernel
theorem d_RT_init_64 : decode b_RT_init 64 = .ok (.aload_n 0, 1) := by decide +kernel
theorem d_RT_init_65 : decode b_RT_init 65 = .ok (.bipush 30, 2) := by decide +kernel
theorem d_RT_init_67 : decode b_RT_init 67 = .ok (.newarray .int, 2) := by decide +kernel
theorem d_RT_init_69 : decode b_RT_init 69 = .ok (.putfield 41, 3) := by decide +kernel
theorem d_RT_init_72 : decode b_RT_init 72 = .ok (.aload_n 0, 1) := by decide +kernel
theorem d_RT_init_73 : decode b_RT_init 73 = .ok (.iconst 4, 1) := by decide +kernel
theorem d_RT_init_74 : decode b_RT_init 74 = .ok (.bipush 6, 2) := by decide +kernel
theorem d_RT_init_76 : decode b_RT_init 76 = .ok (.multianewarray 45 2, 4) := by decide +kernel
theorem d_RT_init_80 : decode b_RT_init 80 = .ok (.putfield 47, 3) := by decide +kernel
theorem d_RT_init_83 : decode b_RT_init 83 = .ok (.aload_n 0, 1) := by decide +kernel
theorem d_RT_init_84 : decode b_RT_init 84 = .ok (.iconst 0, 1) := by decide +kernel
theorem d_RT_init_85 : decode b_RT_init 85 = .ok (.putfield 50, 3) := by decide +kernel
theorem d_RT_init_88 : decode b_RT_init 88 = .ok (.aload_n 0, 1) := by decide +kernel
theorem d_RT_init_89 : decode b_RT_init 89 = .ok (.bipush 6, 2) := by decide +kernel
theorem d_RT_init_91 : decode b_RT_init 91 = .ok (.invokevirtual 54, 3) := by decide +kernel
theorem d_RT_init_94 : decode b_RT_init 94 = .ok (.return_, 1) := by decide +kernel
theorem d_RT_bells_0 : decode b_RT_bells 0 = .ok (.iload_n 1, 1) := by decide +kernel
theorem d_RT_bells_1 : decode b_RT_bells 1 = .ok (.iconst 4, 1) := by decide +kernel
theorem d_RT_bells_2 : decode b_RT_bells 2 = .ok (.if_icmp .lt 9, 3) := by decide +kernel
theorem d_RT_bells_5 : decode b_RT_bells 5 = .ok (.iload_n 1, 1) := by decide +kernel
theorem d_RT_bells_6 : decode b_RT_bells 6 = .ok (.bipush 6, 2) := by decide +kernel
theorem d_RT_bells_8 : decode b_RT_bells 8 = .ok (.if_icmp .le 5, 3) := by decide +kernel
theorem d_RT_bells_11 : decode b_RT_bells 11 = .ok (.iconst 0, 1) := by decide +kernel
theorem d_RT_bells_12 : decode b_RT_bells 12 = .ok (.ireturn, 1) := by decide +kernel
theorem d_RT_bells_13 : decode b_RT_bells 13 = .ok (.aload_n 0, 1) := by decide +kernel
theorem d_RT_bells_14 : decode b_RT_bells 14 = .ok (.iload_n 1, 1) := by decide +kernel
theorem d_RT_bells_15 : decode b_RT_bells 15 = .ok (.invokevirtual 54, 3) := by decide +kernel
theorem d_RT_bells_18 : decode b_RT_bells 18 = .ok (.iconst 1, 1) := by decide +kernel
theorem d_RT_bells_19 : decode b_RT_bells 19 = .ok (.ireturn, 1) := by decide +kernel
theorem d_RT_notation_0 : decode b_RT_notation 0 = .ok (.aload_n 0, 1) := by decide +kernel
theorem d_RT_notation_1 : decode b_RT_notation 1 = .ok (.getfield 19, 3) := by decide +kernel
theorem d_RT_notation_4 : decode b_RT_notation 4 = .ok (.invokevirtual 58, 3) := by decide +kernel
theorem d_RT_notation_7 : decode b_RT_notation 7 = .ok (.ifCond .ne 21, 3) := by decide +kernel
theorem d_RT_notation_10 : decode b_RT_notation 10 = .ok (.iload_n 1, 1) := by decide +kernel
theorem d_RT_notation_11 : decode b_RT_notation 11 = .ok (.ifCond .lt 17, 3) := by decide +kernel
theorem d_RT_notation_14 : decode b_RT_notation 14 = .ok (.iload_n 1, 1) := by decide +kernel
theorem d_RT_notation_15 : decode b_RT_notation 15 = .ok (.bipush 24, 2) := by decide +kernel
theorem d_RT_notation_17 : decode b_RT_notation 17 = .ok (.if_icmp .ge 11, 3) := by decide +kernel
theorem d_RT_notation_20 : decode b_RT_notation 20 = .ok (.aload_n 0, 1) := by decide +kernel
theorem d_RT_notation_21 : decode b_RT_notation 21 = .ok (.iload_n 2, 1) := by decide +kernel
theorem d_RT_notation_22 : decode b_RT_notation 22 = .ok (.invokevirtual 62, 3) := by decide +kernel
theorem d_RT_notation_25 : decode b_RT_notation 25 = .ok (.ifCond .ne 5, 3) := by decide +kernel
theorem d_RT_notation_28 : decode b_RT_notation 28 = .ok (.iconst 0, 1) := by decide +kernel
theorem d_RT_notation_29 : decode b_RT_notation 29 = .ok (.ireturn, 1) := by decide +kernel
theorem d_RT_notation_30 : decode b_RT_notation 30 = .ok (.aload_n 0, 1) := by decide +kernel
theorem d_RT_notation_31 : decode b_RT_notation 31 = .ok (.getfield 19, 3) := by decide +kernel
theorem d_RT_notation_34 : decode b_RT_notation 34 = .ok (.iload_n 1, 1) := by decide +kernel
theorem d_RT_notation_35 : decode b_RT_notation 35 = .ok (.iload_n 2, 1) := by decide +kernel
theorem d_RT_notation_36 : decode b_RT_notation 36 = .ok (.invokevirtual 66, 3) := by decide +kernel
theorem d_RT_notation_39 : decode b_RT_notation 39 = .ok (.iconst 1, 1) := by decide +kernel
theorem d_RT_notation_40 : decode b_RT_notation 40 = .ok (.ireturn, 1) := by decide +kernel
theorem d_RT_callNotation_0 : decode b_RT_callNotation 0 = .ok (.iload_n 1, 1) := by decide +kernel
theorem d_RT_callNotation_1 : decode b_RT_callNotation 1 = .ok (.iconst 1, 1) := by decide +kernel
theorem d_RT_callNotation_2 : decode b_RT_callNotation 2 = .ok (.if_icmp .eq 8, 3) := by decide +kernel
theorem d_RT_callNotation_5 : decode b_RT_callNotation 5 = .ok (.iload_n 1, 1) := by decide +kernel
theorem d_RT_callNotation_6 : decode b_RT_callNotation 6 = .ok (.iconst 2, 1) := by decide +kernel
theorem d_RT_callNotation_7 : decode b_RT_callNotation 7 = .ok (.if_icmp .ne 19, 3) := by decide +kernel
theorem d_RT_callNotation_10 : decode b_RT_callNotation 10 = .ok (.aload_n 0, 1) := by decide +kernel
theorem d_RT_callNotation_11 : decode b_RT_callNotation 11 = .ok (.iload_n 2, 1) := by decide +kernel
theorem d_RT_callNotation_12 : decode b_RT_callNotation 12 = .ok (.invokevirtual 62, 3) := by decide +kernel
theorem d_RT_callNotation_15 : decode b_RT_callNotation 15 = .ok (.ifCond .eq 11, 3) := by decide +kernel
theorem d_RT_callNotation_18 : decode b_RT_callNotation 18 = .ok (.aload_n 0, 1) := by decide +kernel
theorem d_RT_callNotation_19 : decode b_RT_callNotation 19 = .ok (.iload_n 1, 1) := by decide +kernel
theorem d_RT_callNotation_20 : decode b_RT_callNotation 20 = .ok (.invokevirtual 70, 3) := by decide +kernel
theorem d_RT_callNotation_23 : decode b_RT_callNotation 23 = .ok (.ifCond .eq 5, 3) := by decide +kernel
theorem d_RT_callNotation_26 : decode b_RT_callNotation 26 = .ok (.iconst 0, 1) := by decide +kernel
theorem d_RT_callNotation_27 : decode b_RT_callNotation 27 = .ok (.ireturn, 1) := by decide +kernel
theorem d_RT_callNotation_28 : decode b_RT_callNotation 28 = .ok (.aload_n 0, 1) := by decide +kernel
theorem d_RT_callNotation_29 : decode b_RT_callNotation 29 = .ok (.getfield 19, 3) := by decide +kernel
theorem d_RT_callNotation_32 : decode b_RT_callNotation 32 = .ok (.iload_n 1, 1) := by decide +kernel
theorem d_RT_callNotation_33 : decode b_RT_callNotation 33 = .ok (.iload_n 2, 1) := by decide +kernel
theorem d_RT_callNotation_34 : decode b_RT_callNotation 34 = .ok (.invokevirtual 73, 3) := by decide +kernel
theorem d_RT_callNotation_37 : decode b_RT_callNotation 37 = .ok (.iconst 1, 1) := by decide +kernel
theorem d_RT_callNotation_38 : decode b_RT_callNotation 38 = .ok (.ireturn, 1) := by decide +kernel
theorem d_RT_define_0 : decode b_RT_define 0 = .ok (.aload_n 0, 1) := by decide +kernel
theorem d_RT_define_1 : decode b_RT_define 1 = .ok (.getfield 19, 3) := by decide +kernel
theorem d_RT_define_4 : decode b_RT_define 4 = .ok (.invokevirtual 58, 3) := by decide +kernel
theorem d_RT_define_7 : decode b_RT_define 7 = .ok (.ifCond .eq 5, 3) := by decide +kernel
theorem d_RT_define_10 : decode b_RT_define 10 = .ok (.iconst 3, 1) := by decide +kernel
theorem d_RT_define_11 : decode b_RT_define 11 = .ok (.ireturn, 1) := by decide +kernel
theorem d_RT_define_12 : decode b_RT_define 12 = .ok (.iload_n 1, 1) := by decide +kernel
theorem d_RT_define_13 : decode b_RT_define 13 = .ok (.iconst 1, 1) := by decide +kernel
theorem d_RT_define_14 : decode b_RT_define 14 = .ok (.if_icmp .lt 20, 3) := by decide +kernel
theorem d_RT_define_17 : decode b_RT_define 17 = .ok (.iload_n 1, 1) := by decide +kernel
theorem d_RT_define_18 : decode b_RT_define 18 = .ok (.bipush 24, 2) := by decide +kernel
theorem d_RT_define_20 : decode b_RT_define 20 = .ok (.if_icmp .gt 14, 3) := by decide +kernel
theorem d_RT_define_23 : decode b_RT_define 23 = .ok (.aload_n 0, 1) := by decide +kernel
theorem d_RT_define_24 : decode b_RT_define 24 = .ok (.getfield 19, 3) := by decide +kernel
theorem d_RT_define_27 : decode b_RT_define 27 = .ok (.iload_n 1, 1) := by decide +kernel
theorem d_RT_define_28 : decode b_RT_define 28 = .ok (.invokevirtual 76, 3) := by decide +kernel
theorem d_RT_define_31 : decode b_RT_define 31 = .ok (.ifCond .ne 5, 3) := by decide +kernel
theorem d_RT_define_34 : decode b_RT_define 34 = .ok (.iconst 1, 1) := by decide +kernel
theorem d_RT_define_35 : decode b_RT_define 35 = .ok (.ireturn, 1) := by decide +kernel
theorem d_RT_define_36 : decode b_RT_define 36 = .ok (.aload_n 0, 1) := by decide +kernel
theorem d_RT_define_37 : decode b_RT_define 37 = .ok (.getfield 28, 3) := by decide +kernel
theorem d_RT_define_40 : decode b_RT_define 40 = .ok (.iload_n 1, 1) := by decide +kernel
theorem d_RT_define_41 : decode b_RT_define 41 = .ok (.invokevirtual 79, 3) := by decide +kernel
theorem d_RT_define_44 : decode b_RT_define 44 = .ok (.ifCond .ne 5, 3) := by decide +kernel
theorem d_RT_define_47 : decode b_RT_define 47 = .ok (.iconst 2, 1) := by decide +kernel
theorem d_RT_define_48 : decode b_RT_define 48 = .ok (.ireturn, 1) := by decide +kernel
theorem d_RT_define_49 : decode b_RT_define 49 = .ok (.aload_n 0, 1) := by decide +kernel
theorem d_RT_define_50 : decode b_RT_define 50 = .ok (.getfield 19, 3) := by decide +kernel
theorem d_RT_define_53 : decode b_RT_define 53 = .ok (.iload_n 1, 1) := by decide +kernel
theorem d_RT_define_54 : decode b_RT_define 54 = .ok (.invokevirtual 82, 3) := by decide +kernel
theorem d_RT_define_57 : decode b_RT_define 57 = .ok (.iconst 0, 1) := by decide +kernel
theorem d_RT_define_58 : decode b_RT_define 58 = .ok (.ireturn, 1) := by decide +kernel
theorem d_RT_call_0 : decode b_RT_call 0 = .ok (.aload_n 0, 1) := by decide +kernel
theorem d_RT_call_1 : decode b_RT_call 1 = .ok (.invokevirtual 85, 3) := by decide +kernel
theorem d_RT_call_4 : decode b_RT_call 4 = .ok (.aload_n 0, 1) := by decide +kernel
theorem d_RT_call_5 : decode b_RT_call 5 = .ok (.getfield 19, 3) := by decide +kernel
theorem d_RT_call_8 : decode b_RT_call 8 = .ok (.iload_n 1, 1) := by decide +kernel
theorem d_RT_call_9 : decode b_RT_call 9 = .ok (.invokevirtual 88, 3) := by decide +kernel
theorem d_RT_call_12 : decode b_RT_call 12 = .ok (.ifCond .ne 13, 3) := by decide +kernel
theorem d_RT_call_15 : decode b_RT_call 15 = .ok (.new 91, 3) := by decide +kernel
theorem d_RT_call_18 : decode b_RT_call 18 = .ok (.dup, 1) := by decide +kernel
theorem d_RT_call_19 : decode b_RT_call 19 = .ok (.ldc 93, 2) := by decide +kernel
theorem d_RT_call_21 : decode b_RT_call 21 = .ok (.invokespecial 95, 3) := by decide +kernel
theorem d_RT_call_24 : decode b_RT_call 24 = .ok (.athrow, 1) := by decide +kernel
theorem d_RT_call_25 : decode b_RT_call 25 = .ok (.aload_n 0, 1) := by decide +kernel
theorem d_RT_call_26 : decode b_RT_call 26 = .ok (.getfield 50, 3) := by decide +kernel
theorem d_RT_call_29 : decode b_RT_call 29 = .ok (.bipush 30, 2) := by decide +kernel
theorem d_RT_call_31 : decode b_RT_call 31 = .ok (.if_icmp .ne 13, 3) := by decide +kernel
theorem d_RT_call_34 : decode b_RT_call 34 = .ok (.new 98, 3) := by decide +kernel
theorem d_RT_call_37 : decode b_RT_call 37 = .ok (.dup, 1) := by decide +kernel
theorem d_RT_call_38 : decode b_RT_call 38 = .ok (.ldc 100, 2) := by decide +kernel
theorem d_RT_call_40 : decode b_RT_call 40 = .ok (.invokespecial 102, 3) := by decide +kernel
theorem d_RT_call_43 : decode b_RT_call 43 = .ok (.athrow, 1) := by decide +kernel
theorem d_RT_call_44 : decode b_RT_call 44 = .ok (.aload_n 0, 1) := by decide +kernel
theorem d_RT_call_45 : decode b_RT_call 45 = .ok (.getfield 41, 3) := by decide +kernel
theorem d_RT_call_48 : decode b_RT_call 48 = .ok (.aload_n 0, 1) := by decide +kernel
theorem d_RT_call_49 : decode b_RT_call 49 = .ok (.getfield 50, 3) := by decide +kernel
theorem d_RT_call_52 : decode b_RT_call 52 = .ok (.iload_n 1, 1) := by decide +kernel
theorem d_RT_call_53 : decode b_RT_call 53 = .ok (.iastore, 1) := by decide +kernel
theorem d_RT_call_54 : decode b_RT_call 54 = .ok (.aload_n 0, 1) := by decide +kernel
theorem d_RT_call_55 : decode b_RT_call 55 = .ok (.dup, 1) := by decide +kernel
theorem d_RT_call_56 : decode b_RT_call 56 = .ok (.getfield 50, 3) := by decide +kernel
theorem d_RT_call_59 : decode b_RT_call 59 = .ok (.iconst 1, 1) := by decide +kernel
theorem d_RT_call_60 : decode b_RT_call 60 = .ok (.iadd, 1) := by decide +kernel
theorem d_RT_call_61 : decode b_RT_call 61 = .ok (.putfield 50, 3) := by decide +kernel
theorem d_RT_call_64 : decode b_RT_call 64 = .ok (.aload_n 0, 1) := by decide +kernel
theorem d_RT_call_65 : decode b_RT_call 65 = .ok (.getfield 50, 3) := by decide +kernel
theorem d_RT_call_68 : decode b_RT_call 68 = .ok (.ireturn, 1) := by decide +kernel
theorem d_RT_change_0 : decode b_RT_change 0 = .ok (.iload_n 1, 1) := by decide +kernel
theorem d_RT_change_1 : decode b_RT_change 1 = .ok (.ifCond .lt 22, 3) := by decide +kernel
theorem d_RT_change_4 : decode b_RT_change 4 = .ok (.iload_n 1, 1) := by decide +kernel
theorem d_RT_change_5 : decode b_RT_change 5 = .ok (.aload_n 0, 1) := by decide +kernel
theorem d_RT_change_6 : decode b_RT_change 6 = .ok (.getfield 50, 3) := by decide +kernel
theorem d_RT_change_9 : decode b_RT_change 9 = .ok (.if_icmp .ge 14, 3) := by decide +kernel
theorem d_RT_change_12 : decode b_RT_change 12 = .ok (.aload_n 0, 1) := by decide +kernel
theorem d_RT_change_13 : decode b_RT_change 13 = .ok (.getfield 19, 3) := by decide +kernel
theorem d_RT_change_16 : decode b_RT_change 16 = .ok (.iload_n 2, 1) := by decide +kernel
theorem d_RT_change_17 : decode b_RT_change 17 = .ok (.invokevirtual 88, 3) := by decide +kernel
theorem d_RT_change_20 : decode b_RT_change 20 = .ok (.ifCond .ne 5, 3) := by decide +kernel
theorem d_RT_change_23 : decode b_RT_change 23 = .ok (.iconst 0, 1) := by decide +kernel
theorem d_RT_change_24 : decode b_RT_change 24 = .ok (.ireturn, 1) := by decide +kernel
theorem d_RT_change_25 : decode b_RT_change 25 = .ok (.aload_n 0, 1) := by decide +kernel
theorem d_RT_change_26 : decode b_RT_change 26 = .ok (.getfield 41, 3) := by decide +kernel
theorem d_RT_change_29 : decode b_RT_change 29 = .ok (.iload_n 1, 1) := by decide +kernel
theorem d_RT_change_30 : decode b_RT_change 30 = .ok (.iload_n 2, 1) := by decide +kernel
theorem d_RT_change_31 : decode b_RT_change 31 = .ok (.iastore, 1) := by decide +kernel
theorem d_RT_change_32 : decode b_RT_change 32 = .ok (.iconst 1, 1) := by decide +kernel
theorem d_RT_change_33 : decode b_RT_change 33 = .ok (.ireturn, 1) := by decide +kernel
theorem d_RT_keep_0 : decode b_RT_keep 0 = .ok (.iload_n 1, 1) := by decide +kernel
theorem d_RT_keep_1 : decode b_RT_keep 1 = .ok (.ifCond .lt 11, 3) := by decide +kernel
theorem d_RT_keep_4 : decode b_RT_keep 4 = .ok (.iload_n 1, 1) := by decide +kernel
theorem d_RT_keep_5 : decode b_RT_keep 5 = .ok (.aload_n 0, 1) := by decide +kernel
theorem d_RT_keep_6 : decode b_RT_keep 6 = .ok (.getfield 50, 3) := by decide +kernel
theorem d_RT_keep_9 : decode b_RT_keep 9 = .ok (.if_icmp .le 5, 3) := by decide +kernel
theorem d_RT_keep_12 : decode b_RT_keep 12 = .ok (.iconst 0, 1) := by decide +kernel
theorem d_RT_keep_13 : decode b_RT_keep 13 = .ok (.ireturn, 1) := by decide +kernel
theorem d_RT_keep_14 : decode b_RT_keep 14 = .ok (.aload_n 0, 1) := by decide +kernel
theorem d_RT_keep_15 : decode b_RT_keep 15 = .ok (.iload_n 1, 1) := by decide +kernel
theorem d_RT_keep_16 : decode b_RT_keep 16 = .ok (.putfield 50, 3) := by decide +kernel
theorem d_RT_keep_19 : decode b_RT_keep 19 = .ok (.iconst 1, 1) := by decide +kernel
theorem d_RT_keep_20 : decode b_RT_keep 20 = .ok (.ireturn, 1) := by decide +kernel
theorem d_RT_calls_0 : decode b_RT_calls 0 = .ok (.aload_n 0, 1) := by decide +kernel
theorem d_RT_calls_1 : decode b_RT_calls 1 = .ok (.getfield 50, 3) := by decide +kernel
theorem d_RT_calls_4 : decode b_RT_calls 4 = .ok (.ireturn, 1) := by decide +kernel
theorem d_RT_callAt_0 : decode b_RT_callAt 0 = .ok (.iload_n 1, 1) := by decide +kernel
theorem d_RT_callAt_1 : decode b_RT_callAt 1 = .ok (.ifCond .lt 11, 3) := by decide +kernel
theorem d_RT_callAt_4 : decode b_RT_callAt 4 = .ok (.iload_n 1, 1) := by decide +kernel
theorem d_RT_callAt_5 : decode b_RT_callAt 5 = .ok (.aload_n 0, 1) := by decide +kernel
theorem d_RT_callAt_6 : decode b_RT_callAt 6 = .ok (.getfield 50, 3) := by decide +kernel
theorem d_RT_callAt_9 : decode b_RT_callAt 9 = .ok (.if_icmp .lt 7, 3) := by decide +kernel
theorem d_RT_callAt_12 : decode b_RT_callAt 12 = .ok (.iconst (-1), 1) := by decide +kernel
theorem d_RT_callAt_13 : decode b_RT_callAt 13 = .ok (.goto 9, 3) := by decide +kernel
theorem d_RT_callAt_16 : decode b_RT_callAt 16 = .ok (.aload_n 0, 1) := by decide +kernel
theorem d_RT_callAt_17 : decode b_RT_callAt 17 = .ok (.getfield 41, 3) := by decide +kernel
theorem d_RT_callAt_20 : decode b_RT_callAt 20 = .ok (.iload_n 1, 1) := by decide +kernel
theorem d_RT_callAt_21 : decode b_RT_callAt 21 = .ok (.iaload, 1) := by decide +kernel
theorem d_RT_callAt_22 : decode b_RT_callAt 22 = .ok (.ireturn, 1) := by decide +kernel
theorem d_RT_prove_0 : decode b_RT_prove 0 = .ok (.aload_n 0, 1) := by decide +kernel
theorem d_RT_prove_1 : decode b_RT_prove 1 = .ok (.getfield 28, 3) := by decide +kernel
theorem d_RT_prove_4 : decode b_RT_prove 4 = .ok (.invokevirtual 103, 3) := by decide +kernel
theorem d_RT_prove_7 : decode b_RT_prove 7 = .ok (.iconst 0, 1) := by decide +kernel
theorem d_RT_prove_8 : decode b_RT_prove 8 = .ok (.istore_n 1, 1) := by decide +kernel
theorem d_RT_prove_9 : decode b_RT_prove 9 = .ok (.iload_n 1, 1) := by decide +kernel
theorem d_RT_prove_10 : decode b_RT_prove 10 = .ok (.aload_n 0, 1) := by decide +kernel
theorem d_RT_prove_11 : decode b_RT_prove 11 = .ok (.getfield 50, 3) := by decide +kernel
theorem d_RT_prove_14 : decode b_RT_prove 14 = .ok (.if_icmp .ge 48, 3) := by decide +kernel
theorem d_RT_prove_17 : decode b_RT_prove 17 = .ok (.aload_n 0, 1) := by decide +kernel
theorem d_RT_prove_18 : decode b_RT_prove 18 = .ok (.getfield 28, 3) := by decide +kernel
theorem d_RT_prove_21 : decode b_RT_prove 21 = .ok (.aload_n 0, 1) := by decide +kernel
theorem d_RT_prove_22 : decode b_RT_prove 22 = .ok (.getfield 41, 3) := by decide +kernel
theorem d_RT_prove_25 : decode b_RT_prove 25 = .ok (.iload_n 1, 1) := by decide +kernel
theorem d_RT_prove_26 : decode b_RT_prove 26 = .ok (.iaload, 1) := by decide +kernel
theorem d_RT_prove_27 : decode b_RT_prove 27 = .ok (.invokevirtual 106, 3) := by decide +kernel
theorem d_RT_prove_30 : decode b_RT_prove 30 = .ok (.istore_n 2, 1) := by decide +kernel
theorem d_RT_prove_31 : decode b_RT_prove 31 = .ok (.iload_n 2, 1) := by decide +kernel
theorem d_RT_prove_32 : decode b_RT_prove 32 = .ok (.ifCond .eq 24, 3) := by decide +kernel
theorem d_RT_prove_35 : decode b_RT_prove 35 = .ok (.aload_n 0, 1) := by decide +kernel
theorem d_RT_prove_36 : decode b_RT_prove 36 = .ok (.getfield 28, 3) := by decide +kernel
theorem d_RT_prove_39 : decode b_RT_prove 39 = .ok (.iload_n 2, 1) := by decide +kernel
theorem d_RT_prove_40 : decode b_RT_prove 40 = .ok (.aload_n 0, 1) := by decide +kernel
theorem d_RT_prove_41 : decode b_RT_prove 41 = .ok (.getfield 50, 3) := by decide +kernel
theorem d_RT_prove_44 : decode b_RT_prove 44 = .ok (.invokevirtual 110, 3) := by decide +kernel
theorem d_RT_prove_47 : decode b_RT_prove 47 = .ok (.ifCond .eq 7, 3) := by decide +kernel
theorem d_RT_prove_50 : decode b_RT_prove 50 = .ok (.iconst 0, 1) := by decide +kernel
theorem d_RT_prove_51 : decode b_RT_prove 51 = .ok (.goto 4, 3) := by decide +kernel
theorem d_RT_prove_54 : decode b_RT_prove 54 = .ok (.iload_n 2, 1) := by decide +kernel
theorem d_RT_prove_55 : decode b_RT_prove 55 = .ok (.ireturn, 1) := by decide +kernel
theorem d_RT_prove_56 : decode b_RT_prove 56 = .ok (.iinc 1 1, 3) := by decide +kernel
theorem d_RT_prove_59 : decode b_RT_prove 59 = .ok (.goto (-50), 3) := by decide +kernel
theorem d_RT_prove_62 : decode b_RT_prove 62 = .ok (.aload_n 0, 1) := by decide +kernel
theorem d_RT_prove_63 : decode b_RT_prove 63 = .ok (.getfield 50, 3) := by decide +kernel
theorem d_RT_prove_66 : decode b_RT_prove 66 = .ok (.ifCond .ne 7, 3) := by decide +kernel
theorem d_RT_prove_69 : decode b_RT_prove 69 = .ok (.iconst 0, 1) := by decide +kernel
theorem d_RT_prove_70 : decode b_RT_prove 70 = .ok (.goto 4, 3) := by decide +kernel
theorem d_RT_prove_73 : decode b_RT_prove 73 = .ok (.iconst (-1), 1) := by decide +kernel
theorem d_RT_prove_74 : decode b_RT_prove 74 = .ok (.ireturn, 1) := by decide +kernel
theorem d_RT_rows_0 : decode b_RT_rows 0 = .ok (.aload_n 0, 1) := by decide +kernel
theorem d_RT_rows_1 : decode b_RT_rows 1 = .ok (.getfield 50, 3) := by decide +kernel
theorem d_RT_rows_4 : decode b_RT_rows 4 = .ok (.aload_n 0, 1) := by decide +kernel
theorem d_RT_rows_5 : decode b_RT_rows 5 = .ok (.getfield 19, 3) := by decide +kernel
theorem d_RT_rows_8 : decode b_RT_rows 8 = .ok (.invokevirtual 114, 3) := by decide +kernel
theorem d_RT_rows_11 : decode b_RT_rows 11 = .ok (.imul, 1) := by decide +kernel
theorem d_RT_rows_12 : decode b_RT_rows 12 = .ok (.ireturn, 1) := by decide +kernel
theorem d_RT_bell_0 : decode b_RT_bell 0 = .ok (.iload_n 1, 1) := by decide +kernel
theorem d_RT_bell_1 : decode b_RT_bell 1 = .ok (.ifCond .lt 19, 3) := by decide +kernel
theorem d_RT_bell_4 : decode b_RT_bell 4 = .ok (.iload_n 1, 1) := by decide +kernel
theorem d_RT_bell_5 : decode b_RT_bell 5 = .ok (.aload_n 0, 1) := by decide +kernel
theorem d_RT_bell_6 : decode b_RT_bell 6 = .ok (.invokevirtual 118, 3) := by decide +kernel
theorem d_RT_bell_9 : decode b_RT_bell 9 = .ok (.if_icmp .gt 11, 3) := by decide +kernel
theorem d_RT_bell_12 : decode b_RT_bell 12 = .ok (.aload_n 0, 1) := by decide +kernel
theorem d_RT_bell_13 : decode b_RT_bell 13 = .ok (.iload_n 2, 1) := by decide +kernel
theorem d_RT_bell_14 : decode b_RT_bell 14 = .ok (.invokevirtual 121, 3) := by decide +kernel
theorem d_RT_bell_17 : decode b_RT_bell 17 = .ok (.ifCond .ne 5, 3) := by decide +kernel
theorem d_RT_bell_20 : decode b_RT_bell 20 = .ok (.iconst (-1), 1) := by decide +kernel
theorem d_RT_bell_21 : decode b_RT_bell 21 = .ok (.ireturn, 1) := by decide +kernel
theorem d_RT_bell_22 : decode b_RT_bell 22 = .ok (.aload_n 0, 1) := by decide +kernel
theorem d_RT_bell_23 : decode b_RT_bell 23 = .ok (.iload_n 1, 1) := by decide +kernel
theorem d_RT_bell_24 : decode b_RT_bell 24 = .ok (.invokevirtual 124, 3) := by decide +kernel
theorem d_RT_bell_27 : decode b_RT_bell 27 = .ok (.aload_n 0, 1) := by decide +kernel
theorem d_RT_bell_28 : decode b_RT_bell 28 = .ok (.getfield 10, 3) := by decide +kernel
theorem d_RT_bell_31 : decode b_RT_bell 31 = .ok (.iload_n 2, 1) := by decide +kernel
theorem d_RT_bell_32 : decode b_RT_bell 32 = .ok (.invokevirtual 127, 3) := by decide +kernel
theorem d_RT_bell_35 : decode b_RT_bell 35 = .ok (.ireturn, 1) := by decide +kernel
theorem d_RT_rank_0 : decode b_RT_rank 0 = .ok (.iload_n 1, 1) := by decide +kernel
theorem d_RT_rank_1 : decode b_RT_rank 1 = .ok (.ifCond .lt 11, 3) := by decide +kernel
theorem d_RT_rank_4 : decode b_RT_rank 4 = .ok (.iload_n 1, 1) := by decide +kernel
theorem d_RT_rank_5 : decode b_RT_rank 5 = .ok (.aload_n 0, 1) := by decide +kernel
theorem d_RT_rank_6 : decode b_RT_rank 6 = .ok (.invokevirtual 118, 3) := by decide +kernel
theorem d_RT_rank_9 : decode b_RT_rank 9 = .ok (.if_icmp .le 5, 3) := by decide +kernel
theorem d_RT_rank_12 : decode b_RT_rank 12 = .ok (.iconst (-1), 1) := by decide +kernel
theorem d_RT_rank_13 : decode b_RT_rank 13 = .ok (.ireturn, 1) := by decide +kernel
theorem d_RT_rank_14 : decode b_RT_rank 14 = .ok (.aload_n 0, 1) := by decide +kernel
theorem d_RT_rank_15 : decode b_RT_rank 15 = .ok (.iload_n 1, 1) := by decide +kernel
theorem d_RT_rank_16 : decode b_RT_rank 16 = .ok (.invokevirtual 124, 3) := by decide +kernel
theorem d_RT_rank_19 : decode b_RT_rank 19 = .ok (.aload_n 0, 1) := by decide +kernel
theorem d_RT_rank_20 : decode b_RT_rank 20 = .ok (.getfield 10, 3) := by decide +kernel
theorem d_RT_rank_23 : decode b_RT_rank 23 = .ok (.invokevirtual 130, 3) := by decide +kernel
theorem d_RT_rank_26 : decode b_RT_rank 26 = .ok (.ireturn, 1) := by decide +kernel
theorem d_RT_unrank_0 : decode b_RT_unrank 0 = .ok (.aload_n 0, 1) := by decide +kernel
theorem d_RT_unrank_1 : decode b_RT_unrank 1 = .ok (.getfield 10, 3) := by decide +kernel
theorem d_RT_unrank_4 : decode b_RT_unrank 4 = .ok (.iload_n 1, 1) := by decide +kernel
theorem d_RT_unrank_5 : decode b_RT_unrank 5 = .ok (.invokevirtual 133, 3) := by decide +kernel
theorem d_RT_unrank_8 : decode b_RT_unrank 8 = .ok (.ifCond .eq 11, 3) := by decide +kernel
theorem d_RT_unrank_11 : decode b_RT_unrank 11 = .ok (.aload_n 0, 1) := by decide +kernel
theorem d_RT_unrank_12 : decode b_RT_unrank 12 = .ok (.iload_n 2, 1) := by decide +kernel
theorem d_RT_unrank_13 : decode b_RT_unrank 13 = .ok (.invokevirtual 121, 3) := by decide +kernel
theorem d_RT_unrank_16 : decode b_RT_unrank 16 = .ok (.ifCond .ne 5, 3) := by decide +kernel
theorem d_RT_unrank_19 : decode b_RT_unrank 19 = .ok (.iconst (-1), 1) := by decide +kernel
theorem d_RT_unrank_20 : decode b_RT_unrank 20 = .ok (.ireturn, 1) := by decide +kernel
theorem d_RT_unrank_21 : decode b_RT_unrank 21 = .ok (.aload_n 0, 1) := by decide +kernel
theorem d_RT_unrank_22 : decode b_RT_unrank 22 = .ok (.getfield 10, 3) := by decide +kernel
theorem d_RT_unrank_25 : decode b_RT_unrank 25 = .ok (.iload_n 1, 1) := by decide +kernel
theorem d_RT_unrank_26 : decode b_RT_unrank 26 = .ok (.invokevirtual 136, 3) := by decide +kernel
theorem d_RT_unrank_29 : decode b_RT_unrank 29 = .ok (.aload_n 0, 1) := by decide +kernel
theorem d_RT_unrank_30 : decode b_RT_unrank 30 = .ok (.getfield 10, 3) := by decide +kernel
theorem d_RT_unrank_33 : decode b_RT_unrank 33 = .ok (.iload_n 2, 1) := by decide +kernel
theorem d_RT_unrank_34 : decode b_RT_unrank 34 = .ok (.invokevirtual 127, 3) := by decide +kernel
theorem d_RT_unrank_37 : decode b_RT_unrank 37 = .ok (.ireturn, 1) := by decide +kernel
theorem d_RT_course_0 : decode b_RT_course 0 = .ok (.aload_n 0, 1) := by decide +kernel
theorem d_RT_course_1 : decode b_RT_course 1 = .ok (.invokevirtual 85, 3) := by decide +kernel
theorem d_RT_course_4 : decode b_RT_course 4 = .ok (.aload_n 0, 1) := by decide +kernel
theorem d_RT_course_5 : decode b_RT_course 5 = .ok (.getfield 28, 3) := by decide +kernel
theorem d_RT_course_8 : decode b_RT_course 8 = .ok (.invokevirtual 139, 3) := by decide +kernel
theorem d_RT_course_11 : decode b_RT_course 11 = .ok (.ireturn, 1) := by decide +kernel
theorem d_RT_falseLeads_0 : decode b_RT_falseLeads 0 = .ok (.aload_n 0, 1) := by decide +kernel
theorem d_RT_falseLeads_1 : decode b_RT_falseLeads 1 = .ok (.invokevirtual 85, 3) := by decide +kernel
theorem d_RT_falseLeads_4 : decode b_RT_falseLeads 4 = .ok (.aload_n 0, 1) := by decide +kernel
theorem d_RT_falseLeads_5 : decode b_RT_falseLeads 5 = .ok (.getfield 10, 3) := by decide +kernel
theorem d_RT_falseLeads_8 : decode b_RT_falseLeads 8 = .ok (.iload_n 1, 1) := by decide +kernel
theorem d_RT_falseLeads_9 : decode b_RT_falseLeads 9 = .ok (.invokevirtual 133, 3) := by decide +kernel
theorem d_RT_falseLeads_12 : decode b_RT_falseLeads 12 = .ok (.ifCond .eq 14, 3) := by decide +kernel
theorem d_RT_falseLeads_15 : decode b_RT_falseLeads 15 = .ok (.aload_n 0, 1) := by decide +kernel
theorem d_RT_falseLeads_16 : decode b_RT_falseLeads 16 = .ok (.getfield 10, 3) := by decide +kernel
theorem d_RT_falseLeads_19 : decode b_RT_falseLeads 19 = .ok (.iload_n 2, 1) := by decide +kernel
theorem d_RT_falseLeads_20 : decode b_RT_falseLeads 20 = .ok (.invokevirtual 133, 3) := by decide +kernel
theorem d_RT_falseLeads_23 : decode b_RT_falseLeads 23 = .ok (.ifCond .ne 13, 3) := by decide +kernel
theorem d_RT_falseLeads_26 : decode b_RT_falseLeads 26 = .ok (.new 91, 3) := by decide +kernel
theorem d_RT_falseLeads_29 : decode b_RT_falseLeads 29 = .ok (.dup, 1) := by decide +kernel
theorem d_RT_falseLeads_30 : decode b_RT_falseLeads 30 = .ok (.ldc 142, 2) := by decide +kernel
theorem d_RT_falseLeads_32 : decode b_RT_falseLeads 32 = .ok (.invokespecial 95, 3) := by decide +kernel
theorem d_RT_falseLeads_35 : decode b_RT_falseLeads 35 = .ok (.athrow, 1) := by decide +kernel
theorem d_RT_falseLeads_36 : decode b_RT_falseLeads 36 = .ok (.aload_n 0, 1) := by decide +kernel
theorem d_RT_falseLeads_37 : decode b_RT_falseLeads 37 = .ok (.getfield 28, 3) := by decide +kernel
theorem d_RT_falseLeads_40 : decode b_RT_falseLeads 40 = .ok (.iload_n 1, 1) := by decide +kernel
theorem d_RT_falseLeads_41 : decode b_RT_falseLeads 41 = .ok (.iload_n 2, 1) := by decide +kernel
theorem d_RT_falseLeads_42 : decode b_RT_falseLeads 42 = .ok (.invokevirtual 144, 3) := by decide +kernel
theorem d_RT_falseLeads_45 : decode b_RT_falseLeads 45 = .ok (.ireturn, 1) := by decide +kernel
theorem d_RT_search_0 : decode b_RT_search 0 = .ok (.aload_n 0, 1) := by decide +kernel
theorem d_RT_search_1 : decode b_RT_search 1 = .ok (.invokevirtual 85, 3) := by decide +kernel
theorem d_RT_search_4 : decode b_RT_search 4 = .ok (.iload_n 1, 1) := by decide +kernel
theorem d_RT_search_5 : decode b_RT_search 5 = .ok (.iload_n 2, 1) := by decide +kernel
theorem d_RT_search_6 : decode b_RT_search 6 = .ok (.iload_n 3, 1) := by decide +kernel
theorem d_RT_search_7 : decode b_RT_search 7 = .ok (.invokestatic 147, 3) := by decide +kernel
theorem d_RT_search_10 : decode b_RT_search 10 = .ok (.aload_n 0, 1) := by decide +kernel
theorem d_RT_search_11 : decode b_RT_search 11 = .ok (.getfield 37, 3) := by decide +kernel
theorem d_RT_search_14 : decode b_RT_search 14 = .ok (.iload_n 1, 1) := by decide +kernel
theorem d_RT_search_15 : decode b_RT_search 15 = .ok (.iload_n 2, 1) := by decide +kernel
theorem d_RT_search_16 : decode b_RT_search 16 = .ok (.iload_n 3, 1) := by decide +kernel
theorem d_RT_search_17 : decode b_RT_search 17 = .ok (.invokevirtual 151, 3) := by decide +kernel
theorem d_RT_search_20 : decode b_RT_search 20 = .ok (.aload_n 0, 1) := by decide +kernel
theorem d_RT_search_21 : decode b_RT_search 21 = .ok (.getfield 37, 3) := by decide +kernel
theorem d_RT_search_24 : decode b_RT_search 24 = .ok (.invokevirtual 154, 3) := by decide +kernel
theorem d_RT_search_27 : decode b_RT_search 27 = .ok (.ifCond .le 20, 3) := by decide +kernel
theorem d_RT_search_30 : decode b_RT_search 30 = .ok (.aload_n 0, 1) := by decide +kernel
theorem d_RT_search_31 : decode b_RT_search 31 = .ok (.aload_n 0, 1) := by decide +kernel
theorem d_RT_search_32 : decode b_RT_search 32 = .ok (.getfield 37, 3) := by decide +kernel
theorem d_RT_search_35 : decode b_RT_search 35 = .ok (.aload_n 0, 1) := by decide +kernel
theorem d_RT_search_36 : decode b_RT_search 36 = .ok (.getfield 41, 3) := by decide +kernel
theorem d_RT_search_39 : decode b_RT_search 39 = .ok (.invokevirtual 157, 3) := by decide +kernel
theorem d_RT_search_42 : decode b_RT_search 42 = .ok (.putfield 50, 3) := by decide +kernel
theorem d_RT_search_45 : decode b_RT_search 45 = .ok (.iconst 1, 1) := by decide +kernel
theorem d_RT_search_46 : decode b_RT_search 46 = .ok (.ireturn, 1) := by decide +kernel
theorem d_RT_search_47 : decode b_RT_search 47 = .ok (.aload_n 0, 1) := by decide +kernel
theorem d_RT_search_48 : decode b_RT_search 48 = .ok (.getfield 37, 3) := by decide +kernel
theorem d_RT_search_51 : decode b_RT_search 51 = .ok (.invokevirtual 161, 3) := by decide +kernel
theorem d_RT_search_54 : decode b_RT_search 54 = .ok (.ifCond .eq 7, 3) := by decide +kernel
theorem d_RT_search_57 : decode b_RT_search 57 = .ok (.iconst 2, 1) := by decide +kernel
theorem d_RT_search_58 : decode b_RT_search 58 = .ok (.goto 4, 3) := by decide +kernel
theorem d_RT_search_61 : decode b_RT_search 61 = .ok (.iconst 0, 1) := by decide +kernel
theorem d_RT_search_62 : decode b_RT_search 62 = .ok (.ireturn, 1) := by decide +kernel
theorem d_RT_count_0 : decode b_RT_count 0 = .ok (.aload_n 0, 1) := by decide +kernel
theorem d_RT_count_1 : decode b_RT_count 1 = .ok (.invokevirtual 85, 3) := by decide +kernel
theorem d_RT_count_4 : decode b_RT_count 4 = .ok (.iload_n 1, 1) := by decide +kernel
theorem d_RT_count_5 : decode b_RT_count 5 = .ok (.iload_n 1, 1) := by decide +kernel
theorem d_RT_count_6 : decode b_RT_count 6 = .ok (.iload_n 2, 1) := by decide +kernel
theorem d_RT_count_7 : decode b_RT_count 7 = .ok (.invokestatic 147, 3) := by decide +kernel
theorem d_RT_count_10 : decode b_RT_count 10 = .ok (.aload_n 0, 1) := by decide +kernel
theorem d_RT_count_11 : decode b_RT_count 11 = .ok (.getfield 37, 3) := by decide +kernel
theorem d_RT_count_14 : decode b_RT_count 14 = .ok (.iload_n 1, 1) := by decide +kernel
theorem d_RT_count_15 : decode b_RT_count 15 = .ok (.iload_n 2, 1) := by decide +kernel
theorem d_RT_count_16 : decode b_RT_count 16 = .ok (.invokevirtual 164, 3) := by decide +kernel
theorem d_RT_count_19 : decode b_RT_count 19 = .ok (.aload_n 0, 1) := by decide +kernel
theorem d_RT_count_20 : decode b_RT_count 20 = .ok (.getfield 37, 3) := by decide +kernel
theorem d_RT_count_23 : decode b_RT_count 23 = .ok (.invokevirtual 161, 3) := by decide +kernel
theorem d_RT_count_26 : decode b_RT_count 26 = .ok (.ifCond .eq 7, 3) := by decide +kernel
theorem d_RT_count_29 : decode b_RT_count 29 = .ok (.iconst (-1), 1) := by decide +kernel
theorem d_RT_count_30 : decode b_RT_count 30 = .ok (.goto 10, 3) := by decide +kernel
theorem d_RT_count_33 : decode b_RT_count 33 = .ok (.aload_n 0, 1) := by decide +kernel
theorem d_RT_count_34 : decode b_RT_count 34 = .ok (.getfield 37, 3) := by decide +kernel
theorem d_RT_count_37 : decode b_RT_count 37 = .ok (.invokevirtual 154, 3) := by decide +kernel
theorem d_RT_count_40 : decode b_RT_count 40 = .ok (.ireturn, 1) := by decide +kernel
theorem d_RT_looked_0 : decode b_RT_looked 0 = .ok (.aload_n 0, 1) := by decide +kernel
theorem d_RT_looked_1 : decode b_RT_looked 1 = .ok (.getfield 37, 3) := by decide +kernel
theorem d_RT_looked_4 : decode b_RT_looked 4 = .ok (.invokevirtual 167, 3) := by decide +kernel
theorem d_RT_looked_7 : decode b_RT_looked 7 = .ok (.ireturn, 1) := by decide +kernel
theorem d_RT_pattern_0 : decode b_RT_pattern 0 = .ok (.iload_n 1, 1) := by decide +kernel
theorem d_RT_pattern_1 : decode b_RT_pattern 1 = .ok (.invokestatic 170, 3) := by decide +kernel
theorem d_RT_pattern_4 : decode b_RT_pattern 4 = .ok (.ifCond .eq 26, 3) := by decide +kernel
theorem d_RT_pattern_7 : decode b_RT_pattern 7 = .ok (.aload_n 0, 1) := by decide +kernel
theorem d_RT_pattern_8 : decode b_RT_pattern 8 = .ok (.iload_n 2, 1) := by decide +kernel
theorem d_RT_pattern_9 : decode b_RT_pattern 9 = .ok (.invokevirtual 121, 3) := by decide +kernel
theorem d_RT_pattern_12 : decode b_RT_pattern 12 = .ok (.ifCond .eq 18, 3) := by decide +kernel
theorem d_RT_pattern_15 : decode b_RT_pattern 15 = .ok (.iload_n 3, 1) := by decide +kernel
theorem d_RT_pattern_16 : decode b_RT_pattern 16 = .ok (.ifCond .lt 14, 3) := by decide +kernel
theorem d_RT_pattern_19 : decode b_RT_pattern 19 = .ok (.iload_n 3, 1) := by decide +kernel
theorem d_RT_pattern_20 : decode b_RT_pattern 20 = .ok (.aload_n 0, 1) := by decide +kernel
theorem d_RT_pattern_21 : decode b_RT_pattern 21 = .ok (.getfield 10, 3) := by decide +kernel
theorem d_RT_pattern_24 : decode b_RT_pattern 24 = .ok (.invokevirtual 173, 3) := by decide +kernel
theorem d_RT_pattern_27 : decode b_RT_pattern 27 = .ok (.if_icmp .le 5, 3) := by decide +kernel
theorem d_RT_pattern_30 : decode b_RT_pattern 30 = .ok (.iconst 0, 1) := by decide +kernel
theorem d_RT_pattern_31 : decode b_RT_pattern 31 = .ok (.ireturn, 1) := by decide +kernel
theorem d_RT_pattern_32 : decode b_RT_pattern 32 = .ok (.aload_n 0, 1) := by decide +kernel
theorem d_RT_pattern_33 : decode b_RT_pattern 33 = .ok (.getfield 47, 3) := by decide +kernel
theorem d_RT_pattern_36 : decode b_RT_pattern 36 = .ok (.iload_n 1, 1) := by decide +kernel
theorem d_RT_pattern_37 : decode b_RT_pattern 37 = .ok (.aaload, 1) := by decide +kernel
theorem d_RT_pattern_38 : decode b_RT_pattern 38 = .ok (.iload_n 2, 1) := by decide +kernel
theorem d_RT_pattern_39 : decode b_RT_pattern 39 = .ok (.iconst 1, 1) := by decide +kernel
theorem d_RT_pattern_40 : decode b_RT_pattern 40 = .ok (.isub, 1) := by decide +kernel
theorem d_RT_pattern_41 : decode b_RT_pattern 41 = .ok (.iload_n 3, 1) := by decide +kernel
theorem d_RT_pattern_42 : decode b_RT_pattern 42 = .ok (.iastore, 1) := by decide +kernel
theorem d_RT_pattern_43 : decode b_RT_pattern 43 = .ok (.iconst 1, 1) := by decide +kernel
theorem d_RT_pattern_44 : decode b_RT_pattern 44 = .ok (.ireturn, 1) := by decide +kernel
theorem d_RT_music_0 : decode b_RT_music 0 = .ok (.iload_n 1, 1) := by decide +kernel
theorem d_RT_music_1 : decode b_RT_music 1 = .ok (.invokestatic 170, 3) := by decide +kernel
theorem d_RT_music_4 : decode b_RT_music 4 = .ok (.ifCond .ne 5, 3) := by decide +kernel
theorem d_RT_music_7 : decode b_RT_music 7 = .ok (.iconst (-1), 1) := by decide +kernel
theorem d_RT_music_8 : decode b_RT_music 8 = .ok (.ireturn, 1) := by decide +kernel
theorem d_RT_music_9 : decode b_RT_music 9 = .ok (.iconst 0, 1) := by decide +kernel
theorem d_RT_music_10 : decode b_RT_music 10 = .ok (.istore_n 2, 1) := by decide +kernel
theorem d_RT_music_11 : decode b_RT_music 11 = .ok (.aload_n 0, 1) := by decide +kernel
theorem d_RT_music_12 : decode b_RT_music 12 = .ok (.getfield 10, 3) := by decide +kernel
theorem d_RT_music_15 : decode b_RT_music 15 = .ok (.iconst 0, 1) := by decide +kernel
theorem d_RT_music_16 : decode b_RT_music 16 = .ok (.invokevirtual 136, 3) := by decide +kernel
theorem d_RT_music_19 : decode b_RT_music 19 = .ok (.iconst 0, 1) := by decide +kernel
theorem d_RT_music_20 : decode b_RT_music 20 = .ok (.istore_n 3, 1) := by decide +kernel
theorem d_RT_music_21 : decode b_RT_music 21 = .ok (.iload_n 3, 1) := by decide +kernel
theorem d_RT_music_22 : decode b_RT_music 22 = .ok (.aload_n 0, 1) := by decide +kernel
theorem d_RT_music_23 : decode b_RT_music 23 = .ok (.getfield 50, 3) := by decide +kernel
theorem d_RT_music_26 : decode b_RT_music 26 = .ok (.if_icmp .ge 71, 3) := by decide +kernel
theorem d_RT_music_29 : decode b_RT_music 29 = .ok (.iconst 0, 1) := by decide +kernel
theorem d_RT_music_30 : decode b_RT_music 30 = .ok (.istore 4, 2) := by decide +kernel
theorem d_RT_music_32 : decode b_RT_music 32 = .ok (.iload 4, 2) := by decide +kernel
theorem d_RT_music_34 : decode b_RT_music 34 = .ok (.aload_n 0, 1) := by decide +kernel
theorem d_RT_music_35 : decode b_RT_music 35 = .ok (.getfield 19, 3) := by decide +kernel
theorem d_RT_music_38 : decode b_RT_music 38 = .ok (.invokevirtual 114, 3) := by decide +kernel
theorem d_RT_music_41 : decode b_RT_music 41 = .ok (.if_icmp .ge 50, 3) := by decide +kernel
theorem d_RT_music_44 : decode b_RT_music 44 = .ok (.aload_n 0, 1) := by decide +kernel
theorem d_RT_music_45 : decode b_RT_music 45 = .ok (.getfield 10, 3) := by decide +kernel
theorem d_RT_music_48 : decode b_RT_music 48 = .ok (.aload_n 0, 1) := by decide +kernel
theorem d_RT_music_49 : decode b_RT_music 49 = .ok (.getfield 19, 3) := by decide +kernel
theorem d_RT_music_52 : decode b_RT_music 52 = .ok (.aload_n 0, 1) := by decide +kernel
theorem d_RT_music_53 : decode b_RT_music 53 = .ok (.getfield 41, 3) := by decide +kernel
theorem d_RT_music_56 : decode b_RT_music 56 = .ok (.iload_n 3, 1) := by decide +kernel
theorem d_RT_music_57 : decode b_RT_music 57 = .ok (.iaload, 1) := by decide +kernel
theorem d_RT_music_58 : decode b_RT_music 58 = .ok (.iload 4, 2) := by decide +kernel
theorem d_RT_music_60 : decode b_RT_music 60 = .ok (.invokevirtual 176, 3) := by decide +kernel
theorem d_RT_music_63 : decode b_RT_music 63 = .ok (.invokevirtual 180, 3) := by decide +kernel
theorem d_RT_music_66 : decode b_RT_music 66 = .ok (.aload_n 0, 1) := by decide +kernel
theorem d_RT_music_67 : decode b_RT_music 67 = .ok (.getfield 10, 3) := by decide +kernel
theorem d_RT_music_70 : decode b_RT_music 70 = .ok (.aload_n 0, 1) := by decide +kernel
theorem d_RT_music_71 : decode b_RT_music 71 = .ok (.getfield 47, 3) := by decide +kernel
theorem d_RT_music_74 : decode b_RT_music 74 = .ok (.iload_n 1, 1) := by decide +kernel
theorem d_RT_music_75 : decode b_RT_music 75 = .ok (.aaload, 1) := by decide +kernel
theorem d_RT_music_76 : decode b_RT_music 76 = .ok (.invokevirtual 183, 3) := by decide +kernel
theorem d_RT_music_79 : decode b_RT_music 79 = .ok (.ifCond .eq 6, 3) := by decide +kernel
theorem d_RT_music_82 : decode b_RT_music 82 = .ok (.iinc 2 1, 3) := by decide +kernel
theorem d_RT_music_85 : decode b_RT_music 85 = .ok (.iinc 4 1, 3) := by decide +kernel
theorem d_RT_music_88 : decode b_RT_music 88 = .ok (.goto (-56), 3) := by decide +kernel
theorem d_RT_music_91 : decode b_RT_music 91 = .ok (.iinc 3 1, 3) := by decide +kernel
theorem d_RT_music_94 : decode b_RT_music 94 = .ok (.goto (-73), 3) := by decide +kernel
theorem d_RT_music_97 : decode b_RT_music 97 = .ok (.iload_n 2, 1) := by decide +kernel
theorem d_RT_music_98 : decode b_RT_music 98 = .ok (.ireturn, 1) := by decide +kernel
theorem d_RT_beginWith_0 : decode b_RT_beginWith 0 = .ok (.aload_n 0, 1) := by decide +kernel
theorem d_RT_beginWith_1 : decode b_RT_beginWith 1 = .ok (.getfield 10, 3) := by decide +kernel
theorem d_RT_beginWith_4 : decode b_RT_beginWith 4 = .ok (.iload_n 1, 1) := by decide +kernel
theorem d_RT_beginWith_5 : decode b_RT_beginWith 5 = .ok (.invokevirtual 187, 3) := by decide +kernel
theorem d_RT_beginWith_8 : decode b_RT_beginWith 8 = .ok (.aload_n 0, 1) := by decide +kernel
theorem d_RT_beginWith_9 : decode b_RT_beginWith 9 = .ok (.getfield 19, 3) := by decide +kernel
theorem d_RT_beginWith_12 : decode b_RT_beginWith 12 = .ok (.invokevirtual 190, 3) := by decide +kernel
theorem d_RT_beginWith_15 : decode b_RT_beginWith 15 = .ok (.aload_n 0, 1) := by decide +kernel
theorem d_RT_beginWith_16 : decode b_RT_beginWith 16 = .ok (.getfield 37, 3) := by decide +kernel
theorem d_RT_beginWith_19 : decode b_RT_beginWith 19 = .ok (.invokevirtual 193, 3) := by decide +kernel
theorem d_RT_beginWith_22 : decode b_RT_beginWith 22 = .ok (.aload_n 0, 1) := by decide +kernel
theorem d_RT_beginWith_23 : decode b_RT_beginWith 23 = .ok (.iconst 0, 1) := by decide +kernel
theorem d_RT_beginWith_24 : decode b_RT_beginWith 24 = .ok (.putfield 50, 3) := by decide +kernel
theorem d_RT_beginWith_27 : decode b_RT_beginWith 27 = .ok (.iconst 0, 1) := by decide +kernel
theorem d_RT_beginWith_28 : decode b_RT_beginWith 28 = .ok (.istore_n 2, 1) := by decide +kernel
theorem d_RT_beginWith_29 : decode b_RT_beginWith 29 = .ok (.iload_n 2, 1) := by decide +kernel
theorem d_RT_beginWith_30 : decode b_RT_beginWith 30 = .ok (.iconst 4, 1) := by decide +kernel
theorem d_RT_beginWith_31 : decode b_RT_beginWith 31 = .ok (.if_icmp .ge 34, 3) := by decide +kernel
theorem d_RT_beginWith_34 : decode b_RT_beginWith 34 = .ok (.iconst 1, 1) := by decide +kernel
theorem d_RT_beginWith_35 : decode b_RT_beginWith 35 = .ok (.istore_n 3, 1) := by decide +kernel
theorem d_RT_beginWith_36 : decode b_RT_beginWith 36 = .ok (.iload_n 3, 1) := by decide +kernel
theorem d_RT_beginWith_37 : decode b_RT_beginWith 37 = .ok (.bipush 6, 2) := by decide +kernel
theorem d_RT_beginWith_39 : decode b_RT_beginWith 39 = .ok (.if_icmp .gt 20, 3) := by decide +kernel
theorem d_RT_beginWith_42 : decode b_RT_beginWith 42 = .ok (.aload_n 0, 1) := by decide +kernel
theorem d_RT_beginWith_43 : decode b_RT_beginWith 43 = .ok (.getfield 47, 3) := by decide +kernel
theorem d_RT_beginWith_46 : decode b_RT_beginWith 46 = .ok (.iload_n 2, 1) := by decide +kernel
theorem d_RT_beginWith_47 : decode b_RT_beginWith 47 = .ok (.aaload, 1) := by decide +kernel
theorem d_RT_beginWith_48 : decode b_RT_beginWith 48 = .ok (.iload_n 3, 1) := by decide +kernel
theorem d_RT_beginWith_49 : decode b_RT_beginWith 49 = .ok (.iconst 1, 1) := by decide +kernel
theorem d_RT_beginWith_50 : decode b_RT_beginWith 50 = .ok (.isub, 1) := by decide +kernel
theorem d_RT_beginWith_51 : decode b_RT_beginWith 51 = .ok (.iconst 0, 1) := by decide +kernel
theorem d_RT_beginWith_52 : decode b_RT_beginWith 52 = .ok (.iastore, 1) := by decide +kernel
theorem d_RT_beginWith_53 : decode b_RT_beginWith 53 = .ok (.iinc 3 1, 3) := by decide +kernel
theorem d_RT_beginWith_56 : decode b_RT_beginWith 56 = .ok (.goto (-20), 3) := by decide +kernel
theorem d_RT_beginWith_59 : decode b_RT_beginWith 59 = .ok (.iinc 2 1, 3) := by decide +kernel
theorem d_RT_beginWith_62 : decode b_RT_beginWith 62 = .ok (.goto (-33), 3) := by decide +kernel
theorem d_RT_beginWith_65 : decode b_RT_beginWith 65 = .ok (.return_, 1) := by decide +kernel
theorem d_RT_needMethod_0 : decode b_RT_needMethod 0 = .ok (.aload_n 0, 1) := by decide +kernel
theorem d_RT_needMethod_1 : decode b_RT_needMethod 1 = .ok (.getfield 19, 3) := by decide +kernel
theorem d_RT_needMethod_4 : decode b_RT_needMethod 4 = .ok (.invokevirtual 58, 3) := by decide +kernel
theorem d_RT_needMethod_7 : decode b_RT_needMethod 7 = .ok (.ifCond .ne 13, 3) := by decide +kernel
theorem d_RT_needMethod_10 : decode b_RT_needMethod 10 = .ok (.new 194, 3) := by decide +kernel
theorem d_RT_needMethod_13 : decode b_RT_needMethod 13 = .ok (.dup, 1) := by decide +kernel
theorem d_RT_needMethod_14 : decode b_RT_needMethod 14 = .ok (.ldc 196, 2) := by decide +kernel
theorem d_RT_needMethod_16 : decode b_RT_needMethod 16 = .ok (.invokespecial 198, 3) := by decide +kernel
theorem d_RT_needMethod_19 : decode b_RT_needMethod 19 = .ok (.athrow, 1) := by decide +kernel
theorem d_RT_needMethod_20 : decode b_RT_needMethod 20 = .ok (.return_, 1) := by decide +kernel
theorem d_RT_needLimits_0 : decode b_RT_needLimits 0 = .ok (.iload_n 0, 1) := by decide +kernel
theorem d_RT_needLimits_1 : decode b_RT_needLimits 1 = .ok (.iconst 1, 1) := by decide +kernel
theorem d_RT_needLimits_2 : decode b_RT_needLimits 2 = .ok (.if_icmp .lt 15, 3) := by decide +kernel
theorem d_RT_needLimits_5 : decode b_RT_needLimits 5 = .ok (.iload_n 1, 1) := by decide +kernel
theorem d_RT_needLimits_6 : decode b_RT_needLimits 6 = .ok (.iload_n 0, 1) := by decide +kernel
theorem d_RT_needLimits_7 : decode b_RT_needLimits 7 = .ok (.if_icmp .lt 10, 3) := by decide +kernel
theorem d_RT_needLimits_10 : decode b_RT_needLimits 10 = .ok (.iload_n 1, 1) := by decide +kernel
theorem d_RT_needLimits_11 : decode b_RT_needLimits 11 = .ok (.sipush 720, 3) := by decide +kernel
theorem d_RT_needLimits_14 : decode b_RT_needLimits 14 = .ok (.if_icmp .le 13, 3) := by decide +kernel
theorem d_RT_needLimits_17 : decode b_RT_needLimits 17 = .ok (.new 91, 3) := by decide +kernel
theorem d_RT_needLimits_20 : decode b_RT_needLimits 20 = .ok (.dup, 1) := by decide +kernel
theorem d_RT_needLimits_21 : decode b_RT_needLimits 21 = .ok (.ldc 199, 2) := by decide +kernel
theorem d_RT_needLimits_23 : decode b_RT_needLimits 23 = .ok (.invokespecial 95, 3) := by decide +kernel
theorem d_RT_needLimits_26 : decode b_RT_needLimits 26 = .ok (.athrow, 1) := by decide +kernel
theorem d_RT_needLimits_27 : decode b_RT_needLimits 27 = .ok (.iload_n 2, 1) := by decide +kernel
theorem d_RT_needLimits_28 : decode b_RT_needLimits 28 = .ok (.iconst 1, 1) := by decide +kernel
theorem d_RT_needLimits_29 : decode b_RT_needLimits 29 = .ok (.if_icmp .lt 10, 3) := by decide +kernel
theorem d_RT_needLimits_32 : decode b_RT_needLimits 32 = .ok (.iload_n 2, 1) := by decide +kernel
theorem d_RT_needLimits_33 : decode b_RT_needLimits 33 = .ok (.sipush 2000, 3) := by decide +kernel
theorem d_RT_needLimits_36 : decode b_RT_needLimits 36 = .ok (.if_icmp .le 13, 3) := by decide +kernel
theorem d_RT_needLimits_39 : decode b_RT_needLimits 39 = .ok (.new 91, 3) := by decide +kernel
theorem d_RT_needLimits_42 : decode b_RT_needLimits 42 = .ok (.dup, 1) := by decide +kernel
theorem d_RT_needLimits_43 : decode b_RT_needLimits 43 = .ok (.ldc 201, 2) := by decide +kernel
theorem d_RT_needLimits_45 : decode b_RT_needLimits 45 = .ok (.invokespecial 95, 3) := by decide +kernel
theorem d_RT_needLimits_48 : decode b_RT_needLimits 48 = .ok (.athrow, 1) := by decide +kernel
theorem d_RT_needLimits_49 : decode b_RT_needLimits 49 = .ok (.return_, 1) := by decide +kernel
theorem d_RT_hasPlace_0 : decode b_RT_hasPlace 0 = .ok (.iload_n 1, 1) := by decide +kernel
theorem d_RT_hasPlace_1 : decode b_RT_hasPlace 1 = .ok (.iconst 1, 1) := by decide +kernel
theorem d_RT_hasPlace_2 : decode b_RT_hasPlace 2 = .ok (.if_icmp .lt 18, 3) := by decide +kernel
theorem d_RT_hasPlace_5 : decode b_RT_hasPlace 5 = .ok (.iload_n 1, 1) := by decide +kernel
theorem d_RT_hasPlace_6 : decode b_RT_hasPlace 6 = .ok (.aload_n 0, 1) := by decide +kernel
theorem d_RT_hasPlace_7 : decode b_RT_hasPlace 7 = .ok (.getfield 10, 3) := by decide +kernel
theorem d_RT_hasPlace_10 : decode b_RT_hasPlace 10 = .ok (.invokevirtual 173, 3) := by decide +kernel
theorem d_RT_hasPlace_13 : decode b_RT_hasPlace 13 = .ok (.if_icmp .gt 7, 3) := by decide +kernel
theorem d_RT_hasPlace_16 : decode b_RT_hasPlace 16 = .ok (.iconst 1, 1) := by decide +kernel
theorem d_RT_hasPlace_17 : decode b_RT_hasPlace 17 = .ok (.goto 4, 3) := by decide +kernel
theorem d_RT_hasPlace_20 : decode b_RT_hasPlace 20 = .ok (.iconst 0, 1) := by decide +kernel
theorem d_RT_hasPlace_21 : decode b_RT_hasPlace 21 = .ok (.ireturn, 1) := by decide +kernel
theorem d_RT_hasPattern_0 : decode b_RT_hasPattern 0 = .ok (.iload_n 0, 1) := by decide +kernel
theorem d_RT_hasPattern_1 : decode b_RT_hasPattern 1 = .ok (.ifCond .lt 12, 3) := by decide +kernel
theorem d_RT_hasPattern_4 : decode b_RT_hasPattern 4 = .ok (.iload_n 0, 1) := by decide +kernel
theorem d_RT_hasPattern_5 : decode b_RT_hasPattern 5 = .ok (.iconst 4, 1) := by decide +kernel
theorem d_RT_hasPattern_6 : decode b_RT_hasPattern 6 = .ok (.if_icmp .ge 7, 3) := by decide +kernel
theorem d_RT_hasPattern_9 : decode b_RT_hasPattern 9 = .ok (.iconst 1, 1) := by decide +kernel
theorem d_RT_hasPattern_10 : decode b_RT_hasPattern 10 = .ok (.goto 4, 3) := by decide +kernel
theorem d_RT_hasPattern_13 : decode b_RT_hasPattern 13 = .ok (.iconst 0, 1) := by decide +kernel
theorem d_RT_hasPattern_14 : decode b_RT_hasPattern 14 = .ok (.ireturn, 1) := by decide +kernel
theorem d_RT_isGood_0 : decode b_RT_isGood 0 = .ok (.iload_n 1, 1) := by decide +kernel
theorem d_RT_isGood_1 : decode b_RT_isGood 1 = .ok (.ifCond .lt 16, 3) := by decide +kernel
theorem d_RT_isGood_4 : decode b_RT_isGood 4 = .ok (.iload_n 1, 1) := by decide +kernel
theorem d_RT_isGood_5 : decode b_RT_isGood 5 = .ok (.iconst 1, 1) := by decide +kernel
theorem d_RT_isGood_6 : decode b_RT_isGood 6 = .ok (.aload_n 0, 1) := by decide +kernel
theorem d_RT_isGood_7 : decode b_RT_isGood 7 = .ok (.getfield 10, 3) := by decide +kernel
theorem d_RT_isGood_10 : decode b_RT_isGood 10 = .ok (.invokevirtual 173, 3) := by decide +kernel
theorem d_RT_isGood_13 : decode b_RT_isGood 13 = .ok (.ishl, 1) := by decide +kernel
theorem d_RT_isGood_14 : decode b_RT_isGood 14 = .ok (.if_icmp .lt 5, 3) := by decide +kernel
theorem d_RT_isGood_17 : decode b_RT_isGood 17 = .ok (.iconst 0, 1) := by decide +kernel
theorem d_RT_isGood_18 : decode b_RT_isGood 18 = .ok (.ireturn, 1) := by decide +kernel
theorem d_RT_isGood_19 : decode b_RT_isGood 19 = .ok (.iconst 0, 1) := by decide +kernel
theorem d_RT_isGood_20 : decode b_RT_isGood 20 = .ok (.istore_n 2, 1) := by decide +kernel
theorem d_RT_isGood_21 : decode b_RT_isGood 21 = .ok (.iconst 1, 1) := by decide +kernel
theorem d_RT_isGood_22 : decode b_RT_isGood 22 = .ok (.istore_n 3, 1) := by decide +kernel
theorem d_RT_isGood_23 : decode b_RT_isGood 23 = .ok (.iload_n 3, 1) := by decide +kernel
theorem d_RT_isGood_24 : decode b_RT_isGood 24 = .ok (.aload_n 0, 1) := by decide +kernel
theorem d_RT_isGood_25 : decode b_RT_isGood 25 = .ok (.getfield 10, 3) := by decide +kernel
theorem d_RT_isGood_28 : decode b_RT_isGood 28 = .ok (.invokevirtual 173, 3) := by decide +kernel
theorem d_RT_isGood_31 : decode b_RT_isGood 31 = .ok (.if_icmp .gt 33, 3) := by decide +kernel
theorem d_RT_isGood_34 : decode b_RT_isGood 34 = .ok (.iload_n 1, 1) := by decide +kernel
theorem d_RT_isGood_35 : decode b_RT_isGood 35 = .ok (.iload_n 3, 1) := by decide +kernel
theorem d_RT_isGood_36 : decode b_RT_isGood 36 = .ok (.invokestatic 203, 3) := by decide +kernel
theorem d_RT_isGood_39 : decode b_RT_isGood 39 = .ok (.ifCond .ne 9, 3) := by decide +kernel
theorem d_RT_isGood_42 : decode b_RT_isGood 42 = .ok (.iinc 2 1, 3) := by decide +kernel
theorem d_RT_isGood_45 : decode b_RT_isGood 45 = .ok (.goto 13, 3) := by decide +kernel
theorem d_RT_isGood_48 : decode b_RT_isGood 48 = .ok (.iload_n 2, 1) := by decide +kernel
theorem d_RT_isGood_49 : decode b_RT_isGood 49 = .ok (.iconst 2, 1) := by decide +kernel
theorem d_RT_isGood_50 : decode b_RT_isGood 50 = .ok (.irem, 1) := by decide +kernel
theorem d_RT_isGood_51 : decode b_RT_isGood 51 = .ok (.ifCond .eq 5, 3) := by decide +kernel
theorem d_RT_isGood_54 : decode b_RT_isGood 54 = .ok (.iconst 0, 1) := by decide +kernel
theorem d_RT_isGood_55 : decode b_RT_isGood 55 = .ok (.ireturn, 1) := by decide +kernel
theorem d_RT_isGood_56 : decode b_RT_isGood 56 = .ok (.iconst 0, 1) := by decide +kernel
theorem d_RT_isGood_57 : decode b_RT_isGood 57 = .ok (.istore_n 2, 1) := by decide +kernel
theorem d_RT_isGood_58 : decode b_RT_isGood 58 = .ok (.iinc 3 1, 3) := by decide +kernel
theorem d_RT_isGood_61 : decode b_RT_isGood 61 = .ok (.goto (-38), 3) := by decide +kernel
theorem d_RT_isGood_64 : decode b_RT_isGood 64 = .ok (.iload_n 2, 1) := by decide +kernel
theorem d_RT_isGood_65 : decode b_RT_isGood 65 = .ok (.iconst 2, 1) := by decide +kernel
theorem d_RT_isGood_66 : decode b_RT_isGood 66 = .ok (.irem, 1) := by decide +kernel
theorem d_RT_isGood_67 : decode b_RT_isGood 67 = .ok (.ifCond .ne 7, 3) := by decide +kernel
theorem d_RT_isGood_70 : decode b_RT_isGood 70 = .ok (.iconst 1, 1) := by decide +kernel
theorem d_RT_isGood_71 : decode b_RT_isGood 71 = .ok (.goto 4, 3) := by decide +kernel
theorem d_RT_isGood_74 : decode b_RT_isGood 74 = .ok (.iconst 0, 1) := by decide +kernel
theorem d_RT_isGood_75 : decode b_RT_isGood 75 = .ok (.ireturn, 1) := by decide +kernel
theorem d_RT_hasInMask_0 : decode b_RT_hasInMask 0 = .ok (.iload_n 0, 1) := by decide +kernel
theorem d_RT_hasInMask_1 : decode b_RT_hasInMask 1 = .ok (.iload_n 1, 1) := by decide +kernel
theorem d_RT_hasInMask_2 : decode b_RT_hasInMask 2 = .ok (.iconst 1, 1) := by decide +kernel
theorem d_RT_hasInMask_3 : decode b_RT_hasInMask 3 = .ok (.isub, 1) := by decide +kernel
theorem d_RT_hasInMask_4 : decode b_RT_hasInMask 4 = .ok (.ishr, 1) := by decide +kernel
theorem d_RT_hasInMask_5 : decode b_RT_hasInMask 5 = .ok (.iconst 1, 1) := by decide +kernel
theorem d_RT_hasInMask_6 : decode b_RT_hasInMask 6 = .ok (.iand, 1) := by decide +kernel
theorem d_RT_hasInMask_7 : decode b_RT_hasInMask 7 = .ok (.ifCond .eq 7, 3) := by decide +kernel
theorem d_RT_hasInMask_10 : decode b_RT_hasInMask 10 = .ok (.iconst 1, 1) := by decide +kernel
theorem d_RT_hasInMask_11 : decode b_RT_hasInMask 11 = .ok (.goto 4, 3) := by decide +kernel
theorem d_RT_hasInMask_14 : decode b_RT_hasInMask 14 = .ok (.iconst 0, 1) := by decide +kernel
theorem d_RT_hasInMask_15 : decode b_RT_hasInMask 15 = .ok (.ireturn, 1) := by decide +kernel
theorem d_RT_touchHas_0 : decode b_RT_touchHas 0 = .ok (.iconst 0, 1) := by decide +kernel
theorem d_RT_touchHas_1 : decode b_RT_touchHas 1 = .ok (.istore_n 2, 1) := by decide +kernel
theorem d_RT_touchHas_2 : decode b_RT_touchHas 2 = .ok (.iload_n 2, 1) := by decide +kernel
theorem d_RT_touchHas_3 : decode b_RT_touchHas 3 = .ok (.aload_n 0, 1) := by decide +kernel
theorem d_RT_touchHas_4 : decode b_RT_touchHas 4 = .ok (.getfield 50, 3) := by decide +kernel
theorem d_RT_touchHas_7 : decode b_RT_touchHas 7 = .ok (.if_icmp .ge 21, 3) := by decide +kernel
theorem d_RT_touchHas_10 : decode b_RT_touchHas 10 = .ok (.aload_n 0, 1) := by decide +kernel
theorem d_RT_touchHas_11 : decode b_RT_touchHas 11 = .ok (.getfield 41, 3) := by decide +kernel
theorem d_RT_touchHas_14 : decode b_RT_touchHas 14 = .ok (.iload_n 2, 1) := by decide +kernel
theorem d_RT_touchHas_15 : decode b_RT_touchHas 15 = .ok (.iaload, 1) := by decide +kernel
theorem d_RT_touchHas_16 : decode b_RT_touchHas 16 = .ok (.iload_n 1, 1) := by decide +kernel
theorem d_RT_touchHas_17 : decode b_RT_touchHas 17 = .ok (.if_icmp .ne 5, 3) := by decide +kernel
theorem d_RT_touchHas_20 : decode b_RT_touchHas 20 = .ok (.iconst 1, 1) := by decide +kernel
theorem d_RT_touchHas_21 : decode b_RT_touchHas 21 = .ok (.ireturn, 1) := by decide +kernel
theorem d_RT_touchHas_22 : decode b_RT_touchHas 22 = .ok (.iinc 2 1, 3) := by decide +kernel
theorem d_RT_touchHas_25 : decode b_RT_touchHas 25 = .ok (.goto (-23), 3) := by decide +kernel
theorem d_RT_touchHas_28 : decode b_RT_touchHas 28 = .ok (.iconst 0, 1) := by decide +kernel
theorem d_RT_touchHas_29 : decode b_RT_touchHas 29 = .ok (.ireturn, 1) := by decide +kernel
theorem d_RT_goToRow_0 : decode b_RT_goToRow 0 = .ok (.aload_n 0, 1) := by decide +kernel
theorem d_RT_goToRow_1 : decode b_RT_goToRow 1 = .ok (.getfield 10, 3) := by decide +kernel
theorem d_RT_goToRow_4 : decode b_RT_goToRow 4 = .ok (.iconst 0, 1) := by decide +kernel
theorem d_RT_goToRow_5 : decode b_RT_goToRow 5 = .ok (.invokevirtual 136, 3) := by decide +kernel
theorem d_RT_goToRow_8 : decode b_RT_goToRow 8 = .ok (.iconst 0, 1) := by decide +kernel
theorem d_RT_goToRow_9 : decode b_RT_goToRow 9 = .ok (.istore_n 2, 1) := by decide +kernel
theorem d_RT_goToRow_10 : decode b_RT_goToRow 10 = .ok (.iconst 0, 1) := by decide +kernel
theorem d_RT_goToRow_11 : decode b_RT_goToRow 11 = .ok (.istore_n 3, 1) := by decide +kernel
theorem d_RT_goToRow_12 : decode b_RT_goToRow 12 = .ok (.iload_n 3, 1) := by decide +kernel
theorem d_RT_goToRow_13 : decode b_RT_goToRow 13 = .ok (.aload_n 0, 1) := by decide +kernel
theorem d_RT_goToRow_14 : decode b_RT_goToRow 14 = .ok (.getfield 50, 3) := by decide +kernel
theorem d_RT_goToRow_17 : decode b_RT_goToRow 17 = .ok (.if_icmp .ge 65, 3) := by decide +kernel
theorem d_RT_goToRow_20 : decode b_RT_goToRow 20 = .ok (.iload_n 2, 1) := by decide +kernel
theorem d_RT_goToRow_21 : decode b_RT_goToRow 21 = .ok (.iload_n 1, 1) := by decide +kernel
theorem d_RT_goToRow_22 : decode b_RT_goToRow 22 = .ok (.if_icmp .ge 60, 3) := by decide +kernel
theorem d_RT_goToRow_25 : decode b_RT_goToRow 25 = .ok (.iconst 0, 1) := by decide +kernel
theorem d_RT_goToRow_26 : decode b_RT_goToRow 26 = .ok (.istore 4, 2) := by decide +kernel
theorem d_RT_goToRow_28 : decode b_RT_goToRow 28 = .ok (.iload 4, 2) := by decide +kernel
theorem d_RT_goToRow_30 : decode b_RT_goToRow 30 = .ok (.aload_n 0, 1) := by decide +kernel
theorem d_RT_goToRow_31 : decode b_RT_goToRow 31 = .ok (.getfield 19, 3) := by decide +kernel
theorem d_RT_goToRow_34 : decode b_RT_goToRow 34 = .ok (.invokevirtual 114, 3) := by decide +kernel
theorem d_RT_goToRow_37 : decode b_RT_goToRow 37 = .ok (.if_icmp .ge 39, 3) := by decide +kernel
theorem d_RT_goToRow_40 : decode b_RT_goToRow 40 = .ok (.iload_n 2, 1) := by decide +kernel
theorem d_RT_goToRow_41 : decode b_RT_goToRow 41 = .ok (.iload_n 1, 1) := by decide +kernel
theorem d_RT_goToRow_42 : decode b_RT_goToRow 42 = .ok (.if_icmp .ge 34, 3) := by decide +kernel
theorem d_RT_goToRow_45 : decode b_RT_goToRow 45 = .ok (.aload_n 0, 1) := by decide +kernel
theorem d_RT_goToRow_46 : decode b_RT_goToRow 46 = .ok (.getfield 10, 3) := by decide +kernel
theorem d_RT_goToRow_49 : decode b_RT_goToRow 49 = .ok (.aload_n 0, 1) := by decide +kernel
theorem d_RT_goToRow_50 : decode b_RT_goToRow 50 = .ok (.getfield 19, 3) := by decide +kernel
theorem d_RT_goToRow_53 : decode b_RT_goToRow 53 = .ok (.aload_n 0, 1) := by decide +kernel
theorem d_RT_goToRow_54 : decode b_RT_goToRow 54 = .ok (.getfield 41, 3) := by decide +kernel
theorem d_RT_goToRow_57 : decode b_RT_goToRow 57 = .ok (.iload_n 3, 1) := by decide +kernel
theorem d_RT_goToRow_58 : decode b_RT_goToRow 58 = .ok (.iaload, 1) := by decide +kernel
theorem d_RT_goToRow_59 : decode b_RT_goToRow 59 = .ok (.iload 4, 2) := by decide +kernel
theorem d_RT_goToRow_61 : decode b_RT_goToRow 61 = .ok (.invokevirtual 176, 3) := by decide +kernel
theorem d_RT_goToRow_64 : decode b_RT_goToRow 64 = .ok (.invokevirtual 180, 3) := by decide +kernel
theorem d_RT_goToRow_67 : decode b_RT_goToRow 67 = .ok (.iinc 2 1, 3) := by decide +kernel
theorem d_RT_goToRow_70 : decode b_RT_goToRow 70 = .ok (.iinc 4 1, 3) := by decide +kernel
theorem d_RT_goToRow_73 : decode b_RT_goToRow 73 = .ok (.goto (-45), 3) := by decide +kernel
theorem d_RT_goToRow_76 : decode b_RT_goToRow 76 = .ok (.iinc 3 1, 3) := by decide +kernel
theorem d_RT_goToRow_79 : decode b_RT_goToRow 79 = .ok (.goto (-67), 3) := by decide +kernel
theorem d_RT_goToRow_82 : decode b_RT_goToRow 82 = .ok (.return_, 1) := by decide +kernel
