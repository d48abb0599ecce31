theorem d_M_init_0 : decode b_M_init 0 = .ok (.aload_n 0, 1) := by decide +kernel
theorem d_M_init_1 : decode b_M_init 1 = .ok (.invokespecial 1, 3) := by decide +kernel
theorem d_M_init_4 : decode b_M_init 4 = .ok (.aload_n 0, 1) := by decide +kernel
theorem d_M_init_5 : decode b_M_init 5 = .ok (.bipush 6, 2) := by decide +kernel
theorem d_M_init_7 : decode b_M_init 7 = .ok (.putfield 7, 3) := by decide +kernel
theorem d_M_init_10 : decode b_M_init 10 = .ok (.aload_n 0, 1) := by decide +kernel
theorem d_M_init_11 : decode b_M_init 11 = .ok (.bipush 24, 2) := by decide +kernel
theorem d_M_init_13 : decode b_M_init 13 = .ok (.newarray .int, 2) := by decide +kernel
theorem d_M_init_15 : decode b_M_init 15 = .ok (.putfield 13, 3) := by decide +kernel
theorem d_M_init_18 : decode b_M_init 18 = .ok (.aload_n 0, 1) := by decide +kernel
theorem d_M_init_19 : decode b_M_init 19 = .ok (.bipush 24, 2) := by decide +kernel
theorem d_M_init_21 : decode b_M_init 21 = .ok (.newarray .boolean, 2) := by decide +kernel
theorem d_M_init_23 : decode b_M_init 23 = .ok (.putfield 17, 3) := by decide +kernel
theorem d_M_init_26 : decode b_M_init 26 = .ok (.aload_n 0, 1) := by decide +kernel
theorem d_M_init_27 : decode b_M_init 27 = .ok (.iconst 3, 1) := by decide +kernel
theorem d_M_init_28 : decode b_M_init 28 = .ok (.newarray .int, 2) := by decide +kernel
theorem d_M_init_30 : decode b_M_init 30 = .ok (.putfield 21, 3) := by decide +kernel
theorem d_M_init_33 : decode b_M_init 33 = .ok (.aload_n 0, 1) := by decide +kernel
theorem d_M_init_34 : decode b_M_init 34 = .ok (.iconst 3, 1) := by decide +kernel
theorem d_M_init_35 : decode b_M_init 35 = .ok (.newarray .boolean, 2) := by decide +kernel
theorem d_M_init_37 : decode b_M_init 37 = .ok (.putfield 24, 3) := by decide +kernel
theorem d_M_init_40 : decode b_M_init 40 = .ok (.aload_n 0, 1) := by decide +kernel
theorem d_M_init_41 : decode b_M_init 41 = .ok (.bipush 30, 2) := by decide +kernel
theorem d_M_init_43 : decode b_M_init 43 = .ok (.newarray .int, 2) := by decide +kernel
theorem d_M_init_45 : decode b_M_init 45 = .ok (.putfield 27, 3) := by decide +kernel
theorem d_M_init_48 : decode b_M_init 48 = .ok (.aload_n 0, 1) := by decide +kernel
theorem d_M_init_49 : decode b_M_init 49 = .ok (.bipush 24, 2) := by decide +kernel
theorem d_M_init_51 : decode b_M_init 51 = .ok (.newarray .int, 2) := by decide +kernel
theorem d_M_init_53 : decode b_M_init 53 = .ok (.putfield 30, 3) := by decide +kernel
theorem d_M_init_56 : decode b_M_init 56 = .ok (.aload_n 0, 1) := by decide +kernel
theorem d_M_init_57 : decode b_M_init 57 = .ok (.sipush 4326, 3) := by decide +kernel
theorem d_M_init_60 : decode b_M_init 60 = .ok (.newarray .int, 2) := by decide +kernel
theorem d_M_init_62 : decode b_M_init 62 = .ok (.putfield 33, 3) := by decide +kernel
theorem d_M_init_65 : decode b_M_init 65 = .ok (.aload_n 0, 1) := by decide +kernel
theorem d_M_init_66 : decode b_M_init 66 = .ok (.sipush 721, 3) := by decide +kernel
theorem d_M_init_69 : decode b_M_init 69 = .ok (.newarray .int, 2) := by decide +kernel
theorem d_M_init_71 : decode b_M_init 71 = .ok (.putfield 36, 3) := by decide +kernel
theorem d_M_init_74 : decode b_M_init 74 = .ok (.aload_n 0, 1) := by decide +kernel
theorem d_M_init_75 : decode b_M_init 75 = .ok (.bipush 31, 2) := by decide +kernel
theorem d_M_init_77 : decode b_M_init 77 = .ok (.newarray .int, 2) := by decide +kernel
theorem d_M_init_79 : decode b_M_init 79 = .ok (.putfield 39, 3) := by decide +kernel
theorem d_M_init_82 : decode b_M_init 82 = .ok (.aload_n 0, 1) := by decide +kernel
theorem d_M_init_83 : decode b_M_init 83 = .ok (.bipush 32, 2) := by decide +kernel
theorem d_M_init_85 : decode b_M_init 85 = .ok (.newarray .int, 2) := by decide +kernel
theorem d_M_init_87 : decode b_M_init 87 = .ok (.putfield 42, 3) := by decide +kernel
theorem d_M_init_90 : decode b_M_init 90 = .ok (.aload_n 0, 1) := by decide +kernel
theorem d_M_init_91 : decode b_M_init 91 = .ok (.sipush 720, 3) := by decide +kernel
theorem d_M_init_94 : decode b_M_init 94 = .ok (.newarray .int, 2) := by decide +kernel
theorem d_M_init_96 : decode b_M_init 96 = .ok (.putfield 45, 3) := by decide +kernel
theorem d_M_init_99 : decode b_M_init 99 = .ok (.return_, 1) := by decide +kernel
theorem d_M_thrown_0 : decode b_M_thrown 0 = .ok (.aload_n 0, 1) := by decide +kernel
theorem d_M_thrown_1 : decode b_M_thrown 1 = .ok (.getfield 48, 3) := by decide +kernel
theorem d_M_thrown_4 : decode b_M_thrown 4 = .ok (.ireturn, 1) := by decide +kernel
theorem d_M_isGood_0 : decode b_M_isGood 0 = .ok (.iload_n 1, 1) := by decide +kernel
theorem d_M_isGood_1 : decode b_M_isGood 1 = .ok (.ifCond .lt 13, 3) := by decide +kernel
theorem d_M_isGood_4 : decode b_M_isGood 4 = .ok (.iload_n 1, 1) := by decide +kernel
theorem d_M_isGood_5 : decode b_M_isGood 5 = .ok (.iconst 1, 1) := by decide +kernel
theorem d_M_isGood_6 : decode b_M_isGood 6 = .ok (.aload_n 0, 1) := by decide +kernel
theorem d_M_isGood_7 : decode b_M_isGood 7 = .ok (.getfield 7, 3) := by decide +kernel
theorem d_M_isGood_10 : decode b_M_isGood 10 = .ok (.ishl, 1) := by decide +kernel
theorem d_M_isGood_11 : decode b_M_isGood 11 = .ok (.if_icmp .lt 5, 3) := by decide +kernel
theorem d_M_isGood_14 : decode b_M_isGood 14 = .ok (.iconst 0, 1) := by decide +kernel
theorem d_M_isGood_15 : decode b_M_isGood 15 = .ok (.ireturn, 1) := by decide +kernel
theorem d_M_isGood_16 : decode b_M_isGood 16 = .ok (.iconst 1, 1) := by decide +kernel
theorem d_M_isGood_17 : decode b_M_isGood 17 = .ok (.istore_n 2, 1) := by decide +kernel
theorem d_M_isGood_18 : decode b_M_isGood 18 = .ok (.iconst 0, 1) := by decide +kernel
theorem d_M_isGood_19 : decode b_M_isGood 19 = .ok (.istore_n 3, 1) := by decide +kernel
theorem d_M_isGood_20 : decode b_M_isGood 20 = .ok (.iconst 0, 1) := by decide +kernel
theorem d_M_isGood_21 : decode b_M_isGood 21 = .ok (.istore 4, 2) := by decide +kernel
theorem d_M_isGood_23 : decode b_M_isGood 23 = .ok (.iload 4, 2) := by decide +kernel
theorem d_M_isGood_25 : decode b_M_isGood 25 = .ok (.aload_n 0, 1) := by decide +kernel
theorem d_M_isGood_26 : decode b_M_isGood 26 = .ok (.getfield 7, 3) := by decide +kernel
theorem d_M_isGood_29 : decode b_M_isGood 29 = .ok (.if_icmp .gt 53, 3) := by decide +kernel
theorem d_M_isGood_32 : decode b_M_isGood 32 = .ok (.iload 4, 2) := by decide +kernel
theorem d_M_isGood_34 : decode b_M_isGood 34 = .ok (.aload_n 0, 1) := by decide +kernel
theorem d_M_isGood_35 : decode b_M_isGood 35 = .ok (.getfield 7, 3) := by decide +kernel
theorem d_M_isGood_38 : decode b_M_isGood 38 = .ok (.if_icmp .eq 13, 3) := by decide +kernel
theorem d_M_isGood_41 : decode b_M_isGood 41 = .ok (.iload_n 1, 1) := by decide +kernel
theorem d_M_isGood_42 : decode b_M_isGood 42 = .ok (.iload 4, 2) := by decide +kernel
theorem d_M_isGood_44 : decode b_M_isGood 44 = .ok (.ishr, 1) := by decide +kernel
theorem d_M_isGood_45 : decode b_M_isGood 45 = .ok (.iconst 1, 1) := by decide +kernel
theorem d_M_isGood_46 : decode b_M_isGood 46 = .ok (.iand, 1) := by decide +kernel
theorem d_M_isGood_47 : decode b_M_isGood 47 = .ok (.iconst 1, 1) := by decide +kernel
theorem d_M_isGood_48 : decode b_M_isGood 48 = .ok (.if_icmp .ne 24, 3) := by decide +kernel
theorem d_M_isGood_51 : decode b_M_isGood 51 = .ok (.iload_n 2, 1) := by decide +kernel
theorem d_M_isGood_52 : decode b_M_isGood 52 = .ok (.ifCond .eq 13, 3) := by decide +kernel
theorem d_M_isGood_55 : decode b_M_isGood 55 = .ok (.iload_n 3, 1) := by decide +kernel
theorem d_M_isGood_56 : decode b_M_isGood 56 = .ok (.iconst 2, 1) := by decide +kernel
theorem d_M_isGood_57 : decode b_M_isGood 57 = .ok (.irem, 1) := by decide +kernel
theorem d_M_isGood_58 : decode b_M_isGood 58 = .ok (.ifCond .ne 7, 3) := by decide +kernel
theorem d_M_isGood_61 : decode b_M_isGood 61 = .ok (.iconst 1, 1) := by decide +kernel
theorem d_M_isGood_62 : decode b_M_isGood 62 = .ok (.goto 4, 3) := by decide +kernel
theorem d_M_isGood_65 : decode b_M_isGood 65 = .ok (.iconst 0, 1) := by decide +kernel
theorem d_M_isGood_66 : decode b_M_isGood 66 = .ok (.istore_n 2, 1) := by decide +kernel
theorem d_M_isGood_67 : decode b_M_isGood 67 = .ok (.iconst 0, 1) := by decide +kernel
theorem d_M_isGood_68 : decode b_M_isGood 68 = .ok (.istore_n 3, 1) := by decide +kernel
theorem d_M_isGood_69 : decode b_M_isGood 69 = .ok (.goto 7, 3) := by decide +kernel
theorem d_M_isGood_72 : decode b_M_isGood 72 = .ok (.iload_n 3, 1) := by decide +kernel
theorem d_M_isGood_73 : decode b_M_isGood 73 = .ok (.iconst 1, 1) := by decide +kernel
theorem d_M_isGood_74 : decode b_M_isGood 74 = .ok (.iadd, 1) := by decide +kernel
theorem d_M_isGood_75 : decode b_M_isGood 75 = .ok (.istore_n 3, 1) := by decide +kernel
theorem d_M_isGood_76 : decode b_M_isGood 76 = .ok (.iinc 4 1, 3) := by decide +kernel
theorem d_M_isGood_79 : decode b_M_isGood 79 = .ok (.goto (-56), 3) := by decide +kernel
theorem d_M_isGood_82 : decode b_M_isGood 82 = .ok (.iload_n 2, 1) := by decide +kernel
theorem d_M_isGood_83 : decode b_M_isGood 83 = .ok (.ireturn, 1) := by decide +kernel
theorem d_M_bells_0 : decode b_M_bells 0 = .ok (.aload_n 0, 1) := by decide +kernel
theorem d_M_bells_1 : decode b_M_bells 1 = .ok (.iconst 0, 1) := by decide +kernel
theorem d_M_bells_2 : decode b_M_bells 2 = .ok (.putfield 48, 3) := by decide +kernel
theorem d_M_bells_5 : decode b_M_bells 5 = .ok (.iload_n 1, 1) := by decide +kernel
theorem d_M_bells_6 : decode b_M_bells 6 = .ok (.iconst 4, 1) := by decide +kernel
theorem d_M_bells_7 : decode b_M_bells 7 = .ok (.if_icmp .lt 9, 3) := by decide +kernel
theorem d_M_bells_10 : decode b_M_bells 10 = .ok (.iload_n 1, 1) := by decide +kernel
theorem d_M_bells_11 : decode b_M_bells 11 = .ok (.bipush 6, 2) := by decide +kernel
theorem d_M_bells_13 : decode b_M_bells 13 = .ok (.if_icmp .le 5, 3) := by decide +kernel
theorem d_M_bells_16 : decode b_M_bells 16 = .ok (.iconst 0, 1) := by decide +kernel
theorem d_M_bells_17 : decode b_M_bells 17 = .ok (.ireturn, 1) := by decide +kernel
theorem d_M_bells_18 : decode b_M_bells 18 = .ok (.aload_n 0, 1) := by decide +kernel
theorem d_M_bells_19 : decode b_M_bells 19 = .ok (.iload_n 1, 1) := by decide +kernel
theorem d_M_bells_20 : decode b_M_bells 20 = .ok (.putfield 7, 3) := by decide +kernel
theorem d_M_bells_23 : decode b_M_bells 23 = .ok (.aload_n 0, 1) := by decide +kernel
theorem d_M_bells_24 : decode b_M_bells 24 = .ok (.iconst 0, 1) := by decide +kernel
theorem d_M_bells_25 : decode b_M_bells 25 = .ok (.putfield 51, 3) := by decide +kernel
theorem d_M_bells_28 : decode b_M_bells 28 = .ok (.aload_n 0, 1) := by decide +kernel
theorem d_M_bells_29 : decode b_M_bells 29 = .ok (.iconst 0, 1) := by decide +kernel
theorem d_M_bells_30 : decode b_M_bells 30 = .ok (.putfield 54, 3) := by decide +kernel
theorem d_M_bells_33 : decode b_M_bells 33 = .ok (.aload_n 0, 1) := by decide +kernel
theorem d_M_bells_34 : decode b_M_bells 34 = .ok (.iconst 0, 1) := by decide +kernel
theorem d_M_bells_35 : decode b_M_bells 35 = .ok (.putfield 57, 3) := by decide +kernel
theorem d_M_bells_38 : decode b_M_bells 38 = .ok (.iconst 0, 1) := by decide +kernel
theorem d_M_bells_39 : decode b_M_bells 39 = .ok (.istore_n 2, 1) := by decide +kernel
theorem d_M_bells_40 : decode b_M_bells 40 = .ok (.iload_n 2, 1) := by decide +kernel
theorem d_M_bells_41 : decode b_M_bells 41 = .ok (.bipush 24, 2) := by decide +kernel
theorem d_M_bells_43 : decode b_M_bells 43 = .ok (.if_icmp .ge 23, 3) := by decide +kernel
theorem d_M_bells_46 : decode b_M_bells 46 = .ok (.aload_n 0, 1) := by decide +kernel
theorem d_M_bells_47 : decode b_M_bells 47 = .ok (.getfield 17, 3) := by decide +kernel
theorem d_M_bells_50 : decode b_M_bells 50 = .ok (.iload_n 2, 1) := by decide +kernel
theorem d_M_bells_51 : decode b_M_bells 51 = .ok (.iconst 0, 1) := by decide +kernel
theorem d_M_bells_52 : decode b_M_bells 52 = .ok (.bastore, 1) := by decide +kernel
theorem d_M_bells_53 : decode b_M_bells 53 = .ok (.aload_n 0, 1) := by decide +kernel
theorem d_M_bells_54 : decode b_M_bells 54 = .ok (.getfield 30, 3) := by decide +kernel
theorem d_M_bells_57 : decode b_M_bells 57 = .ok (.iload_n 2, 1) := by decide +kernel
theorem d_M_bells_58 : decode b_M_bells 58 = .ok (.iconst 0, 1) := by decide +kernel
theorem d_M_bells_59 : decode b_M_bells 59 = .ok (.iastore, 1) := by decide +kernel
theorem d_M_bells_60 : decode b_M_bells 60 = .ok (.iinc 2 1, 3) := by decide +kernel
theorem d_M_bells_63 : decode b_M_bells 63 = .ok (.goto (-23), 3) := by decide +kernel
theorem d_M_bells_66 : decode b_M_bells 66 = .ok (.iconst 0, 1) := by decide +kernel
theorem d_M_bells_67 : decode b_M_bells 67 = .ok (.istore_n 2, 1) := by decide +kernel
theorem d_M_bells_68 : decode b_M_bells 68 = .ok (.iload_n 2, 1) := by decide +kernel
theorem d_M_bells_69 : decode b_M_bells 69 = .ok (.iconst 3, 1) := by decide +kernel
theorem d_M_bells_70 : decode b_M_bells 70 = .ok (.if_icmp .ge 16, 3) := by decide +kernel
theorem d_M_bells_73 : decode b_M_bells 73 = .ok (.aload_n 0, 1) := by decide +kernel
theorem d_M_bells_74 : decode b_M_bells 74 = .ok (.getfield 24, 3) := by decide +kernel
theorem d_M_bells_77 : decode b_M_bells 77 = .ok (.iload_n 2, 1) := by decide +kernel
theorem d_M_bells_78 : decode b_M_bells 78 = .ok (.iconst 0, 1) := by decide +kernel
theorem d_M_bells_79 : decode b_M_bells 79 = .ok (.bastore, 1) := by decide +kernel
theorem d_M_bells_80 : decode b_M_bells 80 = .ok (.iinc 2 1, 3) := by decide +kernel
theorem d_M_bells_83 : decode b_M_bells 83 = .ok (.goto (-15), 3) := by decide +kernel
theorem d_M_bells_86 : decode b_M_bells 86 = .ok (.iconst 1, 1) := by decide +kernel
theorem d_M_bells_87 : decode b_M_bells 87 = .ok (.ireturn, 1) := by decide +kernel
theorem d_M_notation_0 : decode b_M_notation 0 = .ok (.aload_n 0, 1) := by decide +kernel
theorem d_M_notation_1 : decode b_M_notation 1 = .ok (.iconst 0, 1) := by decide +kernel
theorem d_M_notation_2 : decode b_M_notation 2 = .ok (.putfield 48, 3) := by decide +kernel
theorem d_M_notation_5 : decode b_M_notation 5 = .ok (.aload_n 0, 1) := by decide +kernel
theorem d_M_notation_6 : decode b_M_notation 6 = .ok (.getfield 51, 3) := by decide +kernel
theorem d_M_notation_9 : decode b_M_notation 9 = .ok (.ifCond .gt 21, 3) := by decide +kernel
theorem d_M_notation_12 : decode b_M_notation 12 = .ok (.iload_n 1, 1) := by decide +kernel
theorem d_M_notation_13 : decode b_M_notation 13 = .ok (.ifCond .lt 17, 3) := by decide +kernel
theorem d_M_notation_16 : decode b_M_notation 16 = .ok (.iload_n 1, 1) := by decide +kernel
theorem d_M_notation_17 : decode b_M_notation 17 = .ok (.bipush 23, 2) := by decide +kernel
theorem d_M_notation_19 : decode b_M_notation 19 = .ok (.if_icmp .gt 11, 3) := by decide +kernel
theorem d_M_notation_22 : decode b_M_notation 22 = .ok (.aload_n 0, 1) := by decide +kernel
theorem d_M_notation_23 : decode b_M_notation 23 = .ok (.iload_n 2, 1) := by decide +kernel
theorem d_M_notation_24 : decode b_M_notation 24 = .ok (.invokevirtual 60, 3) := by decide +kernel
theorem d_M_notation_27 : decode b_M_notation 27 = .ok (.ifCond .ne 5, 3) := by decide +kernel
theorem d_M_notation_30 : decode b_M_notation 30 = .ok (.iconst 0, 1) := by decide +kernel
theorem d_M_notation_31 : decode b_M_notation 31 = .ok (.ireturn, 1) := by decide +kernel
theorem d_M_notation_32 : decode b_M_notation 32 = .ok (.aload_n 0, 1) := by decide +kernel
theorem d_M_notation_33 : decode b_M_notation 33 = .ok (.getfield 13, 3) := by decide +kernel
theorem d_M_notation_36 : decode b_M_notation 36 = .ok (.iload_n 1, 1) := by decide +kernel
theorem d_M_notation_37 : decode b_M_notation 37 = .ok (.iload_n 2, 1) := by decide +kernel
theorem d_M_notation_38 : decode b_M_notation 38 = .ok (.iastore, 1) := by decide +kernel
theorem d_M_notation_39 : decode b_M_notation 39 = .ok (.aload_n 0, 1) := by decide +kernel
theorem d_M_notation_40 : decode b_M_notation 40 = .ok (.getfield 17, 3) := by decide +kernel
theorem d_M_notation_43 : decode b_M_notation 43 = .ok (.iload_n 1, 1) := by decide +kernel
theorem d_M_notation_44 : decode b_M_notation 44 = .ok (.iconst 1, 1) := by decide +kernel
theorem d_M_notation_45 : decode b_M_notation 45 = .ok (.bastore, 1) := by decide +kernel
theorem d_M_notation_46 : decode b_M_notation 46 = .ok (.iconst 1, 1) := by decide +kernel
theorem d_M_notation_47 : decode b_M_notation 47 = .ok (.ireturn, 1) := by decide +kernel
theorem d_M_callNotation_0 : decode b_M_callNotation 0 = .ok (.aload_n 0, 1) := by decide +kernel
theorem d_M_callNotation_1 : decode b_M_callNotation 1 = .ok (.iconst 0, 1) := by decide +kernel
theorem d_M_callNotation_2 : decode b_M_callNotation 2 = .ok (.putfield 48, 3) := by decide +kernel
theorem d_M_callNotation_5 : decode b_M_callNotation 5 = .ok (.iload_n 1, 1) := by decide +kernel
theorem d_M_callNotation_6 : decode b_M_callNotation 6 = .ok (.iconst 1, 1) := by decide +kernel
theorem d_M_callNotation_7 : decode b_M_callNotation 7 = .ok (.if_icmp .lt 16, 3) := by decide +kernel
theorem d_M_callNotation_10 : decode b_M_callNotation 10 = .ok (.iload_n 1, 1) := by decide +kernel
theorem d_M_callNotation_11 : decode b_M_callNotation 11 = .ok (.iconst 2, 1) := by decide +kernel
theorem d_M_callNotation_12 : decode b_M_callNotation 12 = .ok (.if_icmp .gt 11, 3) := by decide +kernel
theorem d_M_callNotation_15 : decode b_M_callNotation 15 = .ok (.aload_n 0, 1) := by decide +kernel
theorem d_M_callNotation_16 : decode b_M_callNotation 16 = .ok (.iload_n 2, 1) := by decide +kernel
theorem d_M_callNotation_17 : decode b_M_callNotation 17 = .ok (.invokevirtual 60, 3) := by decide +kernel
theorem d_M_callNotation_20 : decode b_M_callNotation 20 = .ok (.ifCond .ne 5, 3) := by decide +kernel
theorem d_M_callNotation_23 : decode b_M_callNotation 23 = .ok (.iconst 0, 1) := by decide +kernel
theorem d_M_callNotation_24 : decode b_M_callNotation 24 = .ok (.ireturn, 1) := by decide +kernel
theorem d_M_callNotation_25 : decode b_M_callNotation 25 = .ok (.iconst 0, 1) := by decide +kernel
theorem d_M_callNotation_26 : decode b_M_callNotation 26 = .ok (.istore_n 3, 1) := by decide +kernel
theorem d_M_callNotation_27 : decode b_M_callNotation 27 = .ok (.iload_n 3, 1) := by decide +kernel
theorem d_M_callNotation_28 : decode b_M_callNotation 28 = .ok (.aload_n 0, 1) := by decide +kernel
theorem d_M_callNotation_29 : decode b_M_callNotation 29 = .ok (.getfield 54, 3) := by decide +kernel
theorem d_M_callNotation_32 : decode b_M_callNotation 32 = .ok (.if_icmp .ge 21, 3) := by decide +kernel
theorem d_M_callNotation_35 : decode b_M_callNotation 35 = .ok (.aload_n 0, 1) := by decide +kernel
theorem d_M_callNotation_36 : decode b_M_callNotation 36 = .ok (.getfield 27, 3) := by decide +kernel
theorem d_M_callNotation_39 : decode b_M_callNotation 39 = .ok (.iload_n 3, 1) := by decide +kernel
theorem d_M_callNotation_40 : decode b_M_callNotation 40 = .ok (.iaload, 1) := by decide +kernel
theorem d_M_callNotation_41 : decode b_M_callNotation 41 = .ok (.iload_n 1, 1) := by decide +kernel
theorem d_M_callNotation_42 : decode b_M_callNotation 42 = .ok (.if_icmp .ne 5, 3) := by decide +kernel
theorem d_M_callNotation_45 : decode b_M_callNotation 45 = .ok (.iconst 0, 1) := by decide +kernel
theorem d_M_callNotation_46 : decode b_M_callNotation 46 = .ok (.ireturn, 1) := by decide +kernel
theorem d_M_callNotation_47 : decode b_M_callNotation 47 = .ok (.iinc 3 1, 3) := by decide +kernel
theorem d_M_callNotation_50 : decode b_M_callNotation 50 = .ok (.goto (-23), 3) := by decide +kernel
theorem d_M_callNotation_53 : decode b_M_callNotation 53 = .ok (.aload_n 0, 1) := by decide +kernel
theorem d_M_callNotation_54 : decode b_M_callNotation 54 = .ok (.getfield 21, 3) := by decide +kernel
theorem d_M_callNotation_57 : decode b_M_callNotation 57 = .ok (.iload_n 1, 1) := by decide +kernel
theorem d_M_callNotation_58 : decode b_M_callNotation 58 = .ok (.iload_n 2, 1) := by decide +kernel
theorem d_M_callNotation_59 : decode b_M_callNotation 59 = .ok (.iastore, 1) := by decide +kernel
theorem d_M_callNotation_60 : decode b_M_callNotation 60 = .ok (.aload_n 0, 1) := by decide +kernel
theorem d_M_callNotation_61 : decode b_M_callNotation 61 = .ok (.getfield 24, 3) := by decide +kernel
theorem d_M_callNotation_64 : decode b_M_callNotation 64 = .ok (.iload_n 1, 1) := by decide +kernel
theorem d_M_callNotation_65 : decode b_M_callNotation 65 = .ok (.iconst 1, 1) := by decide +kernel
theorem d_M_callNotation_66 : decode b_M_callNotation 66 = .ok (.bastore, 1) := by decide +kernel
theorem d_M_callNotation_67 : decode b_M_callNotation 67 = .ok (.iconst 1, 1) := by decide +kernel
theorem d_M_callNotation_68 : decode b_M_callNotation 68 = .ok (.ireturn, 1) := by decide +kernel
theorem d_M_isCall_0 : decode b_M_isCall 0 = .ok (.iload_n 1, 1) := by decide +kernel
theorem d_M_isCall_1 : decode b_M_isCall 1 = .ok (.ifCond .eq 21, 3) := by decide +kernel
theorem d_M_isCall_4 : decode b_M_isCall 4 = .ok (.iload_n 1, 1) := by decide +kernel
theorem d_M_isCall_5 : decode b_M_isCall 5 = .ok (.ifCond .le 21, 3) := by decide +kernel
theorem d_M_isCall_8 : decode b_M_isCall 8 = .ok (.iload_n 1, 1) := by decide +kernel
theorem d_M_isCall_9 : decode b_M_isCall 9 = .ok (.iconst 3, 1) := by decide +kernel
theorem d_M_isCall_10 : decode b_M_isCall 10 = .ok (.if_icmp .ge 16, 3) := by decide +kernel
theorem d_M_isCall_13 : decode b_M_isCall 13 = .ok (.aload_n 0, 1) := by decide +kernel
theorem d_M_isCall_14 : decode b_M_isCall 14 = .ok (.getfield 24, 3) := by decide +kernel
theorem d_M_isCall_17 : decode b_M_isCall 17 = .ok (.iload_n 1, 1) := by decide +kernel
theorem d_M_isCall_18 : decode b_M_isCall 18 = .ok (.baload, 1) := by decide +kernel
theorem d_M_isCall_19 : decode b_M_isCall 19 = .ok (.ifCond .eq 7, 3) := by decide +kernel
theorem d_M_isCall_22 : decode b_M_isCall 22 = .ok (.iconst 1, 1) := by decide +kernel
theorem d_M_isCall_23 : decode b_M_isCall 23 = .ok (.goto 4, 3) := by decide +kernel
theorem d_M_isCall_26 : decode b_M_isCall 26 = .ok (.iconst 0, 1) := by decide +kernel
theorem d_M_isCall_27 : decode b_M_isCall 27 = .ok (.ireturn, 1) := by decide +kernel
theorem d_M_rounds_0 : decode b_M_rounds 0 = .ok (.iconst 0, 1) := by decide +kernel
theorem d_M_rounds_1 : decode b_M_rounds 1 = .ok (.istore_n 2, 1) := by decide +kernel
theorem d_M_rounds_2 : decode b_M_rounds 2 = .ok (.iload_n 2, 1) := by decide +kernel
theorem d_M_rounds_3 : decode b_M_rounds 3 = .ok (.aload_n 0, 1) := by decide +kernel
theorem d_M_rounds_4 : decode b_M_rounds 4 = .ok (.getfield 7, 3) := by decide +kernel
theorem d_M_rounds_7 : decode b_M_rounds 7 = .ok (.if_icmp .ge 23, 3) := by decide +kernel
theorem d_M_rounds_10 : decode b_M_rounds 10 = .ok (.aload_n 0, 1) := by decide +kernel
theorem d_M_rounds_11 : decode b_M_rounds 11 = .ok (.getfield 33, 3) := by decide +kernel
theorem d_M_rounds_14 : decode b_M_rounds 14 = .ok (.bipush 6, 2) := by decide +kernel
theorem d_M_rounds_16 : decode b_M_rounds 16 = .ok (.iload_n 1, 1) := by decide +kernel
theorem d_M_rounds_17 : decode b_M_rounds 17 = .ok (.imul, 1) := by decide +kernel
theorem d_M_rounds_18 : decode b_M_rounds 18 = .ok (.iload_n 2, 1) := by decide +kernel
theorem d_M_rounds_19 : decode b_M_rounds 19 = .ok (.iadd, 1) := by decide +kernel
theorem d_M_rounds_20 : decode b_M_rounds 20 = .ok (.iload_n 2, 1) := by decide +kernel
theorem d_M_rounds_21 : decode b_M_rounds 21 = .ok (.iconst 1, 1) := by decide +kernel
theorem d_M_rounds_22 : decode b_M_rounds 22 = .ok (.iadd, 1) := by decide +kernel
theorem d_M_rounds_23 : decode b_M_rounds 23 = .ok (.iastore, 1) := by decide +kernel
theorem d_M_rounds_24 : decode b_M_rounds 24 = .ok (.iinc 2 1, 3) := by decide +kernel
theorem d_M_rounds_27 : decode b_M_rounds 27 = .ok (.goto (-25), 3) := by decide +kernel
theorem d_M_rounds_30 : decode b_M_rounds 30 = .ok (.aload_n 0, 1) := by decide +kernel
theorem d_M_rounds_31 : decode b_M_rounds 31 = .ok (.getfield 36, 3) := by decide +kernel
theorem d_M_rounds_34 : decode b_M_rounds 34 = .ok (.iload_n 1, 1) := by decide +kernel
theorem d_M_rounds_35 : decode b_M_rounds 35 = .ok (.iconst 0, 1) := by decide +kernel
theorem d_M_rounds_36 : decode b_M_rounds 36 = .ok (.iastore, 1) := by decide +kernel
theorem d_M_rounds_37 : decode b_M_rounds 37 = .ok (.return_, 1) := by decide +kernel
theorem d_M_setRank_0 : decode b_M_setRank 0 = .ok (.iconst 0, 1) := by decide +kernel
theorem d_M_setRank_1 : decode b_M_setRank 1 = .ok (.istore_n 2, 1) := by decide +kernel
theorem d_M_setRank_2 : decode b_M_setRank 2 = .ok (.iconst 0, 1) := by decide +kernel
theorem d_M_setRank_3 : decode b_M_setRank 3 = .ok (.istore_n 3, 1) := by decide +kernel
theorem d_M_setRank_4 : decode b_M_setRank 4 = .ok (.iload_n 3, 1) := by decide +kernel
theorem d_M_setRank_5 : decode b_M_setRank 5 = .ok (.aload_n 0, 1) := by decide +kernel
theorem d_M_setRank_6 : decode b_M_setRank 6 = .ok (.getfield 7, 3) := by decide +kernel
theorem d_M_setRank_9 : decode b_M_setRank 9 = .ok (.if_icmp .ge 81, 3) := by decide +kernel
theorem d_M_setRank_12 : decode b_M_setRank 12 = .ok (.iconst 0, 1) := by decide +kernel
theorem d_M_setRank_13 : decode b_M_setRank 13 = .ok (.istore 4, 2) := by decide +kernel
theorem d_M_setRank_15 : decode b_M_setRank 15 = .ok (.iload_n 3, 1) := by decide +kernel
theorem d_M_setRank_16 : decode b_M_setRank 16 = .ok (.iconst 1, 1) := by decide +kernel
theorem d_M_setRank_17 : decode b_M_setRank 17 = .ok (.iadd, 1) := by decide +kernel
theorem d_M_setRank_18 : decode b_M_setRank 18 = .ok (.istore 5, 2) := by decide +kernel
theorem d_M_setRank_20 : decode b_M_setRank 20 = .ok (.iload 5, 2) := by decide +kernel
theorem d_M_setRank_22 : decode b_M_setRank 22 = .ok (.aload_n 0, 1) := by decide +kernel
theorem d_M_setRank_23 : decode b_M_setRank 23 = .ok (.getfield 7, 3) := by decide +kernel
theorem d_M_setRank_26 : decode b_M_setRank 26 = .ok (.if_icmp .ge 46, 3) := by decide +kernel
theorem d_M_setRank_29 : decode b_M_setRank 29 = .ok (.aload_n 0, 1) := by decide +kernel
theorem d_M_setRank_30 : decode b_M_setRank 30 = .ok (.getfield 33, 3) := by decide +kernel
theorem d_M_setRank_33 : decode b_M_setRank 33 = .ok (.bipush 6, 2) := by decide +kernel
theorem d_M_setRank_35 : decode b_M_setRank 35 = .ok (.iload_n 1, 1) := by decide +kernel
theorem d_M_setRank_36 : decode b_M_setRank 36 = .ok (.imul, 1) := by decide +kernel
theorem d_M_setRank_37 : decode b_M_setRank 37 = .ok (.iload 5, 2) := by decide +kernel
theorem d_M_setRank_39 : decode b_M_setRank 39 = .ok (.iadd, 1) := by decide +kernel
theorem d_M_setRank_40 : decode b_M_setRank 40 = .ok (.iaload, 1) := by decide +kernel
theorem d_M_setRank_41 : decode b_M_setRank 41 = .ok (.aload_n 0, 1) := by decide +kernel
theorem d_M_setRank_42 : decode b_M_setRank 42 = .ok (.getfield 33, 3) := by decide +kernel
theorem d_M_setRank_45 : decode b_M_setRank 45 = .ok (.bipush 6, 2) := by decide +kernel
theorem d_M_setRank_47 : decode b_M_setRank 47 = .ok (.iload_n 1, 1) := by decide +kernel
theorem d_M_setRank_48 : decode b_M_setRank 48 = .ok (.imul, 1) := by decide +kernel
theorem d_M_setRank_49 : decode b_M_setRank 49 = .ok (.iload_n 3, 1) := by decide +kernel
theorem d_M_setRank_50 : decode b_M_setRank 50 = .ok (.iadd, 1) := by decide +kernel
theorem d_M_setRank_51 : decode b_M_setRank 51 = .ok (.iaload, 1) := by decide +kernel
theorem d_M_setRank_52 : decode b_M_setRank 52 = .ok (.if_icmp .ge 10, 3) := by decide +kernel
theorem d_M_setRank_55 : decode b_M_setRank 55 = .ok (.iload 4, 2) := by decide +kernel
theorem d_M_setRank_57 : decode b_M_setRank 57 = .ok (.iconst 1, 1) := by decide +kernel
theorem d_M_setRank_58 : decode b_M_setRank 58 = .ok (.iadd, 1) := by decide +kernel
theorem d_M_setRank_59 : decode b_M_setRank 59 = .ok (.goto 5, 3) := by decide +kernel
theorem d_M_setRank_62 : decode b_M_setRank 62 = .ok (.iload 4, 2) := by decide +kernel
theorem d_M_setRank_64 : decode b_M_setRank 64 = .ok (.istore 4, 2) := by decide +kernel
theorem d_M_setRank_66 : decode b_M_setRank 66 = .ok (.iinc 5 1, 3) := by decide +kernel
theorem d_M_setRank_69 : decode b_M_setRank 69 = .ok (.goto (-49), 3) := by decide +kernel
theorem d_M_setRank_72 : decode b_M_setRank 72 = .ok (.iload_n 2, 1) := by decide +kernel
theorem d_M_setRank_73 : decode b_M_setRank 73 = .ok (.aload_n 0, 1) := by decide +kernel
theorem d_M_setRank_74 : decode b_M_setRank 74 = .ok (.getfield 7, 3) := by decide +kernel
theorem d_M_setRank_77 : decode b_M_setRank 77 = .ok (.iload_n 3, 1) := by decide +kernel
theorem d_M_setRank_78 : decode b_M_setRank 78 = .ok (.isub, 1) := by decide +kernel
theorem d_M_setRank_79 : decode b_M_setRank 79 = .ok (.imul, 1) := by decide +kernel
theorem d_M_setRank_80 : decode b_M_setRank 80 = .ok (.iload 4, 2) := by decide +kernel
theorem d_M_setRank_82 : decode b_M_setRank 82 = .ok (.iadd, 1) := by decide +kernel
theorem d_M_setRank_83 : decode b_M_setRank 83 = .ok (.istore_n 2, 1) := by decide +kernel
theorem d_M_setRank_84 : decode b_M_setRank 84 = .ok (.iinc 3 1, 3) := by decide +kernel
theorem d_M_setRank_87 : decode b_M_setRank 87 = .ok (.goto (-83), 3) := by decide +kernel
theorem d_M_setRank_90 : decode b_M_setRank 90 = .ok (.aload_n 0, 1) := by decide +kernel
theorem d_M_setRank_91 : decode b_M_setRank 91 = .ok (.getfield 36, 3) := by decide +kernel
theorem d_M_setRank_94 : decode b_M_setRank 94 = .ok (.iload_n 1, 1) := by decide +kernel
theorem d_M_setRank_95 : decode b_M_setRank 95 = .ok (.iload_n 2, 1) := by decide +kernel
theorem d_M_setRank_96 : decode b_M_setRank 96 = .ok (.iastore, 1) := by decide +kernel
theorem d_M_setRank_97 : decode b_M_setRank 97 = .ok (.return_, 1) := by decide +kernel
theorem d_M_ring_0 : decode b_M_ring 0 = .ok (.iconst 0, 1) := by decide +kernel
theorem d_M_ring_1 : decode b_M_ring 1 = .ok (.istore_n 3, 1) := by decide +kernel
theorem d_M_ring_2 : decode b_M_ring 2 = .ok (.iload_n 3, 1) := by decide +kernel
theorem d_M_ring_3 : decode b_M_ring 3 = .ok (.aload_n 0, 1) := by decide +kernel
theorem d_M_ring_4 : decode b_M_ring 4 = .ok (.getfield 7, 3) := by decide +kernel
theorem d_M_ring_7 : decode b_M_ring 7 = .ok (.if_icmp .ge 113, 3) := by decide +kernel
theorem d_M_ring_10 : decode b_M_ring 10 = .ok (.iload_n 2, 1) := by decide +kernel
theorem d_M_ring_11 : decode b_M_ring 11 = .ok (.iload_n 3, 1) := by decide +kernel
theorem d_M_ring_12 : decode b_M_ring 12 = .ok (.ishr, 1) := by decide +kernel
theorem d_M_ring_13 : decode b_M_ring 13 = .ok (.iconst 1, 1) := by decide +kernel
theorem d_M_ring_14 : decode b_M_ring 14 = .ok (.iand, 1) := by decide +kernel
theorem d_M_ring_15 : decode b_M_ring 15 = .ok (.iconst 1, 1) := by decide +kernel
theorem d_M_ring_16 : decode b_M_ring 16 = .ok (.if_icmp .ne 7, 3) := by decide +kernel
theorem d_M_ring_19 : decode b_M_ring 19 = .ok (.iconst 1, 1) := by decide +kernel
theorem d_M_ring_20 : decode b_M_ring 20 = .ok (.goto 4, 3) := by decide +kernel
theorem d_M_ring_23 : decode b_M_ring 23 = .ok (.iconst 0, 1) := by decide +kernel
theorem d_M_ring_24 : decode b_M_ring 24 = .ok (.istore 4, 2) := by decide +kernel
theorem d_M_ring_26 : decode b_M_ring 26 = .ok (.aload_n 0, 1) := by decide +kernel
theorem d_M_ring_27 : decode b_M_ring 27 = .ok (.getfield 33, 3) := by decide +kernel
theorem d_M_ring_30 : decode b_M_ring 30 = .ok (.bipush 6, 2) := by decide +kernel
theorem d_M_ring_32 : decode b_M_ring 32 = .ok (.iload_n 1, 1) := by decide +kernel
theorem d_M_ring_33 : decode b_M_ring 33 = .ok (.imul, 1) := by decide +kernel
theorem d_M_ring_34 : decode b_M_ring 34 = .ok (.bipush 6, 2) := by decide +kernel
theorem d_M_ring_36 : decode b_M_ring 36 = .ok (.iadd, 1) := by decide +kernel
theorem d_M_ring_37 : decode b_M_ring 37 = .ok (.iload_n 3, 1) := by decide +kernel
theorem d_M_ring_38 : decode b_M_ring 38 = .ok (.iadd, 1) := by decide +kernel
theorem d_M_ring_39 : decode b_M_ring 39 = .ok (.iload 4, 2) := by decide +kernel
theorem d_M_ring_41 : decode b_M_ring 41 = .ok (.ifCond .eq 17, 3) := by decide +kernel
theorem d_M_ring_44 : decode b_M_ring 44 = .ok (.aload_n 0, 1) := by decide +kernel
theorem d_M_ring_45 : decode b_M_ring 45 = .ok (.getfield 33, 3) := by decide +kernel
theorem d_M_ring_48 : decode b_M_ring 48 = .ok (.bipush 6, 2) := by decide +kernel
theorem d_M_ring_50 : decode b_M_ring 50 = .ok (.iload_n 1, 1) := by decide +kernel
theorem d_M_ring_51 : decode b_M_ring 51 = .ok (.imul, 1) := by decide +kernel
theorem d_M_ring_52 : decode b_M_ring 52 = .ok (.iload_n 3, 1) := by decide +kernel
theorem d_M_ring_53 : decode b_M_ring 53 = .ok (.iadd, 1) := by decide +kernel
theorem d_M_ring_54 : decode b_M_ring 54 = .ok (.iaload, 1) := by decide +kernel
theorem d_M_ring_55 : decode b_M_ring 55 = .ok (.goto 16, 3) := by decide +kernel
theorem d_M_ring_58 : decode b_M_ring 58 = .ok (.aload_n 0, 1) := by decide +kernel
theorem d_M_ring_59 : decode b_M_ring 59 = .ok (.getfield 33, 3) := by decide +kernel
theorem d_M_ring_62 : decode b_M_ring 62 = .ok (.bipush 6, 2) := by decide +kernel
theorem d_M_ring_64 : decode b_M_ring 64 = .ok (.iload_n 1, 1) := by decide +kernel
theorem d_M_ring_65 : decode b_M_ring 65 = .ok (.imul, 1) := by decide +kernel
theorem d_M_ring_66 : decode b_M_ring 66 = .ok (.iload_n 3, 1) := by decide +kernel
theorem d_M_ring_67 : decode b_M_ring 67 = .ok (.iadd, 1) := by decide +kernel
theorem d_M_ring_68 : decode b_M_ring 68 = .ok (.iconst 1, 1) := by decide +kernel
theorem d_M_ring_69 : decode b_M_ring 69 = .ok (.iadd, 1) := by decide +kernel
theorem d_M_ring_70 : decode b_M_ring 70 = .ok (.iaload, 1) := by decide +kernel
theorem d_M_ring_71 : decode b_M_ring 71 = .ok (.iastore, 1) := by decide +kernel
theorem d_M_ring_72 : decode b_M_ring 72 = .ok (.iload 4, 2) := by decide +kernel
theorem d_M_ring_74 : decode b_M_ring 74 = .ok (.ifCond .ne 28, 3) := by decide +kernel
theorem d_M_ring_77 : decode b_M_ring 77 = .ok (.aload_n 0, 1) := by decide +kernel
theorem d_M_ring_78 : decode b_M_ring 78 = .ok (.getfield 33, 3) := by decide +kernel
theorem d_M_ring_81 : decode b_M_ring 81 = .ok (.bipush 6, 2) := by decide +kernel
theorem d_M_ring_83 : decode b_M_ring 83 = .ok (.iload_n 1, 1) := by decide +kernel
theorem d_M_ring_84 : decode b_M_ring 84 = .ok (.imul, 1) := by decide +kernel
theorem d_M_ring_85 : decode b_M_ring 85 = .ok (.bipush 7, 2) := by decide +kernel
theorem d_M_ring_87 : decode b_M_ring 87 = .ok (.iadd, 1) := by decide +kernel
theorem d_M_ring_88 : decode b_M_ring 88 = .ok (.iload_n 3, 1) := by decide +kernel
theorem d_M_ring_89 : decode b_M_ring 89 = .ok (.iadd, 1) := by decide +kernel
theorem d_M_ring_90 : decode b_M_ring 90 = .ok (.aload_n 0, 1) := by decide +kernel
theorem d_M_ring_91 : decode b_M_ring 91 = .ok (.getfield 33, 3) := by decide +kernel
theorem d_M_ring_94 : decode b_M_ring 94 = .ok (.bipush 6, 2) := by decide +kernel
theorem d_M_ring_96 : decode b_M_ring 96 = .ok (.iload_n 1, 1) := by decide +kernel
theorem d_M_ring_97 : decode b_M_ring 97 = .ok (.imul, 1) := by decide +kernel
theorem d_M_ring_98 : decode b_M_ring 98 = .ok (.iload_n 3, 1) := by decide +kernel
theorem d_M_ring_99 : decode b_M_ring 99 = .ok (.iadd, 1) := by decide +kernel
theorem d_M_ring_100 : decode b_M_ring 100 = .ok (.iaload, 1) := by decide +kernel
theorem d_M_ring_101 : decode b_M_ring 101 = .ok (.iastore, 1) := by decide +kernel
theorem d_M_ring_102 : decode b_M_ring 102 = .ok (.iload 4, 2) := by decide +kernel
theorem d_M_ring_104 : decode b_M_ring 104 = .ok (.ifCond .eq 9, 3) := by decide +kernel
theorem d_M_ring_107 : decode b_M_ring 107 = .ok (.iload_n 3, 1) := by decide +kernel
theorem d_M_ring_108 : decode b_M_ring 108 = .ok (.iconst 1, 1) := by decide +kernel
theorem d_M_ring_109 : decode b_M_ring 109 = .ok (.iadd, 1) := by decide +kernel
theorem d_M_ring_110 : decode b_M_ring 110 = .ok (.goto 6, 3) := by decide +kernel
theorem d_M_ring_113 : decode b_M_ring 113 = .ok (.iload_n 3, 1) := by decide +kernel
theorem d_M_ring_114 : decode b_M_ring 114 = .ok (.iconst 2, 1) := by decide +kernel
theorem d_M_ring_115 : decode b_M_ring 115 = .ok (.iadd, 1) := by decide +kernel
theorem d_M_ring_116 : decode b_M_ring 116 = .ok (.istore_n 3, 1) := by decide +kernel
theorem d_M_ring_117 : decode b_M_ring 117 = .ok (.goto (-115), 3) := by decide +kernel
theorem d_M_ring_120 : decode b_M_ring 120 = .ok (.aload_n 0, 1) := by decide +kernel
theorem d_M_ring_121 : decode b_M_ring 121 = .ok (.iload_n 1, 1) := by decide +kernel
theorem d_M_ring_122 : decode b_M_ring 122 = .ok (.iconst 1, 1) := by decide +kernel
theorem d_M_ring_123 : decode b_M_ring 123 = .ok (.iadd, 1) := by decide +kernel
theorem d_M_ring_124 : decode b_M_ring 124 = .ok (.invokevirtual 64, 3) := by decide +kernel
theorem d_M_ring_127 : decode b_M_ring 127 = .ok (.return_, 1) := by decide +kernel
theorem d_M_lead_0 : decode b_M_lead 0 = .ok (.iconst 0, 1) := by decide +kernel
theorem d_M_lead_1 : decode b_M_lead 1 = .ok (.istore_n 3, 1) := by decide +kernel
theorem d_M_lead_2 : decode b_M_lead 2 = .ok (.iload_n 3, 1) := by decide +kernel
theorem d_M_lead_3 : decode b_M_lead 3 = .ok (.aload_n 0, 1) := by decide +kernel
theorem d_M_lead_4 : decode b_M_lead 4 = .ok (.getfield 51, 3) := by decide +kernel
theorem d_M_lead_7 : decode b_M_lead 7 = .ok (.if_icmp .ge 45, 3) := by decide +kernel
theorem d_M_lead_10 : decode b_M_lead 10 = .ok (.aload_n 0, 1) := by decide +kernel
theorem d_M_lead_11 : decode b_M_lead 11 = .ok (.iload_n 1, 1) := by decide +kernel
theorem d_M_lead_12 : decode b_M_lead 12 = .ok (.iload_n 3, 1) := by decide +kernel
theorem d_M_lead_13 : decode b_M_lead 13 = .ok (.iadd, 1) := by decide +kernel
theorem d_M_lead_14 : decode b_M_lead 14 = .ok (.iload_n 2, 1) := by decide +kernel
theorem d_M_lead_15 : decode b_M_lead 15 = .ok (.ifCond .le 22, 3) := by decide +kernel
theorem d_M_lead_18 : decode b_M_lead 18 = .ok (.iload_n 3, 1) := by decide +kernel
theorem d_M_lead_19 : decode b_M_lead 19 = .ok (.aload_n 0, 1) := by decide +kernel
theorem d_M_lead_20 : decode b_M_lead 20 = .ok (.getfield 51, 3) := by decide +kernel
theorem d_M_lead_23 : decode b_M_lead 23 = .ok (.iconst 1, 1) := by decide +kernel
theorem d_M_lead_24 : decode b_M_lead 24 = .ok (.isub, 1) := by decide +kernel
theorem d_M_lead_25 : decode b_M_lead 25 = .ok (.if_icmp .ne 12, 3) := by decide +kernel
theorem d_M_lead_28 : decode b_M_lead 28 = .ok (.aload_n 0, 1) := by decide +kernel
theorem d_M_lead_29 : decode b_M_lead 29 = .ok (.getfield 21, 3) := by decide +kernel
theorem d_M_lead_32 : decode b_M_lead 32 = .ok (.iload_n 2, 1) := by decide +kernel
theorem d_M_lead_33 : decode b_M_lead 33 = .ok (.iaload, 1) := by decide +kernel
theorem d_M_lead_34 : decode b_M_lead 34 = .ok (.goto 9, 3) := by decide +kernel
theorem d_M_lead_37 : decode b_M_lead 37 = .ok (.aload_n 0, 1) := by decide +kernel
theorem d_M_lead_38 : decode b_M_lead 38 = .ok (.getfield 13, 3) := by decide +kernel
theorem d_M_lead_41 : decode b_M_lead 41 = .ok (.iload_n 3, 1) := by decide +kernel
theorem d_M_lead_42 : decode b_M_lead 42 = .ok (.iaload, 1) := by decide +kernel
theorem d_M_lead_43 : decode b_M_lead 43 = .ok (.invokevirtual 68, 3) := by decide +kernel
theorem d_M_lead_46 : decode b_M_lead 46 = .ok (.iinc 3 1, 3) := by decide +kernel
theorem d_M_lead_49 : decode b_M_lead 49 = .ok (.goto (-47), 3) := by decide +kernel
theorem d_M_lead_52 : decode b_M_lead 52 = .ok (.return_, 1) := by decide +kernel
theorem d_M_ringAll_0 : decode b_M_ringAll 0 = .ok (.aload_n 0, 1) := by decide +kernel
theorem d_M_ringAll_1 : decode b_M_ringAll 1 = .ok (.iconst 0, 1) := by decide +kernel
theorem d_M_ringAll_2 : decode b_M_ringAll 2 = .ok (.invokevirtual 72, 3) := by decide +kernel
theorem d_M_ringAll_5 : decode b_M_ringAll 5 = .ok (.iconst 0, 1) := by decide +kernel
theorem d_M_ringAll_6 : decode b_M_ringAll 6 = .ok (.istore_n 1, 1) := by decide +kernel
theorem d_M_ringAll_7 : decode b_M_ringAll 7 = .ok (.iload_n 1, 1) := by decide +kernel
theorem d_M_ringAll_8 : decode b_M_ringAll 8 = .ok (.aload_n 0, 1) := by decide +kernel
theorem d_M_ringAll_9 : decode b_M_ringAll 9 = .ok (.getfield 54, 3) := by decide +kernel
theorem d_M_ringAll_12 : decode b_M_ringAll 12 = .ok (.if_icmp .ge 25, 3) := by decide +kernel
theorem d_M_ringAll_15 : decode b_M_ringAll 15 = .ok (.aload_n 0, 1) := by decide +kernel
theorem d_M_ringAll_16 : decode b_M_ringAll 16 = .ok (.iload_n 1, 1) := by decide +kernel
theorem d_M_ringAll_17 : decode b_M_ringAll 17 = .ok (.aload_n 0, 1) := by decide +kernel
theorem d_M_ringAll_18 : decode b_M_ringAll 18 = .ok (.getfield 51, 3) := by decide +kernel
theorem d_M_ringAll_21 : decode b_M_ringAll 21 = .ok (.imul, 1) := by decide +kernel
theorem d_M_ringAll_22 : decode b_M_ringAll 22 = .ok (.aload_n 0, 1) := by decide +kernel
theorem d_M_ringAll_23 : decode b_M_ringAll 23 = .ok (.getfield 27, 3) := by decide +kernel
theorem d_M_ringAll_26 : decode b_M_ringAll 26 = .ok (.iload_n 1, 1) := by decide +kernel
theorem d_M_ringAll_27 : decode b_M_ringAll 27 = .ok (.iaload, 1) := by decide +kernel
theorem d_M_ringAll_28 : decode b_M_ringAll 28 = .ok (.invokevirtual 75, 3) := by decide +kernel
theorem d_M_ringAll_31 : decode b_M_ringAll 31 = .ok (.iinc 1 1, 3) := by decide +kernel
theorem d_M_ringAll_34 : decode b_M_ringAll 34 = .ok (.goto (-27), 3) := by decide +kernel
theorem d_M_ringAll_37 : decode b_M_ringAll 37 = .ok (.aload_n 0, 1) := by decide +kernel
theorem d_M_ringAll_38 : decode b_M_ringAll 38 = .ok (.getfield 54, 3) := by decide +kernel
theorem d_M_ringAll_41 : decode b_M_ringAll 41 = .ok (.aload_n 0, 1) := by decide +kernel
theorem d_M_ringAll_42 : decode b_M_ringAll 42 = .ok (.getfield 51, 3) := by decide +kernel
theorem d_M_ringAll_45 : decode b_M_ringAll 45 = .ok (.imul, 1) := by decide +kernel
theorem d_M_ringAll_46 : decode b_M_ringAll 46 = .ok (.ireturn, 1) := by decide +kernel
theorem d_M_define_0 : decode b_M_define 0 = .ok (.aload_n 0, 1) := by decide +kernel
theorem d_M_define_1 : decode b_M_define 1 = .ok (.iconst 0, 1) := by decide +kernel
theorem d_M_define_2 : decode b_M_define 2 = .ok (.putfield 48, 3) := by decide +kernel
theorem d_M_define_5 : decode b_M_define 5 = .ok (.aload_n 0, 1) := by decide +kernel
theorem d_M_define_6 : decode b_M_define 6 = .ok (.getfield 51, 3) := by decide +kernel
theorem d_M_define_9 : decode b_M_define 9 = .ok (.ifCond .le 5, 3) := by decide +kernel
theorem d_M_define_12 : decode b_M_define 12 = .ok (.iconst 3, 1) := by decide +kernel
theorem d_M_define_13 : decode b_M_define 13 = .ok (.ireturn, 1) := by decide +kernel
theorem d_M_define_14 : decode b_M_define 14 = .ok (.iload_n 1, 1) := by decide +kernel
theorem d_M_define_15 : decode b_M_define 15 = .ok (.ifCond .le 13, 3) := by decide +kernel
theorem d_M_define_18 : decode b_M_define 18 = .ok (.iload_n 1, 1) := by decide +kernel
theorem d_M_define_19 : decode b_M_define 19 = .ok (.bipush 25, 2) := by decide +kernel
theorem d_M_define_21 : decode b_M_define 21 = .ok (.if_icmp .ge 7, 3) := by decide +kernel
theorem d_M_define_24 : decode b_M_define 24 = .ok (.iconst 1, 1) := by decide +kernel
theorem d_M_define_25 : decode b_M_define 25 = .ok (.goto 4, 3) := by decide +kernel
theorem d_M_define_28 : decode b_M_define 28 = .ok (.iconst 0, 1) := by decide +kernel
theorem d_M_define_29 : decode b_M_define 29 = .ok (.istore_n 2, 1) := by decide +kernel
theorem d_M_define_30 : decode b_M_define 30 = .ok (.iconst 0, 1) := by decide +kernel
theorem d_M_define_31 : decode b_M_define 31 = .ok (.istore_n 3, 1) := by decide +kernel
theorem d_M_define_32 : decode b_M_define 32 = .ok (.iload_n 3, 1) := by decide +kernel
theorem d_M_define_33 : decode b_M_define 33 = .ok (.iload_n 1, 1) := by decide +kernel
theorem d_M_define_34 : decode b_M_define 34 = .ok (.if_icmp .ge 34, 3) := by decide +kernel
theorem d_M_define_37 : decode b_M_define 37 = .ok (.iload_n 3, 1) := by decide +kernel
theorem d_M_define_38 : decode b_M_define 38 = .ok (.bipush 24, 2) := by decide +kernel
theorem d_M_define_40 : decode b_M_define 40 = .ok (.if_icmp .ge 28, 3) := by decide +kernel
theorem d_M_define_43 : decode b_M_define 43 = .ok (.iload_n 2, 1) := by decide +kernel
theorem d_M_define_44 : decode b_M_define 44 = .ok (.ifCond .eq 16, 3) := by decide +kernel
theorem d_M_define_47 : decode b_M_define 47 = .ok (.aload_n 0, 1) := by decide +kernel
theorem d_M_define_48 : decode b_M_define 48 = .ok (.getfield 17, 3) := by decide +kernel
theorem d_M_define_51 : decode b_M_define 51 = .ok (.iload_n 3, 1) := by decide +kernel
theorem d_M_define_52 : decode b_M_define 52 = .ok (.baload, 1) := by decide +kernel
theorem d_M_define_53 : decode b_M_define 53 = .ok (.ifCond .eq 7, 3) := by decide +kernel
theorem d_M_define_56 : decode b_M_define 56 = .ok (.iconst 1, 1) := by decide +kernel
theorem d_M_define_57 : decode b_M_define 57 = .ok (.goto 4, 3) := by decide +kernel
theorem d_M_define_60 : decode b_M_define 60 = .ok (.iconst 0, 1) := by decide +kernel
theorem d_M_define_61 : decode b_M_define 61 = .ok (.istore_n 2, 1) := by decide +kernel
theorem d_M_define_62 : decode b_M_define 62 = .ok (.iinc 3 1, 3) := by decide +kernel
theorem d_M_define_65 : decode b_M_define 65 = .ok (.goto (-33), 3) := by decide +kernel
theorem d_M_define_68 : decode b_M_define 68 = .ok (.iload_n 2, 1) := by decide +kernel
theorem d_M_define_69 : decode b_M_define 69 = .ok (.ifCond .ne 5, 3) := by decide +kernel
theorem d_M_define_72 : decode b_M_define 72 = .ok (.iconst 1, 1) := by decide +kernel
theorem d_M_define_73 : decode b_M_define 73 = .ok (.ireturn, 1) := by decide +kernel
theorem d_M_define_74 : decode b_M_define 74 = .ok (.aload_n 0, 1) := by decide +kernel
theorem d_M_define_75 : decode b_M_define 75 = .ok (.iload_n 1, 1) := by decide +kernel
theorem d_M_define_76 : decode b_M_define 76 = .ok (.putfield 51, 3) := by decide +kernel
theorem d_M_define_79 : decode b_M_define 79 = .ok (.aload_n 0, 1) := by decide +kernel
theorem d_M_define_80 : decode b_M_define 80 = .ok (.iconst 0, 1) := by decide +kernel
theorem d_M_define_81 : decode b_M_define 81 = .ok (.invokevirtual 72, 3) := by decide +kernel
theorem d_M_define_84 : decode b_M_define 84 = .ok (.aload_n 0, 1) := by decide +kernel
theorem d_M_define_85 : decode b_M_define 85 = .ok (.iconst 0, 1) := by decide +kernel
theorem d_M_define_86 : decode b_M_define 86 = .ok (.iconst 0, 1) := by decide +kernel
theorem d_M_define_87 : decode b_M_define 87 = .ok (.invokevirtual 75, 3) := by decide +kernel
theorem d_M_define_90 : decode b_M_define 90 = .ok (.aload_n 0, 1) := by decide +kernel
theorem d_M_define_91 : decode b_M_define 91 = .ok (.getfield 33, 3) := by decide +kernel
theorem d_M_define_94 : decode b_M_define 94 = .ok (.bipush 6, 2) := by decide +kernel
theorem d_M_define_96 : decode b_M_define 96 = .ok (.iload_n 1, 1) := by decide +kernel
theorem d_M_define_97 : decode b_M_define 97 = .ok (.imul, 1) := by decide +kernel
theorem d_M_define_98 : decode b_M_define 98 = .ok (.iaload, 1) := by decide +kernel
theorem d_M_define_99 : decode b_M_define 99 = .ok (.iconst 1, 1) := by decide +kernel
theorem d_M_define_100 : decode b_M_define 100 = .ok (.if_icmp .eq 10, 3) := by decide +kernel
theorem d_M_define_103 : decode b_M_define 103 = .ok (.aload_n 0, 1) := by decide +kernel
theorem d_M_define_104 : decode b_M_define 104 = .ok (.iconst 0, 1) := by decide +kernel
theorem d_M_define_105 : decode b_M_define 105 = .ok (.putfield 51, 3) := by decide +kernel
theorem d_M_define_108 : decode b_M_define 108 = .ok (.iconst 2, 1) := by decide +kernel
theorem d_M_define_109 : decode b_M_define 109 = .ok (.ireturn, 1) := by decide +kernel
theorem d_M_define_110 : decode b_M_define 110 = .ok (.iconst 0, 1) := by decide +kernel
theorem d_M_define_111 : decode b_M_define 111 = .ok (.ireturn, 1) := by decide +kernel
theorem d_M_call_0 : decode b_M_call 0 = .ok (.aload_n 0, 1) := by decide +kernel
theorem d_M_call_1 : decode b_M_call 1 = .ok (.aload_n 0, 1) := by decide +kernel
theorem d_M_call_2 : decode b_M_call 2 = .ok (.getfield 51, 3) := by decide +kernel
theorem d_M_call_5 : decode b_M_call 5 = .ok (.ifCond .ne 7, 3) := by decide +kernel
theorem d_M_call_8 : decode b_M_call 8 = .ok (.iconst 1, 1) := by decide +kernel
theorem d_M_call_9 : decode b_M_call 9 = .ok (.goto 29, 3) := by decide +kernel
theorem d_M_call_12 : decode b_M_call 12 = .ok (.aload_n 0, 1) := by decide +kernel
theorem d_M_call_13 : decode b_M_call 13 = .ok (.iload_n 1, 1) := by decide +kernel
theorem d_M_call_14 : decode b_M_call 14 = .ok (.invokevirtual 78, 3) := by decide +kernel
theorem d_M_call_17 : decode b_M_call 17 = .ok (.ifCond .ne 7, 3) := by decide +kernel
theorem d_M_call_20 : decode b_M_call 20 = .ok (.iconst 2, 1) := by decide +kernel
theorem d_M_call_21 : decode b_M_call 21 = .ok (.goto 17, 3) := by decide +kernel
theorem d_M_call_24 : decode b_M_call 24 = .ok (.aload_n 0, 1) := by decide +kernel
theorem d_M_call_25 : decode b_M_call 25 = .ok (.getfield 54, 3) := by decide +kernel
theorem d_M_call_28 : decode b_M_call 28 = .ok (.bipush 30, 2) := by decide +kernel
theorem d_M_call_30 : decode b_M_call 30 = .ok (.if_icmp .ne 7, 3) := by decide +kernel
theorem d_M_call_33 : decode b_M_call 33 = .ok (.iconst 3, 1) := by decide +kernel
theorem d_M_call_34 : decode b_M_call 34 = .ok (.goto 4, 3) := by decide +kernel
theorem d_M_call_37 : decode b_M_call 37 = .ok (.iconst 0, 1) := by decide +kernel
theorem d_M_call_38 : decode b_M_call 38 = .ok (.putfield 48, 3) := by decide +kernel
theorem d_M_call_41 : decode b_M_call 41 = .ok (.aload_n 0, 1) := by decide +kernel
theorem d_M_call_42 : decode b_M_call 42 = .ok (.getfield 48, 3) := by decide +kernel
theorem d_M_call_45 : decode b_M_call 45 = .ok (.ifCond .le 5, 3) := by decide +kernel
theorem d_M_call_48 : decode b_M_call 48 = .ok (.iconst 0, 1) := by decide +kernel
theorem d_M_call_49 : decode b_M_call 49 = .ok (.ireturn, 1) := by decide +kernel
theorem d_M_call_50 : decode b_M_call 50 = .ok (.aload_n 0, 1) := by decide +kernel
theorem d_M_call_51 : decode b_M_call 51 = .ok (.getfield 27, 3) := by decide +kernel
theorem d_M_call_54 : decode b_M_call 54 = .ok (.aload_n 0, 1) := by decide +kernel
theorem d_M_call_55 : decode b_M_call 55 = .ok (.getfield 54, 3) := by decide +kernel
theorem d_M_call_58 : decode b_M_call 58 = .ok (.iload_n 1, 1) := by decide +kernel
theorem d_M_call_59 : decode b_M_call 59 = .ok (.iastore, 1) := by decide +kernel
theorem d_M_call_60 : decode b_M_call 60 = .ok (.aload_n 0, 1) := by decide +kernel
theorem d_M_call_61 : decode b_M_call 61 = .ok (.aload_n 0, 1) := by decide +kernel
theorem d_M_call_62 : decode b_M_call 62 = .ok (.getfield 54, 3) := by decide +kernel
theorem d_M_call_65 : decode b_M_call 65 = .ok (.iconst 1, 1) := by decide +kernel
theorem d_M_call_66 : decode b_M_call 66 = .ok (.iadd, 1) := by decide +kernel
theorem d_M_call_67 : decode b_M_call 67 = .ok (.putfield 54, 3) := by decide +kernel
theorem d_M_call_70 : decode b_M_call 70 = .ok (.aload_n 0, 1) := by decide +kernel
theorem d_M_call_71 : decode b_M_call 71 = .ok (.getfield 54, 3) := by decide +kernel
theorem d_M_call_74 : decode b_M_call 74 = .ok (.ireturn, 1) := by decide +kernel
theorem d_M_change_0 : decode b_M_change 0 = .ok (.aload_n 0, 1) := by decide +kernel
theorem d_M_change_1 : decode b_M_change 1 = .ok (.iconst 0, 1) := by decide +kernel
theorem d_M_change_2 : decode b_M_change 2 = .ok (.putfield 48, 3) := by decide +kernel
theorem d_M_change_5 : decode b_M_change 5 = .ok (.iload_n 1, 1) := by decide +kernel
theorem d_M_change_6 : decode b_M_change 6 = .ok (.ifCond .lt 19, 3) := by decide +kernel
theorem d_M_change_9 : decode b_M_change 9 = .ok (.iload_n 1, 1) := by decide +kernel
theorem d_M_change_10 : decode b_M_change 10 = .ok (.aload_n 0, 1) := by decide +kernel
theorem d_M_change_11 : decode b_M_change 11 = .ok (.getfield 54, 3) := by decide +kernel
theorem d_M_change_14 : decode b_M_change 14 = .ok (.if_icmp .ge 11, 3) := by decide +kernel
theorem d_M_change_17 : decode b_M_change 17 = .ok (.aload_n 0, 1) := by decide +kernel
theorem d_M_change_18 : decode b_M_change 18 = .ok (.iload_n 2, 1) := by decide +kernel
theorem d_M_change_19 : decode b_M_change 19 = .ok (.invokevirtual 78, 3) := by decide +kernel
theorem d_M_change_22 : decode b_M_change 22 = .ok (.ifCond .ne 5, 3) := by decide +kernel
theorem d_M_change_25 : decode b_M_change 25 = .ok (.iconst 0, 1) := by decide +kernel
theorem d_M_change_26 : decode b_M_change 26 = .ok (.ireturn, 1) := by decide +kernel
theorem d_M_change_27 : decode b_M_change 27 = .ok (.aload_n 0, 1) := by decide +kernel
theorem d_M_change_28 : decode b_M_change 28 = .ok (.getfield 27, 3) := by decide +kernel
theorem d_M_change_31 : decode b_M_change 31 = .ok (.iload_n 1, 1) := by decide +kernel
theorem d_M_change_32 : decode b_M_change 32 = .ok (.iload_n 2, 1) := by decide +kernel
theorem d_M_change_33 : decode b_M_change 33 = .ok (.iastore, 1) := by decide +kernel
theorem d_M_change_34 : decode b_M_change 34 = .ok (.iconst 1, 1) := by decide +kernel
theorem d_M_change_35 : decode b_M_change 35 = .ok (.ireturn, 1) := by decide +kernel
theorem d_M_keep_0 : decode b_M_keep 0 = .ok (.aload_n 0, 1) := by decide +kernel
theorem d_M_keep_1 : decode b_M_keep 1 = .ok (.iconst 0, 1) := by decide +kernel
theorem d_M_keep_2 : decode b_M_keep 2 = .ok (.putfield 48, 3) := by decide +kernel
theorem d_M_keep_5 : decode b_M_keep 5 = .ok (.iload_n 1, 1) := by decide +kernel
theorem d_M_keep_6 : decode b_M_keep 6 = .ok (.ifCond .lt 11, 3) := by decide +kernel
theorem d_M_keep_9 : decode b_M_keep 9 = .ok (.iload_n 1, 1) := by decide +kernel
theorem d_M_keep_10 : decode b_M_keep 10 = .ok (.aload_n 0, 1) := by decide +kernel
theorem d_M_keep_11 : decode b_M_keep 11 = .ok (.getfield 54, 3) := by decide +kernel
theorem d_M_keep_14 : decode b_M_keep 14 = .ok (.if_icmp .le 5, 3) := by decide +kernel
theorem d_M_keep_17 : decode b_M_keep 17 = .ok (.iconst 0, 1) := by decide +kernel
theorem d_M_keep_18 : decode b_M_keep 18 = .ok (.ireturn, 1) := by decide +kernel
theorem d_M_keep_19 : decode b_M_keep 19 = .ok (.aload_n 0, 1) := by decide +kernel
theorem d_M_keep_20 : decode b_M_keep 20 = .ok (.iload_n 1, 1) := by decide +kernel
theorem d_M_keep_21 : decode b_M_keep 21 = .ok (.putfield 54, 3) := by decide +kernel
theorem d_M_keep_24 : decode b_M_keep 24 = .ok (.iconst 1, 1) := by decide +kernel
theorem d_M_keep_25 : decode b_M_keep 25 = .ok (.ireturn, 1) := by decide +kernel
theorem d_M_calls_0 : decode b_M_calls 0 = .ok (.aload_n 0, 1) := by decide +kernel
theorem d_M_calls_1 : decode b_M_calls 1 = .ok (.iconst 0, 1) := by decide +kernel
theorem d_M_calls_2 : decode b_M_calls 2 = .ok (.putfield 48, 3) := by decide +kernel
theorem d_M_calls_5 : decode b_M_calls 5 = .ok (.aload_n 0, 1) := by decide +kernel
theorem d_M_calls_6 : decode b_M_calls 6 = .ok (.getfield 54, 3) := by decide +kernel
theorem d_M_calls_9 : decode b_M_calls 9 = .ok (.ireturn, 1) := by decide +kernel
theorem d_M_callAt_0 : decode b_M_callAt 0 = .ok (.aload_n 0, 1) := by decide +kernel
theorem d_M_callAt_1 : decode b_M_callAt 1 = .ok (.iconst 0, 1) := by decide +kernel
theorem d_M_callAt_2 : decode b_M_callAt 2 = .ok (.putfield 48, 3) := by decide +kernel
theorem d_M_callAt_5 : decode b_M_callAt 5 = .ok (.iload_n 1, 1) := by decide +kernel
theorem d_M_callAt_6 : decode b_M_callAt 6 = .ok (.ifCond .lt 11, 3) := by decide +kernel
theorem d_M_callAt_9 : decode b_M_callAt 9 = .ok (.iload_n 1, 1) := by decide +kernel
theorem d_M_callAt_10 : decode b_M_callAt 10 = .ok (.aload_n 0, 1) := by decide +kernel
theorem d_M_callAt_11 : decode b_M_callAt 11 = .ok (.getfield 54, 3) := by decide +kernel
theorem d_M_callAt_14 : decode b_M_callAt 14 = .ok (.if_icmp .lt 7, 3) := by decide +kernel
theorem d_M_callAt_17 : decode b_M_callAt 17 = .ok (.iconst (-1), 1) := by decide +kernel
theorem d_M_callAt_18 : decode b_M_callAt 18 = .ok (.goto 9, 3) := by decide +kernel
theorem d_M_callAt_21 : decode b_M_callAt 21 = .ok (.aload_n 0, 1) := by decide +kernel
theorem d_M_callAt_22 : decode b_M_callAt 22 = .ok (.getfield 27, 3) := by decide +kernel
theorem d_M_callAt_25 : decode b_M_callAt 25 = .ok (.iload_n 1, 1) := by decide +kernel
theorem d_M_callAt_26 : decode b_M_callAt 26 = .ok (.iaload, 1) := by decide +kernel
theorem d_M_callAt_27 : decode b_M_callAt 27 = .ok (.ireturn, 1) := by decide +kernel
theorem d_M_prove_0 : decode b_M_prove 0 = .ok (.aload_n 0, 1) := by decide +kernel
theorem d_M_prove_1 : decode b_M_prove 1 = .ok (.iconst 0, 1) := by decide +kernel
theorem d_M_prove_2 : decode b_M_prove 2 = .ok (.putfield 48, 3) := by decide +kernel
theorem d_M_prove_5 : decode b_M_prove 5 = .ok (.aload_n 0, 1) := by decide +kernel
theorem d_M_prove_6 : decode b_M_prove 6 = .ok (.invokevirtual 81, 3) := by decide +kernel
theorem d_M_prove_9 : decode b_M_prove 9 = .ok (.istore_n 1, 1) := by decide +kernel
theorem d_M_prove_10 : decode b_M_prove 10 = .ok (.iconst 1, 1) := by decide +kernel
theorem d_M_prove_11 : decode b_M_prove 11 = .ok (.istore_n 2, 1) := by decide +kernel
theorem d_M_prove_12 : decode b_M_prove 12 = .ok (.iload_n 2, 1) := by decide +kernel
theorem d_M_prove_13 : decode b_M_prove 13 = .ok (.iload_n 1, 1) := by decide +kernel
theorem d_M_prove_14 : decode b_M_prove 14 = .ok (.if_icmp .gt 119, 3) := by decide +kernel
theorem d_M_prove_17 : decode b_M_prove 17 = .ok (.iconst 0, 1) := by decide +kernel
theorem d_M_prove_18 : decode b_M_prove 18 = .ok (.istore_n 3, 1) := by decide +kernel
theorem d_M_prove_19 : decode b_M_prove 19 = .ok (.iconst 0, 1) := by decide +kernel
theorem d_M_prove_20 : decode b_M_prove 20 = .ok (.istore 4, 2) := by decide +kernel
theorem d_M_prove_22 : decode b_M_prove 22 = .ok (.iconst 0, 1) := by decide +kernel
theorem d_M_prove_23 : decode b_M_prove 23 = .ok (.istore 5, 2) := by decide +kernel
theorem d_M_prove_25 : decode b_M_prove 25 = .ok (.iload 5, 2) := by decide +kernel
theorem d_M_prove_27 : decode b_M_prove 27 = .ok (.iload_n 2, 1) := by decide +kernel
theorem d_M_prove_28 : decode b_M_prove 28 = .ok (.if_icmp .ge 62, 3) := by decide +kernel
theorem d_M_prove_31 : decode b_M_prove 31 = .ok (.iload_n 3, 1) := by decide +kernel
theorem d_M_prove_32 : decode b_M_prove 32 = .ok (.ifCond .ne 19, 3) := by decide +kernel
theorem d_M_prove_35 : decode b_M_prove 35 = .ok (.aload_n 0, 1) := by decide +kernel
theorem d_M_prove_36 : decode b_M_prove 36 = .ok (.getfield 36, 3) := by decide +kernel
theorem d_M_prove_39 : decode b_M_prove 39 = .ok (.iload 5, 2) := by decide +kernel
theorem d_M_prove_41 : decode b_M_prove 41 = .ok (.iaload, 1) := by decide +kernel
theorem d_M_prove_42 : decode b_M_prove 42 = .ok (.aload_n 0, 1) := by decide +kernel
theorem d_M_prove_43 : decode b_M_prove 43 = .ok (.getfield 36, 3) := by decide +kernel
theorem d_M_prove_46 : decode b_M_prove 46 = .ok (.iload_n 2, 1) := by decide +kernel
theorem d_M_prove_47 : decode b_M_prove 47 = .ok (.iaload, 1) := by decide +kernel
theorem d_M_prove_48 : decode b_M_prove 48 = .ok (.if_icmp .ne 7, 3) := by decide +kernel
theorem d_M_prove_51 : decode b_M_prove 51 = .ok (.iconst 1, 1) := by decide +kernel
theorem d_M_prove_52 : decode b_M_prove 52 = .ok (.goto 4, 3) := by decide +kernel
theorem d_M_prove_55 : decode b_M_prove 55 = .ok (.iconst 0, 1) := by decide +kernel
theorem d_M_prove_56 : decode b_M_prove 56 = .ok (.istore_n 3, 1) := by decide +kernel
theorem d_M_prove_57 : decode b_M_prove 57 = .ok (.iload 4, 2) := by decide +kernel
theorem d_M_prove_59 : decode b_M_prove 59 = .ok (.ifCond .ne 18, 3) := by decide +kernel
theorem d_M_prove_62 : decode b_M_prove 62 = .ok (.iload 5, 2) := by decide +kernel
theorem d_M_prove_64 : decode b_M_prove 64 = .ok (.ifCond .le 17, 3) := by decide +kernel
theorem d_M_prove_67 : decode b_M_prove 67 = .ok (.aload_n 0, 1) := by decide +kernel
theorem d_M_prove_68 : decode b_M_prove 68 = .ok (.getfield 36, 3) := by decide +kernel
theorem d_M_prove_71 : decode b_M_prove 71 = .ok (.iload 5, 2) := by decide +kernel
theorem d_M_prove_73 : decode b_M_prove 73 = .ok (.iaload, 1) := by decide +kernel
theorem d_M_prove_74 : decode b_M_prove 74 = .ok (.ifCond .ne 7, 3) := by decide +kernel
theorem d_M_prove_77 : decode b_M_prove 77 = .ok (.iconst 1, 1) := by decide +kernel
theorem d_M_prove_78 : decode b_M_prove 78 = .ok (.goto 4, 3) := by decide +kernel
theorem d_M_prove_81 : decode b_M_prove 81 = .ok (.iconst 0, 1) := by decide +kernel
theorem d_M_prove_82 : decode b_M_prove 82 = .ok (.istore 4, 2) := by decide +kernel
theorem d_M_prove_84 : decode b_M_prove 84 = .ok (.iinc 5 1, 3) := by decide +kernel
theorem d_M_prove_87 : decode b_M_prove 87 = .ok (.goto (-62), 3) := by decide +kernel
theorem d_M_prove_90 : decode b_M_prove 90 = .ok (.iload_n 2, 1) := by decide +kernel
theorem d_M_prove_91 : decode b_M_prove 91 = .ok (.iload_n 1, 1) := by decide +kernel
theorem d_M_prove_92 : decode b_M_prove 92 = .ok (.if_icmp .ne 21, 3) := by decide +kernel
theorem d_M_prove_95 : decode b_M_prove 95 = .ok (.aload_n 0, 1) := by decide +kernel
theorem d_M_prove_96 : decode b_M_prove 96 = .ok (.getfield 36, 3) := by decide +kernel
theorem d_M_prove_99 : decode b_M_prove 99 = .ok (.iload_n 2, 1) := by decide +kernel
theorem d_M_prove_100 : decode b_M_prove 100 = .ok (.iaload, 1) := by decide +kernel
theorem d_M_prove_101 : decode b_M_prove 101 = .ok (.ifCond .ne 12, 3) := by decide +kernel
theorem d_M_prove_104 : decode b_M_prove 104 = .ok (.iload 4, 2) := by decide +kernel
theorem d_M_prove_106 : decode b_M_prove 106 = .ok (.ifCond .ne 7, 3) := by decide +kernel
theorem d_M_prove_109 : decode b_M_prove 109 = .ok (.iconst 1, 1) := by decide +kernel
theorem d_M_prove_110 : decode b_M_prove 110 = .ok (.goto 4, 3) := by decide +kernel
theorem d_M_prove_113 : decode b_M_prove 113 = .ok (.iconst 0, 1) := by decide +kernel
theorem d_M_prove_114 : decode b_M_prove 114 = .ok (.istore 5, 2) := by decide +kernel
theorem d_M_prove_116 : decode b_M_prove 116 = .ok (.iload_n 3, 1) := by decide +kernel
theorem d_M_prove_117 : decode b_M_prove 117 = .ok (.ifCond .eq 10, 3) := by decide +kernel
theorem d_M_prove_120 : decode b_M_prove 120 = .ok (.iload 5, 2) := by decide +kernel
theorem d_M_prove_122 : decode b_M_prove 122 = .ok (.ifCond .ne 5, 3) := by decide +kernel
theorem d_M_prove_125 : decode b_M_prove 125 = .ok (.iload_n 2, 1) := by decide +kernel
theorem d_M_prove_126 : decode b_M_prove 126 = .ok (.ireturn, 1) := by decide +kernel
theorem d_M_prove_127 : decode b_M_prove 127 = .ok (.iinc 2 1, 3) := by decide +kernel
theorem d_M_prove_130 : decode b_M_prove 130 = .ok (.goto (-118), 3) := by decide +kernel
theorem d_M_prove_133 : decode b_M_prove 133 = .ok (.iload_n 1, 1) := by decide +kernel
theorem d_M_prove_134 : decode b_M_prove 134 = .ok (.ifCond .eq 12, 3) := by decide +kernel
theorem d_M_prove_137 : decode b_M_prove 137 = .ok (.aload_n 0, 1) := by decide +kernel
theorem d_M_prove_138 : decode b_M_prove 138 = .ok (.getfield 36, 3) := by decide +kernel
theorem d_M_prove_141 : decode b_M_prove 141 = .ok (.iload_n 1, 1) := by decide +kernel
theorem d_M_prove_142 : decode b_M_prove 142 = .ok (.iaload, 1) := by decide +kernel
theorem d_M_prove_143 : decode b_M_prove 143 = .ok (.ifCond .ne 7, 3) := by decide +kernel
theorem d_M_prove_146 : decode b_M_prove 146 = .ok (.iconst 0, 1) := by decide +kernel
theorem d_M_prove_147 : decode b_M_prove 147 = .ok (.goto 4, 3) := by decide +kernel
theorem d_M_prove_150 : decode b_M_prove 150 = .ok (.iconst (-1), 1) := by decide +kernel
theorem d_M_prove_151 : decode b_M_prove 151 = .ok (.ireturn, 1) := by decide +kernel
theorem d_M_rows_0 : decode b_M_rows 0 = .ok (.aload_n 0, 1) := by decide +kernel
theorem d_M_rows_1 : decode b_M_rows 1 = .ok (.iconst 0, 1) := by decide +kernel
theorem d_M_rows_2 : decode b_M_rows 2 = .ok (.putfield 48, 3) := by decide +kernel
theorem d_M_rows_5 : decode b_M_rows 5 = .ok (.aload_n 0, 1) := by decide +kernel
theorem d_M_rows_6 : decode b_M_rows 6 = .ok (.getfield 54, 3) := by decide +kernel
theorem d_M_rows_9 : decode b_M_rows 9 = .ok (.aload_n 0, 1) := by decide +kernel
theorem d_M_rows_10 : decode b_M_rows 10 = .ok (.getfield 51, 3) := by decide +kernel
theorem d_M_rows_13 : decode b_M_rows 13 = .ok (.imul, 1) := by decide +kernel
theorem d_M_rows_14 : decode b_M_rows 14 = .ok (.ireturn, 1) := by decide +kernel
theorem d_M_bell_0 : decode b_M_bell 0 = .ok (.aload_n 0, 1) := by decide +kernel
theorem d_M_bell_1 : decode b_M_bell 1 = .ok (.iconst 0, 1) := by decide +kernel
theorem d_M_bell_2 : decode b_M_bell 2 = .ok (.putfield 48, 3) := by decide +kernel
theorem d_M_bell_5 : decode b_M_bell 5 = .ok (.iload_n 1, 1) := by decide +kernel
theorem d_M_bell_6 : decode b_M_bell 6 = .ok (.ifCond .lt 24, 3) := by decide +kernel
theorem d_M_bell_9 : decode b_M_bell 9 = .ok (.iload_n 1, 1) := by decide +kernel
theorem d_M_bell_10 : decode b_M_bell 10 = .ok (.aload_n 0, 1) := by decide +kernel
theorem d_M_bell_11 : decode b_M_bell 11 = .ok (.invokevirtual 81, 3) := by decide +kernel
theorem d_M_bell_14 : decode b_M_bell 14 = .ok (.if_icmp .gt 16, 3) := by decide +kernel
theorem d_M_bell_17 : decode b_M_bell 17 = .ok (.iload_n 2, 1) := by decide +kernel
theorem d_M_bell_18 : decode b_M_bell 18 = .ok (.iconst 1, 1) := by decide +kernel
theorem d_M_bell_19 : decode b_M_bell 19 = .ok (.if_icmp .lt 11, 3) := by decide +kernel
theorem d_M_bell_22 : decode b_M_bell 22 = .ok (.iload_n 2, 1) := by decide +kernel
theorem d_M_bell_23 : decode b_M_bell 23 = .ok (.aload_n 0, 1) := by decide +kernel
theorem d_M_bell_24 : decode b_M_bell 24 = .ok (.getfield 7, 3) := by decide +kernel
theorem d_M_bell_27 : decode b_M_bell 27 = .ok (.if_icmp .le 7, 3) := by decide +kernel
theorem d_M_bell_30 : decode b_M_bell 30 = .ok (.iconst (-1), 1) := by decide +kernel
theorem d_M_bell_31 : decode b_M_bell 31 = .ok (.goto 16, 3) := by decide +kernel
theorem d_M_bell_34 : decode b_M_bell 34 = .ok (.aload_n 0, 1) := by decide +kernel
theorem d_M_bell_35 : decode b_M_bell 35 = .ok (.getfield 33, 3) := by decide +kernel
theorem d_M_bell_38 : decode b_M_bell 38 = .ok (.bipush 6, 2) := by decide +kernel
theorem d_M_bell_40 : decode b_M_bell 40 = .ok (.iload_n 1, 1) := by decide +kernel
theorem d_M_bell_41 : decode b_M_bell 41 = .ok (.imul, 1) := by decide +kernel
theorem d_M_bell_42 : decode b_M_bell 42 = .ok (.iload_n 2, 1) := by decide +kernel
theorem d_M_bell_43 : decode b_M_bell 43 = .ok (.iadd, 1) := by decide +kernel
theorem d_M_bell_44 : decode b_M_bell 44 = .ok (.iconst 1, 1) := by decide +kernel
theorem d_M_bell_45 : decode b_M_bell 45 = .ok (.isub, 1) := by decide +kernel
theorem d_M_bell_46 : decode b_M_bell 46 = .ok (.iaload, 1) := by decide +kernel
theorem d_M_bell_47 : decode b_M_bell 47 = .ok (.ireturn, 1) := by decide +kernel
theorem d_M_rank_0 : decode b_M_rank 0 = .ok (.aload_n 0, 1) := by decide +kernel
theorem d_M_rank_1 : decode b_M_rank 1 = .ok (.iconst 0, 1) := by decide +kernel
theorem d_M_rank_2 : decode b_M_rank 2 = .ok (.putfield 48, 3) := by decide +kernel
theorem d_M_rank_5 : decode b_M_rank 5 = .ok (.iload_n 1, 1) := by decide +kernel
theorem d_M_rank_6 : decode b_M_rank 6 = .ok (.ifCond .lt 11, 3) := by decide +kernel
theorem d_M_rank_9 : decode b_M_rank 9 = .ok (.iload_n 1, 1) := by decide +kernel
theorem d_M_rank_10 : decode b_M_rank 10 = .ok (.aload_n 0, 1) := by decide +kernel
theorem d_M_rank_11 : decode b_M_rank 11 = .ok (.invokevirtual 81, 3) := by decide +kernel
theorem d_M_rank_14 : decode b_M_rank 14 = .ok (.if_icmp .le 7, 3) := by decide +kernel
theorem d_M_rank_17 : decode b_M_rank 17 = .ok (.iconst (-1), 1) := by decide +kernel
theorem d_M_rank_18 : decode b_M_rank 18 = .ok (.goto 9, 3) := by decide +kernel
theorem d_M_rank_21 : decode b_M_rank 21 = .ok (.aload_n 0, 1) := by decide +kernel
theorem d_M_rank_22 : decode b_M_rank 22 = .ok (.getfield 36, 3) := by decide +kernel
theorem d_M_rank_25 : decode b_M_rank 25 = .ok (.iload_n 1, 1) := by decide +kernel
theorem d_M_rank_26 : decode b_M_rank 26 = .ok (.iaload, 1) := by decide +kernel
theorem d_M_rank_27 : decode b_M_rank 27 = .ok (.ireturn, 1) := by decide +kernel
theorem d_M_all_0 : decode b_M_all 0 = .ok (.iconst 1, 1) := by decide +kernel
theorem d_M_all_1 : decode b_M_all 1 = .ok (.istore_n 1, 1) := by decide +kernel
theorem d_M_all_2 : decode b_M_all 2 = .ok (.iconst 2, 1) := by decide +kernel
theorem d_M_all_3 : decode b_M_all 3 = .ok (.istore_n 2, 1) := by decide +kernel
theorem d_M_all_4 : decode b_M_all 4 = .ok (.iload_n 2, 1) := by decide +kernel
theorem d_M_all_5 : decode b_M_all 5 = .ok (.aload_n 0, 1) := by decide +kernel
theorem d_M_all_6 : decode b_M_all 6 = .ok (.getfield 7, 3) := by decide +kernel
theorem d_M_all_9 : decode b_M_all 9 = .ok (.if_icmp .gt 13, 3) := by decide +kernel
theorem d_M_all_12 : decode b_M_all 12 = .ok (.iload_n 1, 1) := by decide +kernel
theorem d_M_all_13 : decode b_M_all 13 = .ok (.iload_n 2, 1) := by decide +kernel
theorem d_M_all_14 : decode b_M_all 14 = .ok (.imul, 1) := by decide +kernel
theorem d_M_all_15 : decode b_M_all 15 = .ok (.istore_n 1, 1) := by decide +kernel
theorem d_M_all_16 : decode b_M_all 16 = .ok (.iinc 2 1, 3) := by decide +kernel
theorem d_M_all_19 : decode b_M_all 19 = .ok (.goto (-15), 3) := by decide +kernel
theorem d_M_all_22 : decode b_M_all 22 = .ok (.iload_n 1, 1) := by decide +kernel
theorem d_M_all_23 : decode b_M_all 23 = .ok (.ireturn, 1) := by decide +kernel
theorem d_M_setRow_0 : decode b_M_setRow 0 = .ok (.iload_n 1, 1) := by decide +kernel
theorem d_M_setRow_1 : decode b_M_setRow 1 = .ok (.istore_n 2, 1) := by decide +kernel
theorem d_M_setRow_2 : decode b_M_setRow 2 = .ok (.aload_n 0, 1) := by decide +kernel
theorem d_M_setRow_3 : decode b_M_setRow 3 = .ok (.invokevirtual 85, 3) := by decide +kernel
theorem d_M_setRow_6 : decode b_M_setRow 6 = .ok (.istore_n 3, 1) := by decide +kernel
theorem d_M_setRow_7 : decode b_M_setRow 7 = .ok (.iconst 0, 1) := by decide +kernel
theorem d_M_setRow_8 : decode b_M_setRow 8 = .ok (.istore 4, 2) := by decide +kernel
theorem d_M_setRow_10 : decode b_M_setRow 10 = .ok (.iconst 0, 1) := by decide +kernel
theorem d_M_setRow_11 : decode b_M_setRow 11 = .ok (.istore 5, 2) := by decide +kernel
theorem d_M_setRow_13 : decode b_M_setRow 13 = .ok (.iload 5, 2) := by decide +kernel
theorem d_M_setRow_15 : decode b_M_setRow 15 = .ok (.aload_n 0, 1) := by decide +kernel
theorem d_M_setRow_16 : decode b_M_setRow 16 = .ok (.getfield 7, 3) := by decide +kernel
theorem d_M_setRow_19 : decode b_M_setRow 19 = .ok (.if_icmp .ge 96, 3) := by decide +kernel
theorem d_M_setRow_22 : decode b_M_setRow 22 = .ok (.iload_n 3, 1) := by decide +kernel
theorem d_M_setRow_23 : decode b_M_setRow 23 = .ok (.aload_n 0, 1) := by decide +kernel
theorem d_M_setRow_24 : decode b_M_setRow 24 = .ok (.getfield 7, 3) := by decide +kernel
theorem d_M_setRow_27 : decode b_M_setRow 27 = .ok (.iload 5, 2) := by decide +kernel
theorem d_M_setRow_29 : decode b_M_setRow 29 = .ok (.isub, 1) := by decide +kernel
theorem d_M_setRow_30 : decode b_M_setRow 30 = .ok (.idiv, 1) := by decide +kernel
theorem d_M_setRow_31 : decode b_M_setRow 31 = .ok (.istore_n 3, 1) := by decide +kernel
theorem d_M_setRow_32 : decode b_M_setRow 32 = .ok (.iload_n 2, 1) := by decide +kernel
theorem d_M_setRow_33 : decode b_M_setRow 33 = .ok (.iload_n 3, 1) := by decide +kernel
theorem d_M_setRow_34 : decode b_M_setRow 34 = .ok (.idiv, 1) := by decide +kernel
theorem d_M_setRow_35 : decode b_M_setRow 35 = .ok (.istore 6, 2) := by decide +kernel
theorem d_M_setRow_37 : decode b_M_setRow 37 = .ok (.iload_n 2, 1) := by decide +kernel
theorem d_M_setRow_38 : decode b_M_setRow 38 = .ok (.iload_n 3, 1) := by decide +kernel
theorem d_M_setRow_39 : decode b_M_setRow 39 = .ok (.irem, 1) := by decide +kernel
theorem d_M_setRow_40 : decode b_M_setRow 40 = .ok (.istore_n 2, 1) := by decide +kernel
theorem d_M_setRow_41 : decode b_M_setRow 41 = .ok (.iconst 1, 1) := by decide +kernel
theorem d_M_setRow_42 : decode b_M_setRow 42 = .ok (.istore 7, 2) := by decide +kernel
theorem d_M_setRow_44 : decode b_M_setRow 44 = .ok (.iload 6, 2) := by decide +kernel
theorem d_M_setRow_46 : decode b_M_setRow 46 = .ok (.ifCond .gt 14, 3) := by decide +kernel
theorem d_M_setRow_49 : decode b_M_setRow 49 = .ok (.iload 4, 2) := by decide +kernel
theorem d_M_setRow_51 : decode b_M_setRow 51 = .ok (.iload 7, 2) := by decide +kernel
theorem d_M_setRow_53 : decode b_M_setRow 53 = .ok (.ishr, 1) := by decide +kernel
theorem d_M_setRow_54 : decode b_M_setRow 54 = .ok (.iconst 1, 1) := by decide +kernel
theorem d_M_setRow_55 : decode b_M_setRow 55 = .ok (.iand, 1) := by decide +kernel
theorem d_M_setRow_56 : decode b_M_setRow 56 = .ok (.iconst 1, 1) := by decide +kernel
theorem d_M_setRow_57 : decode b_M_setRow 57 = .ok (.if_icmp .ne 34, 3) := by decide +kernel
theorem d_M_setRow_60 : decode b_M_setRow 60 = .ok (.iload 4, 2) := by decide +kernel
theorem d_M_setRow_62 : decode b_M_setRow 62 = .ok (.iload 7, 2) := by decide +kernel
theorem d_M_setRow_64 : decode b_M_setRow 64 = .ok (.ishr, 1) := by decide +kernel
theorem d_M_setRow_65 : decode b_M_setRow 65 = .ok (.iconst 1, 1) := by decide +kernel
theorem d_M_setRow_66 : decode b_M_setRow 66 = .ok (.iand, 1) := by decide +kernel
theorem d_M_setRow_67 : decode b_M_setRow 67 = .ok (.iconst 1, 1) := by decide +kernel
theorem d_M_setRow_68 : decode b_M_setRow 68 = .ok (.if_icmp .ne 8, 3) := by decide +kernel
theorem d_M_setRow_71 : decode b_M_setRow 71 = .ok (.iload 6, 2) := by decide +kernel
theorem d_M_setRow_73 : decode b_M_setRow 73 = .ok (.goto 7, 3) := by decide +kernel
theorem d_M_setRow_76 : decode b_M_setRow 76 = .ok (.iload 6, 2) := by decide +kernel
theorem d_M_setRow_78 : decode b_M_setRow 78 = .ok (.iconst 1, 1) := by decide +kernel
theorem d_M_setRow_79 : decode b_M_setRow 79 = .ok (.isub, 1) := by decide +kernel
theorem d_M_setRow_80 : decode b_M_setRow 80 = .ok (.istore 6, 2) := by decide +kernel
theorem d_M_setRow_82 : decode b_M_setRow 82 = .ok (.iload 7, 2) := by decide +kernel
theorem d_M_setRow_84 : decode b_M_setRow 84 = .ok (.iconst 1, 1) := by decide +kernel
theorem d_M_setRow_85 : decode b_M_setRow 85 = .ok (.iadd, 1) := by decide +kernel
theorem d_M_setRow_86 : decode b_M_setRow 86 = .ok (.istore 7, 2) := by decide +kernel
theorem d_M_setRow_88 : decode b_M_setRow 88 = .ok (.goto (-44), 3) := by decide +kernel
theorem d_M_setRow_91 : decode b_M_setRow 91 = .ok (.iload 4, 2) := by decide +kernel
theorem d_M_setRow_93 : decode b_M_setRow 93 = .ok (.iconst 1, 1) := by decide +kernel
theorem d_M_setRow_94 : decode b_M_setRow 94 = .ok (.iload 7, 2) := by decide +kernel
theorem d_M_setRow_96 : decode b_M_setRow 96 = .ok (.ishl, 1) := by decide +kernel
theorem d_M_setRow_97 : decode b_M_setRow 97 = .ok (.ior, 1) := by decide +kernel
theorem d_M_setRow_98 : decode b_M_setRow 98 = .ok (.istore 4, 2) := by decide +kernel
theorem d_M_setRow_100 : decode b_M_setRow 100 = .ok (.aload_n 0, 1) := by decide +kernel
theorem d_M_setRow_101 : decode b_M_setRow 101 = .ok (.getfield 33, 3) := by decide +kernel
theorem d_M_setRow_104 : decode b_M_setRow 104 = .ok (.iload 5, 2) := by decide +kernel
theorem d_M_setRow_106 : decode b_M_setRow 106 = .ok (.iload 7, 2) := by decide +kernel
theorem d_M_setRow_108 : decode b_M_setRow 108 = .ok (.iastore, 1) := by decide +kernel
theorem d_M_setRow_109 : decode b_M_setRow 109 = .ok (.iinc 5 1, 3) := by decide +kernel
theorem d_M_setRow_112 : decode b_M_setRow 112 = .ok (.goto (-99), 3) := by decide +kernel
theorem d_M_setRow_115 : decode b_M_setRow 115 = .ok (.aload_n 0, 1) := by decide +kernel
theorem d_M_setRow_116 : decode b_M_setRow 116 = .ok (.getfield 36, 3) := by decide +kernel
theorem d_M_setRow_119 : decode b_M_setRow 119 = .ok (.iconst 0, 1) := by decide +kernel
theorem d_M_setRow_120 : decode b_M_setRow 120 = .ok (.iload_n 1, 1) := by decide +kernel
theorem d_M_setRow_121 : decode b_M_setRow 121 = .ok (.iastore, 1) := by decide +kernel
theorem d_M_setRow_122 : decode b_M_setRow 122 = .ok (.return_, 1) := by decide +kernel
theorem d_M_isRank_0 : decode b_M_isRank 0 = .ok (.iload_n 1, 1) := by decide +kernel
theorem d_M_isRank_1 : decode b_M_isRank 1 = .ok (.ifCond .lt 15, 3) := by decide +kernel
theorem d_M_isRank_4 : decode b_M_isRank 4 = .ok (.iload_n 1, 1) := by decide +kernel
theorem d_M_isRank_5 : decode b_M_isRank 5 = .ok (.aload_n 0, 1) := by decide +kernel
theorem d_M_isRank_6 : decode b_M_isRank 6 = .ok (.invokevirtual 85, 3) := by decide +kernel
theorem d_M_isRank_9 : decode b_M_isRank 9 = .ok (.if_icmp .ge 7, 3) := by decide +kernel
theorem d_M_isRank_12 : decode b_M_isRank 12 = .ok (.iconst 1, 1) := by decide +kernel
theorem d_M_isRank_13 : decode b_M_isRank 13 = .ok (.goto 4, 3) := by decide +kernel
theorem d_M_isRank_16 : decode b_M_isRank 16 = .ok (.iconst 0, 1) := by decide +kernel
theorem d_M_isRank_17 : decode b_M_isRank 17 = .ok (.ireturn, 1) := by decide +kernel
theorem d_M_unrank_0 : decode b_M_unrank 0 = .ok (.aload_n 0, 1) := by decide +kernel
theorem d_M_unrank_1 : decode b_M_unrank 1 = .ok (.iconst 0, 1) := by decide +kernel
theorem d_M_unrank_2 : decode b_M_unrank 2 = .ok (.putfield 48, 3) := by decide +kernel
theorem d_M_unrank_5 : decode b_M_unrank 5 = .ok (.aload_n 0, 1) := by decide +kernel
theorem d_M_unrank_6 : decode b_M_unrank 6 = .ok (.iload_n 1, 1) := by decide +kernel
theorem d_M_unrank_7 : decode b_M_unrank 7 = .ok (.invokevirtual 88, 3) := by decide +kernel
theorem d_M_unrank_10 : decode b_M_unrank 10 = .ok (.ifCond .eq 16, 3) := by decide +kernel
theorem d_M_unrank_13 : decode b_M_unrank 13 = .ok (.iload_n 2, 1) := by decide +kernel
theorem d_M_unrank_14 : decode b_M_unrank 14 = .ok (.iconst 1, 1) := by decide +kernel
theorem d_M_unrank_15 : decode b_M_unrank 15 = .ok (.if_icmp .lt 11, 3) := by decide +kernel
theorem d_M_unrank_18 : decode b_M_unrank 18 = .ok (.iload_n 2, 1) := by decide +kernel
theorem d_M_unrank_19 : decode b_M_unrank 19 = .ok (.aload_n 0, 1) := by decide +kernel
theorem d_M_unrank_20 : decode b_M_unrank 20 = .ok (.getfield 7, 3) := by decide +kernel
theorem d_M_unrank_23 : decode b_M_unrank 23 = .ok (.if_icmp .le 5, 3) := by decide +kernel
theorem d_M_unrank_26 : decode b_M_unrank 26 = .ok (.iconst (-1), 1) := by decide +kernel
theorem d_M_unrank_27 : decode b_M_unrank 27 = .ok (.ireturn, 1) := by decide +kernel
theorem d_M_unrank_28 : decode b_M_unrank 28 = .ok (.aload_n 0, 1) := by decide +kernel
theorem d_M_unrank_29 : decode b_M_unrank 29 = .ok (.iload_n 1, 1) := by decide +kernel
theorem d_M_unrank_30 : decode b_M_unrank 30 = .ok (.invokevirtual 91, 3) := by decide +kernel
theorem d_M_unrank_33 : decode b_M_unrank 33 = .ok (.aload_n 0, 1) := by decide +kernel
theorem d_M_unrank_34 : decode b_M_unrank 34 = .ok (.getfield 33, 3) := by decide +kernel
theorem d_M_unrank_37 : decode b_M_unrank 37 = .ok (.iload_n 2, 1) := by decide +kernel
theorem d_M_unrank_38 : decode b_M_unrank 38 = .ok (.iconst 1, 1) := by decide +kernel
theorem d_M_unrank_39 : decode b_M_unrank 39 = .ok (.isub, 1) := by decide +kernel
theorem d_M_unrank_40 : decode b_M_unrank 40 = .ok (.iaload, 1) := by decide +kernel
theorem d_M_unrank_41 : decode b_M_unrank 41 = .ok (.ireturn, 1) := by decide +kernel
theorem d_M_course_0 : decode b_M_course 0 = .ok (.aload_n 0, 1) := by decide +kernel
theorem d_M_course_1 : decode b_M_course 1 = .ok (.aload_n 0, 1) := by decide +kernel
theorem d_M_course_2 : decode b_M_course 2 = .ok (.getfield 51, 3) := by decide +kernel
theorem d_M_course_5 : decode b_M_course 5 = .ok (.ifCond .ne 7, 3) := by decide +kernel
theorem d_M_course_8 : decode b_M_course 8 = .ok (.iconst 1, 1) := by decide +kernel
theorem d_M_course_9 : decode b_M_course 9 = .ok (.goto 4, 3) := by decide +kernel
theorem d_M_course_12 : decode b_M_course 12 = .ok (.iconst 0, 1) := by decide +kernel
theorem d_M_course_13 : decode b_M_course 13 = .ok (.putfield 48, 3) := by decide +kernel
theorem d_M_course_16 : decode b_M_course 16 = .ok (.aload_n 0, 1) := by decide +kernel
theorem d_M_course_17 : decode b_M_course 17 = .ok (.getfield 48, 3) := by decide +kernel
theorem d_M_course_20 : decode b_M_course 20 = .ok (.ifCond .le 5, 3) := by decide +kernel
theorem d_M_course_23 : decode b_M_course 23 = .ok (.iconst 0, 1) := by decide +kernel
theorem d_M_course_24 : decode b_M_course 24 = .ok (.ireturn, 1) := by decide +kernel
theorem d_M_course_25 : decode b_M_course 25 = .ok (.aload_n 0, 1) := by decide +kernel
theorem d_M_course_26 : decode b_M_course 26 = .ok (.iconst 0, 1) := by decide +kernel
theorem d_M_course_27 : decode b_M_course 27 = .ok (.invokevirtual 72, 3) := by decide +kernel
theorem d_M_course_30 : decode b_M_course 30 = .ok (.iconst 0, 1) := by decide +kernel
theorem d_M_course_31 : decode b_M_course 31 = .ok (.istore_n 1, 1) := by decide +kernel
theorem d_M_course_32 : decode b_M_course 32 = .ok (.iconst 1, 1) := by decide +kernel
theorem d_M_course_33 : decode b_M_course 33 = .ok (.istore_n 2, 1) := by decide +kernel
theorem d_M_course_34 : decode b_M_course 34 = .ok (.iload_n 2, 1) := by decide +kernel
theorem d_M_course_35 : decode b_M_course 35 = .ok (.ifCond .eq 70, 3) := by decide +kernel
theorem d_M_course_38 : decode b_M_course 38 = .ok (.aload_n 0, 1) := by decide +kernel
theorem d_M_course_39 : decode b_M_course 39 = .ok (.iconst 0, 1) := by decide +kernel
theorem d_M_course_40 : decode b_M_course 40 = .ok (.iconst 0, 1) := by decide +kernel
theorem d_M_course_41 : decode b_M_course 41 = .ok (.invokevirtual 75, 3) := by decide +kernel
theorem d_M_course_44 : decode b_M_course 44 = .ok (.iload_n 1, 1) := by decide +kernel
theorem d_M_course_45 : decode b_M_course 45 = .ok (.iconst 1, 1) := by decide +kernel
theorem d_M_course_46 : decode b_M_course 46 = .ok (.iadd, 1) := by decide +kernel
theorem d_M_course_47 : decode b_M_course 47 = .ok (.istore_n 1, 1) := by decide +kernel
theorem d_M_course_48 : decode b_M_course 48 = .ok (.aload_n 0, 1) := by decide +kernel
theorem d_M_course_49 : decode b_M_course 49 = .ok (.getfield 36, 3) := by decide +kernel
theorem d_M_course_52 : decode b_M_course 52 = .ok (.aload_n 0, 1) := by decide +kernel
theorem d_M_course_53 : decode b_M_course 53 = .ok (.getfield 51, 3) := by decide +kernel
theorem d_M_course_56 : decode b_M_course 56 = .ok (.iaload, 1) := by decide +kernel
theorem d_M_course_57 : decode b_M_course 57 = .ok (.ifCond .eq 7, 3) := by decide +kernel
theorem d_M_course_60 : decode b_M_course 60 = .ok (.iconst 1, 1) := by decide +kernel
theorem d_M_course_61 : decode b_M_course 61 = .ok (.goto 4, 3) := by decide +kernel
theorem d_M_course_64 : decode b_M_course 64 = .ok (.iconst 0, 1) := by decide +kernel
theorem d_M_course_65 : decode b_M_course 65 = .ok (.istore_n 2, 1) := by decide +kernel
theorem d_M_course_66 : decode b_M_course 66 = .ok (.iconst 0, 1) := by decide +kernel
theorem d_M_course_67 : decode b_M_course 67 = .ok (.istore_n 3, 1) := by decide +kernel
theorem d_M_course_68 : decode b_M_course 68 = .ok (.iload_n 3, 1) := by decide +kernel
theorem d_M_course_69 : decode b_M_course 69 = .ok (.aload_n 0, 1) := by decide +kernel
theorem d_M_course_70 : decode b_M_course 70 = .ok (.getfield 7, 3) := by decide +kernel
theorem d_M_course_73 : decode b_M_course 73 = .ok (.if_icmp .ge 29, 3) := by decide +kernel
theorem d_M_course_76 : decode b_M_course 76 = .ok (.aload_n 0, 1) := by decide +kernel
theorem d_M_course_77 : decode b_M_course 77 = .ok (.getfield 33, 3) := by decide +kernel
theorem d_M_course_80 : decode b_M_course 80 = .ok (.iload_n 3, 1) := by decide +kernel
theorem d_M_course_81 : decode b_M_course 81 = .ok (.aload_n 0, 1) := by decide +kernel
theorem d_M_course_82 : decode b_M_course 82 = .ok (.getfield 33, 3) := by decide +kernel
theorem d_M_course_85 : decode b_M_course 85 = .ok (.bipush 6, 2) := by decide +kernel
theorem d_M_course_87 : decode b_M_course 87 = .ok (.aload_n 0, 1) := by decide +kernel
theorem d_M_course_88 : decode b_M_course 88 = .ok (.getfield 51, 3) := by decide +kernel
theorem d_M_course_91 : decode b_M_course 91 = .ok (.imul, 1) := by decide +kernel
theorem d_M_course_92 : decode b_M_course 92 = .ok (.iload_n 3, 1) := by decide +kernel
theorem d_M_course_93 : decode b_M_course 93 = .ok (.iadd, 1) := by decide +kernel
theorem d_M_course_94 : decode b_M_course 94 = .ok (.iaload, 1) := by decide +kernel
theorem d_M_course_95 : decode b_M_course 95 = .ok (.iastore, 1) := by decide +kernel
theorem d_M_course_96 : decode b_M_course 96 = .ok (.iinc 3 1, 3) := by decide +kernel
theorem d_M_course_99 : decode b_M_course 99 = .ok (.goto (-31), 3) := by decide +kernel
theorem d_M_course_102 : decode b_M_course 102 = .ok (.goto (-68), 3) := by decide +kernel
theorem d_M_course_105 : decode b_M_course 105 = .ok (.iload_n 1, 1) := by decide +kernel
theorem d_M_course_106 : decode b_M_course 106 = .ok (.ireturn, 1) := by decide +kernel
theorem d_M_falseLeads_0 : decode b_M_falseLeads 0 = .ok (.aload_n 0, 1) := by decide +kernel
theorem d_M_falseLeads_1 : decode b_M_falseLeads 1 = .ok (.aload_n 0, 1) := by decide +kernel
theorem d_M_falseLeads_2 : decode b_M_falseLeads 2 = .ok (.getfield 51, 3) := by decide +kernel
theorem d_M_falseLeads_5 : decode b_M_falseLeads 5 = .ok (.ifCond .ne 7, 3) := by decide +kernel
theorem d_M_falseLeads_8 : decode b_M_falseLeads 8 = .ok (.iconst 1, 1) := by decide +kernel
theorem d_M_falseLeads_9 : decode b_M_falseLeads 9 = .ok (.goto 24, 3) := by decide +kernel
theorem d_M_falseLeads_12 : decode b_M_falseLeads 12 = .ok (.aload_n 0, 1) := by decide +kernel
theorem d_M_falseLeads_13 : decode b_M_falseLeads 13 = .ok (.iload_n 1, 1) := by decide +kernel
theorem d_M_falseLeads_14 : decode b_M_falseLeads 14 = .ok (.invokevirtual 88, 3) := by decide +kernel
theorem d_M_falseLeads_17 : decode b_M_falseLeads 17 = .ok (.ifCond .eq 11, 3) := by decide +kernel
theorem d_M_falseLeads_20 : decode b_M_falseLeads 20 = .ok (.aload_n 0, 1) := by decide +kernel
theorem d_M_falseLeads_21 : decode b_M_falseLeads 21 = .ok (.iload_n 2, 1) := by decide +kernel
theorem d_M_falseLeads_22 : decode b_M_falseLeads 22 = .ok (.invokevirtual 88, 3) := by decide +kernel
theorem d_M_falseLeads_25 : decode b_M_falseLeads 25 = .ok (.ifCond .ne 7, 3) := by decide +kernel
theorem d_M_falseLeads_28 : decode b_M_falseLeads 28 = .ok (.iconst 2, 1) := by decide +kernel
theorem d_M_falseLeads_29 : decode b_M_falseLeads 29 = .ok (.goto 4, 3) := by decide +kernel
theorem d_M_falseLeads_32 : decode b_M_falseLeads 32 = .ok (.iconst 0, 1) := by decide +kernel
theorem d_M_falseLeads_33 : decode b_M_falseLeads 33 = .ok (.putfield 48, 3) := by decide +kernel
theorem d_M_falseLeads_36 : decode b_M_falseLeads 36 = .ok (.aload_n 0, 1) := by decide +kernel
theorem d_M_falseLeads_37 : decode b_M_falseLeads 37 = .ok (.getfield 48, 3) := by decide +kernel
theorem d_M_falseLeads_40 : decode b_M_falseLeads 40 = .ok (.ifCond .le 5, 3) := by decide +kernel
theorem d_M_falseLeads_43 : decode b_M_falseLeads 43 = .ok (.iconst 0, 1) := by decide +kernel
theorem d_M_falseLeads_44 : decode b_M_falseLeads 44 = .ok (.ireturn, 1) := by decide +kernel
theorem d_M_falseLeads_45 : decode b_M_falseLeads 45 = .ok (.iconst 0, 1) := by decide +kernel
theorem d_M_falseLeads_46 : decode b_M_falseLeads 46 = .ok (.istore_n 3, 1) := by decide +kernel
theorem d_M_falseLeads_47 : decode b_M_falseLeads 47 = .ok (.iload_n 3, 1) := by decide +kernel
theorem d_M_falseLeads_48 : decode b_M_falseLeads 48 = .ok (.sipush 720, 3) := by decide +kernel
theorem d_M_falseLeads_51 : decode b_M_falseLeads 51 = .ok (.if_icmp .ge 16, 3) := by decide +kernel
theorem d_M_falseLeads_54 : decode b_M_falseLeads 54 = .ok (.aload_n 0, 1) := by decide +kernel
theorem d_M_falseLeads_55 : decode b_M_falseLeads 55 = .ok (.getfield 45, 3) := by decide +kernel
theorem d_M_falseLeads_58 : decode b_M_falseLeads 58 = .ok (.iload_n 3, 1) := by decide +kernel
theorem d_M_falseLeads_59 : decode b_M_falseLeads 59 = .ok (.iconst 0, 1) := by decide +kernel
theorem d_M_falseLeads_60 : decode b_M_falseLeads 60 = .ok (.iastore, 1) := by decide +kernel
theorem d_M_falseLeads_61 : decode b_M_falseLeads 61 = .ok (.iinc 3 1, 3) := by decide +kernel
theorem d_M_falseLeads_64 : decode b_M_falseLeads 64 = .ok (.goto (-17), 3) := by decide +kernel
theorem d_M_falseLeads_67 : decode b_M_falseLeads 67 = .ok (.aload_n 0, 1) := by decide +kernel
theorem d_M_falseLeads_68 : decode b_M_falseLeads 68 = .ok (.iload_n 1, 1) := by decide +kernel
theorem d_M_falseLeads_69 : decode b_M_falseLeads 69 = .ok (.invokevirtual 91, 3) := by decide +kernel
theorem d_M_falseLeads_72 : decode b_M_falseLeads 72 = .ok (.aload_n 0, 1) := by decide +kernel
theorem d_M_falseLeads_73 : decode b_M_falseLeads 73 = .ok (.iconst 0, 1) := by decide +kernel
theorem d_M_falseLeads_74 : decode b_M_falseLeads 74 = .ok (.iconst 0, 1) := by decide +kernel
theorem d_M_falseLeads_75 : decode b_M_falseLeads 75 = .ok (.invokevirtual 75, 3) := by decide +kernel
theorem d_M_falseLeads_78 : decode b_M_falseLeads 78 = .ok (.iconst 1, 1) := by decide +kernel
theorem d_M_falseLeads_79 : decode b_M_falseLeads 79 = .ok (.istore_n 3, 1) := by decide +kernel
theorem d_M_falseLeads_80 : decode b_M_falseLeads 80 = .ok (.iload_n 3, 1) := by decide +kernel
theorem d_M_falseLeads_81 : decode b_M_falseLeads 81 = .ok (.aload_n 0, 1) := by decide +kernel
theorem d_M_falseLeads_82 : decode b_M_falseLeads 82 = .ok (.getfield 51, 3) := by decide +kernel
theorem d_M_falseLeads_85 : decode b_M_falseLeads 85 = .ok (.if_icmp .gt 21, 3) := by decide +kernel
theorem d_M_falseLeads_88 : decode b_M_falseLeads 88 = .ok (.aload_n 0, 1) := by decide +kernel
theorem d_M_falseLeads_89 : decode b_M_falseLeads 89 = .ok (.getfield 45, 3) := by decide +kernel
theorem d_M_falseLeads_92 : decode b_M_falseLeads 92 = .ok (.aload_n 0, 1) := by decide +kernel
theorem d_M_falseLeads_93 : decode b_M_falseLeads 93 = .ok (.getfield 36, 3) := by decide +kernel
theorem d_M_falseLeads_96 : decode b_M_falseLeads 96 = .ok (.iload_n 3, 1) := by decide +kernel
theorem d_M_falseLeads_97 : decode b_M_falseLeads 97 = .ok (.iaload, 1) := by decide +kernel
theorem d_M_falseLeads_98 : decode b_M_falseLeads 98 = .ok (.iconst 1, 1) := by decide +kernel
theorem d_M_falseLeads_99 : decode b_M_falseLeads 99 = .ok (.iastore, 1) := by decide +kernel
theorem d_M_falseLeads_100 : decode b_M_falseLeads 100 = .ok (.iinc 3 1, 3) := by decide +kernel
theorem d_M_falseLeads_103 : decode b_M_falseLeads 103 = .ok (.goto (-23), 3) := by decide +kernel
theorem d_M_falseLeads_106 : decode b_M_falseLeads 106 = .ok (.aload_n 0, 1) := by decide +kernel
theorem d_M_falseLeads_107 : decode b_M_falseLeads 107 = .ok (.iload_n 2, 1) := by decide +kernel
theorem d_M_falseLeads_108 : decode b_M_falseLeads 108 = .ok (.invokevirtual 91, 3) := by decide +kernel
theorem d_M_falseLeads_111 : decode b_M_falseLeads 111 = .ok (.aload_n 0, 1) := by decide +kernel
theorem d_M_falseLeads_112 : decode b_M_falseLeads 112 = .ok (.iconst 0, 1) := by decide +kernel
theorem d_M_falseLeads_113 : decode b_M_falseLeads 113 = .ok (.iconst 0, 1) := by decide +kernel
theorem d_M_falseLeads_114 : decode b_M_falseLeads 114 = .ok (.invokevirtual 75, 3) := by decide +kernel
theorem d_M_falseLeads_117 : decode b_M_falseLeads 117 = .ok (.iconst 0, 1) := by decide +kernel
theorem d_M_falseLeads_118 : decode b_M_falseLeads 118 = .ok (.istore_n 3, 1) := by decide +kernel
theorem d_M_falseLeads_119 : decode b_M_falseLeads 119 = .ok (.iconst 1, 1) := by decide +kernel
theorem d_M_falseLeads_120 : decode b_M_falseLeads 120 = .ok (.istore 4, 2) := by decide +kernel
theorem d_M_falseLeads_122 : decode b_M_falseLeads 122 = .ok (.iload 4, 2) := by decide +kernel
theorem d_M_falseLeads_124 : decode b_M_falseLeads 124 = .ok (.aload_n 0, 1) := by decide +kernel
theorem d_M_falseLeads_125 : decode b_M_falseLeads 125 = .ok (.getfield 51, 3) := by decide +kernel
theorem d_M_falseLeads_128 : decode b_M_falseLeads 128 = .ok (.if_icmp .gt 35, 3) := by decide +kernel
theorem d_M_falseLeads_131 : decode b_M_falseLeads 131 = .ok (.iload_n 3, 1) := by decide +kernel
theorem d_M_falseLeads_132 : decode b_M_falseLeads 132 = .ok (.ifCond .ne 19, 3) := by decide +kernel
theorem d_M_falseLeads_135 : decode b_M_falseLeads 135 = .ok (.aload_n 0, 1) := by decide +kernel
theorem d_M_falseLeads_136 : decode b_M_falseLeads 136 = .ok (.getfield 45, 3) := by decide +kernel
theorem d_M_falseLeads_139 : decode b_M_falseLeads 139 = .ok (.aload_n 0, 1) := by decide +kernel
theorem d_M_falseLeads_140 : decode b_M_falseLeads 140 = .ok (.getfield 36, 3) := by decide +kernel
theorem d_M_falseLeads_143 : decode b_M_falseLeads 143 = .ok (.iload 4, 2) := by decide +kernel
theorem d_M_falseLeads_145 : decode b_M_falseLeads 145 = .ok (.iaload, 1) := by decide +kernel
theorem d_M_falseLeads_146 : decode b_M_falseLeads 146 = .ok (.iaload, 1) := by decide +kernel
theorem d_M_falseLeads_147 : decode b_M_falseLeads 147 = .ok (.iconst 1, 1) := by decide +kernel
theorem d_M_falseLeads_148 : decode b_M_falseLeads 148 = .ok (.if_icmp .ne 7, 3) := by decide +kernel
theorem d_M_falseLeads_151 : decode b_M_falseLeads 151 = .ok (.iconst 1, 1) := by decide +kernel
theorem d_M_falseLeads_152 : decode b_M_falseLeads 152 = .ok (.goto 4, 3) := by decide +kernel
theorem d_M_falseLeads_155 : decode b_M_falseLeads 155 = .ok (.iconst 0, 1) := by decide +kernel
theorem d_M_falseLeads_156 : decode b_M_falseLeads 156 = .ok (.istore_n 3, 1) := by decide +kernel
theorem d_M_falseLeads_157 : decode b_M_falseLeads 157 = .ok (.iinc 4 1, 3) := by decide +kernel
theorem d_M_falseLeads_160 : decode b_M_falseLeads 160 = .ok (.goto (-38), 3) := by decide +kernel
theorem d_M_falseLeads_163 : decode b_M_falseLeads 163 = .ok (.iload_n 3, 1) := by decide +kernel
theorem d_M_falseLeads_164 : decode b_M_falseLeads 164 = .ok (.ireturn, 1) := by decide +kernel
theorem d_M_tryCall_0 : decode b_M_tryCall 0 = .ok (.aload_n 0, 1) := by decide +kernel
theorem d_M_tryCall_1 : decode b_M_tryCall 1 = .ok (.getfield 39, 3) := by decide +kernel
theorem d_M_tryCall_4 : decode b_M_tryCall 4 = .ok (.iload_n 1, 1) := by decide +kernel
theorem d_M_tryCall_5 : decode b_M_tryCall 5 = .ok (.iload_n 2, 1) := by decide +kernel
theorem d_M_tryCall_6 : decode b_M_tryCall 6 = .ok (.iastore, 1) := by decide +kernel
theorem d_M_tryCall_7 : decode b_M_tryCall 7 = .ok (.aload_n 0, 1) := by decide +kernel
theorem d_M_tryCall_8 : decode b_M_tryCall 8 = .ok (.iload_n 1, 1) := by decide +kernel
theorem d_M_tryCall_9 : decode b_M_tryCall 9 = .ok (.aload_n 0, 1) := by decide +kernel
theorem d_M_tryCall_10 : decode b_M_tryCall 10 = .ok (.getfield 51, 3) := by decide +kernel
theorem d_M_tryCall_13 : decode b_M_tryCall 13 = .ok (.imul, 1) := by decide +kernel
theorem d_M_tryCall_14 : decode b_M_tryCall 14 = .ok (.iload_n 2, 1) := by decide +kernel
theorem d_M_tryCall_15 : decode b_M_tryCall 15 = .ok (.invokevirtual 75, 3) := by decide +kernel
theorem d_M_tryCall_18 : decode b_M_tryCall 18 = .ok (.aload_n 0, 1) := by decide +kernel
theorem d_M_tryCall_19 : decode b_M_tryCall 19 = .ok (.iconst 0, 1) := by decide +kernel
theorem d_M_tryCall_20 : decode b_M_tryCall 20 = .ok (.putfield 94, 3) := by decide +kernel
theorem d_M_tryCall_23 : decode b_M_tryCall 23 = .ok (.iload_n 1, 1) := by decide +kernel
theorem d_M_tryCall_24 : decode b_M_tryCall 24 = .ok (.iconst 1, 1) := by decide +kernel
theorem d_M_tryCall_25 : decode b_M_tryCall 25 = .ok (.iadd, 1) := by decide +kernel
theorem d_M_tryCall_26 : decode b_M_tryCall 26 = .ok (.aload_n 0, 1) := by decide +kernel
theorem d_M_tryCall_27 : decode b_M_tryCall 27 = .ok (.getfield 51, 3) := by decide +kernel
theorem d_M_tryCall_30 : decode b_M_tryCall 30 = .ok (.imul, 1) := by decide +kernel
theorem d_M_tryCall_31 : decode b_M_tryCall 31 = .ok (.istore_n 3, 1) := by decide +kernel
theorem d_M_tryCall_32 : decode b_M_tryCall 32 = .ok (.iload_n 1, 1) := by decide +kernel
theorem d_M_tryCall_33 : decode b_M_tryCall 33 = .ok (.aload_n 0, 1) := by decide +kernel
theorem d_M_tryCall_34 : decode b_M_tryCall 34 = .ok (.getfield 51, 3) := by decide +kernel
theorem d_M_tryCall_37 : decode b_M_tryCall 37 = .ok (.imul, 1) := by decide +kernel
theorem d_M_tryCall_38 : decode b_M_tryCall 38 = .ok (.iconst 1, 1) := by decide +kernel
theorem d_M_tryCall_39 : decode b_M_tryCall 39 = .ok (.iadd, 1) := by decide +kernel
theorem d_M_tryCall_40 : decode b_M_tryCall 40 = .ok (.istore 4, 2) := by decide +kernel
theorem d_M_tryCall_42 : decode b_M_tryCall 42 = .ok (.iload 4, 2) := by decide +kernel
theorem d_M_tryCall_44 : decode b_M_tryCall 44 = .ok (.iload_n 3, 1) := by decide +kernel
theorem d_M_tryCall_45 : decode b_M_tryCall 45 = .ok (.if_icmp .gt 104, 3) := by decide +kernel
theorem d_M_tryCall_48 : decode b_M_tryCall 48 = .ok (.iload 4, 2) := by decide +kernel
theorem d_M_tryCall_50 : decode b_M_tryCall 50 = .ok (.iload_n 3, 1) := by decide +kernel
theorem d_M_tryCall_51 : decode b_M_tryCall 51 = .ok (.if_icmp .ne 27, 3) := by decide +kernel
theorem d_M_tryCall_54 : decode b_M_tryCall 54 = .ok (.aload_n 0, 1) := by decide +kernel
theorem d_M_tryCall_55 : decode b_M_tryCall 55 = .ok (.getfield 36, 3) := by decide +kernel
theorem d_M_tryCall_58 : decode b_M_tryCall 58 = .ok (.iload 4, 2) := by decide +kernel
theorem d_M_tryCall_60 : decode b_M_tryCall 60 = .ok (.iaload, 1) := by decide +kernel
theorem d_M_tryCall_61 : decode b_M_tryCall 61 = .ok (.ifCond .ne 17, 3) := by decide +kernel
theorem d_M_tryCall_64 : decode b_M_tryCall 64 = .ok (.aload_n 0, 1) := by decide +kernel
theorem d_M_tryCall_65 : decode b_M_tryCall 65 = .ok (.getfield 45, 3) := by decide +kernel
theorem d_M_tryCall_68 : decode b_M_tryCall 68 = .ok (.iconst 0, 1) := by decide +kernel
theorem d_M_tryCall_69 : decode b_M_tryCall 69 = .ok (.iaload, 1) := by decide +kernel
theorem d_M_tryCall_70 : decode b_M_tryCall 70 = .ok (.iconst 1, 1) := by decide +kernel
theorem d_M_tryCall_71 : decode b_M_tryCall 71 = .ok (.if_icmp .ne 7, 3) := by decide +kernel
theorem d_M_tryCall_74 : decode b_M_tryCall 74 = .ok (.iconst 1, 1) := by decide +kernel
theorem d_M_tryCall_75 : decode b_M_tryCall 75 = .ok (.goto 4, 3) := by decide +kernel
theorem d_M_tryCall_78 : decode b_M_tryCall 78 = .ok (.iconst 0, 1) := by decide +kernel
theorem d_M_tryCall_79 : decode b_M_tryCall 79 = .ok (.istore 5, 2) := by decide +kernel
theorem d_M_tryCall_81 : decode b_M_tryCall 81 = .ok (.aload_n 0, 1) := by decide +kernel
theorem d_M_tryCall_82 : decode b_M_tryCall 82 = .ok (.aload_n 0, 1) := by decide +kernel
theorem d_M_tryCall_83 : decode b_M_tryCall 83 = .ok (.getfield 94, 3) := by decide +kernel
theorem d_M_tryCall_86 : decode b_M_tryCall 86 = .ok (.ifCond .ne 23, 3) := by decide +kernel
theorem d_M_tryCall_89 : decode b_M_tryCall 89 = .ok (.aload_n 0, 1) := by decide +kernel
theorem d_M_tryCall_90 : decode b_M_tryCall 90 = .ok (.getfield 45, 3) := by decide +kernel
theorem d_M_tryCall_93 : decode b_M_tryCall 93 = .ok (.aload_n 0, 1) := by decide +kernel
theorem d_M_tryCall_94 : decode b_M_tryCall 94 = .ok (.getfield 36, 3) := by decide +kernel
theorem d_M_tryCall_97 : decode b_M_tryCall 97 = .ok (.iload 4, 2) := by decide +kernel
theorem d_M_tryCall_99 : decode b_M_tryCall 99 = .ok (.iaload, 1) := by decide +kernel
theorem d_M_tryCall_100 : decode b_M_tryCall 100 = .ok (.iaload, 1) := by decide +kernel
theorem d_M_tryCall_101 : decode b_M_tryCall 101 = .ok (.ifCond .le 12, 3) := by decide +kernel
theorem d_M_tryCall_104 : decode b_M_tryCall 104 = .ok (.iload 5, 2) := by decide +kernel
theorem d_M_tryCall_106 : decode b_M_tryCall 106 = .ok (.ifCond .ne 7, 3) := by decide +kernel
theorem d_M_tryCall_109 : decode b_M_tryCall 109 = .ok (.iconst 1, 1) := by decide +kernel
theorem d_M_tryCall_110 : decode b_M_tryCall 110 = .ok (.goto 4, 3) := by decide +kernel
theorem d_M_tryCall_113 : decode b_M_tryCall 113 = .ok (.iconst 0, 1) := by decide +kernel
theorem d_M_tryCall_114 : decode b_M_tryCall 114 = .ok (.putfield 94, 3) := by decide +kernel
theorem d_M_tryCall_117 : decode b_M_tryCall 117 = .ok (.aload_n 0, 1) := by decide +kernel
theorem d_M_tryCall_118 : decode b_M_tryCall 118 = .ok (.getfield 45, 3) := by decide +kernel
theorem d_M_tryCall_121 : decode b_M_tryCall 121 = .ok (.aload_n 0, 1) := by decide +kernel
theorem d_M_tryCall_122 : decode b_M_tryCall 122 = .ok (.getfield 36, 3) := by decide +kernel
theorem d_M_tryCall_125 : decode b_M_tryCall 125 = .ok (.iload 4, 2) := by decide +kernel
theorem d_M_tryCall_127 : decode b_M_tryCall 127 = .ok (.iaload, 1) := by decide +kernel
theorem d_M_tryCall_128 : decode b_M_tryCall 128 = .ok (.aload_n 0, 1) := by decide +kernel
theorem d_M_tryCall_129 : decode b_M_tryCall 129 = .ok (.getfield 45, 3) := by decide +kernel
theorem d_M_tryCall_132 : decode b_M_tryCall 132 = .ok (.aload_n 0, 1) := by decide +kernel
theorem d_M_tryCall_133 : decode b_M_tryCall 133 = .ok (.getfield 36, 3) := by decide +kernel
theorem d_M_tryCall_136 : decode b_M_tryCall 136 = .ok (.iload 4, 2) := by decide +kernel
theorem d_M_tryCall_138 : decode b_M_tryCall 138 = .ok (.iaload, 1) := by decide +kernel
theorem d_M_tryCall_139 : decode b_M_tryCall 139 = .ok (.iaload, 1) := by decide +kernel
theorem d_M_tryCall_140 : decode b_M_tryCall 140 = .ok (.iconst 1, 1) := by decide +kernel
theorem d_M_tryCall_141 : decode b_M_tryCall 141 = .ok (.iadd, 1) := by decide +kernel
theorem d_M_tryCall_142 : decode b_M_tryCall 142 = .ok (.iastore, 1) := by decide +kernel
theorem d_M_tryCall_143 : decode b_M_tryCall 143 = .ok (.iinc 4 1, 3) := by decide +kernel
theorem d_M_tryCall_146 : decode b_M_tryCall 146 = .ok (.goto (-104), 3) := by decide +kernel
theorem d_M_tryCall_149 : decode b_M_tryCall 149 = .ok (.return_, 1) := by decide +kernel
theorem d_M_takeBack_0 : decode b_M_takeBack 0 = .ok (.iload_n 1, 1) := by decide +kernel
theorem d_M_takeBack_1 : decode b_M_takeBack 1 = .ok (.aload_n 0, 1) := by decide +kernel
theorem d_M_takeBack_2 : decode b_M_takeBack 2 = .ok (.getfield 51, 3) := by decide +kernel
theorem d_M_takeBack_5 : decode b_M_takeBack 5 = .ok (.imul, 1) := by decide +kernel
theorem d_M_takeBack_6 : decode b_M_takeBack 6 = .ok (.iconst 1, 1) := by decide +kernel
theorem d_M_takeBack_7 : decode b_M_takeBack 7 = .ok (.iadd, 1) := by decide +kernel
theorem d_M_takeBack_8 : decode b_M_takeBack 8 = .ok (.istore_n 2, 1) := by decide +kernel
theorem d_M_takeBack_9 : decode b_M_takeBack 9 = .ok (.iload_n 2, 1) := by decide +kernel
theorem d_M_takeBack_10 : decode b_M_takeBack 10 = .ok (.iload_n 1, 1) := by decide +kernel
theorem d_M_takeBack_11 : decode b_M_takeBack 11 = .ok (.iconst 1, 1) := by decide +kernel
theorem d_M_takeBack_12 : decode b_M_takeBack 12 = .ok (.iadd, 1) := by decide +kernel
theorem d_M_takeBack_13 : decode b_M_takeBack 13 = .ok (.aload_n 0, 1) := by decide +kernel
theorem d_M_takeBack_14 : decode b_M_takeBack 14 = .ok (.getfield 51, 3) := by decide +kernel
theorem d_M_takeBack_17 : decode b_M_takeBack 17 = .ok (.imul, 1) := by decide +kernel
theorem d_M_takeBack_18 : decode b_M_takeBack 18 = .ok (.if_icmp .gt 33, 3) := by decide +kernel
theorem d_M_takeBack_21 : decode b_M_takeBack 21 = .ok (.aload_n 0, 1) := by decide +kernel
theorem d_M_takeBack_22 : decode b_M_takeBack 22 = .ok (.getfield 45, 3) := by decide +kernel
theorem d_M_takeBack_25 : decode b_M_takeBack 25 = .ok (.aload_n 0, 1) := by decide +kernel
theorem d_M_takeBack_26 : decode b_M_takeBack 26 = .ok (.getfield 36, 3) := by decide +kernel
theorem d_M_takeBack_29 : decode b_M_takeBack 29 = .ok (.iload_n 2, 1) := by decide +kernel
theorem d_M_takeBack_30 : decode b_M_takeBack 30 = .ok (.iaload, 1) := by decide +kernel
theorem d_M_takeBack_31 : decode b_M_takeBack 31 = .ok (.aload_n 0, 1) := by decide +kernel
theorem d_M_takeBack_32 : decode b_M_takeBack 32 = .ok (.getfield 45, 3) := by decide +kernel
theorem d_M_takeBack_35 : decode b_M_takeBack 35 = .ok (.aload_n 0, 1) := by decide +kernel
theorem d_M_takeBack_36 : decode b_M_takeBack 36 = .ok (.getfield 36, 3) := by decide +kernel
theorem d_M_takeBack_39 : decode b_M_takeBack 39 = .ok (.iload_n 2, 1) := by decide +kernel
theorem d_M_takeBack_40 : decode b_M_takeBack 40 = .ok (.iaload, 1) := by decide +kernel
theorem d_M_takeBack_41 : decode b_M_takeBack 41 = .ok (.iaload, 1) := by decide +kernel
theorem d_M_takeBack_42 : decode b_M_takeBack 42 = .ok (.iconst 1, 1) := by decide +kernel
theorem d_M_takeBack_43 : decode b_M_takeBack 43 = .ok (.isub, 1) := by decide +kernel
theorem d_M_takeBack_44 : decode b_M_takeBack 44 = .ok (.iastore, 1) := by decide +kernel
theorem d_M_takeBack_45 : decode b_M_takeBack 45 = .ok (.iinc 2 1, 3) := by decide +kernel
theorem d_M_takeBack_48 : decode b_M_takeBack 48 = .ok (.goto (-39), 3) := by decide +kernel
theorem d_M_takeBack_51 : decode b_M_takeBack 51 = .ok (.return_, 1) := by decide +kernel
theorem d_M_lookThrough_0 : decode b_M_lookThrough 0 = .ok (.iconst 0, 1) := by decide +kernel
theorem d_M_lookThrough_1 : decode b_M_lookThrough 1 = .ok (.istore 5, 2) := by decide +kernel
theorem d_M_lookThrough_3 : decode b_M_lookThrough 3 = .ok (.iload 5, 2) := by decide +kernel
theorem d_M_lookThrough_5 : decode b_M_lookThrough 5 = .ok (.sipush 720, 3) := by decide +kernel
theorem d_M_lookThrough_8 : decode b_M_lookThrough 8 = .ok (.if_icmp .ge 17, 3) := by decide +kernel
theorem d_M_lookThrough_11 : decode b_M_lookThrough 11 = .ok (.aload_n 0, 1) := by decide +kernel
theorem d_M_lookThrough_12 : decode b_M_lookThrough 12 = .ok (.getfield 45, 3) := by decide +kernel
theorem d_M_lookThrough_15 : decode b_M_lookThrough 15 = .ok (.iload 5, 2) := by decide +kernel
theorem d_M_lookThrough_17 : decode b_M_lookThrough 17 = .ok (.iconst 0, 1) := by decide +kernel
theorem d_M_lookThrough_18 : decode b_M_lookThrough 18 = .ok (.iastore, 1) := by decide +kernel
theorem d_M_lookThrough_19 : decode b_M_lookThrough 19 = .ok (.iinc 5 1, 3) := by decide +kernel
theorem d_M_lookThrough_22 : decode b_M_lookThrough 22 = .ok (.goto (-19), 3) := by decide +kernel
theorem d_M_lookThrough_25 : decode b_M_lookThrough 25 = .ok (.aload_n 0, 1) := by decide +kernel
theorem d_M_lookThrough_26 : decode b_M_lookThrough 26 = .ok (.iconst 0, 1) := by decide +kernel
theorem d_M_lookThrough_27 : decode b_M_lookThrough 27 = .ok (.invokevirtual 72, 3) := by decide +kernel
theorem d_M_lookThrough_30 : decode b_M_lookThrough 30 = .ok (.aload_n 0, 1) := by decide +kernel
theorem d_M_lookThrough_31 : decode b_M_lookThrough 31 = .ok (.getfield 45, 3) := by decide +kernel
theorem d_M_lookThrough_34 : decode b_M_lookThrough 34 = .ok (.iconst 0, 1) := by decide +kernel
theorem d_M_lookThrough_35 : decode b_M_lookThrough 35 = .ok (.iconst 1, 1) := by decide +kernel
theorem d_M_lookThrough_36 : decode b_M_lookThrough 36 = .ok (.iastore, 1) := by decide +kernel
theorem d_M_lookThrough_37 : decode b_M_lookThrough 37 = .ok (.aload_n 0, 1) := by decide +kernel
theorem d_M_lookThrough_38 : decode b_M_lookThrough 38 = .ok (.iconst 0, 1) := by decide +kernel
theorem d_M_lookThrough_39 : decode b_M_lookThrough 39 = .ok (.putfield 57, 3) := by decide +kernel
theorem d_M_lookThrough_42 : decode b_M_lookThrough 42 = .ok (.iconst 0, 1) := by decide +kernel
theorem d_M_lookThrough_43 : decode b_M_lookThrough 43 = .ok (.istore 5, 2) := by decide +kernel
theorem d_M_lookThrough_45 : decode b_M_lookThrough 45 = .ok (.iconst 0, 1) := by decide +kernel
theorem d_M_lookThrough_46 : decode b_M_lookThrough 46 = .ok (.istore 6, 2) := by decide +kernel
theorem d_M_lookThrough_48 : decode b_M_lookThrough 48 = .ok (.aload_n 0, 1) := by decide +kernel
theorem d_M_lookThrough_49 : decode b_M_lookThrough 49 = .ok (.getfield 42, 3) := by decide +kernel
theorem d_M_lookThrough_52 : decode b_M_lookThrough 52 = .ok (.iconst 0, 1) := by decide +kernel
theorem d_M_lookThrough_53 : decode b_M_lookThrough 53 = .ok (.iconst 0, 1) := by decide +kernel
theorem d_M_lookThrough_54 : decode b_M_lookThrough 54 = .ok (.iastore, 1) := by decide +kernel
theorem d_M_lookThrough_55 : decode b_M_lookThrough 55 = .ok (.iload 6, 2) := by decide +kernel
theorem d_M_lookThrough_57 : decode b_M_lookThrough 57 = .ok (.ifCond .lt 284, 3) := by decide +kernel
theorem d_M_lookThrough_60 : decode b_M_lookThrough 60 = .ok (.aload_n 0, 1) := by decide +kernel
theorem d_M_lookThrough_61 : decode b_M_lookThrough 61 = .ok (.getfield 42, 3) := by decide +kernel
theorem d_M_lookThrough_64 : decode b_M_lookThrough 64 = .ok (.iload 6, 2) := by decide +kernel
theorem d_M_lookThrough_66 : decode b_M_lookThrough 66 = .ok (.iaload, 1) := by decide +kernel
theorem d_M_lookThrough_67 : decode b_M_lookThrough 67 = .ok (.istore 7, 2) := by decide +kernel
theorem d_M_lookThrough_69 : decode b_M_lookThrough 69 = .ok (.iload 6, 2) := by decide +kernel
theorem d_M_lookThrough_71 : decode b_M_lookThrough 71 = .ok (.bipush 30, 2) := by decide +kernel
theorem d_M_lookThrough_73 : decode b_M_lookThrough 73 = .ok (.if_icmp .ge 20, 3) := by decide +kernel
theorem d_M_lookThrough_76 : decode b_M_lookThrough 76 = .ok (.iload 6, 2) := by decide +kernel
theorem d_M_lookThrough_78 : decode b_M_lookThrough 78 = .ok (.iconst 1, 1) := by decide +kernel
theorem d_M_lookThrough_79 : decode b_M_lookThrough 79 = .ok (.iadd, 1) := by decide +kernel
theorem d_M_lookThrough_80 : decode b_M_lookThrough 80 = .ok (.aload_n 0, 1) := by decide +kernel
theorem d_M_lookThrough_81 : decode b_M_lookThrough 81 = .ok (.getfield 51, 3) := by decide +kernel
theorem d_M_lookThrough_84 : decode b_M_lookThrough 84 = .ok (.imul, 1) := by decide +kernel
theorem d_M_lookThrough_85 : decode b_M_lookThrough 85 = .ok (.iload_n 2, 1) := by decide +kernel
theorem d_M_lookThrough_86 : decode b_M_lookThrough 86 = .ok (.if_icmp .gt 7, 3) := by decide +kernel
theorem d_M_lookThrough_89 : decode b_M_lookThrough 89 = .ok (.iconst 1, 1) := by decide +kernel
theorem d_M_lookThrough_90 : decode b_M_lookThrough 90 = .ok (.goto 4, 3) := by decide +kernel
theorem d_M_lookThrough_93 : decode b_M_lookThrough 93 = .ok (.iconst 0, 1) := by decide +kernel
theorem d_M_lookThrough_94 : decode b_M_lookThrough 94 = .ok (.istore 8, 2) := by decide +kernel
theorem d_M_lookThrough_96 : decode b_M_lookThrough 96 = .ok (.iload 7, 2) := by decide +kernel
theorem d_M_lookThrough_98 : decode b_M_lookThrough 98 = .ok (.iconst 2, 1) := by decide +kernel
theorem d_M_lookThrough_99 : decode b_M_lookThrough 99 = .ok (.if_icmp .gt 8, 3) := by decide +kernel
theorem d_M_lookThrough_102 : decode b_M_lookThrough 102 = .ok (.iload 8, 2) := by decide +kernel
theorem d_M_lookThrough_104 : decode b_M_lookThrough 104 = .ok (.ifCond .ne 23, 3) := by decide +kernel
theorem d_M_lookThrough_107 : decode b_M_lookThrough 107 = .ok (.iload 6, 2) := by decide +kernel
theorem d_M_lookThrough_109 : decode b_M_lookThrough 109 = .ok (.iconst 1, 1) := by decide +kernel
theorem d_M_lookThrough_110 : decode b_M_lookThrough 110 = .ok (.isub, 1) := by decide +kernel
theorem d_M_lookThrough_111 : decode b_M_lookThrough 111 = .ok (.istore 6, 2) := by decide +kernel
theorem d_M_lookThrough_113 : decode b_M_lookThrough 113 = .ok (.iload 6, 2) := by decide +kernel
theorem d_M_lookThrough_115 : decode b_M_lookThrough 115 = .ok (.ifCond .lt 223, 3) := by decide +kernel
theorem d_M_lookThrough_118 : decode b_M_lookThrough 118 = .ok (.aload_n 0, 1) := by decide +kernel
theorem d_M_lookThrough_119 : decode b_M_lookThrough 119 = .ok (.iload 6, 2) := by decide +kernel
theorem d_M_lookThrough_121 : decode b_M_lookThrough 121 = .ok (.invokevirtual 98, 3) := by decide +kernel
theorem d_M_lookThrough_124 : decode b_M_lookThrough 124 = .ok (.goto 214, 3) := by decide +kernel
theorem d_M_lookThrough_127 : decode b_M_lookThrough 127 = .ok (.aload_n 0, 1) := by decide +kernel
theorem d_M_lookThrough_128 : decode b_M_lookThrough 128 = .ok (.iload 7, 2) := by decide +kernel
theorem d_M_lookThrough_130 : decode b_M_lookThrough 130 = .ok (.invokevirtual 78, 3) := by decide +kernel
theorem d_M_lookThrough_133 : decode b_M_lookThrough 133 = .ok (.ifCond .ne 17, 3) := by decide +kernel
theorem d_M_lookThrough_136 : decode b_M_lookThrough 136 = .ok (.aload_n 0, 1) := by decide +kernel
theorem d_M_lookThrough_137 : decode b_M_lookThrough 137 = .ok (.getfield 42, 3) := by decide +kernel
theorem d_M_lookThrough_140 : decode b_M_lookThrough 140 = .ok (.iload 6, 2) := by decide +kernel
theorem d_M_lookThrough_142 : decode b_M_lookThrough 142 = .ok (.iload 7, 2) := by decide +kernel
theorem d_M_lookThrough_144 : decode b_M_lookThrough 144 = .ok (.iconst 1, 1) := by decide +kernel
theorem d_M_lookThrough_145 : decode b_M_lookThrough 145 = .ok (.iadd, 1) := by decide +kernel
theorem d_M_lookThrough_146 : decode b_M_lookThrough 146 = .ok (.iastore, 1) := by decide +kernel
theorem d_M_lookThrough_147 : decode b_M_lookThrough 147 = .ok (.goto 191, 3) := by decide +kernel
theorem d_M_lookThrough_150 : decode b_M_lookThrough 150 = .ok (.aload_n 0, 1) := by decide +kernel
theorem d_M_lookThrough_151 : decode b_M_lookThrough 151 = .ok (.getfield 57, 3) := by decide +kernel
theorem d_M_lookThrough_154 : decode b_M_lookThrough 154 = .ok (.iload_n 3, 1) := by decide +kernel
theorem d_M_lookThrough_155 : decode b_M_lookThrough 155 = .ok (.if_icmp .ne 5, 3) := by decide +kernel
theorem d_M_lookThrough_158 : decode b_M_lookThrough 158 = .ok (.iconst (-1), 1) := by decide +kernel
theorem d_M_lookThrough_159 : decode b_M_lookThrough 159 = .ok (.ireturn, 1) := by decide +kernel
theorem d_M_lookThrough_160 : decode b_M_lookThrough 160 = .ok (.aload_n 0, 1) := by decide +kernel
theorem d_M_lookThrough_161 : decode b_M_lookThrough 161 = .ok (.getfield 42, 3) := by decide +kernel
theorem d_M_lookThrough_164 : decode b_M_lookThrough 164 = .ok (.iload 6, 2) := by decide +kernel
theorem d_M_lookThrough_166 : decode b_M_lookThrough 166 = .ok (.iload 7, 2) := by decide +kernel
theorem d_M_lookThrough_168 : decode b_M_lookThrough 168 = .ok (.iconst 1, 1) := by decide +kernel
theorem d_M_lookThrough_169 : decode b_M_lookThrough 169 = .ok (.iadd, 1) := by decide +kernel
theorem d_M_lookThrough_170 : decode b_M_lookThrough 170 = .ok (.iastore, 1) := by decide +kernel
theorem d_M_lookThrough_171 : decode b_M_lookThrough 171 = .ok (.aload_n 0, 1) := by decide +kernel
theorem d_M_lookThrough_172 : decode b_M_lookThrough 172 = .ok (.aload_n 0, 1) := by decide +kernel
theorem d_M_lookThrough_173 : decode b_M_lookThrough 173 = .ok (.getfield 57, 3) := by decide +kernel
theorem d_M_lookThrough_176 : decode b_M_lookThrough 176 = .ok (.iconst 1, 1) := by decide +kernel
theorem d_M_lookThrough_177 : decode b_M_lookThrough 177 = .ok (.iadd, 1) := by decide +kernel
theorem d_M_lookThrough_178 : decode b_M_lookThrough 178 = .ok (.putfield 57, 3) := by decide +kernel
theorem d_M_lookThrough_181 : decode b_M_lookThrough 181 = .ok (.aload_n 0, 1) := by decide +kernel
theorem d_M_lookThrough_182 : decode b_M_lookThrough 182 = .ok (.iload 6, 2) := by decide +kernel
theorem d_M_lookThrough_184 : decode b_M_lookThrough 184 = .ok (.iload 7, 2) := by decide +kernel
theorem d_M_lookThrough_186 : decode b_M_lookThrough 186 = .ok (.invokevirtual 101, 3) := by decide +kernel
theorem d_M_lookThrough_189 : decode b_M_lookThrough 189 = .ok (.iload 6, 2) := by decide +kernel
theorem d_M_lookThrough_191 : decode b_M_lookThrough 191 = .ok (.iconst 1, 1) := by decide +kernel
theorem d_M_lookThrough_192 : decode b_M_lookThrough 192 = .ok (.iadd, 1) := by decide +kernel
theorem d_M_lookThrough_193 : decode b_M_lookThrough 193 = .ok (.aload_n 0, 1) := by decide +kernel
theorem d_M_lookThrough_194 : decode b_M_lookThrough 194 = .ok (.getfield 51, 3) := by decide +kernel
theorem d_M_lookThrough_197 : decode b_M_lookThrough 197 = .ok (.imul, 1) := by decide +kernel
theorem d_M_lookThrough_198 : decode b_M_lookThrough 198 = .ok (.istore 9, 2) := by decide +kernel
theorem d_M_lookThrough_200 : decode b_M_lookThrough 200 = .ok (.aload_n 0, 1) := by decide +kernel
theorem d_M_lookThrough_201 : decode b_M_lookThrough 201 = .ok (.getfield 36, 3) := by decide +kernel
theorem d_M_lookThrough_204 : decode b_M_lookThrough 204 = .ok (.iload 9, 2) := by decide +kernel
theorem d_M_lookThrough_206 : decode b_M_lookThrough 206 = .ok (.iaload, 1) := by decide +kernel
theorem d_M_lookThrough_207 : decode b_M_lookThrough 207 = .ok (.ifCond .ne 7, 3) := by decide +kernel
theorem d_M_lookThrough_210 : decode b_M_lookThrough 210 = .ok (.iconst 1, 1) := by decide +kernel
theorem d_M_lookThrough_211 : decode b_M_lookThrough 211 = .ok (.goto 4, 3) := by decide +kernel
theorem d_M_lookThrough_214 : decode b_M_lookThrough 214 = .ok (.iconst 0, 1) := by decide +kernel
theorem d_M_lookThrough_215 : decode b_M_lookThrough 215 = .ok (.istore 10, 2) := by decide +kernel
theorem d_M_lookThrough_217 : decode b_M_lookThrough 217 = .ok (.aload_n 0, 1) := by decide +kernel
theorem d_M_lookThrough_218 : decode b_M_lookThrough 218 = .ok (.getfield 94, 3) := by decide +kernel
theorem d_M_lookThrough_221 : decode b_M_lookThrough 221 = .ok (.ifCond .ne 25, 3) := by decide +kernel
theorem d_M_lookThrough_224 : decode b_M_lookThrough 224 = .ok (.iload 10, 2) := by decide +kernel
theorem d_M_lookThrough_226 : decode b_M_lookThrough 226 = .ok (.ifCond .ne 20, 3) := by decide +kernel
theorem d_M_lookThrough_229 : decode b_M_lookThrough 229 = .ok (.iload 6, 2) := by decide +kernel
theorem d_M_lookThrough_231 : decode b_M_lookThrough 231 = .ok (.iconst 1, 1) := by decide +kernel
theorem d_M_lookThrough_232 : decode b_M_lookThrough 232 = .ok (.iadd, 1) := by decide +kernel
theorem d_M_lookThrough_233 : decode b_M_lookThrough 233 = .ok (.istore 6, 2) := by decide +kernel
theorem d_M_lookThrough_235 : decode b_M_lookThrough 235 = .ok (.aload_n 0, 1) := by decide +kernel
theorem d_M_lookThrough_236 : decode b_M_lookThrough 236 = .ok (.getfield 42, 3) := by decide +kernel
theorem d_M_lookThrough_239 : decode b_M_lookThrough 239 = .ok (.iload 6, 2) := by decide +kernel
theorem d_M_lookThrough_241 : decode b_M_lookThrough 241 = .ok (.iconst 0, 1) := by decide +kernel
theorem d_M_lookThrough_242 : decode b_M_lookThrough 242 = .ok (.iastore, 1) := by decide +kernel
theorem d_M_lookThrough_243 : decode b_M_lookThrough 243 = .ok (.goto 95, 3) := by decide +kernel
theorem d_M_lookThrough_246 : decode b_M_lookThrough 246 = .ok (.aload_n 0, 1) := by decide +kernel
theorem d_M_lookThrough_247 : decode b_M_lookThrough 247 = .ok (.iload 6, 2) := by decide +kernel
theorem d_M_lookThrough_249 : decode b_M_lookThrough 249 = .ok (.invokevirtual 98, 3) := by decide +kernel
theorem d_M_lookThrough_252 : decode b_M_lookThrough 252 = .ok (.aload_n 0, 1) := by decide +kernel
theorem d_M_lookThrough_253 : decode b_M_lookThrough 253 = .ok (.getfield 94, 3) := by decide +kernel
theorem d_M_lookThrough_256 : decode b_M_lookThrough 256 = .ok (.ifCond .ne 13, 3) := by decide +kernel
theorem d_M_lookThrough_259 : decode b_M_lookThrough 259 = .ok (.iload 9, 2) := by decide +kernel
theorem d_M_lookThrough_261 : decode b_M_lookThrough 261 = .ok (.iload_n 1, 1) := by decide +kernel
theorem d_M_lookThrough_262 : decode b_M_lookThrough 262 = .ok (.if_icmp .lt 7, 3) := by decide +kernel
theorem d_M_lookThrough_265 : decode b_M_lookThrough 265 = .ok (.iconst 1, 1) := by decide +kernel
theorem d_M_lookThrough_266 : decode b_M_lookThrough 266 = .ok (.goto 4, 3) := by decide +kernel
theorem d_M_lookThrough_269 : decode b_M_lookThrough 269 = .ok (.iconst 0, 1) := by decide +kernel
theorem d_M_lookThrough_270 : decode b_M_lookThrough 270 = .ok (.istore 11, 2) := by decide +kernel
theorem d_M_lookThrough_272 : decode b_M_lookThrough 272 = .ok (.iload 11, 2) := by decide +kernel
theorem d_M_lookThrough_274 : decode b_M_lookThrough 274 = .ok (.ifCond .eq 10, 3) := by decide +kernel
theorem d_M_lookThrough_277 : decode b_M_lookThrough 277 = .ok (.iload 5, 2) := by decide +kernel
theorem d_M_lookThrough_279 : decode b_M_lookThrough 279 = .ok (.iconst 1, 1) := by decide +kernel
theorem d_M_lookThrough_280 : decode b_M_lookThrough 280 = .ok (.iadd, 1) := by decide +kernel
theorem d_M_lookThrough_281 : decode b_M_lookThrough 281 = .ok (.goto 5, 3) := by decide +kernel
theorem d_M_lookThrough_284 : decode b_M_lookThrough 284 = .ok (.iload 5, 2) := by decide +kernel
theorem d_M_lookThrough_286 : decode b_M_lookThrough 286 = .ok (.istore 5, 2) := by decide +kernel
theorem d_M_lookThrough_288 : decode b_M_lookThrough 288 = .ok (.iload 11, 2) := by decide +kernel
theorem d_M_lookThrough_290 : decode b_M_lookThrough 290 = .ok (.ifCond .eq 48, 3) := by decide +kernel
theorem d_M_lookThrough_293 : decode b_M_lookThrough 293 = .ok (.iload 4, 2) := by decide +kernel
theorem d_M_lookThrough_295 : decode b_M_lookThrough 295 = .ok (.ifCond .eq 43, 3) := by decide +kernel
theorem d_M_lookThrough_298 : decode b_M_lookThrough 298 = .ok (.aload_n 0, 1) := by decide +kernel
theorem d_M_lookThrough_299 : decode b_M_lookThrough 299 = .ok (.iload 6, 2) := by decide +kernel
theorem d_M_lookThrough_301 : decode b_M_lookThrough 301 = .ok (.iconst 1, 1) := by decide +kernel
theorem d_M_lookThrough_302 : decode b_M_lookThrough 302 = .ok (.iadd, 1) := by decide +kernel
theorem d_M_lookThrough_303 : decode b_M_lookThrough 303 = .ok (.putfield 54, 3) := by decide +kernel
theorem d_M_lookThrough_306 : decode b_M_lookThrough 306 = .ok (.iconst 0, 1) := by decide +kernel
theorem d_M_lookThrough_307 : decode b_M_lookThrough 307 = .ok (.istore 12, 2) := by decide +kernel
theorem d_M_lookThrough_309 : decode b_M_lookThrough 309 = .ok (.iload 12, 2) := by decide +kernel
theorem d_M_lookThrough_311 : decode b_M_lookThrough 311 = .ok (.iload 6, 2) := by decide +kernel
theorem d_M_lookThrough_313 : decode b_M_lookThrough 313 = .ok (.if_icmp .gt 23, 3) := by decide +kernel
theorem d_M_lookThrough_316 : decode b_M_lookThrough 316 = .ok (.aload_n 0, 1) := by decide +kernel
theorem d_M_lookThrough_317 : decode b_M_lookThrough 317 = .ok (.getfield 27, 3) := by decide +kernel
theorem d_M_lookThrough_320 : decode b_M_lookThrough 320 = .ok (.iload 12, 2) := by decide +kernel
theorem d_M_lookThrough_322 : decode b_M_lookThrough 322 = .ok (.aload_n 0, 1) := by decide +kernel
theorem d_M_lookThrough_323 : decode b_M_lookThrough 323 = .ok (.getfield 39, 3) := by decide +kernel
theorem d_M_lookThrough_326 : decode b_M_lookThrough 326 = .ok (.iload 12, 2) := by decide +kernel
theorem d_M_lookThrough_328 : decode b_M_lookThrough 328 = .ok (.iaload, 1) := by decide +kernel
theorem d_M_lookThrough_329 : decode b_M_lookThrough 329 = .ok (.iastore, 1) := by decide +kernel
theorem d_M_lookThrough_330 : decode b_M_lookThrough 330 = .ok (.iinc 12 1, 3) := by decide +kernel
theorem d_M_lookThrough_333 : decode b_M_lookThrough 333 = .ok (.goto (-24), 3) := by decide +kernel
theorem d_M_lookThrough_336 : decode b_M_lookThrough 336 = .ok (.iconst 1, 1) := by decide +kernel
theorem d_M_lookThrough_337 : decode b_M_lookThrough 337 = .ok (.ireturn, 1) := by decide +kernel
theorem d_M_lookThrough_338 : decode b_M_lookThrough 338 = .ok (.goto (-283), 3) := by decide +kernel
theorem d_M_lookThrough_341 : decode b_M_lookThrough 341 = .ok (.iload 5, 2) := by decide +kernel
theorem d_M_lookThrough_343 : decode b_M_lookThrough 343 = .ok (.ireturn, 1) := by decide +kernel
theorem d_M_search_0 : decode b_M_search 0 = .ok (.aload_n 0, 1) := by decide +kernel
theorem d_M_search_1 : decode b_M_search 1 = .ok (.aload_n 0, 1) := by decide +kernel
theorem d_M_search_2 : decode b_M_search 2 = .ok (.getfield 51, 3) := by decide +kernel
theorem d_M_search_5 : decode b_M_search 5 = .ok (.ifCond .ne 7, 3) := by decide +kernel
theorem d_M_search_8 : decode b_M_search 8 = .ok (.iconst 1, 1) := by decide +kernel
theorem d_M_search_9 : decode b_M_search 9 = .ok (.goto 37, 3) := by decide +kernel
theorem d_M_search_12 : decode b_M_search 12 = .ok (.iload_n 1, 1) := by decide +kernel
theorem d_M_search_13 : decode b_M_search 13 = .ok (.iconst 1, 1) := by decide +kernel
theorem d_M_search_14 : decode b_M_search 14 = .ok (.if_icmp .lt 27, 3) := by decide +kernel
theorem d_M_search_17 : decode b_M_search 17 = .ok (.iload_n 1, 1) := by decide +kernel
theorem d_M_search_18 : decode b_M_search 18 = .ok (.iload_n 2, 1) := by decide +kernel
theorem d_M_search_19 : decode b_M_search 19 = .ok (.if_icmp .gt 22, 3) := by decide +kernel
theorem d_M_search_22 : decode b_M_search 22 = .ok (.iload_n 2, 1) := by decide +kernel
theorem d_M_search_23 : decode b_M_search 23 = .ok (.sipush 720, 3) := by decide +kernel
theorem d_M_search_26 : decode b_M_search 26 = .ok (.if_icmp .gt 15, 3) := by decide +kernel
theorem d_M_search_29 : decode b_M_search 29 = .ok (.iload_n 3, 1) := by decide +kernel
theorem d_M_search_30 : decode b_M_search 30 = .ok (.iconst 1, 1) := by decide +kernel
theorem d_M_search_31 : decode b_M_search 31 = .ok (.if_icmp .lt 10, 3) := by decide +kernel
theorem d_M_search_34 : decode b_M_search 34 = .ok (.iload_n 3, 1) := by decide +kernel
theorem d_M_search_35 : decode b_M_search 35 = .ok (.sipush 2000, 3) := by decide +kernel
theorem d_M_search_38 : decode b_M_search 38 = .ok (.if_icmp .le 7, 3) := by decide +kernel
theorem d_M_search_41 : decode b_M_search 41 = .ok (.iconst 2, 1) := by decide +kernel
theorem d_M_search_42 : decode b_M_search 42 = .ok (.goto 4, 3) := by decide +kernel
theorem d_M_search_45 : decode b_M_search 45 = .ok (.iconst 0, 1) := by decide +kernel
theorem d_M_search_46 : decode b_M_search 46 = .ok (.putfield 48, 3) := by decide +kernel
theorem d_M_search_49 : decode b_M_search 49 = .ok (.aload_n 0, 1) := by decide +kernel
theorem d_M_search_50 : decode b_M_search 50 = .ok (.getfield 48, 3) := by decide +kernel
theorem d_M_search_53 : decode b_M_search 53 = .ok (.ifCond .le 5, 3) := by decide +kernel
theorem d_M_search_56 : decode b_M_search 56 = .ok (.iconst 0, 1) := by decide +kernel
theorem d_M_search_57 : decode b_M_search 57 = .ok (.ireturn, 1) := by decide +kernel
theorem d_M_search_58 : decode b_M_search 58 = .ok (.aload_n 0, 1) := by decide +kernel
theorem d_M_search_59 : decode b_M_search 59 = .ok (.iload_n 1, 1) := by decide +kernel
theorem d_M_search_60 : decode b_M_search 60 = .ok (.iload_n 2, 1) := by decide +kernel
theorem d_M_search_61 : decode b_M_search 61 = .ok (.iload_n 3, 1) := by decide +kernel
theorem d_M_search_62 : decode b_M_search 62 = .ok (.iconst 1, 1) := by decide +kernel
theorem d_M_search_63 : decode b_M_search 63 = .ok (.invokevirtual 104, 3) := by decide +kernel
theorem d_M_search_66 : decode b_M_search 66 = .ok (.istore 4, 2) := by decide +kernel
theorem d_M_search_68 : decode b_M_search 68 = .ok (.iload 4, 2) := by decide +kernel
theorem d_M_search_70 : decode b_M_search 70 = .ok (.ifCond .ge 7, 3) := by decide +kernel
theorem d_M_search_73 : decode b_M_search 73 = .ok (.iconst 2, 1) := by decide +kernel
theorem d_M_search_74 : decode b_M_search 74 = .ok (.goto 5, 3) := by decide +kernel
theorem d_M_search_77 : decode b_M_search 77 = .ok (.iload 4, 2) := by decide +kernel
theorem d_M_search_79 : decode b_M_search 79 = .ok (.ireturn, 1) := by decide +kernel
theorem d_M_count_0 : decode b_M_count 0 = .ok (.aload_n 0, 1) := by decide +kernel
theorem d_M_count_1 : decode b_M_count 1 = .ok (.aload_n 0, 1) := by decide +kernel
theorem d_M_count_2 : decode b_M_count 2 = .ok (.getfield 51, 3) := by decide +kernel
theorem d_M_count_5 : decode b_M_count 5 = .ok (.ifCond .ne 7, 3) := by decide +kernel
theorem d_M_count_8 : decode b_M_count 8 = .ok (.iconst 1, 1) := by decide +kernel
theorem d_M_count_9 : decode b_M_count 9 = .ok (.goto 32, 3) := by decide +kernel
theorem d_M_count_12 : decode b_M_count 12 = .ok (.iload_n 1, 1) := by decide +kernel
theorem d_M_count_13 : decode b_M_count 13 = .ok (.iconst 1, 1) := by decide +kernel
theorem d_M_count_14 : decode b_M_count 14 = .ok (.if_icmp .lt 22, 3) := by decide +kernel
theorem d_M_count_17 : decode b_M_count 17 = .ok (.iload_n 1, 1) := by decide +kernel
theorem d_M_count_18 : decode b_M_count 18 = .ok (.sipush 720, 3) := by decide +kernel
theorem d_M_count_21 : decode b_M_count 21 = .ok (.if_icmp .gt 15, 3) := by decide +kernel
theorem d_M_count_24 : decode b_M_count 24 = .ok (.iload_n 2, 1) := by decide +kernel
theorem d_M_count_25 : decode b_M_count 25 = .ok (.iconst 1, 1) := by decide +kernel
theorem d_M_count_26 : decode b_M_count 26 = .ok (.if_icmp .lt 10, 3) := by decide +kernel
theorem d_M_count_29 : decode b_M_count 29 = .ok (.iload_n 2, 1) := by decide +kernel
theorem d_M_count_30 : decode b_M_count 30 = .ok (.sipush 2000, 3) := by decide +kernel
theorem d_M_count_33 : decode b_M_count 33 = .ok (.if_icmp .le 7, 3) := by decide +kernel
theorem d_M_count_36 : decode b_M_count 36 = .ok (.iconst 2, 1) := by decide +kernel
theorem d_M_count_37 : decode b_M_count 37 = .ok (.goto 4, 3) := by decide +kernel
theorem d_M_count_40 : decode b_M_count 40 = .ok (.iconst 0, 1) := by decide +kernel
theorem d_M_count_41 : decode b_M_count 41 = .ok (.putfield 48, 3) := by decide +kernel
theorem d_M_count_44 : decode b_M_count 44 = .ok (.aload_n 0, 1) := by decide +kernel
theorem d_M_count_45 : decode b_M_count 45 = .ok (.getfield 48, 3) := by decide +kernel
theorem d_M_count_48 : decode b_M_count 48 = .ok (.ifCond .le 7, 3) := by decide +kernel
theorem d_M_count_51 : decode b_M_count 51 = .ok (.iconst 0, 1) := by decide +kernel
theorem d_M_count_52 : decode b_M_count 52 = .ok (.goto 11, 3) := by decide +kernel
theorem d_M_count_55 : decode b_M_count 55 = .ok (.aload_n 0, 1) := by decide +kernel
theorem d_M_count_56 : decode b_M_count 56 = .ok (.iload_n 1, 1) := by decide +kernel
theorem d_M_count_57 : decode b_M_count 57 = .ok (.iload_n 1, 1) := by decide +kernel
theorem d_M_count_58 : decode b_M_count 58 = .ok (.iload_n 2, 1) := by decide +kernel
theorem d_M_count_59 : decode b_M_count 59 = .ok (.iconst 0, 1) := by decide +kernel
theorem d_M_count_60 : decode b_M_count 60 = .ok (.invokevirtual 104, 3) := by decide +kernel
theorem d_M_count_63 : decode b_M_count 63 = .ok (.ireturn, 1) := by decide +kernel
theorem d_M_looked_0 : decode b_M_looked 0 = .ok (.aload_n 0, 1) := by decide +kernel
theorem d_M_looked_1 : decode b_M_looked 1 = .ok (.iconst 0, 1) := by decide +kernel
theorem d_M_looked_2 : decode b_M_looked 2 = .ok (.putfield 48, 3) := by decide +kernel
theorem d_M_looked_5 : decode b_M_looked 5 = .ok (.aload_n 0, 1) := by decide +kernel
theorem d_M_looked_6 : decode b_M_looked 6 = .ok (.getfield 57, 3) := by decide +kernel
theorem d_M_looked_9 : decode b_M_looked 9 = .ok (.ireturn, 1) := by decide +kernel
theorem d_M_pattern_0 : decode b_M_pattern 0 = .ok (.aload_n 0, 1) := by decide +kernel
theorem d_M_pattern_1 : decode b_M_pattern 1 = .ok (.iconst 0, 1) := by decide +kernel
theorem d_M_pattern_2 : decode b_M_pattern 2 = .ok (.putfield 48, 3) := by decide +kernel
theorem d_M_pattern_5 : decode b_M_pattern 5 = .ok (.iload_n 1, 1) := by decide +kernel
theorem d_M_pattern_6 : decode b_M_pattern 6 = .ok (.ifCond .lt 33, 3) := by decide +kernel
theorem d_M_pattern_9 : decode b_M_pattern 9 = .ok (.iload_n 1, 1) := by decide +kernel
theorem d_M_pattern_10 : decode b_M_pattern 10 = .ok (.iconst 3, 1) := by decide +kernel
theorem d_M_pattern_11 : decode b_M_pattern 11 = .ok (.if_icmp .gt 28, 3) := by decide +kernel
theorem d_M_pattern_14 : decode b_M_pattern 14 = .ok (.iload_n 2, 1) := by decide +kernel
theorem d_M_pattern_15 : decode b_M_pattern 15 = .ok (.iconst 1, 1) := by decide +kernel
theorem d_M_pattern_16 : decode b_M_pattern 16 = .ok (.if_icmp .lt 23, 3) := by decide +kernel
theorem d_M_pattern_19 : decode b_M_pattern 19 = .ok (.iload_n 2, 1) := by decide +kernel
theorem d_M_pattern_20 : decode b_M_pattern 20 = .ok (.aload_n 0, 1) := by decide +kernel
theorem d_M_pattern_21 : decode b_M_pattern 21 = .ok (.getfield 7, 3) := by decide +kernel
theorem d_M_pattern_24 : decode b_M_pattern 24 = .ok (.if_icmp .gt 15, 3) := by decide +kernel
theorem d_M_pattern_27 : decode b_M_pattern 27 = .ok (.iload_n 3, 1) := by decide +kernel
theorem d_M_pattern_28 : decode b_M_pattern 28 = .ok (.ifCond .lt 11, 3) := by decide +kernel
theorem d_M_pattern_31 : decode b_M_pattern 31 = .ok (.iload_n 3, 1) := by decide +kernel
theorem d_M_pattern_32 : decode b_M_pattern 32 = .ok (.aload_n 0, 1) := by decide +kernel
theorem d_M_pattern_33 : decode b_M_pattern 33 = .ok (.getfield 7, 3) := by decide +kernel
theorem d_M_pattern_36 : decode b_M_pattern 36 = .ok (.if_icmp .le 5, 3) := by decide +kernel
theorem d_M_pattern_39 : decode b_M_pattern 39 = .ok (.iconst 0, 1) := by decide +kernel
theorem d_M_pattern_40 : decode b_M_pattern 40 = .ok (.ireturn, 1) := by decide +kernel
theorem d_M_pattern_41 : decode b_M_pattern 41 = .ok (.aload_n 0, 1) := by decide +kernel
theorem d_M_pattern_42 : decode b_M_pattern 42 = .ok (.getfield 30, 3) := by decide +kernel
theorem d_M_pattern_45 : decode b_M_pattern 45 = .ok (.bipush 6, 2) := by decide +kernel
theorem d_M_pattern_47 : decode b_M_pattern 47 = .ok (.iload_n 1, 1) := by decide +kernel
theorem d_M_pattern_48 : decode b_M_pattern 48 = .ok (.imul, 1) := by decide +kernel
theorem d_M_pattern_49 : decode b_M_pattern 49 = .ok (.iload_n 2, 1) := by decide +kernel
theorem d_M_pattern_50 : decode b_M_pattern 50 = .ok (.iadd, 1) := by decide +kernel
theorem d_M_pattern_51 : decode b_M_pattern 51 = .ok (.iconst 1, 1) := by decide +kernel
theorem d_M_pattern_52 : decode b_M_pattern 52 = .ok (.isub, 1) := by decide +kernel
theorem d_M_pattern_53 : decode b_M_pattern 53 = .ok (.iload_n 3, 1) := by decide +kernel
theorem d_M_pattern_54 : decode b_M_pattern 54 = .ok (.iastore, 1) := by decide +kernel
theorem d_M_pattern_55 : decode b_M_pattern 55 = .ok (.iconst 1, 1) := by decide +kernel
theorem d_M_pattern_56 : decode b_M_pattern 56 = .ok (.ireturn, 1) := by decide +kernel
theorem d_M_music_0 : decode b_M_music 0 = .ok (.aload_n 0, 1) := by decide +kernel
theorem d_M_music_1 : decode b_M_music 1 = .ok (.iconst 0, 1) := by decide +kernel
theorem d_M_music_2 : decode b_M_music 2 = .ok (.putfield 48, 3) := by decide +kernel
theorem d_M_music_5 : decode b_M_music 5 = .ok (.iload_n 1, 1) := by decide +kernel
theorem d_M_music_6 : decode b_M_music 6 = .ok (.ifCond .lt 8, 3) := by decide +kernel
theorem d_M_music_9 : decode b_M_music 9 = .ok (.iload_n 1, 1) := by decide +kernel
theorem d_M_music_10 : decode b_M_music 10 = .ok (.iconst 3, 1) := by decide +kernel
theorem d_M_music_11 : decode b_M_music 11 = .ok (.if_icmp .le 5, 3) := by decide +kernel
theorem d_M_music_14 : decode b_M_music 14 = .ok (.iconst (-1), 1) := by decide +kernel
theorem d_M_music_15 : decode b_M_music 15 = .ok (.ireturn, 1) := by decide +kernel
theorem d_M_music_16 : decode b_M_music 16 = .ok (.iconst 0, 1) := by decide +kernel
theorem d_M_music_17 : decode b_M_music 17 = .ok (.istore_n 2, 1) := by decide +kernel
theorem d_M_music_18 : decode b_M_music 18 = .ok (.aload_n 0, 1) := by decide +kernel
theorem d_M_music_19 : decode b_M_music 19 = .ok (.invokevirtual 81, 3) := by decide +kernel
theorem d_M_music_22 : decode b_M_music 22 = .ok (.istore_n 3, 1) := by decide +kernel
theorem d_M_music_23 : decode b_M_music 23 = .ok (.iconst 1, 1) := by decide +kernel
theorem d_M_music_24 : decode b_M_music 24 = .ok (.istore 4, 2) := by decide +kernel
theorem d_M_music_26 : decode b_M_music 26 = .ok (.iload 4, 2) := by decide +kernel
theorem d_M_music_28 : decode b_M_music 28 = .ok (.iload_n 3, 1) := by decide +kernel
theorem d_M_music_29 : decode b_M_music 29 = .ok (.if_icmp .gt 92, 3) := by decide +kernel
theorem d_M_music_32 : decode b_M_music 32 = .ok (.iconst 1, 1) := by decide +kernel
theorem d_M_music_33 : decode b_M_music 33 = .ok (.istore 5, 2) := by decide +kernel
theorem d_M_music_35 : decode b_M_music 35 = .ok (.iconst 0, 1) := by decide +kernel
theorem d_M_music_36 : decode b_M_music 36 = .ok (.istore 6, 2) := by decide +kernel
theorem d_M_music_38 : decode b_M_music 38 = .ok (.iload 6, 2) := by decide +kernel
theorem d_M_music_40 : decode b_M_music 40 = .ok (.aload_n 0, 1) := by decide +kernel
theorem d_M_music_41 : decode b_M_music 41 = .ok (.getfield 7, 3) := by decide +kernel
theorem d_M_music_44 : decode b_M_music 44 = .ok (.if_icmp .ge 58, 3) := by decide +kernel
theorem d_M_music_47 : decode b_M_music 47 = .ok (.aload_n 0, 1) := by decide +kernel
theorem d_M_music_48 : decode b_M_music 48 = .ok (.getfield 30, 3) := by decide +kernel
theorem d_M_music_51 : decode b_M_music 51 = .ok (.bipush 6, 2) := by decide +kernel
theorem d_M_music_53 : decode b_M_music 53 = .ok (.iload_n 1, 1) := by decide +kernel
theorem d_M_music_54 : decode b_M_music 54 = .ok (.imul, 1) := by decide +kernel
theorem d_M_music_55 : decode b_M_music 55 = .ok (.iload 6, 2) := by decide +kernel
theorem d_M_music_57 : decode b_M_music 57 = .ok (.iadd, 1) := by decide +kernel
theorem d_M_music_58 : decode b_M_music 58 = .ok (.iaload, 1) := by decide +kernel
theorem d_M_music_59 : decode b_M_music 59 = .ok (.istore 7, 2) := by decide +kernel
theorem d_M_music_61 : decode b_M_music 61 = .ok (.iload 5, 2) := by decide +kernel
theorem d_M_music_63 : decode b_M_music 63 = .ok (.ifCond .eq 30, 3) := by decide +kernel
theorem d_M_music_66 : decode b_M_music 66 = .ok (.iload 7, 2) := by decide +kernel
theorem d_M_music_68 : decode b_M_music 68 = .ok (.ifCond .eq 21, 3) := by decide +kernel
theorem d_M_music_71 : decode b_M_music 71 = .ok (.iload 7, 2) := by decide +kernel
theorem d_M_music_73 : decode b_M_music 73 = .ok (.aload_n 0, 1) := by decide +kernel
theorem d_M_music_74 : decode b_M_music 74 = .ok (.getfield 33, 3) := by decide +kernel
theorem d_M_music_77 : decode b_M_music 77 = .ok (.bipush 6, 2) := by decide +kernel
theorem d_M_music_79 : decode b_M_music 79 = .ok (.iload 4, 2) := by decide +kernel
theorem d_M_music_81 : decode b_M_music 81 = .ok (.imul, 1) := by decide +kernel
theorem d_M_music_82 : decode b_M_music 82 = .ok (.iload 6, 2) := by decide +kernel
theorem d_M_music_84 : decode b_M_music 84 = .ok (.iadd, 1) := by decide +kernel
theorem d_M_music_85 : decode b_M_music 85 = .ok (.iaload, 1) := by decide +kernel
theorem d_M_music_86 : decode b_M_music 86 = .ok (.if_icmp .ne 7, 3) := by decide +kernel
theorem d_M_music_89 : decode b_M_music 89 = .ok (.iconst 1, 1) := by decide +kernel
theorem d_M_music_90 : decode b_M_music 90 = .ok (.goto 4, 3) := by decide +kernel
theorem d_M_music_93 : decode b_M_music 93 = .ok (.iconst 0, 1) := by decide +kernel
theorem d_M_music_94 : decode b_M_music 94 = .ok (.istore 5, 2) := by decide +kernel
theorem d_M_music_96 : decode b_M_music 96 = .ok (.iinc 6 1, 3) := by decide +kernel
theorem d_M_music_99 : decode b_M_music 99 = .ok (.goto (-61), 3) := by decide +kernel
theorem d_M_music_102 : decode b_M_music 102 = .ok (.iload 5, 2) := by decide +kernel
theorem d_M_music_104 : decode b_M_music 104 = .ok (.ifCond .eq 9, 3) := by decide +kernel
theorem d_M_music_107 : decode b_M_music 107 = .ok (.iload_n 2, 1) := by decide +kernel
theorem d_M_music_108 : decode b_M_music 108 = .ok (.iconst 1, 1) := by decide +kernel
theorem d_M_music_109 : decode b_M_music 109 = .ok (.iadd, 1) := by decide +kernel
theorem d_M_music_110 : decode b_M_music 110 = .ok (.goto 4, 3) := by decide +kernel
theorem d_M_music_113 : decode b_M_music 113 = .ok (.iload_n 2, 1) := by decide +kernel
theorem d_M_music_114 : decode b_M_music 114 = .ok (.istore_n 2, 1) := by decide +kernel
theorem d_M_music_115 : decode b_M_music 115 = .ok (.iinc 4 1, 3) := by decide +kernel
theorem d_M_music_118 : decode b_M_music 118 = .ok (.goto (-92), 3) := by decide +kernel
theorem d_M_music_121 : decode b_M_music 121 = .ok (.iload_n 2, 1) := by decide +kernel
theorem d_M_music_122 : decode b_M_music 122 = .ok (.ireturn, 1) := by decide +kernel
