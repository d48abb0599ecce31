theorem d_Row_init_0 : decode b_Row_init 0 = .ok (.aload_n 0, 1) := by decide +kernel
theorem d_Row_init_1 : decode b_Row_init 1 = .ok (.invokespecial 3, 3) := by decide +kernel
theorem d_Row_init_4 : decode b_Row_init 4 = .ok (.aload_n 0, 1) := by decide +kernel
theorem d_Row_init_5 : decode b_Row_init 5 = .ok (.bipush 6, 2) := by decide +kernel
theorem d_Row_init_7 : decode b_Row_init 7 = .ok (.newarray .int, 2) := by decide +kernel
theorem d_Row_init_9 : decode b_Row_init 9 = .ok (.putfield 9, 3) := by decide +kernel
theorem d_Row_init_12 : decode b_Row_init 12 = .ok (.aload_n 0, 1) := by decide +kernel
theorem d_Row_init_13 : decode b_Row_init 13 = .ok (.bipush 6, 2) := by decide +kernel
theorem d_Row_init_15 : decode b_Row_init 15 = .ok (.putfield 15, 3) := by decide +kernel
theorem d_Row_init_18 : decode b_Row_init 18 = .ok (.return_, 1) := by decide +kernel
theorem d_Row_resize_0 : decode b_Row_resize 0 = .ok (.aload_n 0, 1) := by decide +kernel
theorem d_Row_resize_1 : decode b_Row_resize 1 = .ok (.iload_n 1, 1) := by decide +kernel
theorem d_Row_resize_2 : decode b_Row_resize 2 = .ok (.putfield 15, 3) := by decide +kernel
theorem d_Row_resize_5 : decode b_Row_resize 5 = .ok (.return_, 1) := by decide +kernel
theorem d_Row_length_0 : decode b_Row_length 0 = .ok (.aload_n 0, 1) := by decide +kernel
theorem d_Row_length_1 : decode b_Row_length 1 = .ok (.getfield 15, 3) := by decide +kernel
theorem d_Row_length_4 : decode b_Row_length 4 = .ok (.ireturn, 1) := by decide +kernel
theorem d_Row_canHaveRank_0 : decode b_Row_canHaveRank 0 = .ok (.iload_n 1, 1) := by decide +kernel
theorem d_Row_canHaveRank_1 : decode b_Row_canHaveRank 1 = .ok (.ifCond .lt 19, 3) := by decide +kernel
theorem d_Row_canHaveRank_4 : decode b_Row_canHaveRank 4 = .ok (.iload_n 1, 1) := by decide +kernel
theorem d_Row_canHaveRank_5 : decode b_Row_canHaveRank 5 = .ok (.getstatic 19, 3) := by decide +kernel
theorem d_Row_canHaveRank_8 : decode b_Row_canHaveRank 8 = .ok (.aload_n 0, 1) := by decide +kernel
theorem d_Row_canHaveRank_9 : decode b_Row_canHaveRank 9 = .ok (.getfield 15, 3) := by decide +kernel
theorem d_Row_canHaveRank_12 : decode b_Row_canHaveRank 12 = .ok (.iaload, 1) := by decide +kernel
theorem d_Row_canHaveRank_13 : decode b_Row_canHaveRank 13 = .ok (.if_icmp .ge 7, 3) := by decide +kernel
theorem d_Row_canHaveRank_16 : decode b_Row_canHaveRank 16 = .ok (.iconst 1, 1) := by decide +kernel
theorem d_Row_canHaveRank_17 : decode b_Row_canHaveRank 17 = .ok (.goto 4, 3) := by decide +kernel
theorem d_Row_canHaveRank_20 : decode b_Row_canHaveRank 20 = .ok (.iconst 0, 1) := by decide +kernel
theorem d_Row_canHaveRank_21 : decode b_Row_canHaveRank 21 = .ok (.ireturn, 1) := by decide +kernel
theorem d_Row_becomeRank_0 : decode b_Row_becomeRank 0 = .ok (.iconst 0, 1) := by decide +kernel
theorem d_Row_becomeRank_1 : decode b_Row_becomeRank 1 = .ok (.istore_n 2, 1) := by decide +kernel
theorem d_Row_becomeRank_2 : decode b_Row_becomeRank 2 = .ok (.iload_n 2, 1) := by decide +kernel
theorem d_Row_becomeRank_3 : decode b_Row_becomeRank 3 = .ok (.aload_n 0, 1) := by decide +kernel
theorem d_Row_becomeRank_4 : decode b_Row_becomeRank 4 = .ok (.getfield 15, 3) := by decide +kernel
theorem d_Row_becomeRank_7 : decode b_Row_becomeRank 7 = .ok (.if_icmp .ge 18, 3) := by decide +kernel
theorem d_Row_becomeRank_10 : decode b_Row_becomeRank 10 = .ok (.aload_n 0, 1) := by decide +kernel
theorem d_Row_becomeRank_11 : decode b_Row_becomeRank 11 = .ok (.getfield 9, 3) := by decide +kernel
theorem d_Row_becomeRank_14 : decode b_Row_becomeRank 14 = .ok (.iload_n 2, 1) := by decide +kernel
theorem d_Row_becomeRank_15 : decode b_Row_becomeRank 15 = .ok (.iload_n 2, 1) := by decide +kernel
theorem d_Row_becomeRank_16 : decode b_Row_becomeRank 16 = .ok (.iconst 1, 1) := by decide +kernel
theorem d_Row_becomeRank_17 : decode b_Row_becomeRank 17 = .ok (.iadd, 1) := by decide +kernel
theorem d_Row_becomeRank_18 : decode b_Row_becomeRank 18 = .ok (.iastore, 1) := by decide +kernel
theorem d_Row_becomeRank_19 : decode b_Row_becomeRank 19 = .ok (.iinc 2 1, 3) := by decide +kernel
theorem d_Row_becomeRank_22 : decode b_Row_becomeRank 22 = .ok (.goto (-20), 3) := by decide +kernel
theorem d_Row_becomeRank_25 : decode b_Row_becomeRank 25 = .ok (.iload_n 1, 1) := by decide +kernel
theorem d_Row_becomeRank_26 : decode b_Row_becomeRank 26 = .ok (.istore_n 2, 1) := by decide +kernel
theorem d_Row_becomeRank_27 : decode b_Row_becomeRank 27 = .ok (.iconst 0, 1) := by decide +kernel
theorem d_Row_becomeRank_28 : decode b_Row_becomeRank 28 = .ok (.istore_n 3, 1) := by decide +kernel
theorem d_Row_becomeRank_29 : decode b_Row_becomeRank 29 = .ok (.iload_n 3, 1) := by decide +kernel
theorem d_Row_becomeRank_30 : decode b_Row_becomeRank 30 = .ok (.aload_n 0, 1) := by decide +kernel
theorem d_Row_becomeRank_31 : decode b_Row_becomeRank 31 = .ok (.getfield 15, 3) := by decide +kernel
theorem d_Row_becomeRank_34 : decode b_Row_becomeRank 34 = .ok (.if_icmp .ge 39, 3) := by decide +kernel
theorem d_Row_becomeRank_37 : decode b_Row_becomeRank 37 = .ok (.getstatic 19, 3) := by decide +kernel
theorem d_Row_becomeRank_40 : decode b_Row_becomeRank 40 = .ok (.aload_n 0, 1) := by decide +kernel
theorem d_Row_becomeRank_41 : decode b_Row_becomeRank 41 = .ok (.getfield 15, 3) := by decide +kernel
theorem d_Row_becomeRank_44 : decode b_Row_becomeRank 44 = .ok (.iconst 1, 1) := by decide +kernel
theorem d_Row_becomeRank_45 : decode b_Row_becomeRank 45 = .ok (.isub, 1) := by decide +kernel
theorem d_Row_becomeRank_46 : decode b_Row_becomeRank 46 = .ok (.iload_n 3, 1) := by decide +kernel
theorem d_Row_becomeRank_47 : decode b_Row_becomeRank 47 = .ok (.isub, 1) := by decide +kernel
theorem d_Row_becomeRank_48 : decode b_Row_becomeRank 48 = .ok (.iaload, 1) := by decide +kernel
theorem d_Row_becomeRank_49 : decode b_Row_becomeRank 49 = .ok (.istore 4, 2) := by decide +kernel
theorem d_Row_becomeRank_51 : decode b_Row_becomeRank 51 = .ok (.aload_n 0, 1) := by decide +kernel
theorem d_Row_becomeRank_52 : decode b_Row_becomeRank 52 = .ok (.iload_n 3, 1) := by decide +kernel
theorem d_Row_becomeRank_53 : decode b_Row_becomeRank 53 = .ok (.iload_n 2, 1) := by decide +kernel
theorem d_Row_becomeRank_54 : decode b_Row_becomeRank 54 = .ok (.iload 4, 2) := by decide +kernel
theorem d_Row_becomeRank_56 : decode b_Row_becomeRank 56 = .ok (.idiv, 1) := by decide +kernel
theorem d_Row_becomeRank_57 : decode b_Row_becomeRank 57 = .ok (.iadd, 1) := by decide +kernel
theorem d_Row_becomeRank_58 : decode b_Row_becomeRank 58 = .ok (.iload_n 3, 1) := by decide +kernel
theorem d_Row_becomeRank_59 : decode b_Row_becomeRank 59 = .ok (.invokevirtual 22, 3) := by decide +kernel
theorem d_Row_becomeRank_62 : decode b_Row_becomeRank 62 = .ok (.iload_n 2, 1) := by decide +kernel
theorem d_Row_becomeRank_63 : decode b_Row_becomeRank 63 = .ok (.iload 4, 2) := by decide +kernel
theorem d_Row_becomeRank_65 : decode b_Row_becomeRank 65 = .ok (.irem, 1) := by decide +kernel
theorem d_Row_becomeRank_66 : decode b_Row_becomeRank 66 = .ok (.istore_n 2, 1) := by decide +kernel
theorem d_Row_becomeRank_67 : decode b_Row_becomeRank 67 = .ok (.iinc 3 1, 3) := by decide +kernel
theorem d_Row_becomeRank_70 : decode b_Row_becomeRank 70 = .ok (.goto (-41), 3) := by decide +kernel
theorem d_Row_becomeRank_73 : decode b_Row_becomeRank 73 = .ok (.return_, 1) := by decide +kernel
theorem d_Row_bringForward_0 : decode b_Row_bringForward 0 = .ok (.aload_n 0, 1) := by decide +kernel
theorem d_Row_bringForward_1 : decode b_Row_bringForward 1 = .ok (.getfield 9, 3) := by decide +kernel
theorem d_Row_bringForward_4 : decode b_Row_bringForward 4 = .ok (.iload_n 1, 1) := by decide +kernel
theorem d_Row_bringForward_5 : decode b_Row_bringForward 5 = .ok (.iaload, 1) := by decide +kernel
theorem d_Row_bringForward_6 : decode b_Row_bringForward 6 = .ok (.istore_n 3, 1) := by decide +kernel
theorem d_Row_bringForward_7 : decode b_Row_bringForward 7 = .ok (.iload_n 1, 1) := by decide +kernel
theorem d_Row_bringForward_8 : decode b_Row_bringForward 8 = .ok (.istore 4, 2) := by decide +kernel
theorem d_Row_bringForward_10 : decode b_Row_bringForward 10 = .ok (.iload 4, 2) := by decide +kernel
theorem d_Row_bringForward_12 : decode b_Row_bringForward 12 = .ok (.iload_n 2, 1) := by decide +kernel
theorem d_Row_bringForward_13 : decode b_Row_bringForward 13 = .ok (.if_icmp .le 25, 3) := by decide +kernel
theorem d_Row_bringForward_16 : decode b_Row_bringForward 16 = .ok (.aload_n 0, 1) := by decide +kernel
theorem d_Row_bringForward_17 : decode b_Row_bringForward 17 = .ok (.getfield 9, 3) := by decide +kernel
theorem d_Row_bringForward_20 : decode b_Row_bringForward 20 = .ok (.iload 4, 2) := by decide +kernel
theorem d_Row_bringForward_22 : decode b_Row_bringForward 22 = .ok (.aload_n 0, 1) := by decide +kernel
theorem d_Row_bringForward_23 : decode b_Row_bringForward 23 = .ok (.getfield 9, 3) := by decide +kernel
theorem d_Row_bringForward_26 : decode b_Row_bringForward 26 = .ok (.iload 4, 2) := by decide +kernel
theorem d_Row_bringForward_28 : decode b_Row_bringForward 28 = .ok (.iconst 1, 1) := by decide +kernel
theorem d_Row_bringForward_29 : decode b_Row_bringForward 29 = .ok (.isub, 1) := by decide +kernel
theorem d_Row_bringForward_30 : decode b_Row_bringForward 30 = .ok (.iaload, 1) := by decide +kernel
theorem d_Row_bringForward_31 : decode b_Row_bringForward 31 = .ok (.iastore, 1) := by decide +kernel
theorem d_Row_bringForward_32 : decode b_Row_bringForward 32 = .ok (.iinc 4 (-1), 3) := by decide +kernel
theorem d_Row_bringForward_35 : decode b_Row_bringForward 35 = .ok (.goto (-25), 3) := by decide +kernel
theorem d_Row_bringForward_38 : decode b_Row_bringForward 38 = .ok (.aload_n 0, 1) := by decide +kernel
theorem d_Row_bringForward_39 : decode b_Row_bringForward 39 = .ok (.getfield 9, 3) := by decide +kernel
theorem d_Row_bringForward_42 : decode b_Row_bringForward 42 = .ok (.iload_n 2, 1) := by decide +kernel
theorem d_Row_bringForward_43 : decode b_Row_bringForward 43 = .ok (.iload_n 3, 1) := by decide +kernel
theorem d_Row_bringForward_44 : decode b_Row_bringForward 44 = .ok (.iastore, 1) := by decide +kernel
theorem d_Row_bringForward_45 : decode b_Row_bringForward 45 = .ok (.return_, 1) := by decide +kernel
theorem d_Row_findRank_0 : decode b_Row_findRank 0 = .ok (.iconst 0, 1) := by decide +kernel
theorem d_Row_findRank_1 : decode b_Row_findRank 1 = .ok (.istore_n 1, 1) := by decide +kernel
theorem d_Row_findRank_2 : decode b_Row_findRank 2 = .ok (.iconst 1, 1) := by decide +kernel
theorem d_Row_findRank_3 : decode b_Row_findRank 3 = .ok (.aload_n 0, 1) := by decide +kernel
theorem d_Row_findRank_4 : decode b_Row_findRank 4 = .ok (.getfield 15, 3) := by decide +kernel
theorem d_Row_findRank_7 : decode b_Row_findRank 7 = .ok (.ishl, 1) := by decide +kernel
theorem d_Row_findRank_8 : decode b_Row_findRank 8 = .ok (.iconst 1, 1) := by decide +kernel
theorem d_Row_findRank_9 : decode b_Row_findRank 9 = .ok (.isub, 1) := by decide +kernel
theorem d_Row_findRank_10 : decode b_Row_findRank 10 = .ok (.istore_n 2, 1) := by decide +kernel
theorem d_Row_findRank_11 : decode b_Row_findRank 11 = .ok (.iconst 0, 1) := by decide +kernel
theorem d_Row_findRank_12 : decode b_Row_findRank 12 = .ok (.istore_n 3, 1) := by decide +kernel
theorem d_Row_findRank_13 : decode b_Row_findRank 13 = .ok (.iload_n 3, 1) := by decide +kernel
theorem d_Row_findRank_14 : decode b_Row_findRank 14 = .ok (.aload_n 0, 1) := by decide +kernel
theorem d_Row_findRank_15 : decode b_Row_findRank 15 = .ok (.getfield 15, 3) := by decide +kernel
theorem d_Row_findRank_18 : decode b_Row_findRank 18 = .ok (.if_icmp .ge 57, 3) := by decide +kernel
theorem d_Row_findRank_21 : decode b_Row_findRank 21 = .ok (.iconst 1, 1) := by decide +kernel
theorem d_Row_findRank_22 : decode b_Row_findRank 22 = .ok (.aload_n 0, 1) := by decide +kernel
theorem d_Row_findRank_23 : decode b_Row_findRank 23 = .ok (.getfield 9, 3) := by decide +kernel
theorem d_Row_findRank_26 : decode b_Row_findRank 26 = .ok (.iload_n 3, 1) := by decide +kernel
theorem d_Row_findRank_27 : decode b_Row_findRank 27 = .ok (.iaload, 1) := by decide +kernel
theorem d_Row_findRank_28 : decode b_Row_findRank 28 = .ok (.iconst 1, 1) := by decide +kernel
theorem d_Row_findRank_29 : decode b_Row_findRank 29 = .ok (.isub, 1) := by decide +kernel
theorem d_Row_findRank_30 : decode b_Row_findRank 30 = .ok (.ishl, 1) := by decide +kernel
theorem d_Row_findRank_31 : decode b_Row_findRank 31 = .ok (.istore 4, 2) := by decide +kernel
theorem d_Row_findRank_33 : decode b_Row_findRank 33 = .ok (.iload_n 2, 1) := by decide +kernel
theorem d_Row_findRank_34 : decode b_Row_findRank 34 = .ok (.iload 4, 2) := by decide +kernel
theorem d_Row_findRank_36 : decode b_Row_findRank 36 = .ok (.iconst (-1), 1) := by decide +kernel
theorem d_Row_findRank_37 : decode b_Row_findRank 37 = .ok (.ixor, 1) := by decide +kernel
theorem d_Row_findRank_38 : decode b_Row_findRank 38 = .ok (.iand, 1) := by decide +kernel
theorem d_Row_findRank_39 : decode b_Row_findRank 39 = .ok (.istore_n 2, 1) := by decide +kernel
theorem d_Row_findRank_40 : decode b_Row_findRank 40 = .ok (.iload_n 2, 1) := by decide +kernel
theorem d_Row_findRank_41 : decode b_Row_findRank 41 = .ok (.iload 4, 2) := by decide +kernel
theorem d_Row_findRank_43 : decode b_Row_findRank 43 = .ok (.iconst 1, 1) := by decide +kernel
theorem d_Row_findRank_44 : decode b_Row_findRank 44 = .ok (.isub, 1) := by decide +kernel
theorem d_Row_findRank_45 : decode b_Row_findRank 45 = .ok (.iand, 1) := by decide +kernel
theorem d_Row_findRank_46 : decode b_Row_findRank 46 = .ok (.invokestatic 26, 3) := by decide +kernel
theorem d_Row_findRank_49 : decode b_Row_findRank 49 = .ok (.istore 5, 2) := by decide +kernel
theorem d_Row_findRank_51 : decode b_Row_findRank 51 = .ok (.iload_n 1, 1) := by decide +kernel
theorem d_Row_findRank_52 : decode b_Row_findRank 52 = .ok (.iload 5, 2) := by decide +kernel
theorem d_Row_findRank_54 : decode b_Row_findRank 54 = .ok (.getstatic 19, 3) := by decide +kernel
theorem d_Row_findRank_57 : decode b_Row_findRank 57 = .ok (.aload_n 0, 1) := by decide +kernel
theorem d_Row_findRank_58 : decode b_Row_findRank 58 = .ok (.getfield 15, 3) := by decide +kernel
theorem d_Row_findRank_61 : decode b_Row_findRank 61 = .ok (.iconst 1, 1) := by decide +kernel
theorem d_Row_findRank_62 : decode b_Row_findRank 62 = .ok (.isub, 1) := by decide +kernel
theorem d_Row_findRank_63 : decode b_Row_findRank 63 = .ok (.iload_n 3, 1) := by decide +kernel
theorem d_Row_findRank_64 : decode b_Row_findRank 64 = .ok (.isub, 1) := by decide +kernel
theorem d_Row_findRank_65 : decode b_Row_findRank 65 = .ok (.iaload, 1) := by decide +kernel
theorem d_Row_findRank_66 : decode b_Row_findRank 66 = .ok (.imul, 1) := by decide +kernel
theorem d_Row_findRank_67 : decode b_Row_findRank 67 = .ok (.iadd, 1) := by decide +kernel
theorem d_Row_findRank_68 : decode b_Row_findRank 68 = .ok (.istore_n 1, 1) := by decide +kernel
theorem d_Row_findRank_69 : decode b_Row_findRank 69 = .ok (.iinc 3 1, 3) := by decide +kernel
theorem d_Row_findRank_72 : decode b_Row_findRank 72 = .ok (.goto (-59), 3) := by decide +kernel
theorem d_Row_findRank_75 : decode b_Row_findRank 75 = .ok (.iload_n 1, 1) := by decide +kernel
theorem d_Row_findRank_76 : decode b_Row_findRank 76 = .ok (.ireturn, 1) := by decide +kernel
theorem d_Row_changeBy_0 : decode b_Row_changeBy 0 = .ok (.iconst 1, 1) := by decide +kernel
theorem d_Row_changeBy_1 : decode b_Row_changeBy 1 = .ok (.istore_n 2, 1) := by decide +kernel
theorem d_Row_changeBy_2 : decode b_Row_changeBy 2 = .ok (.iload_n 2, 1) := by decide +kernel
theorem d_Row_changeBy_3 : decode b_Row_changeBy 3 = .ok (.aload_n 0, 1) := by decide +kernel
theorem d_Row_changeBy_4 : decode b_Row_changeBy 4 = .ok (.getfield 15, 3) := by decide +kernel
theorem d_Row_changeBy_7 : decode b_Row_changeBy 7 = .ok (.if_icmp .ge 53, 3) := by decide +kernel
theorem d_Row_changeBy_10 : decode b_Row_changeBy 10 = .ok (.iload_n 1, 1) := by decide +kernel
theorem d_Row_changeBy_11 : decode b_Row_changeBy 11 = .ok (.iload_n 2, 1) := by decide +kernel
theorem d_Row_changeBy_12 : decode b_Row_changeBy 12 = .ok (.invokestatic 32, 3) := by decide +kernel
theorem d_Row_changeBy_15 : decode b_Row_changeBy 15 = .ok (.ifCond .eq 9, 3) := by decide +kernel
theorem d_Row_changeBy_18 : decode b_Row_changeBy 18 = .ok (.iinc 2 1, 3) := by decide +kernel
theorem d_Row_changeBy_21 : decode b_Row_changeBy 21 = .ok (.goto (-19), 3) := by decide +kernel
theorem d_Row_changeBy_24 : decode b_Row_changeBy 24 = .ok (.aload_n 0, 1) := by decide +kernel
theorem d_Row_changeBy_25 : decode b_Row_changeBy 25 = .ok (.getfield 9, 3) := by decide +kernel
theorem d_Row_changeBy_28 : decode b_Row_changeBy 28 = .ok (.iload_n 2, 1) := by decide +kernel
theorem d_Row_changeBy_29 : decode b_Row_changeBy 29 = .ok (.iconst 1, 1) := by decide +kernel
theorem d_Row_changeBy_30 : decode b_Row_changeBy 30 = .ok (.isub, 1) := by decide +kernel
theorem d_Row_changeBy_31 : decode b_Row_changeBy 31 = .ok (.iaload, 1) := by decide +kernel
theorem d_Row_changeBy_32 : decode b_Row_changeBy 32 = .ok (.istore_n 3, 1) := by decide +kernel
theorem d_Row_changeBy_33 : decode b_Row_changeBy 33 = .ok (.aload_n 0, 1) := by decide +kernel
theorem d_Row_changeBy_34 : decode b_Row_changeBy 34 = .ok (.getfield 9, 3) := by decide +kernel
theorem d_Row_changeBy_37 : decode b_Row_changeBy 37 = .ok (.iload_n 2, 1) := by decide +kernel
theorem d_Row_changeBy_38 : decode b_Row_changeBy 38 = .ok (.iconst 1, 1) := by decide +kernel
theorem d_Row_changeBy_39 : decode b_Row_changeBy 39 = .ok (.isub, 1) := by decide +kernel
theorem d_Row_changeBy_40 : decode b_Row_changeBy 40 = .ok (.aload_n 0, 1) := by decide +kernel
theorem d_Row_changeBy_41 : decode b_Row_changeBy 41 = .ok (.getfield 9, 3) := by decide +kernel
theorem d_Row_changeBy_44 : decode b_Row_changeBy 44 = .ok (.iload_n 2, 1) := by decide +kernel
theorem d_Row_changeBy_45 : decode b_Row_changeBy 45 = .ok (.iaload, 1) := by decide +kernel
theorem d_Row_changeBy_46 : decode b_Row_changeBy 46 = .ok (.iastore, 1) := by decide +kernel
theorem d_Row_changeBy_47 : decode b_Row_changeBy 47 = .ok (.aload_n 0, 1) := by decide +kernel
theorem d_Row_changeBy_48 : decode b_Row_changeBy 48 = .ok (.getfield 9, 3) := by decide +kernel
theorem d_Row_changeBy_51 : decode b_Row_changeBy 51 = .ok (.iload_n 2, 1) := by decide +kernel
theorem d_Row_changeBy_52 : decode b_Row_changeBy 52 = .ok (.iload_n 3, 1) := by decide +kernel
theorem d_Row_changeBy_53 : decode b_Row_changeBy 53 = .ok (.iastore, 1) := by decide +kernel
theorem d_Row_changeBy_54 : decode b_Row_changeBy 54 = .ok (.iinc 2 2, 3) := by decide +kernel
theorem d_Row_changeBy_57 : decode b_Row_changeBy 57 = .ok (.goto (-55), 3) := by decide +kernel
theorem d_Row_changeBy_60 : decode b_Row_changeBy 60 = .ok (.return_, 1) := by decide +kernel
theorem d_Row_bellAt_0 : decode b_Row_bellAt 0 = .ok (.aload_n 0, 1) := by decide +kernel
theorem d_Row_bellAt_1 : decode b_Row_bellAt 1 = .ok (.getfield 9, 3) := by decide +kernel
theorem d_Row_bellAt_4 : decode b_Row_bellAt 4 = .ok (.iload_n 1, 1) := by decide +kernel
theorem d_Row_bellAt_5 : decode b_Row_bellAt 5 = .ok (.iconst 1, 1) := by decide +kernel
theorem d_Row_bellAt_6 : decode b_Row_bellAt 6 = .ok (.isub, 1) := by decide +kernel
theorem d_Row_bellAt_7 : decode b_Row_bellAt 7 = .ok (.iaload, 1) := by decide +kernel
theorem d_Row_bellAt_8 : decode b_Row_bellAt 8 = .ok (.ireturn, 1) := by decide +kernel
theorem d_Row_matches_0 : decode b_Row_matches 0 = .ok (.iconst 0, 1) := by decide +kernel
theorem d_Row_matches_1 : decode b_Row_matches 1 = .ok (.istore_n 2, 1) := by decide +kernel
theorem d_Row_matches_2 : decode b_Row_matches 2 = .ok (.iload_n 2, 1) := by decide +kernel
theorem d_Row_matches_3 : decode b_Row_matches 3 = .ok (.aload_n 0, 1) := by decide +kernel
theorem d_Row_matches_4 : decode b_Row_matches 4 = .ok (.getfield 15, 3) := by decide +kernel
theorem d_Row_matches_7 : decode b_Row_matches 7 = .ok (.if_icmp .ge 29, 3) := by decide +kernel
theorem d_Row_matches_10 : decode b_Row_matches 10 = .ok (.aload_n 1, 1) := by decide +kernel
theorem d_Row_matches_11 : decode b_Row_matches 11 = .ok (.iload_n 2, 1) := by decide +kernel
theorem d_Row_matches_12 : decode b_Row_matches 12 = .ok (.iaload, 1) := by decide +kernel
theorem d_Row_matches_13 : decode b_Row_matches 13 = .ok (.ifCond .eq 17, 3) := by decide +kernel
theorem d_Row_matches_16 : decode b_Row_matches 16 = .ok (.aload_n 1, 1) := by decide +kernel
theorem d_Row_matches_17 : decode b_Row_matches 17 = .ok (.iload_n 2, 1) := by decide +kernel
theorem d_Row_matches_18 : decode b_Row_matches 18 = .ok (.iaload, 1) := by decide +kernel
theorem d_Row_matches_19 : decode b_Row_matches 19 = .ok (.aload_n 0, 1) := by decide +kernel
theorem d_Row_matches_20 : decode b_Row_matches 20 = .ok (.getfield 9, 3) := by decide +kernel
theorem d_Row_matches_23 : decode b_Row_matches 23 = .ok (.iload_n 2, 1) := by decide +kernel
theorem d_Row_matches_24 : decode b_Row_matches 24 = .ok (.iaload, 1) := by decide +kernel
theorem d_Row_matches_25 : decode b_Row_matches 25 = .ok (.if_icmp .eq 5, 3) := by decide +kernel
theorem d_Row_matches_28 : decode b_Row_matches 28 = .ok (.iconst 0, 1) := by decide +kernel
theorem d_Row_matches_29 : decode b_Row_matches 29 = .ok (.ireturn, 1) := by decide +kernel
theorem d_Row_matches_30 : decode b_Row_matches 30 = .ok (.iinc 2 1, 3) := by decide +kernel
theorem d_Row_matches_33 : decode b_Row_matches 33 = .ok (.goto (-31), 3) := by decide +kernel
theorem d_Row_matches_36 : decode b_Row_matches 36 = .ok (.iconst 1, 1) := by decide +kernel
theorem d_Row_matches_37 : decode b_Row_matches 37 = .ok (.ireturn, 1) := by decide +kernel
theorem d_Met_init_0 : decode b_Met_init 0 = .ok (.aload_n 0, 1) := by decide +kernel
theorem d_Met_init_1 : decode b_Met_init 1 = .ok (.invokespecial 3, 3) := by decide +kernel
theorem d_Met_init_4 : decode b_Met_init 4 = .ok (.aload_n 0, 1) := by decide +kernel
theorem d_Met_init_5 : decode b_Met_init 5 = .ok (.bipush 24, 2) := by decide +kernel
theorem d_Met_init_7 : decode b_Met_init 7 = .ok (.newarray .int, 2) := by decide +kernel
theorem d_Met_init_9 : decode b_Met_init 9 = .ok (.putfield 9, 3) := by decide +kernel
theorem d_Met_init_12 : decode b_Met_init 12 = .ok (.aload_n 0, 1) := by decide +kernel
theorem d_Met_init_13 : decode b_Met_init 13 = .ok (.iconst (-1), 1) := by decide +kernel
theorem d_Met_init_14 : decode b_Met_init 14 = .ok (.putfield 15, 3) := by decide +kernel
theorem d_Met_init_17 : decode b_Met_init 17 = .ok (.aload_n 0, 1) := by decide +kernel
theorem d_Met_init_18 : decode b_Met_init 18 = .ok (.iconst (-1), 1) := by decide +kernel
theorem d_Met_init_19 : decode b_Met_init 19 = .ok (.putfield 19, 3) := by decide +kernel
theorem d_Met_init_22 : decode b_Met_init 22 = .ok (.aload_n 0, 1) := by decide +kernel
theorem d_Met_init_23 : decode b_Met_init 23 = .ok (.iconst 0, 1) := by decide +kernel
theorem d_Met_init_24 : decode b_Met_init 24 = .ok (.putfield 22, 3) := by decide +kernel
theorem d_Met_init_27 : decode b_Met_init 27 = .ok (.return_, 1) := by decide +kernel
theorem d_Met_forget_0 : decode b_Met_forget 0 = .ok (.iconst 0, 1) := by decide +kernel
theorem d_Met_forget_1 : decode b_Met_forget 1 = .ok (.istore_n 1, 1) := by decide +kernel
theorem d_Met_forget_2 : decode b_Met_forget 2 = .ok (.iload_n 1, 1) := by decide +kernel
theorem d_Met_forget_3 : decode b_Met_forget 3 = .ok (.bipush 24, 2) := by decide +kernel
theorem d_Met_forget_5 : decode b_Met_forget 5 = .ok (.if_icmp .ge 16, 3) := by decide +kernel
theorem d_Met_forget_8 : decode b_Met_forget 8 = .ok (.aload_n 0, 1) := by decide +kernel
theorem d_Met_forget_9 : decode b_Met_forget 9 = .ok (.getfield 9, 3) := by decide +kernel
theorem d_Met_forget_12 : decode b_Met_forget 12 = .ok (.iload_n 1, 1) := by decide +kernel
theorem d_Met_forget_13 : decode b_Met_forget 13 = .ok (.iconst (-1), 1) := by decide +kernel
theorem d_Met_forget_14 : decode b_Met_forget 14 = .ok (.iastore, 1) := by decide +kernel
theorem d_Met_forget_15 : decode b_Met_forget 15 = .ok (.iinc 1 1, 3) := by decide +kernel
theorem d_Met_forget_18 : decode b_Met_forget 18 = .ok (.goto (-16), 3) := by decide +kernel
theorem d_Met_forget_21 : decode b_Met_forget 21 = .ok (.aload_n 0, 1) := by decide +kernel
theorem d_Met_forget_22 : decode b_Met_forget 22 = .ok (.iconst (-1), 1) := by decide +kernel
theorem d_Met_forget_23 : decode b_Met_forget 23 = .ok (.putfield 15, 3) := by decide +kernel
theorem d_Met_forget_26 : decode b_Met_forget 26 = .ok (.aload_n 0, 1) := by decide +kernel
theorem d_Met_forget_27 : decode b_Met_forget 27 = .ok (.iconst (-1), 1) := by decide +kernel
theorem d_Met_forget_28 : decode b_Met_forget 28 = .ok (.putfield 19, 3) := by decide +kernel
theorem d_Met_forget_31 : decode b_Met_forget 31 = .ok (.aload_n 0, 1) := by decide +kernel
theorem d_Met_forget_32 : decode b_Met_forget 32 = .ok (.iconst 0, 1) := by decide +kernel
theorem d_Met_forget_33 : decode b_Met_forget 33 = .ok (.putfield 22, 3) := by decide +kernel
theorem d_Met_forget_36 : decode b_Met_forget 36 = .ok (.return_, 1) := by decide +kernel
theorem d_Met_giveMask_0 : decode b_Met_giveMask 0 = .ok (.aload_n 0, 1) := by decide +kernel
theorem d_Met_giveMask_1 : decode b_Met_giveMask 1 = .ok (.getfield 9, 3) := by decide +kernel
theorem d_Met_giveMask_4 : decode b_Met_giveMask 4 = .ok (.iload_n 1, 1) := by decide +kernel
theorem d_Met_giveMask_5 : decode b_Met_giveMask 5 = .ok (.iload_n 2, 1) := by decide +kernel
theorem d_Met_giveMask_6 : decode b_Met_giveMask 6 = .ok (.iastore, 1) := by decide +kernel
theorem d_Met_giveMask_7 : decode b_Met_giveMask 7 = .ok (.return_, 1) := by decide +kernel
theorem d_Met_giveCallMask_0 : decode b_Met_giveCallMask 0 = .ok (.iload_n 1, 1) := by decide +kernel
theorem d_Met_giveCallMask_1 : decode b_Met_giveCallMask 1 = .ok (.iconst 1, 1) := by decide +kernel
theorem d_Met_giveCallMask_2 : decode b_Met_giveCallMask 2 = .ok (.if_icmp .ne 11, 3) := by decide +kernel
theorem d_Met_giveCallMask_5 : decode b_Met_giveCallMask 5 = .ok (.aload_n 0, 1) := by decide +kernel
theorem d_Met_giveCallMask_6 : decode b_Met_giveCallMask 6 = .ok (.iload_n 2, 1) := by decide +kernel
theorem d_Met_giveCallMask_7 : decode b_Met_giveCallMask 7 = .ok (.putfield 15, 3) := by decide +kernel
theorem d_Met_giveCallMask_10 : decode b_Met_giveCallMask 10 = .ok (.goto 8, 3) := by decide +kernel
theorem d_Met_giveCallMask_13 : decode b_Met_giveCallMask 13 = .ok (.aload_n 0, 1) := by decide +kernel
theorem d_Met_giveCallMask_14 : decode b_Met_giveCallMask 14 = .ok (.iload_n 2, 1) := by decide +kernel
theorem d_Met_giveCallMask_15 : decode b_Met_giveCallMask 15 = .ok (.putfield 19, 3) := by decide +kernel
theorem d_Met_giveCallMask_18 : decode b_Met_giveCallMask 18 = .ok (.return_, 1) := by decide +kernel
theorem d_Met_hasFirstMasks_0 : decode b_Met_hasFirstMasks 0 = .ok (.iconst 0, 1) := by decide +kernel
theorem d_Met_hasFirstMasks_1 : decode b_Met_hasFirstMasks 1 = .ok (.istore_n 2, 1) := by decide +kernel
theorem d_Met_hasFirstMasks_2 : decode b_Met_hasFirstMasks 2 = .ok (.iload_n 2, 1) := by decide +kernel
theorem d_Met_hasFirstMasks_3 : decode b_Met_hasFirstMasks 3 = .ok (.iload_n 1, 1) := by decide +kernel
theorem d_Met_hasFirstMasks_4 : decode b_Met_hasFirstMasks 4 = .ok (.if_icmp .ge 21, 3) := by decide +kernel
theorem d_Met_hasFirstMasks_7 : decode b_Met_hasFirstMasks 7 = .ok (.aload_n 0, 1) := by decide +kernel
theorem d_Met_hasFirstMasks_8 : decode b_Met_hasFirstMasks 8 = .ok (.getfield 9, 3) := by decide +kernel
theorem d_Met_hasFirstMasks_11 : decode b_Met_hasFirstMasks 11 = .ok (.iload_n 2, 1) := by decide +kernel
theorem d_Met_hasFirstMasks_12 : decode b_Met_hasFirstMasks 12 = .ok (.iaload, 1) := by decide +kernel
theorem d_Met_hasFirstMasks_13 : decode b_Met_hasFirstMasks 13 = .ok (.iconst (-1), 1) := by decide +kernel
theorem d_Met_hasFirstMasks_14 : decode b_Met_hasFirstMasks 14 = .ok (.if_icmp .ne 5, 3) := by decide +kernel
theorem d_Met_hasFirstMasks_17 : decode b_Met_hasFirstMasks 17 = .ok (.iconst 0, 1) := by decide +kernel
theorem d_Met_hasFirstMasks_18 : decode b_Met_hasFirstMasks 18 = .ok (.ireturn, 1) := by decide +kernel
theorem d_Met_hasFirstMasks_19 : decode b_Met_hasFirstMasks 19 = .ok (.iinc 2 1, 3) := by decide +kernel
theorem d_Met_hasFirstMasks_22 : decode b_Met_hasFirstMasks 22 = .ok (.goto (-20), 3) := by decide +kernel
theorem d_Met_hasFirstMasks_25 : decode b_Met_hasFirstMasks 25 = .ok (.iconst 1, 1) := by decide +kernel
theorem d_Met_hasFirstMasks_26 : decode b_Met_hasFirstMasks 26 = .ok (.ireturn, 1) := by decide +kernel
theorem d_Met_hasCall_0 : decode b_Met_hasCall 0 = .ok (.iload_n 1, 1) := by decide +kernel
theorem d_Met_hasCall_1 : decode b_Met_hasCall 1 = .ok (.ifCond .ne 10, 3) := by decide +kernel
theorem d_Met_hasCall_4 : decode b_Met_hasCall 4 = .ok (.aload_n 0, 1) := by decide +kernel
theorem d_Met_hasCall_5 : decode b_Met_hasCall 5 = .ok (.invokevirtual 25, 3) := by decide +kernel
theorem d_Met_hasCall_8 : decode b_Met_hasCall 8 = .ok (.ifCond .ne 29, 3) := by decide +kernel
theorem d_Met_hasCall_11 : decode b_Met_hasCall 11 = .ok (.iload_n 1, 1) := by decide +kernel
theorem d_Met_hasCall_12 : decode b_Met_hasCall 12 = .ok (.iconst 1, 1) := by decide +kernel
theorem d_Met_hasCall_13 : decode b_Met_hasCall 13 = .ok (.if_icmp .ne 11, 3) := by decide +kernel
theorem d_Met_hasCall_16 : decode b_Met_hasCall 16 = .ok (.aload_n 0, 1) := by decide +kernel
theorem d_Met_hasCall_17 : decode b_Met_hasCall 17 = .ok (.getfield 15, 3) := by decide +kernel
theorem d_Met_hasCall_20 : decode b_Met_hasCall 20 = .ok (.iconst (-1), 1) := by decide +kernel
theorem d_Met_hasCall_21 : decode b_Met_hasCall 21 = .ok (.if_icmp .ne 16, 3) := by decide +kernel
theorem d_Met_hasCall_24 : decode b_Met_hasCall 24 = .ok (.iload_n 1, 1) := by decide +kernel
theorem d_Met_hasCall_25 : decode b_Met_hasCall 25 = .ok (.iconst 2, 1) := by decide +kernel
theorem d_Met_hasCall_26 : decode b_Met_hasCall 26 = .ok (.if_icmp .ne 15, 3) := by decide +kernel
theorem d_Met_hasCall_29 : decode b_Met_hasCall 29 = .ok (.aload_n 0, 1) := by decide +kernel
theorem d_Met_hasCall_30 : decode b_Met_hasCall 30 = .ok (.getfield 19, 3) := by decide +kernel
theorem d_Met_hasCall_33 : decode b_Met_hasCall 33 = .ok (.iconst (-1), 1) := by decide +kernel
theorem d_Met_hasCall_34 : decode b_Met_hasCall 34 = .ok (.if_icmp .eq 7, 3) := by decide +kernel
theorem d_Met_hasCall_37 : decode b_Met_hasCall 37 = .ok (.iconst 1, 1) := by decide +kernel
theorem d_Met_hasCall_38 : decode b_Met_hasCall 38 = .ok (.goto 4, 3) := by decide +kernel
theorem d_Met_hasCall_41 : decode b_Met_hasCall 41 = .ok (.iconst 0, 1) := by decide +kernel
theorem d_Met_hasCall_42 : decode b_Met_hasCall 42 = .ok (.ireturn, 1) := by decide +kernel
theorem d_Met_becomeOfLength_0 : decode b_Met_becomeOfLength 0 = .ok (.aload_n 0, 1) := by decide +kernel
theorem d_Met_becomeOfLength_1 : decode b_Met_becomeOfLength 1 = .ok (.iload_n 1, 1) := by decide +kernel
theorem d_Met_becomeOfLength_2 : decode b_Met_becomeOfLength 2 = .ok (.putfield 22, 3) := by decide +kernel
theorem d_Met_becomeOfLength_5 : decode b_Met_becomeOfLength 5 = .ok (.return_, 1) := by decide +kernel
theorem d_Met_isDefined_0 : decode b_Met_isDefined 0 = .ok (.aload_n 0, 1) := by decide +kernel
theorem d_Met_isDefined_1 : decode b_Met_isDefined 1 = .ok (.getfield 22, 3) := by decide +kernel
theorem d_Met_isDefined_4 : decode b_Met_isDefined 4 = .ok (.ifCond .le 7, 3) := by decide +kernel
theorem d_Met_isDefined_7 : decode b_Met_isDefined 7 = .ok (.iconst 1, 1) := by decide +kernel
theorem d_Met_isDefined_8 : decode b_Met_isDefined 8 = .ok (.goto 4, 3) := by decide +kernel
theorem d_Met_isDefined_11 : decode b_Met_isDefined 11 = .ok (.iconst 0, 1) := by decide +kernel
theorem d_Met_isDefined_12 : decode b_Met_isDefined 12 = .ok (.ireturn, 1) := by decide +kernel
theorem d_Met_leadLength_0 : decode b_Met_leadLength 0 = .ok (.aload_n 0, 1) := by decide +kernel
theorem d_Met_leadLength_1 : decode b_Met_leadLength 1 = .ok (.getfield 22, 3) := by decide +kernel
theorem d_Met_leadLength_4 : decode b_Met_leadLength 4 = .ok (.ireturn, 1) := by decide +kernel
theorem d_Met_maskFor_0 : decode b_Met_maskFor 0 = .ok (.iload_n 1, 1) := by decide +kernel
theorem d_Met_maskFor_1 : decode b_Met_maskFor 1 = .ok (.ifCond .eq 13, 3) := by decide +kernel
theorem d_Met_maskFor_4 : decode b_Met_maskFor 4 = .ok (.iload_n 2, 1) := by decide +kernel
theorem d_Met_maskFor_5 : decode b_Met_maskFor 5 = .ok (.aload_n 0, 1) := by decide +kernel
theorem d_Met_maskFor_6 : decode b_Met_maskFor 6 = .ok (.getfield 22, 3) := by decide +kernel
theorem d_Met_maskFor_9 : decode b_Met_maskFor 9 = .ok (.iconst 1, 1) := by decide +kernel
theorem d_Met_maskFor_10 : decode b_Met_maskFor 10 = .ok (.isub, 1) := by decide +kernel
theorem d_Met_maskFor_11 : decode b_Met_maskFor 11 = .ok (.if_icmp .eq 10, 3) := by decide +kernel
theorem d_Met_maskFor_14 : decode b_Met_maskFor 14 = .ok (.aload_n 0, 1) := by decide +kernel
theorem d_Met_maskFor_15 : decode b_Met_maskFor 15 = .ok (.getfield 9, 3) := by decide +kernel
theorem d_Met_maskFor_18 : decode b_Met_maskFor 18 = .ok (.iload_n 2, 1) := by decide +kernel
theorem d_Met_maskFor_19 : decode b_Met_maskFor 19 = .ok (.iaload, 1) := by decide +kernel
theorem d_Met_maskFor_20 : decode b_Met_maskFor 20 = .ok (.ireturn, 1) := by decide +kernel
theorem d_Met_maskFor_21 : decode b_Met_maskFor 21 = .ok (.iload_n 1, 1) := by decide +kernel
theorem d_Met_maskFor_22 : decode b_Met_maskFor 22 = .ok (.iconst 1, 1) := by decide +kernel
theorem d_Met_maskFor_23 : decode b_Met_maskFor 23 = .ok (.if_icmp .ne 10, 3) := by decide +kernel
theorem d_Met_maskFor_26 : decode b_Met_maskFor 26 = .ok (.aload_n 0, 1) := by decide +kernel
theorem d_Met_maskFor_27 : decode b_Met_maskFor 27 = .ok (.getfield 15, 3) := by decide +kernel
theorem d_Met_maskFor_30 : decode b_Met_maskFor 30 = .ok (.goto 7, 3) := by decide +kernel
theorem d_Met_maskFor_33 : decode b_Met_maskFor 33 = .ok (.aload_n 0, 1) := by decide +kernel
theorem d_Met_maskFor_34 : decode b_Met_maskFor 34 = .ok (.getfield 19, 3) := by decide +kernel
theorem d_Met_maskFor_37 : decode b_Met_maskFor 37 = .ok (.ireturn, 1) := by decide +kernel
theorem d_Set_init_0 : decode b_Set_init 0 = .ok (.aload_n 0, 1) := by decide +kernel
theorem d_Set_init_1 : decode b_Set_init 1 = .ok (.invokespecial 3, 3) := by decide +kernel
theorem d_Set_init_4 : decode b_Set_init 4 = .ok (.aload_n 0, 1) := by decide +kernel
theorem d_Set_init_5 : decode b_Set_init 5 = .ok (.sipush 720, 3) := by decide +kernel
theorem d_Set_init_8 : decode b_Set_init 8 = .ok (.newarray .int, 2) := by decide +kernel
theorem d_Set_init_10 : decode b_Set_init 10 = .ok (.putfield 9, 3) := by decide +kernel
theorem d_Set_init_13 : decode b_Set_init 13 = .ok (.aload_n 0, 1) := by decide +kernel
theorem d_Set_init_14 : decode b_Set_init 14 = .ok (.sipush 720, 3) := by decide +kernel
theorem d_Set_init_17 : decode b_Set_init 17 = .ok (.newarray .int, 2) := by decide +kernel
theorem d_Set_init_19 : decode b_Set_init 19 = .ok (.putfield 15, 3) := by decide +kernel
theorem d_Set_init_22 : decode b_Set_init 22 = .ok (.aload_n 0, 1) := by decide +kernel
theorem d_Set_init_23 : decode b_Set_init 23 = .ok (.iconst 0, 1) := by decide +kernel
theorem d_Set_init_24 : decode b_Set_init 24 = .ok (.putfield 18, 3) := by decide +kernel
theorem d_Set_init_27 : decode b_Set_init 27 = .ok (.return_, 1) := by decide +kernel
theorem d_Set_length_0 : decode b_Set_length 0 = .ok (.aload_n 0, 1) := by decide +kernel
theorem d_Set_length_1 : decode b_Set_length 1 = .ok (.getfield 18, 3) := by decide +kernel
theorem d_Set_length_4 : decode b_Set_length 4 = .ok (.ireturn, 1) := by decide +kernel
theorem d_Set_rankAt_0 : decode b_Set_rankAt 0 = .ok (.aload_n 0, 1) := by decide +kernel
theorem d_Set_rankAt_1 : decode b_Set_rankAt 1 = .ok (.getfield 9, 3) := by decide +kernel
theorem d_Set_rankAt_4 : decode b_Set_rankAt 4 = .ok (.iload_n 1, 1) := by decide +kernel
theorem d_Set_rankAt_5 : decode b_Set_rankAt 5 = .ok (.iaload, 1) := by decide +kernel
theorem d_Set_rankAt_6 : decode b_Set_rankAt 6 = .ok (.ireturn, 1) := by decide +kernel
theorem d_Set_has_0 : decode b_Set_has 0 = .ok (.aload_n 0, 1) := by decide +kernel
theorem d_Set_has_1 : decode b_Set_has 1 = .ok (.getfield 15, 3) := by decide +kernel
theorem d_Set_has_4 : decode b_Set_has 4 = .ok (.iload_n 1, 1) := by decide +kernel
theorem d_Set_has_5 : decode b_Set_has 5 = .ok (.iaload, 1) := by decide +kernel
theorem d_Set_has_6 : decode b_Set_has 6 = .ok (.istore_n 2, 1) := by decide +kernel
theorem d_Set_has_7 : decode b_Set_has 7 = .ok (.iload_n 2, 1) := by decide +kernel
theorem d_Set_has_8 : decode b_Set_has 8 = .ok (.aload_n 0, 1) := by decide +kernel
theorem d_Set_has_9 : decode b_Set_has 9 = .ok (.getfield 18, 3) := by decide +kernel
theorem d_Set_has_12 : decode b_Set_has 12 = .ok (.if_icmp .ge 17, 3) := by decide +kernel
theorem d_Set_has_15 : decode b_Set_has 15 = .ok (.aload_n 0, 1) := by decide +kernel
theorem d_Set_has_16 : decode b_Set_has 16 = .ok (.getfield 9, 3) := by decide +kernel
theorem d_Set_has_19 : decode b_Set_has 19 = .ok (.iload_n 2, 1) := by decide +kernel
theorem d_Set_has_20 : decode b_Set_has 20 = .ok (.iaload, 1) := by decide +kernel
theorem d_Set_has_21 : decode b_Set_has 21 = .ok (.iload_n 1, 1) := by decide +kernel
theorem d_Set_has_22 : decode b_Set_has 22 = .ok (.if_icmp .ne 7, 3) := by decide +kernel
theorem d_Set_has_25 : decode b_Set_has 25 = .ok (.iconst 1, 1) := by decide +kernel
theorem d_Set_has_26 : decode b_Set_has 26 = .ok (.goto 4, 3) := by decide +kernel
theorem d_Set_has_29 : decode b_Set_has 29 = .ok (.iconst 0, 1) := by decide +kernel
theorem d_Set_has_30 : decode b_Set_has 30 = .ok (.ireturn, 1) := by decide +kernel
theorem d_Set_add_0 : decode b_Set_add 0 = .ok (.aload_n 0, 1) := by decide +kernel
theorem d_Set_add_1 : decode b_Set_add 1 = .ok (.iload_n 1, 1) := by decide +kernel
theorem d_Set_add_2 : decode b_Set_add 2 = .ok (.invokevirtual 22, 3) := by decide +kernel
theorem d_Set_add_5 : decode b_Set_add 5 = .ok (.ifCond .eq 4, 3) := by decide +kernel
theorem d_Set_add_8 : decode b_Set_add 8 = .ok (.return_, 1) := by decide +kernel
theorem d_Set_add_9 : decode b_Set_add 9 = .ok (.aload_n 0, 1) := by decide +kernel
theorem d_Set_add_10 : decode b_Set_add 10 = .ok (.getfield 9, 3) := by decide +kernel
theorem d_Set_add_13 : decode b_Set_add 13 = .ok (.aload_n 0, 1) := by decide +kernel
theorem d_Set_add_14 : decode b_Set_add 14 = .ok (.getfield 18, 3) := by decide +kernel
theorem d_Set_add_17 : decode b_Set_add 17 = .ok (.iload_n 1, 1) := by decide +kernel
theorem d_Set_add_18 : decode b_Set_add 18 = .ok (.iastore, 1) := by decide +kernel
theorem d_Set_add_19 : decode b_Set_add 19 = .ok (.aload_n 0, 1) := by decide +kernel
theorem d_Set_add_20 : decode b_Set_add 20 = .ok (.getfield 15, 3) := by decide +kernel
theorem d_Set_add_23 : decode b_Set_add 23 = .ok (.iload_n 1, 1) := by decide +kernel
theorem d_Set_add_24 : decode b_Set_add 24 = .ok (.aload_n 0, 1) := by decide +kernel
theorem d_Set_add_25 : decode b_Set_add 25 = .ok (.getfield 18, 3) := by decide +kernel
theorem d_Set_add_28 : decode b_Set_add 28 = .ok (.iastore, 1) := by decide +kernel
theorem d_Set_add_29 : decode b_Set_add 29 = .ok (.aload_n 0, 1) := by decide +kernel
theorem d_Set_add_30 : decode b_Set_add 30 = .ok (.dup, 1) := by decide +kernel
theorem d_Set_add_31 : decode b_Set_add 31 = .ok (.getfield 18, 3) := by decide +kernel
theorem d_Set_add_34 : decode b_Set_add 34 = .ok (.iconst 1, 1) := by decide +kernel
theorem d_Set_add_35 : decode b_Set_add 35 = .ok (.iadd, 1) := by decide +kernel
theorem d_Set_add_36 : decode b_Set_add 36 = .ok (.putfield 18, 3) := by decide +kernel
theorem d_Set_add_39 : decode b_Set_add 39 = .ok (.return_, 1) := by decide +kernel
theorem d_Set_dropFrom_0 : decode b_Set_dropFrom 0 = .ok (.aload_n 0, 1) := by decide +kernel
theorem d_Set_dropFrom_1 : decode b_Set_dropFrom 1 = .ok (.iload_n 1, 1) := by decide +kernel
theorem d_Set_dropFrom_2 : decode b_Set_dropFrom 2 = .ok (.putfield 18, 3) := by decide +kernel
theorem d_Set_dropFrom_5 : decode b_Set_dropFrom 5 = .ok (.return_, 1) := by decide +kernel
theorem d_Ring_init_0 : decode b_Ring_init 0 = .ok (.aload_n 0, 1) := by decide +kernel
theorem d_Ring_init_1 : decode b_Ring_init 1 = .ok (.invokespecial 3, 3) := by decide +kernel
theorem d_Ring_init_4 : decode b_Ring_init 4 = .ok (.aload_n 0, 1) := by decide +kernel
theorem d_Ring_init_5 : decode b_Ring_init 5 = .ok (.new 9, 3) := by decide +kernel
theorem d_Ring_init_8 : decode b_Ring_init 8 = .ok (.dup, 1) := by decide +kernel
theorem d_Ring_init_9 : decode b_Ring_init 9 = .ok (.invokespecial 11, 3) := by decide +kernel
theorem d_Ring_init_12 : decode b_Ring_init 12 = .ok (.putfield 12, 3) := by decide +kernel
theorem d_Ring_init_15 : decode b_Ring_init 15 = .ok (.aload_n 0, 1) := by decide +kernel
theorem d_Ring_init_16 : decode b_Ring_init 16 = .ok (.aload_n 1, 1) := by decide +kernel
theorem d_Ring_init_17 : decode b_Ring_init 17 = .ok (.putfield 18, 3) := by decide +kernel
theorem d_Ring_init_20 : decode b_Ring_init 20 = .ok (.aload_n 0, 1) := by decide +kernel
theorem d_Ring_init_21 : decode b_Ring_init 21 = .ok (.aload_n 2, 1) := by decide +kernel
theorem d_Ring_init_22 : decode b_Ring_init 22 = .ok (.putfield 22, 3) := by decide +kernel
theorem d_Ring_init_25 : decode b_Ring_init 25 = .ok (.return_, 1) := by decide +kernel
theorem d_Ring_startInRounds_0 : decode b_Ring_startInRounds 0 = .ok (.aload_n 0, 1) := by decide +kernel
theorem d_Ring_startInRounds_1 : decode b_Ring_startInRounds 1 = .ok (.getfield 22, 3) := by decide +kernel
theorem d_Ring_startInRounds_4 : decode b_Ring_startInRounds 4 = .ok (.iconst 0, 1) := by decide +kernel
theorem d_Ring_startInRounds_5 : decode b_Ring_startInRounds 5 = .ok (.invokevirtual 26, 3) := by decide +kernel
theorem d_Ring_startInRounds_8 : decode b_Ring_startInRounds 8 = .ok (.aload_n 0, 1) := by decide +kernel
theorem d_Ring_startInRounds_9 : decode b_Ring_startInRounds 9 = .ok (.getfield 12, 3) := by decide +kernel
theorem d_Ring_startInRounds_12 : decode b_Ring_startInRounds 12 = .ok (.iconst 0, 1) := by decide +kernel
theorem d_Ring_startInRounds_13 : decode b_Ring_startInRounds 13 = .ok (.invokevirtual 32, 3) := by decide +kernel
theorem d_Ring_startInRounds_16 : decode b_Ring_startInRounds 16 = .ok (.aload_n 0, 1) := by decide +kernel
theorem d_Ring_startInRounds_17 : decode b_Ring_startInRounds 17 = .ok (.getfield 12, 3) := by decide +kernel
theorem d_Ring_startInRounds_20 : decode b_Ring_startInRounds 20 = .ok (.iconst 0, 1) := by decide +kernel
theorem d_Ring_startInRounds_21 : decode b_Ring_startInRounds 21 = .ok (.invokevirtual 35, 3) := by decide +kernel
theorem d_Ring_startInRounds_24 : decode b_Ring_startInRounds 24 = .ok (.return_, 1) := by decide +kernel
theorem d_Ring_goBackTo_0 : decode b_Ring_goBackTo 0 = .ok (.aload_n 0, 1) := by decide +kernel
theorem d_Ring_goBackTo_1 : decode b_Ring_goBackTo 1 = .ok (.getfield 12, 3) := by decide +kernel
theorem d_Ring_goBackTo_4 : decode b_Ring_goBackTo 4 = .ok (.iload_n 1, 1) := by decide +kernel
theorem d_Ring_goBackTo_5 : decode b_Ring_goBackTo 5 = .ok (.iconst 1, 1) := by decide +kernel
theorem d_Ring_goBackTo_6 : decode b_Ring_goBackTo 6 = .ok (.iadd, 1) := by decide +kernel
theorem d_Ring_goBackTo_7 : decode b_Ring_goBackTo 7 = .ok (.invokevirtual 32, 3) := by decide +kernel
theorem d_Ring_goBackTo_10 : decode b_Ring_goBackTo 10 = .ok (.aload_n 0, 1) := by decide +kernel
theorem d_Ring_goBackTo_11 : decode b_Ring_goBackTo 11 = .ok (.getfield 22, 3) := by decide +kernel
theorem d_Ring_goBackTo_14 : decode b_Ring_goBackTo 14 = .ok (.aload_n 0, 1) := by decide +kernel
theorem d_Ring_goBackTo_15 : decode b_Ring_goBackTo 15 = .ok (.getfield 12, 3) := by decide +kernel
theorem d_Ring_goBackTo_18 : decode b_Ring_goBackTo 18 = .ok (.iload_n 1, 1) := by decide +kernel
theorem d_Ring_goBackTo_19 : decode b_Ring_goBackTo 19 = .ok (.invokevirtual 38, 3) := by decide +kernel
theorem d_Ring_goBackTo_22 : decode b_Ring_goBackTo 22 = .ok (.invokevirtual 26, 3) := by decide +kernel
theorem d_Ring_goBackTo_25 : decode b_Ring_goBackTo 25 = .ok (.return_, 1) := by decide +kernel
theorem d_Ring_ringLead_0 : decode b_Ring_ringLead 0 = .ok (.iconst 0, 1) := by decide +kernel
theorem d_Ring_ringLead_1 : decode b_Ring_ringLead 1 = .ok (.istore_n 2, 1) := by decide +kernel
theorem d_Ring_ringLead_2 : decode b_Ring_ringLead 2 = .ok (.iload_n 2, 1) := by decide +kernel
theorem d_Ring_ringLead_3 : decode b_Ring_ringLead 3 = .ok (.aload_n 0, 1) := by decide +kernel
theorem d_Ring_ringLead_4 : decode b_Ring_ringLead 4 = .ok (.getfield 18, 3) := by decide +kernel
theorem d_Ring_ringLead_7 : decode b_Ring_ringLead 7 = .ok (.invokevirtual 42, 3) := by decide +kernel
theorem d_Ring_ringLead_10 : decode b_Ring_ringLead 10 = .ok (.if_icmp .ge 60, 3) := by decide +kernel
theorem d_Ring_ringLead_13 : decode b_Ring_ringLead 13 = .ok (.aload_n 0, 1) := by decide +kernel
theorem d_Ring_ringLead_14 : decode b_Ring_ringLead 14 = .ok (.getfield 22, 3) := by decide +kernel
theorem d_Ring_ringLead_17 : decode b_Ring_ringLead 17 = .ok (.aload_n 0, 1) := by decide +kernel
theorem d_Ring_ringLead_18 : decode b_Ring_ringLead 18 = .ok (.getfield 18, 3) := by decide +kernel
theorem d_Ring_ringLead_21 : decode b_Ring_ringLead 21 = .ok (.iload_n 1, 1) := by decide +kernel
theorem d_Ring_ringLead_22 : decode b_Ring_ringLead 22 = .ok (.iload_n 2, 1) := by decide +kernel
theorem d_Ring_ringLead_23 : decode b_Ring_ringLead 23 = .ok (.invokevirtual 48, 3) := by decide +kernel
theorem d_Ring_ringLead_26 : decode b_Ring_ringLead 26 = .ok (.invokevirtual 52, 3) := by decide +kernel
theorem d_Ring_ringLead_29 : decode b_Ring_ringLead 29 = .ok (.aload_n 0, 1) := by decide +kernel
theorem d_Ring_ringLead_30 : decode b_Ring_ringLead 30 = .ok (.getfield 22, 3) := by decide +kernel
theorem d_Ring_ringLead_33 : decode b_Ring_ringLead 33 = .ok (.invokevirtual 55, 3) := by decide +kernel
theorem d_Ring_ringLead_36 : decode b_Ring_ringLead 36 = .ok (.istore_n 3, 1) := by decide +kernel
theorem d_Ring_ringLead_37 : decode b_Ring_ringLead 37 = .ok (.aload_n 0, 1) := by decide +kernel
theorem d_Ring_ringLead_38 : decode b_Ring_ringLead 38 = .ok (.getfield 12, 3) := by decide +kernel
theorem d_Ring_ringLead_41 : decode b_Ring_ringLead 41 = .ok (.iload_n 3, 1) := by decide +kernel
theorem d_Ring_ringLead_42 : decode b_Ring_ringLead 42 = .ok (.invokevirtual 58, 3) := by decide +kernel
theorem d_Ring_ringLead_45 : decode b_Ring_ringLead 45 = .ok (.ifCond .eq 11, 3) := by decide +kernel
theorem d_Ring_ringLead_48 : decode b_Ring_ringLead 48 = .ok (.aload_n 0, 1) := by decide +kernel
theorem d_Ring_ringLead_49 : decode b_Ring_ringLead 49 = .ok (.getfield 12, 3) := by decide +kernel
theorem d_Ring_ringLead_52 : decode b_Ring_ringLead 52 = .ok (.invokevirtual 62, 3) := by decide +kernel
theorem d_Ring_ringLead_55 : decode b_Ring_ringLead 55 = .ok (.ireturn, 1) := by decide +kernel
theorem d_Ring_ringLead_56 : decode b_Ring_ringLead 56 = .ok (.aload_n 0, 1) := by decide +kernel
theorem d_Ring_ringLead_57 : decode b_Ring_ringLead 57 = .ok (.getfield 12, 3) := by decide +kernel
theorem d_Ring_ringLead_60 : decode b_Ring_ringLead 60 = .ok (.iload_n 3, 1) := by decide +kernel
theorem d_Ring_ringLead_61 : decode b_Ring_ringLead 61 = .ok (.invokevirtual 35, 3) := by decide +kernel
theorem d_Ring_ringLead_64 : decode b_Ring_ringLead 64 = .ok (.iinc 2 1, 3) := by decide +kernel
theorem d_Ring_ringLead_67 : decode b_Ring_ringLead 67 = .ok (.goto (-65), 3) := by decide +kernel
theorem d_Ring_ringLead_70 : decode b_Ring_ringLead 70 = .ok (.iconst 0, 1) := by decide +kernel
theorem d_Ring_ringLead_71 : decode b_Ring_ringLead 71 = .ok (.ireturn, 1) := by decide +kernel
theorem d_Ring_endsTrue_0 : decode b_Ring_endsTrue 0 = .ok (.iload_n 1, 1) := by decide +kernel
theorem d_Ring_endsTrue_1 : decode b_Ring_endsTrue 1 = .ok (.iload_n 2, 1) := by decide +kernel
theorem d_Ring_endsTrue_2 : decode b_Ring_endsTrue 2 = .ok (.aload_n 0, 1) := by decide +kernel
theorem d_Ring_endsTrue_3 : decode b_Ring_endsTrue 3 = .ok (.getfield 18, 3) := by decide +kernel
theorem d_Ring_endsTrue_6 : decode b_Ring_endsTrue 6 = .ok (.invokevirtual 42, 3) := by decide +kernel
theorem d_Ring_endsTrue_9 : decode b_Ring_endsTrue 9 = .ok (.imul, 1) := by decide +kernel
theorem d_Ring_endsTrue_10 : decode b_Ring_endsTrue 10 = .ok (.if_icmp .ne 17, 3) := by decide +kernel
theorem d_Ring_endsTrue_13 : decode b_Ring_endsTrue 13 = .ok (.aload_n 0, 1) := by decide +kernel
theorem d_Ring_endsTrue_14 : decode b_Ring_endsTrue 14 = .ok (.getfield 22, 3) := by decide +kernel
theorem d_Ring_endsTrue_17 : decode b_Ring_endsTrue 17 = .ok (.invokevirtual 55, 3) := by decide +kernel
theorem d_Ring_endsTrue_20 : decode b_Ring_endsTrue 20 = .ok (.ifCond .ne 7, 3) := by decide +kernel
theorem d_Ring_endsTrue_23 : decode b_Ring_endsTrue 23 = .ok (.iconst 1, 1) := by decide +kernel
theorem d_Ring_endsTrue_24 : decode b_Ring_endsTrue 24 = .ok (.goto 4, 3) := by decide +kernel
theorem d_Ring_endsTrue_27 : decode b_Ring_endsTrue 27 = .ok (.iconst 0, 1) := by decide +kernel
theorem d_Ring_endsTrue_28 : decode b_Ring_endsTrue 28 = .ok (.ireturn, 1) := by decide +kernel
theorem d_Ring_trebleComesHome_0 : decode b_Ring_trebleComesHome 0 = .ok (.aload_n 0, 1) := by decide +kernel
theorem d_Ring_trebleComesHome_1 : decode b_Ring_trebleComesHome 1 = .ok (.getfield 22, 3) := by decide +kernel
theorem d_Ring_trebleComesHome_4 : decode b_Ring_trebleComesHome 4 = .ok (.iconst 0, 1) := by decide +kernel
theorem d_Ring_trebleComesHome_5 : decode b_Ring_trebleComesHome 5 = .ok (.invokevirtual 26, 3) := by decide +kernel
theorem d_Ring_trebleComesHome_8 : decode b_Ring_trebleComesHome 8 = .ok (.iconst 0, 1) := by decide +kernel
theorem d_Ring_trebleComesHome_9 : decode b_Ring_trebleComesHome 9 = .ok (.istore_n 2, 1) := by decide +kernel
theorem d_Ring_trebleComesHome_10 : decode b_Ring_trebleComesHome 10 = .ok (.iload_n 2, 1) := by decide +kernel
theorem d_Ring_trebleComesHome_11 : decode b_Ring_trebleComesHome 11 = .ok (.iload_n 1, 1) := by decide +kernel
theorem d_Ring_trebleComesHome_12 : decode b_Ring_trebleComesHome 12 = .ok (.if_icmp .ge 25, 3) := by decide +kernel
theorem d_Ring_trebleComesHome_15 : decode b_Ring_trebleComesHome 15 = .ok (.aload_n 0, 1) := by decide +kernel
theorem d_Ring_trebleComesHome_16 : decode b_Ring_trebleComesHome 16 = .ok (.getfield 22, 3) := by decide +kernel
theorem d_Ring_trebleComesHome_19 : decode b_Ring_trebleComesHome 19 = .ok (.aload_n 0, 1) := by decide +kernel
theorem d_Ring_trebleComesHome_20 : decode b_Ring_trebleComesHome 20 = .ok (.getfield 18, 3) := by decide +kernel
theorem d_Ring_trebleComesHome_23 : decode b_Ring_trebleComesHome 23 = .ok (.iconst 0, 1) := by decide +kernel
theorem d_Ring_trebleComesHome_24 : decode b_Ring_trebleComesHome 24 = .ok (.iload_n 2, 1) := by decide +kernel
theorem d_Ring_trebleComesHome_25 : decode b_Ring_trebleComesHome 25 = .ok (.invokevirtual 48, 3) := by decide +kernel
theorem d_Ring_trebleComesHome_28 : decode b_Ring_trebleComesHome 28 = .ok (.invokevirtual 52, 3) := by decide +kernel
theorem d_Ring_trebleComesHome_31 : decode b_Ring_trebleComesHome 31 = .ok (.iinc 2 1, 3) := by decide +kernel
theorem d_Ring_trebleComesHome_34 : decode b_Ring_trebleComesHome 34 = .ok (.goto (-24), 3) := by decide +kernel
theorem d_Ring_trebleComesHome_37 : decode b_Ring_trebleComesHome 37 = .ok (.aload_n 0, 1) := by decide +kernel
theorem d_Ring_trebleComesHome_38 : decode b_Ring_trebleComesHome 38 = .ok (.getfield 22, 3) := by decide +kernel
theorem d_Ring_trebleComesHome_41 : decode b_Ring_trebleComesHome 41 = .ok (.iconst 1, 1) := by decide +kernel
theorem d_Ring_trebleComesHome_42 : decode b_Ring_trebleComesHome 42 = .ok (.invokevirtual 65, 3) := by decide +kernel
theorem d_Ring_trebleComesHome_45 : decode b_Ring_trebleComesHome 45 = .ok (.iconst 1, 1) := by decide +kernel
theorem d_Ring_trebleComesHome_46 : decode b_Ring_trebleComesHome 46 = .ok (.if_icmp .ne 7, 3) := by decide +kernel
theorem d_Ring_trebleComesHome_49 : decode b_Ring_trebleComesHome 49 = .ok (.iconst 1, 1) := by decide +kernel
theorem d_Ring_trebleComesHome_50 : decode b_Ring_trebleComesHome 50 = .ok (.goto 4, 3) := by decide +kernel
theorem d_Ring_trebleComesHome_53 : decode b_Ring_trebleComesHome 53 = .ok (.iconst 0, 1) := by decide +kernel
theorem d_Ring_trebleComesHome_54 : decode b_Ring_trebleComesHome 54 = .ok (.ireturn, 1) := by decide +kernel
theorem d_Ring_plainLeadsToRounds_0 : decode b_Ring_plainLeadsToRounds 0 = .ok (.aload_n 0, 1) := by decide +kernel
theorem d_Ring_plainLeadsToRounds_1 : decode b_Ring_plainLeadsToRounds 1 = .ok (.getfield 22, 3) := by decide +kernel
theorem d_Ring_plainLeadsToRounds_4 : decode b_Ring_plainLeadsToRounds 4 = .ok (.iconst 0, 1) := by decide +kernel
theorem d_Ring_plainLeadsToRounds_5 : decode b_Ring_plainLeadsToRounds 5 = .ok (.invokevirtual 26, 3) := by decide +kernel
theorem d_Ring_plainLeadsToRounds_8 : decode b_Ring_plainLeadsToRounds 8 = .ok (.iconst 0, 1) := by decide +kernel
theorem d_Ring_plainLeadsToRounds_9 : decode b_Ring_plainLeadsToRounds 9 = .ok (.istore_n 1, 1) := by decide +kernel
theorem d_Ring_plainLeadsToRounds_10 : decode b_Ring_plainLeadsToRounds 10 = .ok (.iconst 0, 1) := by decide +kernel
theorem d_Ring_plainLeadsToRounds_11 : decode b_Ring_plainLeadsToRounds 11 = .ok (.istore_n 2, 1) := by decide +kernel
theorem d_Ring_plainLeadsToRounds_12 : decode b_Ring_plainLeadsToRounds 12 = .ok (.iload_n 2, 1) := by decide +kernel
theorem d_Ring_plainLeadsToRounds_13 : decode b_Ring_plainLeadsToRounds 13 = .ok (.aload_n 0, 1) := by decide +kernel
theorem d_Ring_plainLeadsToRounds_14 : decode b_Ring_plainLeadsToRounds 14 = .ok (.getfield 18, 3) := by decide +kernel
theorem d_Ring_plainLeadsToRounds_17 : decode b_Ring_plainLeadsToRounds 17 = .ok (.invokevirtual 42, 3) := by decide +kernel
theorem d_Ring_plainLeadsToRounds_20 : decode b_Ring_plainLeadsToRounds 20 = .ok (.if_icmp .ge 25, 3) := by decide +kernel
theorem d_Ring_plainLeadsToRounds_23 : decode b_Ring_plainLeadsToRounds 23 = .ok (.aload_n 0, 1) := by decide +kernel
theorem d_Ring_plainLeadsToRounds_24 : decode b_Ring_plainLeadsToRounds 24 = .ok (.getfield 22, 3) := by decide +kernel
theorem d_Ring_plainLeadsToRounds_27 : decode b_Ring_plainLeadsToRounds 27 = .ok (.aload_n 0, 1) := by decide +kernel
theorem d_Ring_plainLeadsToRounds_28 : decode b_Ring_plainLeadsToRounds 28 = .ok (.getfield 18, 3) := by decide +kernel
theorem d_Ring_plainLeadsToRounds_31 : decode b_Ring_plainLeadsToRounds 31 = .ok (.iconst 0, 1) := by decide +kernel
theorem d_Ring_plainLeadsToRounds_32 : decode b_Ring_plainLeadsToRounds 32 = .ok (.iload_n 2, 1) := by decide +kernel
theorem d_Ring_plainLeadsToRounds_33 : decode b_Ring_plainLeadsToRounds 33 = .ok (.invokevirtual 48, 3) := by decide +kernel
theorem d_Ring_plainLeadsToRounds_36 : decode b_Ring_plainLeadsToRounds 36 = .ok (.invokevirtual 52, 3) := by decide +kernel
theorem d_Ring_plainLeadsToRounds_39 : decode b_Ring_plainLeadsToRounds 39 = .ok (.iinc 2 1, 3) := by decide +kernel
theorem d_Ring_plainLeadsToRounds_42 : decode b_Ring_plainLeadsToRounds 42 = .ok (.goto (-30), 3) := by decide +kernel
theorem d_Ring_plainLeadsToRounds_45 : decode b_Ring_plainLeadsToRounds 45 = .ok (.iinc 1 1, 3) := by decide +kernel
theorem d_Ring_plainLeadsToRounds_48 : decode b_Ring_plainLeadsToRounds 48 = .ok (.aload_n 0, 1) := by decide +kernel
theorem d_Ring_plainLeadsToRounds_49 : decode b_Ring_plainLeadsToRounds 49 = .ok (.getfield 22, 3) := by decide +kernel
theorem d_Ring_plainLeadsToRounds_52 : decode b_Ring_plainLeadsToRounds 52 = .ok (.invokevirtual 55, 3) := by decide +kernel
theorem d_Ring_plainLeadsToRounds_55 : decode b_Ring_plainLeadsToRounds 55 = .ok (.ifCond .eq 10, 3) := by decide +kernel
theorem d_Ring_plainLeadsToRounds_58 : decode b_Ring_plainLeadsToRounds 58 = .ok (.iload_n 1, 1) := by decide +kernel
theorem d_Ring_plainLeadsToRounds_59 : decode b_Ring_plainLeadsToRounds 59 = .ok (.sipush 720, 3) := by decide +kernel
theorem d_Ring_plainLeadsToRounds_62 : decode b_Ring_plainLeadsToRounds 62 = .ok (.if_icmp .lt (-52), 3) := by decide +kernel
theorem d_Ring_plainLeadsToRounds_65 : decode b_Ring_plainLeadsToRounds 65 = .ok (.iload_n 1, 1) := by decide +kernel
theorem d_Ring_plainLeadsToRounds_66 : decode b_Ring_plainLeadsToRounds 66 = .ok (.ireturn, 1) := by decide +kernel
theorem d_Ring_plainLeadsMeet_0 : decode b_Ring_plainLeadsMeet 0 = .ok (.aload_n 0, 1) := by decide +kernel
theorem d_Ring_plainLeadsMeet_1 : decode b_Ring_plainLeadsMeet 1 = .ok (.getfield 12, 3) := by decide +kernel
theorem d_Ring_plainLeadsMeet_4 : decode b_Ring_plainLeadsMeet 4 = .ok (.iconst 0, 1) := by decide +kernel
theorem d_Ring_plainLeadsMeet_5 : decode b_Ring_plainLeadsMeet 5 = .ok (.invokevirtual 32, 3) := by decide +kernel
theorem d_Ring_plainLeadsMeet_8 : decode b_Ring_plainLeadsMeet 8 = .ok (.aload_n 0, 1) := by decide +kernel
theorem d_Ring_plainLeadsMeet_9 : decode b_Ring_plainLeadsMeet 9 = .ok (.getfield 22, 3) := by decide +kernel
theorem d_Ring_plainLeadsMeet_12 : decode b_Ring_plainLeadsMeet 12 = .ok (.iload_n 1, 1) := by decide +kernel
theorem d_Ring_plainLeadsMeet_13 : decode b_Ring_plainLeadsMeet 13 = .ok (.invokevirtual 26, 3) := by decide +kernel
theorem d_Ring_plainLeadsMeet_16 : decode b_Ring_plainLeadsMeet 16 = .ok (.iconst 0, 1) := by decide +kernel
theorem d_Ring_plainLeadsMeet_17 : decode b_Ring_plainLeadsMeet 17 = .ok (.istore_n 3, 1) := by decide +kernel
theorem d_Ring_plainLeadsMeet_18 : decode b_Ring_plainLeadsMeet 18 = .ok (.iload_n 3, 1) := by decide +kernel
theorem d_Ring_plainLeadsMeet_19 : decode b_Ring_plainLeadsMeet 19 = .ok (.aload_n 0, 1) := by decide +kernel
theorem d_Ring_plainLeadsMeet_20 : decode b_Ring_plainLeadsMeet 20 = .ok (.getfield 18, 3) := by decide +kernel
theorem d_Ring_plainLeadsMeet_23 : decode b_Ring_plainLeadsMeet 23 = .ok (.invokevirtual 42, 3) := by decide +kernel
theorem d_Ring_plainLeadsMeet_26 : decode b_Ring_plainLeadsMeet 26 = .ok (.if_icmp .ge 39, 3) := by decide +kernel
theorem d_Ring_plainLeadsMeet_29 : decode b_Ring_plainLeadsMeet 29 = .ok (.aload_n 0, 1) := by decide +kernel
theorem d_Ring_plainLeadsMeet_30 : decode b_Ring_plainLeadsMeet 30 = .ok (.getfield 22, 3) := by decide +kernel
theorem d_Ring_plainLeadsMeet_33 : decode b_Ring_plainLeadsMeet 33 = .ok (.aload_n 0, 1) := by decide +kernel
theorem d_Ring_plainLeadsMeet_34 : decode b_Ring_plainLeadsMeet 34 = .ok (.getfield 18, 3) := by decide +kernel
theorem d_Ring_plainLeadsMeet_37 : decode b_Ring_plainLeadsMeet 37 = .ok (.iconst 0, 1) := by decide +kernel
theorem d_Ring_plainLeadsMeet_38 : decode b_Ring_plainLeadsMeet 38 = .ok (.iload_n 3, 1) := by decide +kernel
theorem d_Ring_plainLeadsMeet_39 : decode b_Ring_plainLeadsMeet 39 = .ok (.invokevirtual 48, 3) := by decide +kernel
theorem d_Ring_plainLeadsMeet_42 : decode b_Ring_plainLeadsMeet 42 = .ok (.invokevirtual 52, 3) := by decide +kernel
theorem d_Ring_plainLeadsMeet_45 : decode b_Ring_plainLeadsMeet 45 = .ok (.aload_n 0, 1) := by decide +kernel
theorem d_Ring_plainLeadsMeet_46 : decode b_Ring_plainLeadsMeet 46 = .ok (.getfield 12, 3) := by decide +kernel
theorem d_Ring_plainLeadsMeet_49 : decode b_Ring_plainLeadsMeet 49 = .ok (.aload_n 0, 1) := by decide +kernel
theorem d_Ring_plainLeadsMeet_50 : decode b_Ring_plainLeadsMeet 50 = .ok (.getfield 22, 3) := by decide +kernel
theorem d_Ring_plainLeadsMeet_53 : decode b_Ring_plainLeadsMeet 53 = .ok (.invokevirtual 55, 3) := by decide +kernel
theorem d_Ring_plainLeadsMeet_56 : decode b_Ring_plainLeadsMeet 56 = .ok (.invokevirtual 35, 3) := by decide +kernel
theorem d_Ring_plainLeadsMeet_59 : decode b_Ring_plainLeadsMeet 59 = .ok (.iinc 3 1, 3) := by decide +kernel
theorem d_Ring_plainLeadsMeet_62 : decode b_Ring_plainLeadsMeet 62 = .ok (.goto (-44), 3) := by decide +kernel
theorem d_Ring_plainLeadsMeet_65 : decode b_Ring_plainLeadsMeet 65 = .ok (.aload_n 0, 1) := by decide +kernel
theorem d_Ring_plainLeadsMeet_66 : decode b_Ring_plainLeadsMeet 66 = .ok (.getfield 22, 3) := by decide +kernel
theorem d_Ring_plainLeadsMeet_69 : decode b_Ring_plainLeadsMeet 69 = .ok (.iload_n 2, 1) := by decide +kernel
theorem d_Ring_plainLeadsMeet_70 : decode b_Ring_plainLeadsMeet 70 = .ok (.invokevirtual 26, 3) := by decide +kernel
theorem d_Ring_plainLeadsMeet_73 : decode b_Ring_plainLeadsMeet 73 = .ok (.iconst 0, 1) := by decide +kernel
theorem d_Ring_plainLeadsMeet_74 : decode b_Ring_plainLeadsMeet 74 = .ok (.istore_n 3, 1) := by decide +kernel
theorem d_Ring_plainLeadsMeet_75 : decode b_Ring_plainLeadsMeet 75 = .ok (.iload_n 3, 1) := by decide +kernel
theorem d_Ring_plainLeadsMeet_76 : decode b_Ring_plainLeadsMeet 76 = .ok (.aload_n 0, 1) := by decide +kernel
theorem d_Ring_plainLeadsMeet_77 : decode b_Ring_plainLeadsMeet 77 = .ok (.getfield 18, 3) := by decide +kernel
theorem d_Ring_plainLeadsMeet_80 : decode b_Ring_plainLeadsMeet 80 = .ok (.invokevirtual 42, 3) := by decide +kernel
theorem d_Ring_plainLeadsMeet_83 : decode b_Ring_plainLeadsMeet 83 = .ok (.if_icmp .ge 44, 3) := by decide +kernel
theorem d_Ring_plainLeadsMeet_86 : decode b_Ring_plainLeadsMeet 86 = .ok (.aload_n 0, 1) := by decide +kernel
theorem d_Ring_plainLeadsMeet_87 : decode b_Ring_plainLeadsMeet 87 = .ok (.getfield 22, 3) := by decide +kernel
theorem d_Ring_plainLeadsMeet_90 : decode b_Ring_plainLeadsMeet 90 = .ok (.aload_n 0, 1) := by decide +kernel
theorem d_Ring_plainLeadsMeet_91 : decode b_Ring_plainLeadsMeet 91 = .ok (.getfield 18, 3) := by decide +kernel
theorem d_Ring_plainLeadsMeet_94 : decode b_Ring_plainLeadsMeet 94 = .ok (.iconst 0, 1) := by decide +kernel
theorem d_Ring_plainLeadsMeet_95 : decode b_Ring_plainLeadsMeet 95 = .ok (.iload_n 3, 1) := by decide +kernel
theorem d_Ring_plainLeadsMeet_96 : decode b_Ring_plainLeadsMeet 96 = .ok (.invokevirtual 48, 3) := by decide +kernel
theorem d_Ring_plainLeadsMeet_99 : decode b_Ring_plainLeadsMeet 99 = .ok (.invokevirtual 52, 3) := by decide +kernel
theorem d_Ring_plainLeadsMeet_102 : decode b_Ring_plainLeadsMeet 102 = .ok (.aload_n 0, 1) := by decide +kernel
theorem d_Ring_plainLeadsMeet_103 : decode b_Ring_plainLeadsMeet 103 = .ok (.getfield 12, 3) := by decide +kernel
theorem d_Ring_plainLeadsMeet_106 : decode b_Ring_plainLeadsMeet 106 = .ok (.aload_n 0, 1) := by decide +kernel
theorem d_Ring_plainLeadsMeet_107 : decode b_Ring_plainLeadsMeet 107 = .ok (.getfield 22, 3) := by decide +kernel
theorem d_Ring_plainLeadsMeet_110 : decode b_Ring_plainLeadsMeet 110 = .ok (.invokevirtual 55, 3) := by decide +kernel
theorem d_Ring_plainLeadsMeet_113 : decode b_Ring_plainLeadsMeet 113 = .ok (.invokevirtual 58, 3) := by decide +kernel
theorem d_Ring_plainLeadsMeet_116 : decode b_Ring_plainLeadsMeet 116 = .ok (.ifCond .eq 5, 3) := by decide +kernel
theorem d_Ring_plainLeadsMeet_119 : decode b_Ring_plainLeadsMeet 119 = .ok (.iconst 1, 1) := by decide +kernel
theorem d_Ring_plainLeadsMeet_120 : decode b_Ring_plainLeadsMeet 120 = .ok (.ireturn, 1) := by decide +kernel
theorem d_Ring_plainLeadsMeet_121 : decode b_Ring_plainLeadsMeet 121 = .ok (.iinc 3 1, 3) := by decide +kernel
theorem d_Ring_plainLeadsMeet_124 : decode b_Ring_plainLeadsMeet 124 = .ok (.goto (-49), 3) := by decide +kernel
theorem d_Ring_plainLeadsMeet_127 : decode b_Ring_plainLeadsMeet 127 = .ok (.iconst 0, 1) := by decide +kernel
theorem d_Ring_plainLeadsMeet_128 : decode b_Ring_plainLeadsMeet 128 = .ok (.ireturn, 1) := by decide +kernel
theorem d_Look_init_0 : decode b_Look_init 0 = .ok (.aload_n 0, 1) := by decide +kernel
theorem d_Look_init_1 : decode b_Look_init 1 = .ok (.invokespecial 3, 3) := by decide +kernel
theorem d_Look_init_4 : decode b_Look_init 4 = .ok (.aload_n 0, 1) := by decide +kernel
theorem d_Look_init_5 : decode b_Look_init 5 = .ok (.bipush 30, 2) := by decide +kernel
theorem d_Look_init_7 : decode b_Look_init 7 = .ok (.newarray .int, 2) := by decide +kernel
theorem d_Look_init_9 : decode b_Look_init 9 = .ok (.putfield 9, 3) := by decide +kernel
theorem d_Look_init_12 : decode b_Look_init 12 = .ok (.aload_n 0, 1) := by decide +kernel
theorem d_Look_init_13 : decode b_Look_init 13 = .ok (.iconst 0, 1) := by decide +kernel
theorem d_Look_init_14 : decode b_Look_init 14 = .ok (.putfield 15, 3) := by decide +kernel
theorem d_Look_init_17 : decode b_Look_init 17 = .ok (.aload_n 0, 1) := by decide +kernel
theorem d_Look_init_18 : decode b_Look_init 18 = .ok (.iconst 0, 1) := by decide +kernel
theorem d_Look_init_19 : decode b_Look_init 19 = .ok (.putfield 19, 3) := by decide +kernel
theorem d_Look_init_22 : decode b_Look_init 22 = .ok (.aload_n 0, 1) := by decide +kernel
theorem d_Look_init_23 : decode b_Look_init 23 = .ok (.iconst 0, 1) := by decide +kernel
theorem d_Look_init_24 : decode b_Look_init 24 = .ok (.putfield 22, 3) := by decide +kernel
theorem d_Look_init_27 : decode b_Look_init 27 = .ok (.aload_n 0, 1) := by decide +kernel
theorem d_Look_init_28 : decode b_Look_init 28 = .ok (.iconst 0, 1) := by decide +kernel
theorem d_Look_init_29 : decode b_Look_init 29 = .ok (.putfield 25, 3) := by decide +kernel
theorem d_Look_init_32 : decode b_Look_init 32 = .ok (.aload_n 0, 1) := by decide +kernel
theorem d_Look_init_33 : decode b_Look_init 33 = .ok (.iconst 0, 1) := by decide +kernel
theorem d_Look_init_34 : decode b_Look_init 34 = .ok (.putfield 28, 3) := by decide +kernel
theorem d_Look_init_37 : decode b_Look_init 37 = .ok (.aload_n 0, 1) := by decide +kernel
theorem d_Look_init_38 : decode b_Look_init 38 = .ok (.iconst 0, 1) := by decide +kernel
theorem d_Look_init_39 : decode b_Look_init 39 = .ok (.putfield 32, 3) := by decide +kernel
theorem d_Look_init_42 : decode b_Look_init 42 = .ok (.aload_n 0, 1) := by decide +kernel
theorem d_Look_init_43 : decode b_Look_init 43 = .ok (.iconst 0, 1) := by decide +kernel
theorem d_Look_init_44 : decode b_Look_init 44 = .ok (.putfield 35, 3) := by decide +kernel
theorem d_Look_init_47 : decode b_Look_init 47 = .ok (.aload_n 0, 1) := by decide +kernel
theorem d_Look_init_48 : decode b_Look_init 48 = .ok (.iconst 0, 1) := by decide +kernel
theorem d_Look_init_49 : decode b_Look_init 49 = .ok (.putfield 38, 3) := by decide +kernel
theorem d_Look_init_52 : decode b_Look_init 52 = .ok (.aload_n 0, 1) := by decide +kernel
theorem d_Look_init_53 : decode b_Look_init 53 = .ok (.aload_n 1, 1) := by decide +kernel
theorem d_Look_init_54 : decode b_Look_init 54 = .ok (.putfield 41, 3) := by decide +kernel
theorem d_Look_init_57 : decode b_Look_init 57 = .ok (.aload_n 0, 1) := by decide +kernel
theorem d_Look_init_58 : decode b_Look_init 58 = .ok (.aload_n 2, 1) := by decide +kernel
theorem d_Look_init_59 : decode b_Look_init 59 = .ok (.putfield 45, 3) := by decide +kernel
theorem d_Look_init_62 : decode b_Look_init 62 = .ok (.return_, 1) := by decide +kernel
theorem d_Look_forget_0 : decode b_Look_forget 0 = .ok (.aload_n 0, 1) := by decide +kernel
theorem d_Look_forget_1 : decode b_Look_forget 1 = .ok (.iconst 0, 1) := by decide +kernel
theorem d_Look_forget_2 : decode b_Look_forget 2 = .ok (.putfield 32, 3) := by decide +kernel
theorem d_Look_forget_5 : decode b_Look_forget 5 = .ok (.return_, 1) := by decide +kernel
theorem d_Look_lookForFirst_0 : decode b_Look_lookForFirst 0 = .ok (.aload_n 0, 1) := by decide +kernel
theorem d_Look_lookForFirst_1 : decode b_Look_lookForFirst 1 = .ok (.iconst 1, 1) := by decide +kernel
theorem d_Look_lookForFirst_2 : decode b_Look_lookForFirst 2 = .ok (.putfield 28, 3) := by decide +kernel
theorem d_Look_lookForFirst_5 : decode b_Look_lookForFirst 5 = .ok (.aload_n 0, 1) := by decide +kernel
theorem d_Look_lookForFirst_6 : decode b_Look_lookForFirst 6 = .ok (.iload_n 1, 1) := by decide +kernel
theorem d_Look_lookForFirst_7 : decode b_Look_lookForFirst 7 = .ok (.iload_n 2, 1) := by decide +kernel
theorem d_Look_lookForFirst_8 : decode b_Look_lookForFirst 8 = .ok (.iload_n 3, 1) := by decide +kernel
theorem d_Look_lookForFirst_9 : decode b_Look_lookForFirst 9 = .ok (.invokevirtual 49, 3) := by decide +kernel
theorem d_Look_lookForFirst_12 : decode b_Look_lookForFirst 12 = .ok (.return_, 1) := by decide +kernel
theorem d_Look_lookForAll_0 : decode b_Look_lookForAll 0 = .ok (.aload_n 0, 1) := by decide +kernel
theorem d_Look_lookForAll_1 : decode b_Look_lookForAll 1 = .ok (.iconst 0, 1) := by decide +kernel
theorem d_Look_lookForAll_2 : decode b_Look_lookForAll 2 = .ok (.putfield 28, 3) := by decide +kernel
theorem d_Look_lookForAll_5 : decode b_Look_lookForAll 5 = .ok (.aload_n 0, 1) := by decide +kernel
theorem d_Look_lookForAll_6 : decode b_Look_lookForAll 6 = .ok (.iload_n 1, 1) := by decide +kernel
theorem d_Look_lookForAll_7 : decode b_Look_lookForAll 7 = .ok (.iload_n 1, 1) := by decide +kernel
theorem d_Look_lookForAll_8 : decode b_Look_lookForAll 8 = .ok (.iload_n 2, 1) := by decide +kernel
theorem d_Look_lookForAll_9 : decode b_Look_lookForAll 9 = .ok (.invokevirtual 49, 3) := by decide +kernel
theorem d_Look_lookForAll_12 : decode b_Look_lookForAll 12 = .ok (.return_, 1) := by decide +kernel
theorem d_Look_lookedLists_0 : decode b_Look_lookedLists 0 = .ok (.aload_n 0, 1) := by decide +kernel
theorem d_Look_lookedLists_1 : decode b_Look_lookedLists 1 = .ok (.getfield 32, 3) := by decide +kernel
theorem d_Look_lookedLists_4 : decode b_Look_lookedLists 4 = .ok (.ireturn, 1) := by decide +kernel
theorem d_Look_foundLists_0 : decode b_Look_foundLists 0 = .ok (.aload_n 0, 1) := by decide +kernel
theorem d_Look_foundLists_1 : decode b_Look_foundLists 1 = .ok (.getfield 35, 3) := by decide +kernel
theorem d_Look_foundLists_4 : decode b_Look_foundLists 4 = .ok (.ireturn, 1) := by decide +kernel
theorem d_Look_wasSpent_0 : decode b_Look_wasSpent 0 = .ok (.aload_n 0, 1) := by decide +kernel
theorem d_Look_wasSpent_1 : decode b_Look_wasSpent 1 = .ok (.getfield 38, 3) := by decide +kernel
theorem d_Look_wasSpent_4 : decode b_Look_wasSpent 4 = .ok (.ireturn, 1) := by decide +kernel
theorem d_Look_copyFoundList_0 : decode b_Look_copyFoundList 0 = .ok (.iconst 0, 1) := by decide +kernel
theorem d_Look_copyFoundList_1 : decode b_Look_copyFoundList 1 = .ok (.istore_n 2, 1) := by decide +kernel
theorem d_Look_copyFoundList_2 : decode b_Look_copyFoundList 2 = .ok (.iload_n 2, 1) := by decide +kernel
theorem d_Look_copyFoundList_3 : decode b_Look_copyFoundList 3 = .ok (.aload_n 0, 1) := by decide +kernel
theorem d_Look_copyFoundList_4 : decode b_Look_copyFoundList 4 = .ok (.getfield 15, 3) := by decide +kernel
theorem d_Look_copyFoundList_7 : decode b_Look_copyFoundList 7 = .ok (.if_icmp .ge 18, 3) := by decide +kernel
theorem d_Look_copyFoundList_10 : decode b_Look_copyFoundList 10 = .ok (.aload_n 1, 1) := by decide +kernel
theorem d_Look_copyFoundList_11 : decode b_Look_copyFoundList 11 = .ok (.iload_n 2, 1) := by decide +kernel
theorem d_Look_copyFoundList_12 : decode b_Look_copyFoundList 12 = .ok (.aload_n 0, 1) := by decide +kernel
theorem d_Look_copyFoundList_13 : decode b_Look_copyFoundList 13 = .ok (.getfield 9, 3) := by decide +kernel
theorem d_Look_copyFoundList_16 : decode b_Look_copyFoundList 16 = .ok (.iload_n 2, 1) := by decide +kernel
theorem d_Look_copyFoundList_17 : decode b_Look_copyFoundList 17 = .ok (.iaload, 1) := by decide +kernel
theorem d_Look_copyFoundList_18 : decode b_Look_copyFoundList 18 = .ok (.iastore, 1) := by decide +kernel
theorem d_Look_copyFoundList_19 : decode b_Look_copyFoundList 19 = .ok (.iinc 2 1, 3) := by decide +kernel
theorem d_Look_copyFoundList_22 : decode b_Look_copyFoundList 22 = .ok (.goto (-20), 3) := by decide +kernel
theorem d_Look_copyFoundList_25 : decode b_Look_copyFoundList 25 = .ok (.aload_n 0, 1) := by decide +kernel
theorem d_Look_copyFoundList_26 : decode b_Look_copyFoundList 26 = .ok (.getfield 15, 3) := by decide +kernel
theorem d_Look_copyFoundList_29 : decode b_Look_copyFoundList 29 = .ok (.ireturn, 1) := by decide +kernel
theorem d_Look_lookThrough_0 : decode b_Look_lookThrough 0 = .ok (.aload_n 0, 1) := by decide +kernel
theorem d_Look_lookThrough_1 : decode b_Look_lookThrough 1 = .ok (.iload_n 1, 1) := by decide +kernel
theorem d_Look_lookThrough_2 : decode b_Look_lookThrough 2 = .ok (.putfield 19, 3) := by decide +kernel
theorem d_Look_lookThrough_5 : decode b_Look_lookThrough 5 = .ok (.aload_n 0, 1) := by decide +kernel
theorem d_Look_lookThrough_6 : decode b_Look_lookThrough 6 = .ok (.iload_n 2, 1) := by decide +kernel
theorem d_Look_lookThrough_7 : decode b_Look_lookThrough 7 = .ok (.putfield 22, 3) := by decide +kernel
theorem d_Look_lookThrough_10 : decode b_Look_lookThrough 10 = .ok (.aload_n 0, 1) := by decide +kernel
theorem d_Look_lookThrough_11 : decode b_Look_lookThrough 11 = .ok (.iload_n 3, 1) := by decide +kernel
theorem d_Look_lookThrough_12 : decode b_Look_lookThrough 12 = .ok (.putfield 25, 3) := by decide +kernel
theorem d_Look_lookThrough_15 : decode b_Look_lookThrough 15 = .ok (.aload_n 0, 1) := by decide +kernel
theorem d_Look_lookThrough_16 : decode b_Look_lookThrough 16 = .ok (.iconst 0, 1) := by decide +kernel
theorem d_Look_lookThrough_17 : decode b_Look_lookThrough 17 = .ok (.putfield 32, 3) := by decide +kernel
theorem d_Look_lookThrough_20 : decode b_Look_lookThrough 20 = .ok (.aload_n 0, 1) := by decide +kernel
theorem d_Look_lookThrough_21 : decode b_Look_lookThrough 21 = .ok (.iconst 0, 1) := by decide +kernel
theorem d_Look_lookThrough_22 : decode b_Look_lookThrough 22 = .ok (.putfield 35, 3) := by decide +kernel
theorem d_Look_lookThrough_25 : decode b_Look_lookThrough 25 = .ok (.aload_n 0, 1) := by decide +kernel
theorem d_Look_lookThrough_26 : decode b_Look_lookThrough 26 = .ok (.iconst 0, 1) := by decide +kernel
theorem d_Look_lookThrough_27 : decode b_Look_lookThrough 27 = .ok (.putfield 38, 3) := by decide +kernel
theorem d_Look_lookThrough_30 : decode b_Look_lookThrough 30 = .ok (.aload_n 0, 1) := by decide +kernel
theorem d_Look_lookThrough_31 : decode b_Look_lookThrough 31 = .ok (.getfield 45, 3) := by decide +kernel
theorem d_Look_lookThrough_34 : decode b_Look_lookThrough 34 = .ok (.invokevirtual 53, 3) := by decide +kernel
theorem d_Look_lookThrough_37 : decode b_Look_lookThrough 37 = .ok (.aload_n 0, 1) := by decide +kernel
theorem d_Look_lookThrough_38 : decode b_Look_lookThrough 38 = .ok (.iconst 0, 1) := by decide +kernel
theorem d_Look_lookThrough_39 : decode b_Look_lookThrough 39 = .ok (.invokevirtual 58, 3) := by decide +kernel
theorem d_Look_lookThrough_42 : decode b_Look_lookThrough 42 = .ok (.return_, 1) := by decide +kernel
theorem d_Look_lookBehind_0 : decode b_Look_lookBehind 0 = .ok (.iload_n 1, 1) := by decide +kernel
theorem d_Look_lookBehind_1 : decode b_Look_lookBehind 1 = .ok (.bipush 30, 2) := by decide +kernel
theorem d_Look_lookBehind_3 : decode b_Look_lookBehind 3 = .ok (.if_icmp .ge 21, 3) := by decide +kernel
theorem d_Look_lookBehind_6 : decode b_Look_lookBehind 6 = .ok (.iload_n 1, 1) := by decide +kernel
theorem d_Look_lookBehind_7 : decode b_Look_lookBehind 7 = .ok (.iconst 1, 1) := by decide +kernel
theorem d_Look_lookBehind_8 : decode b_Look_lookBehind 8 = .ok (.iadd, 1) := by decide +kernel
theorem d_Look_lookBehind_9 : decode b_Look_lookBehind 9 = .ok (.aload_n 0, 1) := by decide +kernel
theorem d_Look_lookBehind_10 : decode b_Look_lookBehind 10 = .ok (.getfield 41, 3) := by decide +kernel
theorem d_Look_lookBehind_13 : decode b_Look_lookBehind 13 = .ok (.invokevirtual 62, 3) := by decide +kernel
theorem d_Look_lookBehind_16 : decode b_Look_lookBehind 16 = .ok (.imul, 1) := by decide +kernel
theorem d_Look_lookBehind_17 : decode b_Look_lookBehind 17 = .ok (.aload_n 0, 1) := by decide +kernel
theorem d_Look_lookBehind_18 : decode b_Look_lookBehind 18 = .ok (.getfield 22, 3) := by decide +kernel
theorem d_Look_lookBehind_21 : decode b_Look_lookBehind 21 = .ok (.if_icmp .le 4, 3) := by decide +kernel
theorem d_Look_lookBehind_24 : decode b_Look_lookBehind 24 = .ok (.return_, 1) := by decide +kernel
theorem d_Look_lookBehind_25 : decode b_Look_lookBehind 25 = .ok (.iconst 0, 1) := by decide +kernel
theorem d_Look_lookBehind_26 : decode b_Look_lookBehind 26 = .ok (.istore_n 2, 1) := by decide +kernel
theorem d_Look_lookBehind_27 : decode b_Look_lookBehind 27 = .ok (.iload_n 2, 1) := by decide +kernel
theorem d_Look_lookBehind_28 : decode b_Look_lookBehind 28 = .ok (.iconst 2, 1) := by decide +kernel
theorem d_Look_lookBehind_29 : decode b_Look_lookBehind 29 = .ok (.if_icmp .gt 33, 3) := by decide +kernel
theorem d_Look_lookBehind_32 : decode b_Look_lookBehind 32 = .ok (.aload_n 0, 1) := by decide +kernel
theorem d_Look_lookBehind_33 : decode b_Look_lookBehind 33 = .ok (.invokevirtual 68, 3) := by decide +kernel
theorem d_Look_lookBehind_36 : decode b_Look_lookBehind 36 = .ok (.ifCond .ne 26, 3) := by decide +kernel
theorem d_Look_lookBehind_39 : decode b_Look_lookBehind 39 = .ok (.aload_n 0, 1) := by decide +kernel
theorem d_Look_lookBehind_40 : decode b_Look_lookBehind 40 = .ok (.getfield 41, 3) := by decide +kernel
theorem d_Look_lookBehind_43 : decode b_Look_lookBehind 43 = .ok (.iload_n 2, 1) := by decide +kernel
theorem d_Look_lookBehind_44 : decode b_Look_lookBehind 44 = .ok (.invokevirtual 72, 3) := by decide +kernel
theorem d_Look_lookBehind_47 : decode b_Look_lookBehind 47 = .ok (.ifCond .eq 9, 3) := by decide +kernel
theorem d_Look_lookBehind_50 : decode b_Look_lookBehind 50 = .ok (.aload_n 0, 1) := by decide +kernel
theorem d_Look_lookBehind_51 : decode b_Look_lookBehind 51 = .ok (.iload_n 1, 1) := by decide +kernel
theorem d_Look_lookBehind_52 : decode b_Look_lookBehind 52 = .ok (.iload_n 2, 1) := by decide +kernel
theorem d_Look_lookBehind_53 : decode b_Look_lookBehind 53 = .ok (.invokevirtual 76, 3) := by decide +kernel
theorem d_Look_lookBehind_56 : decode b_Look_lookBehind 56 = .ok (.iinc 2 1, 3) := by decide +kernel
theorem d_Look_lookBehind_59 : decode b_Look_lookBehind 59 = .ok (.goto (-32), 3) := by decide +kernel
theorem d_Look_lookBehind_62 : decode b_Look_lookBehind 62 = .ok (.return_, 1) := by decide +kernel
theorem d_Look_hasEnded_0 : decode b_Look_hasEnded 0 = .ok (.aload_n 0, 1) := by decide +kernel
theorem d_Look_hasEnded_1 : decode b_Look_hasEnded 1 = .ok (.getfield 38, 3) := by decide +kernel
theorem d_Look_hasEnded_4 : decode b_Look_hasEnded 4 = .ok (.ifCond .ne 17, 3) := by decide +kernel
theorem d_Look_hasEnded_7 : decode b_Look_hasEnded 7 = .ok (.aload_n 0, 1) := by decide +kernel
theorem d_Look_hasEnded_8 : decode b_Look_hasEnded 8 = .ok (.getfield 28, 3) := by decide +kernel
theorem d_Look_hasEnded_11 : decode b_Look_hasEnded 11 = .ok (.ifCond .eq 14, 3) := by decide +kernel
theorem d_Look_hasEnded_14 : decode b_Look_hasEnded 14 = .ok (.aload_n 0, 1) := by decide +kernel
theorem d_Look_hasEnded_15 : decode b_Look_hasEnded 15 = .ok (.getfield 35, 3) := by decide +kernel
theorem d_Look_hasEnded_18 : decode b_Look_hasEnded 18 = .ok (.ifCond .le 7, 3) := by decide +kernel
theorem d_Look_hasEnded_21 : decode b_Look_hasEnded 21 = .ok (.iconst 1, 1) := by decide +kernel
theorem d_Look_hasEnded_22 : decode b_Look_hasEnded 22 = .ok (.goto 4, 3) := by decide +kernel
theorem d_Look_hasEnded_25 : decode b_Look_hasEnded 25 = .ok (.iconst 0, 1) := by decide +kernel
theorem d_Look_hasEnded_26 : decode b_Look_hasEnded 26 = .ok (.ireturn, 1) := by decide +kernel
theorem d_Look_lookAt_0 : decode b_Look_lookAt 0 = .ok (.aload_n 0, 1) := by decide +kernel
theorem d_Look_lookAt_1 : decode b_Look_lookAt 1 = .ok (.getfield 32, 3) := by decide +kernel
theorem d_Look_lookAt_4 : decode b_Look_lookAt 4 = .ok (.aload_n 0, 1) := by decide +kernel
theorem d_Look_lookAt_5 : decode b_Look_lookAt 5 = .ok (.getfield 25, 3) := by decide +kernel
theorem d_Look_lookAt_8 : decode b_Look_lookAt 8 = .ok (.if_icmp .ne 9, 3) := by decide +kernel
theorem d_Look_lookAt_11 : decode b_Look_lookAt 11 = .ok (.aload_n 0, 1) := by decide +kernel
theorem d_Look_lookAt_12 : decode b_Look_lookAt 12 = .ok (.iconst 1, 1) := by decide +kernel
theorem d_Look_lookAt_13 : decode b_Look_lookAt 13 = .ok (.putfield 38, 3) := by decide +kernel
theorem d_Look_lookAt_16 : decode b_Look_lookAt 16 = .ok (.return_, 1) := by decide +kernel
theorem d_Look_lookAt_17 : decode b_Look_lookAt 17 = .ok (.aload_n 0, 1) := by decide +kernel
theorem d_Look_lookAt_18 : decode b_Look_lookAt 18 = .ok (.dup, 1) := by decide +kernel
theorem d_Look_lookAt_19 : decode b_Look_lookAt 19 = .ok (.getfield 32, 3) := by decide +kernel
theorem d_Look_lookAt_22 : decode b_Look_lookAt 22 = .ok (.iconst 1, 1) := by decide +kernel
theorem d_Look_lookAt_23 : decode b_Look_lookAt 23 = .ok (.iadd, 1) := by decide +kernel
theorem d_Look_lookAt_24 : decode b_Look_lookAt 24 = .ok (.putfield 32, 3) := by decide +kernel
theorem d_Look_lookAt_27 : decode b_Look_lookAt 27 = .ok (.aload_n 0, 1) := by decide +kernel
theorem d_Look_lookAt_28 : decode b_Look_lookAt 28 = .ok (.getfield 9, 3) := by decide +kernel
theorem d_Look_lookAt_31 : decode b_Look_lookAt 31 = .ok (.iload_n 1, 1) := by decide +kernel
theorem d_Look_lookAt_32 : decode b_Look_lookAt 32 = .ok (.iload_n 2, 1) := by decide +kernel
theorem d_Look_lookAt_33 : decode b_Look_lookAt 33 = .ok (.iastore, 1) := by decide +kernel
theorem d_Look_lookAt_34 : decode b_Look_lookAt 34 = .ok (.aload_n 0, 1) := by decide +kernel
theorem d_Look_lookAt_35 : decode b_Look_lookAt 35 = .ok (.getfield 45, 3) := by decide +kernel
theorem d_Look_lookAt_38 : decode b_Look_lookAt 38 = .ok (.iload_n 1, 1) := by decide +kernel
theorem d_Look_lookAt_39 : decode b_Look_lookAt 39 = .ok (.aload_n 0, 1) := by decide +kernel
theorem d_Look_lookAt_40 : decode b_Look_lookAt 40 = .ok (.getfield 41, 3) := by decide +kernel
theorem d_Look_lookAt_43 : decode b_Look_lookAt 43 = .ok (.invokevirtual 62, 3) := by decide +kernel
theorem d_Look_lookAt_46 : decode b_Look_lookAt 46 = .ok (.imul, 1) := by decide +kernel
theorem d_Look_lookAt_47 : decode b_Look_lookAt 47 = .ok (.invokevirtual 80, 3) := by decide +kernel
theorem d_Look_lookAt_50 : decode b_Look_lookAt 50 = .ok (.aload_n 0, 1) := by decide +kernel
theorem d_Look_lookAt_51 : decode b_Look_lookAt 51 = .ok (.getfield 45, 3) := by decide +kernel
theorem d_Look_lookAt_54 : decode b_Look_lookAt 54 = .ok (.iload_n 2, 1) := by decide +kernel
theorem d_Look_lookAt_55 : decode b_Look_lookAt 55 = .ok (.invokevirtual 83, 3) := by decide +kernel
theorem d_Look_lookAt_58 : decode b_Look_lookAt 58 = .ok (.istore_n 3, 1) := by decide +kernel
theorem d_Look_lookAt_59 : decode b_Look_lookAt 59 = .ok (.iload_n 3, 1) := by decide +kernel
theorem d_Look_lookAt_60 : decode b_Look_lookAt 60 = .ok (.ifCond .ne 13, 3) := by decide +kernel
theorem d_Look_lookAt_63 : decode b_Look_lookAt 63 = .ok (.aload_n 0, 1) := by decide +kernel
theorem d_Look_lookAt_64 : decode b_Look_lookAt 64 = .ok (.iload_n 1, 1) := by decide +kernel
theorem d_Look_lookAt_65 : decode b_Look_lookAt 65 = .ok (.iconst 1, 1) := by decide +kernel
theorem d_Look_lookAt_66 : decode b_Look_lookAt 66 = .ok (.iadd, 1) := by decide +kernel
theorem d_Look_lookAt_67 : decode b_Look_lookAt 67 = .ok (.invokevirtual 58, 3) := by decide +kernel
theorem d_Look_lookAt_70 : decode b_Look_lookAt 70 = .ok (.goto 42, 3) := by decide +kernel
theorem d_Look_lookAt_73 : decode b_Look_lookAt 73 = .ok (.iload_n 3, 1) := by decide +kernel
theorem d_Look_lookAt_74 : decode b_Look_lookAt 74 = .ok (.aload_n 0, 1) := by decide +kernel
theorem d_Look_lookAt_75 : decode b_Look_lookAt 75 = .ok (.getfield 19, 3) := by decide +kernel
theorem d_Look_lookAt_78 : decode b_Look_lookAt 78 = .ok (.if_icmp .lt 34, 3) := by decide +kernel
theorem d_Look_lookAt_81 : decode b_Look_lookAt 81 = .ok (.aload_n 0, 1) := by decide +kernel
theorem d_Look_lookAt_82 : decode b_Look_lookAt 82 = .ok (.getfield 45, 3) := by decide +kernel
theorem d_Look_lookAt_85 : decode b_Look_lookAt 85 = .ok (.iload_n 3, 1) := by decide +kernel
theorem d_Look_lookAt_86 : decode b_Look_lookAt 86 = .ok (.iload_n 1, 1) := by decide +kernel
theorem d_Look_lookAt_87 : decode b_Look_lookAt 87 = .ok (.iconst 1, 1) := by decide +kernel
theorem d_Look_lookAt_88 : decode b_Look_lookAt 88 = .ok (.iadd, 1) := by decide +kernel
theorem d_Look_lookAt_89 : decode b_Look_lookAt 89 = .ok (.invokevirtual 87, 3) := by decide +kernel
theorem d_Look_lookAt_92 : decode b_Look_lookAt 92 = .ok (.ifCond .eq 20, 3) := by decide +kernel
theorem d_Look_lookAt_95 : decode b_Look_lookAt 95 = .ok (.aload_n 0, 1) := by decide +kernel
theorem d_Look_lookAt_96 : decode b_Look_lookAt 96 = .ok (.dup, 1) := by decide +kernel
theorem d_Look_lookAt_97 : decode b_Look_lookAt 97 = .ok (.getfield 35, 3) := by decide +kernel
theorem d_Look_lookAt_100 : decode b_Look_lookAt 100 = .ok (.iconst 1, 1) := by decide +kernel
theorem d_Look_lookAt_101 : decode b_Look_lookAt 101 = .ok (.iadd, 1) := by decide +kernel
theorem d_Look_lookAt_102 : decode b_Look_lookAt 102 = .ok (.putfield 35, 3) := by decide +kernel
theorem d_Look_lookAt_105 : decode b_Look_lookAt 105 = .ok (.aload_n 0, 1) := by decide +kernel
theorem d_Look_lookAt_106 : decode b_Look_lookAt 106 = .ok (.iload_n 1, 1) := by decide +kernel
theorem d_Look_lookAt_107 : decode b_Look_lookAt 107 = .ok (.iconst 1, 1) := by decide +kernel
theorem d_Look_lookAt_108 : decode b_Look_lookAt 108 = .ok (.iadd, 1) := by decide +kernel
theorem d_Look_lookAt_109 : decode b_Look_lookAt 109 = .ok (.putfield 15, 3) := by decide +kernel
theorem d_Look_lookAt_112 : decode b_Look_lookAt 112 = .ok (.return_, 1) := by decide +kernel
theorem d_Int_bitCount_0 : decode b_Int_bitCount 0 = .ok (.iload_n 0, 1) := by decide +kernel
theorem d_Int_bitCount_1 : decode b_Int_bitCount 1 = .ok (.iload_n 0, 1) := by decide +kernel
theorem d_Int_bitCount_2 : decode b_Int_bitCount 2 = .ok (.iconst 1, 1) := by decide +kernel
theorem d_Int_bitCount_3 : decode b_Int_bitCount 3 = .ok (.iushr, 1) := by decide +kernel
theorem d_Int_bitCount_4 : decode b_Int_bitCount 4 = .ok (.ldc_w 265, 3) := by decide +kernel
theorem d_Int_bitCount_7 : decode b_Int_bitCount 7 = .ok (.iand, 1) := by decide +kernel
theorem d_Int_bitCount_8 : decode b_Int_bitCount 8 = .ok (.isub, 1) := by decide +kernel
theorem d_Int_bitCount_9 : decode b_Int_bitCount 9 = .ok (.istore_n 0, 1) := by decide +kernel
theorem d_Int_bitCount_10 : decode b_Int_bitCount 10 = .ok (.iload_n 0, 1) := by decide +kernel
theorem d_Int_bitCount_11 : decode b_Int_bitCount 11 = .ok (.ldc_w 266, 3) := by decide +kernel
theorem d_Int_bitCount_14 : decode b_Int_bitCount 14 = .ok (.iand, 1) := by decide +kernel
theorem d_Int_bitCount_15 : decode b_Int_bitCount 15 = .ok (.iload_n 0, 1) := by decide +kernel
theorem d_Int_bitCount_16 : decode b_Int_bitCount 16 = .ok (.iconst 2, 1) := by decide +kernel
theorem d_Int_bitCount_17 : decode b_Int_bitCount 17 = .ok (.iushr, 1) := by decide +kernel
theorem d_Int_bitCount_18 : decode b_Int_bitCount 18 = .ok (.ldc_w 266, 3) := by decide +kernel
theorem d_Int_bitCount_21 : decode b_Int_bitCount 21 = .ok (.iand, 1) := by decide +kernel
theorem d_Int_bitCount_22 : decode b_Int_bitCount 22 = .ok (.iadd, 1) := by decide +kernel
theorem d_Int_bitCount_23 : decode b_Int_bitCount 23 = .ok (.istore_n 0, 1) := by decide +kernel
theorem d_Int_bitCount_24 : decode b_Int_bitCount 24 = .ok (.iload_n 0, 1) := by decide +kernel
theorem d_Int_bitCount_25 : decode b_Int_bitCount 25 = .ok (.iload_n 0, 1) := by decide +kernel
theorem d_Int_bitCount_26 : decode b_Int_bitCount 26 = .ok (.iconst 4, 1) := by decide +kernel
theorem d_Int_bitCount_27 : decode b_Int_bitCount 27 = .ok (.iushr, 1) := by decide +kernel
theorem d_Int_bitCount_28 : decode b_Int_bitCount 28 = .ok (.iadd, 1) := by decide +kernel
theorem d_Int_bitCount_29 : decode b_Int_bitCount 29 = .ok (.ldc_w 267, 3) := by decide +kernel
theorem d_Int_bitCount_32 : decode b_Int_bitCount 32 = .ok (.iand, 1) := by decide +kernel
theorem d_Int_bitCount_33 : decode b_Int_bitCount 33 = .ok (.istore_n 0, 1) := by decide +kernel
theorem d_Int_bitCount_34 : decode b_Int_bitCount 34 = .ok (.iload_n 0, 1) := by decide +kernel
theorem d_Int_bitCount_35 : decode b_Int_bitCount 35 = .ok (.iload_n 0, 1) := by decide +kernel
theorem d_Int_bitCount_36 : decode b_Int_bitCount 36 = .ok (.bipush 8, 2) := by decide +kernel
theorem d_Int_bitCount_38 : decode b_Int_bitCount 38 = .ok (.iushr, 1) := by decide +kernel
theorem d_Int_bitCount_39 : decode b_Int_bitCount 39 = .ok (.iadd, 1) := by decide +kernel
theorem d_Int_bitCount_40 : decode b_Int_bitCount 40 = .ok (.istore_n 0, 1) := by decide +kernel
theorem d_Int_bitCount_41 : decode b_Int_bitCount 41 = .ok (.iload_n 0, 1) := by decide +kernel
theorem d_Int_bitCount_42 : decode b_Int_bitCount 42 = .ok (.iload_n 0, 1) := by decide +kernel
theorem d_Int_bitCount_43 : decode b_Int_bitCount 43 = .ok (.bipush 16, 2) := by decide +kernel
theorem d_Int_bitCount_45 : decode b_Int_bitCount 45 = .ok (.iushr, 1) := by decide +kernel
theorem d_Int_bitCount_46 : decode b_Int_bitCount 46 = .ok (.iadd, 1) := by decide +kernel
theorem d_Int_bitCount_47 : decode b_Int_bitCount 47 = .ok (.istore_n 0, 1) := by decide +kernel
theorem d_Int_bitCount_48 : decode b_Int_bitCount 48 = .ok (.iload_n 0, 1) := by decide +kernel
theorem d_Int_bitCount_49 : decode b_Int_bitCount 49 = .ok (.bipush 63, 2) := by decide +kernel
theorem d_Int_bitCount_51 : decode b_Int_bitCount 51 = .ok (.iand, 1) := by decide +kernel
theorem d_Int_bitCount_52 : decode b_Int_bitCount 52 = .ok (.ireturn, 1) := by decide +kernel
