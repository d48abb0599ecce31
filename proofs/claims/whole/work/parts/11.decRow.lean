theorem d_Row_resize_0 : decode b_Row_resize 0 = .ok (.aload_n 0, 1) := by decide +kernel
theorem d_Row_resize_1 : decode b_Row_resize 1 = .ok (.iload_n 1, 1) := by decide +kernel
theorem d_Row_resize_2 : decode b_Row_resize 2 = .ok (.putfield 15, 3) := by decide +kernel
theorem d_Row_resize_5 : decode b_Row_resize 5 = .ok (.return_, 1) := by decide +kernel
theorem d_Row_length_0 : decode b_Row_length 0 = .ok (.aload_n 0, 1) := by decide +kernel
theorem d_Row_length_1 : decode b_Row_length 1 = .ok (.getfield 15, 3) := by decide +kernel
theorem d_Row_length_4 : decode b_Row_length 4 = .ok (.ireturn, 1) := by decide +kernel
theorem d_Row_canHaveRank_0 : decode b_Row_canHaveRank 0 = .ok (.iload_n 1, 1) := by decide +kernel
theorem d_Row_canHaveRank_1 : decode b_Row_canHaveRank 1 = .ok (.ifCond .lt 19, 3) := by decide +kernel
theorem d_Row_canHaveRank_4 : decode b_Row_canHaveRank 4 = .ok (.iload_n 1, 1) := by decide +kernel
theorem d_Row_canHaveRank_5 : decode b_Row_canHaveRank 5 = .ok (.getstatic 19, 3) := by decide +kernel
theorem d_Row_canHaveRank_8 : decode b_Row_canHaveRank 8 = .ok (.aload_n 0, 1) := by decide +kernel
theorem d_Row_canHaveRank_9 : decode b_Row_canHaveRank 9 = .ok (.getfield 15, 3) := by decide +kernel
theorem d_Row_canHaveRank_12 : decode b_Row_canHaveRank 12 = .ok (.iaload, 1) := by decide +kernel
theorem d_Row_canHaveRank_13 : decode b_Row_canHaveRank 13 = .ok (.if_icmp .ge 7, 3) := by decide +kernel
theorem d_Row_canHaveRank_16 : decode b_Row_canHaveRank 16 = .ok (.iconst 1, 1) := by decide +kernel
theorem d_Row_canHaveRank_17 : decode b_Row_canHaveRank 17 = .ok (.goto 4, 3) := by decide +kernel
theorem d_Row_canHaveRank_20 : decode b_Row_canHaveRank 20 = .ok (.iconst 0, 1) := by decide +kernel
theorem d_Row_canHaveRank_21 : decode b_Row_canHaveRank 21 = .ok (.ireturn, 1) := by decide +kernel
theorem d_Row_bellAt_0 : decode b_Row_bellAt 0 = .ok (.aload_n 0, 1) := by decide +kernel
theorem d_Row_bellAt_1 : decode b_Row_bellAt 1 = .ok (.getfield 9, 3) := by decide +kernel
theorem d_Row_bellAt_4 : decode b_Row_bellAt 4 = .ok (.iload_n 1, 1) := by decide +kernel
theorem d_Row_bellAt_5 : decode b_Row_bellAt 5 = .ok (.iconst 1, 1) := by decide +kernel
theorem d_Row_bellAt_6 : decode b_Row_bellAt 6 = .ok (.isub, 1) := by decide +kernel
theorem d_Row_bellAt_7 : decode b_Row_bellAt 7 = .ok (.iaload, 1) := by decide +kernel
theorem d_Row_bellAt_8 : decode b_Row_bellAt 8 = .ok (.ireturn, 1) := by decide +kernel
theorem d_Row_bringForward_0 : decode b_Row_bringForward 0 = .ok (.aload_n 0, 1) := by decide +kernel
theorem d_Row_bringForward_1 : decode b_Row_bringForward 1 = .ok (.getfield 9, 3) := by decide +kernel
theorem d_Row_bringForward_4 : decode b_Row_bringForward 4 = .ok (.iload_n 1, 1) := by decide +kernel
theorem d_Row_bringForward_5 : decode b_Row_bringForward 5 = .ok (.iaload, 1) := by decide +kernel
theorem d_Row_bringForward_6 : decode b_Row_bringForward 6 = .ok (.istore_n 3, 1) := by decide +kernel
theorem d_Row_bringForward_7 : decode b_Row_bringForward 7 = .ok (.iload_n 1, 1) := by decide +kernel
theorem d_Row_bringForward_8 : decode b_Row_bringForward 8 = .ok (.istore 4, 2) := by decide +kernel
theorem d_Row_bringForward_10 : decode b_Row_bringForward 10 = .ok (.iload 4, 2) := by decide +kernel
theorem d_Row_bringForward_12 : decode b_Row_bringForward 12 = .ok (.iload_n 2, 1) := by decide +kernel
theorem d_Row_bringForward_13 : decode b_Row_bringForward 13 = .ok (.if_icmp .le 25, 3) := by decide +kernel
theorem d_Row_bringForward_16 : decode b_Row_bringForward 16 = .ok (.aload_n 0, 1) := by decide +kernel
theorem d_Row_bringForward_17 : decode b_Row_bringForward 17 = .ok (.getfield 9, 3) := by decide +kernel
theorem d_Row_bringForward_20 : decode b_Row_bringForward 20 = .ok (.iload 4, 2) := by decide +kernel
theorem d_Row_bringForward_22 : decode b_Row_bringForward 22 = .ok (.aload_n 0, 1) := by decide +kernel
theorem d_Row_bringForward_23 : decode b_Row_bringForward 23 = .ok (.getfield 9, 3) := by decide +kernel
theorem d_Row_bringForward_26 : decode b_Row_bringForward 26 = .ok (.iload 4, 2) := by decide +kernel
theorem d_Row_bringForward_28 : decode b_Row_bringForward 28 = .ok (.iconst 1, 1) := by decide +kernel
theorem d_Row_bringForward_29 : decode b_Row_bringForward 29 = .ok (.isub, 1) := by decide +kernel
theorem d_Row_bringForward_30 : decode b_Row_bringForward 30 = .ok (.iaload, 1) := by decide +kernel
theorem d_Row_bringForward_31 : decode b_Row_bringForward 31 = .ok (.iastore, 1) := by decide +kernel
theorem d_Row_bringForward_32 : decode b_Row_bringForward 32 = .ok (.iinc 4 (-1), 3) := by decide +kernel
theorem d_Row_bringForward_35 : decode b_Row_bringForward 35 = .ok (.goto (-25), 3) := by decide +kernel
theorem d_Row_bringForward_38 : decode b_Row_bringForward 38 = .ok (.aload_n 0, 1) := by decide +kernel
theorem d_Row_bringForward_39 : decode b_Row_bringForward 39 = .ok (.getfield 9, 3) := by decide +kernel
theorem d_Row_bringForward_42 : decode b_Row_bringForward 42 = .ok (.iload_n 2, 1) := by decide +kernel
theorem d_Row_bringForward_43 : decode b_Row_bringForward 43 = .ok (.iload_n 3, 1) := by decide +kernel
theorem d_Row_bringForward_44 : decode b_Row_bringForward 44 = .ok (.iastore, 1) := by decide +kernel
theorem d_Row_bringForward_45 : decode b_Row_bringForward 45 = .ok (.return_, 1) := by decide +kernel
theorem d_Row_becomeRank_0 : decode b_Row_becomeRank 0 = .ok (.iconst 0, 1) := by decide +kernel
theorem d_Row_becomeRank_1 : decode b_Row_becomeRank 1 = .ok (.istore_n 2, 1) := by decide +kernel
theorem d_Row_becomeRank_2 : decode b_Row_becomeRank 2 = .ok (.iload_n 2, 1) := by decide +kernel
theorem d_Row_becomeRank_3 : decode b_Row_becomeRank 3 = .ok (.aload_n 0, 1) := by decide +kernel
theorem d_Row_becomeRank_4 : decode b_Row_becomeRank 4 = .ok (.getfield 15, 3) := by decide +kernel
theorem d_Row_becomeRank_7 : decode b_Row_becomeRank 7 = .ok (.if_icmp .ge 18, 3) := by decide +kernel
theorem d_Row_becomeRank_10 : decode b_Row_becomeRank 10 = .ok (.aload_n 0, 1) := by decide +kernel
theorem d_Row_becomeRank_11 : decode b_Row_becomeRank 11 = .ok (.getfield 9, 3) := by decide +kernel
theorem d_Row_becomeRank_14 : decode b_Row_becomeRank 14 = .ok (.iload_n 2, 1) := by decide +kernel
theorem d_Row_becomeRank_15 : decode b_Row_becomeRank 15 = .ok (.iload_n 2, 1) := by decide +kernel
theorem d_Row_becomeRank_16 : decode b_Row_becomeRank 16 = .ok (.iconst 1, 1) := by decide +kernel
theorem d_Row_becomeRank_17 : decode b_Row_becomeRank 17 = .ok (.iadd, 1) := by decide +kernel
theorem d_Row_becomeRank_18 : decode b_Row_becomeRank 18 = .ok (.iastore, 1) := by decide +kernel
theorem d_Row_becomeRank_19 : decode b_Row_becomeRank 19 = .ok (.iinc 2 1, 3) := by decide +kernel
theorem d_Row_becomeRank_22 : decode b_Row_becomeRank 22 = .ok (.goto (-20), 3) := by decide +kernel
theorem d_Row_becomeRank_25 : decode b_Row_becomeRank 25 = .ok (.iload_n 1, 1) := by decide +kernel
theorem d_Row_becomeRank_26 : decode b_Row_becomeRank 26 = .ok (.istore_n 2, 1) := by decide +kernel
theorem d_Row_becomeRank_27 : decode b_Row_becomeRank 27 = .ok (.iconst 0, 1) := by decide +kernel
theorem d_Row_becomeRank_28 : decode b_Row_becomeRank 28 = .ok (.istore_n 3, 1) := by decide +kernel
theorem d_Row_becomeRank_29 : decode b_Row_becomeRank 29 = .ok (.iload_n 3, 1) := by decide +kernel
theorem d_Row_becomeRank_30 : decode b_Row_becomeRank 30 = .ok (.aload_n 0, 1) := by decide +kernel
theorem d_Row_becomeRank_31 : decode b_Row_becomeRank 31 = .ok (.getfield 15, 3) := by decide +kernel
theorem d_Row_becomeRank_34 : decode b_Row_becomeRank 34 = .ok (.if_icmp .ge 39, 3) := by decide +kernel
theorem d_Row_becomeRank_37 : decode b_Row_becomeRank 37 = .ok (.getstatic 19, 3) := by decide +kernel
theorem d_Row_becomeRank_40 : decode b_Row_becomeRank 40 = .ok (.aload_n 0, 1) := by decide +kernel
theorem d_Row_becomeRank_41 : decode b_Row_becomeRank 41 = .ok (.getfield 15, 3) := by decide +kernel
theorem d_Row_becomeRank_44 : decode b_Row_becomeRank 44 = .ok (.iconst 1, 1) := by decide +kernel
theorem d_Row_becomeRank_45 : decode b_Row_becomeRank 45 = .ok (.isub, 1) := by decide +kernel
theorem d_Row_becomeRank_46 : decode b_Row_becomeRank 46 = .ok (.iload_n 3, 1) := by decide +kernel
theorem d_Row_becomeRank_47 : decode b_Row_becomeRank 47 = .ok (.isub, 1) := by decide +kernel
theorem d_Row_becomeRank_48 : decode b_Row_becomeRank 48 = .ok (.iaload, 1) := by decide +kernel
theorem d_Row_becomeRank_49 : decode b_Row_becomeRank 49 = .ok (.istore 4, 2) := by decide +kernel
theorem d_Row_becomeRank_51 : decode b_Row_becomeRank 51 = .ok (.aload_n 0, 1) := by decide +kernel
theorem d_Row_becomeRank_52 : decode b_Row_becomeRank 52 = .ok (.iload_n 3, 1) := by decide +kernel
theorem d_Row_becomeRank_53 : decode b_Row_becomeRank 53 = .ok (.iload_n 2, 1) := by decide +kernel
theorem d_Row_becomeRank_54 : decode b_Row_becomeRank 54 = .ok (.iload 4, 2) := by decide +kernel
theorem d_Row_becomeRank_56 : decode b_Row_becomeRank 56 = .ok (.idiv, 1) := by decide +kernel
theorem d_Row_becomeRank_57 : decode b_Row_becomeRank 57 = .ok (.iadd, 1) := by decide +kernel
theorem d_Row_becomeRank_58 : decode b_Row_becomeRank 58 = .ok (.iload_n 3, 1) := by decide +kernel
theorem d_Row_becomeRank_59 : decode b_Row_becomeRank 59 = .ok (.invokevirtual 22, 3) := by decide +kernel
theorem d_Row_becomeRank_62 : decode b_Row_becomeRank 62 = .ok (.iload_n 2, 1) := by decide +kernel
theorem d_Row_becomeRank_63 : decode b_Row_becomeRank 63 = .ok (.iload 4, 2) := by decide +kernel
theorem d_Row_becomeRank_65 : decode b_Row_becomeRank 65 = .ok (.irem, 1) := by decide +kernel
theorem d_Row_becomeRank_66 : decode b_Row_becomeRank 66 = .ok (.istore_n 2, 1) := by decide +kernel
theorem d_Row_becomeRank_67 : decode b_Row_becomeRank 67 = .ok (.iinc 3 1, 3) := by decide +kernel
theorem d_Row_becomeRank_70 : decode b_Row_becomeRank 70 = .ok (.goto (-41), 3) := by decide +kernel
theorem d_Row_becomeRank_73 : decode b_Row_becomeRank 73 = .ok (.return_, 1) := by decide +kernel
theorem d_Row_findRank_0 : decode b_Row_findRank 0 = .ok (.iconst 0, 1) := by decide +kernel
theorem d_Row_findRank_1 : decode b_Row_findRank 1 = .ok (.istore_n 1, 1) := by decide +kernel
theorem d_Row_findRank_2 : decode b_Row_findRank 2 = .ok (.iconst 1, 1) := by decide +kernel
theorem d_Row_findRank_3 : decode b_Row_findRank 3 = .ok (.aload_n 0, 1) := by decide +kernel
theorem d_Row_findRank_4 : decode b_Row_findRank 4 = .ok (.getfield 15, 3) := by decide +kernel
theorem d_Row_findRank_7 : decode b_Row_findRank 7 = .ok (.ishl, 1) := by decide +kernel
theorem d_Row_findRank_8 : decode b_Row_findRank 8 = .ok (.iconst 1, 1) := by decide +kernel
theorem d_Row_findRank_9 : decode b_Row_findRank 9 = .ok (.isub, 1) := by decide +kernel
theorem d_Row_findRank_10 : decode b_Row_findRank 10 = .ok (.istore_n 2, 1) := by decide +kernel
theorem d_Row_findRank_11 : decode b_Row_findRank 11 = .ok (.iconst 0, 1) := by decide +kernel
theorem d_Row_findRank_12 : decode b_Row_findRank 12 = .ok (.istore_n 3, 1) := by decide +kernel
theorem d_Row_findRank_13 : decode b_Row_findRank 13 = .ok (.iload_n 3, 1) := by decide +kernel
theorem d_Row_findRank_14 : decode b_Row_findRank 14 = .ok (.aload_n 0, 1) := by decide +kernel
theorem d_Row_findRank_15 : decode b_Row_findRank 15 = .ok (.getfield 15, 3) := by decide +kernel
theorem d_Row_findRank_18 : decode b_Row_findRank 18 = .ok (.if_icmp .ge 57, 3) := by decide +kernel
theorem d_Row_findRank_21 : decode b_Row_findRank 21 = .ok (.iconst 1, 1) := by decide +kernel
theorem d_Row_findRank_22 : decode b_Row_findRank 22 = .ok (.aload_n 0, 1) := by decide +kernel
theorem d_Row_findRank_23 : decode b_Row_findRank 23 = .ok (.getfield 9, 3) := by decide +kernel
theorem d_Row_findRank_26 : decode b_Row_findRank 26 = .ok (.iload_n 3, 1) := by decide +kernel
theorem d_Row_findRank_27 : decode b_Row_findRank 27 = .ok (.iaload, 1) := by decide +kernel
theorem d_Row_findRank_28 : decode b_Row_findRank 28 = .ok (.iconst 1, 1) := by decide +kernel
theorem d_Row_findRank_29 : decode b_Row_findRank 29 = .ok (.isub, 1) := by decide +kernel
theorem d_Row_findRank_30 : decode b_Row_findRank 30 = .ok (.ishl, 1) := by decide +kernel
theorem d_Row_findRank_31 : decode b_Row_findRank 31 = .ok (.istore 4, 2) := by decide +kernel
theorem d_Row_findRank_33 : decode b_Row_findRank 33 = .ok (.iload_n 2, 1) := by decide +kernel
theorem d_Row_findRank_34 : decode b_Row_findRank 34 = .ok (.iload 4, 2) := by decide +kernel
theorem d_Row_findRank_36 : decode b_Row_findRank 36 = .ok (.iconst (-1), 1) := by decide +kernel
theorem d_Row_findRank_37 : decode b_Row_findRank 37 = .ok (.ixor, 1) := by decide +kernel
theorem d_Row_findRank_38 : decode b_Row_findRank 38 = .ok (.iand, 1) := by decide +kernel
theorem d_Row_findRank_39 : decode b_Row_findRank 39 = .ok (.istore_n 2, 1) := by decide +kernel
theorem d_Row_findRank_40 : decode b_Row_findRank 40 = .ok (.iload_n 2, 1) := by decide +kernel
theorem d_Row_findRank_41 : decode b_Row_findRank 41 = .ok (.iload 4, 2) := by decide +kernel
theorem d_Row_findRank_43 : decode b_Row_findRank 43 = .ok (.iconst 1, 1) := by decide +kernel
theorem d_Row_findRank_44 : decode b_Row_findRank 44 = .ok (.isub, 1) := by decide +kernel
theorem d_Row_findRank_45 : decode b_Row_findRank 45 = .ok (.iand, 1) := by decide +kernel
theorem d_Row_findRank_46 : decode b_Row_findRank 46 = .ok (.invokestatic 26, 3) := by decide +kernel
theorem d_Row_findRank_49 : decode b_Row_findRank 49 = .ok (.istore 5, 2) := by decide +kernel
theorem d_Row_findRank_51 : decode b_Row_findRank 51 = .ok (.iload_n 1, 1) := by decide +kernel
theorem d_Row_findRank_52 : decode b_Row_findRank 52 = .ok (.iload 5, 2) := by decide +kernel
theorem d_Row_findRank_54 : decode b_Row_findRank 54 = .ok (.getstatic 19, 3) := by decide +kernel
theorem d_Row_findRank_57 : decode b_Row_findRank 57 = .ok (.aload_n 0, 1) := by decide +kernel
theorem d_Row_findRank_58 : decode b_Row_findRank 58 = .ok (.getfield 15, 3) := by decide +kernel
theorem d_Row_findRank_61 : decode b_Row_findRank 61 = .ok (.iconst 1, 1) := by decide +kernel
theorem d_Row_findRank_62 : decode b_Row_findRank 62 = .ok (.isub, 1) := by decide +kernel
theorem d_Row_findRank_63 : decode b_Row_findRank 63 = .ok (.iload_n 3, 1) := by decide +kernel
theorem d_Row_findRank_64 : decode b_Row_findRank 64 = .ok (.isub, 1) := by decide +kernel
theorem d_Row_findRank_65 : decode b_Row_findRank 65 = .ok (.iaload, 1) := by decide +kernel
theorem d_Row_findRank_66 : decode b_Row_findRank 66 = .ok (.imul, 1) := by decide +kernel
theorem d_Row_findRank_67 : decode b_Row_findRank 67 = .ok (.iadd, 1) := by decide +kernel
theorem d_Row_findRank_68 : decode b_Row_findRank 68 = .ok (.istore_n 1, 1) := by decide +kernel
theorem d_Row_findRank_69 : decode b_Row_findRank 69 = .ok (.iinc 3 1, 3) := by decide +kernel
theorem d_Row_findRank_72 : decode b_Row_findRank 72 = .ok (.goto (-59), 3) := by decide +kernel
theorem d_Row_findRank_75 : decode b_Row_findRank 75 = .ok (.iload_n 1, 1) := by decide +kernel
theorem d_Row_findRank_76 : decode b_Row_findRank 76 = .ok (.ireturn, 1) := by decide +kernel
theorem d_Row_changeBy_0 : decode b_Row_changeBy 0 = .ok (.iconst 1, 1) := by decide +kernel
theorem d_Row_changeBy_1 : decode b_Row_changeBy 1 = .ok (.istore_n 2, 1) := by decide +kernel
theorem d_Row_changeBy_2 : decode b_Row_changeBy 2 = .ok (.iload_n 2, 1) := by decide +kernel
theorem d_Row_changeBy_3 : decode b_Row_changeBy 3 = .ok (.aload_n 0, 1) := by decide +kernel
theorem d_Row_changeBy_4 : decode b_Row_changeBy 4 = .ok (.getfield 15, 3) := by decide +kernel
theorem d_Row_changeBy_7 : decode b_Row_changeBy 7 = .ok (.if_icmp .ge 53, 3) := by decide +kernel
theorem d_Row_changeBy_10 : decode b_Row_changeBy 10 = .ok (.iload_n 1, 1) := by decide +kernel
theorem d_Row_changeBy_11 : decode b_Row_changeBy 11 = .ok (.iload_n 2, 1) := by decide +kernel
theorem d_Row_changeBy_12 : decode b_Row_changeBy 12 = .ok (.invokestatic 32, 3) := by decide +kernel
theorem d_Row_changeBy_15 : decode b_Row_changeBy 15 = .ok (.ifCond .eq 9, 3) := by decide +kernel
theorem d_Row_changeBy_18 : decode b_Row_changeBy 18 = .ok (.iinc 2 1, 3) := by decide +kernel
theorem d_Row_changeBy_21 : decode b_Row_changeBy 21 = .ok (.goto (-19), 3) := by decide +kernel
theorem d_Row_changeBy_24 : decode b_Row_changeBy 24 = .ok (.aload_n 0, 1) := by decide +kernel
theorem d_Row_changeBy_25 : decode b_Row_changeBy 25 = .ok (.getfield 9, 3) := by decide +kernel
theorem d_Row_changeBy_28 : decode b_Row_changeBy 28 = .ok (.iload_n 2, 1) := by decide +kernel
theorem d_Row_changeBy_29 : decode b_Row_changeBy 29 = .ok (.iconst 1, 1) := by decide +kernel
theorem d_Row_changeBy_30 : decode b_Row_changeBy 30 = .ok (.isub, 1) := by decide +kernel
theorem d_Row_changeBy_31 : decode b_Row_changeBy 31 = .ok (.iaload, 1) := by decide +kernel
theorem d_Row_changeBy_32 : decode b_Row_changeBy 32 = .ok (.istore_n 3, 1) := by decide +kernel
theorem d_Row_changeBy_33 : decode b_Row_changeBy 33 = .ok (.aload_n 0, 1) := by decide +kernel
theorem d_Row_changeBy_34 : decode b_Row_changeBy 34 = .ok (.getfield 9, 3) := by decide +kernel
theorem d_Row_changeBy_37 : decode b_Row_changeBy 37 = .ok (.iload_n 2, 1) := by decide +kernel
theorem d_Row_changeBy_38 : decode b_Row_changeBy 38 = .ok (.iconst 1, 1) := by decide +kernel
theorem d_Row_changeBy_39 : decode b_Row_changeBy 39 = .ok (.isub, 1) := by decide +kernel
theorem d_Row_changeBy_40 : decode b_Row_changeBy 40 = .ok (.aload_n 0, 1) := by decide +kernel
theorem d_Row_changeBy_41 : decode b_Row_changeBy 41 = .ok (.getfield 9, 3) := by decide +kernel
theorem d_Row_changeBy_44 : decode b_Row_changeBy 44 = .ok (.iload_n 2, 1) := by decide +kernel
theorem d_Row_changeBy_45 : decode b_Row_changeBy 45 = .ok (.iaload, 1) := by decide +kernel
theorem d_Row_changeBy_46 : decode b_Row_changeBy 46 = .ok (.iastore, 1) := by decide +kernel
theorem d_Row_changeBy_47 : decode b_Row_changeBy 47 = .ok (.aload_n 0, 1) := by decide +kernel
theorem d_Row_changeBy_48 : decode b_Row_changeBy 48 = .ok (.getfield 9, 3) := by decide +kernel
theorem d_Row_changeBy_51 : decode b_Row_changeBy 51 = .ok (.iload_n 2, 1) := by decide +kernel
theorem d_Row_changeBy_52 : decode b_Row_changeBy 52 = .ok (.iload_n 3, 1) := by decide +kernel
theorem d_Row_changeBy_53 : decode b_Row_changeBy 53 = .ok (.iastore, 1) := by decide +kernel
theorem d_Row_changeBy_54 : decode b_Row_changeBy 54 = .ok (.iinc 2 2, 3) := by decide +kernel
theorem d_Row_changeBy_57 : decode b_Row_changeBy 57 = .ok (.goto (-55), 3) := by decide +kernel
theorem d_Row_changeBy_60 : decode b_Row_changeBy 60 = .ok (.return_, 1) := by decide +kernel
theorem d_Row_matches_0 : decode b_Row_matches 0 = .ok (.iconst 0, 1) := by decide +kernel
theorem d_Row_matches_1 : decode b_Row_matches 1 = .ok (.istore_n 2, 1) := by decide +kernel
theorem d_Row_matches_2 : decode b_Row_matches 2 = .ok (.iload_n 2, 1) := by decide +kernel
theorem d_Row_matches_3 : decode b_Row_matches 3 = .ok (.aload_n 0, 1) := by decide +kernel
theorem d_Row_matches_4 : decode b_Row_matches 4 = .ok (.getfield 15, 3) := by decide +kernel
theorem d_Row_matches_7 : decode b_Row_matches 7 = .ok (.if_icmp .ge 29, 3) := by decide +kernel
theorem d_Row_matches_10 : decode b_Row_matches 10 = .ok (.aload_n 1, 1) := by decide +kernel
theorem d_Row_matches_11 : decode b_Row_matches 11 = .ok (.iload_n 2, 1) := by decide +kernel
theorem d_Row_matches_12 : decode b_Row_matches 12 = .ok (.iaload, 1) := by decide +kernel
theorem d_Row_matches_13 : decode b_Row_matches 13 = .ok (.ifCond .eq 17, 3) := by decide +kernel
theorem d_Row_matches_16 : decode b_Row_matches 16 = .ok (.aload_n 1, 1) := by decide +kernel
theorem d_Row_matches_17 : decode b_Row_matches 17 = .ok (.iload_n 2, 1) := by decide +kernel
theorem d_Row_matches_18 : decode b_Row_matches 18 = .ok (.iaload, 1) := by decide +kernel
theorem d_Row_matches_19 : decode b_Row_matches 19 = .ok (.aload_n 0, 1) := by decide +kernel
theorem d_Row_matches_20 : decode b_Row_matches 20 = .ok (.getfield 9, 3) := by decide +kernel
theorem d_Row_matches_23 : decode b_Row_matches 23 = .ok (.iload_n 2, 1) := by decide +kernel
theorem d_Row_matches_24 : decode b_Row_matches 24 = .ok (.iaload, 1) := by decide +kernel
theorem d_Row_matches_25 : decode b_Row_matches 25 = .ok (.if_icmp .eq 5, 3) := by decide +kernel
theorem d_Row_matches_28 : decode b_Row_matches 28 = .ok (.iconst 0, 1) := by decide +kernel
theorem d_Row_matches_29 : decode b_Row_matches 29 = .ok (.ireturn, 1) := by decide +kernel
theorem d_Row_matches_30 : decode b_Row_matches 30 = .ok (.iinc 2 1, 3) := by decide +kernel
theorem d_Row_matches_33 : decode b_Row_matches 33 = .ok (.goto (-31), 3) := by decide +kernel
theorem d_Row_matches_36 : decode b_Row_matches 36 = .ok (.iconst 1, 1) := by decide +kernel
theorem d_Row_matches_37 : decode b_Row_matches 37 = .ok (.ireturn, 1) := by decide +kernel
