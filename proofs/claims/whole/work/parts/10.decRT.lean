theorem d_RT_hasInMask_0 : decode b_RT_hasInMask 0 = .ok (.iload_n 0, 1) := by decide +kernel
theorem d_RT_hasInMask_1 : decode b_RT_hasInMask 1 = .ok (.iload_n 1, 1) := by decide +kernel
theorem d_RT_hasInMask_2 : decode b_RT_hasInMask 2 = .ok (.iconst 1, 1) := by decide +kernel
theorem d_RT_hasInMask_3 : decode b_RT_hasInMask 3 = .ok (.isub, 1) := by decide +kernel
theorem d_RT_hasInMask_4 : decode b_RT_hasInMask 4 = .ok (.ishr, 1) := by decide +kernel
theorem d_RT_hasInMask_5 : decode b_RT_hasInMask 5 = .ok (.iconst 1, 1) := by decide +kernel
theorem d_RT_hasInMask_6 : decode b_RT_hasInMask 6 = .ok (.iand, 1) := by decide +kernel
theorem d_RT_hasInMask_7 : decode b_RT_hasInMask 7 = .ok (.ifCond .eq 7, 3) := by decide +kernel
theorem d_RT_hasInMask_10 : decode b_RT_hasInMask 10 = .ok (.iconst 1, 1) := by decide +kernel
theorem d_RT_hasInMask_11 : decode b_RT_hasInMask 11 = .ok (.goto 4, 3) := by decide +kernel
theorem d_RT_hasInMask_14 : decode b_RT_hasInMask 14 = .ok (.iconst 0, 1) := by decide +kernel
theorem d_RT_hasInMask_15 : decode b_RT_hasInMask 15 = .ok (.ireturn, 1) := by decide +kernel
