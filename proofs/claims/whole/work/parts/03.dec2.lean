theorem dX10_in_0 : decode cX10_in 0 = .ok (.lload_n 0, 1) := by decide +kernel
theorem dX10_in_1 : decode cX10_in 1 = .ok (.lload_n 2, 1) := by decide +kernel
theorem dX10_in_2 : decode cX10_in 2 = .ok (.lcmp, 1) := by decide +kernel
theorem dX10_in_3 : decode cX10_in 3 = .ok (.ifCond .lt 14, 3) := by decide +kernel
theorem dX10_in_6 : decode cX10_in 6 = .ok (.lload_n 0, 1) := by decide +kernel
theorem dX10_in_7 : decode cX10_in 7 = .ok (.lload 4, 2) := by decide +kernel
theorem dX10_in_9 : decode cX10_in 9 = .ok (.lcmp, 1) := by decide +kernel
theorem dX10_in_10 : decode cX10_in 10 = .ok (.ifCond .gt 7, 3) := by decide +kernel
theorem dX10_in_13 : decode cX10_in 13 = .ok (.iconst 1, 1) := by decide +kernel
theorem dX10_in_14 : decode cX10_in 14 = .ok (.goto 4, 3) := by decide +kernel
theorem dX10_in_17 : decode cX10_in 17 = .ok (.iconst 0, 1) := by decide +kernel
theorem dX10_in_18 : decode cX10_in 18 = .ok (.ireturn, 1) := by decide +kernel
theorem dX10_times_0 : decode cX10_times 0 = .ok (.iload_n 1, 1) := by decide +kernel
theorem dX10_times_1 : decode cX10_times 1 = .ok (.ifCond .eq 7, 3) := by decide +kernel
theorem dX10_times_4 : decode cX10_times 4 = .ok (.iload_n 2, 1) := by decide +kernel
theorem dX10_times_5 : decode cX10_times 5 = .ok (.ifCond .ne 7, 3) := by decide +kernel
theorem dX10_times_8 : decode cX10_times 8 = .ok (.iconst 0, 1) := by decide +kernel
theorem dX10_times_9 : decode cX10_times 9 = .ok (.goto 21, 3) := by decide +kernel
theorem dX10_times_12 : decode cX10_times 12 = .ok (.aload_n 0, 1) := by decide +kernel
theorem dX10_times_13 : decode cX10_times 13 = .ok (.getfield 16, 3) := by decide +kernel
theorem dX10_times_16 : decode cX10_times 16 = .ok (.aload_n 0, 1) := by decide +kernel
theorem dX10_times_17 : decode cX10_times 17 = .ok (.getfield 19, 3) := by decide +kernel
theorem dX10_times_20 : decode cX10_times 20 = .ok (.iload_n 1, 1) := by decide +kernel
theorem dX10_times_21 : decode cX10_times 21 = .ok (.iaload, 1) := by decide +kernel
theorem dX10_times_22 : decode cX10_times 22 = .ok (.aload_n 0, 1) := by decide +kernel
theorem dX10_times_23 : decode cX10_times 23 = .ok (.getfield 19, 3) := by decide +kernel
theorem dX10_times_26 : decode cX10_times 26 = .ok (.iload_n 2, 1) := by decide +kernel
theorem dX10_times_27 : decode cX10_times 27 = .ok (.iaload, 1) := by decide +kernel
theorem dX10_times_28 : decode cX10_times 28 = .ok (.iadd, 1) := by decide +kernel
theorem dX10_times_29 : decode cX10_times 29 = .ok (.iaload, 1) := by decide +kernel
theorem dX10_times_30 : decode cX10_times 30 = .ok (.ireturn, 1) := by decide +kernel
theorem dX10_inverse_0 : decode cX10_inverse 0 = .ok (.aload_n 0, 1) := by decide +kernel
theorem dX10_inverse_1 : decode cX10_inverse 1 = .ok (.getfield 16, 3) := by decide +kernel
theorem dX10_inverse_4 : decode cX10_inverse 4 = .ok (.sipush 255, 3) := by decide +kernel
theorem dX10_inverse_7 : decode cX10_inverse 7 = .ok (.aload_n 0, 1) := by decide +kernel
theorem dX10_inverse_8 : decode cX10_inverse 8 = .ok (.getfield 19, 3) := by decide +kernel
theorem dX10_inverse_11 : decode cX10_inverse 11 = .ok (.iload_n 1, 1) := by decide +kernel
theorem dX10_inverse_12 : decode cX10_inverse 12 = .ok (.iaload, 1) := by decide +kernel
theorem dX10_inverse_13 : decode cX10_inverse 13 = .ok (.isub, 1) := by decide +kernel
theorem dX10_inverse_14 : decode cX10_inverse 14 = .ok (.iaload, 1) := by decide +kernel
theorem dX10_inverse_15 : decode cX10_inverse 15 = .ok (.ireturn, 1) := by decide +kernel
theorem dX10_power_0 : decode cX10_power 0 = .ok (.aload_n 0, 1) := by decide +kernel
theorem dX10_power_1 : decode cX10_power 1 = .ok (.getfield 16, 3) := by decide +kernel
theorem dX10_power_4 : decode cX10_power 4 = .ok (.iload_n 1, 1) := by decide +kernel
theorem dX10_power_5 : decode cX10_power 5 = .ok (.iload_n 2, 1) := by decide +kernel
theorem dX10_power_6 : decode cX10_power 6 = .ok (.iconst 1, 1) := by decide +kernel
theorem dX10_power_7 : decode cX10_power 7 = .ok (.isub, 1) := by decide +kernel
theorem dX10_power_8 : decode cX10_power 8 = .ok (.iload_n 3, 1) := by decide +kernel
theorem dX10_power_9 : decode cX10_power 9 = .ok (.isub, 1) := by decide +kernel
theorem dX10_power_10 : decode cX10_power 10 = .ok (.imul, 1) := by decide +kernel
theorem dX10_power_11 : decode cX10_power 11 = .ok (.sipush 255, 3) := by decide +kernel
theorem dX10_power_14 : decode cX10_power 14 = .ok (.irem, 1) := by decide +kernel
theorem dX10_power_15 : decode cX10_power 15 = .ok (.iaload, 1) := by decide +kernel
theorem dX10_power_16 : decode cX10_power 16 = .ok (.ireturn, 1) := by decide +kernel
theorem dX10_findSyndromes_0 : decode cX10_findSyndromes 0 = .ok (.iconst 0, 1) := by decide +kernel
theorem dX10_findSyndromes_1 : decode cX10_findSyndromes 1 = .ok (.istore_n 2, 1) := by decide +kernel
theorem dX10_findSyndromes_2 : decode cX10_findSyndromes 2 = .ok (.iload_n 2, 1) := by decide +kernel
theorem dX10_findSyndromes_3 : decode cX10_findSyndromes 3 = .ok (.iconst 4, 1) := by decide +kernel
theorem dX10_findSyndromes_4 : decode cX10_findSyndromes 4 = .ok (.if_icmp .ge 55, 3) := by decide +kernel
theorem dX10_findSyndromes_7 : decode cX10_findSyndromes 7 = .ok (.iconst 0, 1) := by decide +kernel
theorem dX10_findSyndromes_8 : decode cX10_findSyndromes 8 = .ok (.istore_n 3, 1) := by decide +kernel
theorem dX10_findSyndromes_9 : decode cX10_findSyndromes 9 = .ok (.iconst 0, 1) := by decide +kernel
theorem dX10_findSyndromes_10 : decode cX10_findSyndromes 10 = .ok (.istore 4, 2) := by decide +kernel
theorem dX10_findSyndromes_12 : decode cX10_findSyndromes 12 = .ok (.iload 4, 2) := by decide +kernel
theorem dX10_findSyndromes_14 : decode cX10_findSyndromes 14 = .ok (.iload_n 1, 1) := by decide +kernel
theorem dX10_findSyndromes_15 : decode cX10_findSyndromes 15 = .ok (.if_icmp .ge 31, 3) := by decide +kernel
theorem dX10_findSyndromes_18 : decode cX10_findSyndromes 18 = .ok (.iload_n 3, 1) := by decide +kernel
theorem dX10_findSyndromes_19 : decode cX10_findSyndromes 19 = .ok (.aload_n 0, 1) := by decide +kernel
theorem dX10_findSyndromes_20 : decode cX10_findSyndromes 20 = .ok (.aload_n 0, 1) := by decide +kernel
theorem dX10_findSyndromes_21 : decode cX10_findSyndromes 21 = .ok (.getfield 45, 3) := by decide +kernel
theorem dX10_findSyndromes_24 : decode cX10_findSyndromes 24 = .ok (.iload 4, 2) := by decide +kernel
theorem dX10_findSyndromes_26 : decode cX10_findSyndromes 26 = .ok (.iaload, 1) := by decide +kernel
theorem dX10_findSyndromes_27 : decode cX10_findSyndromes 27 = .ok (.aload_n 0, 1) := by decide +kernel
theorem dX10_findSyndromes_28 : decode cX10_findSyndromes 28 = .ok (.iload_n 2, 1) := by decide +kernel
theorem dX10_findSyndromes_29 : decode cX10_findSyndromes 29 = .ok (.iload_n 1, 1) := by decide +kernel
theorem dX10_findSyndromes_30 : decode cX10_findSyndromes 30 = .ok (.iload 4, 2) := by decide +kernel
theorem dX10_findSyndromes_32 : decode cX10_findSyndromes 32 = .ok (.invokevirtual 104, 3) := by decide +kernel
theorem dX10_findSyndromes_35 : decode cX10_findSyndromes 35 = .ok (.invokevirtual 108, 3) := by decide +kernel
theorem dX10_findSyndromes_38 : decode cX10_findSyndromes 38 = .ok (.ixor, 1) := by decide +kernel
theorem dX10_findSyndromes_39 : decode cX10_findSyndromes 39 = .ok (.istore_n 3, 1) := by decide +kernel
theorem dX10_findSyndromes_40 : decode cX10_findSyndromes 40 = .ok (.iinc 4 1, 3) := by decide +kernel
theorem dX10_findSyndromes_43 : decode cX10_findSyndromes 43 = .ok (.goto (-31), 3) := by decide +kernel
theorem dX10_findSyndromes_46 : decode cX10_findSyndromes 46 = .ok (.aload_n 0, 1) := by decide +kernel
theorem dX10_findSyndromes_47 : decode cX10_findSyndromes 47 = .ok (.getfield 52, 3) := by decide +kernel
theorem dX10_findSyndromes_50 : decode cX10_findSyndromes 50 = .ok (.iload_n 2, 1) := by decide +kernel
theorem dX10_findSyndromes_51 : decode cX10_findSyndromes 51 = .ok (.iload_n 3, 1) := by decide +kernel
theorem dX10_findSyndromes_52 : decode cX10_findSyndromes 52 = .ok (.iastore, 1) := by decide +kernel
theorem dX10_findSyndromes_53 : decode cX10_findSyndromes 53 = .ok (.iinc 2 1, 3) := by decide +kernel
theorem dX10_findSyndromes_56 : decode cX10_findSyndromes 56 = .ok (.goto (-54), 3) := by decide +kernel
theorem dX10_findSyndromes_59 : decode cX10_findSyndromes 59 = .ok (.return_, 1) := by decide +kernel
theorem dX10_swapRows_0 : decode cX10_swapRows 0 = .ok (.iconst 0, 1) := by decide +kernel
theorem dX10_swapRows_1 : decode cX10_swapRows 1 = .ok (.istore_n 3, 1) := by decide +kernel
theorem dX10_swapRows_2 : decode cX10_swapRows 2 = .ok (.iload_n 3, 1) := by decide +kernel
theorem dX10_swapRows_3 : decode cX10_swapRows 3 = .ok (.iconst 5, 1) := by decide +kernel
theorem dX10_swapRows_4 : decode cX10_swapRows 4 = .ok (.if_icmp .ge 53, 3) := by decide +kernel
theorem dX10_swapRows_7 : decode cX10_swapRows 7 = .ok (.aload_n 0, 1) := by decide +kernel
theorem dX10_swapRows_8 : decode cX10_swapRows 8 = .ok (.getfield 61, 3) := by decide +kernel
theorem dX10_swapRows_11 : decode cX10_swapRows 11 = .ok (.iconst 5, 1) := by decide +kernel
theorem dX10_swapRows_12 : decode cX10_swapRows 12 = .ok (.iload_n 1, 1) := by decide +kernel
theorem dX10_swapRows_13 : decode cX10_swapRows 13 = .ok (.imul, 1) := by decide +kernel
theorem dX10_swapRows_14 : decode cX10_swapRows 14 = .ok (.iload_n 3, 1) := by decide +kernel
theorem dX10_swapRows_15 : decode cX10_swapRows 15 = .ok (.iadd, 1) := by decide +kernel
theorem dX10_swapRows_16 : decode cX10_swapRows 16 = .ok (.iaload, 1) := by decide +kernel
theorem dX10_swapRows_17 : decode cX10_swapRows 17 = .ok (.istore 4, 2) := by decide +kernel
theorem dX10_swapRows_19 : decode cX10_swapRows 19 = .ok (.aload_n 0, 1) := by decide +kernel
theorem dX10_swapRows_20 : decode cX10_swapRows 20 = .ok (.getfield 61, 3) := by decide +kernel
theorem dX10_swapRows_23 : decode cX10_swapRows 23 = .ok (.iconst 5, 1) := by decide +kernel
theorem dX10_swapRows_24 : decode cX10_swapRows 24 = .ok (.iload_n 1, 1) := by decide +kernel
theorem dX10_swapRows_25 : decode cX10_swapRows 25 = .ok (.imul, 1) := by decide +kernel
theorem dX10_swapRows_26 : decode cX10_swapRows 26 = .ok (.iload_n 3, 1) := by decide +kernel
theorem dX10_swapRows_27 : decode cX10_swapRows 27 = .ok (.iadd, 1) := by decide +kernel
theorem dX10_swapRows_28 : decode cX10_swapRows 28 = .ok (.aload_n 0, 1) := by decide +kernel
theorem dX10_swapRows_29 : decode cX10_swapRows 29 = .ok (.getfield 61, 3) := by decide +kernel
theorem dX10_swapRows_32 : decode cX10_swapRows 32 = .ok (.iconst 5, 1) := by decide +kernel
theorem dX10_swapRows_33 : decode cX10_swapRows 33 = .ok (.iload_n 2, 1) := by decide +kernel
theorem dX10_swapRows_34 : decode cX10_swapRows 34 = .ok (.imul, 1) := by decide +kernel
theorem dX10_swapRows_35 : decode cX10_swapRows 35 = .ok (.iload_n 3, 1) := by decide +kernel
theorem dX10_swapRows_36 : decode cX10_swapRows 36 = .ok (.iadd, 1) := by decide +kernel
theorem dX10_swapRows_37 : decode cX10_swapRows 37 = .ok (.iaload, 1) := by decide +kernel
theorem dX10_swapRows_38 : decode cX10_swapRows 38 = .ok (.iastore, 1) := by decide +kernel
theorem dX10_swapRows_39 : decode cX10_swapRows 39 = .ok (.aload_n 0, 1) := by decide +kernel
theorem dX10_swapRows_40 : decode cX10_swapRows 40 = .ok (.getfield 61, 3) := by decide +kernel
theorem dX10_swapRows_43 : decode cX10_swapRows 43 = .ok (.iconst 5, 1) := by decide +kernel
theorem dX10_swapRows_44 : decode cX10_swapRows 44 = .ok (.iload_n 2, 1) := by decide +kernel
theorem dX10_swapRows_45 : decode cX10_swapRows 45 = .ok (.imul, 1) := by decide +kernel
theorem dX10_swapRows_46 : decode cX10_swapRows 46 = .ok (.iload_n 3, 1) := by decide +kernel
theorem dX10_swapRows_47 : decode cX10_swapRows 47 = .ok (.iadd, 1) := by decide +kernel
theorem dX10_swapRows_48 : decode cX10_swapRows 48 = .ok (.iload 4, 2) := by decide +kernel
theorem dX10_swapRows_50 : decode cX10_swapRows 50 = .ok (.iastore, 1) := by decide +kernel
theorem dX10_swapRows_51 : decode cX10_swapRows 51 = .ok (.iinc 3 1, 3) := by decide +kernel
theorem dX10_swapRows_54 : decode cX10_swapRows 54 = .ok (.goto (-52), 3) := by decide +kernel
theorem dX10_swapRows_57 : decode cX10_swapRows 57 = .ok (.return_, 1) := by decide +kernel
theorem dX10_fits_0 : decode cX10_fits 0 = .ok (.iconst 0, 1) := by decide +kernel
theorem dX10_fits_1 : decode cX10_fits 1 = .ok (.istore_n 3, 1) := by decide +kernel
theorem dX10_fits_2 : decode cX10_fits 2 = .ok (.iload_n 3, 1) := by decide +kernel
theorem dX10_fits_3 : decode cX10_fits 3 = .ok (.iconst 4, 1) := by decide +kernel
theorem dX10_fits_4 : decode cX10_fits 4 = .ok (.if_icmp .ge 64, 3) := by decide +kernel
theorem dX10_fits_7 : decode cX10_fits 7 = .ok (.iconst 0, 1) := by decide +kernel
theorem dX10_fits_8 : decode cX10_fits 8 = .ok (.istore 4, 2) := by decide +kernel
theorem dX10_fits_10 : decode cX10_fits 10 = .ok (.iload 4, 2) := by decide +kernel
theorem dX10_fits_12 : decode cX10_fits 12 = .ok (.iload_n 2, 1) := by decide +kernel
theorem dX10_fits_13 : decode cX10_fits 13 = .ok (.if_icmp .ge 33, 3) := by decide +kernel
theorem dX10_fits_16 : decode cX10_fits 16 = .ok (.aload_n 0, 1) := by decide +kernel
theorem dX10_fits_17 : decode cX10_fits 17 = .ok (.getfield 61, 3) := by decide +kernel
theorem dX10_fits_20 : decode cX10_fits 20 = .ok (.iconst 5, 1) := by decide +kernel
theorem dX10_fits_21 : decode cX10_fits 21 = .ok (.iload_n 3, 1) := by decide +kernel
theorem dX10_fits_22 : decode cX10_fits 22 = .ok (.imul, 1) := by decide +kernel
theorem dX10_fits_23 : decode cX10_fits 23 = .ok (.iload 4, 2) := by decide +kernel
theorem dX10_fits_25 : decode cX10_fits 25 = .ok (.iadd, 1) := by decide +kernel
theorem dX10_fits_26 : decode cX10_fits 26 = .ok (.aload_n 0, 1) := by decide +kernel
theorem dX10_fits_27 : decode cX10_fits 27 = .ok (.iload_n 3, 1) := by decide +kernel
theorem dX10_fits_28 : decode cX10_fits 28 = .ok (.iload_n 1, 1) := by decide +kernel
theorem dX10_fits_29 : decode cX10_fits 29 = .ok (.aload_n 0, 1) := by decide +kernel
theorem dX10_fits_30 : decode cX10_fits 30 = .ok (.getfield 55, 3) := by decide +kernel
theorem dX10_fits_33 : decode cX10_fits 33 = .ok (.iload 4, 2) := by decide +kernel
theorem dX10_fits_35 : decode cX10_fits 35 = .ok (.iaload, 1) := by decide +kernel
theorem dX10_fits_36 : decode cX10_fits 36 = .ok (.invokevirtual 104, 3) := by decide +kernel
theorem dX10_fits_39 : decode cX10_fits 39 = .ok (.iastore, 1) := by decide +kernel
theorem dX10_fits_40 : decode cX10_fits 40 = .ok (.iinc 4 1, 3) := by decide +kernel
theorem dX10_fits_43 : decode cX10_fits 43 = .ok (.goto (-33), 3) := by decide +kernel
theorem dX10_fits_46 : decode cX10_fits 46 = .ok (.aload_n 0, 1) := by decide +kernel
theorem dX10_fits_47 : decode cX10_fits 47 = .ok (.getfield 61, 3) := by decide +kernel
theorem dX10_fits_50 : decode cX10_fits 50 = .ok (.iconst 5, 1) := by decide +kernel
theorem dX10_fits_51 : decode cX10_fits 51 = .ok (.iload_n 3, 1) := by decide +kernel
theorem dX10_fits_52 : decode cX10_fits 52 = .ok (.imul, 1) := by decide +kernel
theorem dX10_fits_53 : decode cX10_fits 53 = .ok (.iconst 4, 1) := by decide +kernel
theorem dX10_fits_54 : decode cX10_fits 54 = .ok (.iadd, 1) := by decide +kernel
theorem dX10_fits_55 : decode cX10_fits 55 = .ok (.aload_n 0, 1) := by decide +kernel
theorem dX10_fits_56 : decode cX10_fits 56 = .ok (.getfield 52, 3) := by decide +kernel
theorem dX10_fits_59 : decode cX10_fits 59 = .ok (.iload_n 3, 1) := by decide +kernel
theorem dX10_fits_60 : decode cX10_fits 60 = .ok (.iaload, 1) := by decide +kernel
theorem dX10_fits_61 : decode cX10_fits 61 = .ok (.iastore, 1) := by decide +kernel
theorem dX10_fits_62 : decode cX10_fits 62 = .ok (.iinc 3 1, 3) := by decide +kernel
theorem dX10_fits_65 : decode cX10_fits 65 = .ok (.goto (-63), 3) := by decide +kernel
theorem dX10_fits_68 : decode cX10_fits 68 = .ok (.iconst 0, 1) := by decide +kernel
theorem dX10_fits_69 : decode cX10_fits 69 = .ok (.istore_n 3, 1) := by decide +kernel
theorem dX10_fits_70 : decode cX10_fits 70 = .ok (.iload_n 3, 1) := by decide +kernel
theorem dX10_fits_71 : decode cX10_fits 71 = .ok (.iload_n 2, 1) := by decide +kernel
theorem dX10_fits_72 : decode cX10_fits 72 = .ok (.if_icmp .ge 243, 3) := by decide +kernel
theorem dX10_fits_75 : decode cX10_fits 75 = .ok (.iload_n 3, 1) := by decide +kernel
theorem dX10_fits_76 : decode cX10_fits 76 = .ok (.istore 4, 2) := by decide +kernel
theorem dX10_fits_78 : decode cX10_fits 78 = .ok (.iload 4, 2) := by decide +kernel
theorem dX10_fits_80 : decode cX10_fits 80 = .ok (.iconst 4, 1) := by decide +kernel
theorem dX10_fits_81 : decode cX10_fits 81 = .ok (.if_icmp .ge 23, 3) := by decide +kernel
theorem dX10_fits_84 : decode cX10_fits 84 = .ok (.aload_n 0, 1) := by decide +kernel
theorem dX10_fits_85 : decode cX10_fits 85 = .ok (.getfield 61, 3) := by decide +kernel
theorem dX10_fits_88 : decode cX10_fits 88 = .ok (.iconst 5, 1) := by decide +kernel
theorem dX10_fits_89 : decode cX10_fits 89 = .ok (.iload 4, 2) := by decide +kernel
theorem dX10_fits_91 : decode cX10_fits 91 = .ok (.imul, 1) := by decide +kernel
theorem dX10_fits_92 : decode cX10_fits 92 = .ok (.iload_n 3, 1) := by decide +kernel
theorem dX10_fits_93 : decode cX10_fits 93 = .ok (.iadd, 1) := by decide +kernel
theorem dX10_fits_94 : decode cX10_fits 94 = .ok (.iaload, 1) := by decide +kernel
theorem dX10_fits_95 : decode cX10_fits 95 = .ok (.ifCond .ne 9, 3) := by decide +kernel
theorem dX10_fits_98 : decode cX10_fits 98 = .ok (.iinc 4 1, 3) := by decide +kernel
theorem dX10_fits_101 : decode cX10_fits 101 = .ok (.goto (-23), 3) := by decide +kernel
theorem dX10_fits_104 : decode cX10_fits 104 = .ok (.iload 4, 2) := by decide +kernel
theorem dX10_fits_106 : decode cX10_fits 106 = .ok (.iconst 4, 1) := by decide +kernel
theorem dX10_fits_107 : decode cX10_fits 107 = .ok (.if_icmp .ne 5, 3) := by decide +kernel
theorem dX10_fits_110 : decode cX10_fits 110 = .ok (.iconst 0, 1) := by decide +kernel
theorem dX10_fits_111 : decode cX10_fits 111 = .ok (.ireturn, 1) := by decide +kernel
theorem dX10_fits_112 : decode cX10_fits 112 = .ok (.aload_n 0, 1) := by decide +kernel
theorem dX10_fits_113 : decode cX10_fits 113 = .ok (.iload 4, 2) := by decide +kernel
theorem dX10_fits_115 : decode cX10_fits 115 = .ok (.iload_n 3, 1) := by decide +kernel
theorem dX10_fits_116 : decode cX10_fits 116 = .ok (.invokevirtual 112, 3) := by decide +kernel
theorem dX10_fits_119 : decode cX10_fits 119 = .ok (.aload_n 0, 1) := by decide +kernel
theorem dX10_fits_120 : decode cX10_fits 120 = .ok (.aload_n 0, 1) := by decide +kernel
theorem dX10_fits_121 : decode cX10_fits 121 = .ok (.getfield 61, 3) := by decide +kernel
theorem dX10_fits_124 : decode cX10_fits 124 = .ok (.iconst 5, 1) := by decide +kernel
theorem dX10_fits_125 : decode cX10_fits 125 = .ok (.iload_n 3, 1) := by decide +kernel
theorem dX10_fits_126 : decode cX10_fits 126 = .ok (.imul, 1) := by decide +kernel
theorem dX10_fits_127 : decode cX10_fits 127 = .ok (.iload_n 3, 1) := by decide +kernel
theorem dX10_fits_128 : decode cX10_fits 128 = .ok (.iadd, 1) := by decide +kernel
theorem dX10_fits_129 : decode cX10_fits 129 = .ok (.iaload, 1) := by decide +kernel
theorem dX10_fits_130 : decode cX10_fits 130 = .ok (.invokevirtual 116, 3) := by decide +kernel
theorem dX10_fits_133 : decode cX10_fits 133 = .ok (.istore 5, 2) := by decide +kernel
theorem dX10_fits_135 : decode cX10_fits 135 = .ok (.iconst 0, 1) := by decide +kernel
theorem dX10_fits_136 : decode cX10_fits 136 = .ok (.istore 6, 2) := by decide +kernel
theorem dX10_fits_138 : decode cX10_fits 138 = .ok (.iload 6, 2) := by decide +kernel
theorem dX10_fits_140 : decode cX10_fits 140 = .ok (.iconst 5, 1) := by decide +kernel
theorem dX10_fits_141 : decode cX10_fits 141 = .ok (.if_icmp .ge 53, 3) := by decide +kernel
theorem dX10_fits_144 : decode cX10_fits 144 = .ok (.aload_n 0, 1) := by decide +kernel
theorem dX10_fits_145 : decode cX10_fits 145 = .ok (.getfield 61, 3) := by decide +kernel
theorem dX10_fits_148 : decode cX10_fits 148 = .ok (.iconst 5, 1) := by decide +kernel
theorem dX10_fits_149 : decode cX10_fits 149 = .ok (.iload_n 3, 1) := by decide +kernel
theorem dX10_fits_150 : decode cX10_fits 150 = .ok (.imul, 1) := by decide +kernel
theorem dX10_fits_151 : decode cX10_fits 151 = .ok (.iload 6, 2) := by decide +kernel
theorem dX10_fits_153 : decode cX10_fits 153 = .ok (.iadd, 1) := by decide +kernel
theorem dX10_fits_154 : decode cX10_fits 154 = .ok (.iload 6, 2) := by decide +kernel
theorem dX10_fits_156 : decode cX10_fits 156 = .ok (.iload_n 2, 1) := by decide +kernel
theorem dX10_fits_157 : decode cX10_fits 157 = .ok (.if_icmp .lt 9, 3) := by decide +kernel
theorem dX10_fits_160 : decode cX10_fits 160 = .ok (.iload 6, 2) := by decide +kernel
theorem dX10_fits_162 : decode cX10_fits 162 = .ok (.iconst 4, 1) := by decide +kernel
theorem dX10_fits_163 : decode cX10_fits 163 = .ok (.if_icmp .ne 23, 3) := by decide +kernel
theorem dX10_fits_166 : decode cX10_fits 166 = .ok (.aload_n 0, 1) := by decide +kernel
theorem dX10_fits_167 : decode cX10_fits 167 = .ok (.aload_n 0, 1) := by decide +kernel
theorem dX10_fits_168 : decode cX10_fits 168 = .ok (.getfield 61, 3) := by decide +kernel
theorem dX10_fits_171 : decode cX10_fits 171 = .ok (.iconst 5, 1) := by decide +kernel
theorem dX10_fits_172 : decode cX10_fits 172 = .ok (.iload_n 3, 1) := by decide +kernel
theorem dX10_fits_173 : decode cX10_fits 173 = .ok (.imul, 1) := by decide +kernel
theorem dX10_fits_174 : decode cX10_fits 174 = .ok (.iload 6, 2) := by decide +kernel
theorem dX10_fits_176 : decode cX10_fits 176 = .ok (.iadd, 1) := by decide +kernel
theorem dX10_fits_177 : decode cX10_fits 177 = .ok (.iaload, 1) := by decide +kernel
theorem dX10_fits_178 : decode cX10_fits 178 = .ok (.iload 5, 2) := by decide +kernel
theorem dX10_fits_180 : decode cX10_fits 180 = .ok (.invokevirtual 108, 3) := by decide +kernel
theorem dX10_fits_183 : decode cX10_fits 183 = .ok (.goto 4, 3) := by decide +kernel
theorem dX10_fits_186 : decode cX10_fits 186 = .ok (.iconst 0, 1) := by decide +kernel
theorem dX10_fits_187 : decode cX10_fits 187 = .ok (.iastore, 1) := by decide +kernel
theorem dX10_fits_188 : decode cX10_fits 188 = .ok (.iinc 6 1, 3) := by decide +kernel
theorem dX10_fits_191 : decode cX10_fits 191 = .ok (.goto (-53), 3) := by decide +kernel
theorem dX10_fits_194 : decode cX10_fits 194 = .ok (.iconst 0, 1) := by decide +kernel
theorem dX10_fits_195 : decode cX10_fits 195 = .ok (.istore 6, 2) := by decide +kernel
theorem dX10_fits_197 : decode cX10_fits 197 = .ok (.iload 6, 2) := by decide +kernel
theorem dX10_fits_199 : decode cX10_fits 199 = .ok (.iconst 4, 1) := by decide +kernel
theorem dX10_fits_200 : decode cX10_fits 200 = .ok (.if_icmp .ge 109, 3) := by decide +kernel
theorem dX10_fits_203 : decode cX10_fits 203 = .ok (.aload_n 0, 1) := by decide +kernel
theorem dX10_fits_204 : decode cX10_fits 204 = .ok (.getfield 61, 3) := by decide +kernel
theorem dX10_fits_207 : decode cX10_fits 207 = .ok (.iconst 5, 1) := by decide +kernel
theorem dX10_fits_208 : decode cX10_fits 208 = .ok (.iload 6, 2) := by decide +kernel
theorem dX10_fits_210 : decode cX10_fits 210 = .ok (.imul, 1) := by decide +kernel
theorem dX10_fits_211 : decode cX10_fits 211 = .ok (.iload_n 3, 1) := by decide +kernel
theorem dX10_fits_212 : decode cX10_fits 212 = .ok (.iadd, 1) := by decide +kernel
theorem dX10_fits_213 : decode cX10_fits 213 = .ok (.iaload, 1) := by decide +kernel
theorem dX10_fits_214 : decode cX10_fits 214 = .ok (.istore 7, 2) := by decide +kernel
theorem dX10_fits_216 : decode cX10_fits 216 = .ok (.iload 6, 2) := by decide +kernel
theorem dX10_fits_218 : decode cX10_fits 218 = .ok (.iload_n 3, 1) := by decide +kernel
theorem dX10_fits_219 : decode cX10_fits 219 = .ok (.if_icmp .eq 84, 3) := by decide +kernel
theorem dX10_fits_222 : decode cX10_fits 222 = .ok (.iload 7, 2) := by decide +kernel
theorem dX10_fits_224 : decode cX10_fits 224 = .ok (.ifCond .ne 6, 3) := by decide +kernel
theorem dX10_fits_227 : decode cX10_fits 227 = .ok (.goto 76, 3) := by decide +kernel
theorem dX10_fits_230 : decode cX10_fits 230 = .ok (.iconst 0, 1) := by decide +kernel
theorem dX10_fits_231 : decode cX10_fits 231 = .ok (.istore 8, 2) := by decide +kernel
theorem dX10_fits_233 : decode cX10_fits 233 = .ok (.iload 8, 2) := by decide +kernel
theorem dX10_fits_235 : decode cX10_fits 235 = .ok (.iconst 5, 1) := by decide +kernel
theorem dX10_fits_236 : decode cX10_fits 236 = .ok (.if_icmp .ge 67, 3) := by decide +kernel
theorem dX10_fits_239 : decode cX10_fits 239 = .ok (.aload_n 0, 1) := by decide +kernel
theorem dX10_fits_240 : decode cX10_fits 240 = .ok (.getfield 61, 3) := by decide +kernel
theorem dX10_fits_243 : decode cX10_fits 243 = .ok (.iconst 5, 1) := by decide +kernel
theorem dX10_fits_244 : decode cX10_fits 244 = .ok (.iload 6, 2) := by decide +kernel
theorem dX10_fits_246 : decode cX10_fits 246 = .ok (.imul, 1) := by decide +kernel
theorem dX10_fits_247 : decode cX10_fits 247 = .ok (.iload 8, 2) := by decide +kernel
theorem dX10_fits_249 : decode cX10_fits 249 = .ok (.iadd, 1) := by decide +kernel
theorem dX10_fits_250 : decode cX10_fits 250 = .ok (.aload_n 0, 1) := by decide +kernel
theorem dX10_fits_251 : decode cX10_fits 251 = .ok (.getfield 61, 3) := by decide +kernel
theorem dX10_fits_254 : decode cX10_fits 254 = .ok (.iconst 5, 1) := by decide +kernel
theorem dX10_fits_255 : decode cX10_fits 255 = .ok (.iload 6, 2) := by decide +kernel
theorem dX10_fits_257 : decode cX10_fits 257 = .ok (.imul, 1) := by decide +kernel
theorem dX10_fits_258 : decode cX10_fits 258 = .ok (.iload 8, 2) := by decide +kernel
theorem dX10_fits_260 : decode cX10_fits 260 = .ok (.iadd, 1) := by decide +kernel
theorem dX10_fits_261 : decode cX10_fits 261 = .ok (.iaload, 1) := by decide +kernel
theorem dX10_fits_262 : decode cX10_fits 262 = .ok (.iload 8, 2) := by decide +kernel
theorem dX10_fits_264 : decode cX10_fits 264 = .ok (.iload_n 2, 1) := by decide +kernel
theorem dX10_fits_265 : decode cX10_fits 265 = .ok (.if_icmp .lt 9, 3) := by decide +kernel
theorem dX10_fits_268 : decode cX10_fits 268 = .ok (.iload 8, 2) := by decide +kernel
theorem dX10_fits_270 : decode cX10_fits 270 = .ok (.iconst 4, 1) := by decide +kernel
theorem dX10_fits_271 : decode cX10_fits 271 = .ok (.if_icmp .ne 23, 3) := by decide +kernel
theorem dX10_fits_274 : decode cX10_fits 274 = .ok (.aload_n 0, 1) := by decide +kernel
theorem dX10_fits_275 : decode cX10_fits 275 = .ok (.aload_n 0, 1) := by decide +kernel
theorem dX10_fits_276 : decode cX10_fits 276 = .ok (.getfield 61, 3) := by decide +kernel
theorem dX10_fits_279 : decode cX10_fits 279 = .ok (.iconst 5, 1) := by decide +kernel
theorem dX10_fits_280 : decode cX10_fits 280 = .ok (.iload_n 3, 1) := by decide +kernel
theorem dX10_fits_281 : decode cX10_fits 281 = .ok (.imul, 1) := by decide +kernel
theorem dX10_fits_282 : decode cX10_fits 282 = .ok (.iload 8, 2) := by decide +kernel
theorem dX10_fits_284 : decode cX10_fits 284 = .ok (.iadd, 1) := by decide +kernel
theorem dX10_fits_285 : decode cX10_fits 285 = .ok (.iaload, 1) := by decide +kernel
theorem dX10_fits_286 : decode cX10_fits 286 = .ok (.iload 7, 2) := by decide +kernel
theorem dX10_fits_288 : decode cX10_fits 288 = .ok (.invokevirtual 108, 3) := by decide +kernel
theorem dX10_fits_291 : decode cX10_fits 291 = .ok (.goto 4, 3) := by decide +kernel
theorem dX10_fits_294 : decode cX10_fits 294 = .ok (.iconst 0, 1) := by decide +kernel
theorem dX10_fits_295 : decode cX10_fits 295 = .ok (.ixor, 1) := by decide +kernel
theorem dX10_fits_296 : decode cX10_fits 296 = .ok (.iastore, 1) := by decide +kernel
theorem dX10_fits_297 : decode cX10_fits 297 = .ok (.iinc 8 1, 3) := by decide +kernel
theorem dX10_fits_300 : decode cX10_fits 300 = .ok (.goto (-67), 3) := by decide +kernel
theorem dX10_fits_303 : decode cX10_fits 303 = .ok (.iinc 6 1, 3) := by decide +kernel
theorem dX10_fits_306 : decode cX10_fits 306 = .ok (.goto (-109), 3) := by decide +kernel
theorem dX10_fits_309 : decode cX10_fits 309 = .ok (.iinc 3 1, 3) := by decide +kernel
theorem dX10_fits_312 : decode cX10_fits 312 = .ok (.goto (-242), 3) := by decide +kernel
theorem dX10_fits_315 : decode cX10_fits 315 = .ok (.iconst 1, 1) := by decide +kernel
theorem dX10_fits_316 : decode cX10_fits 316 = .ok (.istore_n 3, 1) := by decide +kernel
theorem dX10_fits_317 : decode cX10_fits 317 = .ok (.iload_n 2, 1) := by decide +kernel
theorem dX10_fits_318 : decode cX10_fits 318 = .ok (.istore 4, 2) := by decide +kernel
theorem dX10_fits_320 : decode cX10_fits 320 = .ok (.iload 4, 2) := by decide +kernel
theorem dX10_fits_322 : decode cX10_fits 322 = .ok (.iconst 4, 1) := by decide +kernel
theorem dX10_fits_323 : decode cX10_fits 323 = .ok (.if_icmp .ge 33, 3) := by decide +kernel
theorem dX10_fits_326 : decode cX10_fits 326 = .ok (.iload_n 3, 1) := by decide +kernel
theorem dX10_fits_327 : decode cX10_fits 327 = .ok (.ifCond .eq 21, 3) := by decide +kernel
theorem dX10_fits_330 : decode cX10_fits 330 = .ok (.aload_n 0, 1) := by decide +kernel
theorem dX10_fits_331 : decode cX10_fits 331 = .ok (.getfield 61, 3) := by decide +kernel
theorem dX10_fits_334 : decode cX10_fits 334 = .ok (.iconst 5, 1) := by decide +kernel
theorem dX10_fits_335 : decode cX10_fits 335 = .ok (.iload 4, 2) := by decide +kernel
theorem dX10_fits_337 : decode cX10_fits 337 = .ok (.imul, 1) := by decide +kernel
theorem dX10_fits_338 : decode cX10_fits 338 = .ok (.iconst 4, 1) := by decide +kernel
theorem dX10_fits_339 : decode cX10_fits 339 = .ok (.iadd, 1) := by decide +kernel
theorem dX10_fits_340 : decode cX10_fits 340 = .ok (.iaload, 1) := by decide +kernel
theorem dX10_fits_341 : decode cX10_fits 341 = .ok (.ifCond .ne 7, 3) := by decide +kernel
theorem dX10_fits_344 : decode cX10_fits 344 = .ok (.iconst 1, 1) := by decide +kernel
theorem dX10_fits_345 : decode cX10_fits 345 = .ok (.goto 4, 3) := by decide +kernel
theorem dX10_fits_348 : decode cX10_fits 348 = .ok (.iconst 0, 1) := by decide +kernel
theorem dX10_fits_349 : decode cX10_fits 349 = .ok (.istore_n 3, 1) := by decide +kernel
theorem dX10_fits_350 : decode cX10_fits 350 = .ok (.iinc 4 1, 3) := by decide +kernel
theorem dX10_fits_353 : decode cX10_fits 353 = .ok (.goto (-33), 3) := by decide +kernel
theorem dX10_fits_356 : decode cX10_fits 356 = .ok (.iconst 0, 1) := by decide +kernel
theorem dX10_fits_357 : decode cX10_fits 357 = .ok (.istore 4, 2) := by decide +kernel
theorem dX10_fits_359 : decode cX10_fits 359 = .ok (.iload 4, 2) := by decide +kernel
theorem dX10_fits_361 : decode cX10_fits 361 = .ok (.iload_n 2, 1) := by decide +kernel
theorem dX10_fits_362 : decode cX10_fits 362 = .ok (.if_icmp .ge 27, 3) := by decide +kernel
theorem dX10_fits_365 : decode cX10_fits 365 = .ok (.aload_n 0, 1) := by decide +kernel
theorem dX10_fits_366 : decode cX10_fits 366 = .ok (.getfield 58, 3) := by decide +kernel
theorem dX10_fits_369 : decode cX10_fits 369 = .ok (.iload 4, 2) := by decide +kernel
theorem dX10_fits_371 : decode cX10_fits 371 = .ok (.aload_n 0, 1) := by decide +kernel
theorem dX10_fits_372 : decode cX10_fits 372 = .ok (.getfield 61, 3) := by decide +kernel
theorem dX10_fits_375 : decode cX10_fits 375 = .ok (.iconst 5, 1) := by decide +kernel
theorem dX10_fits_376 : decode cX10_fits 376 = .ok (.iload 4, 2) := by decide +kernel
theorem dX10_fits_378 : decode cX10_fits 378 = .ok (.imul, 1) := by decide +kernel
theorem dX10_fits_379 : decode cX10_fits 379 = .ok (.iconst 4, 1) := by decide +kernel
theorem dX10_fits_380 : decode cX10_fits 380 = .ok (.iadd, 1) := by decide +kernel
theorem dX10_fits_381 : decode cX10_fits 381 = .ok (.iaload, 1) := by decide +kernel
theorem dX10_fits_382 : decode cX10_fits 382 = .ok (.iastore, 1) := by decide +kernel
theorem dX10_fits_383 : decode cX10_fits 383 = .ok (.iinc 4 1, 3) := by decide +kernel
theorem dX10_fits_386 : decode cX10_fits 386 = .ok (.goto (-27), 3) := by decide +kernel
theorem dX10_fits_389 : decode cX10_fits 389 = .ok (.iload_n 3, 1) := by decide +kernel
theorem dX10_fits_390 : decode cX10_fits 390 = .ok (.ireturn, 1) := by decide +kernel
theorem dX10_changed_0 : decode cX10_changed 0 = .ok (.iconst 0, 1) := by decide +kernel
theorem dX10_changed_1 : decode cX10_changed 1 = .ok (.istore_n 2, 1) := by decide +kernel
theorem dX10_changed_2 : decode cX10_changed 2 = .ok (.iload_n 2, 1) := by decide +kernel
theorem dX10_changed_3 : decode cX10_changed 3 = .ok (.iload_n 1, 1) := by decide +kernel
theorem dX10_changed_4 : decode cX10_changed 4 = .ok (.if_icmp .ge 38, 3) := by decide +kernel
theorem dX10_changed_7 : decode cX10_changed 7 = .ok (.aload_n 0, 1) := by decide +kernel
theorem dX10_changed_8 : decode cX10_changed 8 = .ok (.getfield 45, 3) := by decide +kernel
theorem dX10_changed_11 : decode cX10_changed 11 = .ok (.aload_n 0, 1) := by decide +kernel
theorem dX10_changed_12 : decode cX10_changed 12 = .ok (.getfield 55, 3) := by decide +kernel
theorem dX10_changed_15 : decode cX10_changed 15 = .ok (.iload_n 2, 1) := by decide +kernel
theorem dX10_changed_16 : decode cX10_changed 16 = .ok (.iaload, 1) := by decide +kernel
theorem dX10_changed_17 : decode cX10_changed 17 = .ok (.aload_n 0, 1) := by decide +kernel
theorem dX10_changed_18 : decode cX10_changed 18 = .ok (.getfield 45, 3) := by decide +kernel
theorem dX10_changed_21 : decode cX10_changed 21 = .ok (.aload_n 0, 1) := by decide +kernel
theorem dX10_changed_22 : decode cX10_changed 22 = .ok (.getfield 55, 3) := by decide +kernel
theorem dX10_changed_25 : decode cX10_changed 25 = .ok (.iload_n 2, 1) := by decide +kernel
theorem dX10_changed_26 : decode cX10_changed 26 = .ok (.iaload, 1) := by decide +kernel
theorem dX10_changed_27 : decode cX10_changed 27 = .ok (.iaload, 1) := by decide +kernel
theorem dX10_changed_28 : decode cX10_changed 28 = .ok (.aload_n 0, 1) := by decide +kernel
theorem dX10_changed_29 : decode cX10_changed 29 = .ok (.getfield 58, 3) := by decide +kernel
theorem dX10_changed_32 : decode cX10_changed 32 = .ok (.iload_n 2, 1) := by decide +kernel
theorem dX10_changed_33 : decode cX10_changed 33 = .ok (.iaload, 1) := by decide +kernel
theorem dX10_changed_34 : decode cX10_changed 34 = .ok (.ixor, 1) := by decide +kernel
theorem dX10_changed_35 : decode cX10_changed 35 = .ok (.iastore, 1) := by decide +kernel
theorem dX10_changed_36 : decode cX10_changed 36 = .ok (.iinc 2 1, 3) := by decide +kernel
theorem dX10_changed_39 : decode cX10_changed 39 = .ok (.goto (-37), 3) := by decide +kernel
theorem dX10_changed_42 : decode cX10_changed 42 = .ok (.iload_n 1, 1) := by decide +kernel
theorem dX10_changed_43 : decode cX10_changed 43 = .ok (.ireturn, 1) := by decide +kernel
theorem dX10_findTwo_0 : decode cX10_findTwo 0 = .ok (.aload_n 0, 1) := by decide +kernel
theorem dX10_findTwo_1 : decode cX10_findTwo 1 = .ok (.getfield 52, 3) := by decide +kernel
theorem dX10_findTwo_4 : decode cX10_findTwo 4 = .ok (.iconst 0, 1) := by decide +kernel
theorem dX10_findTwo_5 : decode cX10_findTwo 5 = .ok (.iaload, 1) := by decide +kernel
theorem dX10_findTwo_6 : decode cX10_findTwo 6 = .ok (.istore_n 2, 1) := by decide +kernel
theorem dX10_findTwo_7 : decode cX10_findTwo 7 = .ok (.aload_n 0, 1) := by decide +kernel
theorem dX10_findTwo_8 : decode cX10_findTwo 8 = .ok (.getfield 52, 3) := by decide +kernel
theorem dX10_findTwo_11 : decode cX10_findTwo 11 = .ok (.iconst 1, 1) := by decide +kernel
theorem dX10_findTwo_12 : decode cX10_findTwo 12 = .ok (.iaload, 1) := by decide +kernel
theorem dX10_findTwo_13 : decode cX10_findTwo 13 = .ok (.istore_n 3, 1) := by decide +kernel
theorem dX10_findTwo_14 : decode cX10_findTwo 14 = .ok (.aload_n 0, 1) := by decide +kernel
theorem dX10_findTwo_15 : decode cX10_findTwo 15 = .ok (.getfield 52, 3) := by decide +kernel
theorem dX10_findTwo_18 : decode cX10_findTwo 18 = .ok (.iconst 2, 1) := by decide +kernel
theorem dX10_findTwo_19 : decode cX10_findTwo 19 = .ok (.iaload, 1) := by decide +kernel
theorem dX10_findTwo_20 : decode cX10_findTwo 20 = .ok (.istore 4, 2) := by decide +kernel
theorem dX10_findTwo_22 : decode cX10_findTwo 22 = .ok (.aload_n 0, 1) := by decide +kernel
theorem dX10_findTwo_23 : decode cX10_findTwo 23 = .ok (.getfield 52, 3) := by decide +kernel
theorem dX10_findTwo_26 : decode cX10_findTwo 26 = .ok (.iconst 3, 1) := by decide +kernel
theorem dX10_findTwo_27 : decode cX10_findTwo 27 = .ok (.iaload, 1) := by decide +kernel
theorem dX10_findTwo_28 : decode cX10_findTwo 28 = .ok (.istore 5, 2) := by decide +kernel
theorem dX10_findTwo_30 : decode cX10_findTwo 30 = .ok (.aload_n 0, 1) := by decide +kernel
theorem dX10_findTwo_31 : decode cX10_findTwo 31 = .ok (.iload_n 3, 1) := by decide +kernel
theorem dX10_findTwo_32 : decode cX10_findTwo 32 = .ok (.iload_n 3, 1) := by decide +kernel
theorem dX10_findTwo_33 : decode cX10_findTwo 33 = .ok (.invokevirtual 108, 3) := by decide +kernel
theorem dX10_findTwo_36 : decode cX10_findTwo 36 = .ok (.aload_n 0, 1) := by decide +kernel
theorem dX10_findTwo_37 : decode cX10_findTwo 37 = .ok (.iload_n 2, 1) := by decide +kernel
theorem dX10_findTwo_38 : decode cX10_findTwo 38 = .ok (.iload 4, 2) := by decide +kernel
theorem dX10_findTwo_40 : decode cX10_findTwo 40 = .ok (.invokevirtual 108, 3) := by decide +kernel
theorem dX10_findTwo_43 : decode cX10_findTwo 43 = .ok (.ixor, 1) := by decide +kernel
theorem dX10_findTwo_44 : decode cX10_findTwo 44 = .ok (.istore 6, 2) := by decide +kernel
theorem dX10_findTwo_46 : decode cX10_findTwo 46 = .ok (.iload 6, 2) := by decide +kernel
theorem dX10_findTwo_48 : decode cX10_findTwo 48 = .ok (.ifCond .ne 5, 3) := by decide +kernel
theorem dX10_findTwo_51 : decode cX10_findTwo 51 = .ok (.iconst 0, 1) := by decide +kernel
theorem dX10_findTwo_52 : decode cX10_findTwo 52 = .ok (.ireturn, 1) := by decide +kernel
theorem dX10_findTwo_53 : decode cX10_findTwo 53 = .ok (.aload_n 0, 1) := by decide +kernel
theorem dX10_findTwo_54 : decode cX10_findTwo 54 = .ok (.iload 6, 2) := by decide +kernel
theorem dX10_findTwo_56 : decode cX10_findTwo 56 = .ok (.invokevirtual 116, 3) := by decide +kernel
theorem dX10_findTwo_59 : decode cX10_findTwo 59 = .ok (.istore 7, 2) := by decide +kernel
theorem dX10_findTwo_61 : decode cX10_findTwo 61 = .ok (.aload_n 0, 1) := by decide +kernel
theorem dX10_findTwo_62 : decode cX10_findTwo 62 = .ok (.aload_n 0, 1) := by decide +kernel
theorem dX10_findTwo_63 : decode cX10_findTwo 63 = .ok (.iload_n 2, 1) := by decide +kernel
theorem dX10_findTwo_64 : decode cX10_findTwo 64 = .ok (.iload 5, 2) := by decide +kernel
theorem dX10_findTwo_66 : decode cX10_findTwo 66 = .ok (.invokevirtual 108, 3) := by decide +kernel
theorem dX10_findTwo_69 : decode cX10_findTwo 69 = .ok (.aload_n 0, 1) := by decide +kernel
theorem dX10_findTwo_70 : decode cX10_findTwo 70 = .ok (.iload_n 3, 1) := by decide +kernel
theorem dX10_findTwo_71 : decode cX10_findTwo 71 = .ok (.iload 4, 2) := by decide +kernel
theorem dX10_findTwo_73 : decode cX10_findTwo 73 = .ok (.invokevirtual 108, 3) := by decide +kernel
theorem dX10_findTwo_76 : decode cX10_findTwo 76 = .ok (.ixor, 1) := by decide +kernel
theorem dX10_findTwo_77 : decode cX10_findTwo 77 = .ok (.iload 7, 2) := by decide +kernel
theorem dX10_findTwo_79 : decode cX10_findTwo 79 = .ok (.invokevirtual 108, 3) := by decide +kernel
theorem dX10_findTwo_82 : decode cX10_findTwo 82 = .ok (.istore 8, 2) := by decide +kernel
theorem dX10_findTwo_84 : decode cX10_findTwo 84 = .ok (.aload_n 0, 1) := by decide +kernel
theorem dX10_findTwo_85 : decode cX10_findTwo 85 = .ok (.aload_n 0, 1) := by decide +kernel
theorem dX10_findTwo_86 : decode cX10_findTwo 86 = .ok (.iload_n 3, 1) := by decide +kernel
theorem dX10_findTwo_87 : decode cX10_findTwo 87 = .ok (.iload 5, 2) := by decide +kernel
theorem dX10_findTwo_89 : decode cX10_findTwo 89 = .ok (.invokevirtual 108, 3) := by decide +kernel
theorem dX10_findTwo_92 : decode cX10_findTwo 92 = .ok (.aload_n 0, 1) := by decide +kernel
theorem dX10_findTwo_93 : decode cX10_findTwo 93 = .ok (.iload 4, 2) := by decide +kernel
theorem dX10_findTwo_95 : decode cX10_findTwo 95 = .ok (.iload 4, 2) := by decide +kernel
theorem dX10_findTwo_97 : decode cX10_findTwo 97 = .ok (.invokevirtual 108, 3) := by decide +kernel
theorem dX10_findTwo_100 : decode cX10_findTwo 100 = .ok (.ixor, 1) := by decide +kernel
theorem dX10_findTwo_101 : decode cX10_findTwo 101 = .ok (.iload 7, 2) := by decide +kernel
theorem dX10_findTwo_103 : decode cX10_findTwo 103 = .ok (.invokevirtual 108, 3) := by decide +kernel
theorem dX10_findTwo_106 : decode cX10_findTwo 106 = .ok (.istore 9, 2) := by decide +kernel
theorem dX10_findTwo_108 : decode cX10_findTwo 108 = .ok (.iconst 0, 1) := by decide +kernel
theorem dX10_findTwo_109 : decode cX10_findTwo 109 = .ok (.istore 10, 2) := by decide +kernel
theorem dX10_findTwo_111 : decode cX10_findTwo 111 = .ok (.iconst 0, 1) := by decide +kernel
theorem dX10_findTwo_112 : decode cX10_findTwo 112 = .ok (.istore 11, 2) := by decide +kernel
theorem dX10_findTwo_114 : decode cX10_findTwo 114 = .ok (.iload 11, 2) := by decide +kernel
theorem dX10_findTwo_116 : decode cX10_findTwo 116 = .ok (.iload_n 1, 1) := by decide +kernel
theorem dX10_findTwo_117 : decode cX10_findTwo 117 = .ok (.if_icmp .ge 63, 3) := by decide +kernel
theorem dX10_findTwo_120 : decode cX10_findTwo 120 = .ok (.aload_n 0, 1) := by decide +kernel
theorem dX10_findTwo_121 : decode cX10_findTwo 121 = .ok (.iconst 1, 1) := by decide +kernel
theorem dX10_findTwo_122 : decode cX10_findTwo 122 = .ok (.iload_n 1, 1) := by decide +kernel
theorem dX10_findTwo_123 : decode cX10_findTwo 123 = .ok (.iload 11, 2) := by decide +kernel
theorem dX10_findTwo_125 : decode cX10_findTwo 125 = .ok (.invokevirtual 104, 3) := by decide +kernel
theorem dX10_findTwo_128 : decode cX10_findTwo 128 = .ok (.istore 12, 2) := by decide +kernel
theorem dX10_findTwo_130 : decode cX10_findTwo 130 = .ok (.aload_n 0, 1) := by decide +kernel
theorem dX10_findTwo_131 : decode cX10_findTwo 131 = .ok (.iload 12, 2) := by decide +kernel
theorem dX10_findTwo_133 : decode cX10_findTwo 133 = .ok (.iload 12, 2) := by decide +kernel
theorem dX10_findTwo_135 : decode cX10_findTwo 135 = .ok (.invokevirtual 108, 3) := by decide +kernel
theorem dX10_findTwo_138 : decode cX10_findTwo 138 = .ok (.aload_n 0, 1) := by decide +kernel
theorem dX10_findTwo_139 : decode cX10_findTwo 139 = .ok (.iload 8, 2) := by decide +kernel
theorem dX10_findTwo_141 : decode cX10_findTwo 141 = .ok (.iload 12, 2) := by decide +kernel
theorem dX10_findTwo_143 : decode cX10_findTwo 143 = .ok (.invokevirtual 108, 3) := by decide +kernel
theorem dX10_findTwo_146 : decode cX10_findTwo 146 = .ok (.ixor, 1) := by decide +kernel
theorem dX10_findTwo_147 : decode cX10_findTwo 147 = .ok (.iload 9, 2) := by decide +kernel
theorem dX10_findTwo_149 : decode cX10_findTwo 149 = .ok (.ixor, 1) := by decide +kernel
theorem dX10_findTwo_150 : decode cX10_findTwo 150 = .ok (.ifCond .eq 6, 3) := by decide +kernel
theorem dX10_findTwo_153 : decode cX10_findTwo 153 = .ok (.goto 21, 3) := by decide +kernel
theorem dX10_findTwo_156 : decode cX10_findTwo 156 = .ok (.iload 10, 2) := by decide +kernel
theorem dX10_findTwo_158 : decode cX10_findTwo 158 = .ok (.iconst 2, 1) := by decide +kernel
theorem dX10_findTwo_159 : decode cX10_findTwo 159 = .ok (.if_icmp .ge 12, 3) := by decide +kernel
theorem dX10_findTwo_162 : decode cX10_findTwo 162 = .ok (.aload_n 0, 1) := by decide +kernel
theorem dX10_findTwo_163 : decode cX10_findTwo 163 = .ok (.getfield 55, 3) := by decide +kernel
theorem dX10_findTwo_166 : decode cX10_findTwo 166 = .ok (.iload 10, 2) := by decide +kernel
theorem dX10_findTwo_168 : decode cX10_findTwo 168 = .ok (.iload 11, 2) := by decide +kernel
theorem dX10_findTwo_170 : decode cX10_findTwo 170 = .ok (.iastore, 1) := by decide +kernel
theorem dX10_findTwo_171 : decode cX10_findTwo 171 = .ok (.iinc 10 1, 3) := by decide +kernel
theorem dX10_findTwo_174 : decode cX10_findTwo 174 = .ok (.iinc 11 1, 3) := by decide +kernel
theorem dX10_findTwo_177 : decode cX10_findTwo 177 = .ok (.goto (-63), 3) := by decide +kernel
theorem dX10_findTwo_180 : decode cX10_findTwo 180 = .ok (.iload 10, 2) := by decide +kernel
theorem dX10_findTwo_182 : decode cX10_findTwo 182 = .ok (.iconst 2, 1) := by decide +kernel
theorem dX10_findTwo_183 : decode cX10_findTwo 183 = .ok (.if_icmp .ne 7, 3) := by decide +kernel
theorem dX10_findTwo_186 : decode cX10_findTwo 186 = .ok (.iconst 1, 1) := by decide +kernel
theorem dX10_findTwo_187 : decode cX10_findTwo 187 = .ok (.goto 4, 3) := by decide +kernel
theorem dX10_findTwo_190 : decode cX10_findTwo 190 = .ok (.iconst 0, 1) := by decide +kernel
theorem dX10_findTwo_191 : decode cX10_findTwo 191 = .ok (.ireturn, 1) := by decide +kernel
theorem dX10_mended_0 : decode cX10_mended 0 = .ok (.iconst 0, 1) := by decide +kernel
theorem dX10_mended_1 : decode cX10_mended 1 = .ok (.istore_n 3, 1) := by decide +kernel
theorem dX10_mended_2 : decode cX10_mended 2 = .ok (.iconst 0, 1) := by decide +kernel
theorem dX10_mended_3 : decode cX10_mended 3 = .ok (.istore 4, 2) := by decide +kernel
theorem dX10_mended_5 : decode cX10_mended 5 = .ok (.iload 4, 2) := by decide +kernel
theorem dX10_mended_7 : decode cX10_mended 7 = .ok (.iload_n 1, 1) := by decide +kernel
theorem dX10_mended_8 : decode cX10_mended 8 = .ok (.if_icmp .ge 38, 3) := by decide +kernel
theorem dX10_mended_11 : decode cX10_mended 11 = .ok (.aload_n 0, 1) := by decide +kernel
theorem dX10_mended_12 : decode cX10_mended 12 = .ok (.getfield 48, 3) := by decide +kernel
theorem dX10_mended_15 : decode cX10_mended 15 = .ok (.iload 4, 2) := by decide +kernel
theorem dX10_mended_17 : decode cX10_mended 17 = .ok (.baload, 1) := by decide +kernel
theorem dX10_mended_18 : decode cX10_mended 18 = .ok (.ifCond .ne 6, 3) := by decide +kernel
theorem dX10_mended_21 : decode cX10_mended 21 = .ok (.goto 19, 3) := by decide +kernel
theorem dX10_mended_24 : decode cX10_mended 24 = .ok (.iload_n 3, 1) := by decide +kernel
theorem dX10_mended_25 : decode cX10_mended 25 = .ok (.iconst 4, 1) := by decide +kernel
theorem dX10_mended_26 : decode cX10_mended 26 = .ok (.if_icmp .ge 11, 3) := by decide +kernel
theorem dX10_mended_29 : decode cX10_mended 29 = .ok (.aload_n 0, 1) := by decide +kernel
theorem dX10_mended_30 : decode cX10_mended 30 = .ok (.getfield 55, 3) := by decide +kernel
theorem dX10_mended_33 : decode cX10_mended 33 = .ok (.iload_n 3, 1) := by decide +kernel
theorem dX10_mended_34 : decode cX10_mended 34 = .ok (.iload 4, 2) := by decide +kernel
theorem dX10_mended_36 : decode cX10_mended 36 = .ok (.iastore, 1) := by decide +kernel
theorem dX10_mended_37 : decode cX10_mended 37 = .ok (.iinc 3 1, 3) := by decide +kernel
theorem dX10_mended_40 : decode cX10_mended 40 = .ok (.iinc 4 1, 3) := by decide +kernel
theorem dX10_mended_43 : decode cX10_mended 43 = .ok (.goto (-38), 3) := by decide +kernel
theorem dX10_mended_46 : decode cX10_mended 46 = .ok (.iload_n 3, 1) := by decide +kernel
theorem dX10_mended_47 : decode cX10_mended 47 = .ok (.iconst 4, 1) := by decide +kernel
theorem dX10_mended_48 : decode cX10_mended 48 = .ok (.if_icmp .le 6, 3) := by decide +kernel
theorem dX10_mended_51 : decode cX10_mended 51 = .ok (.bipush (-2), 2) := by decide +kernel
theorem dX10_mended_53 : decode cX10_mended 53 = .ok (.ireturn, 1) := by decide +kernel
theorem dX10_mended_54 : decode cX10_mended 54 = .ok (.aload_n 0, 1) := by decide +kernel
theorem dX10_mended_55 : decode cX10_mended 55 = .ok (.iload_n 1, 1) := by decide +kernel
theorem dX10_mended_56 : decode cX10_mended 56 = .ok (.invokevirtual 120, 3) := by decide +kernel
theorem dX10_mended_59 : decode cX10_mended 59 = .ok (.aload_n 0, 1) := by decide +kernel
theorem dX10_mended_60 : decode cX10_mended 60 = .ok (.iload_n 1, 1) := by decide +kernel
theorem dX10_mended_61 : decode cX10_mended 61 = .ok (.iload_n 3, 1) := by decide +kernel
theorem dX10_mended_62 : decode cX10_mended 62 = .ok (.invokevirtual 124, 3) := by decide +kernel
theorem dX10_mended_65 : decode cX10_mended 65 = .ok (.ifCond .eq 9, 3) := by decide +kernel
theorem dX10_mended_68 : decode cX10_mended 68 = .ok (.aload_n 0, 1) := by decide +kernel
theorem dX10_mended_69 : decode cX10_mended 69 = .ok (.iload_n 3, 1) := by decide +kernel
theorem dX10_mended_70 : decode cX10_mended 70 = .ok (.invokevirtual 128, 3) := by decide +kernel
theorem dX10_mended_73 : decode cX10_mended 73 = .ok (.ireturn, 1) := by decide +kernel
theorem dX10_mended_74 : decode cX10_mended 74 = .ok (.iconst 0, 1) := by decide +kernel
theorem dX10_mended_75 : decode cX10_mended 75 = .ok (.istore 4, 2) := by decide +kernel
theorem dX10_mended_77 : decode cX10_mended 77 = .ok (.iload 4, 2) := by decide +kernel
theorem dX10_mended_79 : decode cX10_mended 79 = .ok (.iload_n 1, 1) := by decide +kernel
theorem dX10_mended_80 : decode cX10_mended 80 = .ok (.if_icmp .ge 58, 3) := by decide +kernel
theorem dX10_mended_83 : decode cX10_mended 83 = .ok (.iload_n 2, 1) := by decide +kernel
theorem dX10_mended_84 : decode cX10_mended 84 = .ok (.ifCond .le 54, 3) := by decide +kernel
theorem dX10_mended_87 : decode cX10_mended 87 = .ok (.iload_n 3, 1) := by decide +kernel
theorem dX10_mended_88 : decode cX10_mended 88 = .ok (.iconst 3, 1) := by decide +kernel
theorem dX10_mended_89 : decode cX10_mended 89 = .ok (.if_icmp .ge 49, 3) := by decide +kernel
theorem dX10_mended_92 : decode cX10_mended 92 = .ok (.aload_n 0, 1) := by decide +kernel
theorem dX10_mended_93 : decode cX10_mended 93 = .ok (.getfield 48, 3) := by decide +kernel
theorem dX10_mended_96 : decode cX10_mended 96 = .ok (.iload 4, 2) := by decide +kernel
theorem dX10_mended_98 : decode cX10_mended 98 = .ok (.baload, 1) := by decide +kernel
theorem dX10_mended_99 : decode cX10_mended 99 = .ok (.ifCond .eq 6, 3) := by decide +kernel
theorem dX10_mended_102 : decode cX10_mended 102 = .ok (.goto 30, 3) := by decide +kernel
theorem dX10_mended_105 : decode cX10_mended 105 = .ok (.aload_n 0, 1) := by decide +kernel
theorem dX10_mended_106 : decode cX10_mended 106 = .ok (.getfield 55, 3) := by decide +kernel
theorem dX10_mended_109 : decode cX10_mended 109 = .ok (.iload_n 3, 1) := by decide +kernel
theorem dX10_mended_110 : decode cX10_mended 110 = .ok (.iload 4, 2) := by decide +kernel
theorem dX10_mended_112 : decode cX10_mended 112 = .ok (.iastore, 1) := by decide +kernel
theorem dX10_mended_113 : decode cX10_mended 113 = .ok (.aload_n 0, 1) := by decide +kernel
theorem dX10_mended_114 : decode cX10_mended 114 = .ok (.iload_n 1, 1) := by decide +kernel
theorem dX10_mended_115 : decode cX10_mended 115 = .ok (.iload_n 3, 1) := by decide +kernel
theorem dX10_mended_116 : decode cX10_mended 116 = .ok (.iconst 1, 1) := by decide +kernel
theorem dX10_mended_117 : decode cX10_mended 117 = .ok (.iadd, 1) := by decide +kernel
theorem dX10_mended_118 : decode cX10_mended 118 = .ok (.invokevirtual 124, 3) := by decide +kernel
theorem dX10_mended_121 : decode cX10_mended 121 = .ok (.ifCond .eq 11, 3) := by decide +kernel
theorem dX10_mended_124 : decode cX10_mended 124 = .ok (.aload_n 0, 1) := by decide +kernel
theorem dX10_mended_125 : decode cX10_mended 125 = .ok (.iload_n 3, 1) := by decide +kernel
theorem dX10_mended_126 : decode cX10_mended 126 = .ok (.iconst 1, 1) := by decide +kernel
theorem dX10_mended_127 : decode cX10_mended 127 = .ok (.iadd, 1) := by decide +kernel
theorem dX10_mended_128 : decode cX10_mended 128 = .ok (.invokevirtual 128, 3) := by decide +kernel
theorem dX10_mended_131 : decode cX10_mended 131 = .ok (.ireturn, 1) := by decide +kernel
theorem dX10_mended_132 : decode cX10_mended 132 = .ok (.iinc 4 1, 3) := by decide +kernel
theorem dX10_mended_135 : decode cX10_mended 135 = .ok (.goto (-58), 3) := by decide +kernel
theorem dX10_mended_138 : decode cX10_mended 138 = .ok (.iload_n 2, 1) := by decide +kernel
theorem dX10_mended_139 : decode cX10_mended 139 = .ok (.iconst 1, 1) := by decide +kernel
theorem dX10_mended_140 : decode cX10_mended 140 = .ok (.if_icmp .le 32, 3) := by decide +kernel
theorem dX10_mended_143 : decode cX10_mended 143 = .ok (.iload_n 3, 1) := by decide +kernel
theorem dX10_mended_144 : decode cX10_mended 144 = .ok (.ifCond .ne 28, 3) := by decide +kernel
theorem dX10_mended_147 : decode cX10_mended 147 = .ok (.aload_n 0, 1) := by decide +kernel
theorem dX10_mended_148 : decode cX10_mended 148 = .ok (.iload_n 1, 1) := by decide +kernel
theorem dX10_mended_149 : decode cX10_mended 149 = .ok (.invokevirtual 131, 3) := by decide +kernel
theorem dX10_mended_152 : decode cX10_mended 152 = .ok (.ifCond .eq 20, 3) := by decide +kernel
theorem dX10_mended_155 : decode cX10_mended 155 = .ok (.aload_n 0, 1) := by decide +kernel
theorem dX10_mended_156 : decode cX10_mended 156 = .ok (.iload_n 1, 1) := by decide +kernel
theorem dX10_mended_157 : decode cX10_mended 157 = .ok (.iconst 2, 1) := by decide +kernel
theorem dX10_mended_158 : decode cX10_mended 158 = .ok (.invokevirtual 124, 3) := by decide +kernel
theorem dX10_mended_161 : decode cX10_mended 161 = .ok (.ifCond .eq 11, 3) := by decide +kernel
theorem dX10_mended_164 : decode cX10_mended 164 = .ok (.aload_n 0, 1) := by decide +kernel
theorem dX10_mended_165 : decode cX10_mended 165 = .ok (.iconst 2, 1) := by decide +kernel
theorem dX10_mended_166 : decode cX10_mended 166 = .ok (.invokevirtual 128, 3) := by decide +kernel
theorem dX10_mended_169 : decode cX10_mended 169 = .ok (.goto 5, 3) := by decide +kernel
theorem dX10_mended_172 : decode cX10_mended 172 = .ok (.bipush (-2), 2) := by decide +kernel
theorem dX10_mended_174 : decode cX10_mended 174 = .ok (.ireturn, 1) := by decide +kernel
theorem dX10_isCheck_0 : decode cX10_isCheck 0 = .ok (.iload_n 0, 1) := by decide +kernel
theorem dX10_isCheck_1 : decode cX10_isCheck 1 = .ok (.ifCond .eq 17, 3) := by decide +kernel
theorem dX10_isCheck_4 : decode cX10_isCheck 4 = .ok (.iload_n 1, 1) := by decide +kernel
theorem dX10_isCheck_5 : decode cX10_isCheck 5 = .ok (.bipush 27, 2) := by decide +kernel
theorem dX10_isCheck_7 : decode cX10_isCheck 7 = .ok (.if_icmp .le 7, 3) := by decide +kernel
theorem dX10_isCheck_10 : decode cX10_isCheck 10 = .ok (.iconst 1, 1) := by decide +kernel
theorem dX10_isCheck_11 : decode cX10_isCheck 11 = .ok (.goto 24, 3) := by decide +kernel
theorem dX10_isCheck_14 : decode cX10_isCheck 14 = .ok (.iconst 0, 1) := by decide +kernel
theorem dX10_isCheck_15 : decode cX10_isCheck 15 = .ok (.goto 20, 3) := by decide +kernel
theorem dX10_isCheck_18 : decode cX10_isCheck 18 = .ok (.iload_n 1, 1) := by decide +kernel
theorem dX10_isCheck_19 : decode cX10_isCheck 19 = .ok (.bipush 11, 2) := by decide +kernel
theorem dX10_isCheck_21 : decode cX10_isCheck 21 = .ok (.if_icmp .le 13, 3) := by decide +kernel
theorem dX10_isCheck_24 : decode cX10_isCheck 24 = .ok (.iload_n 1, 1) := by decide +kernel
theorem dX10_isCheck_25 : decode cX10_isCheck 25 = .ok (.bipush 16, 2) := by decide +kernel
theorem dX10_isCheck_27 : decode cX10_isCheck 27 = .ok (.if_icmp .ge 7, 3) := by decide +kernel
theorem dX10_isCheck_30 : decode cX10_isCheck 30 = .ok (.iconst 1, 1) := by decide +kernel
theorem dX10_isCheck_31 : decode cX10_isCheck 31 = .ok (.goto 4, 3) := by decide +kernel
theorem dX10_isCheck_34 : decode cX10_isCheck 34 = .ok (.iconst 0, 1) := by decide +kernel
theorem dX10_isCheck_35 : decode cX10_isCheck 35 = .ok (.ireturn, 1) := by decide +kernel
theorem dX10_check_0 : decode cX10_check 0 = .ok (.iload_n 1, 1) := by decide +kernel
theorem dX10_check_1 : decode cX10_check 1 = .ok (.ifCond .eq 8, 3) := by decide +kernel
theorem dX10_check_4 : decode cX10_check 4 = .ok (.bipush 32, 2) := by decide +kernel
theorem dX10_check_6 : decode cX10_check 6 = .ok (.goto 5, 3) := by decide +kernel
theorem dX10_check_9 : decode cX10_check 9 = .ok (.bipush 28, 2) := by decide +kernel
theorem dX10_check_11 : decode cX10_check 11 = .ok (.istore_n 2, 1) := by decide +kernel
theorem dX10_check_12 : decode cX10_check 12 = .ok (.iconst 0, 1) := by decide +kernel
theorem dX10_check_13 : decode cX10_check 13 = .ok (.istore_n 3, 1) := by decide +kernel
theorem dX10_check_14 : decode cX10_check 14 = .ok (.iload_n 3, 1) := by decide +kernel
theorem dX10_check_15 : decode cX10_check 15 = .ok (.iload_n 2, 1) := by decide +kernel
theorem dX10_check_16 : decode cX10_check 16 = .ok (.if_icmp .ge 45, 3) := by decide +kernel
theorem dX10_check_19 : decode cX10_check 19 = .ok (.aload_n 0, 1) := by decide +kernel
theorem dX10_check_20 : decode cX10_check 20 = .ok (.getfield 48, 3) := by decide +kernel
theorem dX10_check_23 : decode cX10_check 23 = .ok (.iload_n 3, 1) := by decide +kernel
theorem dX10_check_24 : decode cX10_check 24 = .ok (.iload_n 1, 1) := by decide +kernel
theorem dX10_check_25 : decode cX10_check 25 = .ok (.iload_n 3, 1) := by decide +kernel
theorem dX10_check_26 : decode cX10_check 26 = .ok (.invokestatic 135, 3) := by decide +kernel
theorem dX10_check_29 : decode cX10_check 29 = .ok (.bastore, 1) := by decide +kernel
theorem dX10_check_30 : decode cX10_check 30 = .ok (.aload_n 0, 1) := by decide +kernel
theorem dX10_check_31 : decode cX10_check 31 = .ok (.getfield 45, 3) := by decide +kernel
theorem dX10_check_34 : decode cX10_check 34 = .ok (.iload_n 3, 1) := by decide +kernel
theorem dX10_check_35 : decode cX10_check 35 = .ok (.aload_n 0, 1) := by decide +kernel
theorem dX10_check_36 : decode cX10_check 36 = .ok (.getfield 48, 3) := by decide +kernel
theorem dX10_check_39 : decode cX10_check 39 = .ok (.iload_n 3, 1) := by decide +kernel
theorem dX10_check_40 : decode cX10_check 40 = .ok (.baload, 1) := by decide +kernel
theorem dX10_check_41 : decode cX10_check 41 = .ok (.ifCond .eq 7, 3) := by decide +kernel
theorem dX10_check_44 : decode cX10_check 44 = .ok (.iconst 0, 1) := by decide +kernel
theorem dX10_check_45 : decode cX10_check 45 = .ok (.goto 9, 3) := by decide +kernel
theorem dX10_check_48 : decode cX10_check 48 = .ok (.aload_n 0, 1) := by decide +kernel
theorem dX10_check_49 : decode cX10_check 49 = .ok (.getfield 45, 3) := by decide +kernel
theorem dX10_check_52 : decode cX10_check 52 = .ok (.iload_n 3, 1) := by decide +kernel
theorem dX10_check_53 : decode cX10_check 53 = .ok (.iaload, 1) := by decide +kernel
theorem dX10_check_54 : decode cX10_check 54 = .ok (.iastore, 1) := by decide +kernel
theorem dX10_check_55 : decode cX10_check 55 = .ok (.iinc 3 1, 3) := by decide +kernel
theorem dX10_check_58 : decode cX10_check 58 = .ok (.goto (-44), 3) := by decide +kernel
theorem dX10_check_61 : decode cX10_check 61 = .ok (.aload_n 0, 1) := by decide +kernel
theorem dX10_check_62 : decode cX10_check 62 = .ok (.iload_n 2, 1) := by decide +kernel
theorem dX10_check_63 : decode cX10_check 63 = .ok (.iconst 0, 1) := by decide +kernel
theorem dX10_check_64 : decode cX10_check 64 = .ok (.invokevirtual 139, 3) := by decide +kernel
theorem dX10_check_67 : decode cX10_check 67 = .ok (.istore_n 3, 1) := by decide +kernel
theorem dX10_check_68 : decode cX10_check 68 = .ok (.return_, 1) := by decide +kernel
theorem dX10_feed_0 : decode cX10_feed 0 = .ok (.aload_n 0, 1) := by decide +kernel
theorem dX10_feed_1 : decode cX10_feed 1 = .ok (.iconst 0, 1) := by decide +kernel
theorem dX10_feed_2 : decode cX10_feed 2 = .ok (.putfield 100, 3) := by decide +kernel
theorem dX10_feed_5 : decode cX10_feed 5 = .ok (.iload_n 3, 1) := by decide +kernel
theorem dX10_feed_6 : decode cX10_feed 6 = .ok (.i2l, 1) := by decide +kernel
theorem dX10_feed_7 : decode cX10_feed 7 = .ok (.lconst 1, 1) := by decide +kernel
theorem dX10_feed_8 : decode cX10_feed 8 = .ok (.ldc2_w 142, 3) := by decide +kernel
theorem dX10_feed_11 : decode cX10_feed 11 = .ok (.invokestatic 144, 3) := by decide +kernel
theorem dX10_feed_14 : decode cX10_feed 14 = .ok (.ifCond .eq 15, 3) := by decide +kernel
theorem dX10_feed_17 : decode cX10_feed 17 = .ok (.aload_n 0, 1) := by decide +kernel
theorem dX10_feed_18 : decode cX10_feed 18 = .ok (.getfield 148, 3) := by decide +kernel
theorem dX10_feed_21 : decode cX10_feed 21 = .ok (.iload_n 3, 1) := by decide +kernel
theorem dX10_feed_22 : decode cX10_feed 22 = .ok (.iadd, 1) := by decide +kernel
theorem dX10_feed_23 : decode cX10_feed 23 = .ok (.sipush 11712, 3) := by decide +kernel
theorem dX10_feed_26 : decode cX10_feed 26 = .ok (.if_icmp .le 5, 3) := by decide +kernel
theorem dX10_feed_29 : decode cX10_feed 29 = .ok (.iconst (-1), 1) := by decide +kernel
theorem dX10_feed_30 : decode cX10_feed 30 = .ok (.ireturn, 1) := by decide +kernel
theorem dX10_feed_31 : decode cX10_feed 31 = .ok (.iload_n 3, 1) := by decide +kernel
theorem dX10_feed_32 : decode cX10_feed 32 = .ok (.iconst 1, 1) := by decide +kernel
theorem dX10_feed_33 : decode cX10_feed 33 = .ok (.isub, 1) := by decide +kernel
theorem dX10_feed_34 : decode cX10_feed 34 = .ok (.istore 4, 2) := by decide +kernel
theorem dX10_feed_36 : decode cX10_feed 36 = .ok (.iload 4, 2) := by decide +kernel
theorem dX10_feed_38 : decode cX10_feed 38 = .ok (.ifCond .lt 37, 3) := by decide +kernel
theorem dX10_feed_41 : decode cX10_feed 41 = .ok (.aload_n 0, 1) := by decide +kernel
theorem dX10_feed_42 : decode cX10_feed 42 = .ok (.getfield 22, 3) := by decide +kernel
theorem dX10_feed_45 : decode cX10_feed 45 = .ok (.aload_n 0, 1) := by decide +kernel
theorem dX10_feed_46 : decode cX10_feed 46 = .ok (.getfield 148, 3) := by decide +kernel
theorem dX10_feed_49 : decode cX10_feed 49 = .ok (.lload_n 1, 1) := by decide +kernel
theorem dX10_feed_50 : decode cX10_feed 50 = .ok (.bipush 8, 2) := by decide +kernel
theorem dX10_feed_52 : decode cX10_feed 52 = .ok (.iload 4, 2) := by decide +kernel
theorem dX10_feed_54 : decode cX10_feed 54 = .ok (.imul, 1) := by decide +kernel
theorem dX10_feed_55 : decode cX10_feed 55 = .ok (.lshr, 1) := by decide +kernel
theorem dX10_feed_56 : decode cX10_feed 56 = .ok (.l2i, 1) := by decide +kernel
theorem dX10_feed_57 : decode cX10_feed 57 = .ok (.i2b, 1) := by decide +kernel
theorem dX10_feed_58 : decode cX10_feed 58 = .ok (.bastore, 1) := by decide +kernel
theorem dX10_feed_59 : decode cX10_feed 59 = .ok (.aload_n 0, 1) := by decide +kernel
theorem dX10_feed_60 : decode cX10_feed 60 = .ok (.dup, 1) := by decide +kernel
theorem dX10_feed_61 : decode cX10_feed 61 = .ok (.getfield 148, 3) := by decide +kernel
theorem dX10_feed_64 : decode cX10_feed 64 = .ok (.iconst 1, 1) := by decide +kernel
theorem dX10_feed_65 : decode cX10_feed 65 = .ok (.iadd, 1) := by decide +kernel
theorem dX10_feed_66 : decode cX10_feed 66 = .ok (.putfield 148, 3) := by decide +kernel
theorem dX10_feed_69 : decode cX10_feed 69 = .ok (.iinc 4 (-1), 3) := by decide +kernel
theorem dX10_feed_72 : decode cX10_feed 72 = .ok (.goto (-36), 3) := by decide +kernel
theorem dX10_feed_75 : decode cX10_feed 75 = .ok (.aload_n 0, 1) := by decide +kernel
theorem dX10_feed_76 : decode cX10_feed 76 = .ok (.getfield 148, 3) := by decide +kernel
theorem dX10_feed_79 : decode cX10_feed 79 = .ok (.ireturn, 1) := by decide +kernel
theorem dX10_fill_0 : decode cX10_fill 0 = .ok (.aload_n 0, 1) := by decide +kernel
theorem dX10_fill_1 : decode cX10_fill 1 = .ok (.iconst 0, 1) := by decide +kernel
theorem dX10_fill_2 : decode cX10_fill 2 = .ok (.putfield 100, 3) := by decide +kernel
theorem dX10_fill_5 : decode cX10_fill 5 = .ok (.iload_n 1, 1) := by decide +kernel
theorem dX10_fill_6 : decode cX10_fill 6 = .ok (.ifCond .lt 18, 3) := by decide +kernel
theorem dX10_fill_9 : decode cX10_fill 9 = .ok (.aload_n 0, 1) := by decide +kernel
theorem dX10_fill_10 : decode cX10_fill 10 = .ok (.getfield 148, 3) := by decide +kernel
theorem dX10_fill_13 : decode cX10_fill 13 = .ok (.i2l, 1) := by decide +kernel
theorem dX10_fill_14 : decode cX10_fill 14 = .ok (.iload_n 1, 1) := by decide +kernel
theorem dX10_fill_15 : decode cX10_fill 15 = .ok (.i2l, 1) := by decide +kernel
theorem dX10_fill_16 : decode cX10_fill 16 = .ok (.ladd, 1) := by decide +kernel
theorem dX10_fill_17 : decode cX10_fill 17 = .ok (.ldc2_w 151, 3) := by decide +kernel
theorem dX10_fill_20 : decode cX10_fill 20 = .ok (.lcmp, 1) := by decide +kernel
theorem dX10_fill_21 : decode cX10_fill 21 = .ok (.ifCond .le 5, 3) := by decide +kernel
theorem dX10_fill_24 : decode cX10_fill 24 = .ok (.iconst (-1), 1) := by decide +kernel
theorem dX10_fill_25 : decode cX10_fill 25 = .ok (.ireturn, 1) := by decide +kernel
theorem dX10_fill_26 : decode cX10_fill 26 = .ok (.iload_n 2, 1) := by decide +kernel
theorem dX10_fill_27 : decode cX10_fill 27 = .ok (.istore_n 3, 1) := by decide +kernel
theorem dX10_fill_28 : decode cX10_fill 28 = .ok (.iconst 0, 1) := by decide +kernel
theorem dX10_fill_29 : decode cX10_fill 29 = .ok (.istore 4, 2) := by decide +kernel
theorem dX10_fill_31 : decode cX10_fill 31 = .ok (.iload 4, 2) := by decide +kernel
theorem dX10_fill_33 : decode cX10_fill 33 = .ok (.iload_n 1, 1) := by decide +kernel
theorem dX10_fill_34 : decode cX10_fill 34 = .ok (.if_icmp .ge 41, 3) := by decide +kernel
theorem dX10_fill_37 : decode cX10_fill 37 = .ok (.iload_n 3, 1) := by decide +kernel
theorem dX10_fill_38 : decode cX10_fill 38 = .ok (.ldc 153, 2) := by decide +kernel
theorem dX10_fill_40 : decode cX10_fill 40 = .ok (.imul, 1) := by decide +kernel
theorem dX10_fill_41 : decode cX10_fill 41 = .ok (.ldc 154, 2) := by decide +kernel
theorem dX10_fill_43 : decode cX10_fill 43 = .ok (.iadd, 1) := by decide +kernel
theorem dX10_fill_44 : decode cX10_fill 44 = .ok (.istore_n 3, 1) := by decide +kernel
theorem dX10_fill_45 : decode cX10_fill 45 = .ok (.aload_n 0, 1) := by decide +kernel
theorem dX10_fill_46 : decode cX10_fill 46 = .ok (.getfield 22, 3) := by decide +kernel
theorem dX10_fill_49 : decode cX10_fill 49 = .ok (.aload_n 0, 1) := by decide +kernel
theorem dX10_fill_50 : decode cX10_fill 50 = .ok (.getfield 148, 3) := by decide +kernel
theorem dX10_fill_53 : decode cX10_fill 53 = .ok (.iload_n 3, 1) := by decide +kernel
theorem dX10_fill_54 : decode cX10_fill 54 = .ok (.bipush 24, 2) := by decide +kernel
theorem dX10_fill_56 : decode cX10_fill 56 = .ok (.iushr, 1) := by decide +kernel
theorem dX10_fill_57 : decode cX10_fill 57 = .ok (.i2b, 1) := by decide +kernel
theorem dX10_fill_58 : decode cX10_fill 58 = .ok (.bastore, 1) := by decide +kernel
theorem dX10_fill_59 : decode cX10_fill 59 = .ok (.aload_n 0, 1) := by decide +kernel
theorem dX10_fill_60 : decode cX10_fill 60 = .ok (.dup, 1) := by decide +kernel
theorem dX10_fill_61 : decode cX10_fill 61 = .ok (.getfield 148, 3) := by decide +kernel
theorem dX10_fill_64 : decode cX10_fill 64 = .ok (.iconst 1, 1) := by decide +kernel
theorem dX10_fill_65 : decode cX10_fill 65 = .ok (.iadd, 1) := by decide +kernel
theorem dX10_fill_66 : decode cX10_fill 66 = .ok (.putfield 148, 3) := by decide +kernel
theorem dX10_fill_69 : decode cX10_fill 69 = .ok (.iinc 4 1, 3) := by decide +kernel
theorem dX10_fill_72 : decode cX10_fill 72 = .ok (.goto (-41), 3) := by decide +kernel
theorem dX10_fill_75 : decode cX10_fill 75 = .ok (.aload_n 0, 1) := by decide +kernel
theorem dX10_fill_76 : decode cX10_fill 76 = .ok (.getfield 148, 3) := by decide +kernel
theorem dX10_fill_79 : decode cX10_fill 79 = .ok (.ireturn, 1) := by decide +kernel
theorem dX10_wipe_0 : decode cX10_wipe 0 = .ok (.aload_n 0, 1) := by decide +kernel
theorem dX10_wipe_1 : decode cX10_wipe 1 = .ok (.iconst 0, 1) := by decide +kernel
theorem dX10_wipe_2 : decode cX10_wipe 2 = .ok (.putfield 100, 3) := by decide +kernel
theorem dX10_wipe_5 : decode cX10_wipe 5 = .ok (.aload_n 0, 1) := by decide +kernel
theorem dX10_wipe_6 : decode cX10_wipe 6 = .ok (.getfield 148, 3) := by decide +kernel
theorem dX10_wipe_9 : decode cX10_wipe 9 = .ok (.istore_n 1, 1) := by decide +kernel
theorem dX10_wipe_10 : decode cX10_wipe 10 = .ok (.aload_n 0, 1) := by decide +kernel
theorem dX10_wipe_11 : decode cX10_wipe 11 = .ok (.iconst 0, 1) := by decide +kernel
theorem dX10_wipe_12 : decode cX10_wipe 12 = .ok (.putfield 148, 3) := by decide +kernel
theorem dX10_wipe_15 : decode cX10_wipe 15 = .ok (.iload_n 1, 1) := by decide +kernel
theorem dX10_wipe_16 : decode cX10_wipe 16 = .ok (.ireturn, 1) := by decide +kernel
theorem dX10_streamAt_0 : decode cX10_streamAt 0 = .ok (.aload_n 0, 1) := by decide +kernel
theorem dX10_streamAt_1 : decode cX10_streamAt 1 = .ok (.iconst 0, 1) := by decide +kernel
theorem dX10_streamAt_2 : decode cX10_streamAt 2 = .ok (.putfield 100, 3) := by decide +kernel
theorem dX10_streamAt_5 : decode cX10_streamAt 5 = .ok (.iload_n 1, 1) := by decide +kernel
theorem dX10_streamAt_6 : decode cX10_streamAt 6 = .ok (.i2l, 1) := by decide +kernel
theorem dX10_streamAt_7 : decode cX10_streamAt 7 = .ok (.lconst 0, 1) := by decide +kernel
theorem dX10_streamAt_8 : decode cX10_streamAt 8 = .ok (.aload_n 0, 1) := by decide +kernel
theorem dX10_streamAt_9 : decode cX10_streamAt 9 = .ok (.getfield 148, 3) := by decide +kernel
theorem dX10_streamAt_12 : decode cX10_streamAt 12 = .ok (.iconst 1, 1) := by decide +kernel
theorem dX10_streamAt_13 : decode cX10_streamAt 13 = .ok (.isub, 1) := by decide +kernel
theorem dX10_streamAt_14 : decode cX10_streamAt 14 = .ok (.i2l, 1) := by decide +kernel
theorem dX10_streamAt_15 : decode cX10_streamAt 15 = .ok (.invokestatic 144, 3) := by decide +kernel
theorem dX10_streamAt_18 : decode cX10_streamAt 18 = .ok (.ifCond .eq 16, 3) := by decide +kernel
theorem dX10_streamAt_21 : decode cX10_streamAt 21 = .ok (.aload_n 0, 1) := by decide +kernel
theorem dX10_streamAt_22 : decode cX10_streamAt 22 = .ok (.getfield 22, 3) := by decide +kernel
theorem dX10_streamAt_25 : decode cX10_streamAt 25 = .ok (.iload_n 1, 1) := by decide +kernel
theorem dX10_streamAt_26 : decode cX10_streamAt 26 = .ok (.baload, 1) := by decide +kernel
theorem dX10_streamAt_27 : decode cX10_streamAt 27 = .ok (.sipush 255, 3) := by decide +kernel
theorem dX10_streamAt_30 : decode cX10_streamAt 30 = .ok (.iand, 1) := by decide +kernel
theorem dX10_streamAt_31 : decode cX10_streamAt 31 = .ok (.goto 4, 3) := by decide +kernel
theorem dX10_streamAt_34 : decode cX10_streamAt 34 = .ok (.iconst (-1), 1) := by decide +kernel
theorem dX10_streamAt_35 : decode cX10_streamAt 35 = .ok (.ireturn, 1) := by decide +kernel
theorem dX10_begin_0 : decode cX10_begin 0 = .ok (.aload_n 0, 1) := by decide +kernel
theorem dX10_begin_1 : decode cX10_begin 1 = .ok (.iconst 0, 1) := by decide +kernel
theorem dX10_begin_2 : decode cX10_begin 2 = .ok (.putfield 100, 3) := by decide +kernel
theorem dX10_begin_5 : decode cX10_begin 5 = .ok (.iload_n 1, 1) := by decide +kernel
theorem dX10_begin_6 : decode cX10_begin 6 = .ok (.i2l, 1) := by decide +kernel
theorem dX10_begin_7 : decode cX10_begin 7 = .ok (.lconst 0, 1) := by decide +kernel
theorem dX10_begin_8 : decode cX10_begin 8 = .ok (.ldc2_w 155, 3) := by decide +kernel
theorem dX10_begin_11 : decode cX10_begin 11 = .ok (.invokestatic 144, 3) := by decide +kernel
theorem dX10_begin_14 : decode cX10_begin 14 = .ok (.istore_n 2, 1) := by decide +kernel
theorem dX10_begin_15 : decode cX10_begin 15 = .ok (.aload_n 0, 1) := by decide +kernel
theorem dX10_begin_16 : decode cX10_begin 16 = .ok (.iload_n 2, 1) := by decide +kernel
theorem dX10_begin_17 : decode cX10_begin 17 = .ok (.ifCond .eq 7, 3) := by decide +kernel
theorem dX10_begin_20 : decode cX10_begin 20 = .ok (.iload_n 1, 1) := by decide +kernel
theorem dX10_begin_21 : decode cX10_begin 21 = .ok (.goto 7, 3) := by decide +kernel
theorem dX10_begin_24 : decode cX10_begin 24 = .ok (.aload_n 0, 1) := by decide +kernel
theorem dX10_begin_25 : decode cX10_begin 25 = .ok (.getfield 157, 3) := by decide +kernel
theorem dX10_begin_28 : decode cX10_begin 28 = .ok (.putfield 157, 3) := by decide +kernel
theorem dX10_begin_31 : decode cX10_begin 31 = .ok (.iload_n 2, 1) := by decide +kernel
theorem dX10_begin_32 : decode cX10_begin 32 = .ok (.ireturn, 1) := by decide +kernel
theorem dX10_entry_0 : decode cX10_entry 0 = .ok (.aload_n 0, 1) := by decide +kernel
theorem dX10_entry_1 : decode cX10_entry 1 = .ok (.iconst 0, 1) := by decide +kernel
theorem dX10_entry_2 : decode cX10_entry 2 = .ok (.putfield 100, 3) := by decide +kernel
theorem dX10_entry_5 : decode cX10_entry 5 = .ok (.iload_n 1, 1) := by decide +kernel
theorem dX10_entry_6 : decode cX10_entry 6 = .ok (.i2l, 1) := by decide +kernel
theorem dX10_entry_7 : decode cX10_entry 7 = .ok (.lconst 0, 1) := by decide +kernel
theorem dX10_entry_8 : decode cX10_entry 8 = .ok (.ldc2_w 160, 3) := by decide +kernel
theorem dX10_entry_11 : decode cX10_entry 11 = .ok (.invokestatic 144, 3) := by decide +kernel
theorem dX10_entry_14 : decode cX10_entry 14 = .ok (.ifCond .eq 49, 3) := by decide +kernel
theorem dX10_entry_17 : decode cX10_entry 17 = .ok (.iload_n 2, 1) := by decide +kernel
theorem dX10_entry_18 : decode cX10_entry 18 = .ok (.i2l, 1) := by decide +kernel
theorem dX10_entry_19 : decode cX10_entry 19 = .ok (.lconst 0, 1) := by decide +kernel
theorem dX10_entry_20 : decode cX10_entry 20 = .ok (.ldc2_w 162, 3) := by decide +kernel
theorem dX10_entry_23 : decode cX10_entry 23 = .ok (.invokestatic 144, 3) := by decide +kernel
theorem dX10_entry_26 : decode cX10_entry 26 = .ok (.ifCond .eq 37, 3) := by decide +kernel
theorem dX10_entry_29 : decode cX10_entry 29 = .ok (.iload_n 3, 1) := by decide +kernel
theorem dX10_entry_30 : decode cX10_entry 30 = .ok (.i2l, 1) := by decide +kernel
theorem dX10_entry_31 : decode cX10_entry 31 = .ok (.lconst 1, 1) := by decide +kernel
theorem dX10_entry_32 : decode cX10_entry 32 = .ok (.ldc2_w 164, 3) := by decide +kernel
theorem dX10_entry_35 : decode cX10_entry 35 = .ok (.invokestatic 144, 3) := by decide +kernel
theorem dX10_entry_38 : decode cX10_entry 38 = .ok (.ifCond .eq 25, 3) := by decide +kernel
theorem dX10_entry_41 : decode cX10_entry 41 = .ok (.iload 4, 2) := by decide +kernel
theorem dX10_entry_43 : decode cX10_entry 43 = .ok (.i2l, 1) := by decide +kernel
theorem dX10_entry_44 : decode cX10_entry 44 = .ok (.lconst 0, 1) := by decide +kernel
theorem dX10_entry_45 : decode cX10_entry 45 = .ok (.ldc2_w 164, 3) := by decide +kernel
theorem dX10_entry_48 : decode cX10_entry 48 = .ok (.invokestatic 144, 3) := by decide +kernel
theorem dX10_entry_51 : decode cX10_entry 51 = .ok (.ifCond .eq 12, 3) := by decide +kernel
theorem dX10_entry_54 : decode cX10_entry 54 = .ok (.aload_n 0, 1) := by decide +kernel
theorem dX10_entry_55 : decode cX10_entry 55 = .ok (.getfield 166, 3) := by decide +kernel
theorem dX10_entry_58 : decode cX10_entry 58 = .ok (.bipush 20, 2) := by decide +kernel
theorem dX10_entry_60 : decode cX10_entry 60 = .ok (.if_icmp .ne 5, 3) := by decide +kernel
theorem dX10_entry_63 : decode cX10_entry 63 = .ok (.iconst (-1), 1) := by decide +kernel
theorem dX10_entry_64 : decode cX10_entry 64 = .ok (.ireturn, 1) := by decide +kernel
theorem dX10_entry_65 : decode cX10_entry 65 = .ok (.aload_n 0, 1) := by decide +kernel
theorem dX10_entry_66 : decode cX10_entry 66 = .ok (.getfield 26, 3) := by decide +kernel
theorem dX10_entry_69 : decode cX10_entry 69 = .ok (.aload_n 0, 1) := by decide +kernel
theorem dX10_entry_70 : decode cX10_entry 70 = .ok (.getfield 166, 3) := by decide +kernel
theorem dX10_entry_73 : decode cX10_entry 73 = .ok (.iload_n 1, 1) := by decide +kernel
theorem dX10_entry_74 : decode cX10_entry 74 = .ok (.iastore, 1) := by decide +kernel
theorem dX10_entry_75 : decode cX10_entry 75 = .ok (.aload_n 0, 1) := by decide +kernel
theorem dX10_entry_76 : decode cX10_entry 76 = .ok (.getfield 29, 3) := by decide +kernel
theorem dX10_entry_79 : decode cX10_entry 79 = .ok (.aload_n 0, 1) := by decide +kernel
theorem dX10_entry_80 : decode cX10_entry 80 = .ok (.getfield 166, 3) := by decide +kernel
theorem dX10_entry_83 : decode cX10_entry 83 = .ok (.iload_n 2, 1) := by decide +kernel
theorem dX10_entry_84 : decode cX10_entry 84 = .ok (.iastore, 1) := by decide +kernel
theorem dX10_entry_85 : decode cX10_entry 85 = .ok (.aload_n 0, 1) := by decide +kernel
theorem dX10_entry_86 : decode cX10_entry 86 = .ok (.getfield 32, 3) := by decide +kernel
theorem dX10_entry_89 : decode cX10_entry 89 = .ok (.aload_n 0, 1) := by decide +kernel
theorem dX10_entry_90 : decode cX10_entry 90 = .ok (.getfield 166, 3) := by decide +kernel
theorem dX10_entry_93 : decode cX10_entry 93 = .ok (.iload_n 3, 1) := by decide +kernel
theorem dX10_entry_94 : decode cX10_entry 94 = .ok (.iastore, 1) := by decide +kernel
theorem dX10_entry_95 : decode cX10_entry 95 = .ok (.aload_n 0, 1) := by decide +kernel
theorem dX10_entry_96 : decode cX10_entry 96 = .ok (.getfield 35, 3) := by decide +kernel
theorem dX10_entry_99 : decode cX10_entry 99 = .ok (.aload_n 0, 1) := by decide +kernel
theorem dX10_entry_100 : decode cX10_entry 100 = .ok (.getfield 166, 3) := by decide +kernel
theorem dX10_entry_103 : decode cX10_entry 103 = .ok (.iload 4, 2) := by decide +kernel
theorem dX10_entry_105 : decode cX10_entry 105 = .ok (.iastore, 1) := by decide +kernel
theorem dX10_entry_106 : decode cX10_entry 106 = .ok (.aload_n 0, 1) := by decide +kernel
theorem dX10_entry_107 : decode cX10_entry 107 = .ok (.dup, 1) := by decide +kernel
theorem dX10_entry_108 : decode cX10_entry 108 = .ok (.getfield 166, 3) := by decide +kernel
theorem dX10_entry_111 : decode cX10_entry 111 = .ok (.iconst 1, 1) := by decide +kernel
theorem dX10_entry_112 : decode cX10_entry 112 = .ok (.iadd, 1) := by decide +kernel
theorem dX10_entry_113 : decode cX10_entry 113 = .ok (.putfield 166, 3) := by decide +kernel
theorem dX10_entry_116 : decode cX10_entry 116 = .ok (.aload_n 0, 1) := by decide +kernel
theorem dX10_entry_117 : decode cX10_entry 117 = .ok (.getfield 166, 3) := by decide +kernel
theorem dX10_entry_120 : decode cX10_entry 120 = .ok (.ireturn, 1) := by decide +kernel
theorem dX10_plain_0 : decode cX10_plain 0 = .ok (.aload_n 0, 1) := by decide +kernel
theorem dX10_plain_1 : decode cX10_plain 1 = .ok (.iconst 0, 1) := by decide +kernel
theorem dX10_plain_2 : decode cX10_plain 2 = .ok (.putfield 100, 3) := by decide +kernel
theorem dX10_plain_5 : decode cX10_plain 5 = .ok (.aload_n 0, 1) := by decide +kernel
theorem dX10_plain_6 : decode cX10_plain 6 = .ok (.getfield 166, 3) := by decide +kernel
theorem dX10_plain_9 : decode cX10_plain 9 = .ok (.istore_n 1, 1) := by decide +kernel
theorem dX10_plain_10 : decode cX10_plain 10 = .ok (.aload_n 0, 1) := by decide +kernel
theorem dX10_plain_11 : decode cX10_plain 11 = .ok (.iconst 0, 1) := by decide +kernel
theorem dX10_plain_12 : decode cX10_plain 12 = .ok (.putfield 166, 3) := by decide +kernel
theorem dX10_plain_15 : decode cX10_plain 15 = .ok (.iload_n 1, 1) := by decide +kernel
theorem dX10_plain_16 : decode cX10_plain 16 = .ok (.ireturn, 1) := by decide +kernel
theorem dX10_streamByte_0 : decode cX10_streamByte 0 = .ok (.bipush 24, 2) := by decide +kernel
theorem dX10_streamByte_2 : decode cX10_streamByte 2 = .ok (.iload_n 1, 1) := by decide +kernel
theorem dX10_streamByte_3 : decode cX10_streamByte 3 = .ok (.imul, 1) := by decide +kernel
theorem dX10_streamByte_4 : decode cX10_streamByte 4 = .ok (.iload_n 2, 1) := by decide +kernel
theorem dX10_streamByte_5 : decode cX10_streamByte 5 = .ok (.iadd, 1) := by decide +kernel
theorem dX10_streamByte_6 : decode cX10_streamByte 6 = .ok (.istore_n 3, 1) := by decide +kernel
theorem dX10_streamByte_7 : decode cX10_streamByte 7 = .ok (.iload_n 1, 1) := by decide +kernel
theorem dX10_streamByte_8 : decode cX10_streamByte 8 = .ok (.ifCond .lt 32, 3) := by decide +kernel
theorem dX10_streamByte_11 : decode cX10_streamByte 11 = .ok (.iload_n 1, 1) := by decide +kernel
theorem dX10_streamByte_12 : decode cX10_streamByte 12 = .ok (.aload_n 0, 1) := by decide +kernel
theorem dX10_streamByte_13 : decode cX10_streamByte 13 = .ok (.getfield 169, 3) := by decide +kernel
theorem dX10_streamByte_16 : decode cX10_streamByte 16 = .ok (.if_icmp .ge 24, 3) := by decide +kernel
theorem dX10_streamByte_19 : decode cX10_streamByte 19 = .ok (.iload_n 3, 1) := by decide +kernel
theorem dX10_streamByte_20 : decode cX10_streamByte 20 = .ok (.aload_n 0, 1) := by decide +kernel
theorem dX10_streamByte_21 : decode cX10_streamByte 21 = .ok (.getfield 148, 3) := by decide +kernel
theorem dX10_streamByte_24 : decode cX10_streamByte 24 = .ok (.if_icmp .ge 16, 3) := by decide +kernel
theorem dX10_streamByte_27 : decode cX10_streamByte 27 = .ok (.aload_n 0, 1) := by decide +kernel
theorem dX10_streamByte_28 : decode cX10_streamByte 28 = .ok (.getfield 22, 3) := by decide +kernel
theorem dX10_streamByte_31 : decode cX10_streamByte 31 = .ok (.iload_n 3, 1) := by decide +kernel
theorem dX10_streamByte_32 : decode cX10_streamByte 32 = .ok (.baload, 1) := by decide +kernel
theorem dX10_streamByte_33 : decode cX10_streamByte 33 = .ok (.sipush 255, 3) := by decide +kernel
theorem dX10_streamByte_36 : decode cX10_streamByte 36 = .ok (.iand, 1) := by decide +kernel
theorem dX10_streamByte_37 : decode cX10_streamByte 37 = .ok (.goto 4, 3) := by decide +kernel
theorem dX10_streamByte_40 : decode cX10_streamByte 40 = .ok (.iconst 0, 1) := by decide +kernel
theorem dX10_streamByte_41 : decode cX10_streamByte 41 = .ok (.ireturn, 1) := by decide +kernel
theorem dX10_byteAt_0 : decode cX10_byteAt 0 = .ok (.iload_n 0, 1) := by decide +kernel
theorem dX10_byteAt_1 : decode cX10_byteAt 1 = .ok (.bipush 12, 2) := by decide +kernel
theorem dX10_byteAt_3 : decode cX10_byteAt 3 = .ok (.if_icmp .ge 7, 3) := by decide +kernel
theorem dX10_byteAt_6 : decode cX10_byteAt 6 = .ok (.iload_n 0, 1) := by decide +kernel
theorem dX10_byteAt_7 : decode cX10_byteAt 7 = .ok (.goto 7, 3) := by decide +kernel
theorem dX10_byteAt_10 : decode cX10_byteAt 10 = .ok (.iload_n 0, 1) := by decide +kernel
theorem dX10_byteAt_11 : decode cX10_byteAt 11 = .ok (.bipush 16, 2) := by decide +kernel
theorem dX10_byteAt_13 : decode cX10_byteAt 13 = .ok (.isub, 1) := by decide +kernel
theorem dX10_byteAt_14 : decode cX10_byteAt 14 = .ok (.istore_n 1, 1) := by decide +kernel
theorem dX10_byteAt_15 : decode cX10_byteAt 15 = .ok (.iconst 2, 1) := by decide +kernel
theorem dX10_byteAt_16 : decode cX10_byteAt 16 = .ok (.iload_n 1, 1) := by decide +kernel
theorem dX10_byteAt_17 : decode cX10_byteAt 17 = .ok (.bipush 6, 2) := by decide +kernel
theorem dX10_byteAt_19 : decode cX10_byteAt 19 = .ok (.irem, 1) := by decide +kernel
theorem dX10_byteAt_20 : decode cX10_byteAt 20 = .ok (.iconst 2, 1) := by decide +kernel
theorem dX10_byteAt_21 : decode cX10_byteAt 21 = .ok (.idiv, 1) := by decide +kernel
theorem dX10_byteAt_22 : decode cX10_byteAt 22 = .ok (.imul, 1) := by decide +kernel
theorem dX10_byteAt_23 : decode cX10_byteAt 23 = .ok (.iload_n 0, 1) := by decide +kernel
theorem dX10_byteAt_24 : decode cX10_byteAt 24 = .ok (.bipush 12, 2) := by decide +kernel
theorem dX10_byteAt_26 : decode cX10_byteAt 26 = .ok (.if_icmp .ge 7, 3) := by decide +kernel
theorem dX10_byteAt_29 : decode cX10_byteAt 29 = .ok (.iconst 0, 1) := by decide +kernel
theorem dX10_byteAt_30 : decode cX10_byteAt 30 = .ok (.goto 4, 3) := by decide +kernel
theorem dX10_byteAt_33 : decode cX10_byteAt 33 = .ok (.iconst 1, 1) := by decide +kernel
theorem dX10_byteAt_34 : decode cX10_byteAt 34 = .ok (.iadd, 1) := by decide +kernel
theorem dX10_byteAt_35 : decode cX10_byteAt 35 = .ok (.istore_n 2, 1) := by decide +kernel
theorem dX10_byteAt_36 : decode cX10_byteAt 36 = .ok (.iconst 4, 1) := by decide +kernel
theorem dX10_byteAt_37 : decode cX10_byteAt 37 = .ok (.iload_n 2, 1) := by decide +kernel
theorem dX10_byteAt_38 : decode cX10_byteAt 38 = .ok (.imul, 1) := by decide +kernel
theorem dX10_byteAt_39 : decode cX10_byteAt 39 = .ok (.iconst 2, 1) := by decide +kernel
theorem dX10_byteAt_40 : decode cX10_byteAt 40 = .ok (.iload_n 1, 1) := by decide +kernel
theorem dX10_byteAt_41 : decode cX10_byteAt 41 = .ok (.bipush 6, 2) := by decide +kernel
theorem dX10_byteAt_43 : decode cX10_byteAt 43 = .ok (.idiv, 1) := by decide +kernel
theorem dX10_byteAt_44 : decode cX10_byteAt 44 = .ok (.imul, 1) := by decide +kernel
theorem dX10_byteAt_45 : decode cX10_byteAt 45 = .ok (.iadd, 1) := by decide +kernel
theorem dX10_byteAt_46 : decode cX10_byteAt 46 = .ok (.iload_n 1, 1) := by decide +kernel
theorem dX10_byteAt_47 : decode cX10_byteAt 47 = .ok (.iconst 2, 1) := by decide +kernel
theorem dX10_byteAt_48 : decode cX10_byteAt 48 = .ok (.irem, 1) := by decide +kernel
theorem dX10_byteAt_49 : decode cX10_byteAt 49 = .ok (.iadd, 1) := by decide +kernel
theorem dX10_byteAt_50 : decode cX10_byteAt 50 = .ok (.ireturn, 1) := by decide +kernel
theorem dX10_makeOuter_0 : decode cX10_makeOuter 0 = .ok (.iconst 0, 1) := by decide +kernel
theorem dX10_makeOuter_1 : decode cX10_makeOuter 1 = .ok (.istore_n 2, 1) := by decide +kernel
theorem dX10_makeOuter_2 : decode cX10_makeOuter 2 = .ok (.iload_n 2, 1) := by decide +kernel
theorem dX10_makeOuter_3 : decode cX10_makeOuter 3 = .ok (.bipush 28, 2) := by decide +kernel
theorem dX10_makeOuter_5 : decode cX10_makeOuter 5 = .ok (.if_icmp .ge 48, 3) := by decide +kernel
theorem dX10_makeOuter_8 : decode cX10_makeOuter 8 = .ok (.aload_n 0, 1) := by decide +kernel
theorem dX10_makeOuter_9 : decode cX10_makeOuter 9 = .ok (.getfield 45, 3) := by decide +kernel
theorem dX10_makeOuter_12 : decode cX10_makeOuter 12 = .ok (.iload_n 2, 1) := by decide +kernel
theorem dX10_makeOuter_13 : decode cX10_makeOuter 13 = .ok (.iconst 0, 1) := by decide +kernel
theorem dX10_makeOuter_14 : decode cX10_makeOuter 14 = .ok (.iload_n 2, 1) := by decide +kernel
theorem dX10_makeOuter_15 : decode cX10_makeOuter 15 = .ok (.invokestatic 135, 3) := by decide +kernel
theorem dX10_makeOuter_18 : decode cX10_makeOuter 18 = .ok (.ifCond .eq 7, 3) := by decide +kernel
theorem dX10_makeOuter_21 : decode cX10_makeOuter 21 = .ok (.iconst 0, 1) := by decide +kernel
theorem dX10_makeOuter_22 : decode cX10_makeOuter 22 = .ok (.goto 24, 3) := by decide +kernel
theorem dX10_makeOuter_25 : decode cX10_makeOuter 25 = .ok (.aload_n 0, 1) := by decide +kernel
theorem dX10_makeOuter_26 : decode cX10_makeOuter 26 = .ok (.iload_n 2, 1) := by decide +kernel
theorem dX10_makeOuter_27 : decode cX10_makeOuter 27 = .ok (.bipush 12, 2) := by decide +kernel
theorem dX10_makeOuter_29 : decode cX10_makeOuter 29 = .ok (.if_icmp .ge 9, 3) := by decide +kernel
theorem dX10_makeOuter_32 : decode cX10_makeOuter 32 = .ok (.iload_n 1, 1) := by decide +kernel
theorem dX10_makeOuter_33 : decode cX10_makeOuter 33 = .ok (.iconst 2, 1) := by decide +kernel
theorem dX10_makeOuter_34 : decode cX10_makeOuter 34 = .ok (.isub, 1) := by decide +kernel
theorem dX10_makeOuter_35 : decode cX10_makeOuter 35 = .ok (.goto 4, 3) := by decide +kernel
theorem dX10_makeOuter_38 : decode cX10_makeOuter 38 = .ok (.iload_n 1, 1) := by decide +kernel
theorem dX10_makeOuter_39 : decode cX10_makeOuter 39 = .ok (.iload_n 2, 1) := by decide +kernel
theorem dX10_makeOuter_40 : decode cX10_makeOuter 40 = .ok (.invokestatic 172, 3) := by decide +kernel
theorem dX10_makeOuter_43 : decode cX10_makeOuter 43 = .ok (.invokevirtual 175, 3) := by decide +kernel
theorem dX10_makeOuter_46 : decode cX10_makeOuter 46 = .ok (.iastore, 1) := by decide +kernel
theorem dX10_makeOuter_47 : decode cX10_makeOuter 47 = .ok (.iinc 2 1, 3) := by decide +kernel
theorem dX10_makeOuter_50 : decode cX10_makeOuter 50 = .ok (.goto (-48), 3) := by decide +kernel
theorem dX10_makeOuter_53 : decode cX10_makeOuter 53 = .ok (.aload_n 0, 1) := by decide +kernel
theorem dX10_makeOuter_54 : decode cX10_makeOuter 54 = .ok (.iconst 0, 1) := by decide +kernel
theorem dX10_makeOuter_55 : decode cX10_makeOuter 55 = .ok (.invokevirtual 178, 3) := by decide +kernel
theorem dX10_makeOuter_58 : decode cX10_makeOuter 58 = .ok (.iconst 0, 1) := by decide +kernel
theorem dX10_makeOuter_59 : decode cX10_makeOuter 59 = .ok (.istore_n 2, 1) := by decide +kernel
theorem dX10_makeOuter_60 : decode cX10_makeOuter 60 = .ok (.iload_n 2, 1) := by decide +kernel
theorem dX10_makeOuter_61 : decode cX10_makeOuter 61 = .ok (.bipush 28, 2) := by decide +kernel
theorem dX10_makeOuter_63 : decode cX10_makeOuter 63 = .ok (.if_icmp .ge 26, 3) := by decide +kernel
theorem dX10_makeOuter_66 : decode cX10_makeOuter 66 = .ok (.aload_n 0, 1) := by decide +kernel
theorem dX10_makeOuter_67 : decode cX10_makeOuter 67 = .ok (.getfield 73, 3) := by decide +kernel
theorem dX10_makeOuter_70 : decode cX10_makeOuter 70 = .ok (.bipush 28, 2) := by decide +kernel
theorem dX10_makeOuter_72 : decode cX10_makeOuter 72 = .ok (.iload_n 1, 1) := by decide +kernel
theorem dX10_makeOuter_73 : decode cX10_makeOuter 73 = .ok (.imul, 1) := by decide +kernel
theorem dX10_makeOuter_74 : decode cX10_makeOuter 74 = .ok (.iload_n 2, 1) := by decide +kernel
theorem dX10_makeOuter_75 : decode cX10_makeOuter 75 = .ok (.iadd, 1) := by decide +kernel
theorem dX10_makeOuter_76 : decode cX10_makeOuter 76 = .ok (.aload_n 0, 1) := by decide +kernel
theorem dX10_makeOuter_77 : decode cX10_makeOuter 77 = .ok (.getfield 45, 3) := by decide +kernel
theorem dX10_makeOuter_80 : decode cX10_makeOuter 80 = .ok (.iload_n 2, 1) := by decide +kernel
theorem dX10_makeOuter_81 : decode cX10_makeOuter 81 = .ok (.iaload, 1) := by decide +kernel
theorem dX10_makeOuter_82 : decode cX10_makeOuter 82 = .ok (.iastore, 1) := by decide +kernel
theorem dX10_makeOuter_83 : decode cX10_makeOuter 83 = .ok (.iinc 2 1, 3) := by decide +kernel
theorem dX10_makeOuter_86 : decode cX10_makeOuter 86 = .ok (.goto (-26), 3) := by decide +kernel
theorem dX10_makeOuter_89 : decode cX10_makeOuter 89 = .ok (.return_, 1) := by decide +kernel
theorem dX10_makeInner_0 : decode cX10_makeInner 0 = .ok (.iconst 0, 1) := by decide +kernel
theorem dX10_makeInner_1 : decode cX10_makeInner 1 = .ok (.istore_n 2, 1) := by decide +kernel
theorem dX10_makeInner_2 : decode cX10_makeInner 2 = .ok (.iload_n 2, 1) := by decide +kernel
theorem dX10_makeInner_3 : decode cX10_makeInner 3 = .ok (.bipush 28, 2) := by decide +kernel
theorem dX10_makeInner_5 : decode cX10_makeInner 5 = .ok (.if_icmp .ge 42, 3) := by decide +kernel
theorem dX10_makeInner_8 : decode cX10_makeInner 8 = .ok (.aload_n 0, 1) := by decide +kernel
theorem dX10_makeInner_9 : decode cX10_makeInner 9 = .ok (.getfield 45, 3) := by decide +kernel
theorem dX10_makeInner_12 : decode cX10_makeInner 12 = .ok (.iload_n 2, 1) := by decide +kernel
theorem dX10_makeInner_13 : decode cX10_makeInner 13 = .ok (.iload_n 1, 1) := by decide +kernel
theorem dX10_makeInner_14 : decode cX10_makeInner 14 = .ok (.iconst 4, 1) := by decide +kernel
theorem dX10_makeInner_15 : decode cX10_makeInner 15 = .ok (.iload_n 2, 1) := by decide +kernel
theorem dX10_makeInner_16 : decode cX10_makeInner 16 = .ok (.imul, 1) := by decide +kernel
theorem dX10_makeInner_17 : decode cX10_makeInner 17 = .ok (.isub, 1) := by decide +kernel
theorem dX10_makeInner_18 : decode cX10_makeInner 18 = .ok (.ifCond .ge 7, 3) := by decide +kernel
theorem dX10_makeInner_21 : decode cX10_makeInner 21 = .ok (.iconst 0, 1) := by decide +kernel
theorem dX10_makeInner_22 : decode cX10_makeInner 22 = .ok (.goto 18, 3) := by decide +kernel
theorem dX10_makeInner_25 : decode cX10_makeInner 25 = .ok (.aload_n 0, 1) := by decide +kernel
theorem dX10_makeInner_26 : decode cX10_makeInner 26 = .ok (.getfield 73, 3) := by decide +kernel
theorem dX10_makeInner_29 : decode cX10_makeInner 29 = .ok (.bipush 28, 2) := by decide +kernel
theorem dX10_makeInner_31 : decode cX10_makeInner 31 = .ok (.iload_n 1, 1) := by decide +kernel
theorem dX10_makeInner_32 : decode cX10_makeInner 32 = .ok (.iconst 4, 1) := by decide +kernel
theorem dX10_makeInner_33 : decode cX10_makeInner 33 = .ok (.iload_n 2, 1) := by decide +kernel
theorem dX10_makeInner_34 : decode cX10_makeInner 34 = .ok (.imul, 1) := by decide +kernel
theorem dX10_makeInner_35 : decode cX10_makeInner 35 = .ok (.isub, 1) := by decide +kernel
theorem dX10_makeInner_36 : decode cX10_makeInner 36 = .ok (.imul, 1) := by decide +kernel
theorem dX10_makeInner_37 : decode cX10_makeInner 37 = .ok (.iload_n 2, 1) := by decide +kernel
theorem dX10_makeInner_38 : decode cX10_makeInner 38 = .ok (.iadd, 1) := by decide +kernel
theorem dX10_makeInner_39 : decode cX10_makeInner 39 = .ok (.iaload, 1) := by decide +kernel
theorem dX10_makeInner_40 : decode cX10_makeInner 40 = .ok (.iastore, 1) := by decide +kernel
theorem dX10_makeInner_41 : decode cX10_makeInner 41 = .ok (.iinc 2 1, 3) := by decide +kernel
theorem dX10_makeInner_44 : decode cX10_makeInner 44 = .ok (.goto (-42), 3) := by decide +kernel
theorem dX10_makeInner_47 : decode cX10_makeInner 47 = .ok (.aload_n 0, 1) := by decide +kernel
theorem dX10_makeInner_48 : decode cX10_makeInner 48 = .ok (.iconst 1, 1) := by decide +kernel
theorem dX10_makeInner_49 : decode cX10_makeInner 49 = .ok (.invokevirtual 178, 3) := by decide +kernel
theorem dX10_makeInner_52 : decode cX10_makeInner 52 = .ok (.iconst 0, 1) := by decide +kernel
theorem dX10_makeInner_53 : decode cX10_makeInner 53 = .ok (.istore_n 2, 1) := by decide +kernel
theorem dX10_makeInner_54 : decode cX10_makeInner 54 = .ok (.iload_n 2, 1) := by decide +kernel
theorem dX10_makeInner_55 : decode cX10_makeInner 55 = .ok (.bipush 32, 2) := by decide +kernel
theorem dX10_makeInner_57 : decode cX10_makeInner 57 = .ok (.if_icmp .ge 26, 3) := by decide +kernel
theorem dX10_makeInner_60 : decode cX10_makeInner 60 = .ok (.aload_n 0, 1) := by decide +kernel
theorem dX10_makeInner_61 : decode cX10_makeInner 61 = .ok (.getfield 64, 3) := by decide +kernel
theorem dX10_makeInner_64 : decode cX10_makeInner 64 = .ok (.bipush 32, 2) := by decide +kernel
theorem dX10_makeInner_66 : decode cX10_makeInner 66 = .ok (.iload_n 1, 1) := by decide +kernel
theorem dX10_makeInner_67 : decode cX10_makeInner 67 = .ok (.imul, 1) := by decide +kernel
theorem dX10_makeInner_68 : decode cX10_makeInner 68 = .ok (.iload_n 2, 1) := by decide +kernel
theorem dX10_makeInner_69 : decode cX10_makeInner 69 = .ok (.iadd, 1) := by decide +kernel
theorem dX10_makeInner_70 : decode cX10_makeInner 70 = .ok (.aload_n 0, 1) := by decide +kernel
theorem dX10_makeInner_71 : decode cX10_makeInner 71 = .ok (.getfield 45, 3) := by decide +kernel
theorem dX10_makeInner_74 : decode cX10_makeInner 74 = .ok (.iload_n 2, 1) := by decide +kernel
theorem dX10_makeInner_75 : decode cX10_makeInner 75 = .ok (.iaload, 1) := by decide +kernel
theorem dX10_makeInner_76 : decode cX10_makeInner 76 = .ok (.iastore, 1) := by decide +kernel
theorem dX10_makeInner_77 : decode cX10_makeInner 77 = .ok (.iinc 2 1, 3) := by decide +kernel
theorem dX10_makeInner_80 : decode cX10_makeInner 80 = .ok (.goto (-26), 3) := by decide +kernel
theorem dX10_makeInner_83 : decode cX10_makeInner 83 = .ok (.return_, 1) := by decide +kernel
theorem dX10_isTurned_0 : decode cX10_isTurned 0 = .ok (.iload_n 0, 1) := by decide +kernel
theorem dX10_isTurned_1 : decode cX10_isTurned 1 = .ok (.bipush 11, 2) := by decide +kernel
theorem dX10_isTurned_3 : decode cX10_isTurned 3 = .ok (.if_icmp .le 9, 3) := by decide +kernel
theorem dX10_isTurned_6 : decode cX10_isTurned 6 = .ok (.iload_n 0, 1) := by decide +kernel
theorem dX10_isTurned_7 : decode cX10_isTurned 7 = .ok (.bipush 16, 2) := by decide +kernel
theorem dX10_isTurned_9 : decode cX10_isTurned 9 = .ok (.if_icmp .lt 9, 3) := by decide +kernel
theorem dX10_isTurned_12 : decode cX10_isTurned 12 = .ok (.iload_n 0, 1) := by decide +kernel
theorem dX10_isTurned_13 : decode cX10_isTurned 13 = .ok (.bipush 27, 2) := by decide +kernel
theorem dX10_isTurned_15 : decode cX10_isTurned 15 = .ok (.if_icmp .le 7, 3) := by decide +kernel
theorem dX10_isTurned_18 : decode cX10_isTurned 18 = .ok (.iconst 1, 1) := by decide +kernel
theorem dX10_isTurned_19 : decode cX10_isTurned 19 = .ok (.goto 4, 3) := by decide +kernel
theorem dX10_isTurned_22 : decode cX10_isTurned 22 = .ok (.iconst 0, 1) := by decide +kernel
theorem dX10_isTurned_23 : decode cX10_isTurned 23 = .ok (.ireturn, 1) := by decide +kernel
theorem dX10_discByte_0 : decode cX10_discByte 0 = .ok (.iload_n 2, 1) := by decide +kernel
theorem dX10_discByte_1 : decode cX10_discByte 1 = .ok (.iconst 2, 1) := by decide +kernel
theorem dX10_discByte_2 : decode cX10_discByte 2 = .ok (.irem, 1) := by decide +kernel
theorem dX10_discByte_3 : decode cX10_discByte 3 = .ok (.ifCond .ne 9, 3) := by decide +kernel
theorem dX10_discByte_6 : decode cX10_discByte 6 = .ok (.iload_n 1, 1) := by decide +kernel
theorem dX10_discByte_7 : decode cX10_discByte 7 = .ok (.iconst 1, 1) := by decide +kernel
theorem dX10_discByte_8 : decode cX10_discByte 8 = .ok (.isub, 1) := by decide +kernel
theorem dX10_discByte_9 : decode cX10_discByte 9 = .ok (.goto 4, 3) := by decide +kernel
theorem dX10_discByte_12 : decode cX10_discByte 12 = .ok (.iload_n 1, 1) := by decide +kernel
theorem dX10_discByte_13 : decode cX10_discByte 13 = .ok (.istore_n 3, 1) := by decide +kernel
theorem dX10_discByte_14 : decode cX10_discByte 14 = .ok (.iload_n 3, 1) := by decide +kernel
theorem dX10_discByte_15 : decode cX10_discByte 15 = .ok (.ifCond .ge 7, 3) := by decide +kernel
theorem dX10_discByte_18 : decode cX10_discByte 18 = .ok (.iconst 0, 1) := by decide +kernel
theorem dX10_discByte_19 : decode cX10_discByte 19 = .ok (.goto 14, 3) := by decide +kernel
theorem dX10_discByte_22 : decode cX10_discByte 22 = .ok (.aload_n 0, 1) := by decide +kernel
theorem dX10_discByte_23 : decode cX10_discByte 23 = .ok (.getfield 64, 3) := by decide +kernel
theorem dX10_discByte_26 : decode cX10_discByte 26 = .ok (.bipush 32, 2) := by decide +kernel
theorem dX10_discByte_28 : decode cX10_discByte 28 = .ok (.iload_n 3, 1) := by decide +kernel
theorem dX10_discByte_29 : decode cX10_discByte 29 = .ok (.imul, 1) := by decide +kernel
theorem dX10_discByte_30 : decode cX10_discByte 30 = .ok (.iload_n 2, 1) := by decide +kernel
theorem dX10_discByte_31 : decode cX10_discByte 31 = .ok (.iadd, 1) := by decide +kernel
theorem dX10_discByte_32 : decode cX10_discByte 32 = .ok (.iaload, 1) := by decide +kernel
theorem dX10_discByte_33 : decode cX10_discByte 33 = .ok (.istore 4, 2) := by decide +kernel
theorem dX10_discByte_35 : decode cX10_discByte 35 = .ok (.iload_n 2, 1) := by decide +kernel
theorem dX10_discByte_36 : decode cX10_discByte 36 = .ok (.invokestatic 182, 3) := by decide +kernel
theorem dX10_discByte_39 : decode cX10_discByte 39 = .ok (.ifCond .eq 12, 3) := by decide +kernel
theorem dX10_discByte_42 : decode cX10_discByte 42 = .ok (.sipush 255, 3) := by decide +kernel
theorem dX10_discByte_45 : decode cX10_discByte 45 = .ok (.iload 4, 2) := by decide +kernel
theorem dX10_discByte_47 : decode cX10_discByte 47 = .ok (.isub, 1) := by decide +kernel
theorem dX10_discByte_48 : decode cX10_discByte 48 = .ok (.goto 5, 3) := by decide +kernel
theorem dX10_discByte_51 : decode cX10_discByte 51 = .ok (.iload 4, 2) := by decide +kernel
theorem dX10_discByte_53 : decode cX10_discByte 53 = .ok (.ireturn, 1) := by decide +kernel
theorem dX10_layBits_0 : decode cX10_layBits 0 = .ok (.iload_n 2, 1) := by decide +kernel
theorem dX10_layBits_1 : decode cX10_layBits 1 = .ok (.iconst 1, 1) := by decide +kernel
theorem dX10_layBits_2 : decode cX10_layBits 2 = .ok (.isub, 1) := by decide +kernel
theorem dX10_layBits_3 : decode cX10_layBits 3 = .ok (.istore_n 3, 1) := by decide +kernel
theorem dX10_layBits_4 : decode cX10_layBits 4 = .ok (.iload_n 3, 1) := by decide +kernel
theorem dX10_layBits_5 : decode cX10_layBits 5 = .ok (.ifCond .lt 109, 3) := by decide +kernel
theorem dX10_layBits_8 : decode cX10_layBits 8 = .ok (.iload_n 1, 1) := by decide +kernel
theorem dX10_layBits_9 : decode cX10_layBits 9 = .ok (.iload_n 3, 1) := by decide +kernel
theorem dX10_layBits_10 : decode cX10_layBits 10 = .ok (.ishr, 1) := by decide +kernel
theorem dX10_layBits_11 : decode cX10_layBits 11 = .ok (.iconst 1, 1) := by decide +kernel
theorem dX10_layBits_12 : decode cX10_layBits 12 = .ok (.iand, 1) := by decide +kernel
theorem dX10_layBits_13 : decode cX10_layBits 13 = .ok (.istore 4, 2) := by decide +kernel
theorem dX10_layBits_15 : decode cX10_layBits 15 = .ok (.aload_n 0, 1) := by decide +kernel
theorem dX10_layBits_16 : decode cX10_layBits 16 = .ok (.getfield 39, 3) := by decide +kernel
theorem dX10_layBits_19 : decode cX10_layBits 19 = .ok (.aload_n 0, 1) := by decide +kernel
theorem dX10_layBits_20 : decode cX10_layBits 20 = .ok (.getfield 185, 3) := by decide +kernel
theorem dX10_layBits_23 : decode cX10_layBits 23 = .ok (.iload 4, 2) := by decide +kernel
theorem dX10_layBits_25 : decode cX10_layBits 25 = .ok (.i2b, 1) := by decide +kernel
theorem dX10_layBits_26 : decode cX10_layBits 26 = .ok (.bastore, 1) := by decide +kernel
theorem dX10_layBits_27 : decode cX10_layBits 27 = .ok (.aload_n 0, 1) := by decide +kernel
theorem dX10_layBits_28 : decode cX10_layBits 28 = .ok (.dup, 1) := by decide +kernel
theorem dX10_layBits_29 : decode cX10_layBits 29 = .ok (.getfield 185, 3) := by decide +kernel
theorem dX10_layBits_32 : decode cX10_layBits 32 = .ok (.iconst 1, 1) := by decide +kernel
theorem dX10_layBits_33 : decode cX10_layBits 33 = .ok (.iadd, 1) := by decide +kernel
theorem dX10_layBits_34 : decode cX10_layBits 34 = .ok (.putfield 185, 3) := by decide +kernel
theorem dX10_layBits_37 : decode cX10_layBits 37 = .ok (.aload_n 0, 1) := by decide +kernel
theorem dX10_layBits_38 : decode cX10_layBits 38 = .ok (.iload 4, 2) := by decide +kernel
theorem dX10_layBits_40 : decode cX10_layBits 40 = .ok (.iconst 1, 1) := by decide +kernel
theorem dX10_layBits_41 : decode cX10_layBits 41 = .ok (.if_icmp .ne 7, 3) := by decide +kernel
theorem dX10_layBits_44 : decode cX10_layBits 44 = .ok (.iconst 0, 1) := by decide +kernel
theorem dX10_layBits_45 : decode cX10_layBits 45 = .ok (.goto 9, 3) := by decide +kernel
theorem dX10_layBits_48 : decode cX10_layBits 48 = .ok (.aload_n 0, 1) := by decide +kernel
theorem dX10_layBits_49 : decode cX10_layBits 49 = .ok (.getfield 188, 3) := by decide +kernel
theorem dX10_layBits_52 : decode cX10_layBits 52 = .ok (.iconst 1, 1) := by decide +kernel
theorem dX10_layBits_53 : decode cX10_layBits 53 = .ok (.iadd, 1) := by decide +kernel
theorem dX10_layBits_54 : decode cX10_layBits 54 = .ok (.putfield 188, 3) := by decide +kernel
theorem dX10_layBits_57 : decode cX10_layBits 57 = .ok (.aload_n 0, 1) := by decide +kernel
theorem dX10_layBits_58 : decode cX10_layBits 58 = .ok (.iload 4, 2) := by decide +kernel
theorem dX10_layBits_60 : decode cX10_layBits 60 = .ok (.iconst 1, 1) := by decide +kernel
theorem dX10_layBits_61 : decode cX10_layBits 61 = .ok (.if_icmp .ne 11, 3) := by decide +kernel
theorem dX10_layBits_64 : decode cX10_layBits 64 = .ok (.aload_n 0, 1) := by decide +kernel
theorem dX10_layBits_65 : decode cX10_layBits 65 = .ok (.getfield 191, 3) := by decide +kernel
theorem dX10_layBits_68 : decode cX10_layBits 68 = .ok (.ineg, 1) := by decide +kernel
theorem dX10_layBits_69 : decode cX10_layBits 69 = .ok (.goto 7, 3) := by decide +kernel
theorem dX10_layBits_72 : decode cX10_layBits 72 = .ok (.aload_n 0, 1) := by decide +kernel
theorem dX10_layBits_73 : decode cX10_layBits 73 = .ok (.getfield 191, 3) := by decide +kernel
theorem dX10_layBits_76 : decode cX10_layBits 76 = .ok (.putfield 191, 3) := by decide +kernel
theorem dX10_layBits_79 : decode cX10_layBits 79 = .ok (.aload_n 0, 1) := by decide +kernel
theorem dX10_layBits_80 : decode cX10_layBits 80 = .ok (.dup, 1) := by decide +kernel
theorem dX10_layBits_81 : decode cX10_layBits 81 = .ok (.getfield 194, 3) := by decide +kernel
theorem dX10_layBits_84 : decode cX10_layBits 84 = .ok (.aload_n 0, 1) := by decide +kernel
theorem dX10_layBits_85 : decode cX10_layBits 85 = .ok (.getfield 191, 3) := by decide +kernel
theorem dX10_layBits_88 : decode cX10_layBits 88 = .ok (.iadd, 1) := by decide +kernel
theorem dX10_layBits_89 : decode cX10_layBits 89 = .ok (.putfield 194, 3) := by decide +kernel
theorem dX10_layBits_92 : decode cX10_layBits 92 = .ok (.aload_n 0, 1) := by decide +kernel
theorem dX10_layBits_93 : decode cX10_layBits 93 = .ok (.aload_n 0, 1) := by decide +kernel
theorem dX10_layBits_94 : decode cX10_layBits 94 = .ok (.getfield 197, 3) := by decide +kernel
theorem dX10_layBits_97 : decode cX10_layBits 97 = .ok (.iconst 1, 1) := by decide +kernel
theorem dX10_layBits_98 : decode cX10_layBits 98 = .ok (.ishl, 1) := by decide +kernel
theorem dX10_layBits_99 : decode cX10_layBits 99 = .ok (.iload 4, 2) := by decide +kernel
theorem dX10_layBits_101 : decode cX10_layBits 101 = .ok (.ior, 1) := by decide +kernel
theorem dX10_layBits_102 : decode cX10_layBits 102 = .ok (.ldc 200, 2) := by decide +kernel
theorem dX10_layBits_104 : decode cX10_layBits 104 = .ok (.iand, 1) := by decide +kernel
theorem dX10_layBits_105 : decode cX10_layBits 105 = .ok (.putfield 197, 3) := by decide +kernel
theorem dX10_layBits_108 : decode cX10_layBits 108 = .ok (.iinc 3 (-1), 3) := by decide +kernel
theorem dX10_layBits_111 : decode cX10_layBits 111 = .ok (.goto (-107), 3) := by decide +kernel
theorem dX10_layBits_114 : decode cX10_layBits 114 = .ok (.return_, 1) := by decide +kernel
theorem dX10_tryJoint_0 : decode cX10_tryJoint 0 = .ok (.aload_n 0, 1) := by decide +kernel
theorem dX10_tryJoint_1 : decode cX10_tryJoint 1 = .ok (.getfield 188, 3) := by decide +kernel
theorem dX10_tryJoint_4 : decode cX10_tryJoint 4 = .ok (.istore 4, 2) := by decide +kernel
theorem dX10_tryJoint_6 : decode cX10_tryJoint 6 = .ok (.aload_n 0, 1) := by decide +kernel
theorem dX10_tryJoint_7 : decode cX10_tryJoint 7 = .ok (.getfield 191, 3) := by decide +kernel
theorem dX10_tryJoint_10 : decode cX10_tryJoint 10 = .ok (.istore 5, 2) := by decide +kernel
theorem dX10_tryJoint_12 : decode cX10_tryJoint 12 = .ok (.aload_n 0, 1) := by decide +kernel
theorem dX10_tryJoint_13 : decode cX10_tryJoint 13 = .ok (.getfield 197, 3) := by decide +kernel
theorem dX10_tryJoint_16 : decode cX10_tryJoint 16 = .ok (.istore 6, 2) := by decide +kernel
theorem dX10_tryJoint_18 : decode cX10_tryJoint 18 = .ok (.iconst 0, 1) := by decide +kernel
theorem dX10_tryJoint_19 : decode cX10_tryJoint 19 = .ok (.istore 7, 2) := by decide +kernel
theorem dX10_tryJoint_21 : decode cX10_tryJoint 21 = .ok (.aload_n 0, 1) := by decide +kernel
theorem dX10_tryJoint_22 : decode cX10_tryJoint 22 = .ok (.iconst 1, 1) := by decide +kernel
theorem dX10_tryJoint_23 : decode cX10_tryJoint 23 = .ok (.putfield 201, 3) := by decide +kernel
theorem dX10_tryJoint_26 : decode cX10_tryJoint 26 = .ok (.aload_n 0, 1) := by decide +kernel
theorem dX10_tryJoint_27 : decode cX10_tryJoint 27 = .ok (.iconst 0, 1) := by decide +kernel
theorem dX10_tryJoint_28 : decode cX10_tryJoint 28 = .ok (.putfield 205, 3) := by decide +kernel
theorem dX10_tryJoint_31 : decode cX10_tryJoint 31 = .ok (.aload_n 0, 1) := by decide +kernel
theorem dX10_tryJoint_32 : decode cX10_tryJoint 32 = .ok (.aload_n 0, 1) := by decide +kernel
theorem dX10_tryJoint_33 : decode cX10_tryJoint 33 = .ok (.getfield 194, 3) := by decide +kernel
theorem dX10_tryJoint_36 : decode cX10_tryJoint 36 = .ok (.putfield 208, 3) := by decide +kernel
theorem dX10_tryJoint_39 : decode cX10_tryJoint 39 = .ok (.iload_n 3, 1) := by decide +kernel
theorem dX10_tryJoint_40 : decode cX10_tryJoint 40 = .ok (.iconst 2, 1) := by decide +kernel
theorem dX10_tryJoint_41 : decode cX10_tryJoint 41 = .ok (.iadd, 1) := by decide +kernel
theorem dX10_tryJoint_42 : decode cX10_tryJoint 42 = .ok (.istore 8, 2) := by decide +kernel
theorem dX10_tryJoint_44 : decode cX10_tryJoint 44 = .ok (.iload 8, 2) := by decide +kernel
theorem dX10_tryJoint_46 : decode cX10_tryJoint 46 = .ok (.ifCond .lt 171, 3) := by decide +kernel
theorem dX10_tryJoint_49 : decode cX10_tryJoint 49 = .ok (.iload 8, 2) := by decide +kernel
theorem dX10_tryJoint_51 : decode cX10_tryJoint 51 = .ok (.iload_n 3, 1) := by decide +kernel
theorem dX10_tryJoint_52 : decode cX10_tryJoint 52 = .ok (.if_icmp .lt 14, 3) := by decide +kernel
theorem dX10_tryJoint_55 : decode cX10_tryJoint 55 = .ok (.iload_n 1, 1) := by decide +kernel
theorem dX10_tryJoint_56 : decode cX10_tryJoint 56 = .ok (.iload 8, 2) := by decide +kernel
theorem dX10_tryJoint_58 : decode cX10_tryJoint 58 = .ok (.iload_n 3, 1) := by decide +kernel
theorem dX10_tryJoint_59 : decode cX10_tryJoint 59 = .ok (.isub, 1) := by decide +kernel
theorem dX10_tryJoint_60 : decode cX10_tryJoint 60 = .ok (.ishr, 1) := by decide +kernel
theorem dX10_tryJoint_61 : decode cX10_tryJoint 61 = .ok (.iconst 1, 1) := by decide +kernel
theorem dX10_tryJoint_62 : decode cX10_tryJoint 62 = .ok (.iand, 1) := by decide +kernel
theorem dX10_tryJoint_63 : decode cX10_tryJoint 63 = .ok (.goto 9, 3) := by decide +kernel
theorem dX10_tryJoint_66 : decode cX10_tryJoint 66 = .ok (.iload_n 2, 1) := by decide +kernel
theorem dX10_tryJoint_67 : decode cX10_tryJoint 67 = .ok (.iload 8, 2) := by decide +kernel
theorem dX10_tryJoint_69 : decode cX10_tryJoint 69 = .ok (.ishr, 1) := by decide +kernel
theorem dX10_tryJoint_70 : decode cX10_tryJoint 70 = .ok (.iconst 1, 1) := by decide +kernel
theorem dX10_tryJoint_71 : decode cX10_tryJoint 71 = .ok (.iand, 1) := by decide +kernel
theorem dX10_tryJoint_72 : decode cX10_tryJoint 72 = .ok (.istore 9, 2) := by decide +kernel
theorem dX10_tryJoint_74 : decode cX10_tryJoint 74 = .ok (.iload 9, 2) := by decide +kernel
theorem dX10_tryJoint_76 : decode cX10_tryJoint 76 = .ok (.iconst 1, 1) := by decide +kernel
theorem dX10_tryJoint_77 : decode cX10_tryJoint 77 = .ok (.if_icmp .ne 50, 3) := by decide +kernel
theorem dX10_tryJoint_80 : decode cX10_tryJoint 80 = .ok (.iload 7, 2) := by decide +kernel
theorem dX10_tryJoint_82 : decode cX10_tryJoint 82 = .ok (.ifCond .ne 45, 3) := by decide +kernel
theorem dX10_tryJoint_85 : decode cX10_tryJoint 85 = .ok (.aload_n 0, 1) := by decide +kernel
theorem dX10_tryJoint_86 : decode cX10_tryJoint 86 = .ok (.aload_n 0, 1) := by decide +kernel
theorem dX10_tryJoint_87 : decode cX10_tryJoint 87 = .ok (.getfield 201, 3) := by decide +kernel
theorem dX10_tryJoint_90 : decode cX10_tryJoint 90 = .ok (.ifCond .eq 20, 3) := by decide +kernel
theorem dX10_tryJoint_93 : decode cX10_tryJoint 93 = .ok (.iload 4, 2) := by decide +kernel
theorem dX10_tryJoint_95 : decode cX10_tryJoint 95 = .ok (.iconst 1, 1) := by decide +kernel
theorem dX10_tryJoint_96 : decode cX10_tryJoint 96 = .ok (.if_icmp .le 14, 3) := by decide +kernel
theorem dX10_tryJoint_99 : decode cX10_tryJoint 99 = .ok (.iload 4, 2) := by decide +kernel
theorem dX10_tryJoint_101 : decode cX10_tryJoint 101 = .ok (.bipush 11, 2) := by decide +kernel
theorem dX10_tryJoint_103 : decode cX10_tryJoint 103 = .ok (.if_icmp .ge 7, 3) := by decide +kernel
theorem dX10_tryJoint_106 : decode cX10_tryJoint 106 = .ok (.iconst 1, 1) := by decide +kernel
theorem dX10_tryJoint_107 : decode cX10_tryJoint 107 = .ok (.goto 4, 3) := by decide +kernel
theorem dX10_tryJoint_110 : decode cX10_tryJoint 110 = .ok (.iconst 0, 1) := by decide +kernel
theorem dX10_tryJoint_111 : decode cX10_tryJoint 111 = .ok (.putfield 201, 3) := by decide +kernel
theorem dX10_tryJoint_114 : decode cX10_tryJoint 114 = .ok (.iload 8, 2) := by decide +kernel
theorem dX10_tryJoint_116 : decode cX10_tryJoint 116 = .ok (.iload_n 3, 1) := by decide +kernel
theorem dX10_tryJoint_117 : decode cX10_tryJoint 117 = .ok (.if_icmp .ge 7, 3) := by decide +kernel
theorem dX10_tryJoint_120 : decode cX10_tryJoint 120 = .ok (.iconst 1, 1) := by decide +kernel
theorem dX10_tryJoint_121 : decode cX10_tryJoint 121 = .ok (.goto 4, 3) := by decide +kernel
theorem dX10_tryJoint_124 : decode cX10_tryJoint 124 = .ok (.iconst 0, 1) := by decide +kernel
theorem dX10_tryJoint_125 : decode cX10_tryJoint 125 = .ok (.istore 7, 2) := by decide +kernel
theorem dX10_tryJoint_127 : decode cX10_tryJoint 127 = .ok (.iload 9, 2) := by decide +kernel
theorem dX10_tryJoint_129 : decode cX10_tryJoint 129 = .ok (.iconst 1, 1) := by decide +kernel
theorem dX10_tryJoint_130 : decode cX10_tryJoint 130 = .ok (.if_icmp .ne 7, 3) := by decide +kernel
theorem dX10_tryJoint_133 : decode cX10_tryJoint 133 = .ok (.iconst 0, 1) := by decide +kernel
theorem dX10_tryJoint_134 : decode cX10_tryJoint 134 = .ok (.goto 7, 3) := by decide +kernel
theorem dX10_tryJoint_137 : decode cX10_tryJoint 137 = .ok (.iload 4, 2) := by decide +kernel
theorem dX10_tryJoint_139 : decode cX10_tryJoint 139 = .ok (.iconst 1, 1) := by decide +kernel
theorem dX10_tryJoint_140 : decode cX10_tryJoint 140 = .ok (.iadd, 1) := by decide +kernel
theorem dX10_tryJoint_141 : decode cX10_tryJoint 141 = .ok (.istore 4, 2) := by decide +kernel
theorem dX10_tryJoint_143 : decode cX10_tryJoint 143 = .ok (.iload 9, 2) := by decide +kernel
theorem dX10_tryJoint_145 : decode cX10_tryJoint 145 = .ok (.iconst 1, 1) := by decide +kernel
theorem dX10_tryJoint_146 : decode cX10_tryJoint 146 = .ok (.if_icmp .ne 9, 3) := by decide +kernel
theorem dX10_tryJoint_149 : decode cX10_tryJoint 149 = .ok (.iload 5, 2) := by decide +kernel
theorem dX10_tryJoint_151 : decode cX10_tryJoint 151 = .ok (.ineg, 1) := by decide +kernel
theorem dX10_tryJoint_152 : decode cX10_tryJoint 152 = .ok (.goto 5, 3) := by decide +kernel
theorem dX10_tryJoint_155 : decode cX10_tryJoint 155 = .ok (.iload 5, 2) := by decide +kernel
theorem dX10_tryJoint_157 : decode cX10_tryJoint 157 = .ok (.istore 5, 2) := by decide +kernel
theorem dX10_tryJoint_159 : decode cX10_tryJoint 159 = .ok (.aload_n 0, 1) := by decide +kernel
theorem dX10_tryJoint_160 : decode cX10_tryJoint 160 = .ok (.dup, 1) := by decide +kernel
theorem dX10_tryJoint_161 : decode cX10_tryJoint 161 = .ok (.getfield 208, 3) := by decide +kernel
theorem dX10_tryJoint_164 : decode cX10_tryJoint 164 = .ok (.iload 5, 2) := by decide +kernel
theorem dX10_tryJoint_166 : decode cX10_tryJoint 166 = .ok (.iadd, 1) := by decide +kernel
theorem dX10_tryJoint_167 : decode cX10_tryJoint 167 = .ok (.putfield 208, 3) := by decide +kernel
theorem dX10_tryJoint_170 : decode cX10_tryJoint 170 = .ok (.iload 6, 2) := by decide +kernel
theorem dX10_tryJoint_172 : decode cX10_tryJoint 172 = .ok (.iconst 1, 1) := by decide +kernel
theorem dX10_tryJoint_173 : decode cX10_tryJoint 173 = .ok (.ishl, 1) := by decide +kernel
theorem dX10_tryJoint_174 : decode cX10_tryJoint 174 = .ok (.iload 9, 2) := by decide +kernel
theorem dX10_tryJoint_176 : decode cX10_tryJoint 176 = .ok (.ior, 1) := by decide +kernel
theorem dX10_tryJoint_177 : decode cX10_tryJoint 177 = .ok (.ldc 200, 2) := by decide +kernel
theorem dX10_tryJoint_179 : decode cX10_tryJoint 179 = .ok (.iand, 1) := by decide +kernel
theorem dX10_tryJoint_180 : decode cX10_tryJoint 180 = .ok (.istore 6, 2) := by decide +kernel
theorem dX10_tryJoint_182 : decode cX10_tryJoint 182 = .ok (.aload_n 0, 1) := by decide +kernel
theorem dX10_tryJoint_183 : decode cX10_tryJoint 183 = .ok (.aload_n 0, 1) := by decide +kernel
theorem dX10_tryJoint_184 : decode cX10_tryJoint 184 = .ok (.getfield 205, 3) := by decide +kernel
theorem dX10_tryJoint_187 : decode cX10_tryJoint 187 = .ok (.ifCond .ne 16, 3) := by decide +kernel
theorem dX10_tryJoint_190 : decode cX10_tryJoint 190 = .ok (.iload_n 3, 1) := by decide +kernel
theorem dX10_tryJoint_191 : decode cX10_tryJoint 191 = .ok (.bipush 14, 2) := by decide +kernel
theorem dX10_tryJoint_193 : decode cX10_tryJoint 193 = .ok (.if_icmp .ne 14, 3) := by decide +kernel
theorem dX10_tryJoint_196 : decode cX10_tryJoint 196 = .ok (.iload 6, 2) := by decide +kernel
theorem dX10_tryJoint_198 : decode cX10_tryJoint 198 = .ok (.ldc 211, 2) := by decide +kernel
theorem dX10_tryJoint_200 : decode cX10_tryJoint 200 = .ok (.if_icmp .ne 7, 3) := by decide +kernel
theorem dX10_tryJoint_203 : decode cX10_tryJoint 203 = .ok (.iconst 1, 1) := by decide +kernel
theorem dX10_tryJoint_204 : decode cX10_tryJoint 204 = .ok (.goto 4, 3) := by decide +kernel
theorem dX10_tryJoint_207 : decode cX10_tryJoint 207 = .ok (.iconst 0, 1) := by decide +kernel
theorem dX10_tryJoint_208 : decode cX10_tryJoint 208 = .ok (.putfield 205, 3) := by decide +kernel
theorem dX10_tryJoint_211 : decode cX10_tryJoint 211 = .ok (.iinc 8 (-1), 3) := by decide +kernel
theorem dX10_tryJoint_214 : decode cX10_tryJoint 214 = .ok (.goto (-170), 3) := by decide +kernel
theorem dX10_tryJoint_217 : decode cX10_tryJoint 217 = .ok (.return_, 1) := by decide +kernel
theorem dX10_jointFor_0 : decode cX10_jointFor 0 = .ok (.iconst (-1), 1) := by decide +kernel
theorem dX10_jointFor_1 : decode cX10_jointFor 1 = .ok (.istore_n 3, 1) := by decide +kernel
theorem dX10_jointFor_2 : decode cX10_jointFor 2 = .ok (.iconst 0, 1) := by decide +kernel
theorem dX10_jointFor_3 : decode cX10_jointFor 3 = .ok (.istore 4, 2) := by decide +kernel
theorem dX10_jointFor_5 : decode cX10_jointFor 5 = .ok (.iconst 0, 1) := by decide +kernel
theorem dX10_jointFor_6 : decode cX10_jointFor 6 = .ok (.istore 5, 2) := by decide +kernel
theorem dX10_jointFor_8 : decode cX10_jointFor 8 = .ok (.iconst 0, 1) := by decide +kernel
theorem dX10_jointFor_9 : decode cX10_jointFor 9 = .ok (.istore 6, 2) := by decide +kernel
theorem dX10_jointFor_11 : decode cX10_jointFor 11 = .ok (.iload 6, 2) := by decide +kernel
theorem dX10_jointFor_13 : decode cX10_jointFor 13 = .ok (.iconst 4, 1) := by decide +kernel
theorem dX10_jointFor_14 : decode cX10_jointFor 14 = .ok (.if_icmp .ge 114, 3) := by decide +kernel
theorem dX10_jointFor_17 : decode cX10_jointFor 17 = .ok (.iload 6, 2) := by decide +kernel
theorem dX10_jointFor_19 : decode cX10_jointFor 19 = .ok (.ifCond .ne 7, 3) := by decide +kernel
theorem dX10_jointFor_22 : decode cX10_jointFor 22 = .ok (.iconst 0, 1) := by decide +kernel
theorem dX10_jointFor_23 : decode cX10_jointFor 23 = .ok (.goto 9, 3) := by decide +kernel
theorem dX10_jointFor_26 : decode cX10_jointFor 26 = .ok (.iconst 1, 1) := by decide +kernel
theorem dX10_jointFor_27 : decode cX10_jointFor 27 = .ok (.iload 6, 2) := by decide +kernel
theorem dX10_jointFor_29 : decode cX10_jointFor 29 = .ok (.iconst 1, 1) := by decide +kernel
theorem dX10_jointFor_30 : decode cX10_jointFor 30 = .ok (.isub, 1) := by decide +kernel
theorem dX10_jointFor_31 : decode cX10_jointFor 31 = .ok (.ishl, 1) := by decide +kernel
theorem dX10_jointFor_32 : decode cX10_jointFor 32 = .ok (.istore 7, 2) := by decide +kernel
theorem dX10_jointFor_34 : decode cX10_jointFor 34 = .ok (.aload_n 0, 1) := by decide +kernel
theorem dX10_jointFor_35 : decode cX10_jointFor 35 = .ok (.iload 7, 2) := by decide +kernel
theorem dX10_jointFor_37 : decode cX10_jointFor 37 = .ok (.iload_n 1, 1) := by decide +kernel
theorem dX10_jointFor_38 : decode cX10_jointFor 38 = .ok (.iload_n 2, 1) := by decide +kernel
theorem dX10_jointFor_39 : decode cX10_jointFor 39 = .ok (.invokevirtual 212, 3) := by decide +kernel
theorem dX10_jointFor_42 : decode cX10_jointFor 42 = .ok (.aload_n 0, 1) := by decide +kernel
theorem dX10_jointFor_43 : decode cX10_jointFor 43 = .ok (.getfield 208, 3) := by decide +kernel
theorem dX10_jointFor_46 : decode cX10_jointFor 46 = .ok (.ifCond .ge 11, 3) := by decide +kernel
theorem dX10_jointFor_49 : decode cX10_jointFor 49 = .ok (.aload_n 0, 1) := by decide +kernel
theorem dX10_jointFor_50 : decode cX10_jointFor 50 = .ok (.getfield 208, 3) := by decide +kernel
theorem dX10_jointFor_53 : decode cX10_jointFor 53 = .ok (.ineg, 1) := by decide +kernel
theorem dX10_jointFor_54 : decode cX10_jointFor 54 = .ok (.goto 7, 3) := by decide +kernel
theorem dX10_jointFor_57 : decode cX10_jointFor 57 = .ok (.aload_n 0, 1) := by decide +kernel
theorem dX10_jointFor_58 : decode cX10_jointFor 58 = .ok (.getfield 208, 3) := by decide +kernel
theorem dX10_jointFor_61 : decode cX10_jointFor 61 = .ok (.istore 8, 2) := by decide +kernel
theorem dX10_jointFor_63 : decode cX10_jointFor 63 = .ok (.aload_n 0, 1) := by decide +kernel
theorem dX10_jointFor_64 : decode cX10_jointFor 64 = .ok (.getfield 201, 3) := by decide +kernel
theorem dX10_jointFor_67 : decode cX10_jointFor 67 = .ok (.ifCond .eq 55, 3) := by decide +kernel
theorem dX10_jointFor_70 : decode cX10_jointFor 70 = .ok (.iload_n 3, 1) := by decide +kernel
theorem dX10_jointFor_71 : decode cX10_jointFor 71 = .ok (.iconst (-1), 1) := by decide +kernel
theorem dX10_jointFor_72 : decode cX10_jointFor 72 = .ok (.if_icmp .eq 37, 3) := by decide +kernel
theorem dX10_jointFor_75 : decode cX10_jointFor 75 = .ok (.iload 5, 2) := by decide +kernel
theorem dX10_jointFor_77 : decode cX10_jointFor 77 = .ok (.ifCond .eq 10, 3) := by decide +kernel
theorem dX10_jointFor_80 : decode cX10_jointFor 80 = .ok (.aload_n 0, 1) := by decide +kernel
theorem dX10_jointFor_81 : decode cX10_jointFor 81 = .ok (.getfield 205, 3) := by decide +kernel
theorem dX10_jointFor_84 : decode cX10_jointFor 84 = .ok (.ifCond .eq 25, 3) := by decide +kernel
theorem dX10_jointFor_87 : decode cX10_jointFor 87 = .ok (.aload_n 0, 1) := by decide +kernel
theorem dX10_jointFor_88 : decode cX10_jointFor 88 = .ok (.getfield 205, 3) := by decide +kernel
theorem dX10_jointFor_91 : decode cX10_jointFor 91 = .ok (.ifCond .eq 8, 3) := by decide +kernel
theorem dX10_jointFor_94 : decode cX10_jointFor 94 = .ok (.iload 5, 2) := by decide +kernel
theorem dX10_jointFor_96 : decode cX10_jointFor 96 = .ok (.ifCond .eq 26, 3) := by decide +kernel
theorem dX10_jointFor_99 : decode cX10_jointFor 99 = .ok (.iload 8, 2) := by decide +kernel
theorem dX10_jointFor_101 : decode cX10_jointFor 101 = .ok (.iload 4, 2) := by decide +kernel
theorem dX10_jointFor_103 : decode cX10_jointFor 103 = .ok (.if_icmp .lt 6, 3) := by decide +kernel
theorem dX10_jointFor_106 : decode cX10_jointFor 106 = .ok (.goto 16, 3) := by decide +kernel
theorem dX10_jointFor_109 : decode cX10_jointFor 109 = .ok (.iload 7, 2) := by decide +kernel
theorem dX10_jointFor_111 : decode cX10_jointFor 111 = .ok (.istore_n 3, 1) := by decide +kernel
theorem dX10_jointFor_112 : decode cX10_jointFor 112 = .ok (.iload 8, 2) := by decide +kernel
theorem dX10_jointFor_114 : decode cX10_jointFor 114 = .ok (.istore 4, 2) := by decide +kernel
theorem dX10_jointFor_116 : decode cX10_jointFor 116 = .ok (.aload_n 0, 1) := by decide +kernel
theorem dX10_jointFor_117 : decode cX10_jointFor 117 = .ok (.getfield 205, 3) := by decide +kernel
theorem dX10_jointFor_120 : decode cX10_jointFor 120 = .ok (.istore 5, 2) := by decide +kernel
theorem dX10_jointFor_122 : decode cX10_jointFor 122 = .ok (.iinc 6 1, 3) := by decide +kernel
theorem dX10_jointFor_125 : decode cX10_jointFor 125 = .ok (.goto (-114), 3) := by decide +kernel
theorem dX10_jointFor_128 : decode cX10_jointFor 128 = .ok (.iload_n 3, 1) := by decide +kernel
theorem dX10_jointFor_129 : decode cX10_jointFor 129 = .ok (.ireturn, 1) := by decide +kernel
theorem dX10_layWord_0 : decode cX10_layWord 0 = .ok (.aload_n 0, 1) := by decide +kernel
theorem dX10_layWord_1 : decode cX10_layWord 1 = .ok (.iload_n 1, 1) := by decide +kernel
theorem dX10_layWord_2 : decode cX10_layWord 2 = .ok (.iload_n 2, 1) := by decide +kernel
theorem dX10_layWord_3 : decode cX10_layWord 3 = .ok (.invokevirtual 216, 3) := by decide +kernel
theorem dX10_layWord_6 : decode cX10_layWord 6 = .ok (.istore_n 3, 1) := by decide +kernel
theorem dX10_layWord_7 : decode cX10_layWord 7 = .ok (.aload_n 0, 1) := by decide +kernel
theorem dX10_layWord_8 : decode cX10_layWord 8 = .ok (.iload_n 3, 1) := by decide +kernel
theorem dX10_layWord_9 : decode cX10_layWord 9 = .ok (.iconst 3, 1) := by decide +kernel
theorem dX10_layWord_10 : decode cX10_layWord 10 = .ok (.invokevirtual 219, 3) := by decide +kernel
theorem dX10_layWord_13 : decode cX10_layWord 13 = .ok (.aload_n 0, 1) := by decide +kernel
theorem dX10_layWord_14 : decode cX10_layWord 14 = .ok (.iload_n 1, 1) := by decide +kernel
theorem dX10_layWord_15 : decode cX10_layWord 15 = .ok (.iload_n 2, 1) := by decide +kernel
theorem dX10_layWord_16 : decode cX10_layWord 16 = .ok (.invokevirtual 219, 3) := by decide +kernel
theorem dX10_layWord_19 : decode cX10_layWord 19 = .ok (.return_, 1) := by decide +kernel
theorem dX10_entryFor_0 : decode cX10_entryFor 0 = .ok (.iconst (-1), 1) := by decide +kernel
theorem dX10_entryFor_1 : decode cX10_entryFor 1 = .ok (.istore_n 2, 1) := by decide +kernel
theorem dX10_entryFor_2 : decode cX10_entryFor 2 = .ok (.iconst 0, 1) := by decide +kernel
theorem dX10_entryFor_3 : decode cX10_entryFor 3 = .ok (.istore_n 3, 1) := by decide +kernel
theorem dX10_entryFor_4 : decode cX10_entryFor 4 = .ok (.iload_n 3, 1) := by decide +kernel
theorem dX10_entryFor_5 : decode cX10_entryFor 5 = .ok (.aload_n 0, 1) := by decide +kernel
theorem dX10_entryFor_6 : decode cX10_entryFor 6 = .ok (.getfield 166, 3) := by decide +kernel
theorem dX10_entryFor_9 : decode cX10_entryFor 9 = .ok (.if_icmp .ge 40, 3) := by decide +kernel
theorem dX10_entryFor_12 : decode cX10_entryFor 12 = .ok (.aload_n 0, 1) := by decide +kernel
theorem dX10_entryFor_13 : decode cX10_entryFor 13 = .ok (.getfield 26, 3) := by decide +kernel
theorem dX10_entryFor_16 : decode cX10_entryFor 16 = .ok (.iload_n 3, 1) := by decide +kernel
theorem dX10_entryFor_17 : decode cX10_entryFor 17 = .ok (.iaload, 1) := by decide +kernel
theorem dX10_entryFor_18 : decode cX10_entryFor 18 = .ok (.iload_n 1, 1) := by decide +kernel
theorem dX10_entryFor_19 : decode cX10_entryFor 19 = .ok (.if_icmp .gt 24, 3) := by decide +kernel
theorem dX10_entryFor_22 : decode cX10_entryFor 22 = .ok (.iload_n 2, 1) := by decide +kernel
theorem dX10_entryFor_23 : decode cX10_entryFor 23 = .ok (.ifCond .lt 18, 3) := by decide +kernel
theorem dX10_entryFor_26 : decode cX10_entryFor 26 = .ok (.aload_n 0, 1) := by decide +kernel
theorem dX10_entryFor_27 : decode cX10_entryFor 27 = .ok (.getfield 26, 3) := by decide +kernel
theorem dX10_entryFor_30 : decode cX10_entryFor 30 = .ok (.iload_n 3, 1) := by decide +kernel
theorem dX10_entryFor_31 : decode cX10_entryFor 31 = .ok (.iaload, 1) := by decide +kernel
theorem dX10_entryFor_32 : decode cX10_entryFor 32 = .ok (.aload_n 0, 1) := by decide +kernel
theorem dX10_entryFor_33 : decode cX10_entryFor 33 = .ok (.getfield 26, 3) := by decide +kernel
theorem dX10_entryFor_36 : decode cX10_entryFor 36 = .ok (.iload_n 2, 1) := by decide +kernel
theorem dX10_entryFor_37 : decode cX10_entryFor 37 = .ok (.iaload, 1) := by decide +kernel
theorem dX10_entryFor_38 : decode cX10_entryFor 38 = .ok (.if_icmp .lt 5, 3) := by decide +kernel
theorem dX10_entryFor_41 : decode cX10_entryFor 41 = .ok (.iload_n 3, 1) := by decide +kernel
theorem dX10_entryFor_42 : decode cX10_entryFor 42 = .ok (.istore_n 2, 1) := by decide +kernel
theorem dX10_entryFor_43 : decode cX10_entryFor 43 = .ok (.iinc 3 1, 3) := by decide +kernel
theorem dX10_entryFor_46 : decode cX10_entryFor 46 = .ok (.goto (-42), 3) := by decide +kernel
theorem dX10_entryFor_49 : decode cX10_entryFor 49 = .ok (.iload_n 2, 1) := by decide +kernel
theorem dX10_entryFor_50 : decode cX10_entryFor 50 = .ok (.ireturn, 1) := by decide +kernel
theorem dX10_trackOf_0 : decode cX10_trackOf 0 = .ok (.aload_n 0, 1) := by decide +kernel
theorem dX10_trackOf_1 : decode cX10_trackOf 1 = .ok (.iload_n 1, 1) := by decide +kernel
theorem dX10_trackOf_2 : decode cX10_trackOf 2 = .ok (.invokevirtual 222, 3) := by decide +kernel
theorem dX10_trackOf_5 : decode cX10_trackOf 5 = .ok (.ifCond .ge 7, 3) := by decide +kernel
theorem dX10_trackOf_8 : decode cX10_trackOf 8 = .ok (.iconst 1, 1) := by decide +kernel
theorem dX10_trackOf_9 : decode cX10_trackOf 9 = .ok (.goto 13, 3) := by decide +kernel
theorem dX10_trackOf_12 : decode cX10_trackOf 12 = .ok (.aload_n 0, 1) := by decide +kernel
theorem dX10_trackOf_13 : decode cX10_trackOf 13 = .ok (.getfield 32, 3) := by decide +kernel
theorem dX10_trackOf_16 : decode cX10_trackOf 16 = .ok (.aload_n 0, 1) := by decide +kernel
theorem dX10_trackOf_17 : decode cX10_trackOf 17 = .ok (.iload_n 1, 1) := by decide +kernel
theorem dX10_trackOf_18 : decode cX10_trackOf 18 = .ok (.invokevirtual 222, 3) := by decide +kernel
theorem dX10_trackOf_21 : decode cX10_trackOf 21 = .ok (.iaload, 1) := by decide +kernel
theorem dX10_trackOf_22 : decode cX10_trackOf 22 = .ok (.ireturn, 1) := by decide +kernel
theorem dX10_indexOf_0 : decode cX10_indexOf 0 = .ok (.aload_n 0, 1) := by decide +kernel
theorem dX10_indexOf_1 : decode cX10_indexOf 1 = .ok (.iload_n 1, 1) := by decide +kernel
theorem dX10_indexOf_2 : decode cX10_indexOf 2 = .ok (.invokevirtual 222, 3) := by decide +kernel
theorem dX10_indexOf_5 : decode cX10_indexOf 5 = .ok (.ifCond .ge 7, 3) := by decide +kernel
theorem dX10_indexOf_8 : decode cX10_indexOf 8 = .ok (.iconst 1, 1) := by decide +kernel
theorem dX10_indexOf_9 : decode cX10_indexOf 9 = .ok (.goto 13, 3) := by decide +kernel
theorem dX10_indexOf_12 : decode cX10_indexOf 12 = .ok (.aload_n 0, 1) := by decide +kernel
theorem dX10_indexOf_13 : decode cX10_indexOf 13 = .ok (.getfield 35, 3) := by decide +kernel
theorem dX10_indexOf_16 : decode cX10_indexOf 16 = .ok (.aload_n 0, 1) := by decide +kernel
theorem dX10_indexOf_17 : decode cX10_indexOf 17 = .ok (.iload_n 1, 1) := by decide +kernel
theorem dX10_indexOf_18 : decode cX10_indexOf 18 = .ok (.invokevirtual 222, 3) := by decide +kernel
theorem dX10_indexOf_21 : decode cX10_indexOf 21 = .ok (.iaload, 1) := by decide +kernel
theorem dX10_indexOf_22 : decode cX10_indexOf 22 = .ok (.ireturn, 1) := by decide +kernel
theorem dX10_timeOf_0 : decode cX10_timeOf 0 = .ok (.iconst 0, 1) := by decide +kernel
theorem dX10_timeOf_1 : decode cX10_timeOf 1 = .ok (.istore_n 2, 1) := by decide +kernel
theorem dX10_timeOf_2 : decode cX10_timeOf 2 = .ok (.aload_n 0, 1) := by decide +kernel
theorem dX10_timeOf_3 : decode cX10_timeOf 3 = .ok (.iload_n 1, 1) := by decide +kernel
theorem dX10_timeOf_4 : decode cX10_timeOf 4 = .ok (.invokevirtual 225, 3) := by decide +kernel
theorem dX10_timeOf_7 : decode cX10_timeOf 7 = .ok (.ifCond .le 48, 3) := by decide +kernel
theorem dX10_timeOf_10 : decode cX10_timeOf 10 = .ok (.iload_n 1, 1) := by decide +kernel
theorem dX10_timeOf_11 : decode cX10_timeOf 11 = .ok (.iload_n 2, 1) := by decide +kernel
theorem dX10_timeOf_12 : decode cX10_timeOf 12 = .ok (.isub, 1) := by decide +kernel
theorem dX10_timeOf_13 : decode cX10_timeOf 13 = .ok (.iconst 1, 1) := by decide +kernel
theorem dX10_timeOf_14 : decode cX10_timeOf 14 = .ok (.isub, 1) := by decide +kernel
theorem dX10_timeOf_15 : decode cX10_timeOf 15 = .ok (.ifCond .lt 38, 3) := by decide +kernel
theorem dX10_timeOf_18 : decode cX10_timeOf 18 = .ok (.aload_n 0, 1) := by decide +kernel
theorem dX10_timeOf_19 : decode cX10_timeOf 19 = .ok (.iload_n 1, 1) := by decide +kernel
theorem dX10_timeOf_20 : decode cX10_timeOf 20 = .ok (.iload_n 2, 1) := by decide +kernel
theorem dX10_timeOf_21 : decode cX10_timeOf 21 = .ok (.isub, 1) := by decide +kernel
theorem dX10_timeOf_22 : decode cX10_timeOf 22 = .ok (.iconst 1, 1) := by decide +kernel
theorem dX10_timeOf_23 : decode cX10_timeOf 23 = .ok (.isub, 1) := by decide +kernel
theorem dX10_timeOf_24 : decode cX10_timeOf 24 = .ok (.invokevirtual 228, 3) := by decide +kernel
theorem dX10_timeOf_27 : decode cX10_timeOf 27 = .ok (.aload_n 0, 1) := by decide +kernel
theorem dX10_timeOf_28 : decode cX10_timeOf 28 = .ok (.iload_n 1, 1) := by decide +kernel
theorem dX10_timeOf_29 : decode cX10_timeOf 29 = .ok (.invokevirtual 228, 3) := by decide +kernel
theorem dX10_timeOf_32 : decode cX10_timeOf 32 = .ok (.if_icmp .ne 21, 3) := by decide +kernel
theorem dX10_timeOf_35 : decode cX10_timeOf 35 = .ok (.aload_n 0, 1) := by decide +kernel
theorem dX10_timeOf_36 : decode cX10_timeOf 36 = .ok (.iload_n 1, 1) := by decide +kernel
theorem dX10_timeOf_37 : decode cX10_timeOf 37 = .ok (.iload_n 2, 1) := by decide +kernel
theorem dX10_timeOf_38 : decode cX10_timeOf 38 = .ok (.isub, 1) := by decide +kernel
theorem dX10_timeOf_39 : decode cX10_timeOf 39 = .ok (.iconst 1, 1) := by decide +kernel
theorem dX10_timeOf_40 : decode cX10_timeOf 40 = .ok (.isub, 1) := by decide +kernel
theorem dX10_timeOf_41 : decode cX10_timeOf 41 = .ok (.invokevirtual 225, 3) := by decide +kernel
theorem dX10_timeOf_44 : decode cX10_timeOf 44 = .ok (.ifCond .le 9, 3) := by decide +kernel
theorem dX10_timeOf_47 : decode cX10_timeOf 47 = .ok (.iinc 2 1, 3) := by decide +kernel
theorem dX10_timeOf_50 : decode cX10_timeOf 50 = .ok (.goto (-40), 3) := by decide +kernel
theorem dX10_timeOf_53 : decode cX10_timeOf 53 = .ok (.iload_n 2, 1) := by decide +kernel
theorem dX10_timeOf_54 : decode cX10_timeOf 54 = .ok (.ireturn, 1) := by decide +kernel
theorem dX10_timeOf_55 : decode cX10_timeOf 55 = .ok (.iload_n 1, 1) := by decide +kernel
theorem dX10_timeOf_56 : decode cX10_timeOf 56 = .ok (.iload_n 2, 1) := by decide +kernel
theorem dX10_timeOf_57 : decode cX10_timeOf 57 = .ok (.iadd, 1) := by decide +kernel
theorem dX10_timeOf_58 : decode cX10_timeOf 58 = .ok (.aload_n 0, 1) := by decide +kernel
theorem dX10_timeOf_59 : decode cX10_timeOf 59 = .ok (.getfield 231, 3) := by decide +kernel
theorem dX10_timeOf_62 : decode cX10_timeOf 62 = .ok (.bipush 97, 2) := by decide +kernel
theorem dX10_timeOf_64 : decode cX10_timeOf 64 = .ok (.iadd, 1) := by decide +kernel
theorem dX10_timeOf_65 : decode cX10_timeOf 65 = .ok (.bipush 98, 2) := by decide +kernel
theorem dX10_timeOf_67 : decode cX10_timeOf 67 = .ok (.idiv, 1) := by decide +kernel
theorem dX10_timeOf_68 : decode cX10_timeOf 68 = .ok (.if_icmp .ge 34, 3) := by decide +kernel
theorem dX10_timeOf_71 : decode cX10_timeOf 71 = .ok (.aload_n 0, 1) := by decide +kernel
theorem dX10_timeOf_72 : decode cX10_timeOf 72 = .ok (.iload_n 1, 1) := by decide +kernel
theorem dX10_timeOf_73 : decode cX10_timeOf 73 = .ok (.iload_n 2, 1) := by decide +kernel
theorem dX10_timeOf_74 : decode cX10_timeOf 74 = .ok (.iadd, 1) := by decide +kernel
theorem dX10_timeOf_75 : decode cX10_timeOf 75 = .ok (.invokevirtual 228, 3) := by decide +kernel
theorem dX10_timeOf_78 : decode cX10_timeOf 78 = .ok (.aload_n 0, 1) := by decide +kernel
theorem dX10_timeOf_79 : decode cX10_timeOf 79 = .ok (.iload_n 1, 1) := by decide +kernel
theorem dX10_timeOf_80 : decode cX10_timeOf 80 = .ok (.invokevirtual 228, 3) := by decide +kernel
theorem dX10_timeOf_83 : decode cX10_timeOf 83 = .ok (.if_icmp .ne 19, 3) := by decide +kernel
theorem dX10_timeOf_86 : decode cX10_timeOf 86 = .ok (.aload_n 0, 1) := by decide +kernel
theorem dX10_timeOf_87 : decode cX10_timeOf 87 = .ok (.iload_n 1, 1) := by decide +kernel
theorem dX10_timeOf_88 : decode cX10_timeOf 88 = .ok (.iload_n 2, 1) := by decide +kernel
theorem dX10_timeOf_89 : decode cX10_timeOf 89 = .ok (.iadd, 1) := by decide +kernel
theorem dX10_timeOf_90 : decode cX10_timeOf 90 = .ok (.invokevirtual 225, 3) := by decide +kernel
theorem dX10_timeOf_93 : decode cX10_timeOf 93 = .ok (.ifCond .ne 9, 3) := by decide +kernel
theorem dX10_timeOf_96 : decode cX10_timeOf 96 = .ok (.iinc 2 1, 3) := by decide +kernel
theorem dX10_timeOf_99 : decode cX10_timeOf 99 = .ok (.goto (-44), 3) := by decide +kernel
theorem dX10_timeOf_102 : decode cX10_timeOf 102 = .ok (.iload_n 2, 1) := by decide +kernel
theorem dX10_timeOf_103 : decode cX10_timeOf 103 = .ok (.ireturn, 1) := by decide +kernel
theorem dX10_figures_0 : decode cX10_figures 0 = .ok (.iconst 0, 1) := by decide +kernel
theorem dX10_figures_1 : decode cX10_figures 1 = .ok (.istore_n 3, 1) := by decide +kernel
theorem dX10_figures_2 : decode cX10_figures 2 = .ok (.iload_n 3, 1) := by decide +kernel
theorem dX10_figures_3 : decode cX10_figures 3 = .ok (.bipush 8, 2) := by decide +kernel
theorem dX10_figures_5 : decode cX10_figures 5 = .ok (.if_icmp .ge 41, 3) := by decide +kernel
theorem dX10_figures_8 : decode cX10_figures 8 = .ok (.aload_n 0, 1) := by decide +kernel
theorem dX10_figures_9 : decode cX10_figures 9 = .ok (.getfield 42, 3) := by decide +kernel
theorem dX10_figures_12 : decode cX10_figures 12 = .ok (.iload_n 1, 1) := by decide +kernel
theorem dX10_figures_13 : decode cX10_figures 13 = .ok (.iload_n 3, 1) := by decide +kernel
theorem dX10_figures_14 : decode cX10_figures 14 = .ok (.iadd, 1) := by decide +kernel
theorem dX10_figures_15 : decode cX10_figures 15 = .ok (.iload_n 3, 1) := by decide +kernel
theorem dX10_figures_16 : decode cX10_figures 16 = .ok (.iconst 4, 1) := by decide +kernel
theorem dX10_figures_17 : decode cX10_figures 17 = .ok (.if_icmp .ge 10, 3) := by decide +kernel
theorem dX10_figures_20 : decode cX10_figures 20 = .ok (.iload_n 2, 1) := by decide +kernel
theorem dX10_figures_21 : decode cX10_figures 21 = .ok (.bipush 10, 2) := by decide +kernel
theorem dX10_figures_23 : decode cX10_figures 23 = .ok (.idiv, 1) := by decide +kernel
theorem dX10_figures_24 : decode cX10_figures 24 = .ok (.goto 7, 3) := by decide +kernel
theorem dX10_figures_27 : decode cX10_figures 27 = .ok (.iload_n 2, 1) := by decide +kernel
theorem dX10_figures_28 : decode cX10_figures 28 = .ok (.bipush 10, 2) := by decide +kernel
theorem dX10_figures_30 : decode cX10_figures 30 = .ok (.irem, 1) := by decide +kernel
theorem dX10_figures_31 : decode cX10_figures 31 = .ok (.iconst 3, 1) := by decide +kernel
theorem dX10_figures_32 : decode cX10_figures 32 = .ok (.iload_n 3, 1) := by decide +kernel
theorem dX10_figures_33 : decode cX10_figures 33 = .ok (.iconst 4, 1) := by decide +kernel
theorem dX10_figures_34 : decode cX10_figures 34 = .ok (.irem, 1) := by decide +kernel
theorem dX10_figures_35 : decode cX10_figures 35 = .ok (.isub, 1) := by decide +kernel
theorem dX10_figures_36 : decode cX10_figures 36 = .ok (.ishr, 1) := by decide +kernel
theorem dX10_figures_37 : decode cX10_figures 37 = .ok (.iconst 1, 1) := by decide +kernel
theorem dX10_figures_38 : decode cX10_figures 38 = .ok (.iand, 1) := by decide +kernel
theorem dX10_figures_39 : decode cX10_figures 39 = .ok (.iastore, 1) := by decide +kernel
theorem dX10_figures_40 : decode cX10_figures 40 = .ok (.iinc 3 1, 3) := by decide +kernel
theorem dX10_figures_43 : decode cX10_figures 43 = .ok (.goto (-41), 3) := by decide +kernel
theorem dX10_figures_46 : decode cX10_figures 46 = .ok (.iload_n 1, 1) := by decide +kernel
theorem dX10_figures_47 : decode cX10_figures 47 = .ok (.bipush 8, 2) := by decide +kernel
theorem dX10_figures_49 : decode cX10_figures 49 = .ok (.iadd, 1) := by decide +kernel
theorem dX10_figures_50 : decode cX10_figures 50 = .ok (.ireturn, 1) := by decide +kernel
theorem dX10_clock_0 : decode cX10_clock 0 = .ok (.aload_n 0, 1) := by decide +kernel
theorem dX10_clock_1 : decode cX10_clock 1 = .ok (.iload_n 1, 1) := by decide +kernel
theorem dX10_clock_2 : decode cX10_clock 2 = .ok (.iload_n 2, 1) := by decide +kernel
theorem dX10_clock_3 : decode cX10_clock 3 = .ok (.sipush 4500, 3) := by decide +kernel
theorem dX10_clock_6 : decode cX10_clock 6 = .ok (.idiv, 1) := by decide +kernel
theorem dX10_clock_7 : decode cX10_clock 7 = .ok (.invokevirtual 234, 3) := by decide +kernel
theorem dX10_clock_10 : decode cX10_clock 10 = .ok (.istore_n 3, 1) := by decide +kernel
theorem dX10_clock_11 : decode cX10_clock 11 = .ok (.aload_n 0, 1) := by decide +kernel
theorem dX10_clock_12 : decode cX10_clock 12 = .ok (.iload_n 3, 1) := by decide +kernel
theorem dX10_clock_13 : decode cX10_clock 13 = .ok (.iload_n 2, 1) := by decide +kernel
theorem dX10_clock_14 : decode cX10_clock 14 = .ok (.bipush 75, 2) := by decide +kernel
theorem dX10_clock_16 : decode cX10_clock 16 = .ok (.idiv, 1) := by decide +kernel
theorem dX10_clock_17 : decode cX10_clock 17 = .ok (.bipush 60, 2) := by decide +kernel
theorem dX10_clock_19 : decode cX10_clock 19 = .ok (.irem, 1) := by decide +kernel
theorem dX10_clock_20 : decode cX10_clock 20 = .ok (.invokevirtual 234, 3) := by decide +kernel
theorem dX10_clock_23 : decode cX10_clock 23 = .ok (.istore_n 3, 1) := by decide +kernel
theorem dX10_clock_24 : decode cX10_clock 24 = .ok (.aload_n 0, 1) := by decide +kernel
theorem dX10_clock_25 : decode cX10_clock 25 = .ok (.iload_n 3, 1) := by decide +kernel
theorem dX10_clock_26 : decode cX10_clock 26 = .ok (.iload_n 2, 1) := by decide +kernel
theorem dX10_clock_27 : decode cX10_clock 27 = .ok (.bipush 75, 2) := by decide +kernel
theorem dX10_clock_29 : decode cX10_clock 29 = .ok (.irem, 1) := by decide +kernel
theorem dX10_clock_30 : decode cX10_clock 30 = .ok (.invokevirtual 234, 3) := by decide +kernel
theorem dX10_clock_33 : decode cX10_clock 33 = .ok (.ireturn, 1) := by decide +kernel
theorem dX10_checkStep_0 : decode cX10_checkStep 0 = .ok (.iload_n 0, 1) := by decide +kernel
theorem dX10_checkStep_1 : decode cX10_checkStep 1 = .ok (.iconst 1, 1) := by decide +kernel
theorem dX10_checkStep_2 : decode cX10_checkStep 2 = .ok (.ishl, 1) := by decide +kernel
theorem dX10_checkStep_3 : decode cX10_checkStep 3 = .ok (.ldc 237, 2) := by decide +kernel
theorem dX10_checkStep_5 : decode cX10_checkStep 5 = .ok (.iand, 1) := by decide +kernel
theorem dX10_checkStep_6 : decode cX10_checkStep 6 = .ok (.iload_n 0, 1) := by decide +kernel
theorem dX10_checkStep_7 : decode cX10_checkStep 7 = .ok (.bipush 15, 2) := by decide +kernel
theorem dX10_checkStep_9 : decode cX10_checkStep 9 = .ok (.ishr, 1) := by decide +kernel
theorem dX10_checkStep_10 : decode cX10_checkStep 10 = .ok (.iconst 1, 1) := by decide +kernel
theorem dX10_checkStep_11 : decode cX10_checkStep 11 = .ok (.iand, 1) := by decide +kernel
theorem dX10_checkStep_12 : decode cX10_checkStep 12 = .ok (.iload_n 1, 1) := by decide +kernel
theorem dX10_checkStep_13 : decode cX10_checkStep 13 = .ok (.if_icmp .eq 9, 3) := by decide +kernel
theorem dX10_checkStep_16 : decode cX10_checkStep 16 = .ok (.sipush 4129, 3) := by decide +kernel
theorem dX10_checkStep_19 : decode cX10_checkStep 19 = .ok (.goto 4, 3) := by decide +kernel
theorem dX10_checkStep_22 : decode cX10_checkStep 22 = .ok (.iconst 0, 1) := by decide +kernel
theorem dX10_checkStep_23 : decode cX10_checkStep 23 = .ok (.ixor, 1) := by decide +kernel
theorem dX10_checkStep_24 : decode cX10_checkStep 24 = .ok (.ireturn, 1) := by decide +kernel
theorem dX10_makeChannel_0 : decode cX10_makeChannel 0 = .ok (.aload_n 0, 1) := by decide +kernel
theorem dX10_makeChannel_1 : decode cX10_makeChannel 1 = .ok (.iload_n 1, 1) := by decide +kernel
theorem dX10_makeChannel_2 : decode cX10_makeChannel 2 = .ok (.invokevirtual 222, 3) := by decide +kernel
theorem dX10_makeChannel_5 : decode cX10_makeChannel 5 = .ok (.ifCond .ge 7, 3) := by decide +kernel
theorem dX10_makeChannel_8 : decode cX10_makeChannel 8 = .ok (.iconst 0, 1) := by decide +kernel
theorem dX10_makeChannel_9 : decode cX10_makeChannel 9 = .ok (.goto 13, 3) := by decide +kernel
theorem dX10_makeChannel_12 : decode cX10_makeChannel 12 = .ok (.aload_n 0, 1) := by decide +kernel
theorem dX10_makeChannel_13 : decode cX10_makeChannel 13 = .ok (.getfield 29, 3) := by decide +kernel
theorem dX10_makeChannel_16 : decode cX10_makeChannel 16 = .ok (.aload_n 0, 1) := by decide +kernel
theorem dX10_makeChannel_17 : decode cX10_makeChannel 17 = .ok (.iload_n 1, 1) := by decide +kernel
theorem dX10_makeChannel_18 : decode cX10_makeChannel 18 = .ok (.invokevirtual 222, 3) := by decide +kernel
theorem dX10_makeChannel_21 : decode cX10_makeChannel 21 = .ok (.iaload, 1) := by decide +kernel
theorem dX10_makeChannel_22 : decode cX10_makeChannel 22 = .ok (.istore_n 2, 1) := by decide +kernel
theorem dX10_makeChannel_23 : decode cX10_makeChannel 23 = .ok (.iconst 0, 1) := by decide +kernel
theorem dX10_makeChannel_24 : decode cX10_makeChannel 24 = .ok (.istore_n 3, 1) := by decide +kernel
theorem dX10_makeChannel_25 : decode cX10_makeChannel 25 = .ok (.iload_n 3, 1) := by decide +kernel
theorem dX10_makeChannel_26 : decode cX10_makeChannel 26 = .ok (.bipush 8, 2) := by decide +kernel
theorem dX10_makeChannel_28 : decode cX10_makeChannel 28 = .ok (.if_icmp .ge 41, 3) := by decide +kernel
theorem dX10_makeChannel_31 : decode cX10_makeChannel 31 = .ok (.aload_n 0, 1) := by decide +kernel
theorem dX10_makeChannel_32 : decode cX10_makeChannel 32 = .ok (.getfield 42, 3) := by decide +kernel
theorem dX10_makeChannel_35 : decode cX10_makeChannel 35 = .ok (.iload_n 3, 1) := by decide +kernel
theorem dX10_makeChannel_36 : decode cX10_makeChannel 36 = .ok (.iload_n 3, 1) := by decide +kernel
theorem dX10_makeChannel_37 : decode cX10_makeChannel 37 = .ok (.iconst 4, 1) := by decide +kernel
theorem dX10_makeChannel_38 : decode cX10_makeChannel 38 = .ok (.if_icmp .ge 13, 3) := by decide +kernel
theorem dX10_makeChannel_41 : decode cX10_makeChannel 41 = .ok (.iload_n 2, 1) := by decide +kernel
theorem dX10_makeChannel_42 : decode cX10_makeChannel 42 = .ok (.iconst 3, 1) := by decide +kernel
theorem dX10_makeChannel_43 : decode cX10_makeChannel 43 = .ok (.iload_n 3, 1) := by decide +kernel
theorem dX10_makeChannel_44 : decode cX10_makeChannel 44 = .ok (.isub, 1) := by decide +kernel
theorem dX10_makeChannel_45 : decode cX10_makeChannel 45 = .ok (.ishr, 1) := by decide +kernel
theorem dX10_makeChannel_46 : decode cX10_makeChannel 46 = .ok (.iconst 1, 1) := by decide +kernel
theorem dX10_makeChannel_47 : decode cX10_makeChannel 47 = .ok (.iand, 1) := by decide +kernel
theorem dX10_makeChannel_48 : decode cX10_makeChannel 48 = .ok (.goto 14, 3) := by decide +kernel
theorem dX10_makeChannel_51 : decode cX10_makeChannel 51 = .ok (.iload_n 3, 1) := by decide +kernel
theorem dX10_makeChannel_52 : decode cX10_makeChannel 52 = .ok (.bipush 7, 2) := by decide +kernel
theorem dX10_makeChannel_54 : decode cX10_makeChannel 54 = .ok (.if_icmp .ne 7, 3) := by decide +kernel
theorem dX10_makeChannel_57 : decode cX10_makeChannel 57 = .ok (.iconst 1, 1) := by decide +kernel
theorem dX10_makeChannel_58 : decode cX10_makeChannel 58 = .ok (.goto 4, 3) := by decide +kernel
theorem dX10_makeChannel_61 : decode cX10_makeChannel 61 = .ok (.iconst 0, 1) := by decide +kernel
theorem dX10_makeChannel_62 : decode cX10_makeChannel 62 = .ok (.iastore, 1) := by decide +kernel
theorem dX10_makeChannel_63 : decode cX10_makeChannel 63 = .ok (.iinc 3 1, 3) := by decide +kernel
theorem dX10_makeChannel_66 : decode cX10_makeChannel 66 = .ok (.goto (-41), 3) := by decide +kernel
theorem dX10_makeChannel_69 : decode cX10_makeChannel 69 = .ok (.aload_n 0, 1) := by decide +kernel
theorem dX10_makeChannel_70 : decode cX10_makeChannel 70 = .ok (.bipush 8, 2) := by decide +kernel
theorem dX10_makeChannel_72 : decode cX10_makeChannel 72 = .ok (.aload_n 0, 1) := by decide +kernel
theorem dX10_makeChannel_73 : decode cX10_makeChannel 73 = .ok (.iload_n 1, 1) := by decide +kernel
theorem dX10_makeChannel_74 : decode cX10_makeChannel 74 = .ok (.invokevirtual 228, 3) := by decide +kernel
theorem dX10_makeChannel_77 : decode cX10_makeChannel 77 = .ok (.invokevirtual 234, 3) := by decide +kernel
theorem dX10_makeChannel_80 : decode cX10_makeChannel 80 = .ok (.istore_n 3, 1) := by decide +kernel
theorem dX10_makeChannel_81 : decode cX10_makeChannel 81 = .ok (.aload_n 0, 1) := by decide +kernel
theorem dX10_makeChannel_82 : decode cX10_makeChannel 82 = .ok (.iload_n 3, 1) := by decide +kernel
theorem dX10_makeChannel_83 : decode cX10_makeChannel 83 = .ok (.aload_n 0, 1) := by decide +kernel
theorem dX10_makeChannel_84 : decode cX10_makeChannel 84 = .ok (.iload_n 1, 1) := by decide +kernel
theorem dX10_makeChannel_85 : decode cX10_makeChannel 85 = .ok (.invokevirtual 225, 3) := by decide +kernel
theorem dX10_makeChannel_88 : decode cX10_makeChannel 88 = .ok (.invokevirtual 234, 3) := by decide +kernel
theorem dX10_makeChannel_91 : decode cX10_makeChannel 91 = .ok (.istore_n 3, 1) := by decide +kernel
theorem dX10_makeChannel_92 : decode cX10_makeChannel 92 = .ok (.aload_n 0, 1) := by decide +kernel
theorem dX10_makeChannel_93 : decode cX10_makeChannel 93 = .ok (.iload_n 3, 1) := by decide +kernel
theorem dX10_makeChannel_94 : decode cX10_makeChannel 94 = .ok (.aload_n 0, 1) := by decide +kernel
theorem dX10_makeChannel_95 : decode cX10_makeChannel 95 = .ok (.iload_n 1, 1) := by decide +kernel
theorem dX10_makeChannel_96 : decode cX10_makeChannel 96 = .ok (.invokevirtual 238, 3) := by decide +kernel
theorem dX10_makeChannel_99 : decode cX10_makeChannel 99 = .ok (.invokevirtual 241, 3) := by decide +kernel
theorem dX10_makeChannel_102 : decode cX10_makeChannel 102 = .ok (.istore_n 3, 1) := by decide +kernel
theorem dX10_makeChannel_103 : decode cX10_makeChannel 103 = .ok (.aload_n 0, 1) := by decide +kernel
theorem dX10_makeChannel_104 : decode cX10_makeChannel 104 = .ok (.iload_n 3, 1) := by decide +kernel
theorem dX10_makeChannel_105 : decode cX10_makeChannel 105 = .ok (.iconst 0, 1) := by decide +kernel
theorem dX10_makeChannel_106 : decode cX10_makeChannel 106 = .ok (.invokevirtual 234, 3) := by decide +kernel
theorem dX10_makeChannel_109 : decode cX10_makeChannel 109 = .ok (.istore_n 3, 1) := by decide +kernel
theorem dX10_makeChannel_110 : decode cX10_makeChannel 110 = .ok (.aload_n 0, 1) := by decide +kernel
theorem dX10_makeChannel_111 : decode cX10_makeChannel 111 = .ok (.iload_n 3, 1) := by decide +kernel
theorem dX10_makeChannel_112 : decode cX10_makeChannel 112 = .ok (.iload_n 1, 1) := by decide +kernel
theorem dX10_makeChannel_113 : decode cX10_makeChannel 113 = .ok (.aload_n 0, 1) := by decide +kernel
theorem dX10_makeChannel_114 : decode cX10_makeChannel 114 = .ok (.getfield 157, 3) := by decide +kernel
theorem dX10_makeChannel_117 : decode cX10_makeChannel 117 = .ok (.iadd, 1) := by decide +kernel
theorem dX10_makeChannel_118 : decode cX10_makeChannel 118 = .ok (.invokevirtual 241, 3) := by decide +kernel
theorem dX10_makeChannel_121 : decode cX10_makeChannel 121 = .ok (.istore_n 3, 1) := by decide +kernel
theorem dX10_makeChannel_122 : decode cX10_makeChannel 122 = .ok (.iconst 0, 1) := by decide +kernel
theorem dX10_makeChannel_123 : decode cX10_makeChannel 123 = .ok (.istore 4, 2) := by decide +kernel
theorem dX10_makeChannel_125 : decode cX10_makeChannel 125 = .ok (.iconst 0, 1) := by decide +kernel
theorem dX10_makeChannel_126 : decode cX10_makeChannel 126 = .ok (.istore 5, 2) := by decide +kernel
theorem dX10_makeChannel_128 : decode cX10_makeChannel 128 = .ok (.iload 5, 2) := by decide +kernel
theorem dX10_makeChannel_130 : decode cX10_makeChannel 130 = .ok (.bipush 80, 2) := by decide +kernel
theorem dX10_makeChannel_132 : decode cX10_makeChannel 132 = .ok (.if_icmp .ge 23, 3) := by decide +kernel
theorem dX10_makeChannel_135 : decode cX10_makeChannel 135 = .ok (.iload 4, 2) := by decide +kernel
theorem dX10_makeChannel_137 : decode cX10_makeChannel 137 = .ok (.aload_n 0, 1) := by decide +kernel
theorem dX10_makeChannel_138 : decode cX10_makeChannel 138 = .ok (.getfield 42, 3) := by decide +kernel
theorem dX10_makeChannel_141 : decode cX10_makeChannel 141 = .ok (.iload 5, 2) := by decide +kernel
theorem dX10_makeChannel_143 : decode cX10_makeChannel 143 = .ok (.iaload, 1) := by decide +kernel
theorem dX10_makeChannel_144 : decode cX10_makeChannel 144 = .ok (.invokestatic 244, 3) := by decide +kernel
theorem dX10_makeChannel_147 : decode cX10_makeChannel 147 = .ok (.istore 4, 2) := by decide +kernel
theorem dX10_makeChannel_149 : decode cX10_makeChannel 149 = .ok (.iinc 5 1, 3) := by decide +kernel
theorem dX10_makeChannel_152 : decode cX10_makeChannel 152 = .ok (.goto (-24), 3) := by decide +kernel
theorem dX10_makeChannel_155 : decode cX10_makeChannel 155 = .ok (.iconst 0, 1) := by decide +kernel
theorem dX10_makeChannel_156 : decode cX10_makeChannel 156 = .ok (.istore 5, 2) := by decide +kernel
theorem dX10_makeChannel_158 : decode cX10_makeChannel 158 = .ok (.iload 5, 2) := by decide +kernel
theorem dX10_makeChannel_160 : decode cX10_makeChannel 160 = .ok (.bipush 16, 2) := by decide +kernel
theorem dX10_makeChannel_162 : decode cX10_makeChannel 162 = .ok (.if_icmp .ge 31, 3) := by decide +kernel
theorem dX10_makeChannel_165 : decode cX10_makeChannel 165 = .ok (.aload_n 0, 1) := by decide +kernel
theorem dX10_makeChannel_166 : decode cX10_makeChannel 166 = .ok (.getfield 42, 3) := by decide +kernel
theorem dX10_makeChannel_169 : decode cX10_makeChannel 169 = .ok (.bipush 80, 2) := by decide +kernel
theorem dX10_makeChannel_171 : decode cX10_makeChannel 171 = .ok (.iload 5, 2) := by decide +kernel
theorem dX10_makeChannel_173 : decode cX10_makeChannel 173 = .ok (.iadd, 1) := by decide +kernel
theorem dX10_makeChannel_174 : decode cX10_makeChannel 174 = .ok (.iload 4, 2) := by decide +kernel
theorem dX10_makeChannel_176 : decode cX10_makeChannel 176 = .ok (.bipush 15, 2) := by decide +kernel
theorem dX10_makeChannel_178 : decode cX10_makeChannel 178 = .ok (.iload 5, 2) := by decide +kernel
theorem dX10_makeChannel_180 : decode cX10_makeChannel 180 = .ok (.isub, 1) := by decide +kernel
theorem dX10_makeChannel_181 : decode cX10_makeChannel 181 = .ok (.ishr, 1) := by decide +kernel
theorem dX10_makeChannel_182 : decode cX10_makeChannel 182 = .ok (.iconst 1, 1) := by decide +kernel
theorem dX10_makeChannel_183 : decode cX10_makeChannel 183 = .ok (.iand, 1) := by decide +kernel
theorem dX10_makeChannel_184 : decode cX10_makeChannel 184 = .ok (.iconst 1, 1) := by decide +kernel
theorem dX10_makeChannel_185 : decode cX10_makeChannel 185 = .ok (.ixor, 1) := by decide +kernel
theorem dX10_makeChannel_186 : decode cX10_makeChannel 186 = .ok (.iastore, 1) := by decide +kernel
theorem dX10_makeChannel_187 : decode cX10_makeChannel 187 = .ok (.iinc 5 1, 3) := by decide +kernel
theorem dX10_makeChannel_190 : decode cX10_makeChannel 190 = .ok (.goto (-32), 3) := by decide +kernel
theorem dX10_makeChannel_193 : decode cX10_makeChannel 193 = .ok (.return_, 1) := by decide +kernel
theorem dX10_besideWord_0 : decode cX10_besideWord 0 = .ok (.iload_n 1, 1) := by decide +kernel
theorem dX10_besideWord_1 : decode cX10_besideWord 1 = .ok (.bipush 98, 2) := by decide +kernel
theorem dX10_besideWord_3 : decode cX10_besideWord 3 = .ok (.irem, 1) := by decide +kernel
theorem dX10_besideWord_4 : decode cX10_besideWord 4 = .ok (.istore_n 2, 1) := by decide +kernel
theorem dX10_besideWord_5 : decode cX10_besideWord 5 = .ok (.iload_n 2, 1) := by decide +kernel
theorem dX10_besideWord_6 : decode cX10_besideWord 6 = .ok (.ifCond .ne 11, 3) := by decide +kernel
theorem dX10_besideWord_9 : decode cX10_besideWord 9 = .ok (.aload_n 0, 1) := by decide +kernel
theorem dX10_besideWord_10 : decode cX10_besideWord 10 = .ok (.iload_n 1, 1) := by decide +kernel
theorem dX10_besideWord_11 : decode cX10_besideWord 11 = .ok (.bipush 98, 2) := by decide +kernel
theorem dX10_besideWord_13 : decode cX10_besideWord 13 = .ok (.idiv, 1) := by decide +kernel
theorem dX10_besideWord_14 : decode cX10_besideWord 14 = .ok (.invokevirtual 247, 3) := by decide +kernel
theorem dX10_besideWord_17 : decode cX10_besideWord 17 = .ok (.iload_n 2, 1) := by decide +kernel
theorem dX10_besideWord_18 : decode cX10_besideWord 18 = .ok (.iconst 2, 1) := by decide +kernel
theorem dX10_besideWord_19 : decode cX10_besideWord 19 = .ok (.if_icmp .ge 16, 3) := by decide +kernel
theorem dX10_besideWord_22 : decode cX10_besideWord 22 = .ok (.iload_n 2, 1) := by decide +kernel
theorem dX10_besideWord_23 : decode cX10_besideWord 23 = .ok (.ifCond .ne 9, 3) := by decide +kernel
theorem dX10_besideWord_26 : decode cX10_besideWord 26 = .ok (.sipush 2049, 3) := by decide +kernel
theorem dX10_besideWord_29 : decode cX10_besideWord 29 = .ok (.goto 5, 3) := by decide +kernel
theorem dX10_besideWord_32 : decode cX10_besideWord 32 = .ok (.bipush 18, 2) := by decide +kernel
theorem dX10_besideWord_34 : decode cX10_besideWord 34 = .ok (.ireturn, 1) := by decide +kernel
theorem dX10_besideWord_35 : decode cX10_besideWord 35 = .ok (.aload_n 0, 1) := by decide +kernel
theorem dX10_besideWord_36 : decode cX10_besideWord 36 = .ok (.getfield 7, 3) := by decide +kernel
theorem dX10_besideWord_39 : decode cX10_besideWord 39 = .ok (.aload_n 0, 1) := by decide +kernel
theorem dX10_besideWord_40 : decode cX10_besideWord 40 = .ok (.iload_n 1, 1) := by decide +kernel
theorem dX10_besideWord_41 : decode cX10_besideWord 41 = .ok (.bipush 98, 2) := by decide +kernel
theorem dX10_besideWord_43 : decode cX10_besideWord 43 = .ok (.idiv, 1) := by decide +kernel
theorem dX10_besideWord_44 : decode cX10_besideWord 44 = .ok (.invokevirtual 225, 3) := by decide +kernel
theorem dX10_besideWord_47 : decode cX10_besideWord 47 = .ok (.ifCond .ne 9, 3) := by decide +kernel
theorem dX10_besideWord_50 : decode cX10_besideWord 50 = .ok (.sipush 128, 3) := by decide +kernel
theorem dX10_besideWord_53 : decode cX10_besideWord 53 = .ok (.goto 4, 3) := by decide +kernel
theorem dX10_besideWord_56 : decode cX10_besideWord 56 = .ok (.iconst 0, 1) := by decide +kernel
theorem dX10_besideWord_57 : decode cX10_besideWord 57 = .ok (.bipush 64, 2) := by decide +kernel
theorem dX10_besideWord_59 : decode cX10_besideWord 59 = .ok (.aload_n 0, 1) := by decide +kernel
theorem dX10_besideWord_60 : decode cX10_besideWord 60 = .ok (.getfield 42, 3) := by decide +kernel
theorem dX10_besideWord_63 : decode cX10_besideWord 63 = .ok (.iload_n 2, 1) := by decide +kernel
theorem dX10_besideWord_64 : decode cX10_besideWord 64 = .ok (.iconst 2, 1) := by decide +kernel
theorem dX10_besideWord_65 : decode cX10_besideWord 65 = .ok (.isub, 1) := by decide +kernel
theorem dX10_besideWord_66 : decode cX10_besideWord 66 = .ok (.iaload, 1) := by decide +kernel
theorem dX10_besideWord_67 : decode cX10_besideWord 67 = .ok (.imul, 1) := by decide +kernel
theorem dX10_besideWord_68 : decode cX10_besideWord 68 = .ok (.iadd, 1) := by decide +kernel
theorem dX10_besideWord_69 : decode cX10_besideWord 69 = .ok (.iaload, 1) := by decide +kernel
theorem dX10_besideWord_70 : decode cX10_besideWord 70 = .ok (.ireturn, 1) := by decide +kernel
theorem dX10_press_0 : decode cX10_press 0 = .ok (.aload_n 0, 1) := by decide +kernel
theorem dX10_press_1 : decode cX10_press 1 = .ok (.iconst 0, 1) := by decide +kernel
theorem dX10_press_2 : decode cX10_press 2 = .ok (.putfield 100, 3) := by decide +kernel
theorem dX10_press_5 : decode cX10_press 5 = .ok (.aload_n 0, 1) := by decide +kernel
theorem dX10_press_6 : decode cX10_press 6 = .ok (.iconst 0, 1) := by decide +kernel
theorem dX10_press_7 : decode cX10_press 7 = .ok (.putfield 250, 3) := by decide +kernel
theorem dX10_press_10 : decode cX10_press 10 = .ok (.aload_n 0, 1) := by decide +kernel
theorem dX10_press_11 : decode cX10_press 11 = .ok (.iconst 0, 1) := by decide +kernel
theorem dX10_press_12 : decode cX10_press 12 = .ok (.putfield 185, 3) := by decide +kernel
theorem dX10_press_15 : decode cX10_press 15 = .ok (.aload_n 0, 1) := by decide +kernel
theorem dX10_press_16 : decode cX10_press 16 = .ok (.iconst 0, 1) := by decide +kernel
theorem dX10_press_17 : decode cX10_press 17 = .ok (.putfield 231, 3) := by decide +kernel
theorem dX10_press_20 : decode cX10_press 20 = .ok (.aload_n 0, 1) := by decide +kernel
theorem dX10_press_21 : decode cX10_press 21 = .ok (.getfield 148, 3) := by decide +kernel
theorem dX10_press_24 : decode cX10_press 24 = .ok (.ifCond .ne 5, 3) := by decide +kernel
theorem dX10_press_27 : decode cX10_press 27 = .ok (.iconst 0, 1) := by decide +kernel
theorem dX10_press_28 : decode cX10_press 28 = .ok (.ireturn, 1) := by decide +kernel
theorem dX10_press_29 : decode cX10_press 29 = .ok (.aload_n 0, 1) := by decide +kernel
theorem dX10_press_30 : decode cX10_press 30 = .ok (.aload_n 0, 1) := by decide +kernel
theorem dX10_press_31 : decode cX10_press 31 = .ok (.getfield 148, 3) := by decide +kernel
theorem dX10_press_34 : decode cX10_press 34 = .ok (.bipush 23, 2) := by decide +kernel
theorem dX10_press_36 : decode cX10_press 36 = .ok (.iadd, 1) := by decide +kernel
theorem dX10_press_37 : decode cX10_press 37 = .ok (.bipush 24, 2) := by decide +kernel
theorem dX10_press_39 : decode cX10_press 39 = .ok (.idiv, 1) := by decide +kernel
theorem dX10_press_40 : decode cX10_press 40 = .ok (.putfield 169, 3) := by decide +kernel
theorem dX10_press_43 : decode cX10_press 43 = .ok (.aload_n 0, 1) := by decide +kernel
theorem dX10_press_44 : decode cX10_press 44 = .ok (.aload_n 0, 1) := by decide +kernel
theorem dX10_press_45 : decode cX10_press 45 = .ok (.getfield 169, 3) := by decide +kernel
theorem dX10_press_48 : decode cX10_press 48 = .ok (.bipush 111, 2) := by decide +kernel
theorem dX10_press_50 : decode cX10_press 50 = .ok (.iadd, 1) := by decide +kernel
theorem dX10_press_51 : decode cX10_press 51 = .ok (.putfield 231, 3) := by decide +kernel
theorem dX10_press_54 : decode cX10_press 54 = .ok (.iconst 0, 1) := by decide +kernel
theorem dX10_press_55 : decode cX10_press 55 = .ok (.istore_n 1, 1) := by decide +kernel
theorem dX10_press_56 : decode cX10_press 56 = .ok (.iload_n 1, 1) := by decide +kernel
theorem dX10_press_57 : decode cX10_press 57 = .ok (.aload_n 0, 1) := by decide +kernel
theorem dX10_press_58 : decode cX10_press 58 = .ok (.getfield 231, 3) := by decide +kernel
theorem dX10_press_61 : decode cX10_press 61 = .ok (.if_icmp .ge 14, 3) := by decide +kernel
theorem dX10_press_64 : decode cX10_press 64 = .ok (.aload_n 0, 1) := by decide +kernel
theorem dX10_press_65 : decode cX10_press 65 = .ok (.iload_n 1, 1) := by decide +kernel
theorem dX10_press_66 : decode cX10_press 66 = .ok (.invokevirtual 253, 3) := by decide +kernel
theorem dX10_press_69 : decode cX10_press 69 = .ok (.iinc 1 1, 3) := by decide +kernel
theorem dX10_press_72 : decode cX10_press 72 = .ok (.goto (-16), 3) := by decide +kernel
theorem dX10_press_75 : decode cX10_press 75 = .ok (.iconst 0, 1) := by decide +kernel
theorem dX10_press_76 : decode cX10_press 76 = .ok (.istore_n 1, 1) := by decide +kernel
theorem dX10_press_77 : decode cX10_press 77 = .ok (.iload_n 1, 1) := by decide +kernel
theorem dX10_press_78 : decode cX10_press 78 = .ok (.aload_n 0, 1) := by decide +kernel
theorem dX10_press_79 : decode cX10_press 79 = .ok (.getfield 231, 3) := by decide +kernel
theorem dX10_press_82 : decode cX10_press 82 = .ok (.if_icmp .ge 14, 3) := by decide +kernel
theorem dX10_press_85 : decode cX10_press 85 = .ok (.aload_n 0, 1) := by decide +kernel
theorem dX10_press_86 : decode cX10_press 86 = .ok (.iload_n 1, 1) := by decide +kernel
theorem dX10_press_87 : decode cX10_press 87 = .ok (.invokevirtual 256, 3) := by decide +kernel
theorem dX10_press_90 : decode cX10_press 90 = .ok (.iinc 1 1, 3) := by decide +kernel
theorem dX10_press_93 : decode cX10_press 93 = .ok (.goto (-16), 3) := by decide +kernel
theorem dX10_press_96 : decode cX10_press 96 = .ok (.aload_n 0, 1) := by decide +kernel
theorem dX10_press_97 : decode cX10_press 97 = .ok (.iconst 0, 1) := by decide +kernel
theorem dX10_press_98 : decode cX10_press 98 = .ok (.putfield 188, 3) := by decide +kernel
theorem dX10_press_101 : decode cX10_press 101 = .ok (.aload_n 0, 1) := by decide +kernel
theorem dX10_press_102 : decode cX10_press 102 = .ok (.iconst 1, 1) := by decide +kernel
theorem dX10_press_103 : decode cX10_press 103 = .ok (.putfield 191, 3) := by decide +kernel
theorem dX10_press_106 : decode cX10_press 106 = .ok (.aload_n 0, 1) := by decide +kernel
theorem dX10_press_107 : decode cX10_press 107 = .ok (.iconst 0, 1) := by decide +kernel
theorem dX10_press_108 : decode cX10_press 108 = .ok (.putfield 194, 3) := by decide +kernel
theorem dX10_press_111 : decode cX10_press 111 = .ok (.aload_n 0, 1) := by decide +kernel
theorem dX10_press_112 : decode cX10_press 112 = .ok (.iconst 0, 1) := by decide +kernel
theorem dX10_press_113 : decode cX10_press 113 = .ok (.putfield 197, 3) := by decide +kernel
theorem dX10_press_116 : decode cX10_press 116 = .ok (.aload_n 0, 1) := by decide +kernel
theorem dX10_press_117 : decode cX10_press 117 = .ok (.ldc 211, 2) := by decide +kernel
theorem dX10_press_119 : decode cX10_press 119 = .ok (.bipush 24, 2) := by decide +kernel
theorem dX10_press_121 : decode cX10_press 121 = .ok (.invokevirtual 219, 3) := by decide +kernel
theorem dX10_press_124 : decode cX10_press 124 = .ok (.iconst 0, 1) := by decide +kernel
theorem dX10_press_125 : decode cX10_press 125 = .ok (.istore_n 1, 1) := by decide +kernel
theorem dX10_press_126 : decode cX10_press 126 = .ok (.iload_n 1, 1) := by decide +kernel
theorem dX10_press_127 : decode cX10_press 127 = .ok (.aload_n 0, 1) := by decide +kernel
theorem dX10_press_128 : decode cX10_press 128 = .ok (.getfield 231, 3) := by decide +kernel
theorem dX10_press_131 : decode cX10_press 131 = .ok (.if_icmp .ge 69, 3) := by decide +kernel
theorem dX10_press_134 : decode cX10_press 134 = .ok (.aload_n 0, 1) := by decide +kernel
theorem dX10_press_135 : decode cX10_press 135 = .ok (.aload_n 0, 1) := by decide +kernel
theorem dX10_press_136 : decode cX10_press 136 = .ok (.iload_n 1, 1) := by decide +kernel
theorem dX10_press_137 : decode cX10_press 137 = .ok (.invokevirtual 259, 3) := by decide +kernel
theorem dX10_press_140 : decode cX10_press 140 = .ok (.bipush 14, 2) := by decide +kernel
theorem dX10_press_142 : decode cX10_press 142 = .ok (.invokevirtual 262, 3) := by decide +kernel
theorem dX10_press_145 : decode cX10_press 145 = .ok (.iconst 0, 1) := by decide +kernel
theorem dX10_press_146 : decode cX10_press 146 = .ok (.istore_n 2, 1) := by decide +kernel
theorem dX10_press_147 : decode cX10_press 147 = .ok (.iload_n 2, 1) := by decide +kernel
theorem dX10_press_148 : decode cX10_press 148 = .ok (.bipush 32, 2) := by decide +kernel
theorem dX10_press_150 : decode cX10_press 150 = .ok (.if_icmp .ge 26, 3) := by decide +kernel
theorem dX10_press_153 : decode cX10_press 153 = .ok (.aload_n 0, 1) := by decide +kernel
theorem dX10_press_154 : decode cX10_press 154 = .ok (.aload_n 0, 1) := by decide +kernel
theorem dX10_press_155 : decode cX10_press 155 = .ok (.getfield 7, 3) := by decide +kernel
theorem dX10_press_158 : decode cX10_press 158 = .ok (.aload_n 0, 1) := by decide +kernel
theorem dX10_press_159 : decode cX10_press 159 = .ok (.iload_n 1, 1) := by decide +kernel
theorem dX10_press_160 : decode cX10_press 160 = .ok (.iload_n 2, 1) := by decide +kernel
theorem dX10_press_161 : decode cX10_press 161 = .ok (.invokevirtual 265, 3) := by decide +kernel
theorem dX10_press_164 : decode cX10_press 164 = .ok (.iaload, 1) := by decide +kernel
theorem dX10_press_165 : decode cX10_press 165 = .ok (.bipush 14, 2) := by decide +kernel
theorem dX10_press_167 : decode cX10_press 167 = .ok (.invokevirtual 262, 3) := by decide +kernel
theorem dX10_press_170 : decode cX10_press 170 = .ok (.iinc 2 1, 3) := by decide +kernel
theorem dX10_press_173 : decode cX10_press 173 = .ok (.goto (-26), 3) := by decide +kernel
theorem dX10_press_176 : decode cX10_press 176 = .ok (.iload_n 1, 1) := by decide +kernel
theorem dX10_press_177 : decode cX10_press 177 = .ok (.iconst 1, 1) := by decide +kernel
theorem dX10_press_178 : decode cX10_press 178 = .ok (.iadd, 1) := by decide +kernel
theorem dX10_press_179 : decode cX10_press 179 = .ok (.aload_n 0, 1) := by decide +kernel
theorem dX10_press_180 : decode cX10_press 180 = .ok (.getfield 231, 3) := by decide +kernel
theorem dX10_press_183 : decode cX10_press 183 = .ok (.if_icmp .ge 11, 3) := by decide +kernel
theorem dX10_press_186 : decode cX10_press 186 = .ok (.aload_n 0, 1) := by decide +kernel
theorem dX10_press_187 : decode cX10_press 187 = .ok (.ldc 211, 2) := by decide +kernel
theorem dX10_press_189 : decode cX10_press 189 = .ok (.bipush 24, 2) := by decide +kernel
theorem dX10_press_191 : decode cX10_press 191 = .ok (.invokevirtual 262, 3) := by decide +kernel
theorem dX10_press_194 : decode cX10_press 194 = .ok (.iinc 1 1, 3) := by decide +kernel
theorem dX10_press_197 : decode cX10_press 197 = .ok (.goto (-71), 3) := by decide +kernel
theorem dX10_press_200 : decode cX10_press 200 = .ok (.aload_n 0, 1) := by decide +kernel
theorem dX10_press_201 : decode cX10_press 201 = .ok (.iconst 0, 1) := by decide +kernel
theorem dX10_press_202 : decode cX10_press 202 = .ok (.iconst 3, 1) := by decide +kernel
theorem dX10_press_203 : decode cX10_press 203 = .ok (.invokevirtual 219, 3) := by decide +kernel
theorem dX10_press_206 : decode cX10_press 206 = .ok (.aload_n 0, 1) := by decide +kernel
theorem dX10_press_207 : decode cX10_press 207 = .ok (.getfield 231, 3) := by decide +kernel
theorem dX10_press_210 : decode cX10_press 210 = .ok (.ireturn, 1) := by decide +kernel
theorem dX10_frames_0 : decode cX10_frames 0 = .ok (.aload_n 0, 1) := by decide +kernel
theorem dX10_frames_1 : decode cX10_frames 1 = .ok (.iconst 0, 1) := by decide +kernel
theorem dX10_frames_2 : decode cX10_frames 2 = .ok (.putfield 100, 3) := by decide +kernel
theorem dX10_frames_5 : decode cX10_frames 5 = .ok (.aload_n 0, 1) := by decide +kernel
theorem dX10_frames_6 : decode cX10_frames 6 = .ok (.getfield 231, 3) := by decide +kernel
theorem dX10_frames_9 : decode cX10_frames 9 = .ok (.ireturn, 1) := by decide +kernel
theorem dX10_length_0 : decode cX10_length 0 = .ok (.aload_n 0, 1) := by decide +kernel
theorem dX10_length_1 : decode cX10_length 1 = .ok (.iconst 0, 1) := by decide +kernel
theorem dX10_length_2 : decode cX10_length 2 = .ok (.putfield 100, 3) := by decide +kernel
theorem dX10_length_5 : decode cX10_length 5 = .ok (.aload_n 0, 1) := by decide +kernel
theorem dX10_length_6 : decode cX10_length 6 = .ok (.getfield 185, 3) := by decide +kernel
theorem dX10_length_9 : decode cX10_length 9 = .ok (.ireturn, 1) := by decide +kernel
theorem dX10_bit_0 : decode cX10_bit 0 = .ok (.iload_n 1, 1) := by decide +kernel
theorem dX10_bit_1 : decode cX10_bit 1 = .ok (.ifCond .lt 20, 3) := by decide +kernel
theorem dX10_bit_4 : decode cX10_bit 4 = .ok (.iload_n 1, 1) := by decide +kernel
theorem dX10_bit_5 : decode cX10_bit 5 = .ok (.aload_n 0, 1) := by decide +kernel
theorem dX10_bit_6 : decode cX10_bit 6 = .ok (.getfield 185, 3) := by decide +kernel
theorem dX10_bit_9 : decode cX10_bit 9 = .ok (.if_icmp .ge 12, 3) := by decide +kernel
theorem dX10_bit_12 : decode cX10_bit 12 = .ok (.aload_n 0, 1) := by decide +kernel
theorem dX10_bit_13 : decode cX10_bit 13 = .ok (.getfield 39, 3) := by decide +kernel
theorem dX10_bit_16 : decode cX10_bit 16 = .ok (.iload_n 1, 1) := by decide +kernel
theorem dX10_bit_17 : decode cX10_bit 17 = .ok (.baload, 1) := by decide +kernel
theorem dX10_bit_18 : decode cX10_bit 18 = .ok (.goto 4, 3) := by decide +kernel
theorem dX10_bit_21 : decode cX10_bit 21 = .ok (.iconst 0, 1) := by decide +kernel
theorem dX10_bit_22 : decode cX10_bit 22 = .ok (.ireturn, 1) := by decide +kernel
theorem dX10_taken_0 : decode cX10_taken 0 = .ok (.iconst 0, 1) := by decide +kernel
theorem dX10_taken_1 : decode cX10_taken 1 = .ok (.istore_n 3, 1) := by decide +kernel
theorem dX10_taken_2 : decode cX10_taken 2 = .ok (.iconst 0, 1) := by decide +kernel
theorem dX10_taken_3 : decode cX10_taken 3 = .ok (.istore 4, 2) := by decide +kernel
theorem dX10_taken_5 : decode cX10_taken 5 = .ok (.iload 4, 2) := by decide +kernel
theorem dX10_taken_7 : decode cX10_taken 7 = .ok (.iload_n 2, 1) := by decide +kernel
theorem dX10_taken_8 : decode cX10_taken 8 = .ok (.if_icmp .ge 22, 3) := by decide +kernel
theorem dX10_taken_11 : decode cX10_taken 11 = .ok (.iload_n 3, 1) := by decide +kernel
theorem dX10_taken_12 : decode cX10_taken 12 = .ok (.iconst 1, 1) := by decide +kernel
theorem dX10_taken_13 : decode cX10_taken 13 = .ok (.ishl, 1) := by decide +kernel
theorem dX10_taken_14 : decode cX10_taken 14 = .ok (.aload_n 0, 1) := by decide +kernel
theorem dX10_taken_15 : decode cX10_taken 15 = .ok (.iload_n 1, 1) := by decide +kernel
theorem dX10_taken_16 : decode cX10_taken 16 = .ok (.iload 4, 2) := by decide +kernel
theorem dX10_taken_18 : decode cX10_taken 18 = .ok (.iadd, 1) := by decide +kernel
theorem dX10_taken_19 : decode cX10_taken 19 = .ok (.invokevirtual 268, 3) := by decide +kernel
theorem dX10_taken_22 : decode cX10_taken 22 = .ok (.ior, 1) := by decide +kernel
theorem dX10_taken_23 : decode cX10_taken 23 = .ok (.istore_n 3, 1) := by decide +kernel
theorem dX10_taken_24 : decode cX10_taken 24 = .ok (.iinc 4 1, 3) := by decide +kernel
theorem dX10_taken_27 : decode cX10_taken 27 = .ok (.goto (-22), 3) := by decide +kernel
theorem dX10_taken_30 : decode cX10_taken 30 = .ok (.iload_n 3, 1) := by decide +kernel
theorem dX10_taken_31 : decode cX10_taken 31 = .ok (.ireturn, 1) := by decide +kernel
theorem dX10_bits_0 : decode cX10_bits 0 = .ok (.aload_n 0, 1) := by decide +kernel
theorem dX10_bits_1 : decode cX10_bits 1 = .ok (.iconst 0, 1) := by decide +kernel
theorem dX10_bits_2 : decode cX10_bits 2 = .ok (.putfield 100, 3) := by decide +kernel
theorem dX10_bits_5 : decode cX10_bits 5 = .ok (.iload_n 1, 1) := by decide +kernel
theorem dX10_bits_6 : decode cX10_bits 6 = .ok (.i2l, 1) := by decide +kernel
theorem dX10_bits_7 : decode cX10_bits 7 = .ok (.lconst 0, 1) := by decide +kernel
theorem dX10_bits_8 : decode cX10_bits 8 = .ok (.aload_n 0, 1) := by decide +kernel
theorem dX10_bits_9 : decode cX10_bits 9 = .ok (.getfield 185, 3) := by decide +kernel
theorem dX10_bits_12 : decode cX10_bits 12 = .ok (.iconst 1, 1) := by decide +kernel
theorem dX10_bits_13 : decode cX10_bits 13 = .ok (.isub, 1) := by decide +kernel
theorem dX10_bits_14 : decode cX10_bits 14 = .ok (.i2l, 1) := by decide +kernel
theorem dX10_bits_15 : decode cX10_bits 15 = .ok (.invokestatic 144, 3) := by decide +kernel
theorem dX10_bits_18 : decode cX10_bits 18 = .ok (.ifCond .eq 13, 3) := by decide +kernel
theorem dX10_bits_21 : decode cX10_bits 21 = .ok (.aload_n 0, 1) := by decide +kernel
theorem dX10_bits_22 : decode cX10_bits 22 = .ok (.iload_n 1, 1) := by decide +kernel
theorem dX10_bits_23 : decode cX10_bits 23 = .ok (.bipush 32, 2) := by decide +kernel
theorem dX10_bits_25 : decode cX10_bits 25 = .ok (.invokevirtual 271, 3) := by decide +kernel
theorem dX10_bits_28 : decode cX10_bits 28 = .ok (.goto 4, 3) := by decide +kernel
theorem dX10_bits_31 : decode cX10_bits 31 = .ok (.iconst 0, 1) := by decide +kernel
theorem dX10_bits_32 : decode cX10_bits 32 = .ok (.ireturn, 1) := by decide +kernel
theorem dX10_word_0 : decode cX10_word 0 = .ok (.aload_n 0, 1) := by decide +kernel
theorem dX10_word_1 : decode cX10_word 1 = .ok (.iconst 0, 1) := by decide +kernel
theorem dX10_word_2 : decode cX10_word 2 = .ok (.putfield 100, 3) := by decide +kernel
theorem dX10_word_5 : decode cX10_word 5 = .ok (.iload_n 1, 1) := by decide +kernel
theorem dX10_word_6 : decode cX10_word 6 = .ok (.i2l, 1) := by decide +kernel
theorem dX10_word_7 : decode cX10_word 7 = .ok (.lconst 0, 1) := by decide +kernel
theorem dX10_word_8 : decode cX10_word 8 = .ok (.aload_n 0, 1) := by decide +kernel
theorem dX10_word_9 : decode cX10_word 9 = .ok (.getfield 231, 3) := by decide +kernel
theorem dX10_word_12 : decode cX10_word 12 = .ok (.iconst 1, 1) := by decide +kernel
theorem dX10_word_13 : decode cX10_word 13 = .ok (.isub, 1) := by decide +kernel
theorem dX10_word_14 : decode cX10_word 14 = .ok (.i2l, 1) := by decide +kernel
theorem dX10_word_15 : decode cX10_word 15 = .ok (.invokestatic 144, 3) := by decide +kernel
theorem dX10_word_18 : decode cX10_word 18 = .ok (.ifCond .eq 37, 3) := by decide +kernel
theorem dX10_word_21 : decode cX10_word 21 = .ok (.iload_n 2, 1) := by decide +kernel
theorem dX10_word_22 : decode cX10_word 22 = .ok (.i2l, 1) := by decide +kernel
theorem dX10_word_23 : decode cX10_word 23 = .ok (.lconst 0, 1) := by decide +kernel
theorem dX10_word_24 : decode cX10_word 24 = .ok (.ldc2_w 274, 3) := by decide +kernel
theorem dX10_word_27 : decode cX10_word 27 = .ok (.invokestatic 144, 3) := by decide +kernel
theorem dX10_word_30 : decode cX10_word 30 = .ok (.ifCond .eq 25, 3) := by decide +kernel
theorem dX10_word_33 : decode cX10_word 33 = .ok (.aload_n 0, 1) := by decide +kernel
theorem dX10_word_34 : decode cX10_word 34 = .ok (.sipush 588, 3) := by decide +kernel
theorem dX10_word_37 : decode cX10_word 37 = .ok (.iload_n 1, 1) := by decide +kernel
theorem dX10_word_38 : decode cX10_word 38 = .ok (.imul, 1) := by decide +kernel
theorem dX10_word_39 : decode cX10_word 39 = .ok (.bipush 27, 2) := by decide +kernel
theorem dX10_word_41 : decode cX10_word 41 = .ok (.iadd, 1) := by decide +kernel
theorem dX10_word_42 : decode cX10_word 42 = .ok (.bipush 17, 2) := by decide +kernel
theorem dX10_word_44 : decode cX10_word 44 = .ok (.iload_n 2, 1) := by decide +kernel
theorem dX10_word_45 : decode cX10_word 45 = .ok (.imul, 1) := by decide +kernel
theorem dX10_word_46 : decode cX10_word 46 = .ok (.iadd, 1) := by decide +kernel
theorem dX10_word_47 : decode cX10_word 47 = .ok (.bipush 14, 2) := by decide +kernel
theorem dX10_word_49 : decode cX10_word 49 = .ok (.invokevirtual 271, 3) := by decide +kernel
theorem dX10_word_52 : decode cX10_word 52 = .ok (.goto 4, 3) := by decide +kernel
theorem dX10_word_55 : decode cX10_word 55 = .ok (.iconst (-1), 1) := by decide +kernel
theorem dX10_word_56 : decode cX10_word 56 = .ok (.ireturn, 1) := by decide +kernel
theorem dX10_joint_0 : decode cX10_joint 0 = .ok (.aload_n 0, 1) := by decide +kernel
theorem dX10_joint_1 : decode cX10_joint 1 = .ok (.iconst 0, 1) := by decide +kernel
theorem dX10_joint_2 : decode cX10_joint 2 = .ok (.putfield 100, 3) := by decide +kernel
theorem dX10_joint_5 : decode cX10_joint 5 = .ok (.iload_n 1, 1) := by decide +kernel
theorem dX10_joint_6 : decode cX10_joint 6 = .ok (.i2l, 1) := by decide +kernel
theorem dX10_joint_7 : decode cX10_joint 7 = .ok (.lconst 0, 1) := by decide +kernel
theorem dX10_joint_8 : decode cX10_joint 8 = .ok (.aload_n 0, 1) := by decide +kernel
theorem dX10_joint_9 : decode cX10_joint 9 = .ok (.getfield 231, 3) := by decide +kernel
theorem dX10_joint_12 : decode cX10_joint 12 = .ok (.iconst 1, 1) := by decide +kernel
theorem dX10_joint_13 : decode cX10_joint 13 = .ok (.isub, 1) := by decide +kernel
theorem dX10_joint_14 : decode cX10_joint 14 = .ok (.i2l, 1) := by decide +kernel
theorem dX10_joint_15 : decode cX10_joint 15 = .ok (.invokestatic 144, 3) := by decide +kernel
theorem dX10_joint_18 : decode cX10_joint 18 = .ok (.ifCond .eq 36, 3) := by decide +kernel
theorem dX10_joint_21 : decode cX10_joint 21 = .ok (.iload_n 2, 1) := by decide +kernel
theorem dX10_joint_22 : decode cX10_joint 22 = .ok (.i2l, 1) := by decide +kernel
theorem dX10_joint_23 : decode cX10_joint 23 = .ok (.lconst 0, 1) := by decide +kernel
theorem dX10_joint_24 : decode cX10_joint 24 = .ok (.ldc2_w 276, 3) := by decide +kernel
theorem dX10_joint_27 : decode cX10_joint 27 = .ok (.invokestatic 144, 3) := by decide +kernel
theorem dX10_joint_30 : decode cX10_joint 30 = .ok (.ifCond .eq 24, 3) := by decide +kernel
theorem dX10_joint_33 : decode cX10_joint 33 = .ok (.aload_n 0, 1) := by decide +kernel
theorem dX10_joint_34 : decode cX10_joint 34 = .ok (.sipush 588, 3) := by decide +kernel
theorem dX10_joint_37 : decode cX10_joint 37 = .ok (.iload_n 1, 1) := by decide +kernel
theorem dX10_joint_38 : decode cX10_joint 38 = .ok (.imul, 1) := by decide +kernel
theorem dX10_joint_39 : decode cX10_joint 39 = .ok (.bipush 24, 2) := by decide +kernel
theorem dX10_joint_41 : decode cX10_joint 41 = .ok (.iadd, 1) := by decide +kernel
theorem dX10_joint_42 : decode cX10_joint 42 = .ok (.bipush 17, 2) := by decide +kernel
theorem dX10_joint_44 : decode cX10_joint 44 = .ok (.iload_n 2, 1) := by decide +kernel
theorem dX10_joint_45 : decode cX10_joint 45 = .ok (.imul, 1) := by decide +kernel
theorem dX10_joint_46 : decode cX10_joint 46 = .ok (.iadd, 1) := by decide +kernel
theorem dX10_joint_47 : decode cX10_joint 47 = .ok (.iconst 3, 1) := by decide +kernel
theorem dX10_joint_48 : decode cX10_joint 48 = .ok (.invokevirtual 271, 3) := by decide +kernel
theorem dX10_joint_51 : decode cX10_joint 51 = .ok (.goto 4, 3) := by decide +kernel
theorem dX10_joint_54 : decode cX10_joint 54 = .ok (.iconst (-1), 1) := by decide +kernel
theorem dX10_joint_55 : decode cX10_joint 55 = .ok (.ireturn, 1) := by decide +kernel
theorem dX10_balance_0 : decode cX10_balance 0 = .ok (.aload_n 0, 1) := by decide +kernel
theorem dX10_balance_1 : decode cX10_balance 1 = .ok (.iconst 0, 1) := by decide +kernel
theorem dX10_balance_2 : decode cX10_balance 2 = .ok (.putfield 100, 3) := by decide +kernel
theorem dX10_balance_5 : decode cX10_balance 5 = .ok (.iload_n 1, 1) := by decide +kernel
theorem dX10_balance_6 : decode cX10_balance 6 = .ok (.i2l, 1) := by decide +kernel
theorem dX10_balance_7 : decode cX10_balance 7 = .ok (.lconst 0, 1) := by decide +kernel
theorem dX10_balance_8 : decode cX10_balance 8 = .ok (.aload_n 0, 1) := by decide +kernel
theorem dX10_balance_9 : decode cX10_balance 9 = .ok (.getfield 185, 3) := by decide +kernel
theorem dX10_balance_12 : decode cX10_balance 12 = .ok (.i2l, 1) := by decide +kernel
theorem dX10_balance_13 : decode cX10_balance 13 = .ok (.invokestatic 144, 3) := by decide +kernel
theorem dX10_balance_16 : decode cX10_balance 16 = .ok (.ifCond .ne 7, 3) := by decide +kernel
theorem dX10_balance_19 : decode cX10_balance 19 = .ok (.ldc_w 278, 3) := by decide +kernel
theorem dX10_balance_22 : decode cX10_balance 22 = .ok (.ireturn, 1) := by decide +kernel
theorem dX10_balance_23 : decode cX10_balance 23 = .ok (.iconst 1, 1) := by decide +kernel
theorem dX10_balance_24 : decode cX10_balance 24 = .ok (.istore_n 2, 1) := by decide +kernel
theorem dX10_balance_25 : decode cX10_balance 25 = .ok (.iconst 0, 1) := by decide +kernel
theorem dX10_balance_26 : decode cX10_balance 26 = .ok (.istore_n 3, 1) := by decide +kernel
theorem dX10_balance_27 : decode cX10_balance 27 = .ok (.iconst 0, 1) := by decide +kernel
theorem dX10_balance_28 : decode cX10_balance 28 = .ok (.istore 4, 2) := by decide +kernel
theorem dX10_balance_30 : decode cX10_balance 30 = .ok (.iload 4, 2) := by decide +kernel
theorem dX10_balance_32 : decode cX10_balance 32 = .ok (.iload_n 1, 1) := by decide +kernel
theorem dX10_balance_33 : decode cX10_balance 33 = .ok (.if_icmp .ge 31, 3) := by decide +kernel
theorem dX10_balance_36 : decode cX10_balance 36 = .ok (.aload_n 0, 1) := by decide +kernel
theorem dX10_balance_37 : decode cX10_balance 37 = .ok (.getfield 39, 3) := by decide +kernel
theorem dX10_balance_40 : decode cX10_balance 40 = .ok (.iload 4, 2) := by decide +kernel
theorem dX10_balance_42 : decode cX10_balance 42 = .ok (.baload, 1) := by decide +kernel
theorem dX10_balance_43 : decode cX10_balance 43 = .ok (.iconst 1, 1) := by decide +kernel
theorem dX10_balance_44 : decode cX10_balance 44 = .ok (.if_icmp .ne 8, 3) := by decide +kernel
theorem dX10_balance_47 : decode cX10_balance 47 = .ok (.iload_n 2, 1) := by decide +kernel
theorem dX10_balance_48 : decode cX10_balance 48 = .ok (.ineg, 1) := by decide +kernel
theorem dX10_balance_49 : decode cX10_balance 49 = .ok (.goto 4, 3) := by decide +kernel
theorem dX10_balance_52 : decode cX10_balance 52 = .ok (.iload_n 2, 1) := by decide +kernel
theorem dX10_balance_53 : decode cX10_balance 53 = .ok (.istore_n 2, 1) := by decide +kernel
theorem dX10_balance_54 : decode cX10_balance 54 = .ok (.iload_n 3, 1) := by decide +kernel
theorem dX10_balance_55 : decode cX10_balance 55 = .ok (.iload_n 2, 1) := by decide +kernel
theorem dX10_balance_56 : decode cX10_balance 56 = .ok (.iadd, 1) := by decide +kernel
theorem dX10_balance_57 : decode cX10_balance 57 = .ok (.istore_n 3, 1) := by decide +kernel
theorem dX10_balance_58 : decode cX10_balance 58 = .ok (.iinc 4 1, 3) := by decide +kernel
theorem dX10_balance_61 : decode cX10_balance 61 = .ok (.goto (-31), 3) := by decide +kernel
theorem dX10_balance_64 : decode cX10_balance 64 = .ok (.iload_n 3, 1) := by decide +kernel
theorem dX10_balance_65 : decode cX10_balance 65 = .ok (.ireturn, 1) := by decide +kernel
theorem dX10_run_0 : decode cX10_run 0 = .ok (.aload_n 0, 1) := by decide +kernel
theorem dX10_run_1 : decode cX10_run 1 = .ok (.iconst 0, 1) := by decide +kernel
theorem dX10_run_2 : decode cX10_run 2 = .ok (.putfield 100, 3) := by decide +kernel
theorem dX10_run_5 : decode cX10_run 5 = .ok (.iconst (-1), 1) := by decide +kernel
theorem dX10_run_6 : decode cX10_run 6 = .ok (.istore_n 2, 1) := by decide +kernel
theorem dX10_run_7 : decode cX10_run 7 = .ok (.iconst (-1), 1) := by decide +kernel
theorem dX10_run_8 : decode cX10_run 8 = .ok (.istore_n 3, 1) := by decide +kernel
theorem dX10_run_9 : decode cX10_run 9 = .ok (.iconst 0, 1) := by decide +kernel
theorem dX10_run_10 : decode cX10_run 10 = .ok (.istore 4, 2) := by decide +kernel
theorem dX10_run_12 : decode cX10_run 12 = .ok (.iload 4, 2) := by decide +kernel
theorem dX10_run_14 : decode cX10_run 14 = .ok (.aload_n 0, 1) := by decide +kernel
theorem dX10_run_15 : decode cX10_run 15 = .ok (.getfield 185, 3) := by decide +kernel
theorem dX10_run_18 : decode cX10_run 18 = .ok (.if_icmp .ge 79, 3) := by decide +kernel
theorem dX10_run_21 : decode cX10_run 21 = .ok (.aload_n 0, 1) := by decide +kernel
theorem dX10_run_22 : decode cX10_run 22 = .ok (.getfield 39, 3) := by decide +kernel
theorem dX10_run_25 : decode cX10_run 25 = .ok (.iload 4, 2) := by decide +kernel
theorem dX10_run_27 : decode cX10_run 27 = .ok (.baload, 1) := by decide +kernel
theorem dX10_run_28 : decode cX10_run 28 = .ok (.ifCond .ne 6, 3) := by decide +kernel
theorem dX10_run_31 : decode cX10_run 31 = .ok (.goto 60, 3) := by decide +kernel
theorem dX10_run_34 : decode cX10_run 34 = .ok (.iload 4, 2) := by decide +kernel
theorem dX10_run_36 : decode cX10_run 36 = .ok (.iload_n 3, 1) := by decide +kernel
theorem dX10_run_37 : decode cX10_run 37 = .ok (.isub, 1) := by decide +kernel
theorem dX10_run_38 : decode cX10_run 38 = .ok (.iconst 1, 1) := by decide +kernel
theorem dX10_run_39 : decode cX10_run 39 = .ok (.isub, 1) := by decide +kernel
theorem dX10_run_40 : decode cX10_run 40 = .ok (.istore 5, 2) := by decide +kernel
theorem dX10_run_42 : decode cX10_run 42 = .ok (.iload_n 3, 1) := by decide +kernel
theorem dX10_run_43 : decode cX10_run 43 = .ok (.ifCond .lt 30, 3) := by decide +kernel
theorem dX10_run_46 : decode cX10_run 46 = .ok (.iload_n 2, 1) := by decide +kernel
theorem dX10_run_47 : decode cX10_run 47 = .ok (.ifCond .lt 22, 3) := by decide +kernel
theorem dX10_run_50 : decode cX10_run 50 = .ok (.iload_n 1, 1) := by decide +kernel
theorem dX10_run_51 : decode cX10_run 51 = .ok (.ifCond .eq 12, 3) := by decide +kernel
theorem dX10_run_54 : decode cX10_run 54 = .ok (.iload 5, 2) := by decide +kernel
theorem dX10_run_56 : decode cX10_run 56 = .ok (.iload_n 2, 1) := by decide +kernel
theorem dX10_run_57 : decode cX10_run 57 = .ok (.if_icmp .le 16, 3) := by decide +kernel
theorem dX10_run_60 : decode cX10_run 60 = .ok (.goto 9, 3) := by decide +kernel
theorem dX10_run_63 : decode cX10_run 63 = .ok (.iload 5, 2) := by decide +kernel
theorem dX10_run_65 : decode cX10_run 65 = .ok (.iload_n 2, 1) := by decide +kernel
theorem dX10_run_66 : decode cX10_run 66 = .ok (.if_icmp .ge 7, 3) := by decide +kernel
theorem dX10_run_69 : decode cX10_run 69 = .ok (.iconst 1, 1) := by decide +kernel
theorem dX10_run_70 : decode cX10_run 70 = .ok (.goto 4, 3) := by decide +kernel
theorem dX10_run_73 : decode cX10_run 73 = .ok (.iconst 0, 1) := by decide +kernel
theorem dX10_run_74 : decode cX10_run 74 = .ok (.istore 6, 2) := by decide +kernel
theorem dX10_run_76 : decode cX10_run 76 = .ok (.iload 6, 2) := by decide +kernel
theorem dX10_run_78 : decode cX10_run 78 = .ok (.ifCond .eq 8, 3) := by decide +kernel
theorem dX10_run_81 : decode cX10_run 81 = .ok (.iload 5, 2) := by decide +kernel
theorem dX10_run_83 : decode cX10_run 83 = .ok (.goto 4, 3) := by decide +kernel
theorem dX10_run_86 : decode cX10_run 86 = .ok (.iload_n 2, 1) := by decide +kernel
theorem dX10_run_87 : decode cX10_run 87 = .ok (.istore_n 2, 1) := by decide +kernel
theorem dX10_run_88 : decode cX10_run 88 = .ok (.iload 4, 2) := by decide +kernel
theorem dX10_run_90 : decode cX10_run 90 = .ok (.istore_n 3, 1) := by decide +kernel
theorem dX10_run_91 : decode cX10_run 91 = .ok (.iinc 4 1, 3) := by decide +kernel
theorem dX10_run_94 : decode cX10_run 94 = .ok (.goto (-82), 3) := by decide +kernel
theorem dX10_run_97 : decode cX10_run 97 = .ok (.iload_n 2, 1) := by decide +kernel
theorem dX10_run_98 : decode cX10_run 98 = .ok (.ireturn, 1) := by decide +kernel
theorem dX10_isSign_0 : decode cX10_isSign 0 = .ok (.iload_n 1, 1) := by decide +kernel
theorem dX10_isSign_1 : decode cX10_isSign 1 = .ok (.ifCond .lt 27, 3) := by decide +kernel
theorem dX10_isSign_4 : decode cX10_isSign 4 = .ok (.iload_n 1, 1) := by decide +kernel
theorem dX10_isSign_5 : decode cX10_isSign 5 = .ok (.bipush 24, 2) := by decide +kernel
theorem dX10_isSign_7 : decode cX10_isSign 7 = .ok (.iadd, 1) := by decide +kernel
theorem dX10_isSign_8 : decode cX10_isSign 8 = .ok (.aload_n 0, 1) := by decide +kernel
theorem dX10_isSign_9 : decode cX10_isSign 9 = .ok (.getfield 185, 3) := by decide +kernel
theorem dX10_isSign_12 : decode cX10_isSign 12 = .ok (.if_icmp .gt 16, 3) := by decide +kernel
theorem dX10_isSign_15 : decode cX10_isSign 15 = .ok (.aload_n 0, 1) := by decide +kernel
theorem dX10_isSign_16 : decode cX10_isSign 16 = .ok (.iload_n 1, 1) := by decide +kernel
theorem dX10_isSign_17 : decode cX10_isSign 17 = .ok (.invokevirtual 268, 3) := by decide +kernel
theorem dX10_isSign_20 : decode cX10_isSign 20 = .ok (.iconst 1, 1) := by decide +kernel
theorem dX10_isSign_21 : decode cX10_isSign 21 = .ok (.if_icmp .ne 7, 3) := by decide +kernel
theorem dX10_isSign_24 : decode cX10_isSign 24 = .ok (.iconst 1, 1) := by decide +kernel
theorem dX10_isSign_25 : decode cX10_isSign 25 = .ok (.goto 4, 3) := by decide +kernel
theorem dX10_isSign_28 : decode cX10_isSign 28 = .ok (.iconst 0, 1) := by decide +kernel
theorem dX10_isSign_29 : decode cX10_isSign 29 = .ok (.istore_n 2, 1) := by decide +kernel
theorem dX10_isSign_30 : decode cX10_isSign 30 = .ok (.iload_n 2, 1) := by decide +kernel
theorem dX10_isSign_31 : decode cX10_isSign 31 = .ok (.ifCond .eq 19, 3) := by decide +kernel
theorem dX10_isSign_34 : decode cX10_isSign 34 = .ok (.aload_n 0, 1) := by decide +kernel
theorem dX10_isSign_35 : decode cX10_isSign 35 = .ok (.iload_n 1, 1) := by decide +kernel
theorem dX10_isSign_36 : decode cX10_isSign 36 = .ok (.bipush 24, 2) := by decide +kernel
theorem dX10_isSign_38 : decode cX10_isSign 38 = .ok (.invokevirtual 271, 3) := by decide +kernel
theorem dX10_isSign_41 : decode cX10_isSign 41 = .ok (.ldc 211, 2) := by decide +kernel
theorem dX10_isSign_43 : decode cX10_isSign 43 = .ok (.if_icmp .ne 7, 3) := by decide +kernel
theorem dX10_isSign_46 : decode cX10_isSign 46 = .ok (.iconst 1, 1) := by decide +kernel
theorem dX10_isSign_47 : decode cX10_isSign 47 = .ok (.goto 4, 3) := by decide +kernel
theorem dX10_isSign_50 : decode cX10_isSign 50 = .ok (.iconst 0, 1) := by decide +kernel
theorem dX10_isSign_51 : decode cX10_isSign 51 = .ok (.ireturn, 1) := by decide +kernel
theorem dX10_signs_0 : decode cX10_signs 0 = .ok (.aload_n 0, 1) := by decide +kernel
theorem dX10_signs_1 : decode cX10_signs 1 = .ok (.iconst 0, 1) := by decide +kernel
theorem dX10_signs_2 : decode cX10_signs 2 = .ok (.putfield 100, 3) := by decide +kernel
theorem dX10_signs_5 : decode cX10_signs 5 = .ok (.iconst 0, 1) := by decide +kernel
theorem dX10_signs_6 : decode cX10_signs 6 = .ok (.istore_n 1, 1) := by decide +kernel
theorem dX10_signs_7 : decode cX10_signs 7 = .ok (.iconst 0, 1) := by decide +kernel
theorem dX10_signs_8 : decode cX10_signs 8 = .ok (.istore_n 2, 1) := by decide +kernel
theorem dX10_signs_9 : decode cX10_signs 9 = .ok (.iload_n 2, 1) := by decide +kernel
theorem dX10_signs_10 : decode cX10_signs 10 = .ok (.aload_n 0, 1) := by decide +kernel
theorem dX10_signs_11 : decode cX10_signs 11 = .ok (.getfield 185, 3) := by decide +kernel
theorem dX10_signs_14 : decode cX10_signs 14 = .ok (.if_icmp .ge 25, 3) := by decide +kernel
theorem dX10_signs_17 : decode cX10_signs 17 = .ok (.iload_n 1, 1) := by decide +kernel
theorem dX10_signs_18 : decode cX10_signs 18 = .ok (.aload_n 0, 1) := by decide +kernel
theorem dX10_signs_19 : decode cX10_signs 19 = .ok (.iload_n 2, 1) := by decide +kernel
theorem dX10_signs_20 : decode cX10_signs 20 = .ok (.invokevirtual 279, 3) := by decide +kernel
theorem dX10_signs_23 : decode cX10_signs 23 = .ok (.ifCond .eq 7, 3) := by decide +kernel
theorem dX10_signs_26 : decode cX10_signs 26 = .ok (.iconst 1, 1) := by decide +kernel
theorem dX10_signs_27 : decode cX10_signs 27 = .ok (.goto 4, 3) := by decide +kernel
theorem dX10_signs_30 : decode cX10_signs 30 = .ok (.iconst 0, 1) := by decide +kernel
theorem dX10_signs_31 : decode cX10_signs 31 = .ok (.iadd, 1) := by decide +kernel
theorem dX10_signs_32 : decode cX10_signs 32 = .ok (.istore_n 1, 1) := by decide +kernel
theorem dX10_signs_33 : decode cX10_signs 33 = .ok (.iinc 2 1, 3) := by decide +kernel
theorem dX10_signs_36 : decode cX10_signs 36 = .ok (.goto (-27), 3) := by decide +kernel
theorem dX10_signs_39 : decode cX10_signs 39 = .ok (.iload_n 1, 1) := by decide +kernel
theorem dX10_signs_40 : decode cX10_signs 40 = .ok (.ireturn, 1) := by decide +kernel
theorem dX10_signAt_0 : decode cX10_signAt 0 = .ok (.aload_n 0, 1) := by decide +kernel
theorem dX10_signAt_1 : decode cX10_signAt 1 = .ok (.iconst 0, 1) := by decide +kernel
theorem dX10_signAt_2 : decode cX10_signAt 2 = .ok (.putfield 100, 3) := by decide +kernel
theorem dX10_signAt_5 : decode cX10_signAt 5 = .ok (.iconst 0, 1) := by decide +kernel
theorem dX10_signAt_6 : decode cX10_signAt 6 = .ok (.istore_n 2, 1) := by decide +kernel
theorem dX10_signAt_7 : decode cX10_signAt 7 = .ok (.iconst 0, 1) := by decide +kernel
theorem dX10_signAt_8 : decode cX10_signAt 8 = .ok (.istore_n 3, 1) := by decide +kernel
theorem dX10_signAt_9 : decode cX10_signAt 9 = .ok (.iload_n 3, 1) := by decide +kernel
theorem dX10_signAt_10 : decode cX10_signAt 10 = .ok (.aload_n 0, 1) := by decide +kernel
theorem dX10_signAt_11 : decode cX10_signAt 11 = .ok (.getfield 185, 3) := by decide +kernel
theorem dX10_signAt_14 : decode cX10_signAt 14 = .ok (.if_icmp .ge 30, 3) := by decide +kernel
theorem dX10_signAt_17 : decode cX10_signAt 17 = .ok (.aload_n 0, 1) := by decide +kernel
theorem dX10_signAt_18 : decode cX10_signAt 18 = .ok (.iload_n 3, 1) := by decide +kernel
theorem dX10_signAt_19 : decode cX10_signAt 19 = .ok (.invokevirtual 279, 3) := by decide +kernel
theorem dX10_signAt_22 : decode cX10_signAt 22 = .ok (.ifCond .ne 6, 3) := by decide +kernel
theorem dX10_signAt_25 : decode cX10_signAt 25 = .ok (.goto 13, 3) := by decide +kernel
theorem dX10_signAt_28 : decode cX10_signAt 28 = .ok (.iload_n 2, 1) := by decide +kernel
theorem dX10_signAt_29 : decode cX10_signAt 29 = .ok (.iload_n 1, 1) := by decide +kernel
theorem dX10_signAt_30 : decode cX10_signAt 30 = .ok (.if_icmp .ne 5, 3) := by decide +kernel
theorem dX10_signAt_33 : decode cX10_signAt 33 = .ok (.iload_n 3, 1) := by decide +kernel
theorem dX10_signAt_34 : decode cX10_signAt 34 = .ok (.ireturn, 1) := by decide +kernel
theorem dX10_signAt_35 : decode cX10_signAt 35 = .ok (.iinc 2 1, 3) := by decide +kernel
theorem dX10_signAt_38 : decode cX10_signAt 38 = .ok (.iinc 3 1, 3) := by decide +kernel
theorem dX10_signAt_41 : decode cX10_signAt 41 = .ok (.goto (-32), 3) := by decide +kernel
theorem dX10_signAt_44 : decode cX10_signAt 44 = .ok (.iconst (-1), 1) := by decide +kernel
theorem dX10_signAt_45 : decode cX10_signAt 45 = .ok (.ireturn, 1) := by decide +kernel
theorem dX10_flip_0 : decode cX10_flip 0 = .ok (.aload_n 0, 1) := by decide +kernel
theorem dX10_flip_1 : decode cX10_flip 1 = .ok (.iconst 0, 1) := by decide +kernel
theorem dX10_flip_2 : decode cX10_flip 2 = .ok (.putfield 100, 3) := by decide +kernel
theorem dX10_flip_5 : decode cX10_flip 5 = .ok (.iload_n 1, 1) := by decide +kernel
theorem dX10_flip_6 : decode cX10_flip 6 = .ok (.i2l, 1) := by decide +kernel
theorem dX10_flip_7 : decode cX10_flip 7 = .ok (.lconst 0, 1) := by decide +kernel
theorem dX10_flip_8 : decode cX10_flip 8 = .ok (.aload_n 0, 1) := by decide +kernel
theorem dX10_flip_9 : decode cX10_flip 9 = .ok (.getfield 185, 3) := by decide +kernel
theorem dX10_flip_12 : decode cX10_flip 12 = .ok (.iconst 1, 1) := by decide +kernel
theorem dX10_flip_13 : decode cX10_flip 13 = .ok (.isub, 1) := by decide +kernel
theorem dX10_flip_14 : decode cX10_flip 14 = .ok (.i2l, 1) := by decide +kernel
theorem dX10_flip_15 : decode cX10_flip 15 = .ok (.invokestatic 144, 3) := by decide +kernel
theorem dX10_flip_18 : decode cX10_flip 18 = .ok (.istore_n 2, 1) := by decide +kernel
theorem dX10_flip_19 : decode cX10_flip 19 = .ok (.iload_n 2, 1) := by decide +kernel
theorem dX10_flip_20 : decode cX10_flip 20 = .ok (.ifCond .eq 18, 3) := by decide +kernel
theorem dX10_flip_23 : decode cX10_flip 23 = .ok (.aload_n 0, 1) := by decide +kernel
theorem dX10_flip_24 : decode cX10_flip 24 = .ok (.getfield 39, 3) := by decide +kernel
theorem dX10_flip_27 : decode cX10_flip 27 = .ok (.iload_n 1, 1) := by decide +kernel
theorem dX10_flip_28 : decode cX10_flip 28 = .ok (.iconst 1, 1) := by decide +kernel
theorem dX10_flip_29 : decode cX10_flip 29 = .ok (.aload_n 0, 1) := by decide +kernel
theorem dX10_flip_30 : decode cX10_flip 30 = .ok (.getfield 39, 3) := by decide +kernel
theorem dX10_flip_33 : decode cX10_flip 33 = .ok (.iload_n 1, 1) := by decide +kernel
theorem dX10_flip_34 : decode cX10_flip 34 = .ok (.baload, 1) := by decide +kernel
theorem dX10_flip_35 : decode cX10_flip 35 = .ok (.isub, 1) := by decide +kernel
theorem dX10_flip_36 : decode cX10_flip 36 = .ok (.i2b, 1) := by decide +kernel
theorem dX10_flip_37 : decode cX10_flip 37 = .ok (.bastore, 1) := by decide +kernel
theorem dX10_flip_38 : decode cX10_flip 38 = .ok (.iload_n 2, 1) := by decide +kernel
theorem dX10_flip_39 : decode cX10_flip 39 = .ok (.ireturn, 1) := by decide +kernel
theorem dX10_reached_0 : decode cX10_reached 0 = .ok (.ldc2_w 282, 3) := by decide +kernel
theorem dX10_reached_3 : decode cX10_reached 3 = .ok (.iload_n 1, 1) := by decide +kernel
theorem dX10_reached_4 : decode cX10_reached 4 = .ok (.i2l, 1) := by decide +kernel
theorem dX10_reached_5 : decode cX10_reached 5 = .ok (.lmul, 1) := by decide +kernel
theorem dX10_reached_6 : decode cX10_reached 6 = .ok (.lstore_n 3, 1) := by decide +kernel
theorem dX10_reached_7 : decode cX10_reached 7 = .ok (.lload_n 3, 1) := by decide +kernel
theorem dX10_reached_8 : decode cX10_reached 8 = .ok (.lconst 0, 1) := by decide +kernel
theorem dX10_reached_9 : decode cX10_reached 9 = .ok (.aload_n 0, 1) := by decide +kernel
theorem dX10_reached_10 : decode cX10_reached 10 = .ok (.getfield 185, 3) := by decide +kernel
theorem dX10_reached_13 : decode cX10_reached 13 = .ok (.iconst 1, 1) := by decide +kernel
theorem dX10_reached_14 : decode cX10_reached 14 = .ok (.isub, 1) := by decide +kernel
theorem dX10_reached_15 : decode cX10_reached 15 = .ok (.i2l, 1) := by decide +kernel
theorem dX10_reached_16 : decode cX10_reached 16 = .ok (.invokestatic 144, 3) := by decide +kernel
theorem dX10_reached_19 : decode cX10_reached 19 = .ok (.ifCond .eq 15, 3) := by decide +kernel
theorem dX10_reached_22 : decode cX10_reached 22 = .ok (.iload_n 2, 1) := by decide +kernel
theorem dX10_reached_23 : decode cX10_reached 23 = .ok (.i2l, 1) := by decide +kernel
theorem dX10_reached_24 : decode cX10_reached 24 = .ok (.lconst 0, 1) := by decide +kernel
theorem dX10_reached_25 : decode cX10_reached 25 = .ok (.ldc2_w 284, 3) := by decide +kernel
theorem dX10_reached_28 : decode cX10_reached 28 = .ok (.invokestatic 144, 3) := by decide +kernel
theorem dX10_reached_31 : decode cX10_reached 31 = .ok (.ifCond .ne 5, 3) := by decide +kernel
theorem dX10_reached_34 : decode cX10_reached 34 = .ok (.iconst (-1), 1) := by decide +kernel
theorem dX10_reached_35 : decode cX10_reached 35 = .ok (.ireturn, 1) := by decide +kernel
theorem dX10_reached_36 : decode cX10_reached 36 = .ok (.sipush 588, 3) := by decide +kernel
theorem dX10_reached_39 : decode cX10_reached 39 = .ok (.iload_n 2, 1) := by decide +kernel
theorem dX10_reached_40 : decode cX10_reached 40 = .ok (.imul, 1) := by decide +kernel
theorem dX10_reached_41 : decode cX10_reached 41 = .ok (.aload_n 0, 1) := by decide +kernel
theorem dX10_reached_42 : decode cX10_reached 42 = .ok (.getfield 185, 3) := by decide +kernel
theorem dX10_reached_45 : decode cX10_reached 45 = .ok (.sipush 588, 3) := by decide +kernel
theorem dX10_reached_48 : decode cX10_reached 48 = .ok (.iload_n 1, 1) := by decide +kernel
theorem dX10_reached_49 : decode cX10_reached 49 = .ok (.imul, 1) := by decide +kernel
theorem dX10_reached_50 : decode cX10_reached 50 = .ok (.isub, 1) := by decide +kernel
theorem dX10_reached_51 : decode cX10_reached 51 = .ok (.invokestatic 286, 3) := by decide +kernel
theorem dX10_reached_54 : decode cX10_reached 54 = .ok (.ireturn, 1) := by decide +kernel
theorem dX10_scratch_0 : decode cX10_scratch 0 = .ok (.aload_n 0, 1) := by decide +kernel
theorem dX10_scratch_1 : decode cX10_scratch 1 = .ok (.iconst 0, 1) := by decide +kernel
theorem dX10_scratch_2 : decode cX10_scratch 2 = .ok (.putfield 100, 3) := by decide +kernel
theorem dX10_scratch_5 : decode cX10_scratch 5 = .ok (.aload_n 0, 1) := by decide +kernel
theorem dX10_scratch_6 : decode cX10_scratch 6 = .ok (.iload_n 1, 1) := by decide +kernel
theorem dX10_scratch_7 : decode cX10_scratch 7 = .ok (.iload_n 2, 1) := by decide +kernel
theorem dX10_scratch_8 : decode cX10_scratch 8 = .ok (.invokevirtual 291, 3) := by decide +kernel
theorem dX10_scratch_11 : decode cX10_scratch 11 = .ok (.istore_n 3, 1) := by decide +kernel
theorem dX10_scratch_12 : decode cX10_scratch 12 = .ok (.iconst 0, 1) := by decide +kernel
theorem dX10_scratch_13 : decode cX10_scratch 13 = .ok (.istore 4, 2) := by decide +kernel
theorem dX10_scratch_15 : decode cX10_scratch 15 = .ok (.iload 4, 2) := by decide +kernel
theorem dX10_scratch_17 : decode cX10_scratch 17 = .ok (.iload_n 3, 1) := by decide +kernel
theorem dX10_scratch_18 : decode cX10_scratch 18 = .ok (.if_icmp .ge 23, 3) := by decide +kernel
theorem dX10_scratch_21 : decode cX10_scratch 21 = .ok (.aload_n 0, 1) := by decide +kernel
theorem dX10_scratch_22 : decode cX10_scratch 22 = .ok (.getfield 39, 3) := by decide +kernel
theorem dX10_scratch_25 : decode cX10_scratch 25 = .ok (.sipush 588, 3) := by decide +kernel
theorem dX10_scratch_28 : decode cX10_scratch 28 = .ok (.iload_n 1, 1) := by decide +kernel
theorem dX10_scratch_29 : decode cX10_scratch 29 = .ok (.imul, 1) := by decide +kernel
theorem dX10_scratch_30 : decode cX10_scratch 30 = .ok (.iload 4, 2) := by decide +kernel
theorem dX10_scratch_32 : decode cX10_scratch 32 = .ok (.iadd, 1) := by decide +kernel
theorem dX10_scratch_33 : decode cX10_scratch 33 = .ok (.iconst 0, 1) := by decide +kernel
theorem dX10_scratch_34 : decode cX10_scratch 34 = .ok (.bastore, 1) := by decide +kernel
theorem dX10_scratch_35 : decode cX10_scratch 35 = .ok (.iinc 4 1, 3) := by decide +kernel
theorem dX10_scratch_38 : decode cX10_scratch 38 = .ok (.goto (-23), 3) := by decide +kernel
theorem dX10_scratch_41 : decode cX10_scratch 41 = .ok (.iload_n 3, 1) := by decide +kernel
theorem dX10_scratch_42 : decode cX10_scratch 42 = .ok (.ireturn, 1) := by decide +kernel
theorem dX10_noise_0 : decode cX10_noise 0 = .ok (.aload_n 0, 1) := by decide +kernel
theorem dX10_noise_1 : decode cX10_noise 1 = .ok (.iconst 0, 1) := by decide +kernel
theorem dX10_noise_2 : decode cX10_noise 2 = .ok (.putfield 100, 3) := by decide +kernel
theorem dX10_noise_5 : decode cX10_noise 5 = .ok (.aload_n 0, 1) := by decide +kernel
theorem dX10_noise_6 : decode cX10_noise 6 = .ok (.iload_n 1, 1) := by decide +kernel
theorem dX10_noise_7 : decode cX10_noise 7 = .ok (.iload_n 2, 1) := by decide +kernel
theorem dX10_noise_8 : decode cX10_noise 8 = .ok (.invokevirtual 291, 3) := by decide +kernel
theorem dX10_noise_11 : decode cX10_noise 11 = .ok (.istore 4, 2) := by decide +kernel
theorem dX10_noise_13 : decode cX10_noise 13 = .ok (.iload 4, 2) := by decide +kernel
theorem dX10_noise_15 : decode cX10_noise 15 = .ok (.ifCond .ge 5, 3) := by decide +kernel
theorem dX10_noise_18 : decode cX10_noise 18 = .ok (.iconst (-1), 1) := by decide +kernel
theorem dX10_noise_19 : decode cX10_noise 19 = .ok (.ireturn, 1) := by decide +kernel
theorem dX10_noise_20 : decode cX10_noise 20 = .ok (.iload_n 3, 1) := by decide +kernel
theorem dX10_noise_21 : decode cX10_noise 21 = .ok (.istore 5, 2) := by decide +kernel
theorem dX10_noise_23 : decode cX10_noise 23 = .ok (.iconst 0, 1) := by decide +kernel
theorem dX10_noise_24 : decode cX10_noise 24 = .ok (.istore 6, 2) := by decide +kernel
theorem dX10_noise_26 : decode cX10_noise 26 = .ok (.iconst 0, 1) := by decide +kernel
theorem dX10_noise_27 : decode cX10_noise 27 = .ok (.istore 7, 2) := by decide +kernel
theorem dX10_noise_29 : decode cX10_noise 29 = .ok (.iload 7, 2) := by decide +kernel
theorem dX10_noise_31 : decode cX10_noise 31 = .ok (.iload 4, 2) := by decide +kernel
theorem dX10_noise_33 : decode cX10_noise 33 = .ok (.if_icmp .ge 59, 3) := by decide +kernel
theorem dX10_noise_36 : decode cX10_noise 36 = .ok (.iload 5, 2) := by decide +kernel
theorem dX10_noise_38 : decode cX10_noise 38 = .ok (.ldc 153, 2) := by decide +kernel
theorem dX10_noise_40 : decode cX10_noise 40 = .ok (.imul, 1) := by decide +kernel
theorem dX10_noise_41 : decode cX10_noise 41 = .ok (.ldc 154, 2) := by decide +kernel
theorem dX10_noise_43 : decode cX10_noise 43 = .ok (.iadd, 1) := by decide +kernel
theorem dX10_noise_44 : decode cX10_noise 44 = .ok (.istore 5, 2) := by decide +kernel
theorem dX10_noise_46 : decode cX10_noise 46 = .ok (.iload 5, 2) := by decide +kernel
theorem dX10_noise_48 : decode cX10_noise 48 = .ok (.ifCond .lt 6, 3) := by decide +kernel
theorem dX10_noise_51 : decode cX10_noise 51 = .ok (.goto 35, 3) := by decide +kernel
theorem dX10_noise_54 : decode cX10_noise 54 = .ok (.aload_n 0, 1) := by decide +kernel
theorem dX10_noise_55 : decode cX10_noise 55 = .ok (.getfield 39, 3) := by decide +kernel
theorem dX10_noise_58 : decode cX10_noise 58 = .ok (.sipush 588, 3) := by decide +kernel
theorem dX10_noise_61 : decode cX10_noise 61 = .ok (.iload_n 1, 1) := by decide +kernel
theorem dX10_noise_62 : decode cX10_noise 62 = .ok (.imul, 1) := by decide +kernel
theorem dX10_noise_63 : decode cX10_noise 63 = .ok (.iload 7, 2) := by decide +kernel
theorem dX10_noise_65 : decode cX10_noise 65 = .ok (.iadd, 1) := by decide +kernel
theorem dX10_noise_66 : decode cX10_noise 66 = .ok (.iconst 1, 1) := by decide +kernel
theorem dX10_noise_67 : decode cX10_noise 67 = .ok (.aload_n 0, 1) := by decide +kernel
theorem dX10_noise_68 : decode cX10_noise 68 = .ok (.getfield 39, 3) := by decide +kernel
theorem dX10_noise_71 : decode cX10_noise 71 = .ok (.sipush 588, 3) := by decide +kernel
theorem dX10_noise_74 : decode cX10_noise 74 = .ok (.iload_n 1, 1) := by decide +kernel
theorem dX10_noise_75 : decode cX10_noise 75 = .ok (.imul, 1) := by decide +kernel
theorem dX10_noise_76 : decode cX10_noise 76 = .ok (.iload 7, 2) := by decide +kernel
theorem dX10_noise_78 : decode cX10_noise 78 = .ok (.iadd, 1) := by decide +kernel
theorem dX10_noise_79 : decode cX10_noise 79 = .ok (.baload, 1) := by decide +kernel
theorem dX10_noise_80 : decode cX10_noise 80 = .ok (.isub, 1) := by decide +kernel
theorem dX10_noise_81 : decode cX10_noise 81 = .ok (.i2b, 1) := by decide +kernel
theorem dX10_noise_82 : decode cX10_noise 82 = .ok (.bastore, 1) := by decide +kernel
theorem dX10_noise_83 : decode cX10_noise 83 = .ok (.iinc 6 1, 3) := by decide +kernel
theorem dX10_noise_86 : decode cX10_noise 86 = .ok (.iinc 7 1, 3) := by decide +kernel
theorem dX10_noise_89 : decode cX10_noise 89 = .ok (.goto (-60), 3) := by decide +kernel
theorem dX10_noise_92 : decode cX10_noise 92 = .ok (.iload 6, 2) := by decide +kernel
theorem dX10_noise_94 : decode cX10_noise 94 = .ok (.ireturn, 1) := by decide +kernel
theorem dX10_slip_0 : decode cX10_slip 0 = .ok (.aload_n 0, 1) := by decide +kernel
theorem dX10_slip_1 : decode cX10_slip 1 = .ok (.iconst 0, 1) := by decide +kernel
theorem dX10_slip_2 : decode cX10_slip 2 = .ok (.putfield 100, 3) := by decide +kernel
theorem dX10_slip_5 : decode cX10_slip 5 = .ok (.aload_n 0, 1) := by decide +kernel
theorem dX10_slip_6 : decode cX10_slip 6 = .ok (.getfield 231, 3) := by decide +kernel
theorem dX10_slip_9 : decode cX10_slip 9 = .ok (.ifCond .eq 42, 3) := by decide +kernel
theorem dX10_slip_12 : decode cX10_slip 12 = .ok (.iload_n 1, 1) := by decide +kernel
theorem dX10_slip_13 : decode cX10_slip 13 = .ok (.i2l, 1) := by decide +kernel
theorem dX10_slip_14 : decode cX10_slip 14 = .ok (.lconst 0, 1) := by decide +kernel
theorem dX10_slip_15 : decode cX10_slip 15 = .ok (.aload_n 0, 1) := by decide +kernel
theorem dX10_slip_16 : decode cX10_slip 16 = .ok (.getfield 185, 3) := by decide +kernel
theorem dX10_slip_19 : decode cX10_slip 19 = .ok (.i2l, 1) := by decide +kernel
theorem dX10_slip_20 : decode cX10_slip 20 = .ok (.invokestatic 144, 3) := by decide +kernel
theorem dX10_slip_23 : decode cX10_slip 23 = .ok (.ifCond .eq 28, 3) := by decide +kernel
theorem dX10_slip_26 : decode cX10_slip 26 = .ok (.iload_n 2, 1) := by decide +kernel
theorem dX10_slip_27 : decode cX10_slip 27 = .ok (.i2l, 1) := by decide +kernel
theorem dX10_slip_28 : decode cX10_slip 28 = .ok (.ldc2_w 294, 3) := by decide +kernel
theorem dX10_slip_31 : decode cX10_slip 31 = .ok (.ldc2_w 284, 3) := by decide +kernel
theorem dX10_slip_34 : decode cX10_slip 34 = .ok (.invokestatic 144, 3) := by decide +kernel
theorem dX10_slip_37 : decode cX10_slip 37 = .ok (.ifCond .eq 14, 3) := by decide +kernel
theorem dX10_slip_40 : decode cX10_slip 40 = .ok (.aload_n 0, 1) := by decide +kernel
theorem dX10_slip_41 : decode cX10_slip 41 = .ok (.getfield 185, 3) := by decide +kernel
theorem dX10_slip_44 : decode cX10_slip 44 = .ok (.iload_n 2, 1) := by decide +kernel
theorem dX10_slip_45 : decode cX10_slip 45 = .ok (.iadd, 1) := by decide +kernel
theorem dX10_slip_46 : decode cX10_slip 46 = .ok (.ldc 38, 2) := by decide +kernel
theorem dX10_slip_48 : decode cX10_slip 48 = .ok (.if_icmp .le 5, 3) := by decide +kernel
theorem dX10_slip_51 : decode cX10_slip 51 = .ok (.iconst (-1), 1) := by decide +kernel
theorem dX10_slip_52 : decode cX10_slip 52 = .ok (.ireturn, 1) := by decide +kernel
theorem dX10_slip_53 : decode cX10_slip 53 = .ok (.iload_n 2, 1) := by decide +kernel
theorem dX10_slip_54 : decode cX10_slip 54 = .ok (.ifCond .ge 66, 3) := by decide +kernel
theorem dX10_slip_57 : decode cX10_slip 57 = .ok (.iload_n 2, 1) := by decide +kernel
theorem dX10_slip_58 : decode cX10_slip 58 = .ok (.ineg, 1) := by decide +kernel
theorem dX10_slip_59 : decode cX10_slip 59 = .ok (.aload_n 0, 1) := by decide +kernel
theorem dX10_slip_60 : decode cX10_slip 60 = .ok (.getfield 185, 3) := by decide +kernel
theorem dX10_slip_63 : decode cX10_slip 63 = .ok (.iload_n 1, 1) := by decide +kernel
theorem dX10_slip_64 : decode cX10_slip 64 = .ok (.isub, 1) := by decide +kernel
theorem dX10_slip_65 : decode cX10_slip 65 = .ok (.invokestatic 286, 3) := by decide +kernel
theorem dX10_slip_68 : decode cX10_slip 68 = .ok (.istore_n 3, 1) := by decide +kernel
theorem dX10_slip_69 : decode cX10_slip 69 = .ok (.iload_n 1, 1) := by decide +kernel
theorem dX10_slip_70 : decode cX10_slip 70 = .ok (.istore 4, 2) := by decide +kernel
theorem dX10_slip_72 : decode cX10_slip 72 = .ok (.iload 4, 2) := by decide +kernel
theorem dX10_slip_74 : decode cX10_slip 74 = .ok (.iload_n 3, 1) := by decide +kernel
theorem dX10_slip_75 : decode cX10_slip 75 = .ok (.iadd, 1) := by decide +kernel
theorem dX10_slip_76 : decode cX10_slip 76 = .ok (.aload_n 0, 1) := by decide +kernel
theorem dX10_slip_77 : decode cX10_slip 77 = .ok (.getfield 185, 3) := by decide +kernel
theorem dX10_slip_80 : decode cX10_slip 80 = .ok (.if_icmp .ge 25, 3) := by decide +kernel
theorem dX10_slip_83 : decode cX10_slip 83 = .ok (.aload_n 0, 1) := by decide +kernel
theorem dX10_slip_84 : decode cX10_slip 84 = .ok (.getfield 39, 3) := by decide +kernel
theorem dX10_slip_87 : decode cX10_slip 87 = .ok (.iload 4, 2) := by decide +kernel
theorem dX10_slip_89 : decode cX10_slip 89 = .ok (.aload_n 0, 1) := by decide +kernel
theorem dX10_slip_90 : decode cX10_slip 90 = .ok (.getfield 39, 3) := by decide +kernel
theorem dX10_slip_93 : decode cX10_slip 93 = .ok (.iload 4, 2) := by decide +kernel
theorem dX10_slip_95 : decode cX10_slip 95 = .ok (.iload_n 3, 1) := by decide +kernel
theorem dX10_slip_96 : decode cX10_slip 96 = .ok (.iadd, 1) := by decide +kernel
theorem dX10_slip_97 : decode cX10_slip 97 = .ok (.baload, 1) := by decide +kernel
theorem dX10_slip_98 : decode cX10_slip 98 = .ok (.bastore, 1) := by decide +kernel
theorem dX10_slip_99 : decode cX10_slip 99 = .ok (.iinc 4 1, 3) := by decide +kernel
theorem dX10_slip_102 : decode cX10_slip 102 = .ok (.goto (-30), 3) := by decide +kernel
theorem dX10_slip_105 : decode cX10_slip 105 = .ok (.aload_n 0, 1) := by decide +kernel
theorem dX10_slip_106 : decode cX10_slip 106 = .ok (.dup, 1) := by decide +kernel
theorem dX10_slip_107 : decode cX10_slip 107 = .ok (.getfield 185, 3) := by decide +kernel
theorem dX10_slip_110 : decode cX10_slip 110 = .ok (.iload_n 3, 1) := by decide +kernel
theorem dX10_slip_111 : decode cX10_slip 111 = .ok (.isub, 1) := by decide +kernel
theorem dX10_slip_112 : decode cX10_slip 112 = .ok (.putfield 185, 3) := by decide +kernel
theorem dX10_slip_115 : decode cX10_slip 115 = .ok (.aload_n 0, 1) := by decide +kernel
theorem dX10_slip_116 : decode cX10_slip 116 = .ok (.getfield 185, 3) := by decide +kernel
theorem dX10_slip_119 : decode cX10_slip 119 = .ok (.ireturn, 1) := by decide +kernel
theorem dX10_slip_120 : decode cX10_slip 120 = .ok (.aload_n 0, 1) := by decide +kernel
theorem dX10_slip_121 : decode cX10_slip 121 = .ok (.getfield 185, 3) := by decide +kernel
theorem dX10_slip_124 : decode cX10_slip 124 = .ok (.iconst 1, 1) := by decide +kernel
theorem dX10_slip_125 : decode cX10_slip 125 = .ok (.isub, 1) := by decide +kernel
theorem dX10_slip_126 : decode cX10_slip 126 = .ok (.istore_n 3, 1) := by decide +kernel
theorem dX10_slip_127 : decode cX10_slip 127 = .ok (.iload_n 3, 1) := by decide +kernel
theorem dX10_slip_128 : decode cX10_slip 128 = .ok (.iload_n 1, 1) := by decide +kernel
theorem dX10_slip_129 : decode cX10_slip 129 = .ok (.if_icmp .lt 23, 3) := by decide +kernel
theorem dX10_slip_132 : decode cX10_slip 132 = .ok (.aload_n 0, 1) := by decide +kernel
theorem dX10_slip_133 : decode cX10_slip 133 = .ok (.getfield 39, 3) := by decide +kernel
theorem dX10_slip_136 : decode cX10_slip 136 = .ok (.iload_n 3, 1) := by decide +kernel
theorem dX10_slip_137 : decode cX10_slip 137 = .ok (.iload_n 2, 1) := by decide +kernel
theorem dX10_slip_138 : decode cX10_slip 138 = .ok (.iadd, 1) := by decide +kernel
theorem dX10_slip_139 : decode cX10_slip 139 = .ok (.aload_n 0, 1) := by decide +kernel
theorem dX10_slip_140 : decode cX10_slip 140 = .ok (.getfield 39, 3) := by decide +kernel
theorem dX10_slip_143 : decode cX10_slip 143 = .ok (.iload_n 3, 1) := by decide +kernel
theorem dX10_slip_144 : decode cX10_slip 144 = .ok (.baload, 1) := by decide +kernel
theorem dX10_slip_145 : decode cX10_slip 145 = .ok (.bastore, 1) := by decide +kernel
theorem dX10_slip_146 : decode cX10_slip 146 = .ok (.iinc 3 (-1), 3) := by decide +kernel
theorem dX10_slip_149 : decode cX10_slip 149 = .ok (.goto (-22), 3) := by decide +kernel
theorem dX10_slip_152 : decode cX10_slip 152 = .ok (.iconst 0, 1) := by decide +kernel
theorem dX10_slip_153 : decode cX10_slip 153 = .ok (.istore_n 3, 1) := by decide +kernel
theorem dX10_slip_154 : decode cX10_slip 154 = .ok (.iload_n 3, 1) := by decide +kernel
theorem dX10_slip_155 : decode cX10_slip 155 = .ok (.iload_n 2, 1) := by decide +kernel
theorem dX10_slip_156 : decode cX10_slip 156 = .ok (.if_icmp .ge 18, 3) := by decide +kernel
theorem dX10_slip_159 : decode cX10_slip 159 = .ok (.aload_n 0, 1) := by decide +kernel
theorem dX10_slip_160 : decode cX10_slip 160 = .ok (.getfield 39, 3) := by decide +kernel
theorem dX10_slip_163 : decode cX10_slip 163 = .ok (.iload_n 1, 1) := by decide +kernel
theorem dX10_slip_164 : decode cX10_slip 164 = .ok (.iload_n 3, 1) := by decide +kernel
theorem dX10_slip_165 : decode cX10_slip 165 = .ok (.iadd, 1) := by decide +kernel
theorem dX10_slip_166 : decode cX10_slip 166 = .ok (.iconst 0, 1) := by decide +kernel
theorem dX10_slip_167 : decode cX10_slip 167 = .ok (.bastore, 1) := by decide +kernel
theorem dX10_slip_168 : decode cX10_slip 168 = .ok (.iinc 3 1, 3) := by decide +kernel
theorem dX10_slip_171 : decode cX10_slip 171 = .ok (.goto (-17), 3) := by decide +kernel
theorem dX10_slip_174 : decode cX10_slip 174 = .ok (.aload_n 0, 1) := by decide +kernel
theorem dX10_slip_175 : decode cX10_slip 175 = .ok (.dup, 1) := by decide +kernel
theorem dX10_slip_176 : decode cX10_slip 176 = .ok (.getfield 185, 3) := by decide +kernel
theorem dX10_slip_179 : decode cX10_slip 179 = .ok (.iload_n 2, 1) := by decide +kernel
theorem dX10_slip_180 : decode cX10_slip 180 = .ok (.iadd, 1) := by decide +kernel
theorem dX10_slip_181 : decode cX10_slip 181 = .ok (.putfield 185, 3) := by decide +kernel
theorem dX10_slip_184 : decode cX10_slip 184 = .ok (.aload_n 0, 1) := by decide +kernel
theorem dX10_slip_185 : decode cX10_slip 185 = .ok (.getfield 185, 3) := by decide +kernel
theorem dX10_slip_188 : decode cX10_slip 188 = .ok (.ireturn, 1) := by decide +kernel
theorem dX10_nextFrame_0 : decode cX10_nextFrame 0 = .ok (.iconst 0, 1) := by decide +kernel
theorem dX10_nextFrame_1 : decode cX10_nextFrame 1 = .ok (.istore_n 3, 1) := by decide +kernel
theorem dX10_nextFrame_2 : decode cX10_nextFrame 2 = .ok (.iload_n 3, 1) := by decide +kernel
theorem dX10_nextFrame_3 : decode cX10_nextFrame 3 = .ok (.iload_n 2, 1) := by decide +kernel
theorem dX10_nextFrame_4 : decode cX10_nextFrame 4 = .ok (.if_icmp .gt 53, 3) := by decide +kernel
theorem dX10_nextFrame_7 : decode cX10_nextFrame 7 = .ok (.aload_n 0, 1) := by decide +kernel
theorem dX10_nextFrame_8 : decode cX10_nextFrame 8 = .ok (.iload_n 1, 1) := by decide +kernel
theorem dX10_nextFrame_9 : decode cX10_nextFrame 9 = .ok (.sipush 588, 3) := by decide +kernel
theorem dX10_nextFrame_12 : decode cX10_nextFrame 12 = .ok (.iadd, 1) := by decide +kernel
theorem dX10_nextFrame_13 : decode cX10_nextFrame 13 = .ok (.iload_n 3, 1) := by decide +kernel
theorem dX10_nextFrame_14 : decode cX10_nextFrame 14 = .ok (.isub, 1) := by decide +kernel
theorem dX10_nextFrame_15 : decode cX10_nextFrame 15 = .ok (.invokevirtual 279, 3) := by decide +kernel
theorem dX10_nextFrame_18 : decode cX10_nextFrame 18 = .ok (.ifCond .eq 11, 3) := by decide +kernel
theorem dX10_nextFrame_21 : decode cX10_nextFrame 21 = .ok (.iload_n 1, 1) := by decide +kernel
theorem dX10_nextFrame_22 : decode cX10_nextFrame 22 = .ok (.sipush 588, 3) := by decide +kernel
theorem dX10_nextFrame_25 : decode cX10_nextFrame 25 = .ok (.iadd, 1) := by decide +kernel
theorem dX10_nextFrame_26 : decode cX10_nextFrame 26 = .ok (.iload_n 3, 1) := by decide +kernel
theorem dX10_nextFrame_27 : decode cX10_nextFrame 27 = .ok (.isub, 1) := by decide +kernel
theorem dX10_nextFrame_28 : decode cX10_nextFrame 28 = .ok (.ireturn, 1) := by decide +kernel
theorem dX10_nextFrame_29 : decode cX10_nextFrame 29 = .ok (.aload_n 0, 1) := by decide +kernel
theorem dX10_nextFrame_30 : decode cX10_nextFrame 30 = .ok (.iload_n 1, 1) := by decide +kernel
theorem dX10_nextFrame_31 : decode cX10_nextFrame 31 = .ok (.sipush 588, 3) := by decide +kernel
theorem dX10_nextFrame_34 : decode cX10_nextFrame 34 = .ok (.iadd, 1) := by decide +kernel
theorem dX10_nextFrame_35 : decode cX10_nextFrame 35 = .ok (.iload_n 3, 1) := by decide +kernel
theorem dX10_nextFrame_36 : decode cX10_nextFrame 36 = .ok (.iadd, 1) := by decide +kernel
theorem dX10_nextFrame_37 : decode cX10_nextFrame 37 = .ok (.invokevirtual 279, 3) := by decide +kernel
theorem dX10_nextFrame_40 : decode cX10_nextFrame 40 = .ok (.ifCond .eq 11, 3) := by decide +kernel
theorem dX10_nextFrame_43 : decode cX10_nextFrame 43 = .ok (.iload_n 1, 1) := by decide +kernel
theorem dX10_nextFrame_44 : decode cX10_nextFrame 44 = .ok (.sipush 588, 3) := by decide +kernel
theorem dX10_nextFrame_47 : decode cX10_nextFrame 47 = .ok (.iadd, 1) := by decide +kernel
theorem dX10_nextFrame_48 : decode cX10_nextFrame 48 = .ok (.iload_n 3, 1) := by decide +kernel
theorem dX10_nextFrame_49 : decode cX10_nextFrame 49 = .ok (.iadd, 1) := by decide +kernel
theorem dX10_nextFrame_50 : decode cX10_nextFrame 50 = .ok (.ireturn, 1) := by decide +kernel
theorem dX10_nextFrame_51 : decode cX10_nextFrame 51 = .ok (.iinc 3 1, 3) := by decide +kernel
theorem dX10_nextFrame_54 : decode cX10_nextFrame 54 = .ok (.goto (-52), 3) := by decide +kernel
theorem dX10_nextFrame_57 : decode cX10_nextFrame 57 = .ok (.iload_n 1, 1) := by decide +kernel
theorem dX10_nextFrame_58 : decode cX10_nextFrame 58 = .ok (.sipush 588, 3) := by decide +kernel
theorem dX10_nextFrame_61 : decode cX10_nextFrame 61 = .ok (.iadd, 1) := by decide +kernel
theorem dX10_nextFrame_62 : decode cX10_nextFrame 62 = .ok (.ireturn, 1) := by decide +kernel
theorem dX10_findFrames_0 : decode cX10_findFrames 0 = .ok (.iconst 0, 1) := by decide +kernel
theorem dX10_findFrames_1 : decode cX10_findFrames 1 = .ok (.istore_n 2, 1) := by decide +kernel
theorem dX10_findFrames_2 : decode cX10_findFrames 2 = .ok (.iload_n 2, 1) := by decide +kernel
theorem dX10_findFrames_3 : decode cX10_findFrames 3 = .ok (.aload_n 0, 1) := by decide +kernel
theorem dX10_findFrames_4 : decode cX10_findFrames 4 = .ok (.getfield 185, 3) := by decide +kernel
theorem dX10_findFrames_7 : decode cX10_findFrames 7 = .ok (.if_icmp .ge 17, 3) := by decide +kernel
theorem dX10_findFrames_10 : decode cX10_findFrames 10 = .ok (.aload_n 0, 1) := by decide +kernel
theorem dX10_findFrames_11 : decode cX10_findFrames 11 = .ok (.iload_n 2, 1) := by decide +kernel
theorem dX10_findFrames_12 : decode cX10_findFrames 12 = .ok (.invokevirtual 279, 3) := by decide +kernel
theorem dX10_findFrames_15 : decode cX10_findFrames 15 = .ok (.ifCond .ne 9, 3) := by decide +kernel
theorem dX10_findFrames_18 : decode cX10_findFrames 18 = .ok (.iinc 2 1, 3) := by decide +kernel
theorem dX10_findFrames_21 : decode cX10_findFrames 21 = .ok (.goto (-19), 3) := by decide +kernel
theorem dX10_findFrames_24 : decode cX10_findFrames 24 = .ok (.iload_n 2, 1) := by decide +kernel
theorem dX10_findFrames_25 : decode cX10_findFrames 25 = .ok (.aload_n 0, 1) := by decide +kernel
theorem dX10_findFrames_26 : decode cX10_findFrames 26 = .ok (.getfield 185, 3) := by decide +kernel
theorem dX10_findFrames_29 : decode cX10_findFrames 29 = .ok (.if_icmp .ne 7, 3) := by decide +kernel
theorem dX10_findFrames_32 : decode cX10_findFrames 32 = .ok (.iconst 0, 1) := by decide +kernel
theorem dX10_findFrames_33 : decode cX10_findFrames 33 = .ok (.goto 4, 3) := by decide +kernel
theorem dX10_findFrames_36 : decode cX10_findFrames 36 = .ok (.iload_n 2, 1) := by decide +kernel
theorem dX10_findFrames_37 : decode cX10_findFrames 37 = .ok (.istore_n 2, 1) := by decide +kernel
theorem dX10_findFrames_38 : decode cX10_findFrames 38 = .ok (.aload_n 0, 1) := by decide +kernel
theorem dX10_findFrames_39 : decode cX10_findFrames 39 = .ok (.iconst 0, 1) := by decide +kernel
theorem dX10_findFrames_40 : decode cX10_findFrames 40 = .ok (.putfield 296, 3) := by decide +kernel
theorem dX10_findFrames_43 : decode cX10_findFrames 43 = .ok (.iload_n 2, 1) := by decide +kernel
theorem dX10_findFrames_44 : decode cX10_findFrames 44 = .ok (.aload_n 0, 1) := by decide +kernel
theorem dX10_findFrames_45 : decode cX10_findFrames 45 = .ok (.getfield 185, 3) := by decide +kernel
theorem dX10_findFrames_48 : decode cX10_findFrames 48 = .ok (.if_icmp .ge 52, 3) := by decide +kernel
theorem dX10_findFrames_51 : decode cX10_findFrames 51 = .ok (.aload_n 0, 1) := by decide +kernel
theorem dX10_findFrames_52 : decode cX10_findFrames 52 = .ok (.getfield 82, 3) := by decide +kernel
theorem dX10_findFrames_55 : decode cX10_findFrames 55 = .ok (.aload_n 0, 1) := by decide +kernel
theorem dX10_findFrames_56 : decode cX10_findFrames 56 = .ok (.getfield 296, 3) := by decide +kernel
theorem dX10_findFrames_59 : decode cX10_findFrames 59 = .ok (.iload_n 2, 1) := by decide +kernel
theorem dX10_findFrames_60 : decode cX10_findFrames 60 = .ok (.iastore, 1) := by decide +kernel
theorem dX10_findFrames_61 : decode cX10_findFrames 61 = .ok (.aload_n 0, 1) := by decide +kernel
theorem dX10_findFrames_62 : decode cX10_findFrames 62 = .ok (.getfield 85, 3) := by decide +kernel
theorem dX10_findFrames_65 : decode cX10_findFrames 65 = .ok (.aload_n 0, 1) := by decide +kernel
theorem dX10_findFrames_66 : decode cX10_findFrames 66 = .ok (.getfield 296, 3) := by decide +kernel
theorem dX10_findFrames_69 : decode cX10_findFrames 69 = .ok (.aload_n 0, 1) := by decide +kernel
theorem dX10_findFrames_70 : decode cX10_findFrames 70 = .ok (.iload_n 2, 1) := by decide +kernel
theorem dX10_findFrames_71 : decode cX10_findFrames 71 = .ok (.bipush 27, 2) := by decide +kernel
theorem dX10_findFrames_73 : decode cX10_findFrames 73 = .ok (.iadd, 1) := by decide +kernel
theorem dX10_findFrames_74 : decode cX10_findFrames 74 = .ok (.bipush 14, 2) := by decide +kernel
theorem dX10_findFrames_76 : decode cX10_findFrames 76 = .ok (.invokevirtual 271, 3) := by decide +kernel
theorem dX10_findFrames_79 : decode cX10_findFrames 79 = .ok (.iastore, 1) := by decide +kernel
theorem dX10_findFrames_80 : decode cX10_findFrames 80 = .ok (.aload_n 0, 1) := by decide +kernel
theorem dX10_findFrames_81 : decode cX10_findFrames 81 = .ok (.dup, 1) := by decide +kernel
theorem dX10_findFrames_82 : decode cX10_findFrames 82 = .ok (.getfield 296, 3) := by decide +kernel
theorem dX10_findFrames_85 : decode cX10_findFrames 85 = .ok (.iconst 1, 1) := by decide +kernel
theorem dX10_findFrames_86 : decode cX10_findFrames 86 = .ok (.iadd, 1) := by decide +kernel
theorem dX10_findFrames_87 : decode cX10_findFrames 87 = .ok (.putfield 296, 3) := by decide +kernel
theorem dX10_findFrames_90 : decode cX10_findFrames 90 = .ok (.aload_n 0, 1) := by decide +kernel
theorem dX10_findFrames_91 : decode cX10_findFrames 91 = .ok (.iload_n 2, 1) := by decide +kernel
theorem dX10_findFrames_92 : decode cX10_findFrames 92 = .ok (.iload_n 1, 1) := by decide +kernel
theorem dX10_findFrames_93 : decode cX10_findFrames 93 = .ok (.invokevirtual 299, 3) := by decide +kernel
theorem dX10_findFrames_96 : decode cX10_findFrames 96 = .ok (.istore_n 2, 1) := by decide +kernel
theorem dX10_findFrames_97 : decode cX10_findFrames 97 = .ok (.goto (-54), 3) := by decide +kernel
theorem dX10_findFrames_100 : decode cX10_findFrames 100 = .ok (.return_, 1) := by decide +kernel
theorem dX10_readInner_0 : decode cX10_readInner 0 = .ok (.iload_n 2, 1) := by decide +kernel
theorem dX10_readInner_1 : decode cX10_readInner 1 = .ok (.iconst 2, 1) := by decide +kernel
theorem dX10_readInner_2 : decode cX10_readInner 2 = .ok (.irem, 1) := by decide +kernel
theorem dX10_readInner_3 : decode cX10_readInner 3 = .ok (.ifCond .ne 9, 3) := by decide +kernel
theorem dX10_readInner_6 : decode cX10_readInner 6 = .ok (.iload_n 1, 1) := by decide +kernel
theorem dX10_readInner_7 : decode cX10_readInner 7 = .ok (.iconst 1, 1) := by decide +kernel
theorem dX10_readInner_8 : decode cX10_readInner 8 = .ok (.iadd, 1) := by decide +kernel
theorem dX10_readInner_9 : decode cX10_readInner 9 = .ok (.goto 4, 3) := by decide +kernel
theorem dX10_readInner_12 : decode cX10_readInner 12 = .ok (.iload_n 1, 1) := by decide +kernel
theorem dX10_readInner_13 : decode cX10_readInner 13 = .ok (.istore_n 3, 1) := by decide +kernel
theorem dX10_readInner_14 : decode cX10_readInner 14 = .ok (.bipush 32, 2) := by decide +kernel
theorem dX10_readInner_16 : decode cX10_readInner 16 = .ok (.iload_n 1, 1) := by decide +kernel
theorem dX10_readInner_17 : decode cX10_readInner 17 = .ok (.imul, 1) := by decide +kernel
theorem dX10_readInner_18 : decode cX10_readInner 18 = .ok (.iload_n 2, 1) := by decide +kernel
theorem dX10_readInner_19 : decode cX10_readInner 19 = .ok (.iadd, 1) := by decide +kernel
theorem dX10_readInner_20 : decode cX10_readInner 20 = .ok (.istore 4, 2) := by decide +kernel
theorem dX10_readInner_22 : decode cX10_readInner 22 = .ok (.aload_n 0, 1) := by decide +kernel
theorem dX10_readInner_23 : decode cX10_readInner 23 = .ok (.getfield 64, 3) := by decide +kernel
theorem dX10_readInner_26 : decode cX10_readInner 26 = .ok (.iload 4, 2) := by decide +kernel
theorem dX10_readInner_28 : decode cX10_readInner 28 = .ok (.iconst 0, 1) := by decide +kernel
theorem dX10_readInner_29 : decode cX10_readInner 29 = .ok (.iastore, 1) := by decide +kernel
theorem dX10_readInner_30 : decode cX10_readInner 30 = .ok (.aload_n 0, 1) := by decide +kernel
theorem dX10_readInner_31 : decode cX10_readInner 31 = .ok (.getfield 67, 3) := by decide +kernel
theorem dX10_readInner_34 : decode cX10_readInner 34 = .ok (.iload 4, 2) := by decide +kernel
theorem dX10_readInner_36 : decode cX10_readInner 36 = .ok (.iconst 1, 1) := by decide +kernel
theorem dX10_readInner_37 : decode cX10_readInner 37 = .ok (.bastore, 1) := by decide +kernel
theorem dX10_readInner_38 : decode cX10_readInner 38 = .ok (.iload_n 3, 1) := by decide +kernel
theorem dX10_readInner_39 : decode cX10_readInner 39 = .ok (.aload_n 0, 1) := by decide +kernel
theorem dX10_readInner_40 : decode cX10_readInner 40 = .ok (.getfield 296, 3) := by decide +kernel
theorem dX10_readInner_43 : decode cX10_readInner 43 = .ok (.if_icmp .lt 4, 3) := by decide +kernel
theorem dX10_readInner_46 : decode cX10_readInner 46 = .ok (.return_, 1) := by decide +kernel
theorem dX10_readInner_47 : decode cX10_readInner 47 = .ok (.aload_n 0, 1) := by decide +kernel
theorem dX10_readInner_48 : decode cX10_readInner 48 = .ok (.getfield 13, 3) := by decide +kernel
theorem dX10_readInner_51 : decode cX10_readInner 51 = .ok (.aload_n 0, 1) := by decide +kernel
theorem dX10_readInner_52 : decode cX10_readInner 52 = .ok (.aload_n 0, 1) := by decide +kernel
theorem dX10_readInner_53 : decode cX10_readInner 53 = .ok (.getfield 82, 3) := by decide +kernel
theorem dX10_readInner_56 : decode cX10_readInner 56 = .ok (.iload_n 3, 1) := by decide +kernel
theorem dX10_readInner_57 : decode cX10_readInner 57 = .ok (.iaload, 1) := by decide +kernel
theorem dX10_readInner_58 : decode cX10_readInner 58 = .ok (.bipush 27, 2) := by decide +kernel
theorem dX10_readInner_60 : decode cX10_readInner 60 = .ok (.iadd, 1) := by decide +kernel
theorem dX10_readInner_61 : decode cX10_readInner 61 = .ok (.bipush 17, 2) := by decide +kernel
theorem dX10_readInner_63 : decode cX10_readInner 63 = .ok (.iload_n 2, 1) := by decide +kernel
theorem dX10_readInner_64 : decode cX10_readInner 64 = .ok (.iconst 1, 1) := by decide +kernel
theorem dX10_readInner_65 : decode cX10_readInner 65 = .ok (.iadd, 1) := by decide +kernel
theorem dX10_readInner_66 : decode cX10_readInner 66 = .ok (.imul, 1) := by decide +kernel
theorem dX10_readInner_67 : decode cX10_readInner 67 = .ok (.iadd, 1) := by decide +kernel
theorem dX10_readInner_68 : decode cX10_readInner 68 = .ok (.bipush 14, 2) := by decide +kernel
theorem dX10_readInner_70 : decode cX10_readInner 70 = .ok (.invokevirtual 271, 3) := by decide +kernel
theorem dX10_readInner_73 : decode cX10_readInner 73 = .ok (.iaload, 1) := by decide +kernel
theorem dX10_readInner_74 : decode cX10_readInner 74 = .ok (.istore 5, 2) := by decide +kernel
theorem dX10_readInner_76 : decode cX10_readInner 76 = .ok (.aload_n 0, 1) := by decide +kernel
theorem dX10_readInner_77 : decode cX10_readInner 77 = .ok (.getfield 67, 3) := by decide +kernel
theorem dX10_readInner_80 : decode cX10_readInner 80 = .ok (.iload 4, 2) := by decide +kernel
theorem dX10_readInner_82 : decode cX10_readInner 82 = .ok (.iload 5, 2) := by decide +kernel
theorem dX10_readInner_84 : decode cX10_readInner 84 = .ok (.ifCond .ge 7, 3) := by decide +kernel
theorem dX10_readInner_87 : decode cX10_readInner 87 = .ok (.iconst 1, 1) := by decide +kernel
theorem dX10_readInner_88 : decode cX10_readInner 88 = .ok (.goto 4, 3) := by decide +kernel
theorem dX10_readInner_91 : decode cX10_readInner 91 = .ok (.iconst 0, 1) := by decide +kernel
theorem dX10_readInner_92 : decode cX10_readInner 92 = .ok (.bastore, 1) := by decide +kernel
theorem dX10_readInner_93 : decode cX10_readInner 93 = .ok (.iload 5, 2) := by decide +kernel
theorem dX10_readInner_95 : decode cX10_readInner 95 = .ok (.ifCond .ge 7, 3) := by decide +kernel
theorem dX10_readInner_98 : decode cX10_readInner 98 = .ok (.iconst 0, 1) := by decide +kernel
theorem dX10_readInner_99 : decode cX10_readInner 99 = .ok (.goto 5, 3) := by decide +kernel
theorem dX10_readInner_102 : decode cX10_readInner 102 = .ok (.iload 5, 2) := by decide +kernel
theorem dX10_readInner_104 : decode cX10_readInner 104 = .ok (.istore 5, 2) := by decide +kernel
theorem dX10_readInner_106 : decode cX10_readInner 106 = .ok (.aload_n 0, 1) := by decide +kernel
theorem dX10_readInner_107 : decode cX10_readInner 107 = .ok (.getfield 64, 3) := by decide +kernel
theorem dX10_readInner_110 : decode cX10_readInner 110 = .ok (.iload 4, 2) := by decide +kernel
theorem dX10_readInner_112 : decode cX10_readInner 112 = .ok (.iload_n 2, 1) := by decide +kernel
theorem dX10_readInner_113 : decode cX10_readInner 113 = .ok (.invokestatic 182, 3) := by decide +kernel
theorem dX10_readInner_116 : decode cX10_readInner 116 = .ok (.ifCond .eq 12, 3) := by decide +kernel
theorem dX10_readInner_119 : decode cX10_readInner 119 = .ok (.sipush 255, 3) := by decide +kernel
theorem dX10_readInner_122 : decode cX10_readInner 122 = .ok (.iload 5, 2) := by decide +kernel
theorem dX10_readInner_124 : decode cX10_readInner 124 = .ok (.isub, 1) := by decide +kernel
theorem dX10_readInner_125 : decode cX10_readInner 125 = .ok (.goto 5, 3) := by decide +kernel
theorem dX10_readInner_128 : decode cX10_readInner 128 = .ok (.iload 5, 2) := by decide +kernel
theorem dX10_readInner_130 : decode cX10_readInner 130 = .ok (.iastore, 1) := by decide +kernel
theorem dX10_readInner_131 : decode cX10_readInner 131 = .ok (.return_, 1) := by decide +kernel
theorem dX10_playInner_0 : decode cX10_playInner 0 = .ok (.iconst 0, 1) := by decide +kernel
theorem dX10_playInner_1 : decode cX10_playInner 1 = .ok (.istore_n 3, 1) := by decide +kernel
theorem dX10_playInner_2 : decode cX10_playInner 2 = .ok (.iload_n 3, 1) := by decide +kernel
theorem dX10_playInner_3 : decode cX10_playInner 3 = .ok (.bipush 32, 2) := by decide +kernel
theorem dX10_playInner_5 : decode cX10_playInner 5 = .ok (.if_icmp .ge 49, 3) := by decide +kernel
theorem dX10_playInner_8 : decode cX10_playInner 8 = .ok (.aload_n 0, 1) := by decide +kernel
theorem dX10_playInner_9 : decode cX10_playInner 9 = .ok (.iload_n 1, 1) := by decide +kernel
theorem dX10_playInner_10 : decode cX10_playInner 10 = .ok (.iload_n 3, 1) := by decide +kernel
theorem dX10_playInner_11 : decode cX10_playInner 11 = .ok (.invokevirtual 302, 3) := by decide +kernel
theorem dX10_playInner_14 : decode cX10_playInner 14 = .ok (.aload_n 0, 1) := by decide +kernel
theorem dX10_playInner_15 : decode cX10_playInner 15 = .ok (.getfield 45, 3) := by decide +kernel
theorem dX10_playInner_18 : decode cX10_playInner 18 = .ok (.iload_n 3, 1) := by decide +kernel
theorem dX10_playInner_19 : decode cX10_playInner 19 = .ok (.aload_n 0, 1) := by decide +kernel
theorem dX10_playInner_20 : decode cX10_playInner 20 = .ok (.getfield 64, 3) := by decide +kernel
theorem dX10_playInner_23 : decode cX10_playInner 23 = .ok (.bipush 32, 2) := by decide +kernel
theorem dX10_playInner_25 : decode cX10_playInner 25 = .ok (.iload_n 1, 1) := by decide +kernel
theorem dX10_playInner_26 : decode cX10_playInner 26 = .ok (.imul, 1) := by decide +kernel
theorem dX10_playInner_27 : decode cX10_playInner 27 = .ok (.iload_n 3, 1) := by decide +kernel
theorem dX10_playInner_28 : decode cX10_playInner 28 = .ok (.iadd, 1) := by decide +kernel
theorem dX10_playInner_29 : decode cX10_playInner 29 = .ok (.iaload, 1) := by decide +kernel
theorem dX10_playInner_30 : decode cX10_playInner 30 = .ok (.iastore, 1) := by decide +kernel
theorem dX10_playInner_31 : decode cX10_playInner 31 = .ok (.aload_n 0, 1) := by decide +kernel
theorem dX10_playInner_32 : decode cX10_playInner 32 = .ok (.getfield 48, 3) := by decide +kernel
theorem dX10_playInner_35 : decode cX10_playInner 35 = .ok (.iload_n 3, 1) := by decide +kernel
theorem dX10_playInner_36 : decode cX10_playInner 36 = .ok (.aload_n 0, 1) := by decide +kernel
theorem dX10_playInner_37 : decode cX10_playInner 37 = .ok (.getfield 67, 3) := by decide +kernel
theorem dX10_playInner_40 : decode cX10_playInner 40 = .ok (.bipush 32, 2) := by decide +kernel
theorem dX10_playInner_42 : decode cX10_playInner 42 = .ok (.iload_n 1, 1) := by decide +kernel
theorem dX10_playInner_43 : decode cX10_playInner 43 = .ok (.imul, 1) := by decide +kernel
theorem dX10_playInner_44 : decode cX10_playInner 44 = .ok (.iload_n 3, 1) := by decide +kernel
theorem dX10_playInner_45 : decode cX10_playInner 45 = .ok (.iadd, 1) := by decide +kernel
theorem dX10_playInner_46 : decode cX10_playInner 46 = .ok (.baload, 1) := by decide +kernel
theorem dX10_playInner_47 : decode cX10_playInner 47 = .ok (.bastore, 1) := by decide +kernel
theorem dX10_playInner_48 : decode cX10_playInner 48 = .ok (.iinc 3 1, 3) := by decide +kernel
theorem dX10_playInner_51 : decode cX10_playInner 51 = .ok (.goto (-49), 3) := by decide +kernel
theorem dX10_playInner_54 : decode cX10_playInner 54 = .ok (.aload_n 0, 1) := by decide +kernel
theorem dX10_playInner_55 : decode cX10_playInner 55 = .ok (.getfield 70, 3) := by decide +kernel
theorem dX10_playInner_58 : decode cX10_playInner 58 = .ok (.iload_n 1, 1) := by decide +kernel
theorem dX10_playInner_59 : decode cX10_playInner 59 = .ok (.aload_n 0, 1) := by decide +kernel
theorem dX10_playInner_60 : decode cX10_playInner 60 = .ok (.bipush 32, 2) := by decide +kernel
theorem dX10_playInner_62 : decode cX10_playInner 62 = .ok (.iload_n 2, 1) := by decide +kernel
theorem dX10_playInner_63 : decode cX10_playInner 63 = .ok (.invokevirtual 139, 3) := by decide +kernel
theorem dX10_playInner_66 : decode cX10_playInner 66 = .ok (.iastore, 1) := by decide +kernel
theorem dX10_playInner_67 : decode cX10_playInner 67 = .ok (.aload_n 0, 1) := by decide +kernel
theorem dX10_playInner_68 : decode cX10_playInner 68 = .ok (.getfield 70, 3) := by decide +kernel
theorem dX10_playInner_71 : decode cX10_playInner 71 = .ok (.iload_n 1, 1) := by decide +kernel
theorem dX10_playInner_72 : decode cX10_playInner 72 = .ok (.iaload, 1) := by decide +kernel
theorem dX10_playInner_73 : decode cX10_playInner 73 = .ok (.ifCond .ge 7, 3) := by decide +kernel
theorem dX10_playInner_76 : decode cX10_playInner 76 = .ok (.iconst 1, 1) := by decide +kernel
theorem dX10_playInner_77 : decode cX10_playInner 77 = .ok (.goto 4, 3) := by decide +kernel
theorem dX10_playInner_80 : decode cX10_playInner 80 = .ok (.iconst 0, 1) := by decide +kernel
theorem dX10_playInner_81 : decode cX10_playInner 81 = .ok (.istore_n 3, 1) := by decide +kernel
theorem dX10_playInner_82 : decode cX10_playInner 82 = .ok (.aload_n 0, 1) := by decide +kernel
theorem dX10_playInner_83 : decode cX10_playInner 83 = .ok (.dup, 1) := by decide +kernel
theorem dX10_playInner_84 : decode cX10_playInner 84 = .ok (.getfield 305, 3) := by decide +kernel
theorem dX10_playInner_87 : decode cX10_playInner 87 = .ok (.iload_n 3, 1) := by decide +kernel
theorem dX10_playInner_88 : decode cX10_playInner 88 = .ok (.ifCond .eq 7, 3) := by decide +kernel
theorem dX10_playInner_91 : decode cX10_playInner 91 = .ok (.iconst 1, 1) := by decide +kernel
theorem dX10_playInner_92 : decode cX10_playInner 92 = .ok (.goto 4, 3) := by decide +kernel
theorem dX10_playInner_95 : decode cX10_playInner 95 = .ok (.iconst 0, 1) := by decide +kernel
theorem dX10_playInner_96 : decode cX10_playInner 96 = .ok (.iadd, 1) := by decide +kernel
theorem dX10_playInner_97 : decode cX10_playInner 97 = .ok (.putfield 305, 3) := by decide +kernel
theorem dX10_playInner_100 : decode cX10_playInner 100 = .ok (.iconst 0, 1) := by decide +kernel
theorem dX10_playInner_101 : decode cX10_playInner 101 = .ok (.istore 4, 2) := by decide +kernel
theorem dX10_playInner_103 : decode cX10_playInner 103 = .ok (.iload 4, 2) := by decide +kernel
theorem dX10_playInner_105 : decode cX10_playInner 105 = .ok (.bipush 32, 2) := by decide +kernel
theorem dX10_playInner_107 : decode cX10_playInner 107 = .ok (.if_icmp .ge 41, 3) := by decide +kernel
theorem dX10_playInner_110 : decode cX10_playInner 110 = .ok (.aload_n 0, 1) := by decide +kernel
theorem dX10_playInner_111 : decode cX10_playInner 111 = .ok (.getfield 64, 3) := by decide +kernel
theorem dX10_playInner_114 : decode cX10_playInner 114 = .ok (.bipush 32, 2) := by decide +kernel
theorem dX10_playInner_116 : decode cX10_playInner 116 = .ok (.iload_n 1, 1) := by decide +kernel
theorem dX10_playInner_117 : decode cX10_playInner 117 = .ok (.imul, 1) := by decide +kernel
theorem dX10_playInner_118 : decode cX10_playInner 118 = .ok (.iload 4, 2) := by decide +kernel
theorem dX10_playInner_120 : decode cX10_playInner 120 = .ok (.iadd, 1) := by decide +kernel
theorem dX10_playInner_121 : decode cX10_playInner 121 = .ok (.aload_n 0, 1) := by decide +kernel
theorem dX10_playInner_122 : decode cX10_playInner 122 = .ok (.getfield 45, 3) := by decide +kernel
theorem dX10_playInner_125 : decode cX10_playInner 125 = .ok (.iload 4, 2) := by decide +kernel
theorem dX10_playInner_127 : decode cX10_playInner 127 = .ok (.iaload, 1) := by decide +kernel
theorem dX10_playInner_128 : decode cX10_playInner 128 = .ok (.iastore, 1) := by decide +kernel
theorem dX10_playInner_129 : decode cX10_playInner 129 = .ok (.aload_n 0, 1) := by decide +kernel
theorem dX10_playInner_130 : decode cX10_playInner 130 = .ok (.getfield 67, 3) := by decide +kernel
theorem dX10_playInner_133 : decode cX10_playInner 133 = .ok (.bipush 32, 2) := by decide +kernel
theorem dX10_playInner_135 : decode cX10_playInner 135 = .ok (.iload_n 1, 1) := by decide +kernel
theorem dX10_playInner_136 : decode cX10_playInner 136 = .ok (.imul, 1) := by decide +kernel
theorem dX10_playInner_137 : decode cX10_playInner 137 = .ok (.iload 4, 2) := by decide +kernel
theorem dX10_playInner_139 : decode cX10_playInner 139 = .ok (.iadd, 1) := by decide +kernel
theorem dX10_playInner_140 : decode cX10_playInner 140 = .ok (.iload_n 3, 1) := by decide +kernel
theorem dX10_playInner_141 : decode cX10_playInner 141 = .ok (.bastore, 1) := by decide +kernel
theorem dX10_playInner_142 : decode cX10_playInner 142 = .ok (.iinc 4 1, 3) := by decide +kernel
theorem dX10_playInner_145 : decode cX10_playInner 145 = .ok (.goto (-42), 3) := by decide +kernel
theorem dX10_playInner_148 : decode cX10_playInner 148 = .ok (.return_, 1) := by decide +kernel
theorem dX10_playOuter_0 : decode cX10_playOuter 0 = .ok (.iconst 0, 1) := by decide +kernel
theorem dX10_playOuter_1 : decode cX10_playOuter 1 = .ok (.istore_n 3, 1) := by decide +kernel
theorem dX10_playOuter_2 : decode cX10_playOuter 2 = .ok (.iconst 0, 1) := by decide +kernel
theorem dX10_playOuter_3 : decode cX10_playOuter 3 = .ok (.istore 4, 2) := by decide +kernel
theorem dX10_playOuter_5 : decode cX10_playOuter 5 = .ok (.iload 4, 2) := by decide +kernel
theorem dX10_playOuter_7 : decode cX10_playOuter 7 = .ok (.bipush 28, 2) := by decide +kernel
theorem dX10_playOuter_9 : decode cX10_playOuter 9 = .ok (.if_icmp .ge 105, 3) := by decide +kernel
theorem dX10_playOuter_12 : decode cX10_playOuter 12 = .ok (.iload_n 1, 1) := by decide +kernel
theorem dX10_playOuter_13 : decode cX10_playOuter 13 = .ok (.iconst 4, 1) := by decide +kernel
theorem dX10_playOuter_14 : decode cX10_playOuter 14 = .ok (.iload 4, 2) := by decide +kernel
theorem dX10_playOuter_16 : decode cX10_playOuter 16 = .ok (.imul, 1) := by decide +kernel
theorem dX10_playOuter_17 : decode cX10_playOuter 17 = .ok (.iadd, 1) := by decide +kernel
theorem dX10_playOuter_18 : decode cX10_playOuter 18 = .ok (.istore 5, 2) := by decide +kernel
theorem dX10_playOuter_20 : decode cX10_playOuter 20 = .ok (.aload_n 0, 1) := by decide +kernel
theorem dX10_playOuter_21 : decode cX10_playOuter 21 = .ok (.getfield 45, 3) := by decide +kernel
theorem dX10_playOuter_24 : decode cX10_playOuter 24 = .ok (.iload 4, 2) := by decide +kernel
theorem dX10_playOuter_26 : decode cX10_playOuter 26 = .ok (.iload 5, 2) := by decide +kernel
theorem dX10_playOuter_28 : decode cX10_playOuter 28 = .ok (.aload_n 0, 1) := by decide +kernel
theorem dX10_playOuter_29 : decode cX10_playOuter 29 = .ok (.getfield 296, 3) := by decide +kernel
theorem dX10_playOuter_32 : decode cX10_playOuter 32 = .ok (.if_icmp .ge 19, 3) := by decide +kernel
theorem dX10_playOuter_35 : decode cX10_playOuter 35 = .ok (.aload_n 0, 1) := by decide +kernel
theorem dX10_playOuter_36 : decode cX10_playOuter 36 = .ok (.getfield 64, 3) := by decide +kernel
theorem dX10_playOuter_39 : decode cX10_playOuter 39 = .ok (.bipush 32, 2) := by decide +kernel
theorem dX10_playOuter_41 : decode cX10_playOuter 41 = .ok (.iload 5, 2) := by decide +kernel
theorem dX10_playOuter_43 : decode cX10_playOuter 43 = .ok (.imul, 1) := by decide +kernel
theorem dX10_playOuter_44 : decode cX10_playOuter 44 = .ok (.iload 4, 2) := by decide +kernel
theorem dX10_playOuter_46 : decode cX10_playOuter 46 = .ok (.iadd, 1) := by decide +kernel
theorem dX10_playOuter_47 : decode cX10_playOuter 47 = .ok (.iaload, 1) := by decide +kernel
theorem dX10_playOuter_48 : decode cX10_playOuter 48 = .ok (.goto 4, 3) := by decide +kernel
theorem dX10_playOuter_51 : decode cX10_playOuter 51 = .ok (.iconst 0, 1) := by decide +kernel
theorem dX10_playOuter_52 : decode cX10_playOuter 52 = .ok (.iastore, 1) := by decide +kernel
theorem dX10_playOuter_53 : decode cX10_playOuter 53 = .ok (.aload_n 0, 1) := by decide +kernel
theorem dX10_playOuter_54 : decode cX10_playOuter 54 = .ok (.getfield 48, 3) := by decide +kernel
theorem dX10_playOuter_57 : decode cX10_playOuter 57 = .ok (.iload 4, 2) := by decide +kernel
theorem dX10_playOuter_59 : decode cX10_playOuter 59 = .ok (.iload 5, 2) := by decide +kernel
theorem dX10_playOuter_61 : decode cX10_playOuter 61 = .ok (.aload_n 0, 1) := by decide +kernel
theorem dX10_playOuter_62 : decode cX10_playOuter 62 = .ok (.getfield 296, 3) := by decide +kernel
theorem dX10_playOuter_65 : decode cX10_playOuter 65 = .ok (.if_icmp .ge 19, 3) := by decide +kernel
theorem dX10_playOuter_68 : decode cX10_playOuter 68 = .ok (.aload_n 0, 1) := by decide +kernel
theorem dX10_playOuter_69 : decode cX10_playOuter 69 = .ok (.getfield 67, 3) := by decide +kernel
theorem dX10_playOuter_72 : decode cX10_playOuter 72 = .ok (.bipush 32, 2) := by decide +kernel
theorem dX10_playOuter_74 : decode cX10_playOuter 74 = .ok (.iload 5, 2) := by decide +kernel
theorem dX10_playOuter_76 : decode cX10_playOuter 76 = .ok (.imul, 1) := by decide +kernel
theorem dX10_playOuter_77 : decode cX10_playOuter 77 = .ok (.iload 4, 2) := by decide +kernel
theorem dX10_playOuter_79 : decode cX10_playOuter 79 = .ok (.iadd, 1) := by decide +kernel
theorem dX10_playOuter_80 : decode cX10_playOuter 80 = .ok (.baload, 1) := by decide +kernel
theorem dX10_playOuter_81 : decode cX10_playOuter 81 = .ok (.ifCond .eq 7, 3) := by decide +kernel
theorem dX10_playOuter_84 : decode cX10_playOuter 84 = .ok (.iconst 1, 1) := by decide +kernel
theorem dX10_playOuter_85 : decode cX10_playOuter 85 = .ok (.goto 4, 3) := by decide +kernel
theorem dX10_playOuter_88 : decode cX10_playOuter 88 = .ok (.iconst 0, 1) := by decide +kernel
theorem dX10_playOuter_89 : decode cX10_playOuter 89 = .ok (.bastore, 1) := by decide +kernel
theorem dX10_playOuter_90 : decode cX10_playOuter 90 = .ok (.iload_n 3, 1) := by decide +kernel
theorem dX10_playOuter_91 : decode cX10_playOuter 91 = .ok (.aload_n 0, 1) := by decide +kernel
theorem dX10_playOuter_92 : decode cX10_playOuter 92 = .ok (.getfield 48, 3) := by decide +kernel
theorem dX10_playOuter_95 : decode cX10_playOuter 95 = .ok (.iload 4, 2) := by decide +kernel
theorem dX10_playOuter_97 : decode cX10_playOuter 97 = .ok (.baload, 1) := by decide +kernel
theorem dX10_playOuter_98 : decode cX10_playOuter 98 = .ok (.ifCond .eq 7, 3) := by decide +kernel
theorem dX10_playOuter_101 : decode cX10_playOuter 101 = .ok (.iconst 1, 1) := by decide +kernel
theorem dX10_playOuter_102 : decode cX10_playOuter 102 = .ok (.goto 4, 3) := by decide +kernel
theorem dX10_playOuter_105 : decode cX10_playOuter 105 = .ok (.iconst 0, 1) := by decide +kernel
theorem dX10_playOuter_106 : decode cX10_playOuter 106 = .ok (.iadd, 1) := by decide +kernel
theorem dX10_playOuter_107 : decode cX10_playOuter 107 = .ok (.istore_n 3, 1) := by decide +kernel
theorem dX10_playOuter_108 : decode cX10_playOuter 108 = .ok (.iinc 4 1, 3) := by decide +kernel
theorem dX10_playOuter_111 : decode cX10_playOuter 111 = .ok (.goto (-106), 3) := by decide +kernel
theorem dX10_playOuter_114 : decode cX10_playOuter 114 = .ok (.aload_n 0, 1) := by decide +kernel
theorem dX10_playOuter_115 : decode cX10_playOuter 115 = .ok (.iload_n 3, 1) := by decide +kernel
theorem dX10_playOuter_116 : decode cX10_playOuter 116 = .ok (.aload_n 0, 1) := by decide +kernel
theorem dX10_playOuter_117 : decode cX10_playOuter 117 = .ok (.getfield 308, 3) := by decide +kernel
theorem dX10_playOuter_120 : decode cX10_playOuter 120 = .ok (.if_icmp .le 7, 3) := by decide +kernel
theorem dX10_playOuter_123 : decode cX10_playOuter 123 = .ok (.iload_n 3, 1) := by decide +kernel
theorem dX10_playOuter_124 : decode cX10_playOuter 124 = .ok (.goto 7, 3) := by decide +kernel
theorem dX10_playOuter_127 : decode cX10_playOuter 127 = .ok (.aload_n 0, 1) := by decide +kernel
theorem dX10_playOuter_128 : decode cX10_playOuter 128 = .ok (.getfield 308, 3) := by decide +kernel
theorem dX10_playOuter_131 : decode cX10_playOuter 131 = .ok (.putfield 308, 3) := by decide +kernel
theorem dX10_playOuter_134 : decode cX10_playOuter 134 = .ok (.aload_n 0, 1) := by decide +kernel
theorem dX10_playOuter_135 : decode cX10_playOuter 135 = .ok (.getfield 79, 3) := by decide +kernel
theorem dX10_playOuter_138 : decode cX10_playOuter 138 = .ok (.iload_n 1, 1) := by decide +kernel
theorem dX10_playOuter_139 : decode cX10_playOuter 139 = .ok (.aload_n 0, 1) := by decide +kernel
theorem dX10_playOuter_140 : decode cX10_playOuter 140 = .ok (.bipush 28, 2) := by decide +kernel
theorem dX10_playOuter_142 : decode cX10_playOuter 142 = .ok (.iload_n 2, 1) := by decide +kernel
theorem dX10_playOuter_143 : decode cX10_playOuter 143 = .ok (.invokevirtual 139, 3) := by decide +kernel
theorem dX10_playOuter_146 : decode cX10_playOuter 146 = .ok (.iastore, 1) := by decide +kernel
theorem dX10_playOuter_147 : decode cX10_playOuter 147 = .ok (.aload_n 0, 1) := by decide +kernel
theorem dX10_playOuter_148 : decode cX10_playOuter 148 = .ok (.getfield 79, 3) := by decide +kernel
theorem dX10_playOuter_151 : decode cX10_playOuter 151 = .ok (.iload_n 1, 1) := by decide +kernel
theorem dX10_playOuter_152 : decode cX10_playOuter 152 = .ok (.iaload, 1) := by decide +kernel
theorem dX10_playOuter_153 : decode cX10_playOuter 153 = .ok (.ifCond .ge 7, 3) := by decide +kernel
theorem dX10_playOuter_156 : decode cX10_playOuter 156 = .ok (.iconst 1, 1) := by decide +kernel
theorem dX10_playOuter_157 : decode cX10_playOuter 157 = .ok (.goto 4, 3) := by decide +kernel
theorem dX10_playOuter_160 : decode cX10_playOuter 160 = .ok (.iconst 0, 1) := by decide +kernel
theorem dX10_playOuter_161 : decode cX10_playOuter 161 = .ok (.istore 4, 2) := by decide +kernel
theorem dX10_playOuter_163 : decode cX10_playOuter 163 = .ok (.aload_n 0, 1) := by decide +kernel
theorem dX10_playOuter_164 : decode cX10_playOuter 164 = .ok (.dup, 1) := by decide +kernel
theorem dX10_playOuter_165 : decode cX10_playOuter 165 = .ok (.getfield 311, 3) := by decide +kernel
theorem dX10_playOuter_168 : decode cX10_playOuter 168 = .ok (.iload 4, 2) := by decide +kernel
theorem dX10_playOuter_170 : decode cX10_playOuter 170 = .ok (.ifCond .eq 7, 3) := by decide +kernel
theorem dX10_playOuter_173 : decode cX10_playOuter 173 = .ok (.iconst 1, 1) := by decide +kernel
theorem dX10_playOuter_174 : decode cX10_playOuter 174 = .ok (.goto 4, 3) := by decide +kernel
theorem dX10_playOuter_177 : decode cX10_playOuter 177 = .ok (.iconst 0, 1) := by decide +kernel
theorem dX10_playOuter_178 : decode cX10_playOuter 178 = .ok (.iadd, 1) := by decide +kernel
theorem dX10_playOuter_179 : decode cX10_playOuter 179 = .ok (.putfield 311, 3) := by decide +kernel
theorem dX10_playOuter_182 : decode cX10_playOuter 182 = .ok (.iconst 0, 1) := by decide +kernel
theorem dX10_playOuter_183 : decode cX10_playOuter 183 = .ok (.istore 5, 2) := by decide +kernel
theorem dX10_playOuter_185 : decode cX10_playOuter 185 = .ok (.iload 5, 2) := by decide +kernel
theorem dX10_playOuter_187 : decode cX10_playOuter 187 = .ok (.bipush 28, 2) := by decide +kernel
theorem dX10_playOuter_189 : decode cX10_playOuter 189 = .ok (.if_icmp .ge 65, 3) := by decide +kernel
theorem dX10_playOuter_192 : decode cX10_playOuter 192 = .ok (.aload_n 0, 1) := by decide +kernel
theorem dX10_playOuter_193 : decode cX10_playOuter 193 = .ok (.getfield 73, 3) := by decide +kernel
theorem dX10_playOuter_196 : decode cX10_playOuter 196 = .ok (.bipush 28, 2) := by decide +kernel
theorem dX10_playOuter_198 : decode cX10_playOuter 198 = .ok (.iload_n 1, 1) := by decide +kernel
theorem dX10_playOuter_199 : decode cX10_playOuter 199 = .ok (.imul, 1) := by decide +kernel
theorem dX10_playOuter_200 : decode cX10_playOuter 200 = .ok (.iload 5, 2) := by decide +kernel
theorem dX10_playOuter_202 : decode cX10_playOuter 202 = .ok (.iadd, 1) := by decide +kernel
theorem dX10_playOuter_203 : decode cX10_playOuter 203 = .ok (.aload_n 0, 1) := by decide +kernel
theorem dX10_playOuter_204 : decode cX10_playOuter 204 = .ok (.getfield 45, 3) := by decide +kernel
theorem dX10_playOuter_207 : decode cX10_playOuter 207 = .ok (.iload 5, 2) := by decide +kernel
theorem dX10_playOuter_209 : decode cX10_playOuter 209 = .ok (.iaload, 1) := by decide +kernel
theorem dX10_playOuter_210 : decode cX10_playOuter 210 = .ok (.iastore, 1) := by decide +kernel
theorem dX10_playOuter_211 : decode cX10_playOuter 211 = .ok (.aload_n 0, 1) := by decide +kernel
theorem dX10_playOuter_212 : decode cX10_playOuter 212 = .ok (.getfield 76, 3) := by decide +kernel
theorem dX10_playOuter_215 : decode cX10_playOuter 215 = .ok (.bipush 28, 2) := by decide +kernel
theorem dX10_playOuter_217 : decode cX10_playOuter 217 = .ok (.iload_n 1, 1) := by decide +kernel
theorem dX10_playOuter_218 : decode cX10_playOuter 218 = .ok (.imul, 1) := by decide +kernel
theorem dX10_playOuter_219 : decode cX10_playOuter 219 = .ok (.iload 5, 2) := by decide +kernel
theorem dX10_playOuter_221 : decode cX10_playOuter 221 = .ok (.iadd, 1) := by decide +kernel
theorem dX10_playOuter_222 : decode cX10_playOuter 222 = .ok (.iload 4, 2) := by decide +kernel
theorem dX10_playOuter_224 : decode cX10_playOuter 224 = .ok (.ifCond .eq 22, 3) := by decide +kernel
theorem dX10_playOuter_227 : decode cX10_playOuter 227 = .ok (.iload_n 3, 1) := by decide +kernel
theorem dX10_playOuter_228 : decode cX10_playOuter 228 = .ok (.iconst 5, 1) := by decide +kernel
theorem dX10_playOuter_229 : decode cX10_playOuter 229 = .ok (.if_icmp .lt 13, 3) := by decide +kernel
theorem dX10_playOuter_232 : decode cX10_playOuter 232 = .ok (.aload_n 0, 1) := by decide +kernel
theorem dX10_playOuter_233 : decode cX10_playOuter 233 = .ok (.getfield 48, 3) := by decide +kernel
theorem dX10_playOuter_236 : decode cX10_playOuter 236 = .ok (.iload 5, 2) := by decide +kernel
theorem dX10_playOuter_238 : decode cX10_playOuter 238 = .ok (.baload, 1) := by decide +kernel
theorem dX10_playOuter_239 : decode cX10_playOuter 239 = .ok (.ifCond .eq 7, 3) := by decide +kernel
theorem dX10_playOuter_242 : decode cX10_playOuter 242 = .ok (.iconst 1, 1) := by decide +kernel
theorem dX10_playOuter_243 : decode cX10_playOuter 243 = .ok (.goto 4, 3) := by decide +kernel
theorem dX10_playOuter_246 : decode cX10_playOuter 246 = .ok (.iconst 0, 1) := by decide +kernel
theorem dX10_playOuter_247 : decode cX10_playOuter 247 = .ok (.bastore, 1) := by decide +kernel
theorem dX10_playOuter_248 : decode cX10_playOuter 248 = .ok (.iinc 5 1, 3) := by decide +kernel
theorem dX10_playOuter_251 : decode cX10_playOuter 251 = .ok (.goto (-66), 3) := by decide +kernel
theorem dX10_playOuter_254 : decode cX10_playOuter 254 = .ok (.return_, 1) := by decide +kernel
theorem dX10_takeFrame_0 : decode cX10_takeFrame 0 = .ok (.iconst 0, 1) := by decide +kernel
theorem dX10_takeFrame_1 : decode cX10_takeFrame 1 = .ok (.istore_n 2, 1) := by decide +kernel
theorem dX10_takeFrame_2 : decode cX10_takeFrame 2 = .ok (.iload_n 2, 1) := by decide +kernel
theorem dX10_takeFrame_3 : decode cX10_takeFrame 3 = .ok (.bipush 28, 2) := by decide +kernel
theorem dX10_takeFrame_5 : decode cX10_takeFrame 5 = .ok (.if_icmp .ge 133, 3) := by decide +kernel
theorem dX10_takeFrame_8 : decode cX10_takeFrame 8 = .ok (.iconst 0, 1) := by decide +kernel
theorem dX10_takeFrame_9 : decode cX10_takeFrame 9 = .ok (.iload_n 2, 1) := by decide +kernel
theorem dX10_takeFrame_10 : decode cX10_takeFrame 10 = .ok (.invokestatic 135, 3) := by decide +kernel
theorem dX10_takeFrame_13 : decode cX10_takeFrame 13 = .ok (.ifCond .eq 6, 3) := by decide +kernel
theorem dX10_takeFrame_16 : decode cX10_takeFrame 16 = .ok (.goto 116, 3) := by decide +kernel
theorem dX10_takeFrame_19 : decode cX10_takeFrame 19 = .ok (.iload_n 2, 1) := by decide +kernel
theorem dX10_takeFrame_20 : decode cX10_takeFrame 20 = .ok (.bipush 12, 2) := by decide +kernel
theorem dX10_takeFrame_22 : decode cX10_takeFrame 22 = .ok (.if_icmp .ge 9, 3) := by decide +kernel
theorem dX10_takeFrame_25 : decode cX10_takeFrame 25 = .ok (.iload_n 1, 1) := by decide +kernel
theorem dX10_takeFrame_26 : decode cX10_takeFrame 26 = .ok (.iconst 2, 1) := by decide +kernel
theorem dX10_takeFrame_27 : decode cX10_takeFrame 27 = .ok (.iadd, 1) := by decide +kernel
theorem dX10_takeFrame_28 : decode cX10_takeFrame 28 = .ok (.goto 4, 3) := by decide +kernel
theorem dX10_takeFrame_31 : decode cX10_takeFrame 31 = .ok (.iload_n 1, 1) := by decide +kernel
theorem dX10_takeFrame_32 : decode cX10_takeFrame 32 = .ok (.istore_n 3, 1) := by decide +kernel
theorem dX10_takeFrame_33 : decode cX10_takeFrame 33 = .ok (.bipush 24, 2) := by decide +kernel
theorem dX10_takeFrame_35 : decode cX10_takeFrame 35 = .ok (.iload_n 1, 1) := by decide +kernel
theorem dX10_takeFrame_36 : decode cX10_takeFrame 36 = .ok (.imul, 1) := by decide +kernel
theorem dX10_takeFrame_37 : decode cX10_takeFrame 37 = .ok (.iload_n 2, 1) := by decide +kernel
theorem dX10_takeFrame_38 : decode cX10_takeFrame 38 = .ok (.invokestatic 172, 3) := by decide +kernel
theorem dX10_takeFrame_41 : decode cX10_takeFrame 41 = .ok (.iadd, 1) := by decide +kernel
theorem dX10_takeFrame_42 : decode cX10_takeFrame 42 = .ok (.istore 4, 2) := by decide +kernel
theorem dX10_takeFrame_44 : decode cX10_takeFrame 44 = .ok (.aload_n 0, 1) := by decide +kernel
theorem dX10_takeFrame_45 : decode cX10_takeFrame 45 = .ok (.getfield 88, 3) := by decide +kernel
theorem dX10_takeFrame_48 : decode cX10_takeFrame 48 = .ok (.iload 4, 2) := by decide +kernel
theorem dX10_takeFrame_50 : decode cX10_takeFrame 50 = .ok (.iload_n 3, 1) := by decide +kernel
theorem dX10_takeFrame_51 : decode cX10_takeFrame 51 = .ok (.aload_n 0, 1) := by decide +kernel
theorem dX10_takeFrame_52 : decode cX10_takeFrame 52 = .ok (.getfield 296, 3) := by decide +kernel
theorem dX10_takeFrame_55 : decode cX10_takeFrame 55 = .ok (.if_icmp .ge 17, 3) := by decide +kernel
theorem dX10_takeFrame_58 : decode cX10_takeFrame 58 = .ok (.aload_n 0, 1) := by decide +kernel
theorem dX10_takeFrame_59 : decode cX10_takeFrame 59 = .ok (.getfield 73, 3) := by decide +kernel
theorem dX10_takeFrame_62 : decode cX10_takeFrame 62 = .ok (.bipush 28, 2) := by decide +kernel
theorem dX10_takeFrame_64 : decode cX10_takeFrame 64 = .ok (.iload_n 3, 1) := by decide +kernel
theorem dX10_takeFrame_65 : decode cX10_takeFrame 65 = .ok (.imul, 1) := by decide +kernel
theorem dX10_takeFrame_66 : decode cX10_takeFrame 66 = .ok (.iload_n 2, 1) := by decide +kernel
theorem dX10_takeFrame_67 : decode cX10_takeFrame 67 = .ok (.iadd, 1) := by decide +kernel
theorem dX10_takeFrame_68 : decode cX10_takeFrame 68 = .ok (.iaload, 1) := by decide +kernel
theorem dX10_takeFrame_69 : decode cX10_takeFrame 69 = .ok (.goto 4, 3) := by decide +kernel
theorem dX10_takeFrame_72 : decode cX10_takeFrame 72 = .ok (.iconst 0, 1) := by decide +kernel
theorem dX10_takeFrame_73 : decode cX10_takeFrame 73 = .ok (.iastore, 1) := by decide +kernel
theorem dX10_takeFrame_74 : decode cX10_takeFrame 74 = .ok (.aload_n 0, 1) := by decide +kernel
theorem dX10_takeFrame_75 : decode cX10_takeFrame 75 = .ok (.getfield 91, 3) := by decide +kernel
theorem dX10_takeFrame_78 : decode cX10_takeFrame 78 = .ok (.iload 4, 2) := by decide +kernel
theorem dX10_takeFrame_80 : decode cX10_takeFrame 80 = .ok (.iload_n 3, 1) := by decide +kernel
theorem dX10_takeFrame_81 : decode cX10_takeFrame 81 = .ok (.aload_n 0, 1) := by decide +kernel
theorem dX10_takeFrame_82 : decode cX10_takeFrame 82 = .ok (.getfield 296, 3) := by decide +kernel
theorem dX10_takeFrame_85 : decode cX10_takeFrame 85 = .ok (.if_icmp .ge 21, 3) := by decide +kernel
theorem dX10_takeFrame_88 : decode cX10_takeFrame 88 = .ok (.aload_n 0, 1) := by decide +kernel
theorem dX10_takeFrame_89 : decode cX10_takeFrame 89 = .ok (.getfield 76, 3) := by decide +kernel
theorem dX10_takeFrame_92 : decode cX10_takeFrame 92 = .ok (.bipush 28, 2) := by decide +kernel
theorem dX10_takeFrame_94 : decode cX10_takeFrame 94 = .ok (.iload_n 3, 1) := by decide +kernel
theorem dX10_takeFrame_95 : decode cX10_takeFrame 95 = .ok (.imul, 1) := by decide +kernel
theorem dX10_takeFrame_96 : decode cX10_takeFrame 96 = .ok (.iload_n 2, 1) := by decide +kernel
theorem dX10_takeFrame_97 : decode cX10_takeFrame 97 = .ok (.iadd, 1) := by decide +kernel
theorem dX10_takeFrame_98 : decode cX10_takeFrame 98 = .ok (.baload, 1) := by decide +kernel
theorem dX10_takeFrame_99 : decode cX10_takeFrame 99 = .ok (.ifCond .ne 7, 3) := by decide +kernel
theorem dX10_takeFrame_102 : decode cX10_takeFrame 102 = .ok (.iconst 1, 1) := by decide +kernel
theorem dX10_takeFrame_103 : decode cX10_takeFrame 103 = .ok (.goto 4, 3) := by decide +kernel
theorem dX10_takeFrame_106 : decode cX10_takeFrame 106 = .ok (.iconst 0, 1) := by decide +kernel
theorem dX10_takeFrame_107 : decode cX10_takeFrame 107 = .ok (.bastore, 1) := by decide +kernel
theorem dX10_takeFrame_108 : decode cX10_takeFrame 108 = .ok (.aload_n 0, 1) := by decide +kernel
theorem dX10_takeFrame_109 : decode cX10_takeFrame 109 = .ok (.dup, 1) := by decide +kernel
theorem dX10_takeFrame_110 : decode cX10_takeFrame 110 = .ok (.getfield 314, 3) := by decide +kernel
theorem dX10_takeFrame_113 : decode cX10_takeFrame 113 = .ok (.aload_n 0, 1) := by decide +kernel
theorem dX10_takeFrame_114 : decode cX10_takeFrame 114 = .ok (.getfield 91, 3) := by decide +kernel
theorem dX10_takeFrame_117 : decode cX10_takeFrame 117 = .ok (.iload 4, 2) := by decide +kernel
theorem dX10_takeFrame_119 : decode cX10_takeFrame 119 = .ok (.baload, 1) := by decide +kernel
theorem dX10_takeFrame_120 : decode cX10_takeFrame 120 = .ok (.ifCond .eq 7, 3) := by decide +kernel
theorem dX10_takeFrame_123 : decode cX10_takeFrame 123 = .ok (.iconst 0, 1) := by decide +kernel
theorem dX10_takeFrame_124 : decode cX10_takeFrame 124 = .ok (.goto 4, 3) := by decide +kernel
theorem dX10_takeFrame_127 : decode cX10_takeFrame 127 = .ok (.iconst 1, 1) := by decide +kernel
theorem dX10_takeFrame_128 : decode cX10_takeFrame 128 = .ok (.iadd, 1) := by decide +kernel
theorem dX10_takeFrame_129 : decode cX10_takeFrame 129 = .ok (.putfield 314, 3) := by decide +kernel
theorem dX10_takeFrame_132 : decode cX10_takeFrame 132 = .ok (.iinc 2 1, 3) := by decide +kernel
theorem dX10_takeFrame_135 : decode cX10_takeFrame 135 = .ok (.goto (-133), 3) := by decide +kernel
theorem dX10_takeFrame_138 : decode cX10_takeFrame 138 = .ok (.return_, 1) := by decide +kernel
theorem dX10_play_0 : decode cX10_play 0 = .ok (.aload_n 0, 1) := by decide +kernel
theorem dX10_play_1 : decode cX10_play 1 = .ok (.iconst 0, 1) := by decide +kernel
theorem dX10_play_2 : decode cX10_play 2 = .ok (.putfield 100, 3) := by decide +kernel
theorem dX10_play_5 : decode cX10_play 5 = .ok (.aload_n 0, 1) := by decide +kernel
theorem dX10_play_6 : decode cX10_play 6 = .ok (.getfield 231, 3) := by decide +kernel
theorem dX10_play_9 : decode cX10_play 9 = .ok (.ifCond .eq 39, 3) := by decide +kernel
theorem dX10_play_12 : decode cX10_play 12 = .ok (.iload_n 1, 1) := by decide +kernel
theorem dX10_play_13 : decode cX10_play 13 = .ok (.i2l, 1) := by decide +kernel
theorem dX10_play_14 : decode cX10_play 14 = .ok (.lconst 0, 1) := by decide +kernel
theorem dX10_play_15 : decode cX10_play 15 = .ok (.ldc2_w 317, 3) := by decide +kernel
theorem dX10_play_18 : decode cX10_play 18 = .ok (.invokestatic 144, 3) := by decide +kernel
theorem dX10_play_21 : decode cX10_play 21 = .ok (.ifCond .eq 27, 3) := by decide +kernel
theorem dX10_play_24 : decode cX10_play 24 = .ok (.iload_n 2, 1) := by decide +kernel
theorem dX10_play_25 : decode cX10_play 25 = .ok (.i2l, 1) := by decide +kernel
theorem dX10_play_26 : decode cX10_play 26 = .ok (.lconst 0, 1) := by decide +kernel
theorem dX10_play_27 : decode cX10_play 27 = .ok (.ldc2_w 317, 3) := by decide +kernel
theorem dX10_play_30 : decode cX10_play 30 = .ok (.invokestatic 144, 3) := by decide +kernel
theorem dX10_play_33 : decode cX10_play 33 = .ok (.ifCond .eq 15, 3) := by decide +kernel
theorem dX10_play_36 : decode cX10_play 36 = .ok (.iload_n 3, 1) := by decide +kernel
theorem dX10_play_37 : decode cX10_play 37 = .ok (.i2l, 1) := by decide +kernel
theorem dX10_play_38 : decode cX10_play 38 = .ok (.lconst 0, 1) := by decide +kernel
theorem dX10_play_39 : decode cX10_play 39 = .ok (.ldc2_w 319, 3) := by decide +kernel
theorem dX10_play_42 : decode cX10_play 42 = .ok (.invokestatic 144, 3) := by decide +kernel
theorem dX10_play_45 : decode cX10_play 45 = .ok (.ifCond .ne 5, 3) := by decide +kernel
theorem dX10_play_48 : decode cX10_play 48 = .ok (.iconst (-1), 1) := by decide +kernel
theorem dX10_play_49 : decode cX10_play 49 = .ok (.ireturn, 1) := by decide +kernel
theorem dX10_play_50 : decode cX10_play 50 = .ok (.aload_n 0, 1) := by decide +kernel
theorem dX10_play_51 : decode cX10_play 51 = .ok (.iconst 1, 1) := by decide +kernel
theorem dX10_play_52 : decode cX10_play 52 = .ok (.putfield 250, 3) := by decide +kernel
theorem dX10_play_55 : decode cX10_play 55 = .ok (.aload_n 0, 1) := by decide +kernel
theorem dX10_play_56 : decode cX10_play 56 = .ok (.iconst 0, 1) := by decide +kernel
theorem dX10_play_57 : decode cX10_play 57 = .ok (.putfield 321, 3) := by decide +kernel
theorem dX10_play_60 : decode cX10_play 60 = .ok (.aload_n 0, 1) := by decide +kernel
theorem dX10_play_61 : decode cX10_play 61 = .ok (.iconst 0, 1) := by decide +kernel
theorem dX10_play_62 : decode cX10_play 62 = .ok (.putfield 305, 3) := by decide +kernel
theorem dX10_play_65 : decode cX10_play 65 = .ok (.aload_n 0, 1) := by decide +kernel
theorem dX10_play_66 : decode cX10_play 66 = .ok (.iconst 0, 1) := by decide +kernel
theorem dX10_play_67 : decode cX10_play 67 = .ok (.putfield 311, 3) := by decide +kernel
theorem dX10_play_70 : decode cX10_play 70 = .ok (.aload_n 0, 1) := by decide +kernel
theorem dX10_play_71 : decode cX10_play 71 = .ok (.iconst 0, 1) := by decide +kernel
theorem dX10_play_72 : decode cX10_play 72 = .ok (.putfield 308, 3) := by decide +kernel
theorem dX10_play_75 : decode cX10_play 75 = .ok (.aload_n 0, 1) := by decide +kernel
theorem dX10_play_76 : decode cX10_play 76 = .ok (.iconst 0, 1) := by decide +kernel
theorem dX10_play_77 : decode cX10_play 77 = .ok (.putfield 314, 3) := by decide +kernel
theorem dX10_play_80 : decode cX10_play 80 = .ok (.aload_n 0, 1) := by decide +kernel
theorem dX10_play_81 : decode cX10_play 81 = .ok (.iload_n 3, 1) := by decide +kernel
theorem dX10_play_82 : decode cX10_play 82 = .ok (.invokevirtual 324, 3) := by decide +kernel
theorem dX10_play_85 : decode cX10_play 85 = .ok (.iconst 0, 1) := by decide +kernel
theorem dX10_play_86 : decode cX10_play 86 = .ok (.istore 4, 2) := by decide +kernel
theorem dX10_play_88 : decode cX10_play 88 = .ok (.iload 4, 2) := by decide +kernel
theorem dX10_play_90 : decode cX10_play 90 = .ok (.aload_n 0, 1) := by decide +kernel
theorem dX10_play_91 : decode cX10_play 91 = .ok (.getfield 296, 3) := by decide +kernel
theorem dX10_play_94 : decode cX10_play 94 = .ok (.if_icmp .ge 69, 3) := by decide +kernel
theorem dX10_play_97 : decode cX10_play 97 = .ok (.iconst 0, 1) := by decide +kernel
theorem dX10_play_98 : decode cX10_play 98 = .ok (.istore 5, 2) := by decide +kernel
theorem dX10_play_100 : decode cX10_play 100 = .ok (.iload 5, 2) := by decide +kernel
theorem dX10_play_102 : decode cX10_play 102 = .ok (.bipush 32, 2) := by decide +kernel
theorem dX10_play_104 : decode cX10_play 104 = .ok (.if_icmp .ge 53, 3) := by decide +kernel
theorem dX10_play_107 : decode cX10_play 107 = .ok (.aload_n 0, 1) := by decide +kernel
theorem dX10_play_108 : decode cX10_play 108 = .ok (.dup, 1) := by decide +kernel
theorem dX10_play_109 : decode cX10_play 109 = .ok (.getfield 321, 3) := by decide +kernel
theorem dX10_play_112 : decode cX10_play 112 = .ok (.aload_n 0, 1) := by decide +kernel
theorem dX10_play_113 : decode cX10_play 113 = .ok (.getfield 13, 3) := by decide +kernel
theorem dX10_play_116 : decode cX10_play 116 = .ok (.aload_n 0, 1) := by decide +kernel
theorem dX10_play_117 : decode cX10_play 117 = .ok (.aload_n 0, 1) := by decide +kernel
theorem dX10_play_118 : decode cX10_play 118 = .ok (.getfield 82, 3) := by decide +kernel
theorem dX10_play_121 : decode cX10_play 121 = .ok (.iload 4, 2) := by decide +kernel
theorem dX10_play_123 : decode cX10_play 123 = .ok (.iaload, 1) := by decide +kernel
theorem dX10_play_124 : decode cX10_play 124 = .ok (.bipush 44, 2) := by decide +kernel
theorem dX10_play_126 : decode cX10_play 126 = .ok (.iadd, 1) := by decide +kernel
theorem dX10_play_127 : decode cX10_play 127 = .ok (.bipush 17, 2) := by decide +kernel
theorem dX10_play_129 : decode cX10_play 129 = .ok (.iload 5, 2) := by decide +kernel
theorem dX10_play_131 : decode cX10_play 131 = .ok (.imul, 1) := by decide +kernel
theorem dX10_play_132 : decode cX10_play 132 = .ok (.iadd, 1) := by decide +kernel
theorem dX10_play_133 : decode cX10_play 133 = .ok (.bipush 14, 2) := by decide +kernel
theorem dX10_play_135 : decode cX10_play 135 = .ok (.invokevirtual 271, 3) := by decide +kernel
theorem dX10_play_138 : decode cX10_play 138 = .ok (.iaload, 1) := by decide +kernel
theorem dX10_play_139 : decode cX10_play 139 = .ok (.ifCond .ge 7, 3) := by decide +kernel
theorem dX10_play_142 : decode cX10_play 142 = .ok (.iconst 1, 1) := by decide +kernel
theorem dX10_play_143 : decode cX10_play 143 = .ok (.goto 4, 3) := by decide +kernel
theorem dX10_play_146 : decode cX10_play 146 = .ok (.iconst 0, 1) := by decide +kernel
theorem dX10_play_147 : decode cX10_play 147 = .ok (.iadd, 1) := by decide +kernel
theorem dX10_play_148 : decode cX10_play 148 = .ok (.putfield 321, 3) := by decide +kernel
theorem dX10_play_151 : decode cX10_play 151 = .ok (.iinc 5 1, 3) := by decide +kernel
theorem dX10_play_154 : decode cX10_play 154 = .ok (.goto (-54), 3) := by decide +kernel
theorem dX10_play_157 : decode cX10_play 157 = .ok (.iinc 4 1, 3) := by decide +kernel
theorem dX10_play_160 : decode cX10_play 160 = .ok (.goto (-72), 3) := by decide +kernel
theorem dX10_play_163 : decode cX10_play 163 = .ok (.iconst 0, 1) := by decide +kernel
theorem dX10_play_164 : decode cX10_play 164 = .ok (.istore 4, 2) := by decide +kernel
theorem dX10_play_166 : decode cX10_play 166 = .ok (.iload 4, 2) := by decide +kernel
theorem dX10_play_168 : decode cX10_play 168 = .ok (.aload_n 0, 1) := by decide +kernel
theorem dX10_play_169 : decode cX10_play 169 = .ok (.getfield 296, 3) := by decide +kernel
theorem dX10_play_172 : decode cX10_play 172 = .ok (.if_icmp .ge 16, 3) := by decide +kernel
theorem dX10_play_175 : decode cX10_play 175 = .ok (.aload_n 0, 1) := by decide +kernel
theorem dX10_play_176 : decode cX10_play 176 = .ok (.iload 4, 2) := by decide +kernel
theorem dX10_play_178 : decode cX10_play 178 = .ok (.iload_n 1, 1) := by decide +kernel
theorem dX10_play_179 : decode cX10_play 179 = .ok (.invokevirtual 327, 3) := by decide +kernel
theorem dX10_play_182 : decode cX10_play 182 = .ok (.iinc 4 1, 3) := by decide +kernel
theorem dX10_play_185 : decode cX10_play 185 = .ok (.goto (-19), 3) := by decide +kernel
theorem dX10_play_188 : decode cX10_play 188 = .ok (.iconst 0, 1) := by decide +kernel
theorem dX10_play_189 : decode cX10_play 189 = .ok (.istore 4, 2) := by decide +kernel
theorem dX10_play_191 : decode cX10_play 191 = .ok (.iload 4, 2) := by decide +kernel
theorem dX10_play_193 : decode cX10_play 193 = .ok (.aload_n 0, 1) := by decide +kernel
theorem dX10_play_194 : decode cX10_play 194 = .ok (.getfield 296, 3) := by decide +kernel
theorem dX10_play_197 : decode cX10_play 197 = .ok (.if_icmp .ge 16, 3) := by decide +kernel
theorem dX10_play_200 : decode cX10_play 200 = .ok (.aload_n 0, 1) := by decide +kernel
theorem dX10_play_201 : decode cX10_play 201 = .ok (.iload 4, 2) := by decide +kernel
theorem dX10_play_203 : decode cX10_play 203 = .ok (.iload_n 2, 1) := by decide +kernel
theorem dX10_play_204 : decode cX10_play 204 = .ok (.invokevirtual 330, 3) := by decide +kernel
theorem dX10_play_207 : decode cX10_play 207 = .ok (.iinc 4 1, 3) := by decide +kernel
theorem dX10_play_210 : decode cX10_play 210 = .ok (.goto (-19), 3) := by decide +kernel
theorem dX10_play_213 : decode cX10_play 213 = .ok (.iconst 0, 1) := by decide +kernel
theorem dX10_play_214 : decode cX10_play 214 = .ok (.istore 4, 2) := by decide +kernel
theorem dX10_play_216 : decode cX10_play 216 = .ok (.iload 4, 2) := by decide +kernel
theorem dX10_play_218 : decode cX10_play 218 = .ok (.aload_n 0, 1) := by decide +kernel
theorem dX10_play_219 : decode cX10_play 219 = .ok (.getfield 169, 3) := by decide +kernel
theorem dX10_play_222 : decode cX10_play 222 = .ok (.if_icmp .ge 15, 3) := by decide +kernel
theorem dX10_play_225 : decode cX10_play 225 = .ok (.aload_n 0, 1) := by decide +kernel
theorem dX10_play_226 : decode cX10_play 226 = .ok (.iload 4, 2) := by decide +kernel
theorem dX10_play_228 : decode cX10_play 228 = .ok (.invokevirtual 333, 3) := by decide +kernel
theorem dX10_play_231 : decode cX10_play 231 = .ok (.iinc 4 1, 3) := by decide +kernel
theorem dX10_play_234 : decode cX10_play 234 = .ok (.goto (-18), 3) := by decide +kernel
theorem dX10_play_237 : decode cX10_play 237 = .ok (.aload_n 0, 1) := by decide +kernel
theorem dX10_play_238 : decode cX10_play 238 = .ok (.getfield 314, 3) := by decide +kernel
theorem dX10_play_241 : decode cX10_play 241 = .ok (.ireturn, 1) := by decide +kernel
theorem dX10_isThere_0 : decode cX10_isThere 0 = .ok (.aload_n 0, 1) := by decide +kernel
theorem dX10_isThere_1 : decode cX10_isThere 1 = .ok (.getfield 250, 3) := by decide +kernel
theorem dX10_isThere_4 : decode cX10_isThere 4 = .ok (.ifCond .eq 26, 3) := by decide +kernel
theorem dX10_isThere_7 : decode cX10_isThere 7 = .ok (.iload_n 1, 1) := by decide +kernel
theorem dX10_isThere_8 : decode cX10_isThere 8 = .ok (.i2l, 1) := by decide +kernel
theorem dX10_isThere_9 : decode cX10_isThere 9 = .ok (.lconst 0, 1) := by decide +kernel
theorem dX10_isThere_10 : decode cX10_isThere 10 = .ok (.bipush 24, 2) := by decide +kernel
theorem dX10_isThere_12 : decode cX10_isThere 12 = .ok (.aload_n 0, 1) := by decide +kernel
theorem dX10_isThere_13 : decode cX10_isThere 13 = .ok (.getfield 169, 3) := by decide +kernel
theorem dX10_isThere_16 : decode cX10_isThere 16 = .ok (.imul, 1) := by decide +kernel
theorem dX10_isThere_17 : decode cX10_isThere 17 = .ok (.iconst 1, 1) := by decide +kernel
theorem dX10_isThere_18 : decode cX10_isThere 18 = .ok (.isub, 1) := by decide +kernel
theorem dX10_isThere_19 : decode cX10_isThere 19 = .ok (.i2l, 1) := by decide +kernel
theorem dX10_isThere_20 : decode cX10_isThere 20 = .ok (.invokestatic 144, 3) := by decide +kernel
theorem dX10_isThere_23 : decode cX10_isThere 23 = .ok (.ifCond .eq 7, 3) := by decide +kernel
theorem dX10_isThere_26 : decode cX10_isThere 26 = .ok (.iconst 1, 1) := by decide +kernel
theorem dX10_isThere_27 : decode cX10_isThere 27 = .ok (.goto 4, 3) := by decide +kernel
theorem dX10_isThere_30 : decode cX10_isThere 30 = .ok (.iconst 0, 1) := by decide +kernel
theorem dX10_isThere_31 : decode cX10_isThere 31 = .ok (.ireturn, 1) := by decide +kernel
theorem dX10_played_0 : decode cX10_played 0 = .ok (.aload_n 0, 1) := by decide +kernel
theorem dX10_played_1 : decode cX10_played 1 = .ok (.iconst 0, 1) := by decide +kernel
theorem dX10_played_2 : decode cX10_played 2 = .ok (.putfield 100, 3) := by decide +kernel
theorem dX10_played_5 : decode cX10_played 5 = .ok (.aload_n 0, 1) := by decide +kernel
theorem dX10_played_6 : decode cX10_played 6 = .ok (.iload_n 1, 1) := by decide +kernel
theorem dX10_played_7 : decode cX10_played 7 = .ok (.invokevirtual 336, 3) := by decide +kernel
theorem dX10_played_10 : decode cX10_played 10 = .ok (.ifCond .eq 12, 3) := by decide +kernel
theorem dX10_played_13 : decode cX10_played 13 = .ok (.aload_n 0, 1) := by decide +kernel
theorem dX10_played_14 : decode cX10_played 14 = .ok (.getfield 88, 3) := by decide +kernel
theorem dX10_played_17 : decode cX10_played 17 = .ok (.iload_n 1, 1) := by decide +kernel
theorem dX10_played_18 : decode cX10_played 18 = .ok (.iaload, 1) := by decide +kernel
theorem dX10_played_19 : decode cX10_played 19 = .ok (.goto 4, 3) := by decide +kernel
theorem dX10_played_22 : decode cX10_played 22 = .ok (.iconst (-1), 1) := by decide +kernel
theorem dX10_played_23 : decode cX10_played 23 = .ok (.ireturn, 1) := by decide +kernel
theorem dX10_isSure_0 : decode cX10_isSure 0 = .ok (.aload_n 0, 1) := by decide +kernel
theorem dX10_isSure_1 : decode cX10_isSure 1 = .ok (.iconst 0, 1) := by decide +kernel
theorem dX10_isSure_2 : decode cX10_isSure 2 = .ok (.putfield 100, 3) := by decide +kernel
theorem dX10_isSure_5 : decode cX10_isSure 5 = .ok (.aload_n 0, 1) := by decide +kernel
theorem dX10_isSure_6 : decode cX10_isSure 6 = .ok (.iload_n 1, 1) := by decide +kernel
theorem dX10_isSure_7 : decode cX10_isSure 7 = .ok (.invokevirtual 336, 3) := by decide +kernel
theorem dX10_isSure_10 : decode cX10_isSure 10 = .ok (.ifCond .eq 16, 3) := by decide +kernel
theorem dX10_isSure_13 : decode cX10_isSure 13 = .ok (.aload_n 0, 1) := by decide +kernel
theorem dX10_isSure_14 : decode cX10_isSure 14 = .ok (.getfield 91, 3) := by decide +kernel
theorem dX10_isSure_17 : decode cX10_isSure 17 = .ok (.iload_n 1, 1) := by decide +kernel
theorem dX10_isSure_18 : decode cX10_isSure 18 = .ok (.baload, 1) := by decide +kernel
theorem dX10_isSure_19 : decode cX10_isSure 19 = .ok (.ifCond .eq 7, 3) := by decide +kernel
theorem dX10_isSure_22 : decode cX10_isSure 22 = .ok (.iconst 1, 1) := by decide +kernel
theorem dX10_isSure_23 : decode cX10_isSure 23 = .ok (.goto 4, 3) := by decide +kernel
theorem dX10_isSure_26 : decode cX10_isSure 26 = .ok (.iconst 0, 1) := by decide +kernel
theorem dX10_isSure_27 : decode cX10_isSure 27 = .ok (.ireturn, 1) := by decide +kernel
theorem dX10_sampleAt_0 : decode cX10_sampleAt 0 = .ok (.iconst 4, 1) := by decide +kernel
theorem dX10_sampleAt_1 : decode cX10_sampleAt 1 = .ok (.iload_n 0, 1) := by decide +kernel
theorem dX10_sampleAt_2 : decode cX10_sampleAt 2 = .ok (.imul, 1) := by decide +kernel
theorem dX10_sampleAt_3 : decode cX10_sampleAt 3 = .ok (.iload_n 1, 1) := by decide +kernel
theorem dX10_sampleAt_4 : decode cX10_sampleAt 4 = .ok (.ifCond .eq 7, 3) := by decide +kernel
theorem dX10_sampleAt_7 : decode cX10_sampleAt 7 = .ok (.iconst 2, 1) := by decide +kernel
theorem dX10_sampleAt_8 : decode cX10_sampleAt 8 = .ok (.goto 4, 3) := by decide +kernel
theorem dX10_sampleAt_11 : decode cX10_sampleAt 11 = .ok (.iconst 0, 1) := by decide +kernel
theorem dX10_sampleAt_12 : decode cX10_sampleAt 12 = .ok (.iadd, 1) := by decide +kernel
theorem dX10_sampleAt_13 : decode cX10_sampleAt 13 = .ok (.ireturn, 1) := by decide +kernel
theorem dX10_isSampleSure_0 : decode cX10_isSampleSure 0 = .ok (.iload_n 1, 1) := by decide +kernel
theorem dX10_isSampleSure_1 : decode cX10_isSampleSure 1 = .ok (.iload_n 2, 1) := by decide +kernel
theorem dX10_isSampleSure_2 : decode cX10_isSampleSure 2 = .ok (.invokestatic 339, 3) := by decide +kernel
theorem dX10_isSampleSure_5 : decode cX10_isSampleSure 5 = .ok (.istore_n 3, 1) := by decide +kernel
theorem dX10_isSampleSure_6 : decode cX10_isSampleSure 6 = .ok (.iload_n 1, 1) := by decide +kernel
theorem dX10_isSampleSure_7 : decode cX10_isSampleSure 7 = .ok (.bipush 6, 2) := by decide +kernel
theorem dX10_isSampleSure_9 : decode cX10_isSampleSure 9 = .ok (.aload_n 0, 1) := by decide +kernel
theorem dX10_isSampleSure_10 : decode cX10_isSampleSure 10 = .ok (.getfield 169, 3) := by decide +kernel
theorem dX10_isSampleSure_13 : decode cX10_isSampleSure 13 = .ok (.imul, 1) := by decide +kernel
theorem dX10_isSampleSure_14 : decode cX10_isSampleSure 14 = .ok (.if_icmp .ge 27, 3) := by decide +kernel
theorem dX10_isSampleSure_17 : decode cX10_isSampleSure 17 = .ok (.aload_n 0, 1) := by decide +kernel
theorem dX10_isSampleSure_18 : decode cX10_isSampleSure 18 = .ok (.getfield 91, 3) := by decide +kernel
theorem dX10_isSampleSure_21 : decode cX10_isSampleSure 21 = .ok (.iload_n 3, 1) := by decide +kernel
theorem dX10_isSampleSure_22 : decode cX10_isSampleSure 22 = .ok (.baload, 1) := by decide +kernel
theorem dX10_isSampleSure_23 : decode cX10_isSampleSure 23 = .ok (.ifCond .eq 18, 3) := by decide +kernel
theorem dX10_isSampleSure_26 : decode cX10_isSampleSure 26 = .ok (.aload_n 0, 1) := by decide +kernel
theorem dX10_isSampleSure_27 : decode cX10_isSampleSure 27 = .ok (.getfield 91, 3) := by decide +kernel
theorem dX10_isSampleSure_30 : decode cX10_isSampleSure 30 = .ok (.iload_n 3, 1) := by decide +kernel
theorem dX10_isSampleSure_31 : decode cX10_isSampleSure 31 = .ok (.iconst 1, 1) := by decide +kernel
theorem dX10_isSampleSure_32 : decode cX10_isSampleSure 32 = .ok (.iadd, 1) := by decide +kernel
theorem dX10_isSampleSure_33 : decode cX10_isSampleSure 33 = .ok (.baload, 1) := by decide +kernel
theorem dX10_isSampleSure_34 : decode cX10_isSampleSure 34 = .ok (.ifCond .eq 7, 3) := by decide +kernel
theorem dX10_isSampleSure_37 : decode cX10_isSampleSure 37 = .ok (.iconst 1, 1) := by decide +kernel
theorem dX10_isSampleSure_38 : decode cX10_isSampleSure 38 = .ok (.goto 4, 3) := by decide +kernel
theorem dX10_isSampleSure_41 : decode cX10_isSampleSure 41 = .ok (.iconst 0, 1) := by decide +kernel
theorem dX10_isSampleSure_42 : decode cX10_isSampleSure 42 = .ok (.ireturn, 1) := by decide +kernel
theorem dX10_sample_0 : decode cX10_sample 0 = .ok (.iload_n 1, 1) := by decide +kernel
theorem dX10_sample_1 : decode cX10_sample 1 = .ok (.iload_n 2, 1) := by decide +kernel
theorem dX10_sample_2 : decode cX10_sample 2 = .ok (.invokestatic 339, 3) := by decide +kernel
theorem dX10_sample_5 : decode cX10_sample 5 = .ok (.istore_n 3, 1) := by decide +kernel
theorem dX10_sample_6 : decode cX10_sample 6 = .ok (.aload_n 0, 1) := by decide +kernel
theorem dX10_sample_7 : decode cX10_sample 7 = .ok (.getfield 88, 3) := by decide +kernel
theorem dX10_sample_10 : decode cX10_sample 10 = .ok (.iload_n 3, 1) := by decide +kernel
theorem dX10_sample_11 : decode cX10_sample 11 = .ok (.iaload, 1) := by decide +kernel
theorem dX10_sample_12 : decode cX10_sample 12 = .ok (.bipush 8, 2) := by decide +kernel
theorem dX10_sample_14 : decode cX10_sample 14 = .ok (.ishl, 1) := by decide +kernel
theorem dX10_sample_15 : decode cX10_sample 15 = .ok (.aload_n 0, 1) := by decide +kernel
theorem dX10_sample_16 : decode cX10_sample 16 = .ok (.getfield 88, 3) := by decide +kernel
theorem dX10_sample_19 : decode cX10_sample 19 = .ok (.iload_n 3, 1) := by decide +kernel
theorem dX10_sample_20 : decode cX10_sample 20 = .ok (.iconst 1, 1) := by decide +kernel
theorem dX10_sample_21 : decode cX10_sample 21 = .ok (.iadd, 1) := by decide +kernel
theorem dX10_sample_22 : decode cX10_sample 22 = .ok (.iaload, 1) := by decide +kernel
theorem dX10_sample_23 : decode cX10_sample 23 = .ok (.ior, 1) := by decide +kernel
theorem dX10_sample_24 : decode cX10_sample 24 = .ok (.i2s, 1) := by decide +kernel
theorem dX10_sample_25 : decode cX10_sample 25 = .ok (.ireturn, 1) := by decide +kernel
theorem dX10_heard_0 : decode cX10_heard 0 = .ok (.aload_n 0, 1) := by decide +kernel
theorem dX10_heard_1 : decode cX10_heard 1 = .ok (.iconst 0, 1) := by decide +kernel
theorem dX10_heard_2 : decode cX10_heard 2 = .ok (.putfield 100, 3) := by decide +kernel
theorem dX10_heard_5 : decode cX10_heard 5 = .ok (.aload_n 0, 1) := by decide +kernel
theorem dX10_heard_6 : decode cX10_heard 6 = .ok (.getfield 250, 3) := by decide +kernel
theorem dX10_heard_9 : decode cX10_heard 9 = .ok (.ifCond .eq 22, 3) := by decide +kernel
theorem dX10_heard_12 : decode cX10_heard 12 = .ok (.iload_n 1, 1) := by decide +kernel
theorem dX10_heard_13 : decode cX10_heard 13 = .ok (.i2l, 1) := by decide +kernel
theorem dX10_heard_14 : decode cX10_heard 14 = .ok (.lconst 0, 1) := by decide +kernel
theorem dX10_heard_15 : decode cX10_heard 15 = .ok (.bipush 6, 2) := by decide +kernel
theorem dX10_heard_17 : decode cX10_heard 17 = .ok (.aload_n 0, 1) := by decide +kernel
theorem dX10_heard_18 : decode cX10_heard 18 = .ok (.getfield 169, 3) := by decide +kernel
theorem dX10_heard_21 : decode cX10_heard 21 = .ok (.imul, 1) := by decide +kernel
theorem dX10_heard_22 : decode cX10_heard 22 = .ok (.iconst 1, 1) := by decide +kernel
theorem dX10_heard_23 : decode cX10_heard 23 = .ok (.isub, 1) := by decide +kernel
theorem dX10_heard_24 : decode cX10_heard 24 = .ok (.i2l, 1) := by decide +kernel
theorem dX10_heard_25 : decode cX10_heard 25 = .ok (.invokestatic 144, 3) := by decide +kernel
theorem dX10_heard_28 : decode cX10_heard 28 = .ok (.ifCond .ne 7, 3) := by decide +kernel
theorem dX10_heard_31 : decode cX10_heard 31 = .ok (.ldc_w 343, 3) := by decide +kernel
theorem dX10_heard_34 : decode cX10_heard 34 = .ok (.ireturn, 1) := by decide +kernel
theorem dX10_heard_35 : decode cX10_heard 35 = .ok (.iconst 0, 1) := by decide +kernel
theorem dX10_heard_36 : decode cX10_heard 36 = .ok (.istore_n 3, 1) := by decide +kernel
theorem dX10_heard_37 : decode cX10_heard 37 = .ok (.iconst 0, 1) := by decide +kernel
theorem dX10_heard_38 : decode cX10_heard 38 = .ok (.istore 4, 2) := by decide +kernel
theorem dX10_heard_40 : decode cX10_heard 40 = .ok (.iload 4, 2) := by decide +kernel
theorem dX10_heard_42 : decode cX10_heard 42 = .ok (.iload_n 1, 1) := by decide +kernel
theorem dX10_heard_43 : decode cX10_heard 43 = .ok (.if_icmp .gt 59, 3) := by decide +kernel
theorem dX10_heard_46 : decode cX10_heard 46 = .ok (.aload_n 0, 1) := by decide +kernel
theorem dX10_heard_47 : decode cX10_heard 47 = .ok (.iload 4, 2) := by decide +kernel
theorem dX10_heard_49 : decode cX10_heard 49 = .ok (.iload_n 2, 1) := by decide +kernel
theorem dX10_heard_50 : decode cX10_heard 50 = .ok (.invokevirtual 344, 3) := by decide +kernel
theorem dX10_heard_53 : decode cX10_heard 53 = .ok (.ifCond .eq 13, 3) := by decide +kernel
theorem dX10_heard_56 : decode cX10_heard 56 = .ok (.aload_n 0, 1) := by decide +kernel
theorem dX10_heard_57 : decode cX10_heard 57 = .ok (.iload 4, 2) := by decide +kernel
theorem dX10_heard_59 : decode cX10_heard 59 = .ok (.iload_n 2, 1) := by decide +kernel
theorem dX10_heard_60 : decode cX10_heard 60 = .ok (.invokevirtual 348, 3) := by decide +kernel
theorem dX10_heard_63 : decode cX10_heard 63 = .ok (.goto 32, 3) := by decide +kernel
theorem dX10_heard_66 : decode cX10_heard 66 = .ok (.aload_n 0, 1) := by decide +kernel
theorem dX10_heard_67 : decode cX10_heard 67 = .ok (.iload 4, 2) := by decide +kernel
theorem dX10_heard_69 : decode cX10_heard 69 = .ok (.iconst 1, 1) := by decide +kernel
theorem dX10_heard_70 : decode cX10_heard 70 = .ok (.iadd, 1) := by decide +kernel
theorem dX10_heard_71 : decode cX10_heard 71 = .ok (.iload_n 2, 1) := by decide +kernel
theorem dX10_heard_72 : decode cX10_heard 72 = .ok (.invokevirtual 344, 3) := by decide +kernel
theorem dX10_heard_75 : decode cX10_heard 75 = .ok (.ifCond .eq 19, 3) := by decide +kernel
theorem dX10_heard_78 : decode cX10_heard 78 = .ok (.iload_n 3, 1) := by decide +kernel
theorem dX10_heard_79 : decode cX10_heard 79 = .ok (.aload_n 0, 1) := by decide +kernel
theorem dX10_heard_80 : decode cX10_heard 80 = .ok (.iload 4, 2) := by decide +kernel
theorem dX10_heard_82 : decode cX10_heard 82 = .ok (.iconst 1, 1) := by decide +kernel
theorem dX10_heard_83 : decode cX10_heard 83 = .ok (.iadd, 1) := by decide +kernel
theorem dX10_heard_84 : decode cX10_heard 84 = .ok (.iload_n 2, 1) := by decide +kernel
theorem dX10_heard_85 : decode cX10_heard 85 = .ok (.invokevirtual 348, 3) := by decide +kernel
theorem dX10_heard_88 : decode cX10_heard 88 = .ok (.iadd, 1) := by decide +kernel
theorem dX10_heard_89 : decode cX10_heard 89 = .ok (.iconst 1, 1) := by decide +kernel
theorem dX10_heard_90 : decode cX10_heard 90 = .ok (.ishr, 1) := by decide +kernel
theorem dX10_heard_91 : decode cX10_heard 91 = .ok (.goto 4, 3) := by decide +kernel
theorem dX10_heard_94 : decode cX10_heard 94 = .ok (.iload_n 3, 1) := by decide +kernel
theorem dX10_heard_95 : decode cX10_heard 95 = .ok (.istore_n 3, 1) := by decide +kernel
theorem dX10_heard_96 : decode cX10_heard 96 = .ok (.iinc 4 1, 3) := by decide +kernel
theorem dX10_heard_99 : decode cX10_heard 99 = .ok (.goto (-59), 3) := by decide +kernel
theorem dX10_heard_102 : decode cX10_heard 102 = .ok (.iload_n 3, 1) := by decide +kernel
theorem dX10_heard_103 : decode cX10_heard 103 = .ok (.ireturn, 1) := by decide +kernel
theorem dX10_inner_0 : decode cX10_inner 0 = .ok (.aload_n 0, 1) := by decide +kernel
theorem dX10_inner_1 : decode cX10_inner 1 = .ok (.iconst 0, 1) := by decide +kernel
theorem dX10_inner_2 : decode cX10_inner 2 = .ok (.putfield 100, 3) := by decide +kernel
theorem dX10_inner_5 : decode cX10_inner 5 = .ok (.aload_n 0, 1) := by decide +kernel
theorem dX10_inner_6 : decode cX10_inner 6 = .ok (.getfield 250, 3) := by decide +kernel
theorem dX10_inner_9 : decode cX10_inner 9 = .ok (.ifCond .eq 28, 3) := by decide +kernel
theorem dX10_inner_12 : decode cX10_inner 12 = .ok (.iload_n 1, 1) := by decide +kernel
theorem dX10_inner_13 : decode cX10_inner 13 = .ok (.i2l, 1) := by decide +kernel
theorem dX10_inner_14 : decode cX10_inner 14 = .ok (.lconst 0, 1) := by decide +kernel
theorem dX10_inner_15 : decode cX10_inner 15 = .ok (.aload_n 0, 1) := by decide +kernel
theorem dX10_inner_16 : decode cX10_inner 16 = .ok (.getfield 296, 3) := by decide +kernel
theorem dX10_inner_19 : decode cX10_inner 19 = .ok (.iconst 1, 1) := by decide +kernel
theorem dX10_inner_20 : decode cX10_inner 20 = .ok (.isub, 1) := by decide +kernel
theorem dX10_inner_21 : decode cX10_inner 21 = .ok (.i2l, 1) := by decide +kernel
theorem dX10_inner_22 : decode cX10_inner 22 = .ok (.invokestatic 144, 3) := by decide +kernel
theorem dX10_inner_25 : decode cX10_inner 25 = .ok (.ifCond .eq 12, 3) := by decide +kernel
theorem dX10_inner_28 : decode cX10_inner 28 = .ok (.aload_n 0, 1) := by decide +kernel
theorem dX10_inner_29 : decode cX10_inner 29 = .ok (.getfield 70, 3) := by decide +kernel
theorem dX10_inner_32 : decode cX10_inner 32 = .ok (.iload_n 1, 1) := by decide +kernel
theorem dX10_inner_33 : decode cX10_inner 33 = .ok (.iaload, 1) := by decide +kernel
theorem dX10_inner_34 : decode cX10_inner 34 = .ok (.goto 4, 3) := by decide +kernel
theorem dX10_inner_37 : decode cX10_inner 37 = .ok (.iconst (-1), 1) := by decide +kernel
theorem dX10_inner_38 : decode cX10_inner 38 = .ok (.ireturn, 1) := by decide +kernel
theorem dX10_outer_0 : decode cX10_outer 0 = .ok (.aload_n 0, 1) := by decide +kernel
theorem dX10_outer_1 : decode cX10_outer 1 = .ok (.iconst 0, 1) := by decide +kernel
theorem dX10_outer_2 : decode cX10_outer 2 = .ok (.putfield 100, 3) := by decide +kernel
theorem dX10_outer_5 : decode cX10_outer 5 = .ok (.aload_n 0, 1) := by decide +kernel
theorem dX10_outer_6 : decode cX10_outer 6 = .ok (.getfield 250, 3) := by decide +kernel
theorem dX10_outer_9 : decode cX10_outer 9 = .ok (.ifCond .eq 28, 3) := by decide +kernel
theorem dX10_outer_12 : decode cX10_outer 12 = .ok (.iload_n 1, 1) := by decide +kernel
theorem dX10_outer_13 : decode cX10_outer 13 = .ok (.i2l, 1) := by decide +kernel
theorem dX10_outer_14 : decode cX10_outer 14 = .ok (.lconst 0, 1) := by decide +kernel
theorem dX10_outer_15 : decode cX10_outer 15 = .ok (.aload_n 0, 1) := by decide +kernel
theorem dX10_outer_16 : decode cX10_outer 16 = .ok (.getfield 296, 3) := by decide +kernel
theorem dX10_outer_19 : decode cX10_outer 19 = .ok (.iconst 1, 1) := by decide +kernel
theorem dX10_outer_20 : decode cX10_outer 20 = .ok (.isub, 1) := by decide +kernel
theorem dX10_outer_21 : decode cX10_outer 21 = .ok (.i2l, 1) := by decide +kernel
theorem dX10_outer_22 : decode cX10_outer 22 = .ok (.invokestatic 144, 3) := by decide +kernel
theorem dX10_outer_25 : decode cX10_outer 25 = .ok (.ifCond .eq 12, 3) := by decide +kernel
theorem dX10_outer_28 : decode cX10_outer 28 = .ok (.aload_n 0, 1) := by decide +kernel
theorem dX10_outer_29 : decode cX10_outer 29 = .ok (.getfield 79, 3) := by decide +kernel
theorem dX10_outer_32 : decode cX10_outer 32 = .ok (.iload_n 1, 1) := by decide +kernel
theorem dX10_outer_33 : decode cX10_outer 33 = .ok (.iaload, 1) := by decide +kernel
theorem dX10_outer_34 : decode cX10_outer 34 = .ok (.goto 4, 3) := by decide +kernel
theorem dX10_outer_37 : decode cX10_outer 37 = .ok (.iconst (-1), 1) := by decide +kernel
theorem dX10_outer_38 : decode cX10_outer 38 = .ok (.ireturn, 1) := by decide +kernel
theorem dX10_hidden_0 : decode cX10_hidden 0 = .ok (.iconst 0, 1) := by decide +kernel
theorem dX10_hidden_1 : decode cX10_hidden 1 = .ok (.istore_n 1, 1) := by decide +kernel
theorem dX10_hidden_2 : decode cX10_hidden 2 = .ok (.iconst 0, 1) := by decide +kernel
theorem dX10_hidden_3 : decode cX10_hidden 3 = .ok (.istore_n 2, 1) := by decide +kernel
theorem dX10_hidden_4 : decode cX10_hidden 4 = .ok (.iload_n 2, 1) := by decide +kernel
theorem dX10_hidden_5 : decode cX10_hidden 5 = .ok (.bipush 6, 2) := by decide +kernel
theorem dX10_hidden_7 : decode cX10_hidden 7 = .ok (.aload_n 0, 1) := by decide +kernel
theorem dX10_hidden_8 : decode cX10_hidden 8 = .ok (.getfield 169, 3) := by decide +kernel
theorem dX10_hidden_11 : decode cX10_hidden 11 = .ok (.imul, 1) := by decide +kernel
theorem dX10_hidden_12 : decode cX10_hidden 12 = .ok (.if_icmp .ge 41, 3) := by decide +kernel
theorem dX10_hidden_15 : decode cX10_hidden 15 = .ok (.iload_n 1, 1) := by decide +kernel
theorem dX10_hidden_16 : decode cX10_hidden 16 = .ok (.aload_n 0, 1) := by decide +kernel
theorem dX10_hidden_17 : decode cX10_hidden 17 = .ok (.iload_n 2, 1) := by decide +kernel
theorem dX10_hidden_18 : decode cX10_hidden 18 = .ok (.iconst 0, 1) := by decide +kernel
theorem dX10_hidden_19 : decode cX10_hidden 19 = .ok (.invokevirtual 344, 3) := by decide +kernel
theorem dX10_hidden_22 : decode cX10_hidden 22 = .ok (.ifCond .eq 7, 3) := by decide +kernel
theorem dX10_hidden_25 : decode cX10_hidden 25 = .ok (.iconst 0, 1) := by decide +kernel
theorem dX10_hidden_26 : decode cX10_hidden 26 = .ok (.goto 4, 3) := by decide +kernel
theorem dX10_hidden_29 : decode cX10_hidden 29 = .ok (.iconst 1, 1) := by decide +kernel
theorem dX10_hidden_30 : decode cX10_hidden 30 = .ok (.aload_n 0, 1) := by decide +kernel
theorem dX10_hidden_31 : decode cX10_hidden 31 = .ok (.iload_n 2, 1) := by decide +kernel
theorem dX10_hidden_32 : decode cX10_hidden 32 = .ok (.iconst 1, 1) := by decide +kernel
theorem dX10_hidden_33 : decode cX10_hidden 33 = .ok (.invokevirtual 344, 3) := by decide +kernel
theorem dX10_hidden_36 : decode cX10_hidden 36 = .ok (.ifCond .eq 7, 3) := by decide +kernel
theorem dX10_hidden_39 : decode cX10_hidden 39 = .ok (.iconst 0, 1) := by decide +kernel
theorem dX10_hidden_40 : decode cX10_hidden 40 = .ok (.goto 4, 3) := by decide +kernel
theorem dX10_hidden_43 : decode cX10_hidden 43 = .ok (.iconst 1, 1) := by decide +kernel
theorem dX10_hidden_44 : decode cX10_hidden 44 = .ok (.iadd, 1) := by decide +kernel
theorem dX10_hidden_45 : decode cX10_hidden 45 = .ok (.iadd, 1) := by decide +kernel
theorem dX10_hidden_46 : decode cX10_hidden 46 = .ok (.istore_n 1, 1) := by decide +kernel
theorem dX10_hidden_47 : decode cX10_hidden 47 = .ok (.iinc 2 1, 3) := by decide +kernel
theorem dX10_hidden_50 : decode cX10_hidden 50 = .ok (.goto (-46), 3) := by decide +kernel
theorem dX10_hidden_53 : decode cX10_hidden 53 = .ok (.iload_n 1, 1) := by decide +kernel
theorem dX10_hidden_54 : decode cX10_hidden 54 = .ok (.ireturn, 1) := by decide +kernel
theorem dX10_beginsSection_0 : decode cX10_beginsSection 0 = .ok (.iload_n 1, 1) := by decide +kernel
theorem dX10_beginsSection_1 : decode cX10_beginsSection 1 = .ok (.iconst 1, 1) := by decide +kernel
theorem dX10_beginsSection_2 : decode cX10_beginsSection 2 = .ok (.iadd, 1) := by decide +kernel
theorem dX10_beginsSection_3 : decode cX10_beginsSection 3 = .ok (.aload_n 0, 1) := by decide +kernel
theorem dX10_beginsSection_4 : decode cX10_beginsSection 4 = .ok (.getfield 296, 3) := by decide +kernel
theorem dX10_beginsSection_7 : decode cX10_beginsSection 7 = .ok (.if_icmp .ge 32, 3) := by decide +kernel
theorem dX10_beginsSection_10 : decode cX10_beginsSection 10 = .ok (.aload_n 0, 1) := by decide +kernel
theorem dX10_beginsSection_11 : decode cX10_beginsSection 11 = .ok (.getfield 85, 3) := by decide +kernel
theorem dX10_beginsSection_14 : decode cX10_beginsSection 14 = .ok (.iload_n 1, 1) := by decide +kernel
theorem dX10_beginsSection_15 : decode cX10_beginsSection 15 = .ok (.iaload, 1) := by decide +kernel
theorem dX10_beginsSection_16 : decode cX10_beginsSection 16 = .ok (.sipush 2049, 3) := by decide +kernel
theorem dX10_beginsSection_19 : decode cX10_beginsSection 19 = .ok (.if_icmp .ne 20, 3) := by decide +kernel
theorem dX10_beginsSection_22 : decode cX10_beginsSection 22 = .ok (.aload_n 0, 1) := by decide +kernel
theorem dX10_beginsSection_23 : decode cX10_beginsSection 23 = .ok (.getfield 85, 3) := by decide +kernel
theorem dX10_beginsSection_26 : decode cX10_beginsSection 26 = .ok (.iload_n 1, 1) := by decide +kernel
theorem dX10_beginsSection_27 : decode cX10_beginsSection 27 = .ok (.iconst 1, 1) := by decide +kernel
theorem dX10_beginsSection_28 : decode cX10_beginsSection 28 = .ok (.iadd, 1) := by decide +kernel
theorem dX10_beginsSection_29 : decode cX10_beginsSection 29 = .ok (.iaload, 1) := by decide +kernel
theorem dX10_beginsSection_30 : decode cX10_beginsSection 30 = .ok (.bipush 18, 2) := by decide +kernel
theorem dX10_beginsSection_32 : decode cX10_beginsSection 32 = .ok (.if_icmp .ne 7, 3) := by decide +kernel
theorem dX10_beginsSection_35 : decode cX10_beginsSection 35 = .ok (.iconst 1, 1) := by decide +kernel
theorem dX10_beginsSection_36 : decode cX10_beginsSection 36 = .ok (.goto 4, 3) := by decide +kernel
theorem dX10_beginsSection_39 : decode cX10_beginsSection 39 = .ok (.iconst 0, 1) := by decide +kernel
theorem dX10_beginsSection_40 : decode cX10_beginsSection 40 = .ok (.ireturn, 1) := by decide +kernel
theorem dX10_sections_0 : decode cX10_sections 0 = .ok (.iconst 0, 1) := by decide +kernel
theorem dX10_sections_1 : decode cX10_sections 1 = .ok (.istore_n 1, 1) := by decide +kernel
theorem dX10_sections_2 : decode cX10_sections 2 = .ok (.iconst 0, 1) := by decide +kernel
theorem dX10_sections_3 : decode cX10_sections 3 = .ok (.istore_n 2, 1) := by decide +kernel
theorem dX10_sections_4 : decode cX10_sections 4 = .ok (.iload_n 2, 1) := by decide +kernel
theorem dX10_sections_5 : decode cX10_sections 5 = .ok (.aload_n 0, 1) := by decide +kernel
theorem dX10_sections_6 : decode cX10_sections 6 = .ok (.getfield 296, 3) := by decide +kernel
theorem dX10_sections_9 : decode cX10_sections 9 = .ok (.if_icmp .ge 25, 3) := by decide +kernel
theorem dX10_sections_12 : decode cX10_sections 12 = .ok (.iload_n 1, 1) := by decide +kernel
theorem dX10_sections_13 : decode cX10_sections 13 = .ok (.aload_n 0, 1) := by decide +kernel
theorem dX10_sections_14 : decode cX10_sections 14 = .ok (.iload_n 2, 1) := by decide +kernel
theorem dX10_sections_15 : decode cX10_sections 15 = .ok (.invokevirtual 351, 3) := by decide +kernel
theorem dX10_sections_18 : decode cX10_sections 18 = .ok (.ifCond .eq 7, 3) := by decide +kernel
theorem dX10_sections_21 : decode cX10_sections 21 = .ok (.iconst 1, 1) := by decide +kernel
theorem dX10_sections_22 : decode cX10_sections 22 = .ok (.goto 4, 3) := by decide +kernel
theorem dX10_sections_25 : decode cX10_sections 25 = .ok (.iconst 0, 1) := by decide +kernel
theorem dX10_sections_26 : decode cX10_sections 26 = .ok (.iadd, 1) := by decide +kernel
theorem dX10_sections_27 : decode cX10_sections 27 = .ok (.istore_n 1, 1) := by decide +kernel
theorem dX10_sections_28 : decode cX10_sections 28 = .ok (.iinc 2 1, 3) := by decide +kernel
theorem dX10_sections_31 : decode cX10_sections 31 = .ok (.goto (-27), 3) := by decide +kernel
theorem dX10_sections_34 : decode cX10_sections 34 = .ok (.iload_n 1, 1) := by decide +kernel
theorem dX10_sections_35 : decode cX10_sections 35 = .ok (.ireturn, 1) := by decide +kernel
theorem dX10_told_0 : decode cX10_told 0 = .ok (.aload_n 0, 1) := by decide +kernel
theorem dX10_told_1 : decode cX10_told 1 = .ok (.iconst 0, 1) := by decide +kernel
theorem dX10_told_2 : decode cX10_told 2 = .ok (.putfield 100, 3) := by decide +kernel
theorem dX10_told_5 : decode cX10_told 5 = .ok (.aload_n 0, 1) := by decide +kernel
theorem dX10_told_6 : decode cX10_told 6 = .ok (.getfield 250, 3) := by decide +kernel
theorem dX10_told_9 : decode cX10_told 9 = .ok (.ifCond .ne 5, 3) := by decide +kernel
theorem dX10_told_12 : decode cX10_told 12 = .ok (.iconst (-1), 1) := by decide +kernel
theorem dX10_told_13 : decode cX10_told 13 = .ok (.ireturn, 1) := by decide +kernel
theorem dX10_told_14 : decode cX10_told 14 = .ok (.iload_n 1, 1) := by decide +kernel
theorem dX10_told_15 : decode cX10_told 15 = .ok (.tableswitch 85 0 7 #[45, 50, 55, 60, 65, 70, 75, 80], 45) := by decide +kernel
theorem dX10_told_60 : decode cX10_told 60 = .ok (.aload_n 0, 1) := by decide +kernel
theorem dX10_told_61 : decode cX10_told 61 = .ok (.getfield 321, 3) := by decide +kernel
theorem dX10_told_64 : decode cX10_told 64 = .ok (.ireturn, 1) := by decide +kernel
theorem dX10_told_65 : decode cX10_told 65 = .ok (.aload_n 0, 1) := by decide +kernel
theorem dX10_told_66 : decode cX10_told 66 = .ok (.getfield 305, 3) := by decide +kernel
theorem dX10_told_69 : decode cX10_told 69 = .ok (.ireturn, 1) := by decide +kernel
theorem dX10_told_70 : decode cX10_told 70 = .ok (.aload_n 0, 1) := by decide +kernel
theorem dX10_told_71 : decode cX10_told 71 = .ok (.getfield 311, 3) := by decide +kernel
theorem dX10_told_74 : decode cX10_told 74 = .ok (.ireturn, 1) := by decide +kernel
theorem dX10_told_75 : decode cX10_told 75 = .ok (.aload_n 0, 1) := by decide +kernel
theorem dX10_told_76 : decode cX10_told 76 = .ok (.getfield 314, 3) := by decide +kernel
theorem dX10_told_79 : decode cX10_told 79 = .ok (.ireturn, 1) := by decide +kernel
theorem dX10_told_80 : decode cX10_told 80 = .ok (.aload_n 0, 1) := by decide +kernel
theorem dX10_told_81 : decode cX10_told 81 = .ok (.invokevirtual 354, 3) := by decide +kernel
theorem dX10_told_84 : decode cX10_told 84 = .ok (.ireturn, 1) := by decide +kernel
theorem dX10_told_85 : decode cX10_told 85 = .ok (.aload_n 0, 1) := by decide +kernel
theorem dX10_told_86 : decode cX10_told 86 = .ok (.getfield 308, 3) := by decide +kernel
theorem dX10_told_89 : decode cX10_told 89 = .ok (.ireturn, 1) := by decide +kernel
theorem dX10_told_90 : decode cX10_told 90 = .ok (.aload_n 0, 1) := by decide +kernel
theorem dX10_told_91 : decode cX10_told 91 = .ok (.getfield 296, 3) := by decide +kernel
theorem dX10_told_94 : decode cX10_told 94 = .ok (.ireturn, 1) := by decide +kernel
theorem dX10_told_95 : decode cX10_told 95 = .ok (.aload_n 0, 1) := by decide +kernel
theorem dX10_told_96 : decode cX10_told 96 = .ok (.invokevirtual 358, 3) := by decide +kernel
theorem dX10_told_99 : decode cX10_told 99 = .ok (.ireturn, 1) := by decide +kernel
theorem dX10_told_100 : decode cX10_told 100 = .ok (.iconst (-1), 1) := by decide +kernel
theorem dX10_told_101 : decode cX10_told 101 = .ok (.ireturn, 1) := by decide +kernel
theorem dX10_sectionAt_0 : decode cX10_sectionAt 0 = .ok (.iconst 0, 1) := by decide +kernel
theorem dX10_sectionAt_1 : decode cX10_sectionAt 1 = .ok (.istore_n 2, 1) := by decide +kernel
theorem dX10_sectionAt_2 : decode cX10_sectionAt 2 = .ok (.iconst 0, 1) := by decide +kernel
theorem dX10_sectionAt_3 : decode cX10_sectionAt 3 = .ok (.istore_n 3, 1) := by decide +kernel
theorem dX10_sectionAt_4 : decode cX10_sectionAt 4 = .ok (.iload_n 3, 1) := by decide +kernel
theorem dX10_sectionAt_5 : decode cX10_sectionAt 5 = .ok (.aload_n 0, 1) := by decide +kernel
theorem dX10_sectionAt_6 : decode cX10_sectionAt 6 = .ok (.getfield 296, 3) := by decide +kernel
theorem dX10_sectionAt_9 : decode cX10_sectionAt 9 = .ok (.if_icmp .ge 30, 3) := by decide +kernel
theorem dX10_sectionAt_12 : decode cX10_sectionAt 12 = .ok (.aload_n 0, 1) := by decide +kernel
theorem dX10_sectionAt_13 : decode cX10_sectionAt 13 = .ok (.iload_n 3, 1) := by decide +kernel
theorem dX10_sectionAt_14 : decode cX10_sectionAt 14 = .ok (.invokevirtual 351, 3) := by decide +kernel
theorem dX10_sectionAt_17 : decode cX10_sectionAt 17 = .ok (.ifCond .ne 6, 3) := by decide +kernel
theorem dX10_sectionAt_20 : decode cX10_sectionAt 20 = .ok (.goto 13, 3) := by decide +kernel
theorem dX10_sectionAt_23 : decode cX10_sectionAt 23 = .ok (.iload_n 2, 1) := by decide +kernel
theorem dX10_sectionAt_24 : decode cX10_sectionAt 24 = .ok (.iload_n 1, 1) := by decide +kernel
theorem dX10_sectionAt_25 : decode cX10_sectionAt 25 = .ok (.if_icmp .ne 5, 3) := by decide +kernel
theorem dX10_sectionAt_28 : decode cX10_sectionAt 28 = .ok (.iload_n 3, 1) := by decide +kernel
theorem dX10_sectionAt_29 : decode cX10_sectionAt 29 = .ok (.ireturn, 1) := by decide +kernel
theorem dX10_sectionAt_30 : decode cX10_sectionAt 30 = .ok (.iinc 2 1, 3) := by decide +kernel
theorem dX10_sectionAt_33 : decode cX10_sectionAt 33 = .ok (.iinc 3 1, 3) := by decide +kernel
theorem dX10_sectionAt_36 : decode cX10_sectionAt 36 = .ok (.goto (-32), 3) := by decide +kernel
theorem dX10_sectionAt_39 : decode cX10_sectionAt 39 = .ok (.iconst (-1), 1) := by decide +kernel
theorem dX10_sectionAt_40 : decode cX10_sectionAt 40 = .ok (.ireturn, 1) := by decide +kernel
theorem dX10_channelBits_0 : decode cX10_channelBits 0 = .ok (.iconst 0, 1) := by decide +kernel
theorem dX10_channelBits_1 : decode cX10_channelBits 1 = .ok (.istore_n 3, 1) := by decide +kernel
theorem dX10_channelBits_2 : decode cX10_channelBits 2 = .ok (.iconst 0, 1) := by decide +kernel
theorem dX10_channelBits_3 : decode cX10_channelBits 3 = .ok (.istore 4, 2) := by decide +kernel
theorem dX10_channelBits_5 : decode cX10_channelBits 5 = .ok (.iload 4, 2) := by decide +kernel
theorem dX10_channelBits_7 : decode cX10_channelBits 7 = .ok (.iload_n 2, 1) := by decide +kernel
theorem dX10_channelBits_8 : decode cX10_channelBits 8 = .ok (.if_icmp .ge 23, 3) := by decide +kernel
theorem dX10_channelBits_11 : decode cX10_channelBits 11 = .ok (.iload_n 3, 1) := by decide +kernel
theorem dX10_channelBits_12 : decode cX10_channelBits 12 = .ok (.iconst 1, 1) := by decide +kernel
theorem dX10_channelBits_13 : decode cX10_channelBits 13 = .ok (.ishl, 1) := by decide +kernel
theorem dX10_channelBits_14 : decode cX10_channelBits 14 = .ok (.aload_n 0, 1) := by decide +kernel
theorem dX10_channelBits_15 : decode cX10_channelBits 15 = .ok (.getfield 42, 3) := by decide +kernel
theorem dX10_channelBits_18 : decode cX10_channelBits 18 = .ok (.iload_n 1, 1) := by decide +kernel
theorem dX10_channelBits_19 : decode cX10_channelBits 19 = .ok (.iload 4, 2) := by decide +kernel
theorem dX10_channelBits_21 : decode cX10_channelBits 21 = .ok (.iadd, 1) := by decide +kernel
theorem dX10_channelBits_22 : decode cX10_channelBits 22 = .ok (.iaload, 1) := by decide +kernel
theorem dX10_channelBits_23 : decode cX10_channelBits 23 = .ok (.ior, 1) := by decide +kernel
theorem dX10_channelBits_24 : decode cX10_channelBits 24 = .ok (.istore_n 3, 1) := by decide +kernel
theorem dX10_channelBits_25 : decode cX10_channelBits 25 = .ok (.iinc 4 1, 3) := by decide +kernel
theorem dX10_channelBits_28 : decode cX10_channelBits 28 = .ok (.goto (-23), 3) := by decide +kernel
theorem dX10_channelBits_31 : decode cX10_channelBits 31 = .ok (.iload_n 3, 1) := by decide +kernel
theorem dX10_channelBits_32 : decode cX10_channelBits 32 = .ok (.ireturn, 1) := by decide +kernel
theorem dX10_twoFigures_0 : decode cX10_twoFigures 0 = .ok (.bipush 10, 2) := by decide +kernel
theorem dX10_twoFigures_2 : decode cX10_twoFigures 2 = .ok (.aload_n 0, 1) := by decide +kernel
theorem dX10_twoFigures_3 : decode cX10_twoFigures 3 = .ok (.iload_n 1, 1) := by decide +kernel
theorem dX10_twoFigures_4 : decode cX10_twoFigures 4 = .ok (.iconst 4, 1) := by decide +kernel
theorem dX10_twoFigures_5 : decode cX10_twoFigures 5 = .ok (.invokevirtual 361, 3) := by decide +kernel
theorem dX10_twoFigures_8 : decode cX10_twoFigures 8 = .ok (.imul, 1) := by decide +kernel
theorem dX10_twoFigures_9 : decode cX10_twoFigures 9 = .ok (.aload_n 0, 1) := by decide +kernel
theorem dX10_twoFigures_10 : decode cX10_twoFigures 10 = .ok (.iload_n 1, 1) := by decide +kernel
theorem dX10_twoFigures_11 : decode cX10_twoFigures 11 = .ok (.iconst 4, 1) := by decide +kernel
theorem dX10_twoFigures_12 : decode cX10_twoFigures 12 = .ok (.iadd, 1) := by decide +kernel
theorem dX10_twoFigures_13 : decode cX10_twoFigures 13 = .ok (.iconst 4, 1) := by decide +kernel
theorem dX10_twoFigures_14 : decode cX10_twoFigures 14 = .ok (.invokevirtual 361, 3) := by decide +kernel
theorem dX10_twoFigures_17 : decode cX10_twoFigures 17 = .ok (.iadd, 1) := by decide +kernel
theorem dX10_twoFigures_18 : decode cX10_twoFigures 18 = .ok (.ireturn, 1) := by decide +kernel
theorem dX10_clockOf_0 : decode cX10_clockOf 0 = .ok (.sipush 4500, 3) := by decide +kernel
theorem dX10_clockOf_3 : decode cX10_clockOf 3 = .ok (.aload_n 0, 1) := by decide +kernel
theorem dX10_clockOf_4 : decode cX10_clockOf 4 = .ok (.iload_n 1, 1) := by decide +kernel
theorem dX10_clockOf_5 : decode cX10_clockOf 5 = .ok (.invokevirtual 364, 3) := by decide +kernel
theorem dX10_clockOf_8 : decode cX10_clockOf 8 = .ok (.imul, 1) := by decide +kernel
theorem dX10_clockOf_9 : decode cX10_clockOf 9 = .ok (.bipush 75, 2) := by decide +kernel
theorem dX10_clockOf_11 : decode cX10_clockOf 11 = .ok (.aload_n 0, 1) := by decide +kernel
theorem dX10_clockOf_12 : decode cX10_clockOf 12 = .ok (.iload_n 1, 1) := by decide +kernel
theorem dX10_clockOf_13 : decode cX10_clockOf 13 = .ok (.bipush 8, 2) := by decide +kernel
theorem dX10_clockOf_15 : decode cX10_clockOf 15 = .ok (.iadd, 1) := by decide +kernel
theorem dX10_clockOf_16 : decode cX10_clockOf 16 = .ok (.invokevirtual 364, 3) := by decide +kernel
theorem dX10_clockOf_19 : decode cX10_clockOf 19 = .ok (.imul, 1) := by decide +kernel
theorem dX10_clockOf_20 : decode cX10_clockOf 20 = .ok (.iadd, 1) := by decide +kernel
theorem dX10_clockOf_21 : decode cX10_clockOf 21 = .ok (.aload_n 0, 1) := by decide +kernel
theorem dX10_clockOf_22 : decode cX10_clockOf 22 = .ok (.iload_n 1, 1) := by decide +kernel
theorem dX10_clockOf_23 : decode cX10_clockOf 23 = .ok (.bipush 16, 2) := by decide +kernel
theorem dX10_clockOf_25 : decode cX10_clockOf 25 = .ok (.iadd, 1) := by decide +kernel
theorem dX10_clockOf_26 : decode cX10_clockOf 26 = .ok (.invokevirtual 364, 3) := by decide +kernel
theorem dX10_clockOf_29 : decode cX10_clockOf 29 = .ok (.iadd, 1) := by decide +kernel
theorem dX10_clockOf_30 : decode cX10_clockOf 30 = .ok (.ireturn, 1) := by decide +kernel
theorem dX10_isClock_0 : decode cX10_isClock 0 = .ok (.aload_n 0, 1) := by decide +kernel
theorem dX10_isClock_1 : decode cX10_isClock 1 = .ok (.iload_n 1, 1) := by decide +kernel
theorem dX10_isClock_2 : decode cX10_isClock 2 = .ok (.bipush 8, 2) := by decide +kernel
theorem dX10_isClock_4 : decode cX10_isClock 4 = .ok (.iadd, 1) := by decide +kernel
theorem dX10_isClock_5 : decode cX10_isClock 5 = .ok (.invokevirtual 364, 3) := by decide +kernel
theorem dX10_isClock_8 : decode cX10_isClock 8 = .ok (.bipush 60, 2) := by decide +kernel
theorem dX10_isClock_10 : decode cX10_isClock 10 = .ok (.if_icmp .ge 20, 3) := by decide +kernel
theorem dX10_isClock_13 : decode cX10_isClock 13 = .ok (.aload_n 0, 1) := by decide +kernel
theorem dX10_isClock_14 : decode cX10_isClock 14 = .ok (.iload_n 1, 1) := by decide +kernel
theorem dX10_isClock_15 : decode cX10_isClock 15 = .ok (.bipush 16, 2) := by decide +kernel
theorem dX10_isClock_17 : decode cX10_isClock 17 = .ok (.iadd, 1) := by decide +kernel
theorem dX10_isClock_18 : decode cX10_isClock 18 = .ok (.invokevirtual 364, 3) := by decide +kernel
theorem dX10_isClock_21 : decode cX10_isClock 21 = .ok (.bipush 75, 2) := by decide +kernel
theorem dX10_isClock_23 : decode cX10_isClock 23 = .ok (.if_icmp .ge 7, 3) := by decide +kernel
theorem dX10_isClock_26 : decode cX10_isClock 26 = .ok (.iconst 1, 1) := by decide +kernel
theorem dX10_isClock_27 : decode cX10_isClock 27 = .ok (.goto 4, 3) := by decide +kernel
theorem dX10_isClock_30 : decode cX10_isClock 30 = .ok (.iconst 0, 1) := by decide +kernel
theorem dX10_isClock_31 : decode cX10_isClock 31 = .ok (.ireturn, 1) := by decide +kernel
theorem dX10_isSound_0 : decode cX10_isSound 0 = .ok (.iload_n 1, 1) := by decide +kernel
theorem dX10_isSound_1 : decode cX10_isSound 1 = .ok (.bipush 97, 2) := by decide +kernel
theorem dX10_isSound_3 : decode cX10_isSound 3 = .ok (.iadd, 1) := by decide +kernel
theorem dX10_isSound_4 : decode cX10_isSound 4 = .ok (.aload_n 0, 1) := by decide +kernel
theorem dX10_isSound_5 : decode cX10_isSound 5 = .ok (.getfield 296, 3) := by decide +kernel
theorem dX10_isSound_8 : decode cX10_isSound 8 = .ok (.if_icmp .ge 7, 3) := by decide +kernel
theorem dX10_isSound_11 : decode cX10_isSound 11 = .ok (.iconst 1, 1) := by decide +kernel
theorem dX10_isSound_12 : decode cX10_isSound 12 = .ok (.goto 4, 3) := by decide +kernel
theorem dX10_isSound_15 : decode cX10_isSound 15 = .ok (.iconst 0, 1) := by decide +kernel
theorem dX10_isSound_16 : decode cX10_isSound 16 = .ok (.istore_n 2, 1) := by decide +kernel
theorem dX10_isSound_17 : decode cX10_isSound 17 = .ok (.iconst 2, 1) := by decide +kernel
theorem dX10_isSound_18 : decode cX10_isSound 18 = .ok (.istore_n 3, 1) := by decide +kernel
theorem dX10_isSound_19 : decode cX10_isSound 19 = .ok (.iload_n 3, 1) := by decide +kernel
theorem dX10_isSound_20 : decode cX10_isSound 20 = .ok (.bipush 98, 2) := by decide +kernel
theorem dX10_isSound_22 : decode cX10_isSound 22 = .ok (.if_icmp .ge 54, 3) := by decide +kernel
theorem dX10_isSound_25 : decode cX10_isSound 25 = .ok (.iload_n 2, 1) := by decide +kernel
theorem dX10_isSound_26 : decode cX10_isSound 26 = .ok (.ifCond .eq 50, 3) := by decide +kernel
theorem dX10_isSound_29 : decode cX10_isSound 29 = .ok (.aload_n 0, 1) := by decide +kernel
theorem dX10_isSound_30 : decode cX10_isSound 30 = .ok (.getfield 13, 3) := by decide +kernel
theorem dX10_isSound_33 : decode cX10_isSound 33 = .ok (.aload_n 0, 1) := by decide +kernel
theorem dX10_isSound_34 : decode cX10_isSound 34 = .ok (.getfield 85, 3) := by decide +kernel
theorem dX10_isSound_37 : decode cX10_isSound 37 = .ok (.iload_n 1, 1) := by decide +kernel
theorem dX10_isSound_38 : decode cX10_isSound 38 = .ok (.iload_n 3, 1) := by decide +kernel
theorem dX10_isSound_39 : decode cX10_isSound 39 = .ok (.iadd, 1) := by decide +kernel
theorem dX10_isSound_40 : decode cX10_isSound 40 = .ok (.iaload, 1) := by decide +kernel
theorem dX10_isSound_41 : decode cX10_isSound 41 = .ok (.iaload, 1) := by decide +kernel
theorem dX10_isSound_42 : decode cX10_isSound 42 = .ok (.istore 4, 2) := by decide +kernel
theorem dX10_isSound_44 : decode cX10_isSound 44 = .ok (.iload 4, 2) := by decide +kernel
theorem dX10_isSound_46 : decode cX10_isSound 46 = .ok (.ifCond .lt 7, 3) := by decide +kernel
theorem dX10_isSound_49 : decode cX10_isSound 49 = .ok (.iconst 1, 1) := by decide +kernel
theorem dX10_isSound_50 : decode cX10_isSound 50 = .ok (.goto 4, 3) := by decide +kernel
theorem dX10_isSound_53 : decode cX10_isSound 53 = .ok (.iconst 0, 1) := by decide +kernel
theorem dX10_isSound_54 : decode cX10_isSound 54 = .ok (.istore_n 2, 1) := by decide +kernel
theorem dX10_isSound_55 : decode cX10_isSound 55 = .ok (.aload_n 0, 1) := by decide +kernel
theorem dX10_isSound_56 : decode cX10_isSound 56 = .ok (.getfield 42, 3) := by decide +kernel
theorem dX10_isSound_59 : decode cX10_isSound 59 = .ok (.iload_n 3, 1) := by decide +kernel
theorem dX10_isSound_60 : decode cX10_isSound 60 = .ok (.iconst 2, 1) := by decide +kernel
theorem dX10_isSound_61 : decode cX10_isSound 61 = .ok (.isub, 1) := by decide +kernel
theorem dX10_isSound_62 : decode cX10_isSound 62 = .ok (.iload 4, 2) := by decide +kernel
theorem dX10_isSound_64 : decode cX10_isSound 64 = .ok (.bipush 6, 2) := by decide +kernel
theorem dX10_isSound_66 : decode cX10_isSound 66 = .ok (.ishr, 1) := by decide +kernel
theorem dX10_isSound_67 : decode cX10_isSound 67 = .ok (.iconst 1, 1) := by decide +kernel
theorem dX10_isSound_68 : decode cX10_isSound 68 = .ok (.iand, 1) := by decide +kernel
theorem dX10_isSound_69 : decode cX10_isSound 69 = .ok (.iastore, 1) := by decide +kernel
theorem dX10_isSound_70 : decode cX10_isSound 70 = .ok (.iinc 3 1, 3) := by decide +kernel
theorem dX10_isSound_73 : decode cX10_isSound 73 = .ok (.goto (-54), 3) := by decide +kernel
theorem dX10_isSound_76 : decode cX10_isSound 76 = .ok (.iload_n 2, 1) := by decide +kernel
theorem dX10_isSound_77 : decode cX10_isSound 77 = .ok (.ifCond .ne 5, 3) := by decide +kernel
theorem dX10_isSound_80 : decode cX10_isSound 80 = .ok (.iconst 0, 1) := by decide +kernel
theorem dX10_isSound_81 : decode cX10_isSound 81 = .ok (.ireturn, 1) := by decide +kernel
theorem dX10_isSound_82 : decode cX10_isSound 82 = .ok (.iconst 0, 1) := by decide +kernel
theorem dX10_isSound_83 : decode cX10_isSound 83 = .ok (.istore_n 3, 1) := by decide +kernel
theorem dX10_isSound_84 : decode cX10_isSound 84 = .ok (.iconst 0, 1) := by decide +kernel
theorem dX10_isSound_85 : decode cX10_isSound 85 = .ok (.istore 4, 2) := by decide +kernel
theorem dX10_isSound_87 : decode cX10_isSound 87 = .ok (.iload 4, 2) := by decide +kernel
theorem dX10_isSound_89 : decode cX10_isSound 89 = .ok (.bipush 80, 2) := by decide +kernel
theorem dX10_isSound_91 : decode cX10_isSound 91 = .ok (.if_icmp .ge 21, 3) := by decide +kernel
theorem dX10_isSound_94 : decode cX10_isSound 94 = .ok (.iload_n 3, 1) := by decide +kernel
theorem dX10_isSound_95 : decode cX10_isSound 95 = .ok (.aload_n 0, 1) := by decide +kernel
theorem dX10_isSound_96 : decode cX10_isSound 96 = .ok (.getfield 42, 3) := by decide +kernel
theorem dX10_isSound_99 : decode cX10_isSound 99 = .ok (.iload 4, 2) := by decide +kernel
theorem dX10_isSound_101 : decode cX10_isSound 101 = .ok (.iaload, 1) := by decide +kernel
theorem dX10_isSound_102 : decode cX10_isSound 102 = .ok (.invokestatic 244, 3) := by decide +kernel
theorem dX10_isSound_105 : decode cX10_isSound 105 = .ok (.istore_n 3, 1) := by decide +kernel
theorem dX10_isSound_106 : decode cX10_isSound 106 = .ok (.iinc 4 1, 3) := by decide +kernel
theorem dX10_isSound_109 : decode cX10_isSound 109 = .ok (.goto (-22), 3) := by decide +kernel
theorem dX10_isSound_112 : decode cX10_isSound 112 = .ok (.aload_n 0, 1) := by decide +kernel
theorem dX10_isSound_113 : decode cX10_isSound 113 = .ok (.bipush 80, 2) := by decide +kernel
theorem dX10_isSound_115 : decode cX10_isSound 115 = .ok (.bipush 16, 2) := by decide +kernel
theorem dX10_isSound_117 : decode cX10_isSound 117 = .ok (.invokevirtual 361, 3) := by decide +kernel
theorem dX10_isSound_120 : decode cX10_isSound 120 = .ok (.ldc 237, 2) := by decide +kernel
theorem dX10_isSound_122 : decode cX10_isSound 122 = .ok (.ixor, 1) := by decide +kernel
theorem dX10_isSound_123 : decode cX10_isSound 123 = .ok (.iload_n 3, 1) := by decide +kernel
theorem dX10_isSound_124 : decode cX10_isSound 124 = .ok (.if_icmp .ne 17, 3) := by decide +kernel
theorem dX10_isSound_127 : decode cX10_isSound 127 = .ok (.aload_n 0, 1) := by decide +kernel
theorem dX10_isSound_128 : decode cX10_isSound 128 = .ok (.iconst 4, 1) := by decide +kernel
theorem dX10_isSound_129 : decode cX10_isSound 129 = .ok (.iconst 4, 1) := by decide +kernel
theorem dX10_isSound_130 : decode cX10_isSound 130 = .ok (.invokevirtual 361, 3) := by decide +kernel
theorem dX10_isSound_133 : decode cX10_isSound 133 = .ok (.iconst 1, 1) := by decide +kernel
theorem dX10_isSound_134 : decode cX10_isSound 134 = .ok (.if_icmp .ne 7, 3) := by decide +kernel
theorem dX10_isSound_137 : decode cX10_isSound 137 = .ok (.iconst 1, 1) := by decide +kernel
theorem dX10_isSound_138 : decode cX10_isSound 138 = .ok (.goto 4, 3) := by decide +kernel
theorem dX10_isSound_141 : decode cX10_isSound 141 = .ok (.iconst 0, 1) := by decide +kernel
theorem dX10_isSound_142 : decode cX10_isSound 142 = .ok (.istore_n 2, 1) := by decide +kernel
theorem dX10_isSound_143 : decode cX10_isSound 143 = .ok (.bipush 8, 2) := by decide +kernel
theorem dX10_isSound_145 : decode cX10_isSound 145 = .ok (.istore 4, 2) := by decide +kernel
theorem dX10_isSound_147 : decode cX10_isSound 147 = .ok (.iload 4, 2) := by decide +kernel
theorem dX10_isSound_149 : decode cX10_isSound 149 = .ok (.bipush 80, 2) := by decide +kernel
theorem dX10_isSound_151 : decode cX10_isSound 151 = .ok (.if_icmp .ge 45, 3) := by decide +kernel
theorem dX10_isSound_154 : decode cX10_isSound 154 = .ok (.iload_n 2, 1) := by decide +kernel
theorem dX10_isSound_155 : decode cX10_isSound 155 = .ok (.ifCond .eq 33, 3) := by decide +kernel
theorem dX10_isSound_158 : decode cX10_isSound 158 = .ok (.iload 4, 2) := by decide +kernel
theorem dX10_isSound_160 : decode cX10_isSound 160 = .ok (.bipush 48, 2) := by decide +kernel
theorem dX10_isSound_162 : decode cX10_isSound 162 = .ok (.if_icmp .eq 22, 3) := by decide +kernel
theorem dX10_isSound_165 : decode cX10_isSound 165 = .ok (.iload 4, 2) := by decide +kernel
theorem dX10_isSound_167 : decode cX10_isSound 167 = .ok (.bipush 52, 2) := by decide +kernel
theorem dX10_isSound_169 : decode cX10_isSound 169 = .ok (.if_icmp .eq 15, 3) := by decide +kernel
theorem dX10_isSound_172 : decode cX10_isSound 172 = .ok (.aload_n 0, 1) := by decide +kernel
theorem dX10_isSound_173 : decode cX10_isSound 173 = .ok (.iload 4, 2) := by decide +kernel
theorem dX10_isSound_175 : decode cX10_isSound 175 = .ok (.iconst 4, 1) := by decide +kernel
theorem dX10_isSound_176 : decode cX10_isSound 176 = .ok (.invokevirtual 361, 3) := by decide +kernel
theorem dX10_isSound_179 : decode cX10_isSound 179 = .ok (.bipush 10, 2) := by decide +kernel
theorem dX10_isSound_181 : decode cX10_isSound 181 = .ok (.if_icmp .ge 7, 3) := by decide +kernel
theorem dX10_isSound_184 : decode cX10_isSound 184 = .ok (.iconst 1, 1) := by decide +kernel
theorem dX10_isSound_185 : decode cX10_isSound 185 = .ok (.goto 4, 3) := by decide +kernel
theorem dX10_isSound_188 : decode cX10_isSound 188 = .ok (.iconst 0, 1) := by decide +kernel
theorem dX10_isSound_189 : decode cX10_isSound 189 = .ok (.istore_n 2, 1) := by decide +kernel
theorem dX10_isSound_190 : decode cX10_isSound 190 = .ok (.iinc 4 4, 3) := by decide +kernel
theorem dX10_isSound_193 : decode cX10_isSound 193 = .ok (.goto (-46), 3) := by decide +kernel
theorem dX10_isSound_196 : decode cX10_isSound 196 = .ok (.iload_n 2, 1) := by decide +kernel
theorem dX10_isSound_197 : decode cX10_isSound 197 = .ok (.ifCond .eq 25, 3) := by decide +kernel
theorem dX10_isSound_200 : decode cX10_isSound 200 = .ok (.aload_n 0, 1) := by decide +kernel
theorem dX10_isSound_201 : decode cX10_isSound 201 = .ok (.bipush 24, 2) := by decide +kernel
theorem dX10_isSound_203 : decode cX10_isSound 203 = .ok (.invokevirtual 367, 3) := by decide +kernel
theorem dX10_isSound_206 : decode cX10_isSound 206 = .ok (.ifCond .eq 16, 3) := by decide +kernel
theorem dX10_isSound_209 : decode cX10_isSound 209 = .ok (.aload_n 0, 1) := by decide +kernel
theorem dX10_isSound_210 : decode cX10_isSound 210 = .ok (.bipush 56, 2) := by decide +kernel
theorem dX10_isSound_212 : decode cX10_isSound 212 = .ok (.invokevirtual 367, 3) := by decide +kernel
theorem dX10_isSound_215 : decode cX10_isSound 215 = .ok (.ifCond .eq 7, 3) := by decide +kernel
theorem dX10_isSound_218 : decode cX10_isSound 218 = .ok (.iconst 1, 1) := by decide +kernel
theorem dX10_isSound_219 : decode cX10_isSound 219 = .ok (.goto 4, 3) := by decide +kernel
theorem dX10_isSound_222 : decode cX10_isSound 222 = .ok (.iconst 0, 1) := by decide +kernel
theorem dX10_isSound_223 : decode cX10_isSound 223 = .ok (.ireturn, 1) := by decide +kernel
theorem dX10_q_0 : decode cX10_q 0 = .ok (.aload_n 0, 1) := by decide +kernel
theorem dX10_q_1 : decode cX10_q 1 = .ok (.iconst 0, 1) := by decide +kernel
theorem dX10_q_2 : decode cX10_q 2 = .ok (.putfield 100, 3) := by decide +kernel
theorem dX10_q_5 : decode cX10_q 5 = .ok (.aload_n 0, 1) := by decide +kernel
theorem dX10_q_6 : decode cX10_q 6 = .ok (.getfield 250, 3) := by decide +kernel
theorem dX10_q_9 : decode cX10_q 9 = .ok (.ifCond .eq 7, 3) := by decide +kernel
theorem dX10_q_12 : decode cX10_q 12 = .ok (.iload_n 1, 1) := by decide +kernel
theorem dX10_q_13 : decode cX10_q 13 = .ok (.ifCond .ge 5, 3) := by decide +kernel
theorem dX10_q_16 : decode cX10_q 16 = .ok (.iconst (-1), 1) := by decide +kernel
theorem dX10_q_17 : decode cX10_q 17 = .ok (.ireturn, 1) := by decide +kernel
theorem dX10_q_18 : decode cX10_q 18 = .ok (.aload_n 0, 1) := by decide +kernel
theorem dX10_q_19 : decode cX10_q 19 = .ok (.iload_n 1, 1) := by decide +kernel
theorem dX10_q_20 : decode cX10_q 20 = .ok (.invokevirtual 370, 3) := by decide +kernel
theorem dX10_q_23 : decode cX10_q 23 = .ok (.istore_n 3, 1) := by decide +kernel
theorem dX10_q_24 : decode cX10_q 24 = .ok (.iload_n 3, 1) := by decide +kernel
theorem dX10_q_25 : decode cX10_q 25 = .ok (.ifCond .lt 15, 3) := by decide +kernel
theorem dX10_q_28 : decode cX10_q 28 = .ok (.iload_n 2, 1) := by decide +kernel
theorem dX10_q_29 : decode cX10_q 29 = .ok (.i2l, 1) := by decide +kernel
theorem dX10_q_30 : decode cX10_q 30 = .ok (.lconst 0, 1) := by decide +kernel
theorem dX10_q_31 : decode cX10_q 31 = .ok (.ldc2_w 373, 3) := by decide +kernel
theorem dX10_q_34 : decode cX10_q 34 = .ok (.invokestatic 144, 3) := by decide +kernel
theorem dX10_q_37 : decode cX10_q 37 = .ok (.ifCond .ne 5, 3) := by decide +kernel
theorem dX10_q_40 : decode cX10_q 40 = .ok (.iconst (-1), 1) := by decide +kernel
theorem dX10_q_41 : decode cX10_q 41 = .ok (.ireturn, 1) := by decide +kernel
theorem dX10_q_42 : decode cX10_q 42 = .ok (.aload_n 0, 1) := by decide +kernel
theorem dX10_q_43 : decode cX10_q 43 = .ok (.iload_n 3, 1) := by decide +kernel
theorem dX10_q_44 : decode cX10_q 44 = .ok (.invokevirtual 375, 3) := by decide +kernel
theorem dX10_q_47 : decode cX10_q 47 = .ok (.istore 4, 2) := by decide +kernel
theorem dX10_q_49 : decode cX10_q 49 = .ok (.iload_n 2, 1) := by decide +kernel
theorem dX10_q_50 : decode cX10_q 50 = .ok (.ifCond .ne 14, 3) := by decide +kernel
theorem dX10_q_53 : decode cX10_q 53 = .ok (.iload 4, 2) := by decide +kernel
theorem dX10_q_55 : decode cX10_q 55 = .ok (.ifCond .eq 7, 3) := by decide +kernel
theorem dX10_q_58 : decode cX10_q 58 = .ok (.iconst 1, 1) := by decide +kernel
theorem dX10_q_59 : decode cX10_q 59 = .ok (.goto 4, 3) := by decide +kernel
theorem dX10_q_62 : decode cX10_q 62 = .ok (.iconst 0, 1) := by decide +kernel
theorem dX10_q_63 : decode cX10_q 63 = .ok (.ireturn, 1) := by decide +kernel
theorem dX10_q_64 : decode cX10_q 64 = .ok (.iload 4, 2) := by decide +kernel
theorem dX10_q_66 : decode cX10_q 66 = .ok (.ifCond .ne 5, 3) := by decide +kernel
theorem dX10_q_69 : decode cX10_q 69 = .ok (.iconst (-1), 1) := by decide +kernel
theorem dX10_q_70 : decode cX10_q 70 = .ok (.ireturn, 1) := by decide +kernel
theorem dX10_q_71 : decode cX10_q 71 = .ok (.iconst 0, 1) := by decide +kernel
theorem dX10_q_72 : decode cX10_q 72 = .ok (.istore 5, 2) := by decide +kernel
theorem dX10_q_74 : decode cX10_q 74 = .ok (.iconst 2, 1) := by decide +kernel
theorem dX10_q_75 : decode cX10_q 75 = .ok (.istore 6, 2) := by decide +kernel
theorem dX10_q_77 : decode cX10_q 77 = .ok (.iload 6, 2) := by decide +kernel
theorem dX10_q_79 : decode cX10_q 79 = .ok (.bipush 98, 2) := by decide +kernel
theorem dX10_q_81 : decode cX10_q 81 = .ok (.if_icmp .ge 33, 3) := by decide +kernel
theorem dX10_q_84 : decode cX10_q 84 = .ok (.iload 5, 2) := by decide +kernel
theorem dX10_q_86 : decode cX10_q 86 = .ok (.aload_n 0, 1) := by decide +kernel
theorem dX10_q_87 : decode cX10_q 87 = .ok (.getfield 13, 3) := by decide +kernel
theorem dX10_q_90 : decode cX10_q 90 = .ok (.aload_n 0, 1) := by decide +kernel
theorem dX10_q_91 : decode cX10_q 91 = .ok (.getfield 85, 3) := by decide +kernel
theorem dX10_q_94 : decode cX10_q 94 = .ok (.iload_n 3, 1) := by decide +kernel
theorem dX10_q_95 : decode cX10_q 95 = .ok (.iload 6, 2) := by decide +kernel
theorem dX10_q_97 : decode cX10_q 97 = .ok (.iadd, 1) := by decide +kernel
theorem dX10_q_98 : decode cX10_q 98 = .ok (.iaload, 1) := by decide +kernel
theorem dX10_q_99 : decode cX10_q 99 = .ok (.iaload, 1) := by decide +kernel
theorem dX10_q_100 : decode cX10_q 100 = .ok (.bipush 7, 2) := by decide +kernel
theorem dX10_q_102 : decode cX10_q 102 = .ok (.ishr, 1) := by decide +kernel
theorem dX10_q_103 : decode cX10_q 103 = .ok (.iconst 1, 1) := by decide +kernel
theorem dX10_q_104 : decode cX10_q 104 = .ok (.iand, 1) := by decide +kernel
theorem dX10_q_105 : decode cX10_q 105 = .ok (.iadd, 1) := by decide +kernel
theorem dX10_q_106 : decode cX10_q 106 = .ok (.istore 5, 2) := by decide +kernel
theorem dX10_q_108 : decode cX10_q 108 = .ok (.iinc 6 1, 3) := by decide +kernel
theorem dX10_q_111 : decode cX10_q 111 = .ok (.goto (-34), 3) := by decide +kernel
theorem dX10_q_114 : decode cX10_q 114 = .ok (.iload_n 2, 1) := by decide +kernel
theorem dX10_q_115 : decode cX10_q 115 = .ok (.iconst 1, 1) := by decide +kernel
theorem dX10_q_116 : decode cX10_q 116 = .ok (.if_icmp .ne 12, 3) := by decide +kernel
theorem dX10_q_119 : decode cX10_q 119 = .ok (.aload_n 0, 1) := by decide +kernel
theorem dX10_q_120 : decode cX10_q 120 = .ok (.iconst 0, 1) := by decide +kernel
theorem dX10_q_121 : decode cX10_q 121 = .ok (.iconst 4, 1) := by decide +kernel
theorem dX10_q_122 : decode cX10_q 122 = .ok (.invokevirtual 361, 3) := by decide +kernel
theorem dX10_q_125 : decode cX10_q 125 = .ok (.goto 61, 3) := by decide +kernel
theorem dX10_q_128 : decode cX10_q 128 = .ok (.iload_n 2, 1) := by decide +kernel
theorem dX10_q_129 : decode cX10_q 129 = .ok (.iconst 2, 1) := by decide +kernel
theorem dX10_q_130 : decode cX10_q 130 = .ok (.if_icmp .ne 12, 3) := by decide +kernel
theorem dX10_q_133 : decode cX10_q 133 = .ok (.aload_n 0, 1) := by decide +kernel
theorem dX10_q_134 : decode cX10_q 134 = .ok (.bipush 8, 2) := by decide +kernel
theorem dX10_q_136 : decode cX10_q 136 = .ok (.invokevirtual 364, 3) := by decide +kernel
theorem dX10_q_139 : decode cX10_q 139 = .ok (.goto 47, 3) := by decide +kernel
theorem dX10_q_142 : decode cX10_q 142 = .ok (.iload_n 2, 1) := by decide +kernel
theorem dX10_q_143 : decode cX10_q 143 = .ok (.iconst 3, 1) := by decide +kernel
theorem dX10_q_144 : decode cX10_q 144 = .ok (.if_icmp .ne 12, 3) := by decide +kernel
theorem dX10_q_147 : decode cX10_q 147 = .ok (.aload_n 0, 1) := by decide +kernel
theorem dX10_q_148 : decode cX10_q 148 = .ok (.bipush 16, 2) := by decide +kernel
theorem dX10_q_150 : decode cX10_q 150 = .ok (.invokevirtual 364, 3) := by decide +kernel
theorem dX10_q_153 : decode cX10_q 153 = .ok (.goto 33, 3) := by decide +kernel
theorem dX10_q_156 : decode cX10_q 156 = .ok (.iload_n 2, 1) := by decide +kernel
theorem dX10_q_157 : decode cX10_q 157 = .ok (.iconst 4, 1) := by decide +kernel
theorem dX10_q_158 : decode cX10_q 158 = .ok (.if_icmp .ne 12, 3) := by decide +kernel
theorem dX10_q_161 : decode cX10_q 161 = .ok (.aload_n 0, 1) := by decide +kernel
theorem dX10_q_162 : decode cX10_q 162 = .ok (.bipush 24, 2) := by decide +kernel
theorem dX10_q_164 : decode cX10_q 164 = .ok (.invokevirtual 378, 3) := by decide +kernel
theorem dX10_q_167 : decode cX10_q 167 = .ok (.goto 19, 3) := by decide +kernel
theorem dX10_q_170 : decode cX10_q 170 = .ok (.iload_n 2, 1) := by decide +kernel
theorem dX10_q_171 : decode cX10_q 171 = .ok (.iconst 5, 1) := by decide +kernel
theorem dX10_q_172 : decode cX10_q 172 = .ok (.if_icmp .ne 12, 3) := by decide +kernel
theorem dX10_q_175 : decode cX10_q 175 = .ok (.aload_n 0, 1) := by decide +kernel
theorem dX10_q_176 : decode cX10_q 176 = .ok (.bipush 56, 2) := by decide +kernel
theorem dX10_q_178 : decode cX10_q 178 = .ok (.invokevirtual 378, 3) := by decide +kernel
theorem dX10_q_181 : decode cX10_q 181 = .ok (.goto 5, 3) := by decide +kernel
theorem dX10_q_184 : decode cX10_q 184 = .ok (.iload 5, 2) := by decide +kernel
theorem dX10_q_186 : decode cX10_q 186 = .ok (.ireturn, 1) := by decide +kernel
theorem dX10_burst_0 : decode cX10_burst 0 = .ok (.aload_n 0, 1) := by decide +kernel
theorem dX10_burst_1 : decode cX10_burst 1 = .ok (.iconst 0, 1) := by decide +kernel
theorem dX10_burst_2 : decode cX10_burst 2 = .ok (.putfield 100, 3) := by decide +kernel
theorem dX10_burst_5 : decode cX10_burst 5 = .ok (.iload_n 1, 1) := by decide +kernel
theorem dX10_burst_6 : decode cX10_burst 6 = .ok (.i2l, 1) := by decide +kernel
theorem dX10_burst_7 : decode cX10_burst 7 = .ok (.lconst 1, 1) := by decide +kernel
theorem dX10_burst_8 : decode cX10_burst 8 = .ok (.ldc2_w 381, 3) := by decide +kernel
theorem dX10_burst_11 : decode cX10_burst 11 = .ok (.invokestatic 144, 3) := by decide +kernel
theorem dX10_burst_14 : decode cX10_burst 14 = .ok (.ifCond .ne 5, 3) := by decide +kernel
theorem dX10_burst_17 : decode cX10_burst 17 = .ok (.iconst (-1), 1) := by decide +kernel
theorem dX10_burst_18 : decode cX10_burst 18 = .ok (.ireturn, 1) := by decide +kernel
theorem dX10_burst_19 : decode cX10_burst 19 = .ok (.iconst 0, 1) := by decide +kernel
theorem dX10_burst_20 : decode cX10_burst 20 = .ok (.istore_n 2, 1) := by decide +kernel
theorem dX10_burst_21 : decode cX10_burst 21 = .ok (.sipush (-200), 3) := by decide +kernel
theorem dX10_burst_24 : decode cX10_burst 24 = .ok (.istore_n 3, 1) := by decide +kernel
theorem dX10_burst_25 : decode cX10_burst 25 = .ok (.iload_n 3, 1) := by decide +kernel
theorem dX10_burst_26 : decode cX10_burst 26 = .ok (.bipush 120, 2) := by decide +kernel
theorem dX10_burst_28 : decode cX10_burst 28 = .ok (.if_icmp .ge 91, 3) := by decide +kernel
theorem dX10_burst_31 : decode cX10_burst 31 = .ok (.iconst 0, 1) := by decide +kernel
theorem dX10_burst_32 : decode cX10_burst 32 = .ok (.istore 4, 2) := by decide +kernel
theorem dX10_burst_34 : decode cX10_burst 34 = .ok (.iconst 0, 1) := by decide +kernel
theorem dX10_burst_35 : decode cX10_burst 35 = .ok (.istore 5, 2) := by decide +kernel
theorem dX10_burst_37 : decode cX10_burst 37 = .ok (.iload 5, 2) := by decide +kernel
theorem dX10_burst_39 : decode cX10_burst 39 = .ok (.bipush 28, 2) := by decide +kernel
theorem dX10_burst_41 : decode cX10_burst 41 = .ok (.if_icmp .ge 59, 3) := by decide +kernel
theorem dX10_burst_44 : decode cX10_burst 44 = .ok (.iload 4, 2) := by decide +kernel
theorem dX10_burst_46 : decode cX10_burst 46 = .ok (.iconst 4, 1) := by decide +kernel
theorem dX10_burst_47 : decode cX10_burst 47 = .ok (.iload 5, 2) := by decide +kernel
theorem dX10_burst_49 : decode cX10_burst 49 = .ok (.imul, 1) := by decide +kernel
theorem dX10_burst_50 : decode cX10_burst 50 = .ok (.i2l, 1) := by decide +kernel
theorem dX10_burst_51 : decode cX10_burst 51 = .ok (.iload_n 3, 1) := by decide +kernel
theorem dX10_burst_52 : decode cX10_burst 52 = .ok (.i2l, 1) := by decide +kernel
theorem dX10_burst_53 : decode cX10_burst 53 = .ok (.iload_n 3, 1) := by decide +kernel
theorem dX10_burst_54 : decode cX10_burst 54 = .ok (.iload_n 1, 1) := by decide +kernel
theorem dX10_burst_55 : decode cX10_burst 55 = .ok (.iadd, 1) := by decide +kernel
theorem dX10_burst_56 : decode cX10_burst 56 = .ok (.iconst 1, 1) := by decide +kernel
theorem dX10_burst_57 : decode cX10_burst 57 = .ok (.isub, 1) := by decide +kernel
theorem dX10_burst_58 : decode cX10_burst 58 = .ok (.i2l, 1) := by decide +kernel
theorem dX10_burst_59 : decode cX10_burst 59 = .ok (.invokestatic 144, 3) := by decide +kernel
theorem dX10_burst_62 : decode cX10_burst 62 = .ok (.ifCond .ne 24, 3) := by decide +kernel
theorem dX10_burst_65 : decode cX10_burst 65 = .ok (.iconst 4, 1) := by decide +kernel
theorem dX10_burst_66 : decode cX10_burst 66 = .ok (.iload 5, 2) := by decide +kernel
theorem dX10_burst_68 : decode cX10_burst 68 = .ok (.imul, 1) := by decide +kernel
theorem dX10_burst_69 : decode cX10_burst 69 = .ok (.iconst 1, 1) := by decide +kernel
theorem dX10_burst_70 : decode cX10_burst 70 = .ok (.iadd, 1) := by decide +kernel
theorem dX10_burst_71 : decode cX10_burst 71 = .ok (.i2l, 1) := by decide +kernel
theorem dX10_burst_72 : decode cX10_burst 72 = .ok (.iload_n 3, 1) := by decide +kernel
theorem dX10_burst_73 : decode cX10_burst 73 = .ok (.i2l, 1) := by decide +kernel
theorem dX10_burst_74 : decode cX10_burst 74 = .ok (.iload_n 3, 1) := by decide +kernel
theorem dX10_burst_75 : decode cX10_burst 75 = .ok (.iload_n 1, 1) := by decide +kernel
theorem dX10_burst_76 : decode cX10_burst 76 = .ok (.iadd, 1) := by decide +kernel
theorem dX10_burst_77 : decode cX10_burst 77 = .ok (.iconst 1, 1) := by decide +kernel
theorem dX10_burst_78 : decode cX10_burst 78 = .ok (.isub, 1) := by decide +kernel
theorem dX10_burst_79 : decode cX10_burst 79 = .ok (.i2l, 1) := by decide +kernel
theorem dX10_burst_80 : decode cX10_burst 80 = .ok (.invokestatic 144, 3) := by decide +kernel
theorem dX10_burst_83 : decode cX10_burst 83 = .ok (.ifCond .eq 7, 3) := by decide +kernel
theorem dX10_burst_86 : decode cX10_burst 86 = .ok (.iconst 1, 1) := by decide +kernel
theorem dX10_burst_87 : decode cX10_burst 87 = .ok (.goto 4, 3) := by decide +kernel
theorem dX10_burst_90 : decode cX10_burst 90 = .ok (.iconst 0, 1) := by decide +kernel
theorem dX10_burst_91 : decode cX10_burst 91 = .ok (.iadd, 1) := by decide +kernel
theorem dX10_burst_92 : decode cX10_burst 92 = .ok (.istore 4, 2) := by decide +kernel
theorem dX10_burst_94 : decode cX10_burst 94 = .ok (.iinc 5 1, 3) := by decide +kernel
theorem dX10_burst_97 : decode cX10_burst 97 = .ok (.goto (-60), 3) := by decide +kernel
theorem dX10_burst_100 : decode cX10_burst 100 = .ok (.iload 4, 2) := by decide +kernel
theorem dX10_burst_102 : decode cX10_burst 102 = .ok (.iload_n 2, 1) := by decide +kernel
theorem dX10_burst_103 : decode cX10_burst 103 = .ok (.if_icmp .le 8, 3) := by decide +kernel
theorem dX10_burst_106 : decode cX10_burst 106 = .ok (.iload 4, 2) := by decide +kernel
theorem dX10_burst_108 : decode cX10_burst 108 = .ok (.goto 4, 3) := by decide +kernel
theorem dX10_burst_111 : decode cX10_burst 111 = .ok (.iload_n 2, 1) := by decide +kernel
theorem dX10_burst_112 : decode cX10_burst 112 = .ok (.istore_n 2, 1) := by decide +kernel
theorem dX10_burst_113 : decode cX10_burst 113 = .ok (.iinc 3 1, 3) := by decide +kernel
theorem dX10_burst_116 : decode cX10_burst 116 = .ok (.goto (-91), 3) := by decide +kernel
theorem dX10_burst_119 : decode cX10_burst 119 = .ok (.iload_n 2, 1) := by decide +kernel
theorem dX10_burst_120 : decode cX10_burst 120 = .ok (.ireturn, 1) := by decide +kernel
theorem dX10_spell_0 : decode cX10_spell 0 = .ok (.aload_n 0, 1) := by decide +kernel
theorem dX10_spell_1 : decode cX10_spell 1 = .ok (.iconst 0, 1) := by decide +kernel
theorem dX10_spell_2 : decode cX10_spell 2 = .ok (.putfield 100, 3) := by decide +kernel
theorem dX10_spell_5 : decode cX10_spell 5 = .ok (.iload_n 1, 1) := by decide +kernel
theorem dX10_spell_6 : decode cX10_spell 6 = .ok (.i2l, 1) := by decide +kernel
theorem dX10_spell_7 : decode cX10_spell 7 = .ok (.lconst 0, 1) := by decide +kernel
theorem dX10_spell_8 : decode cX10_spell 8 = .ok (.ldc2_w 383, 3) := by decide +kernel
theorem dX10_spell_11 : decode cX10_spell 11 = .ok (.invokestatic 144, 3) := by decide +kernel
theorem dX10_spell_14 : decode cX10_spell 14 = .ok (.ifCond .eq 12, 3) := by decide +kernel
theorem dX10_spell_17 : decode cX10_spell 17 = .ok (.aload_n 0, 1) := by decide +kernel
theorem dX10_spell_18 : decode cX10_spell 18 = .ok (.getfield 7, 3) := by decide +kernel
theorem dX10_spell_21 : decode cX10_spell 21 = .ok (.iload_n 1, 1) := by decide +kernel
theorem dX10_spell_22 : decode cX10_spell 22 = .ok (.iaload, 1) := by decide +kernel
theorem dX10_spell_23 : decode cX10_spell 23 = .ok (.goto 4, 3) := by decide +kernel
theorem dX10_spell_26 : decode cX10_spell 26 = .ok (.iconst (-1), 1) := by decide +kernel
theorem dX10_spell_27 : decode cX10_spell 27 = .ok (.ireturn, 1) := by decide +kernel
theorem dX10_read_0 : decode cX10_read 0 = .ok (.aload_n 0, 1) := by decide +kernel
theorem dX10_read_1 : decode cX10_read 1 = .ok (.iconst 0, 1) := by decide +kernel
theorem dX10_read_2 : decode cX10_read 2 = .ok (.putfield 100, 3) := by decide +kernel
theorem dX10_read_5 : decode cX10_read 5 = .ok (.iload_n 1, 1) := by decide +kernel
theorem dX10_read_6 : decode cX10_read 6 = .ok (.i2l, 1) := by decide +kernel
theorem dX10_read_7 : decode cX10_read 7 = .ok (.lconst 0, 1) := by decide +kernel
theorem dX10_read_8 : decode cX10_read 8 = .ok (.ldc2_w 385, 3) := by decide +kernel
theorem dX10_read_11 : decode cX10_read 11 = .ok (.invokestatic 144, 3) := by decide +kernel
theorem dX10_read_14 : decode cX10_read 14 = .ok (.ifCond .eq 12, 3) := by decide +kernel
theorem dX10_read_17 : decode cX10_read 17 = .ok (.aload_n 0, 1) := by decide +kernel
theorem dX10_read_18 : decode cX10_read 18 = .ok (.getfield 13, 3) := by decide +kernel
theorem dX10_read_21 : decode cX10_read 21 = .ok (.iload_n 1, 1) := by decide +kernel
theorem dX10_read_22 : decode cX10_read 22 = .ok (.iaload, 1) := by decide +kernel
theorem dX10_read_23 : decode cX10_read 23 = .ok (.goto 4, 3) := by decide +kernel
theorem dX10_read_26 : decode cX10_read 26 = .ok (.iconst (-1), 1) := by decide +kernel
theorem dX10_read_27 : decode cX10_read 27 = .ok (.ireturn, 1) := by decide +kernel
theorem dX10_put_0 : decode cX10_put 0 = .ok (.aload_n 0, 1) := by decide +kernel
theorem dX10_put_1 : decode cX10_put 1 = .ok (.iconst 0, 1) := by decide +kernel
theorem dX10_put_2 : decode cX10_put 2 = .ok (.putfield 100, 3) := by decide +kernel
theorem dX10_put_5 : decode cX10_put 5 = .ok (.iload_n 1, 1) := by decide +kernel
theorem dX10_put_6 : decode cX10_put 6 = .ok (.i2l, 1) := by decide +kernel
theorem dX10_put_7 : decode cX10_put 7 = .ok (.lconst 0, 1) := by decide +kernel
theorem dX10_put_8 : decode cX10_put 8 = .ok (.ldc2_w 387, 3) := by decide +kernel
theorem dX10_put_11 : decode cX10_put 11 = .ok (.invokestatic 144, 3) := by decide +kernel
theorem dX10_put_14 : decode cX10_put 14 = .ok (.ifCond .eq 15, 3) := by decide +kernel
theorem dX10_put_17 : decode cX10_put 17 = .ok (.iload_n 2, 1) := by decide +kernel
theorem dX10_put_18 : decode cX10_put 18 = .ok (.i2l, 1) := by decide +kernel
theorem dX10_put_19 : decode cX10_put 19 = .ok (.lconst 0, 1) := by decide +kernel
theorem dX10_put_20 : decode cX10_put 20 = .ok (.ldc2_w 383, 3) := by decide +kernel
theorem dX10_put_23 : decode cX10_put 23 = .ok (.invokestatic 144, 3) := by decide +kernel
theorem dX10_put_26 : decode cX10_put 26 = .ok (.ifCond .ne 5, 3) := by decide +kernel
theorem dX10_put_29 : decode cX10_put 29 = .ok (.iconst (-1), 1) := by decide +kernel
theorem dX10_put_30 : decode cX10_put 30 = .ok (.ireturn, 1) := by decide +kernel
theorem dX10_put_31 : decode cX10_put 31 = .ok (.aload_n 0, 1) := by decide +kernel
theorem dX10_put_32 : decode cX10_put 32 = .ok (.getfield 94, 3) := by decide +kernel
theorem dX10_put_35 : decode cX10_put 35 = .ok (.iload_n 1, 1) := by decide +kernel
theorem dX10_put_36 : decode cX10_put 36 = .ok (.iaload, 1) := by decide +kernel
theorem dX10_put_37 : decode cX10_put 37 = .ok (.istore_n 3, 1) := by decide +kernel
theorem dX10_put_38 : decode cX10_put 38 = .ok (.aload_n 0, 1) := by decide +kernel
theorem dX10_put_39 : decode cX10_put 39 = .ok (.getfield 94, 3) := by decide +kernel
theorem dX10_put_42 : decode cX10_put 42 = .ok (.iload_n 1, 1) := by decide +kernel
theorem dX10_put_43 : decode cX10_put 43 = .ok (.iload_n 2, 1) := by decide +kernel
theorem dX10_put_44 : decode cX10_put 44 = .ok (.iastore, 1) := by decide +kernel
theorem dX10_put_45 : decode cX10_put 45 = .ok (.aload_n 0, 1) := by decide +kernel
theorem dX10_put_46 : decode cX10_put 46 = .ok (.getfield 97, 3) := by decide +kernel
theorem dX10_put_49 : decode cX10_put 49 = .ok (.iload_n 1, 1) := by decide +kernel
theorem dX10_put_50 : decode cX10_put 50 = .ok (.iconst 0, 1) := by decide +kernel
theorem dX10_put_51 : decode cX10_put 51 = .ok (.bastore, 1) := by decide +kernel
theorem dX10_put_52 : decode cX10_put 52 = .ok (.iload_n 3, 1) := by decide +kernel
theorem dX10_put_53 : decode cX10_put 53 = .ok (.ireturn, 1) := by decide +kernel
theorem dX10_mark_0 : decode cX10_mark 0 = .ok (.aload_n 0, 1) := by decide +kernel
theorem dX10_mark_1 : decode cX10_mark 1 = .ok (.iconst 0, 1) := by decide +kernel
theorem dX10_mark_2 : decode cX10_mark 2 = .ok (.putfield 100, 3) := by decide +kernel
theorem dX10_mark_5 : decode cX10_mark 5 = .ok (.iload_n 1, 1) := by decide +kernel
theorem dX10_mark_6 : decode cX10_mark 6 = .ok (.i2l, 1) := by decide +kernel
theorem dX10_mark_7 : decode cX10_mark 7 = .ok (.lconst 0, 1) := by decide +kernel
theorem dX10_mark_8 : decode cX10_mark 8 = .ok (.ldc2_w 387, 3) := by decide +kernel
theorem dX10_mark_11 : decode cX10_mark 11 = .ok (.invokestatic 144, 3) := by decide +kernel
theorem dX10_mark_14 : decode cX10_mark 14 = .ok (.ifCond .ne 5, 3) := by decide +kernel
theorem dX10_mark_17 : decode cX10_mark 17 = .ok (.iconst 0, 1) := by decide +kernel
theorem dX10_mark_18 : decode cX10_mark 18 = .ok (.ireturn, 1) := by decide +kernel
theorem dX10_mark_19 : decode cX10_mark 19 = .ok (.aload_n 0, 1) := by decide +kernel
theorem dX10_mark_20 : decode cX10_mark 20 = .ok (.getfield 97, 3) := by decide +kernel
theorem dX10_mark_23 : decode cX10_mark 23 = .ok (.iload_n 1, 1) := by decide +kernel
theorem dX10_mark_24 : decode cX10_mark 24 = .ok (.baload, 1) := by decide +kernel
theorem dX10_mark_25 : decode cX10_mark 25 = .ok (.istore_n 3, 1) := by decide +kernel
theorem dX10_mark_26 : decode cX10_mark 26 = .ok (.aload_n 0, 1) := by decide +kernel
theorem dX10_mark_27 : decode cX10_mark 27 = .ok (.getfield 97, 3) := by decide +kernel
theorem dX10_mark_30 : decode cX10_mark 30 = .ok (.iload_n 1, 1) := by decide +kernel
theorem dX10_mark_31 : decode cX10_mark 31 = .ok (.iload_n 2, 1) := by decide +kernel
theorem dX10_mark_32 : decode cX10_mark 32 = .ok (.bastore, 1) := by decide +kernel
theorem dX10_mark_33 : decode cX10_mark 33 = .ok (.iload_n 3, 1) := by decide +kernel
theorem dX10_mark_34 : decode cX10_mark 34 = .ok (.ireturn, 1) := by decide +kernel
theorem dX10_at_0 : decode cX10_at 0 = .ok (.aload_n 0, 1) := by decide +kernel
theorem dX10_at_1 : decode cX10_at 1 = .ok (.iconst 0, 1) := by decide +kernel
theorem dX10_at_2 : decode cX10_at 2 = .ok (.putfield 100, 3) := by decide +kernel
theorem dX10_at_5 : decode cX10_at 5 = .ok (.iload_n 1, 1) := by decide +kernel
theorem dX10_at_6 : decode cX10_at 6 = .ok (.i2l, 1) := by decide +kernel
theorem dX10_at_7 : decode cX10_at 7 = .ok (.lconst 0, 1) := by decide +kernel
theorem dX10_at_8 : decode cX10_at 8 = .ok (.ldc2_w 387, 3) := by decide +kernel
theorem dX10_at_11 : decode cX10_at 11 = .ok (.invokestatic 144, 3) := by decide +kernel
theorem dX10_at_14 : decode cX10_at 14 = .ok (.ifCond .eq 12, 3) := by decide +kernel
theorem dX10_at_17 : decode cX10_at 17 = .ok (.aload_n 0, 1) := by decide +kernel
theorem dX10_at_18 : decode cX10_at 18 = .ok (.getfield 94, 3) := by decide +kernel
theorem dX10_at_21 : decode cX10_at 21 = .ok (.iload_n 1, 1) := by decide +kernel
theorem dX10_at_22 : decode cX10_at 22 = .ok (.iaload, 1) := by decide +kernel
theorem dX10_at_23 : decode cX10_at 23 = .ok (.goto 4, 3) := by decide +kernel
theorem dX10_at_26 : decode cX10_at 26 = .ok (.iconst (-1), 1) := by decide +kernel
theorem dX10_at_27 : decode cX10_at 27 = .ok (.ireturn, 1) := by decide +kernel
theorem dX10_toBench_0 : decode cX10_toBench 0 = .ok (.iconst 0, 1) := by decide +kernel
theorem dX10_toBench_1 : decode cX10_toBench 1 = .ok (.istore_n 2, 1) := by decide +kernel
theorem dX10_toBench_2 : decode cX10_toBench 2 = .ok (.iload_n 2, 1) := by decide +kernel
theorem dX10_toBench_3 : decode cX10_toBench 3 = .ok (.iload_n 1, 1) := by decide +kernel
theorem dX10_toBench_4 : decode cX10_toBench 4 = .ok (.if_icmp .ge 28, 3) := by decide +kernel
theorem dX10_toBench_7 : decode cX10_toBench 7 = .ok (.aload_n 0, 1) := by decide +kernel
theorem dX10_toBench_8 : decode cX10_toBench 8 = .ok (.getfield 94, 3) := by decide +kernel
theorem dX10_toBench_11 : decode cX10_toBench 11 = .ok (.iload_n 2, 1) := by decide +kernel
theorem dX10_toBench_12 : decode cX10_toBench 12 = .ok (.aload_n 0, 1) := by decide +kernel
theorem dX10_toBench_13 : decode cX10_toBench 13 = .ok (.getfield 45, 3) := by decide +kernel
theorem dX10_toBench_16 : decode cX10_toBench 16 = .ok (.iload_n 2, 1) := by decide +kernel
theorem dX10_toBench_17 : decode cX10_toBench 17 = .ok (.iaload, 1) := by decide +kernel
theorem dX10_toBench_18 : decode cX10_toBench 18 = .ok (.iastore, 1) := by decide +kernel
theorem dX10_toBench_19 : decode cX10_toBench 19 = .ok (.aload_n 0, 1) := by decide +kernel
theorem dX10_toBench_20 : decode cX10_toBench 20 = .ok (.getfield 97, 3) := by decide +kernel
theorem dX10_toBench_23 : decode cX10_toBench 23 = .ok (.iload_n 2, 1) := by decide +kernel
theorem dX10_toBench_24 : decode cX10_toBench 24 = .ok (.iconst 0, 1) := by decide +kernel
theorem dX10_toBench_25 : decode cX10_toBench 25 = .ok (.bastore, 1) := by decide +kernel
theorem dX10_toBench_26 : decode cX10_toBench 26 = .ok (.iinc 2 1, 3) := by decide +kernel
theorem dX10_toBench_29 : decode cX10_toBench 29 = .ok (.goto (-27), 3) := by decide +kernel
theorem dX10_toBench_32 : decode cX10_toBench 32 = .ok (.return_, 1) := by decide +kernel
theorem dX10_seal_0 : decode cX10_seal 0 = .ok (.aload_n 0, 1) := by decide +kernel
theorem dX10_seal_1 : decode cX10_seal 1 = .ok (.iconst 0, 1) := by decide +kernel
theorem dX10_seal_2 : decode cX10_seal 2 = .ok (.putfield 100, 3) := by decide +kernel
theorem dX10_seal_5 : decode cX10_seal 5 = .ok (.iconst 0, 1) := by decide +kernel
theorem dX10_seal_6 : decode cX10_seal 6 = .ok (.istore_n 2, 1) := by decide +kernel
theorem dX10_seal_7 : decode cX10_seal 7 = .ok (.iload_n 2, 1) := by decide +kernel
theorem dX10_seal_8 : decode cX10_seal 8 = .ok (.bipush 32, 2) := by decide +kernel
theorem dX10_seal_10 : decode cX10_seal 10 = .ok (.if_icmp .ge 21, 3) := by decide +kernel
theorem dX10_seal_13 : decode cX10_seal 13 = .ok (.aload_n 0, 1) := by decide +kernel
theorem dX10_seal_14 : decode cX10_seal 14 = .ok (.getfield 45, 3) := by decide +kernel
theorem dX10_seal_17 : decode cX10_seal 17 = .ok (.iload_n 2, 1) := by decide +kernel
theorem dX10_seal_18 : decode cX10_seal 18 = .ok (.aload_n 0, 1) := by decide +kernel
theorem dX10_seal_19 : decode cX10_seal 19 = .ok (.getfield 94, 3) := by decide +kernel
theorem dX10_seal_22 : decode cX10_seal 22 = .ok (.iload_n 2, 1) := by decide +kernel
theorem dX10_seal_23 : decode cX10_seal 23 = .ok (.iaload, 1) := by decide +kernel
theorem dX10_seal_24 : decode cX10_seal 24 = .ok (.iastore, 1) := by decide +kernel
theorem dX10_seal_25 : decode cX10_seal 25 = .ok (.iinc 2 1, 3) := by decide +kernel
theorem dX10_seal_28 : decode cX10_seal 28 = .ok (.goto (-21), 3) := by decide +kernel
theorem dX10_seal_31 : decode cX10_seal 31 = .ok (.aload_n 0, 1) := by decide +kernel
theorem dX10_seal_32 : decode cX10_seal 32 = .ok (.iload_n 1, 1) := by decide +kernel
theorem dX10_seal_33 : decode cX10_seal 33 = .ok (.invokevirtual 178, 3) := by decide +kernel
theorem dX10_seal_36 : decode cX10_seal 36 = .ok (.aload_n 0, 1) := by decide +kernel
theorem dX10_seal_37 : decode cX10_seal 37 = .ok (.iload_n 1, 1) := by decide +kernel
theorem dX10_seal_38 : decode cX10_seal 38 = .ok (.ifCond .eq 8, 3) := by decide +kernel
theorem dX10_seal_41 : decode cX10_seal 41 = .ok (.bipush 32, 2) := by decide +kernel
theorem dX10_seal_43 : decode cX10_seal 43 = .ok (.goto 5, 3) := by decide +kernel
theorem dX10_seal_46 : decode cX10_seal 46 = .ok (.bipush 28, 2) := by decide +kernel
theorem dX10_seal_48 : decode cX10_seal 48 = .ok (.invokevirtual 389, 3) := by decide +kernel
theorem dX10_seal_51 : decode cX10_seal 51 = .ok (.return_, 1) := by decide +kernel
theorem dX10_syndrome_0 : decode cX10_syndrome 0 = .ok (.aload_n 0, 1) := by decide +kernel
theorem dX10_syndrome_1 : decode cX10_syndrome 1 = .ok (.iconst 0, 1) := by decide +kernel
theorem dX10_syndrome_2 : decode cX10_syndrome 2 = .ok (.putfield 100, 3) := by decide +kernel
theorem dX10_syndrome_5 : decode cX10_syndrome 5 = .ok (.iload_n 2, 1) := by decide +kernel
theorem dX10_syndrome_6 : decode cX10_syndrome 6 = .ok (.i2l, 1) := by decide +kernel
theorem dX10_syndrome_7 : decode cX10_syndrome 7 = .ok (.lconst 0, 1) := by decide +kernel
theorem dX10_syndrome_8 : decode cX10_syndrome 8 = .ok (.ldc2_w 392, 3) := by decide +kernel
theorem dX10_syndrome_11 : decode cX10_syndrome 11 = .ok (.invokestatic 144, 3) := by decide +kernel
theorem dX10_syndrome_14 : decode cX10_syndrome 14 = .ok (.ifCond .ne 5, 3) := by decide +kernel
theorem dX10_syndrome_17 : decode cX10_syndrome 17 = .ok (.iconst (-1), 1) := by decide +kernel
theorem dX10_syndrome_18 : decode cX10_syndrome 18 = .ok (.ireturn, 1) := by decide +kernel
theorem dX10_syndrome_19 : decode cX10_syndrome 19 = .ok (.iconst 0, 1) := by decide +kernel
theorem dX10_syndrome_20 : decode cX10_syndrome 20 = .ok (.istore_n 3, 1) := by decide +kernel
theorem dX10_syndrome_21 : decode cX10_syndrome 21 = .ok (.iload_n 3, 1) := by decide +kernel
theorem dX10_syndrome_22 : decode cX10_syndrome 22 = .ok (.bipush 32, 2) := by decide +kernel
theorem dX10_syndrome_24 : decode cX10_syndrome 24 = .ok (.if_icmp .ge 21, 3) := by decide +kernel
theorem dX10_syndrome_27 : decode cX10_syndrome 27 = .ok (.aload_n 0, 1) := by decide +kernel
theorem dX10_syndrome_28 : decode cX10_syndrome 28 = .ok (.getfield 45, 3) := by decide +kernel
theorem dX10_syndrome_31 : decode cX10_syndrome 31 = .ok (.iload_n 3, 1) := by decide +kernel
theorem dX10_syndrome_32 : decode cX10_syndrome 32 = .ok (.aload_n 0, 1) := by decide +kernel
theorem dX10_syndrome_33 : decode cX10_syndrome 33 = .ok (.getfield 94, 3) := by decide +kernel
theorem dX10_syndrome_36 : decode cX10_syndrome 36 = .ok (.iload_n 3, 1) := by decide +kernel
theorem dX10_syndrome_37 : decode cX10_syndrome 37 = .ok (.iaload, 1) := by decide +kernel
theorem dX10_syndrome_38 : decode cX10_syndrome 38 = .ok (.iastore, 1) := by decide +kernel
theorem dX10_syndrome_39 : decode cX10_syndrome 39 = .ok (.iinc 3 1, 3) := by decide +kernel
theorem dX10_syndrome_42 : decode cX10_syndrome 42 = .ok (.goto (-21), 3) := by decide +kernel
theorem dX10_syndrome_45 : decode cX10_syndrome 45 = .ok (.aload_n 0, 1) := by decide +kernel
theorem dX10_syndrome_46 : decode cX10_syndrome 46 = .ok (.iload_n 1, 1) := by decide +kernel
theorem dX10_syndrome_47 : decode cX10_syndrome 47 = .ok (.ifCond .eq 8, 3) := by decide +kernel
theorem dX10_syndrome_50 : decode cX10_syndrome 50 = .ok (.bipush 32, 2) := by decide +kernel
theorem dX10_syndrome_52 : decode cX10_syndrome 52 = .ok (.goto 5, 3) := by decide +kernel
theorem dX10_syndrome_55 : decode cX10_syndrome 55 = .ok (.bipush 28, 2) := by decide +kernel
theorem dX10_syndrome_57 : decode cX10_syndrome 57 = .ok (.invokevirtual 120, 3) := by decide +kernel
theorem dX10_syndrome_60 : decode cX10_syndrome 60 = .ok (.aload_n 0, 1) := by decide +kernel
theorem dX10_syndrome_61 : decode cX10_syndrome 61 = .ok (.getfield 52, 3) := by decide +kernel
theorem dX10_syndrome_64 : decode cX10_syndrome 64 = .ok (.iload_n 2, 1) := by decide +kernel
theorem dX10_syndrome_65 : decode cX10_syndrome 65 = .ok (.iaload, 1) := by decide +kernel
theorem dX10_syndrome_66 : decode cX10_syndrome 66 = .ok (.ireturn, 1) := by decide +kernel
theorem dX10_mend_0 : decode cX10_mend 0 = .ok (.aload_n 0, 1) := by decide +kernel
theorem dX10_mend_1 : decode cX10_mend 1 = .ok (.iconst 0, 1) := by decide +kernel
theorem dX10_mend_2 : decode cX10_mend 2 = .ok (.putfield 100, 3) := by decide +kernel
theorem dX10_mend_5 : decode cX10_mend 5 = .ok (.iload_n 2, 1) := by decide +kernel
theorem dX10_mend_6 : decode cX10_mend 6 = .ok (.i2l, 1) := by decide +kernel
theorem dX10_mend_7 : decode cX10_mend 7 = .ok (.lconst 0, 1) := by decide +kernel
theorem dX10_mend_8 : decode cX10_mend 8 = .ok (.ldc2_w 317, 3) := by decide +kernel
theorem dX10_mend_11 : decode cX10_mend 11 = .ok (.invokestatic 144, 3) := by decide +kernel
theorem dX10_mend_14 : decode cX10_mend 14 = .ok (.ifCond .ne 5, 3) := by decide +kernel
theorem dX10_mend_17 : decode cX10_mend 17 = .ok (.iconst (-1), 1) := by decide +kernel
theorem dX10_mend_18 : decode cX10_mend 18 = .ok (.ireturn, 1) := by decide +kernel
theorem dX10_mend_19 : decode cX10_mend 19 = .ok (.iload_n 1, 1) := by decide +kernel
theorem dX10_mend_20 : decode cX10_mend 20 = .ok (.ifCond .eq 8, 3) := by decide +kernel
theorem dX10_mend_23 : decode cX10_mend 23 = .ok (.bipush 32, 2) := by decide +kernel
theorem dX10_mend_25 : decode cX10_mend 25 = .ok (.goto 5, 3) := by decide +kernel
theorem dX10_mend_28 : decode cX10_mend 28 = .ok (.bipush 28, 2) := by decide +kernel
theorem dX10_mend_30 : decode cX10_mend 30 = .ok (.istore_n 3, 1) := by decide +kernel
theorem dX10_mend_31 : decode cX10_mend 31 = .ok (.iconst 0, 1) := by decide +kernel
theorem dX10_mend_32 : decode cX10_mend 32 = .ok (.istore 4, 2) := by decide +kernel
theorem dX10_mend_34 : decode cX10_mend 34 = .ok (.iload 4, 2) := by decide +kernel
theorem dX10_mend_36 : decode cX10_mend 36 = .ok (.iload_n 3, 1) := by decide +kernel
theorem dX10_mend_37 : decode cX10_mend 37 = .ok (.if_icmp .ge 37, 3) := by decide +kernel
theorem dX10_mend_40 : decode cX10_mend 40 = .ok (.aload_n 0, 1) := by decide +kernel
theorem dX10_mend_41 : decode cX10_mend 41 = .ok (.getfield 45, 3) := by decide +kernel
theorem dX10_mend_44 : decode cX10_mend 44 = .ok (.iload 4, 2) := by decide +kernel
theorem dX10_mend_46 : decode cX10_mend 46 = .ok (.aload_n 0, 1) := by decide +kernel
theorem dX10_mend_47 : decode cX10_mend 47 = .ok (.getfield 94, 3) := by decide +kernel
theorem dX10_mend_50 : decode cX10_mend 50 = .ok (.iload 4, 2) := by decide +kernel
theorem dX10_mend_52 : decode cX10_mend 52 = .ok (.iaload, 1) := by decide +kernel
theorem dX10_mend_53 : decode cX10_mend 53 = .ok (.iastore, 1) := by decide +kernel
theorem dX10_mend_54 : decode cX10_mend 54 = .ok (.aload_n 0, 1) := by decide +kernel
theorem dX10_mend_55 : decode cX10_mend 55 = .ok (.getfield 48, 3) := by decide +kernel
theorem dX10_mend_58 : decode cX10_mend 58 = .ok (.iload 4, 2) := by decide +kernel
theorem dX10_mend_60 : decode cX10_mend 60 = .ok (.aload_n 0, 1) := by decide +kernel
theorem dX10_mend_61 : decode cX10_mend 61 = .ok (.getfield 97, 3) := by decide +kernel
theorem dX10_mend_64 : decode cX10_mend 64 = .ok (.iload 4, 2) := by decide +kernel
theorem dX10_mend_66 : decode cX10_mend 66 = .ok (.baload, 1) := by decide +kernel
theorem dX10_mend_67 : decode cX10_mend 67 = .ok (.bastore, 1) := by decide +kernel
theorem dX10_mend_68 : decode cX10_mend 68 = .ok (.iinc 4 1, 3) := by decide +kernel
theorem dX10_mend_71 : decode cX10_mend 71 = .ok (.goto (-37), 3) := by decide +kernel
theorem dX10_mend_74 : decode cX10_mend 74 = .ok (.aload_n 0, 1) := by decide +kernel
theorem dX10_mend_75 : decode cX10_mend 75 = .ok (.iload_n 3, 1) := by decide +kernel
theorem dX10_mend_76 : decode cX10_mend 76 = .ok (.iload_n 2, 1) := by decide +kernel
theorem dX10_mend_77 : decode cX10_mend 77 = .ok (.invokevirtual 139, 3) := by decide +kernel
theorem dX10_mend_80 : decode cX10_mend 80 = .ok (.istore 4, 2) := by decide +kernel
theorem dX10_mend_82 : decode cX10_mend 82 = .ok (.iload 4, 2) := by decide +kernel
theorem dX10_mend_84 : decode cX10_mend 84 = .ok (.ifCond .lt 8, 3) := by decide +kernel
theorem dX10_mend_87 : decode cX10_mend 87 = .ok (.aload_n 0, 1) := by decide +kernel
theorem dX10_mend_88 : decode cX10_mend 88 = .ok (.iload_n 3, 1) := by decide +kernel
theorem dX10_mend_89 : decode cX10_mend 89 = .ok (.invokevirtual 389, 3) := by decide +kernel
theorem dX10_mend_92 : decode cX10_mend 92 = .ok (.iload 4, 2) := by decide +kernel
theorem dX10_mend_94 : decode cX10_mend 94 = .ok (.ireturn, 1) := by decide +kernel
