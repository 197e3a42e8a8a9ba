theorem dJ6_bitCount_0f7a4_0 : decode cJ6_bitCount_0f7a4 0 = .ok (.iload_n 0, 1) := by decide +kernel
theorem dJ6_bitCount_0f7a4_1 : decode cJ6_bitCount_0f7a4 1 = .ok (.iload_n 0, 1) := by decide +kernel
theorem dJ6_bitCount_0f7a4_2 : decode cJ6_bitCount_0f7a4 2 = .ok (.iconst 1, 1) := by decide +kernel
theorem dJ6_bitCount_0f7a4_3 : decode cJ6_bitCount_0f7a4 3 = .ok (.iushr, 1) := by decide +kernel
theorem dJ6_bitCount_0f7a4_4 : decode cJ6_bitCount_0f7a4 4 = .ok (.ldc_w 265, 3) := by decide +kernel
theorem dJ6_bitCount_0f7a4_7 : decode cJ6_bitCount_0f7a4 7 = .ok (.iand, 1) := by decide +kernel
theorem dJ6_bitCount_0f7a4_8 : decode cJ6_bitCount_0f7a4 8 = .ok (.isub, 1) := by decide +kernel
theorem dJ6_bitCount_0f7a4_9 : decode cJ6_bitCount_0f7a4 9 = .ok (.istore_n 0, 1) := by decide +kernel
theorem dJ6_bitCount_0f7a4_10 : decode cJ6_bitCount_0f7a4 10 = .ok (.iload_n 0, 1) := by decide +kernel
theorem dJ6_bitCount_0f7a4_11 : decode cJ6_bitCount_0f7a4 11 = .ok (.ldc_w 266, 3) := by decide +kernel
theorem dJ6_bitCount_0f7a4_14 : decode cJ6_bitCount_0f7a4 14 = .ok (.iand, 1) := by decide +kernel
theorem dJ6_bitCount_0f7a4_15 : decode cJ6_bitCount_0f7a4 15 = .ok (.iload_n 0, 1) := by decide +kernel
theorem dJ6_bitCount_0f7a4_16 : decode cJ6_bitCount_0f7a4 16 = .ok (.iconst 2, 1) := by decide +kernel
theorem dJ6_bitCount_0f7a4_17 : decode cJ6_bitCount_0f7a4 17 = .ok (.iushr, 1) := by decide +kernel
theorem dJ6_bitCount_0f7a4_18 : decode cJ6_bitCount_0f7a4 18 = .ok (.ldc_w 266, 3) := by decide +kernel
theorem dJ6_bitCount_0f7a4_21 : decode cJ6_bitCount_0f7a4 21 = .ok (.iand, 1) := by decide +kernel
theorem dJ6_bitCount_0f7a4_22 : decode cJ6_bitCount_0f7a4 22 = .ok (.iadd, 1) := by decide +kernel
theorem dJ6_bitCount_0f7a4_23 : decode cJ6_bitCount_0f7a4 23 = .ok (.istore_n 0, 1) := by decide +kernel
theorem dJ6_bitCount_0f7a4_24 : decode cJ6_bitCount_0f7a4 24 = .ok (.iload_n 0, 1) := by decide +kernel
theorem dJ6_bitCount_0f7a4_25 : decode cJ6_bitCount_0f7a4 25 = .ok (.iload_n 0, 1) := by decide +kernel
theorem dJ6_bitCount_0f7a4_26 : decode cJ6_bitCount_0f7a4 26 = .ok (.iconst 4, 1) := by decide +kernel
theorem dJ6_bitCount_0f7a4_27 : decode cJ6_bitCount_0f7a4 27 = .ok (.iushr, 1) := by decide +kernel
theorem dJ6_bitCount_0f7a4_28 : decode cJ6_bitCount_0f7a4 28 = .ok (.iadd, 1) := by decide +kernel
theorem dJ6_bitCount_0f7a4_29 : decode cJ6_bitCount_0f7a4 29 = .ok (.ldc_w 267, 3) := by decide +kernel
theorem dJ6_bitCount_0f7a4_32 : decode cJ6_bitCount_0f7a4 32 = .ok (.iand, 1) := by decide +kernel
theorem dJ6_bitCount_0f7a4_33 : decode cJ6_bitCount_0f7a4 33 = .ok (.istore_n 0, 1) := by decide +kernel
theorem dJ6_bitCount_0f7a4_34 : decode cJ6_bitCount_0f7a4 34 = .ok (.iload_n 0, 1) := by decide +kernel
theorem dJ6_bitCount_0f7a4_35 : decode cJ6_bitCount_0f7a4 35 = .ok (.iload_n 0, 1) := by decide +kernel
theorem dJ6_bitCount_0f7a4_36 : decode cJ6_bitCount_0f7a4 36 = .ok (.bipush 8, 2) := by decide +kernel
theorem dJ6_bitCount_0f7a4_38 : decode cJ6_bitCount_0f7a4 38 = .ok (.iushr, 1) := by decide +kernel
theorem dJ6_bitCount_0f7a4_39 : decode cJ6_bitCount_0f7a4 39 = .ok (.iadd, 1) := by decide +kernel
theorem dJ6_bitCount_0f7a4_40 : decode cJ6_bitCount_0f7a4 40 = .ok (.istore_n 0, 1) := by decide +kernel
theorem dJ6_bitCount_0f7a4_41 : decode cJ6_bitCount_0f7a4 41 = .ok (.iload_n 0, 1) := by decide +kernel
theorem dJ6_bitCount_0f7a4_42 : decode cJ6_bitCount_0f7a4 42 = .ok (.iload_n 0, 1) := by decide +kernel
theorem dJ6_bitCount_0f7a4_43 : decode cJ6_bitCount_0f7a4 43 = .ok (.bipush 16, 2) := by decide +kernel
theorem dJ6_bitCount_0f7a4_45 : decode cJ6_bitCount_0f7a4 45 = .ok (.iushr, 1) := by decide +kernel
theorem dJ6_bitCount_0f7a4_46 : decode cJ6_bitCount_0f7a4 46 = .ok (.iadd, 1) := by decide +kernel
theorem dJ6_bitCount_0f7a4_47 : decode cJ6_bitCount_0f7a4 47 = .ok (.istore_n 0, 1) := by decide +kernel
theorem dJ6_bitCount_0f7a4_48 : decode cJ6_bitCount_0f7a4 48 = .ok (.iload_n 0, 1) := by decide +kernel
theorem dJ6_bitCount_0f7a4_49 : decode cJ6_bitCount_0f7a4 49 = .ok (.bipush 63, 2) := by decide +kernel
theorem dJ6_bitCount_0f7a4_51 : decode cJ6_bitCount_0f7a4 51 = .ok (.iand, 1) := by decide +kernel
theorem dJ6_bitCount_0f7a4_52 : decode cJ6_bitCount_0f7a4 52 = .ok (.ireturn, 1) := by decide +kernel
theorem dJ9_abs_0f7a4_0 : decode cJ9_abs_0f7a4 0 = .ok (.iload_n 0, 1) := by decide +kernel
theorem dJ9_abs_0f7a4_1 : decode cJ9_abs_0f7a4 1 = .ok (.ifCond .ge 8, 3) := by decide +kernel
theorem dJ9_abs_0f7a4_4 : decode cJ9_abs_0f7a4 4 = .ok (.iload_n 0, 1) := by decide +kernel
theorem dJ9_abs_0f7a4_5 : decode cJ9_abs_0f7a4 5 = .ok (.ineg, 1) := by decide +kernel
theorem dJ9_abs_0f7a4_6 : decode cJ9_abs_0f7a4 6 = .ok (.goto 4, 3) := by decide +kernel
theorem dJ9_abs_0f7a4_9 : decode cJ9_abs_0f7a4 9 = .ok (.iload_n 0, 1) := by decide +kernel
theorem dJ9_abs_0f7a4_10 : decode cJ9_abs_0f7a4 10 = .ok (.ireturn, 1) := by decide +kernel
theorem dJ9_max_7cf53_0 : decode cJ9_max_7cf53 0 = .ok (.iload_n 0, 1) := by decide +kernel
theorem dJ9_max_7cf53_1 : decode cJ9_max_7cf53 1 = .ok (.iload_n 1, 1) := by decide +kernel
theorem dJ9_max_7cf53_2 : decode cJ9_max_7cf53 2 = .ok (.if_icmp .lt 7, 3) := by decide +kernel
theorem dJ9_max_7cf53_5 : decode cJ9_max_7cf53 5 = .ok (.iload_n 0, 1) := by decide +kernel
theorem dJ9_max_7cf53_6 : decode cJ9_max_7cf53 6 = .ok (.goto 4, 3) := by decide +kernel
theorem dJ9_max_7cf53_9 : decode cJ9_max_7cf53 9 = .ok (.iload_n 1, 1) := by decide +kernel
theorem dJ9_max_7cf53_10 : decode cJ9_max_7cf53 10 = .ok (.ireturn, 1) := by decide +kernel
theorem dJ9_min_7cf53_0 : decode cJ9_min_7cf53 0 = .ok (.iload_n 0, 1) := by decide +kernel
theorem dJ9_min_7cf53_1 : decode cJ9_min_7cf53 1 = .ok (.iload_n 1, 1) := by decide +kernel
theorem dJ9_min_7cf53_2 : decode cJ9_min_7cf53 2 = .ok (.if_icmp .gt 7, 3) := by decide +kernel
theorem dJ9_min_7cf53_5 : decode cJ9_min_7cf53 5 = .ok (.iload_n 0, 1) := by decide +kernel
theorem dJ9_min_7cf53_6 : decode cJ9_min_7cf53 6 = .ok (.goto 4, 3) := by decide +kernel
theorem dJ9_min_7cf53_9 : decode cJ9_min_7cf53 9 = .ok (.iload_n 1, 1) := by decide +kernel
theorem dJ9_min_7cf53_10 : decode cJ9_min_7cf53 10 = .ok (.ireturn, 1) := by decide +kernel
theorem dJ7_fill_53178_0 : decode cJ7_fill_53178 0 = .ok (.iconst 0, 1) := by decide +kernel
theorem dJ7_fill_53178_1 : decode cJ7_fill_53178 1 = .ok (.istore_n 2, 1) := by decide +kernel
theorem dJ7_fill_53178_2 : decode cJ7_fill_53178 2 = .ok (.aload_n 0, 1) := by decide +kernel
theorem dJ7_fill_53178_3 : decode cJ7_fill_53178 3 = .ok (.arraylength, 1) := by decide +kernel
theorem dJ7_fill_53178_4 : decode cJ7_fill_53178 4 = .ok (.istore_n 3, 1) := by decide +kernel
theorem dJ7_fill_53178_5 : decode cJ7_fill_53178 5 = .ok (.iload_n 2, 1) := by decide +kernel
theorem dJ7_fill_53178_6 : decode cJ7_fill_53178 6 = .ok (.iload_n 3, 1) := by decide +kernel
theorem dJ7_fill_53178_7 : decode cJ7_fill_53178 7 = .ok (.if_icmp .ge 13, 3) := by decide +kernel
theorem dJ7_fill_53178_10 : decode cJ7_fill_53178 10 = .ok (.aload_n 0, 1) := by decide +kernel
theorem dJ7_fill_53178_11 : decode cJ7_fill_53178 11 = .ok (.iload_n 2, 1) := by decide +kernel
theorem dJ7_fill_53178_12 : decode cJ7_fill_53178 12 = .ok (.iload_n 1, 1) := by decide +kernel
theorem dJ7_fill_53178_13 : decode cJ7_fill_53178 13 = .ok (.iastore, 1) := by decide +kernel
theorem dJ7_fill_53178_14 : decode cJ7_fill_53178 14 = .ok (.iinc 2 1, 3) := by decide +kernel
theorem dJ7_fill_53178_17 : decode cJ7_fill_53178 17 = .ok (.goto (-12), 3) := by decide +kernel
theorem dJ7_fill_53178_20 : decode cJ7_fill_53178 20 = .ok (.return_, 1) := by decide +kernel
theorem dJ7_fill_031fb_0 : decode cJ7_fill_031fb 0 = .ok (.iconst 0, 1) := by decide +kernel
theorem dJ7_fill_031fb_1 : decode cJ7_fill_031fb 1 = .ok (.istore_n 2, 1) := by decide +kernel
theorem dJ7_fill_031fb_2 : decode cJ7_fill_031fb 2 = .ok (.aload_n 0, 1) := by decide +kernel
theorem dJ7_fill_031fb_3 : decode cJ7_fill_031fb 3 = .ok (.arraylength, 1) := by decide +kernel
theorem dJ7_fill_031fb_4 : decode cJ7_fill_031fb 4 = .ok (.istore_n 3, 1) := by decide +kernel
theorem dJ7_fill_031fb_5 : decode cJ7_fill_031fb 5 = .ok (.iload_n 2, 1) := by decide +kernel
theorem dJ7_fill_031fb_6 : decode cJ7_fill_031fb 6 = .ok (.iload_n 3, 1) := by decide +kernel
theorem dJ7_fill_031fb_7 : decode cJ7_fill_031fb 7 = .ok (.if_icmp .ge 13, 3) := by decide +kernel
theorem dJ7_fill_031fb_10 : decode cJ7_fill_031fb 10 = .ok (.aload_n 0, 1) := by decide +kernel
theorem dJ7_fill_031fb_11 : decode cJ7_fill_031fb 11 = .ok (.iload_n 2, 1) := by decide +kernel
theorem dJ7_fill_031fb_12 : decode cJ7_fill_031fb 12 = .ok (.iload_n 1, 1) := by decide +kernel
theorem dJ7_fill_031fb_13 : decode cJ7_fill_031fb 13 = .ok (.bastore, 1) := by decide +kernel
theorem dJ7_fill_031fb_14 : decode cJ7_fill_031fb 14 = .ok (.iinc 2 1, 3) := by decide +kernel
theorem dJ7_fill_031fb_17 : decode cJ7_fill_031fb 17 = .ok (.goto (-12), 3) := by decide +kernel
theorem dJ7_fill_031fb_20 : decode cJ7_fill_031fb 20 = .ok (.return_, 1) := by decide +kernel
theorem dX2_init_0 : decode cX2_init 0 = .ok (.aload_n 0, 1) := by decide +kernel
theorem dX2_init_1 : decode cX2_init 1 = .ok (.invokespecial 1, 3) := by decide +kernel
theorem dX2_init_4 : decode cX2_init 4 = .ok (.aload_n 0, 1) := by decide +kernel
theorem dX2_init_5 : decode cX2_init 5 = .ok (.sipush 510, 3) := by decide +kernel
theorem dX2_init_8 : decode cX2_init 8 = .ok (.newarray .int, 2) := by decide +kernel
theorem dX2_init_10 : decode cX2_init 10 = .ok (.putfield 7, 3) := by decide +kernel
theorem dX2_init_13 : decode cX2_init 13 = .ok (.aload_n 0, 1) := by decide +kernel
theorem dX2_init_14 : decode cX2_init 14 = .ok (.sipush 256, 3) := by decide +kernel
theorem dX2_init_17 : decode cX2_init 17 = .ok (.newarray .int, 2) := by decide +kernel
theorem dX2_init_19 : decode cX2_init 19 = .ok (.putfield 13, 3) := by decide +kernel
theorem dX2_init_22 : decode cX2_init 22 = .ok (.iconst 1, 1) := by decide +kernel
theorem dX2_init_23 : decode cX2_init 23 = .ok (.istore_n 1, 1) := by decide +kernel
theorem dX2_init_24 : decode cX2_init 24 = .ok (.iconst 0, 1) := by decide +kernel
theorem dX2_init_25 : decode cX2_init 25 = .ok (.istore_n 2, 1) := by decide +kernel
theorem dX2_init_26 : decode cX2_init 26 = .ok (.iload_n 2, 1) := by decide +kernel
theorem dX2_init_27 : decode cX2_init 27 = .ok (.sipush 255, 3) := by decide +kernel
theorem dX2_init_30 : decode cX2_init 30 = .ok (.if_icmp .ge 43, 3) := by decide +kernel
theorem dX2_init_33 : decode cX2_init 33 = .ok (.aload_n 0, 1) := by decide +kernel
theorem dX2_init_34 : decode cX2_init 34 = .ok (.getfield 7, 3) := by decide +kernel
theorem dX2_init_37 : decode cX2_init 37 = .ok (.iload_n 2, 1) := by decide +kernel
theorem dX2_init_38 : decode cX2_init 38 = .ok (.iload_n 1, 1) := by decide +kernel
theorem dX2_init_39 : decode cX2_init 39 = .ok (.iastore, 1) := by decide +kernel
theorem dX2_init_40 : decode cX2_init 40 = .ok (.aload_n 0, 1) := by decide +kernel
theorem dX2_init_41 : decode cX2_init 41 = .ok (.getfield 7, 3) := by decide +kernel
theorem dX2_init_44 : decode cX2_init 44 = .ok (.iload_n 2, 1) := by decide +kernel
theorem dX2_init_45 : decode cX2_init 45 = .ok (.sipush 255, 3) := by decide +kernel
theorem dX2_init_48 : decode cX2_init 48 = .ok (.iadd, 1) := by decide +kernel
theorem dX2_init_49 : decode cX2_init 49 = .ok (.iload_n 1, 1) := by decide +kernel
theorem dX2_init_50 : decode cX2_init 50 = .ok (.iastore, 1) := by decide +kernel
theorem dX2_init_51 : decode cX2_init 51 = .ok (.aload_n 0, 1) := by decide +kernel
theorem dX2_init_52 : decode cX2_init 52 = .ok (.getfield 13, 3) := by decide +kernel
theorem dX2_init_55 : decode cX2_init 55 = .ok (.iload_n 1, 1) := by decide +kernel
theorem dX2_init_56 : decode cX2_init 56 = .ok (.sipush 255, 3) := by decide +kernel
theorem dX2_init_59 : decode cX2_init 59 = .ok (.iand, 1) := by decide +kernel
theorem dX2_init_60 : decode cX2_init 60 = .ok (.iload_n 2, 1) := by decide +kernel
theorem dX2_init_61 : decode cX2_init 61 = .ok (.iastore, 1) := by decide +kernel
theorem dX2_init_62 : decode cX2_init 62 = .ok (.iload_n 1, 1) := by decide +kernel
theorem dX2_init_63 : decode cX2_init 63 = .ok (.invokestatic 16, 3) := by decide +kernel
theorem dX2_init_66 : decode cX2_init 66 = .ok (.istore_n 1, 1) := by decide +kernel
theorem dX2_init_67 : decode cX2_init 67 = .ok (.iinc 2 1, 3) := by decide +kernel
theorem dX2_init_70 : decode cX2_init 70 = .ok (.goto (-44), 3) := by decide +kernel
theorem dX2_init_73 : decode cX2_init 73 = .ok (.return_, 1) := by decide +kernel
theorem dX2_twice_0 : decode cX2_twice 0 = .ok (.iload_n 0, 1) := by decide +kernel
theorem dX2_twice_1 : decode cX2_twice 1 = .ok (.iconst 1, 1) := by decide +kernel
theorem dX2_twice_2 : decode cX2_twice 2 = .ok (.ishl, 1) := by decide +kernel
theorem dX2_twice_3 : decode cX2_twice 3 = .ok (.istore_n 1, 1) := by decide +kernel
theorem dX2_twice_4 : decode cX2_twice 4 = .ok (.iload_n 1, 1) := by decide +kernel
theorem dX2_twice_5 : decode cX2_twice 5 = .ok (.sipush 255, 3) := by decide +kernel
theorem dX2_twice_8 : decode cX2_twice 8 = .ok (.if_icmp .le 11, 3) := by decide +kernel
theorem dX2_twice_11 : decode cX2_twice 11 = .ok (.iload_n 1, 1) := by decide +kernel
theorem dX2_twice_12 : decode cX2_twice 12 = .ok (.sipush 285, 3) := by decide +kernel
theorem dX2_twice_15 : decode cX2_twice 15 = .ok (.ixor, 1) := by decide +kernel
theorem dX2_twice_16 : decode cX2_twice 16 = .ok (.goto 4, 3) := by decide +kernel
theorem dX2_twice_19 : decode cX2_twice 19 = .ok (.iload_n 1, 1) := by decide +kernel
theorem dX2_twice_20 : decode cX2_twice 20 = .ok (.ireturn, 1) := by decide +kernel
theorem dX2_power_0 : decode cX2_power 0 = .ok (.iload_n 1, 1) := by decide +kernel
theorem dX2_power_1 : decode cX2_power 1 = .ok (.ifCond .lt 21, 3) := by decide +kernel
theorem dX2_power_4 : decode cX2_power 4 = .ok (.iload_n 1, 1) := by decide +kernel
theorem dX2_power_5 : decode cX2_power 5 = .ok (.aload_n 0, 1) := by decide +kernel
theorem dX2_power_6 : decode cX2_power 6 = .ok (.getfield 7, 3) := by decide +kernel
theorem dX2_power_9 : decode cX2_power 9 = .ok (.arraylength, 1) := by decide +kernel
theorem dX2_power_10 : decode cX2_power 10 = .ok (.if_icmp .ge 12, 3) := by decide +kernel
theorem dX2_power_13 : decode cX2_power 13 = .ok (.aload_n 0, 1) := by decide +kernel
theorem dX2_power_14 : decode cX2_power 14 = .ok (.getfield 7, 3) := by decide +kernel
theorem dX2_power_17 : decode cX2_power 17 = .ok (.iload_n 1, 1) := by decide +kernel
theorem dX2_power_18 : decode cX2_power 18 = .ok (.iaload, 1) := by decide +kernel
theorem dX2_power_19 : decode cX2_power 19 = .ok (.goto 4, 3) := by decide +kernel
theorem dX2_power_22 : decode cX2_power 22 = .ok (.iconst 0, 1) := by decide +kernel
theorem dX2_power_23 : decode cX2_power 23 = .ok (.ireturn, 1) := by decide +kernel
theorem dX2_log_0 : decode cX2_log 0 = .ok (.aload_n 0, 1) := by decide +kernel
theorem dX2_log_1 : decode cX2_log 1 = .ok (.getfield 13, 3) := by decide +kernel
theorem dX2_log_4 : decode cX2_log 4 = .ok (.iload_n 1, 1) := by decide +kernel
theorem dX2_log_5 : decode cX2_log 5 = .ok (.sipush 255, 3) := by decide +kernel
theorem dX2_log_8 : decode cX2_log 8 = .ok (.iand, 1) := by decide +kernel
theorem dX2_log_9 : decode cX2_log 9 = .ok (.iaload, 1) := by decide +kernel
theorem dX2_log_10 : decode cX2_log 10 = .ok (.ireturn, 1) := by decide +kernel
theorem dX2_times_0 : decode cX2_times 0 = .ok (.iload_n 1, 1) := by decide +kernel
theorem dX2_times_1 : decode cX2_times 1 = .ok (.ifCond .eq 7, 3) := by decide +kernel
theorem dX2_times_4 : decode cX2_times 4 = .ok (.iload_n 2, 1) := by decide +kernel
theorem dX2_times_5 : decode cX2_times 5 = .ok (.ifCond .ne 7, 3) := by decide +kernel
theorem dX2_times_8 : decode cX2_times 8 = .ok (.iconst 0, 1) := by decide +kernel
theorem dX2_times_9 : decode cX2_times 9 = .ok (.goto 29, 3) := by decide +kernel
theorem dX2_times_12 : decode cX2_times 12 = .ok (.aload_n 0, 1) := by decide +kernel
theorem dX2_times_13 : decode cX2_times 13 = .ok (.getfield 7, 3) := by decide +kernel
theorem dX2_times_16 : decode cX2_times 16 = .ok (.aload_n 0, 1) := by decide +kernel
theorem dX2_times_17 : decode cX2_times 17 = .ok (.getfield 13, 3) := by decide +kernel
theorem dX2_times_20 : decode cX2_times 20 = .ok (.iload_n 1, 1) := by decide +kernel
theorem dX2_times_21 : decode cX2_times 21 = .ok (.sipush 255, 3) := by decide +kernel
theorem dX2_times_24 : decode cX2_times 24 = .ok (.iand, 1) := by decide +kernel
theorem dX2_times_25 : decode cX2_times 25 = .ok (.iaload, 1) := by decide +kernel
theorem dX2_times_26 : decode cX2_times 26 = .ok (.aload_n 0, 1) := by decide +kernel
theorem dX2_times_27 : decode cX2_times 27 = .ok (.getfield 13, 3) := by decide +kernel
theorem dX2_times_30 : decode cX2_times 30 = .ok (.iload_n 2, 1) := by decide +kernel
theorem dX2_times_31 : decode cX2_times 31 = .ok (.sipush 255, 3) := by decide +kernel
theorem dX2_times_34 : decode cX2_times 34 = .ok (.iand, 1) := by decide +kernel
theorem dX2_times_35 : decode cX2_times 35 = .ok (.iaload, 1) := by decide +kernel
theorem dX2_times_36 : decode cX2_times 36 = .ok (.iadd, 1) := by decide +kernel
theorem dX2_times_37 : decode cX2_times 37 = .ok (.iaload, 1) := by decide +kernel
theorem dX2_times_38 : decode cX2_times 38 = .ok (.ireturn, 1) := by decide +kernel
theorem dX2_over_0 : decode cX2_over 0 = .ok (.iload_n 1, 1) := by decide +kernel
theorem dX2_over_1 : decode cX2_over 1 = .ok (.ifCond .eq 7, 3) := by decide +kernel
theorem dX2_over_4 : decode cX2_over 4 = .ok (.iload_n 2, 1) := by decide +kernel
theorem dX2_over_5 : decode cX2_over 5 = .ok (.ifCond .ne 7, 3) := by decide +kernel
theorem dX2_over_8 : decode cX2_over 8 = .ok (.iconst 0, 1) := by decide +kernel
theorem dX2_over_9 : decode cX2_over 9 = .ok (.goto 33, 3) := by decide +kernel
theorem dX2_over_12 : decode cX2_over 12 = .ok (.aload_n 0, 1) := by decide +kernel
theorem dX2_over_13 : decode cX2_over 13 = .ok (.getfield 7, 3) := by decide +kernel
theorem dX2_over_16 : decode cX2_over 16 = .ok (.aload_n 0, 1) := by decide +kernel
theorem dX2_over_17 : decode cX2_over 17 = .ok (.getfield 13, 3) := by decide +kernel
theorem dX2_over_20 : decode cX2_over 20 = .ok (.iload_n 1, 1) := by decide +kernel
theorem dX2_over_21 : decode cX2_over 21 = .ok (.sipush 255, 3) := by decide +kernel
theorem dX2_over_24 : decode cX2_over 24 = .ok (.iand, 1) := by decide +kernel
theorem dX2_over_25 : decode cX2_over 25 = .ok (.iaload, 1) := by decide +kernel
theorem dX2_over_26 : decode cX2_over 26 = .ok (.sipush 255, 3) := by decide +kernel
theorem dX2_over_29 : decode cX2_over 29 = .ok (.iadd, 1) := by decide +kernel
theorem dX2_over_30 : decode cX2_over 30 = .ok (.aload_n 0, 1) := by decide +kernel
theorem dX2_over_31 : decode cX2_over 31 = .ok (.getfield 13, 3) := by decide +kernel
theorem dX2_over_34 : decode cX2_over 34 = .ok (.iload_n 2, 1) := by decide +kernel
theorem dX2_over_35 : decode cX2_over 35 = .ok (.sipush 255, 3) := by decide +kernel
theorem dX2_over_38 : decode cX2_over 38 = .ok (.iand, 1) := by decide +kernel
theorem dX2_over_39 : decode cX2_over 39 = .ok (.iaload, 1) := by decide +kernel
theorem dX2_over_40 : decode cX2_over 40 = .ok (.isub, 1) := by decide +kernel
theorem dX2_over_41 : decode cX2_over 41 = .ok (.iaload, 1) := by decide +kernel
theorem dX2_over_42 : decode cX2_over 42 = .ok (.ireturn, 1) := by decide +kernel
theorem dX7_init_0 : decode cX7_init 0 = .ok (.aload_n 0, 1) := by decide +kernel
theorem dX7_init_1 : decode cX7_init 1 = .ok (.invokespecial 3, 3) := by decide +kernel
theorem dX7_init_4 : decode cX7_init 4 = .ok (.aload_n 0, 1) := by decide +kernel
theorem dX7_init_5 : decode cX7_init 5 = .ok (.sipush 20480, 3) := by decide +kernel
theorem dX7_init_8 : decode cX7_init 8 = .ok (.newarray .byte, 2) := by decide +kernel
theorem dX7_init_10 : decode cX7_init 10 = .ok (.putfield 9, 3) := by decide +kernel
theorem dX7_init_13 : decode cX7_init 13 = .ok (.aload_n 0, 1) := by decide +kernel
theorem dX7_init_14 : decode cX7_init 14 = .ok (.sipush 640, 3) := by decide +kernel
theorem dX7_init_17 : decode cX7_init 17 = .ok (.newarray .int, 2) := by decide +kernel
theorem dX7_init_19 : decode cX7_init 19 = .ok (.putfield 15, 3) := by decide +kernel
theorem dX7_init_22 : decode cX7_init 22 = .ok (.return_, 1) := by decide +kernel
theorem dX7_cells_0 : decode cX7_cells 0 = .ok (.aload_n 0, 1) := by decide +kernel
theorem dX7_cells_1 : decode cX7_cells 1 = .ok (.getfield 9, 3) := by decide +kernel
theorem dX7_cells_4 : decode cX7_cells 4 = .ok (.areturn, 1) := by decide +kernel
theorem dX7_startOf_0 : decode cX7_startOf 0 = .ok (.iload_n 1, 1) := by decide +kernel
theorem dX7_startOf_1 : decode cX7_startOf 1 = .ok (.bipush 32, 2) := by decide +kernel
theorem dX7_startOf_3 : decode cX7_startOf 3 = .ok (.imul, 1) := by decide +kernel
theorem dX7_startOf_4 : decode cX7_startOf 4 = .ok (.ireturn, 1) := by decide +kernel
theorem dX7_empty_0 : decode cX7_empty 0 = .ok (.aload_n 0, 1) := by decide +kernel
theorem dX7_empty_1 : decode cX7_empty 1 = .ok (.getfield 9, 3) := by decide +kernel
theorem dX7_empty_4 : decode cX7_empty 4 = .ok (.iconst 0, 1) := by decide +kernel
theorem dX7_empty_5 : decode cX7_empty 5 = .ok (.invokestatic 19, 3) := by decide +kernel
theorem dX7_empty_8 : decode cX7_empty 8 = .ok (.aload_n 0, 1) := by decide +kernel
theorem dX7_empty_9 : decode cX7_empty 9 = .ok (.getfield 15, 3) := by decide +kernel
theorem dX7_empty_12 : decode cX7_empty 12 = .ok (.iconst 0, 1) := by decide +kernel
theorem dX7_empty_13 : decode cX7_empty 13 = .ok (.invokestatic 25, 3) := by decide +kernel
theorem dX7_empty_16 : decode cX7_empty 16 = .ok (.return_, 1) := by decide +kernel
theorem dX7_isCell_0 : decode cX7_isCell 0 = .ok (.iload_n 0, 1) := by decide +kernel
theorem dX7_isCell_1 : decode cX7_isCell 1 = .ok (.ifCond .lt 24, 3) := by decide +kernel
theorem dX7_isCell_4 : decode cX7_isCell 4 = .ok (.iload_n 0, 1) := by decide +kernel
theorem dX7_isCell_5 : decode cX7_isCell 5 = .ok (.sipush 640, 3) := by decide +kernel
theorem dX7_isCell_8 : decode cX7_isCell 8 = .ok (.if_icmp .ge 17, 3) := by decide +kernel
theorem dX7_isCell_11 : decode cX7_isCell 11 = .ok (.iload_n 1, 1) := by decide +kernel
theorem dX7_isCell_12 : decode cX7_isCell 12 = .ok (.ifCond .lt 13, 3) := by decide +kernel
theorem dX7_isCell_15 : decode cX7_isCell 15 = .ok (.iload_n 1, 1) := by decide +kernel
theorem dX7_isCell_16 : decode cX7_isCell 16 = .ok (.bipush 32, 2) := by decide +kernel
theorem dX7_isCell_18 : decode cX7_isCell 18 = .ok (.if_icmp .ge 7, 3) := by decide +kernel
theorem dX7_isCell_21 : decode cX7_isCell 21 = .ok (.iconst 1, 1) := by decide +kernel
theorem dX7_isCell_22 : decode cX7_isCell 22 = .ok (.goto 4, 3) := by decide +kernel
theorem dX7_isCell_25 : decode cX7_isCell 25 = .ok (.iconst 0, 1) := by decide +kernel
theorem dX7_isCell_26 : decode cX7_isCell 26 = .ok (.ireturn, 1) := by decide +kernel
theorem dX7_get_0 : decode cX7_get 0 = .ok (.iload_n 1, 1) := by decide +kernel
theorem dX7_get_1 : decode cX7_get 1 = .ok (.iload_n 2, 1) := by decide +kernel
theorem dX7_get_2 : decode cX7_get 2 = .ok (.invokestatic 28, 3) := by decide +kernel
theorem dX7_get_5 : decode cX7_get 5 = .ok (.ifCond .eq 21, 3) := by decide +kernel
theorem dX7_get_8 : decode cX7_get 8 = .ok (.aload_n 0, 1) := by decide +kernel
theorem dX7_get_9 : decode cX7_get 9 = .ok (.getfield 9, 3) := by decide +kernel
theorem dX7_get_12 : decode cX7_get 12 = .ok (.iload_n 1, 1) := by decide +kernel
theorem dX7_get_13 : decode cX7_get 13 = .ok (.bipush 32, 2) := by decide +kernel
theorem dX7_get_15 : decode cX7_get 15 = .ok (.imul, 1) := by decide +kernel
theorem dX7_get_16 : decode cX7_get 16 = .ok (.iload_n 2, 1) := by decide +kernel
theorem dX7_get_17 : decode cX7_get 17 = .ok (.iadd, 1) := by decide +kernel
theorem dX7_get_18 : decode cX7_get 18 = .ok (.baload, 1) := by decide +kernel
theorem dX7_get_19 : decode cX7_get 19 = .ok (.sipush 255, 3) := by decide +kernel
theorem dX7_get_22 : decode cX7_get 22 = .ok (.iand, 1) := by decide +kernel
theorem dX7_get_23 : decode cX7_get 23 = .ok (.goto 4, 3) := by decide +kernel
theorem dX7_get_26 : decode cX7_get 26 = .ok (.iconst 0, 1) := by decide +kernel
theorem dX7_get_27 : decode cX7_get 27 = .ok (.ireturn, 1) := by decide +kernel
theorem dX7_set_0 : decode cX7_set 0 = .ok (.iload_n 1, 1) := by decide +kernel
theorem dX7_set_1 : decode cX7_set 1 = .ok (.iload_n 2, 1) := by decide +kernel
theorem dX7_set_2 : decode cX7_set 2 = .ok (.invokestatic 28, 3) := by decide +kernel
theorem dX7_set_5 : decode cX7_set 5 = .ok (.ifCond .eq 16, 3) := by decide +kernel
theorem dX7_set_8 : decode cX7_set 8 = .ok (.aload_n 0, 1) := by decide +kernel
theorem dX7_set_9 : decode cX7_set 9 = .ok (.getfield 9, 3) := by decide +kernel
theorem dX7_set_12 : decode cX7_set 12 = .ok (.iload_n 1, 1) := by decide +kernel
theorem dX7_set_13 : decode cX7_set 13 = .ok (.bipush 32, 2) := by decide +kernel
theorem dX7_set_15 : decode cX7_set 15 = .ok (.imul, 1) := by decide +kernel
theorem dX7_set_16 : decode cX7_set 16 = .ok (.iload_n 2, 1) := by decide +kernel
theorem dX7_set_17 : decode cX7_set 17 = .ok (.iadd, 1) := by decide +kernel
theorem dX7_set_18 : decode cX7_set 18 = .ok (.iload_n 3, 1) := by decide +kernel
theorem dX7_set_19 : decode cX7_set 19 = .ok (.i2b, 1) := by decide +kernel
theorem dX7_set_20 : decode cX7_set 20 = .ok (.bastore, 1) := by decide +kernel
theorem dX7_set_21 : decode cX7_set 21 = .ok (.return_, 1) := by decide +kernel
theorem dX7_marksOf_0 : decode cX7_marksOf 0 = .ok (.iload_n 1, 1) := by decide +kernel
theorem dX7_marksOf_1 : decode cX7_marksOf 1 = .ok (.ifCond .lt 21, 3) := by decide +kernel
theorem dX7_marksOf_4 : decode cX7_marksOf 4 = .ok (.iload_n 1, 1) := by decide +kernel
theorem dX7_marksOf_5 : decode cX7_marksOf 5 = .ok (.aload_n 0, 1) := by decide +kernel
theorem dX7_marksOf_6 : decode cX7_marksOf 6 = .ok (.getfield 15, 3) := by decide +kernel
theorem dX7_marksOf_9 : decode cX7_marksOf 9 = .ok (.arraylength, 1) := by decide +kernel
theorem dX7_marksOf_10 : decode cX7_marksOf 10 = .ok (.if_icmp .ge 12, 3) := by decide +kernel
theorem dX7_marksOf_13 : decode cX7_marksOf 13 = .ok (.aload_n 0, 1) := by decide +kernel
theorem dX7_marksOf_14 : decode cX7_marksOf 14 = .ok (.getfield 15, 3) := by decide +kernel
theorem dX7_marksOf_17 : decode cX7_marksOf 17 = .ok (.iload_n 1, 1) := by decide +kernel
theorem dX7_marksOf_18 : decode cX7_marksOf 18 = .ok (.iaload, 1) := by decide +kernel
theorem dX7_marksOf_19 : decode cX7_marksOf 19 = .ok (.goto 4, 3) := by decide +kernel
theorem dX7_marksOf_22 : decode cX7_marksOf 22 = .ok (.iconst (-1), 1) := by decide +kernel
theorem dX7_marksOf_23 : decode cX7_marksOf 23 = .ok (.ireturn, 1) := by decide +kernel
theorem dX7_setMarks_0 : decode cX7_setMarks 0 = .ok (.iload_n 1, 1) := by decide +kernel
theorem dX7_setMarks_1 : decode cX7_setMarks 1 = .ok (.ifCond .lt 19, 3) := by decide +kernel
theorem dX7_setMarks_4 : decode cX7_setMarks 4 = .ok (.iload_n 1, 1) := by decide +kernel
theorem dX7_setMarks_5 : decode cX7_setMarks 5 = .ok (.aload_n 0, 1) := by decide +kernel
theorem dX7_setMarks_6 : decode cX7_setMarks 6 = .ok (.getfield 15, 3) := by decide +kernel
theorem dX7_setMarks_9 : decode cX7_setMarks 9 = .ok (.arraylength, 1) := by decide +kernel
theorem dX7_setMarks_10 : decode cX7_setMarks 10 = .ok (.if_icmp .ge 10, 3) := by decide +kernel
theorem dX7_setMarks_13 : decode cX7_setMarks 13 = .ok (.aload_n 0, 1) := by decide +kernel
theorem dX7_setMarks_14 : decode cX7_setMarks 14 = .ok (.getfield 15, 3) := by decide +kernel
theorem dX7_setMarks_17 : decode cX7_setMarks 17 = .ok (.iload_n 1, 1) := by decide +kernel
theorem dX7_setMarks_18 : decode cX7_setMarks 18 = .ok (.iload_n 2, 1) := by decide +kernel
theorem dX7_setMarks_19 : decode cX7_setMarks 19 = .ok (.iastore, 1) := by decide +kernel
theorem dX7_setMarks_20 : decode cX7_setMarks 20 = .ok (.return_, 1) := by decide +kernel
theorem dX7_isMarked_0 : decode cX7_isMarked 0 = .ok (.aload_n 0, 1) := by decide +kernel
theorem dX7_isMarked_1 : decode cX7_isMarked 1 = .ok (.iload_n 1, 1) := by decide +kernel
theorem dX7_isMarked_2 : decode cX7_isMarked 2 = .ok (.invokevirtual 32, 3) := by decide +kernel
theorem dX7_isMarked_5 : decode cX7_isMarked 5 = .ok (.iload_n 2, 1) := by decide +kernel
theorem dX7_isMarked_6 : decode cX7_isMarked 6 = .ok (.iushr, 1) := by decide +kernel
theorem dX7_isMarked_7 : decode cX7_isMarked 7 = .ok (.iconst 1, 1) := by decide +kernel
theorem dX7_isMarked_8 : decode cX7_isMarked 8 = .ok (.iand, 1) := by decide +kernel
theorem dX7_isMarked_9 : decode cX7_isMarked 9 = .ok (.iconst 1, 1) := by decide +kernel
theorem dX7_isMarked_10 : decode cX7_isMarked 10 = .ok (.if_icmp .ne 7, 3) := by decide +kernel
theorem dX7_isMarked_13 : decode cX7_isMarked 13 = .ok (.iconst 1, 1) := by decide +kernel
theorem dX7_isMarked_14 : decode cX7_isMarked 14 = .ok (.goto 4, 3) := by decide +kernel
theorem dX7_isMarked_17 : decode cX7_isMarked 17 = .ok (.iconst 0, 1) := by decide +kernel
theorem dX7_isMarked_18 : decode cX7_isMarked 18 = .ok (.ireturn, 1) := by decide +kernel
theorem dX7_isTurned_0 : decode cX7_isTurned 0 = .ok (.iload_n 0, 1) := by decide +kernel
theorem dX7_isTurned_1 : decode cX7_isTurned 1 = .ok (.bipush 12, 2) := by decide +kernel
theorem dX7_isTurned_3 : decode cX7_isTurned 3 = .ok (.if_icmp .lt 9, 3) := by decide +kernel
theorem dX7_isTurned_6 : decode cX7_isTurned 6 = .ok (.iload_n 0, 1) := by decide +kernel
theorem dX7_isTurned_7 : decode cX7_isTurned 7 = .ok (.bipush 16, 2) := by decide +kernel
theorem dX7_isTurned_9 : decode cX7_isTurned 9 = .ok (.if_icmp .lt 9, 3) := by decide +kernel
theorem dX7_isTurned_12 : decode cX7_isTurned 12 = .ok (.iload_n 0, 1) := by decide +kernel
theorem dX7_isTurned_13 : decode cX7_isTurned 13 = .ok (.bipush 28, 2) := by decide +kernel
theorem dX7_isTurned_15 : decode cX7_isTurned 15 = .ok (.if_icmp .lt 7, 3) := by decide +kernel
theorem dX7_isTurned_18 : decode cX7_isTurned 18 = .ok (.iconst 1, 1) := by decide +kernel
theorem dX7_isTurned_19 : decode cX7_isTurned 19 = .ok (.goto 4, 3) := by decide +kernel
theorem dX7_isTurned_22 : decode cX7_isTurned 22 = .ok (.iconst 0, 1) := by decide +kernel
theorem dX7_isTurned_23 : decode cX7_isTurned 23 = .ok (.ireturn, 1) := by decide +kernel
theorem dX7_placeOf_0 : decode cX7_placeOf 0 = .ok (.iload_n 0, 1) := by decide +kernel
theorem dX7_placeOf_1 : decode cX7_placeOf 1 = .ok (.iconst 4, 1) := by decide +kernel
theorem dX7_placeOf_2 : decode cX7_placeOf 2 = .ok (.idiv, 1) := by decide +kernel
theorem dX7_placeOf_3 : decode cX7_placeOf 3 = .ok (.istore_n 1, 1) := by decide +kernel
theorem dX7_placeOf_4 : decode cX7_placeOf 4 = .ok (.iload_n 0, 1) := by decide +kernel
theorem dX7_placeOf_5 : decode cX7_placeOf 5 = .ok (.iconst 2, 1) := by decide +kernel
theorem dX7_placeOf_6 : decode cX7_placeOf 6 = .ok (.idiv, 1) := by decide +kernel
theorem dX7_placeOf_7 : decode cX7_placeOf 7 = .ok (.iconst 2, 1) := by decide +kernel
theorem dX7_placeOf_8 : decode cX7_placeOf 8 = .ok (.irem, 1) := by decide +kernel
theorem dX7_placeOf_9 : decode cX7_placeOf 9 = .ok (.istore_n 2, 1) := by decide +kernel
theorem dX7_placeOf_10 : decode cX7_placeOf 10 = .ok (.iload_n 0, 1) := by decide +kernel
theorem dX7_placeOf_11 : decode cX7_placeOf 11 = .ok (.iconst 2, 1) := by decide +kernel
theorem dX7_placeOf_12 : decode cX7_placeOf 12 = .ok (.irem, 1) := by decide +kernel
theorem dX7_placeOf_13 : decode cX7_placeOf 13 = .ok (.istore_n 3, 1) := by decide +kernel
theorem dX7_placeOf_14 : decode cX7_placeOf 14 = .ok (.iload_n 1, 1) := by decide +kernel
theorem dX7_placeOf_15 : decode cX7_placeOf 15 = .ok (.iconst 2, 1) := by decide +kernel
theorem dX7_placeOf_16 : decode cX7_placeOf 16 = .ok (.irem, 1) := by decide +kernel
theorem dX7_placeOf_17 : decode cX7_placeOf 17 = .ok (.ifCond .ne 14, 3) := by decide +kernel
theorem dX7_placeOf_20 : decode cX7_placeOf 20 = .ok (.bipush 6, 2) := by decide +kernel
theorem dX7_placeOf_22 : decode cX7_placeOf 22 = .ok (.iload_n 2, 1) := by decide +kernel
theorem dX7_placeOf_23 : decode cX7_placeOf 23 = .ok (.imul, 1) := by decide +kernel
theorem dX7_placeOf_24 : decode cX7_placeOf 24 = .ok (.iload_n 1, 1) := by decide +kernel
theorem dX7_placeOf_25 : decode cX7_placeOf 25 = .ok (.iadd, 1) := by decide +kernel
theorem dX7_placeOf_26 : decode cX7_placeOf 26 = .ok (.iload_n 3, 1) := by decide +kernel
theorem dX7_placeOf_27 : decode cX7_placeOf 27 = .ok (.iadd, 1) := by decide +kernel
theorem dX7_placeOf_28 : decode cX7_placeOf 28 = .ok (.goto 16, 3) := by decide +kernel
theorem dX7_placeOf_31 : decode cX7_placeOf 31 = .ok (.bipush 16, 2) := by decide +kernel
theorem dX7_placeOf_33 : decode cX7_placeOf 33 = .ok (.bipush 6, 2) := by decide +kernel
theorem dX7_placeOf_35 : decode cX7_placeOf 35 = .ok (.iload_n 2, 1) := by decide +kernel
theorem dX7_placeOf_36 : decode cX7_placeOf 36 = .ok (.imul, 1) := by decide +kernel
theorem dX7_placeOf_37 : decode cX7_placeOf 37 = .ok (.iadd, 1) := by decide +kernel
theorem dX7_placeOf_38 : decode cX7_placeOf 38 = .ok (.iload_n 1, 1) := by decide +kernel
theorem dX7_placeOf_39 : decode cX7_placeOf 39 = .ok (.iadd, 1) := by decide +kernel
theorem dX7_placeOf_40 : decode cX7_placeOf 40 = .ok (.iconst 1, 1) := by decide +kernel
theorem dX7_placeOf_41 : decode cX7_placeOf 41 = .ok (.isub, 1) := by decide +kernel
theorem dX7_placeOf_42 : decode cX7_placeOf 42 = .ok (.iload_n 3, 1) := by decide +kernel
theorem dX7_placeOf_43 : decode cX7_placeOf 43 = .ok (.iadd, 1) := by decide +kernel
theorem dX7_placeOf_44 : decode cX7_placeOf 44 = .ok (.ireturn, 1) := by decide +kernel
theorem dX7_lagOf_0 : decode cX7_lagOf 0 = .ok (.iload_n 0, 1) := by decide +kernel
theorem dX7_lagOf_1 : decode cX7_lagOf 1 = .ok (.iconst 4, 1) := by decide +kernel
theorem dX7_lagOf_2 : decode cX7_lagOf 2 = .ok (.idiv, 1) := by decide +kernel
theorem dX7_lagOf_3 : decode cX7_lagOf 3 = .ok (.iconst 2, 1) := by decide +kernel
theorem dX7_lagOf_4 : decode cX7_lagOf 4 = .ok (.irem, 1) := by decide +kernel
theorem dX7_lagOf_5 : decode cX7_lagOf 5 = .ok (.ifCond .ne 7, 3) := by decide +kernel
theorem dX7_lagOf_8 : decode cX7_lagOf 8 = .ok (.iconst 2, 1) := by decide +kernel
theorem dX7_lagOf_9 : decode cX7_lagOf 9 = .ok (.goto 4, 3) := by decide +kernel
theorem dX7_lagOf_12 : decode cX7_lagOf 12 = .ok (.iconst 0, 1) := by decide +kernel
theorem dX7_lagOf_13 : decode cX7_lagOf 13 = .ok (.ireturn, 1) := by decide +kernel
theorem dX8_init_0 : decode cX8_init 0 = .ok (.aload_n 0, 1) := by decide +kernel
theorem dX8_init_1 : decode cX8_init 1 = .ok (.invokespecial 3, 3) := by decide +kernel
theorem dX8_init_4 : decode cX8_init 4 = .ok (.aload_n 0, 1) := by decide +kernel
theorem dX8_init_5 : decode cX8_init 5 = .ok (.sipush 128, 3) := by decide +kernel
theorem dX8_init_8 : decode cX8_init 8 = .ok (.newarray .int, 2) := by decide +kernel
theorem dX8_init_10 : decode cX8_init 10 = .ok (.putfield 9, 3) := by decide +kernel
theorem dX8_init_13 : decode cX8_init 13 = .ok (.aload_n 0, 1) := by decide +kernel
theorem dX8_init_14 : decode cX8_init 14 = .ok (.sipush 400, 3) := by decide +kernel
theorem dX8_init_17 : decode cX8_init 17 = .ok (.newarray .int, 2) := by decide +kernel
theorem dX8_init_19 : decode cX8_init 19 = .ok (.putfield 15, 3) := by decide +kernel
theorem dX8_init_22 : decode cX8_init 22 = .ok (.iconst 0, 1) := by decide +kernel
theorem dX8_init_23 : decode cX8_init 23 = .ok (.istore_n 1, 1) := by decide +kernel
theorem dX8_init_24 : decode cX8_init 24 = .ok (.iconst 0, 1) := by decide +kernel
theorem dX8_init_25 : decode cX8_init 25 = .ok (.istore_n 2, 1) := by decide +kernel
theorem dX8_init_26 : decode cX8_init 26 = .ok (.iload_n 2, 1) := by decide +kernel
theorem dX8_init_27 : decode cX8_init 27 = .ok (.getstatic 18, 3) := by decide +kernel
theorem dX8_init_30 : decode cX8_init 30 = .ok (.arraylength, 1) := by decide +kernel
theorem dX8_init_31 : decode cX8_init 31 = .ok (.if_icmp .ge 106, 3) := by decide +kernel
theorem dX8_init_34 : decode cX8_init 34 = .ok (.getstatic 18, 3) := by decide +kernel
theorem dX8_init_37 : decode cX8_init 37 = .ok (.iload_n 2, 1) := by decide +kernel
theorem dX8_init_38 : decode cX8_init 38 = .ok (.iaload, 1) := by decide +kernel
theorem dX8_init_39 : decode cX8_init 39 = .ok (.bipush 7, 2) := by decide +kernel
theorem dX8_init_41 : decode cX8_init 41 = .ok (.iushr, 1) := by decide +kernel
theorem dX8_init_42 : decode cX8_init 42 = .ok (.bipush 127, 2) := by decide +kernel
theorem dX8_init_44 : decode cX8_init 44 = .ok (.iand, 1) := by decide +kernel
theorem dX8_init_45 : decode cX8_init 45 = .ok (.istore_n 3, 1) := by decide +kernel
theorem dX8_init_46 : decode cX8_init 46 = .ok (.getstatic 18, 3) := by decide +kernel
theorem dX8_init_49 : decode cX8_init 49 = .ok (.iload_n 2, 1) := by decide +kernel
theorem dX8_init_50 : decode cX8_init 50 = .ok (.iaload, 1) := by decide +kernel
theorem dX8_init_51 : decode cX8_init 51 = .ok (.bipush 127, 2) := by decide +kernel
theorem dX8_init_53 : decode cX8_init 53 = .ok (.iand, 1) := by decide +kernel
theorem dX8_init_54 : decode cX8_init 54 = .ok (.istore 4, 2) := by decide +kernel
theorem dX8_init_56 : decode cX8_init 56 = .ok (.aload_n 0, 1) := by decide +kernel
theorem dX8_init_57 : decode cX8_init 57 = .ok (.getfield 9, 3) := by decide +kernel
theorem dX8_init_60 : decode cX8_init 60 = .ok (.iload_n 3, 1) := by decide +kernel
theorem dX8_init_61 : decode cX8_init 61 = .ok (.iaload, 1) := by decide +kernel
theorem dX8_init_62 : decode cX8_init 62 = .ok (.ifCond .ne 19, 3) := by decide +kernel
theorem dX8_init_65 : decode cX8_init 65 = .ok (.iload_n 1, 1) := by decide +kernel
theorem dX8_init_66 : decode cX8_init 66 = .ok (.bipush 19, 2) := by decide +kernel
theorem dX8_init_68 : decode cX8_init 68 = .ok (.if_icmp .ge 13, 3) := by decide +kernel
theorem dX8_init_71 : decode cX8_init 71 = .ok (.iinc 1 1, 3) := by decide +kernel
theorem dX8_init_74 : decode cX8_init 74 = .ok (.aload_n 0, 1) := by decide +kernel
theorem dX8_init_75 : decode cX8_init 75 = .ok (.getfield 9, 3) := by decide +kernel
theorem dX8_init_78 : decode cX8_init 78 = .ok (.iload_n 3, 1) := by decide +kernel
theorem dX8_init_79 : decode cX8_init 79 = .ok (.iload_n 1, 1) := by decide +kernel
theorem dX8_init_80 : decode cX8_init 80 = .ok (.iastore, 1) := by decide +kernel
theorem dX8_init_81 : decode cX8_init 81 = .ok (.aload_n 0, 1) := by decide +kernel
theorem dX8_init_82 : decode cX8_init 82 = .ok (.getfield 9, 3) := by decide +kernel
theorem dX8_init_85 : decode cX8_init 85 = .ok (.iload 4, 2) := by decide +kernel
theorem dX8_init_87 : decode cX8_init 87 = .ok (.iaload, 1) := by decide +kernel
theorem dX8_init_88 : decode cX8_init 88 = .ok (.ifCond .ne 20, 3) := by decide +kernel
theorem dX8_init_91 : decode cX8_init 91 = .ok (.iload_n 1, 1) := by decide +kernel
theorem dX8_init_92 : decode cX8_init 92 = .ok (.bipush 19, 2) := by decide +kernel
theorem dX8_init_94 : decode cX8_init 94 = .ok (.if_icmp .ge 14, 3) := by decide +kernel
theorem dX8_init_97 : decode cX8_init 97 = .ok (.iinc 1 1, 3) := by decide +kernel
theorem dX8_init_100 : decode cX8_init 100 = .ok (.aload_n 0, 1) := by decide +kernel
theorem dX8_init_101 : decode cX8_init 101 = .ok (.getfield 9, 3) := by decide +kernel
theorem dX8_init_104 : decode cX8_init 104 = .ok (.iload 4, 2) := by decide +kernel
theorem dX8_init_106 : decode cX8_init 106 = .ok (.iload_n 1, 1) := by decide +kernel
theorem dX8_init_107 : decode cX8_init 107 = .ok (.iastore, 1) := by decide +kernel
theorem dX8_init_108 : decode cX8_init 108 = .ok (.aload_n 0, 1) := by decide +kernel
theorem dX8_init_109 : decode cX8_init 109 = .ok (.getfield 15, 3) := by decide +kernel
theorem dX8_init_112 : decode cX8_init 112 = .ok (.aload_n 0, 1) := by decide +kernel
theorem dX8_init_113 : decode cX8_init 113 = .ok (.getfield 9, 3) := by decide +kernel
theorem dX8_init_116 : decode cX8_init 116 = .ok (.iload_n 3, 1) := by decide +kernel
theorem dX8_init_117 : decode cX8_init 117 = .ok (.iaload, 1) := by decide +kernel
theorem dX8_init_118 : decode cX8_init 118 = .ok (.bipush 20, 2) := by decide +kernel
theorem dX8_init_120 : decode cX8_init 120 = .ok (.imul, 1) := by decide +kernel
theorem dX8_init_121 : decode cX8_init 121 = .ok (.aload_n 0, 1) := by decide +kernel
theorem dX8_init_122 : decode cX8_init 122 = .ok (.getfield 9, 3) := by decide +kernel
theorem dX8_init_125 : decode cX8_init 125 = .ok (.iload 4, 2) := by decide +kernel
theorem dX8_init_127 : decode cX8_init 127 = .ok (.iaload, 1) := by decide +kernel
theorem dX8_init_128 : decode cX8_init 128 = .ok (.iadd, 1) := by decide +kernel
theorem dX8_init_129 : decode cX8_init 129 = .ok (.iload_n 2, 1) := by decide +kernel
theorem dX8_init_130 : decode cX8_init 130 = .ok (.iastore, 1) := by decide +kernel
theorem dX8_init_131 : decode cX8_init 131 = .ok (.iinc 2 1, 3) := by decide +kernel
theorem dX8_init_134 : decode cX8_init 134 = .ok (.goto (-108), 3) := by decide +kernel
theorem dX8_init_137 : decode cX8_init 137 = .ok (.return_, 1) := by decide +kernel
theorem dX8_wordOf_0 : decode cX8_wordOf 0 = .ok (.iload_n 1, 1) := by decide +kernel
theorem dX8_wordOf_1 : decode cX8_wordOf 1 = .ok (.ifCond .lt 19, 3) := by decide +kernel
theorem dX8_wordOf_4 : decode cX8_wordOf 4 = .ok (.iload_n 1, 1) := by decide +kernel
theorem dX8_wordOf_5 : decode cX8_wordOf 5 = .ok (.getstatic 18, 3) := by decide +kernel
theorem dX8_wordOf_8 : decode cX8_wordOf 8 = .ok (.arraylength, 1) := by decide +kernel
theorem dX8_wordOf_9 : decode cX8_wordOf 9 = .ok (.if_icmp .ge 11, 3) := by decide +kernel
theorem dX8_wordOf_12 : decode cX8_wordOf 12 = .ok (.getstatic 18, 3) := by decide +kernel
theorem dX8_wordOf_15 : decode cX8_wordOf 15 = .ok (.iload_n 1, 1) := by decide +kernel
theorem dX8_wordOf_16 : decode cX8_wordOf 16 = .ok (.iaload, 1) := by decide +kernel
theorem dX8_wordOf_17 : decode cX8_wordOf 17 = .ok (.goto 4, 3) := by decide +kernel
theorem dX8_wordOf_20 : decode cX8_wordOf 20 = .ok (.iconst (-1), 1) := by decide +kernel
theorem dX8_wordOf_21 : decode cX8_wordOf 21 = .ok (.ireturn, 1) := by decide +kernel
theorem dX8_byteOf_0 : decode cX8_byteOf 0 = .ok (.iload_n 1, 1) := by decide +kernel
theorem dX8_byteOf_1 : decode cX8_byteOf 1 = .ok (.ifCond .lt 10, 3) := by decide +kernel
theorem dX8_byteOf_4 : decode cX8_byteOf 4 = .ok (.iload_n 1, 1) := by decide +kernel
theorem dX8_byteOf_5 : decode cX8_byteOf 5 = .ok (.sipush 16384, 3) := by decide +kernel
theorem dX8_byteOf_8 : decode cX8_byteOf 8 = .ok (.if_icmp .lt 5, 3) := by decide +kernel
theorem dX8_byteOf_11 : decode cX8_byteOf 11 = .ok (.iconst (-1), 1) := by decide +kernel
theorem dX8_byteOf_12 : decode cX8_byteOf 12 = .ok (.ireturn, 1) := by decide +kernel
theorem dX8_byteOf_13 : decode cX8_byteOf 13 = .ok (.aload_n 0, 1) := by decide +kernel
theorem dX8_byteOf_14 : decode cX8_byteOf 14 = .ok (.getfield 15, 3) := by decide +kernel
theorem dX8_byteOf_17 : decode cX8_byteOf 17 = .ok (.aload_n 0, 1) := by decide +kernel
theorem dX8_byteOf_18 : decode cX8_byteOf 18 = .ok (.getfield 9, 3) := by decide +kernel
theorem dX8_byteOf_21 : decode cX8_byteOf 21 = .ok (.iload_n 1, 1) := by decide +kernel
theorem dX8_byteOf_22 : decode cX8_byteOf 22 = .ok (.bipush 7, 2) := by decide +kernel
theorem dX8_byteOf_24 : decode cX8_byteOf 24 = .ok (.iushr, 1) := by decide +kernel
theorem dX8_byteOf_25 : decode cX8_byteOf 25 = .ok (.iaload, 1) := by decide +kernel
theorem dX8_byteOf_26 : decode cX8_byteOf 26 = .ok (.bipush 20, 2) := by decide +kernel
theorem dX8_byteOf_28 : decode cX8_byteOf 28 = .ok (.imul, 1) := by decide +kernel
theorem dX8_byteOf_29 : decode cX8_byteOf 29 = .ok (.aload_n 0, 1) := by decide +kernel
theorem dX8_byteOf_30 : decode cX8_byteOf 30 = .ok (.getfield 9, 3) := by decide +kernel
theorem dX8_byteOf_33 : decode cX8_byteOf 33 = .ok (.iload_n 1, 1) := by decide +kernel
theorem dX8_byteOf_34 : decode cX8_byteOf 34 = .ok (.bipush 127, 2) := by decide +kernel
theorem dX8_byteOf_36 : decode cX8_byteOf 36 = .ok (.iand, 1) := by decide +kernel
theorem dX8_byteOf_37 : decode cX8_byteOf 37 = .ok (.iaload, 1) := by decide +kernel
theorem dX8_byteOf_38 : decode cX8_byteOf 38 = .ok (.iadd, 1) := by decide +kernel
theorem dX8_byteOf_39 : decode cX8_byteOf 39 = .ok (.iaload, 1) := by decide +kernel
theorem dX8_byteOf_40 : decode cX8_byteOf 40 = .ok (.istore_n 2, 1) := by decide +kernel
theorem dX8_byteOf_41 : decode cX8_byteOf 41 = .ok (.aload_n 0, 1) := by decide +kernel
theorem dX8_byteOf_42 : decode cX8_byteOf 42 = .ok (.iload_n 2, 1) := by decide +kernel
theorem dX8_byteOf_43 : decode cX8_byteOf 43 = .ok (.invokevirtual 21, 3) := by decide +kernel
theorem dX8_byteOf_46 : decode cX8_byteOf 46 = .ok (.iload_n 1, 1) := by decide +kernel
theorem dX8_byteOf_47 : decode cX8_byteOf 47 = .ok (.if_icmp .ne 7, 3) := by decide +kernel
theorem dX8_byteOf_50 : decode cX8_byteOf 50 = .ok (.iload_n 2, 1) := by decide +kernel
theorem dX8_byteOf_51 : decode cX8_byteOf 51 = .ok (.goto 4, 3) := by decide +kernel
theorem dX8_byteOf_54 : decode cX8_byteOf 54 = .ok (.iconst (-1), 1) := by decide +kernel
theorem dX8_byteOf_55 : decode cX8_byteOf 55 = .ok (.ireturn, 1) := by decide +kernel
theorem dX3_init_0 : decode cX3_init 0 = .ok (.aload_n 0, 1) := by decide +kernel
theorem dX3_init_1 : decode cX3_init 1 = .ok (.invokespecial 3, 3) := by decide +kernel
theorem dX3_init_4 : decode cX3_init 4 = .ok (.aload_n 0, 1) := by decide +kernel
theorem dX3_init_5 : decode cX3_init 5 = .ok (.sipush 11250, 3) := by decide +kernel
theorem dX3_init_8 : decode cX3_init 8 = .ok (.newarray .int, 2) := by decide +kernel
theorem dX3_init_10 : decode cX3_init 10 = .ok (.putfield 9, 3) := by decide +kernel
theorem dX3_init_13 : decode cX3_init 13 = .ok (.return_, 1) := by decide +kernel
theorem dX3_reset_0 : decode cX3_reset 0 = .ok (.aload_n 0, 1) := by decide +kernel
theorem dX3_reset_1 : decode cX3_reset 1 = .ok (.getfield 9, 3) := by decide +kernel
theorem dX3_reset_4 : decode cX3_reset 4 = .ok (.iconst 0, 1) := by decide +kernel
theorem dX3_reset_5 : decode cX3_reset 5 = .ok (.invokestatic 15, 3) := by decide +kernel
theorem dX3_reset_8 : decode cX3_reset 8 = .ok (.aload_n 0, 1) := by decide +kernel
theorem dX3_reset_9 : decode cX3_reset 9 = .ok (.iconst 0, 1) := by decide +kernel
theorem dX3_reset_10 : decode cX3_reset 10 = .ok (.putfield 21, 3) := by decide +kernel
theorem dX3_reset_13 : decode cX3_reset 13 = .ok (.aload_n 0, 1) := by decide +kernel
theorem dX3_reset_14 : decode cX3_reset 14 = .ok (.iload_n 1, 1) := by decide +kernel
theorem dX3_reset_15 : decode cX3_reset 15 = .ok (.putfield 25, 3) := by decide +kernel
theorem dX3_reset_18 : decode cX3_reset 18 = .ok (.return_, 1) := by decide +kernel
theorem dX3_size_0 : decode cX3_size 0 = .ok (.aload_n 0, 1) := by decide +kernel
theorem dX3_size_1 : decode cX3_size 1 = .ok (.getfield 21, 3) := by decide +kernel
theorem dX3_size_4 : decode cX3_size 4 = .ok (.ireturn, 1) := by decide +kernel
theorem dX3_framesPressed_0 : decode cX3_framesPressed 0 = .ok (.aload_n 0, 1) := by decide +kernel
theorem dX3_framesPressed_1 : decode cX3_framesPressed 1 = .ok (.getfield 25, 3) := by decide +kernel
theorem dX3_framesPressed_4 : decode cX3_framesPressed 4 = .ok (.ireturn, 1) := by decide +kernel
theorem dX3_wasPressed_0 : decode cX3_wasPressed 0 = .ok (.iload_n 1, 1) := by decide +kernel
theorem dX3_wasPressed_1 : decode cX3_wasPressed 1 = .ok (.ifCond .lt 15, 3) := by decide +kernel
theorem dX3_wasPressed_4 : decode cX3_wasPressed 4 = .ok (.iload_n 1, 1) := by decide +kernel
theorem dX3_wasPressed_5 : decode cX3_wasPressed 5 = .ok (.aload_n 0, 1) := by decide +kernel
theorem dX3_wasPressed_6 : decode cX3_wasPressed 6 = .ok (.getfield 25, 3) := by decide +kernel
theorem dX3_wasPressed_9 : decode cX3_wasPressed 9 = .ok (.if_icmp .ge 7, 3) := by decide +kernel
theorem dX3_wasPressed_12 : decode cX3_wasPressed 12 = .ok (.iconst 1, 1) := by decide +kernel
theorem dX3_wasPressed_13 : decode cX3_wasPressed 13 = .ok (.goto 4, 3) := by decide +kernel
theorem dX3_wasPressed_16 : decode cX3_wasPressed 16 = .ok (.iconst 0, 1) := by decide +kernel
theorem dX3_wasPressed_17 : decode cX3_wasPressed 17 = .ok (.ireturn, 1) := by decide +kernel
theorem dX3_has_0 : decode cX3_has 0 = .ok (.iload_n 1, 1) := by decide +kernel
theorem dX3_has_1 : decode cX3_has 1 = .ok (.ifCond .lt 15, 3) := by decide +kernel
theorem dX3_has_4 : decode cX3_has 4 = .ok (.iload_n 1, 1) := by decide +kernel
theorem dX3_has_5 : decode cX3_has 5 = .ok (.aload_n 0, 1) := by decide +kernel
theorem dX3_has_6 : decode cX3_has 6 = .ok (.getfield 21, 3) := by decide +kernel
theorem dX3_has_9 : decode cX3_has 9 = .ok (.if_icmp .ge 7, 3) := by decide +kernel
theorem dX3_has_12 : decode cX3_has 12 = .ok (.iconst 1, 1) := by decide +kernel
theorem dX3_has_13 : decode cX3_has 13 = .ok (.goto 4, 3) := by decide +kernel
theorem dX3_has_16 : decode cX3_has 16 = .ok (.iconst 0, 1) := by decide +kernel
theorem dX3_has_17 : decode cX3_has 17 = .ok (.ireturn, 1) := by decide +kernel
theorem dX3_cell_0 : decode cX3_cell 0 = .ok (.iload_n 1, 1) := by decide +kernel
theorem dX3_cell_1 : decode cX3_cell 1 = .ok (.ifCond .lt 21, 3) := by decide +kernel
theorem dX3_cell_4 : decode cX3_cell 4 = .ok (.iload_n 1, 1) := by decide +kernel
theorem dX3_cell_5 : decode cX3_cell 5 = .ok (.aload_n 0, 1) := by decide +kernel
theorem dX3_cell_6 : decode cX3_cell 6 = .ok (.getfield 9, 3) := by decide +kernel
theorem dX3_cell_9 : decode cX3_cell 9 = .ok (.arraylength, 1) := by decide +kernel
theorem dX3_cell_10 : decode cX3_cell 10 = .ok (.if_icmp .ge 12, 3) := by decide +kernel
theorem dX3_cell_13 : decode cX3_cell 13 = .ok (.aload_n 0, 1) := by decide +kernel
theorem dX3_cell_14 : decode cX3_cell 14 = .ok (.getfield 9, 3) := by decide +kernel
theorem dX3_cell_17 : decode cX3_cell 17 = .ok (.iload_n 1, 1) := by decide +kernel
theorem dX3_cell_18 : decode cX3_cell 18 = .ok (.iaload, 1) := by decide +kernel
theorem dX3_cell_19 : decode cX3_cell 19 = .ok (.goto 4, 3) := by decide +kernel
theorem dX3_cell_22 : decode cX3_cell 22 = .ok (.iconst 0, 1) := by decide +kernel
theorem dX3_cell_23 : decode cX3_cell 23 = .ok (.ireturn, 1) := by decide +kernel
theorem dX3_peek_0 : decode cX3_peek 0 = .ok (.iload_n 1, 1) := by decide +kernel
theorem dX3_peek_1 : decode cX3_peek 1 = .ok (.iconst 5, 1) := by decide +kernel
theorem dX3_peek_2 : decode cX3_peek 2 = .ok (.ishr, 1) := by decide +kernel
theorem dX3_peek_3 : decode cX3_peek 3 = .ok (.istore_n 2, 1) := by decide +kernel
theorem dX3_peek_4 : decode cX3_peek 4 = .ok (.iload_n 1, 1) := by decide +kernel
theorem dX3_peek_5 : decode cX3_peek 5 = .ok (.bipush 31, 2) := by decide +kernel
theorem dX3_peek_7 : decode cX3_peek 7 = .ok (.iand, 1) := by decide +kernel
theorem dX3_peek_8 : decode cX3_peek 8 = .ok (.istore_n 3, 1) := by decide +kernel
theorem dX3_peek_9 : decode cX3_peek 9 = .ok (.iload_n 3, 1) := by decide +kernel
theorem dX3_peek_10 : decode cX3_peek 10 = .ok (.ifCond .ne 11, 3) := by decide +kernel
theorem dX3_peek_13 : decode cX3_peek 13 = .ok (.aload_n 0, 1) := by decide +kernel
theorem dX3_peek_14 : decode cX3_peek 14 = .ok (.iload_n 2, 1) := by decide +kernel
theorem dX3_peek_15 : decode cX3_peek 15 = .ok (.invokevirtual 28, 3) := by decide +kernel
theorem dX3_peek_18 : decode cX3_peek 18 = .ok (.goto 23, 3) := by decide +kernel
theorem dX3_peek_21 : decode cX3_peek 21 = .ok (.aload_n 0, 1) := by decide +kernel
theorem dX3_peek_22 : decode cX3_peek 22 = .ok (.iload_n 2, 1) := by decide +kernel
theorem dX3_peek_23 : decode cX3_peek 23 = .ok (.invokevirtual 28, 3) := by decide +kernel
theorem dX3_peek_26 : decode cX3_peek 26 = .ok (.iload_n 3, 1) := by decide +kernel
theorem dX3_peek_27 : decode cX3_peek 27 = .ok (.ishl, 1) := by decide +kernel
theorem dX3_peek_28 : decode cX3_peek 28 = .ok (.aload_n 0, 1) := by decide +kernel
theorem dX3_peek_29 : decode cX3_peek 29 = .ok (.iload_n 2, 1) := by decide +kernel
theorem dX3_peek_30 : decode cX3_peek 30 = .ok (.iconst 1, 1) := by decide +kernel
theorem dX3_peek_31 : decode cX3_peek 31 = .ok (.iadd, 1) := by decide +kernel
theorem dX3_peek_32 : decode cX3_peek 32 = .ok (.invokevirtual 28, 3) := by decide +kernel
theorem dX3_peek_35 : decode cX3_peek 35 = .ok (.bipush 32, 2) := by decide +kernel
theorem dX3_peek_37 : decode cX3_peek 37 = .ok (.iload_n 3, 1) := by decide +kernel
theorem dX3_peek_38 : decode cX3_peek 38 = .ok (.isub, 1) := by decide +kernel
theorem dX3_peek_39 : decode cX3_peek 39 = .ok (.iushr, 1) := by decide +kernel
theorem dX3_peek_40 : decode cX3_peek 40 = .ok (.ior, 1) := by decide +kernel
theorem dX3_peek_41 : decode cX3_peek 41 = .ok (.ireturn, 1) := by decide +kernel
theorem dX3_wordAt_0 : decode cX3_wordAt 0 = .ok (.aload_n 0, 1) := by decide +kernel
theorem dX3_wordAt_1 : decode cX3_wordAt 1 = .ok (.iload_n 1, 1) := by decide +kernel
theorem dX3_wordAt_2 : decode cX3_wordAt 2 = .ok (.bipush 24, 2) := by decide +kernel
theorem dX3_wordAt_4 : decode cX3_wordAt 4 = .ok (.iadd, 1) := by decide +kernel
theorem dX3_wordAt_5 : decode cX3_wordAt 5 = .ok (.iconst 3, 1) := by decide +kernel
theorem dX3_wordAt_6 : decode cX3_wordAt 6 = .ok (.iadd, 1) := by decide +kernel
theorem dX3_wordAt_7 : decode cX3_wordAt 7 = .ok (.bipush 17, 2) := by decide +kernel
theorem dX3_wordAt_9 : decode cX3_wordAt 9 = .ok (.iload_n 2, 1) := by decide +kernel
theorem dX3_wordAt_10 : decode cX3_wordAt 10 = .ok (.imul, 1) := by decide +kernel
theorem dX3_wordAt_11 : decode cX3_wordAt 11 = .ok (.iadd, 1) := by decide +kernel
theorem dX3_wordAt_12 : decode cX3_wordAt 12 = .ok (.invokevirtual 32, 3) := by decide +kernel
theorem dX3_wordAt_15 : decode cX3_wordAt 15 = .ok (.bipush 18, 2) := by decide +kernel
theorem dX3_wordAt_17 : decode cX3_wordAt 17 = .ok (.iushr, 1) := by decide +kernel
theorem dX3_wordAt_18 : decode cX3_wordAt 18 = .ok (.ireturn, 1) := by decide +kernel
theorem dX3_append_0 : decode cX3_append 0 = .ok (.iload_n 1, 1) := by decide +kernel
theorem dX3_append_1 : decode cX3_append 1 = .ok (.bipush 32, 2) := by decide +kernel
theorem dX3_append_3 : decode cX3_append 3 = .ok (.iload_n 2, 1) := by decide +kernel
theorem dX3_append_4 : decode cX3_append 4 = .ok (.isub, 1) := by decide +kernel
theorem dX3_append_5 : decode cX3_append 5 = .ok (.ishl, 1) := by decide +kernel
theorem dX3_append_6 : decode cX3_append 6 = .ok (.istore_n 3, 1) := by decide +kernel
theorem dX3_append_7 : decode cX3_append 7 = .ok (.aload_n 0, 1) := by decide +kernel
theorem dX3_append_8 : decode cX3_append 8 = .ok (.getfield 21, 3) := by decide +kernel
theorem dX3_append_11 : decode cX3_append 11 = .ok (.bipush 31, 2) := by decide +kernel
theorem dX3_append_13 : decode cX3_append 13 = .ok (.iand, 1) := by decide +kernel
theorem dX3_append_14 : decode cX3_append 14 = .ok (.istore 4, 2) := by decide +kernel
theorem dX3_append_16 : decode cX3_append 16 = .ok (.aload_n 0, 1) := by decide +kernel
theorem dX3_append_17 : decode cX3_append 17 = .ok (.aload_n 0, 1) := by decide +kernel
theorem dX3_append_18 : decode cX3_append 18 = .ok (.getfield 21, 3) := by decide +kernel
theorem dX3_append_21 : decode cX3_append 21 = .ok (.iconst 5, 1) := by decide +kernel
theorem dX3_append_22 : decode cX3_append 22 = .ok (.ishr, 1) := by decide +kernel
theorem dX3_append_23 : decode cX3_append 23 = .ok (.iload_n 3, 1) := by decide +kernel
theorem dX3_append_24 : decode cX3_append 24 = .ok (.iload 4, 2) := by decide +kernel
theorem dX3_append_26 : decode cX3_append 26 = .ok (.iushr, 1) := by decide +kernel
theorem dX3_append_27 : decode cX3_append 27 = .ok (.invokevirtual 35, 3) := by decide +kernel
theorem dX3_append_30 : decode cX3_append 30 = .ok (.iload 4, 2) := by decide +kernel
theorem dX3_append_32 : decode cX3_append 32 = .ok (.ifCond .le 22, 3) := by decide +kernel
theorem dX3_append_35 : decode cX3_append 35 = .ok (.aload_n 0, 1) := by decide +kernel
theorem dX3_append_36 : decode cX3_append 36 = .ok (.aload_n 0, 1) := by decide +kernel
theorem dX3_append_37 : decode cX3_append 37 = .ok (.getfield 21, 3) := by decide +kernel
theorem dX3_append_40 : decode cX3_append 40 = .ok (.iconst 5, 1) := by decide +kernel
theorem dX3_append_41 : decode cX3_append 41 = .ok (.ishr, 1) := by decide +kernel
theorem dX3_append_42 : decode cX3_append 42 = .ok (.iconst 1, 1) := by decide +kernel
theorem dX3_append_43 : decode cX3_append 43 = .ok (.iadd, 1) := by decide +kernel
theorem dX3_append_44 : decode cX3_append 44 = .ok (.iload_n 3, 1) := by decide +kernel
theorem dX3_append_45 : decode cX3_append 45 = .ok (.bipush 32, 2) := by decide +kernel
theorem dX3_append_47 : decode cX3_append 47 = .ok (.iload 4, 2) := by decide +kernel
theorem dX3_append_49 : decode cX3_append 49 = .ok (.isub, 1) := by decide +kernel
theorem dX3_append_50 : decode cX3_append 50 = .ok (.ishl, 1) := by decide +kernel
theorem dX3_append_51 : decode cX3_append 51 = .ok (.invokevirtual 35, 3) := by decide +kernel
theorem dX3_append_54 : decode cX3_append 54 = .ok (.aload_n 0, 1) := by decide +kernel
theorem dX3_append_55 : decode cX3_append 55 = .ok (.dup, 1) := by decide +kernel
theorem dX3_append_56 : decode cX3_append 56 = .ok (.getfield 21, 3) := by decide +kernel
theorem dX3_append_59 : decode cX3_append 59 = .ok (.iload_n 2, 1) := by decide +kernel
theorem dX3_append_60 : decode cX3_append 60 = .ok (.iadd, 1) := by decide +kernel
theorem dX3_append_61 : decode cX3_append 61 = .ok (.putfield 21, 3) := by decide +kernel
theorem dX3_append_64 : decode cX3_append 64 = .ok (.return_, 1) := by decide +kernel
theorem dX3_merge_0 : decode cX3_merge 0 = .ok (.iload_n 1, 1) := by decide +kernel
theorem dX3_merge_1 : decode cX3_merge 1 = .ok (.ifCond .lt 22, 3) := by decide +kernel
theorem dX3_merge_4 : decode cX3_merge 4 = .ok (.iload_n 1, 1) := by decide +kernel
theorem dX3_merge_5 : decode cX3_merge 5 = .ok (.aload_n 0, 1) := by decide +kernel
theorem dX3_merge_6 : decode cX3_merge 6 = .ok (.getfield 9, 3) := by decide +kernel
theorem dX3_merge_9 : decode cX3_merge 9 = .ok (.arraylength, 1) := by decide +kernel
theorem dX3_merge_10 : decode cX3_merge 10 = .ok (.if_icmp .ge 13, 3) := by decide +kernel
theorem dX3_merge_13 : decode cX3_merge 13 = .ok (.aload_n 0, 1) := by decide +kernel
theorem dX3_merge_14 : decode cX3_merge 14 = .ok (.getfield 9, 3) := by decide +kernel
theorem dX3_merge_17 : decode cX3_merge 17 = .ok (.iload_n 1, 1) := by decide +kernel
theorem dX3_merge_18 : decode cX3_merge 18 = .ok (.dup2, 1) := by decide +kernel
theorem dX3_merge_19 : decode cX3_merge 19 = .ok (.iaload, 1) := by decide +kernel
theorem dX3_merge_20 : decode cX3_merge 20 = .ok (.iload_n 2, 1) := by decide +kernel
theorem dX3_merge_21 : decode cX3_merge 21 = .ok (.ior, 1) := by decide +kernel
theorem dX3_merge_22 : decode cX3_merge 22 = .ok (.iastore, 1) := by decide +kernel
theorem dX3_merge_23 : decode cX3_merge 23 = .ok (.return_, 1) := by decide +kernel
theorem dX3_turn_0 : decode cX3_turn 0 = .ok (.aload_n 0, 1) := by decide +kernel
theorem dX3_turn_1 : decode cX3_turn 1 = .ok (.iload_n 1, 1) := by decide +kernel
theorem dX3_turn_2 : decode cX3_turn 2 = .ok (.invokevirtual 39, 3) := by decide +kernel
theorem dX3_turn_5 : decode cX3_turn 5 = .ok (.ifCond .eq 34, 3) := by decide +kernel
theorem dX3_turn_8 : decode cX3_turn 8 = .ok (.iload_n 1, 1) := by decide +kernel
theorem dX3_turn_9 : decode cX3_turn 9 = .ok (.iconst 5, 1) := by decide +kernel
theorem dX3_turn_10 : decode cX3_turn 10 = .ok (.ishr, 1) := by decide +kernel
theorem dX3_turn_11 : decode cX3_turn 11 = .ok (.aload_n 0, 1) := by decide +kernel
theorem dX3_turn_12 : decode cX3_turn 12 = .ok (.getfield 9, 3) := by decide +kernel
theorem dX3_turn_15 : decode cX3_turn 15 = .ok (.arraylength, 1) := by decide +kernel
theorem dX3_turn_16 : decode cX3_turn 16 = .ok (.if_icmp .ge 23, 3) := by decide +kernel
theorem dX3_turn_19 : decode cX3_turn 19 = .ok (.aload_n 0, 1) := by decide +kernel
theorem dX3_turn_20 : decode cX3_turn 20 = .ok (.getfield 9, 3) := by decide +kernel
theorem dX3_turn_23 : decode cX3_turn 23 = .ok (.iload_n 1, 1) := by decide +kernel
theorem dX3_turn_24 : decode cX3_turn 24 = .ok (.iconst 5, 1) := by decide +kernel
theorem dX3_turn_25 : decode cX3_turn 25 = .ok (.ishr, 1) := by decide +kernel
theorem dX3_turn_26 : decode cX3_turn 26 = .ok (.dup2, 1) := by decide +kernel
theorem dX3_turn_27 : decode cX3_turn 27 = .ok (.iaload, 1) := by decide +kernel
theorem dX3_turn_28 : decode cX3_turn 28 = .ok (.iconst 1, 1) := by decide +kernel
theorem dX3_turn_29 : decode cX3_turn 29 = .ok (.bipush 31, 2) := by decide +kernel
theorem dX3_turn_31 : decode cX3_turn 31 = .ok (.iload_n 1, 1) := by decide +kernel
theorem dX3_turn_32 : decode cX3_turn 32 = .ok (.bipush 31, 2) := by decide +kernel
theorem dX3_turn_34 : decode cX3_turn 34 = .ok (.iand, 1) := by decide +kernel
theorem dX3_turn_35 : decode cX3_turn 35 = .ok (.isub, 1) := by decide +kernel
theorem dX3_turn_36 : decode cX3_turn 36 = .ok (.ishl, 1) := by decide +kernel
theorem dX3_turn_37 : decode cX3_turn 37 = .ok (.ixor, 1) := by decide +kernel
theorem dX3_turn_38 : decode cX3_turn 38 = .ok (.iastore, 1) := by decide +kernel
theorem dX3_turn_39 : decode cX3_turn 39 = .ok (.return_, 1) := by decide +kernel
theorem dX3_behind_0 : decode cX3_behind 0 = .ok (.iload_n 1, 1) := by decide +kernel
theorem dX3_behind_1 : decode cX3_behind 1 = .ok (.bipush 32, 2) := by decide +kernel
theorem dX3_behind_3 : decode cX3_behind 3 = .ok (.iload_n 0, 1) := by decide +kernel
theorem dX3_behind_4 : decode cX3_behind 4 = .ok (.imul, 1) := by decide +kernel
theorem dX3_behind_5 : decode cX3_behind 5 = .ok (.isub, 1) := by decide +kernel
theorem dX3_behind_6 : decode cX3_behind 6 = .ok (.istore_n 2, 1) := by decide +kernel
theorem dX3_behind_7 : decode cX3_behind 7 = .ok (.iload_n 2, 1) := by decide +kernel
theorem dX3_behind_8 : decode cX3_behind 8 = .ok (.ifCond .gt 7, 3) := by decide +kernel
theorem dX3_behind_11 : decode cX3_behind 11 = .ok (.iconst (-1), 1) := by decide +kernel
theorem dX3_behind_12 : decode cX3_behind 12 = .ok (.goto 16, 3) := by decide +kernel
theorem dX3_behind_15 : decode cX3_behind 15 = .ok (.iload_n 2, 1) := by decide +kernel
theorem dX3_behind_16 : decode cX3_behind 16 = .ok (.bipush 32, 2) := by decide +kernel
theorem dX3_behind_18 : decode cX3_behind 18 = .ok (.if_icmp .lt 7, 3) := by decide +kernel
theorem dX3_behind_21 : decode cX3_behind 21 = .ok (.iconst 0, 1) := by decide +kernel
theorem dX3_behind_22 : decode cX3_behind 22 = .ok (.goto 6, 3) := by decide +kernel
theorem dX3_behind_25 : decode cX3_behind 25 = .ok (.iconst (-1), 1) := by decide +kernel
theorem dX3_behind_26 : decode cX3_behind 26 = .ok (.iload_n 2, 1) := by decide +kernel
theorem dX3_behind_27 : decode cX3_behind 27 = .ok (.iushr, 1) := by decide +kernel
theorem dX3_behind_28 : decode cX3_behind 28 = .ok (.ireturn, 1) := by decide +kernel
theorem dX3_blank_0 : decode cX3_blank 0 = .ok (.iload_n 1, 1) := by decide +kernel
theorem dX3_blank_1 : decode cX3_blank 1 = .ok (.iconst 0, 1) := by decide +kernel
theorem dX3_blank_2 : decode cX3_blank 2 = .ok (.invokestatic 43, 3) := by decide +kernel
theorem dX3_blank_5 : decode cX3_blank 5 = .ok (.iconst 5, 1) := by decide +kernel
theorem dX3_blank_6 : decode cX3_blank 6 = .ok (.ishr, 1) := by decide +kernel
theorem dX3_blank_7 : decode cX3_blank 7 = .ok (.istore_n 3, 1) := by decide +kernel
theorem dX3_blank_8 : decode cX3_blank 8 = .ok (.iload_n 3, 1) := by decide +kernel
theorem dX3_blank_9 : decode cX3_blank 9 = .ok (.aload_n 0, 1) := by decide +kernel
theorem dX3_blank_10 : decode cX3_blank 10 = .ok (.getfield 9, 3) := by decide +kernel
theorem dX3_blank_13 : decode cX3_blank 13 = .ok (.arraylength, 1) := by decide +kernel
theorem dX3_blank_14 : decode cX3_blank 14 = .ok (.if_icmp .ge 39, 3) := by decide +kernel
theorem dX3_blank_17 : decode cX3_blank 17 = .ok (.bipush 32, 2) := by decide +kernel
theorem dX3_blank_19 : decode cX3_blank 19 = .ok (.iload_n 3, 1) := by decide +kernel
theorem dX3_blank_20 : decode cX3_blank 20 = .ok (.imul, 1) := by decide +kernel
theorem dX3_blank_21 : decode cX3_blank 21 = .ok (.iload_n 2, 1) := by decide +kernel
theorem dX3_blank_22 : decode cX3_blank 22 = .ok (.if_icmp .ge 31, 3) := by decide +kernel
theorem dX3_blank_25 : decode cX3_blank 25 = .ok (.aload_n 0, 1) := by decide +kernel
theorem dX3_blank_26 : decode cX3_blank 26 = .ok (.getfield 9, 3) := by decide +kernel
theorem dX3_blank_29 : decode cX3_blank 29 = .ok (.iload_n 3, 1) := by decide +kernel
theorem dX3_blank_30 : decode cX3_blank 30 = .ok (.dup2, 1) := by decide +kernel
theorem dX3_blank_31 : decode cX3_blank 31 = .ok (.iaload, 1) := by decide +kernel
theorem dX3_blank_32 : decode cX3_blank 32 = .ok (.iload_n 3, 1) := by decide +kernel
theorem dX3_blank_33 : decode cX3_blank 33 = .ok (.iload_n 1, 1) := by decide +kernel
theorem dX3_blank_34 : decode cX3_blank 34 = .ok (.invokestatic 49, 3) := by decide +kernel
theorem dX3_blank_37 : decode cX3_blank 37 = .ok (.iconst (-1), 1) := by decide +kernel
theorem dX3_blank_38 : decode cX3_blank 38 = .ok (.ixor, 1) := by decide +kernel
theorem dX3_blank_39 : decode cX3_blank 39 = .ok (.iload_n 3, 1) := by decide +kernel
theorem dX3_blank_40 : decode cX3_blank 40 = .ok (.iload_n 2, 1) := by decide +kernel
theorem dX3_blank_41 : decode cX3_blank 41 = .ok (.invokestatic 49, 3) := by decide +kernel
theorem dX3_blank_44 : decode cX3_blank 44 = .ok (.ior, 1) := by decide +kernel
theorem dX3_blank_45 : decode cX3_blank 45 = .ok (.iand, 1) := by decide +kernel
theorem dX3_blank_46 : decode cX3_blank 46 = .ok (.iastore, 1) := by decide +kernel
theorem dX3_blank_47 : decode cX3_blank 47 = .ok (.iinc 3 1, 3) := by decide +kernel
theorem dX3_blank_50 : decode cX3_blank 50 = .ok (.goto (-42), 3) := by decide +kernel
theorem dX3_blank_53 : decode cX3_blank 53 = .ok (.return_, 1) := by decide +kernel
theorem dX3_insertZeros_0 : decode cX3_insertZeros 0 = .ok (.aload_n 0, 1) := by decide +kernel
theorem dX3_insertZeros_1 : decode cX3_insertZeros 1 = .ok (.getfield 21, 3) := by decide +kernel
theorem dX3_insertZeros_4 : decode cX3_insertZeros 4 = .ok (.iload_n 2, 1) := by decide +kernel
theorem dX3_insertZeros_5 : decode cX3_insertZeros 5 = .ok (.iadd, 1) := by decide +kernel
theorem dX3_insertZeros_6 : decode cX3_insertZeros 6 = .ok (.iconst 1, 1) := by decide +kernel
theorem dX3_insertZeros_7 : decode cX3_insertZeros 7 = .ok (.isub, 1) := by decide +kernel
theorem dX3_insertZeros_8 : decode cX3_insertZeros 8 = .ok (.iconst 5, 1) := by decide +kernel
theorem dX3_insertZeros_9 : decode cX3_insertZeros 9 = .ok (.ishr, 1) := by decide +kernel
theorem dX3_insertZeros_10 : decode cX3_insertZeros 10 = .ok (.aload_n 0, 1) := by decide +kernel
theorem dX3_insertZeros_11 : decode cX3_insertZeros 11 = .ok (.getfield 9, 3) := by decide +kernel
theorem dX3_insertZeros_14 : decode cX3_insertZeros 14 = .ok (.arraylength, 1) := by decide +kernel
theorem dX3_insertZeros_15 : decode cX3_insertZeros 15 = .ok (.iconst 1, 1) := by decide +kernel
theorem dX3_insertZeros_16 : decode cX3_insertZeros 16 = .ok (.isub, 1) := by decide +kernel
theorem dX3_insertZeros_17 : decode cX3_insertZeros 17 = .ok (.invokestatic 52, 3) := by decide +kernel
theorem dX3_insertZeros_20 : decode cX3_insertZeros 20 = .ok (.istore_n 3, 1) := by decide +kernel
theorem dX3_insertZeros_21 : decode cX3_insertZeros 21 = .ok (.iload_n 3, 1) := by decide +kernel
theorem dX3_insertZeros_22 : decode cX3_insertZeros 22 = .ok (.ifCond .lt 55, 3) := by decide +kernel
theorem dX3_insertZeros_25 : decode cX3_insertZeros 25 = .ok (.iload_n 3, 1) := by decide +kernel
theorem dX3_insertZeros_26 : decode cX3_insertZeros 26 = .ok (.iload_n 1, 1) := by decide +kernel
theorem dX3_insertZeros_27 : decode cX3_insertZeros 27 = .ok (.iconst 5, 1) := by decide +kernel
theorem dX3_insertZeros_28 : decode cX3_insertZeros 28 = .ok (.ishr, 1) := by decide +kernel
theorem dX3_insertZeros_29 : decode cX3_insertZeros 29 = .ok (.if_icmp .lt 48, 3) := by decide +kernel
theorem dX3_insertZeros_32 : decode cX3_insertZeros 32 = .ok (.aload_n 0, 1) := by decide +kernel
theorem dX3_insertZeros_33 : decode cX3_insertZeros 33 = .ok (.getfield 9, 3) := by decide +kernel
theorem dX3_insertZeros_36 : decode cX3_insertZeros 36 = .ok (.iload_n 3, 1) := by decide +kernel
theorem dX3_insertZeros_37 : decode cX3_insertZeros 37 = .ok (.aload_n 0, 1) := by decide +kernel
theorem dX3_insertZeros_38 : decode cX3_insertZeros 38 = .ok (.getfield 9, 3) := by decide +kernel
theorem dX3_insertZeros_41 : decode cX3_insertZeros 41 = .ok (.iload_n 3, 1) := by decide +kernel
theorem dX3_insertZeros_42 : decode cX3_insertZeros 42 = .ok (.iaload, 1) := by decide +kernel
theorem dX3_insertZeros_43 : decode cX3_insertZeros 43 = .ok (.iload_n 3, 1) := by decide +kernel
theorem dX3_insertZeros_44 : decode cX3_insertZeros 44 = .ok (.iload_n 1, 1) := by decide +kernel
theorem dX3_insertZeros_45 : decode cX3_insertZeros 45 = .ok (.invokestatic 49, 3) := by decide +kernel
theorem dX3_insertZeros_48 : decode cX3_insertZeros 48 = .ok (.iconst (-1), 1) := by decide +kernel
theorem dX3_insertZeros_49 : decode cX3_insertZeros 49 = .ok (.ixor, 1) := by decide +kernel
theorem dX3_insertZeros_50 : decode cX3_insertZeros 50 = .ok (.iand, 1) := by decide +kernel
theorem dX3_insertZeros_51 : decode cX3_insertZeros 51 = .ok (.aload_n 0, 1) := by decide +kernel
theorem dX3_insertZeros_52 : decode cX3_insertZeros 52 = .ok (.bipush 32, 2) := by decide +kernel
theorem dX3_insertZeros_54 : decode cX3_insertZeros 54 = .ok (.iload_n 3, 1) := by decide +kernel
theorem dX3_insertZeros_55 : decode cX3_insertZeros 55 = .ok (.imul, 1) := by decide +kernel
theorem dX3_insertZeros_56 : decode cX3_insertZeros 56 = .ok (.iload_n 2, 1) := by decide +kernel
theorem dX3_insertZeros_57 : decode cX3_insertZeros 57 = .ok (.isub, 1) := by decide +kernel
theorem dX3_insertZeros_58 : decode cX3_insertZeros 58 = .ok (.invokevirtual 32, 3) := by decide +kernel
theorem dX3_insertZeros_61 : decode cX3_insertZeros 61 = .ok (.iload_n 3, 1) := by decide +kernel
theorem dX3_insertZeros_62 : decode cX3_insertZeros 62 = .ok (.iload_n 1, 1) := by decide +kernel
theorem dX3_insertZeros_63 : decode cX3_insertZeros 63 = .ok (.iload_n 2, 1) := by decide +kernel
theorem dX3_insertZeros_64 : decode cX3_insertZeros 64 = .ok (.iadd, 1) := by decide +kernel
theorem dX3_insertZeros_65 : decode cX3_insertZeros 65 = .ok (.invokestatic 49, 3) := by decide +kernel
theorem dX3_insertZeros_68 : decode cX3_insertZeros 68 = .ok (.iand, 1) := by decide +kernel
theorem dX3_insertZeros_69 : decode cX3_insertZeros 69 = .ok (.ior, 1) := by decide +kernel
theorem dX3_insertZeros_70 : decode cX3_insertZeros 70 = .ok (.iastore, 1) := by decide +kernel
theorem dX3_insertZeros_71 : decode cX3_insertZeros 71 = .ok (.iinc 3 (-1), 3) := by decide +kernel
theorem dX3_insertZeros_74 : decode cX3_insertZeros 74 = .ok (.goto (-53), 3) := by decide +kernel
theorem dX3_insertZeros_77 : decode cX3_insertZeros 77 = .ok (.aload_n 0, 1) := by decide +kernel
theorem dX3_insertZeros_78 : decode cX3_insertZeros 78 = .ok (.dup, 1) := by decide +kernel
theorem dX3_insertZeros_79 : decode cX3_insertZeros 79 = .ok (.getfield 21, 3) := by decide +kernel
theorem dX3_insertZeros_82 : decode cX3_insertZeros 82 = .ok (.iload_n 2, 1) := by decide +kernel
theorem dX3_insertZeros_83 : decode cX3_insertZeros 83 = .ok (.iadd, 1) := by decide +kernel
theorem dX3_insertZeros_84 : decode cX3_insertZeros 84 = .ok (.putfield 21, 3) := by decide +kernel
theorem dX3_insertZeros_87 : decode cX3_insertZeros 87 = .ok (.return_, 1) := by decide +kernel
theorem dX3_remove_0 : decode cX3_remove 0 = .ok (.iload_n 2, 1) := by decide +kernel
theorem dX3_remove_1 : decode cX3_remove 1 = .ok (.aload_n 0, 1) := by decide +kernel
theorem dX3_remove_2 : decode cX3_remove 2 = .ok (.getfield 21, 3) := by decide +kernel
theorem dX3_remove_5 : decode cX3_remove 5 = .ok (.iload_n 1, 1) := by decide +kernel
theorem dX3_remove_6 : decode cX3_remove 6 = .ok (.isub, 1) := by decide +kernel
theorem dX3_remove_7 : decode cX3_remove 7 = .ok (.invokestatic 52, 3) := by decide +kernel
theorem dX3_remove_10 : decode cX3_remove 10 = .ok (.istore_n 3, 1) := by decide +kernel
theorem dX3_remove_11 : decode cX3_remove 11 = .ok (.iload_n 1, 1) := by decide +kernel
theorem dX3_remove_12 : decode cX3_remove 12 = .ok (.iconst 0, 1) := by decide +kernel
theorem dX3_remove_13 : decode cX3_remove 13 = .ok (.invokestatic 43, 3) := by decide +kernel
theorem dX3_remove_16 : decode cX3_remove 16 = .ok (.iconst 5, 1) := by decide +kernel
theorem dX3_remove_17 : decode cX3_remove 17 = .ok (.ishr, 1) := by decide +kernel
theorem dX3_remove_18 : decode cX3_remove 18 = .ok (.istore 4, 2) := by decide +kernel
theorem dX3_remove_20 : decode cX3_remove 20 = .ok (.iload 4, 2) := by decide +kernel
theorem dX3_remove_22 : decode cX3_remove 22 = .ok (.aload_n 0, 1) := by decide +kernel
theorem dX3_remove_23 : decode cX3_remove 23 = .ok (.getfield 9, 3) := by decide +kernel
theorem dX3_remove_26 : decode cX3_remove 26 = .ok (.arraylength, 1) := by decide +kernel
theorem dX3_remove_27 : decode cX3_remove 27 = .ok (.if_icmp .ge 63, 3) := by decide +kernel
theorem dX3_remove_30 : decode cX3_remove 30 = .ok (.bipush 32, 2) := by decide +kernel
theorem dX3_remove_32 : decode cX3_remove 32 = .ok (.iload 4, 2) := by decide +kernel
theorem dX3_remove_34 : decode cX3_remove 34 = .ok (.imul, 1) := by decide +kernel
theorem dX3_remove_35 : decode cX3_remove 35 = .ok (.aload_n 0, 1) := by decide +kernel
theorem dX3_remove_36 : decode cX3_remove 36 = .ok (.getfield 21, 3) := by decide +kernel
theorem dX3_remove_39 : decode cX3_remove 39 = .ok (.if_icmp .ge 51, 3) := by decide +kernel
theorem dX3_remove_42 : decode cX3_remove 42 = .ok (.aload_n 0, 1) := by decide +kernel
theorem dX3_remove_43 : decode cX3_remove 43 = .ok (.getfield 9, 3) := by decide +kernel
theorem dX3_remove_46 : decode cX3_remove 46 = .ok (.iload 4, 2) := by decide +kernel
theorem dX3_remove_48 : decode cX3_remove 48 = .ok (.aload_n 0, 1) := by decide +kernel
theorem dX3_remove_49 : decode cX3_remove 49 = .ok (.getfield 9, 3) := by decide +kernel
theorem dX3_remove_52 : decode cX3_remove 52 = .ok (.iload 4, 2) := by decide +kernel
theorem dX3_remove_54 : decode cX3_remove 54 = .ok (.iaload, 1) := by decide +kernel
theorem dX3_remove_55 : decode cX3_remove 55 = .ok (.iload 4, 2) := by decide +kernel
theorem dX3_remove_57 : decode cX3_remove 57 = .ok (.iload_n 1, 1) := by decide +kernel
theorem dX3_remove_58 : decode cX3_remove 58 = .ok (.invokestatic 49, 3) := by decide +kernel
theorem dX3_remove_61 : decode cX3_remove 61 = .ok (.iconst (-1), 1) := by decide +kernel
theorem dX3_remove_62 : decode cX3_remove 62 = .ok (.ixor, 1) := by decide +kernel
theorem dX3_remove_63 : decode cX3_remove 63 = .ok (.iand, 1) := by decide +kernel
theorem dX3_remove_64 : decode cX3_remove 64 = .ok (.aload_n 0, 1) := by decide +kernel
theorem dX3_remove_65 : decode cX3_remove 65 = .ok (.bipush 32, 2) := by decide +kernel
theorem dX3_remove_67 : decode cX3_remove 67 = .ok (.iload 4, 2) := by decide +kernel
theorem dX3_remove_69 : decode cX3_remove 69 = .ok (.imul, 1) := by decide +kernel
theorem dX3_remove_70 : decode cX3_remove 70 = .ok (.iload_n 3, 1) := by decide +kernel
theorem dX3_remove_71 : decode cX3_remove 71 = .ok (.iadd, 1) := by decide +kernel
theorem dX3_remove_72 : decode cX3_remove 72 = .ok (.invokevirtual 32, 3) := by decide +kernel
theorem dX3_remove_75 : decode cX3_remove 75 = .ok (.iload 4, 2) := by decide +kernel
theorem dX3_remove_77 : decode cX3_remove 77 = .ok (.iload_n 1, 1) := by decide +kernel
theorem dX3_remove_78 : decode cX3_remove 78 = .ok (.invokestatic 49, 3) := by decide +kernel
theorem dX3_remove_81 : decode cX3_remove 81 = .ok (.iand, 1) := by decide +kernel
theorem dX3_remove_82 : decode cX3_remove 82 = .ok (.ior, 1) := by decide +kernel
theorem dX3_remove_83 : decode cX3_remove 83 = .ok (.iastore, 1) := by decide +kernel
theorem dX3_remove_84 : decode cX3_remove 84 = .ok (.iinc 4 1, 3) := by decide +kernel
theorem dX3_remove_87 : decode cX3_remove 87 = .ok (.goto (-67), 3) := by decide +kernel
theorem dX3_remove_90 : decode cX3_remove 90 = .ok (.aload_n 0, 1) := by decide +kernel
theorem dX3_remove_91 : decode cX3_remove 91 = .ok (.dup, 1) := by decide +kernel
theorem dX3_remove_92 : decode cX3_remove 92 = .ok (.getfield 21, 3) := by decide +kernel
theorem dX3_remove_95 : decode cX3_remove 95 = .ok (.iload_n 3, 1) := by decide +kernel
theorem dX3_remove_96 : decode cX3_remove 96 = .ok (.isub, 1) := by decide +kernel
theorem dX3_remove_97 : decode cX3_remove 97 = .ok (.putfield 21, 3) := by decide +kernel
theorem dX3_remove_100 : decode cX3_remove 100 = .ok (.return_, 1) := by decide +kernel
theorem dX3_rise_0 : decode cX3_rise 0 = .ok (.iload_n 0, 1) := by decide +kernel
theorem dX3_rise_1 : decode cX3_rise 1 = .ok (.iload_n 0, 1) := by decide +kernel
theorem dX3_rise_2 : decode cX3_rise 2 = .ok (.iconst 1, 1) := by decide +kernel
theorem dX3_rise_3 : decode cX3_rise 3 = .ok (.iushr, 1) := by decide +kernel
theorem dX3_rise_4 : decode cX3_rise 4 = .ok (.ixor, 1) := by decide +kernel
theorem dX3_rise_5 : decode cX3_rise 5 = .ok (.istore_n 2, 1) := by decide +kernel
theorem dX3_rise_6 : decode cX3_rise 6 = .ok (.iload_n 2, 1) := by decide +kernel
theorem dX3_rise_7 : decode cX3_rise 7 = .ok (.iload_n 2, 1) := by decide +kernel
theorem dX3_rise_8 : decode cX3_rise 8 = .ok (.iconst 2, 1) := by decide +kernel
theorem dX3_rise_9 : decode cX3_rise 9 = .ok (.iushr, 1) := by decide +kernel
theorem dX3_rise_10 : decode cX3_rise 10 = .ok (.ixor, 1) := by decide +kernel
theorem dX3_rise_11 : decode cX3_rise 11 = .ok (.istore_n 2, 1) := by decide +kernel
theorem dX3_rise_12 : decode cX3_rise 12 = .ok (.iload_n 2, 1) := by decide +kernel
theorem dX3_rise_13 : decode cX3_rise 13 = .ok (.iload_n 2, 1) := by decide +kernel
theorem dX3_rise_14 : decode cX3_rise 14 = .ok (.iconst 4, 1) := by decide +kernel
theorem dX3_rise_15 : decode cX3_rise 15 = .ok (.iushr, 1) := by decide +kernel
theorem dX3_rise_16 : decode cX3_rise 16 = .ok (.ixor, 1) := by decide +kernel
theorem dX3_rise_17 : decode cX3_rise 17 = .ok (.istore_n 2, 1) := by decide +kernel
theorem dX3_rise_18 : decode cX3_rise 18 = .ok (.iload_n 2, 1) := by decide +kernel
theorem dX3_rise_19 : decode cX3_rise 19 = .ok (.iload_n 2, 1) := by decide +kernel
theorem dX3_rise_20 : decode cX3_rise 20 = .ok (.bipush 8, 2) := by decide +kernel
theorem dX3_rise_22 : decode cX3_rise 22 = .ok (.iushr, 1) := by decide +kernel
theorem dX3_rise_23 : decode cX3_rise 23 = .ok (.ixor, 1) := by decide +kernel
theorem dX3_rise_24 : decode cX3_rise 24 = .ok (.istore_n 2, 1) := by decide +kernel
theorem dX3_rise_25 : decode cX3_rise 25 = .ok (.iload_n 2, 1) := by decide +kernel
theorem dX3_rise_26 : decode cX3_rise 26 = .ok (.iload_n 2, 1) := by decide +kernel
theorem dX3_rise_27 : decode cX3_rise 27 = .ok (.bipush 16, 2) := by decide +kernel
theorem dX3_rise_29 : decode cX3_rise 29 = .ok (.iushr, 1) := by decide +kernel
theorem dX3_rise_30 : decode cX3_rise 30 = .ok (.ixor, 1) := by decide +kernel
theorem dX3_rise_31 : decode cX3_rise 31 = .ok (.istore_n 2, 1) := by decide +kernel
theorem dX3_rise_32 : decode cX3_rise 32 = .ok (.iload_n 1, 1) := by decide +kernel
theorem dX3_rise_33 : decode cX3_rise 33 = .ok (.bipush 32, 2) := by decide +kernel
theorem dX3_rise_35 : decode cX3_rise 35 = .ok (.if_icmp .lt 7, 3) := by decide +kernel
theorem dX3_rise_38 : decode cX3_rise 38 = .ok (.iconst (-1), 1) := by decide +kernel
theorem dX3_rise_39 : decode cX3_rise 39 = .ok (.goto 8, 3) := by decide +kernel
theorem dX3_rise_42 : decode cX3_rise 42 = .ok (.iconst (-1), 1) := by decide +kernel
theorem dX3_rise_43 : decode cX3_rise 43 = .ok (.iload_n 1, 1) := by decide +kernel
theorem dX3_rise_44 : decode cX3_rise 44 = .ok (.iushr, 1) := by decide +kernel
theorem dX3_rise_45 : decode cX3_rise 45 = .ok (.iconst (-1), 1) := by decide +kernel
theorem dX3_rise_46 : decode cX3_rise 46 = .ok (.ixor, 1) := by decide +kernel
theorem dX3_rise_47 : decode cX3_rise 47 = .ok (.istore_n 3, 1) := by decide +kernel
theorem dX3_rise_48 : decode cX3_rise 48 = .ok (.iload_n 1, 1) := by decide +kernel
theorem dX3_rise_49 : decode cX3_rise 49 = .ok (.iconst 2, 1) := by decide +kernel
theorem dX3_rise_50 : decode cX3_rise 50 = .ok (.iload_n 2, 1) := by decide +kernel
theorem dX3_rise_51 : decode cX3_rise 51 = .ok (.iload_n 3, 1) := by decide +kernel
theorem dX3_rise_52 : decode cX3_rise 52 = .ok (.iand, 1) := by decide +kernel
theorem dX3_rise_53 : decode cX3_rise 53 = .ok (.invokestatic 55, 3) := by decide +kernel
theorem dX3_rise_56 : decode cX3_rise 56 = .ok (.imul, 1) := by decide +kernel
theorem dX3_rise_57 : decode cX3_rise 57 = .ok (.isub, 1) := by decide +kernel
theorem dX3_rise_58 : decode cX3_rise 58 = .ok (.ireturn, 1) := by decide +kernel
theorem dX3_balanceBehind_0 : decode cX3_balanceBehind 0 = .ok (.iconst 0, 1) := by decide +kernel
theorem dX3_balanceBehind_1 : decode cX3_balanceBehind 1 = .ok (.istore_n 2, 1) := by decide +kernel
theorem dX3_balanceBehind_2 : decode cX3_balanceBehind 2 = .ok (.iconst 1, 1) := by decide +kernel
theorem dX3_balanceBehind_3 : decode cX3_balanceBehind 3 = .ok (.istore_n 3, 1) := by decide +kernel
theorem dX3_balanceBehind_4 : decode cX3_balanceBehind 4 = .ok (.iconst 0, 1) := by decide +kernel
theorem dX3_balanceBehind_5 : decode cX3_balanceBehind 5 = .ok (.istore 4, 2) := by decide +kernel
theorem dX3_balanceBehind_7 : decode cX3_balanceBehind 7 = .ok (.bipush 32, 2) := by decide +kernel
theorem dX3_balanceBehind_9 : decode cX3_balanceBehind 9 = .ok (.iload 4, 2) := by decide +kernel
theorem dX3_balanceBehind_11 : decode cX3_balanceBehind 11 = .ok (.imul, 1) := by decide +kernel
theorem dX3_balanceBehind_12 : decode cX3_balanceBehind 12 = .ok (.iload_n 1, 1) := by decide +kernel
theorem dX3_balanceBehind_13 : decode cX3_balanceBehind 13 = .ok (.if_icmp .ge 53, 3) := by decide +kernel
theorem dX3_balanceBehind_16 : decode cX3_balanceBehind 16 = .ok (.aload_n 0, 1) := by decide +kernel
theorem dX3_balanceBehind_17 : decode cX3_balanceBehind 17 = .ok (.iload 4, 2) := by decide +kernel
theorem dX3_balanceBehind_19 : decode cX3_balanceBehind 19 = .ok (.invokevirtual 28, 3) := by decide +kernel
theorem dX3_balanceBehind_22 : decode cX3_balanceBehind 22 = .ok (.istore 5, 2) := by decide +kernel
theorem dX3_balanceBehind_24 : decode cX3_balanceBehind 24 = .ok (.iload_n 2, 1) := by decide +kernel
theorem dX3_balanceBehind_25 : decode cX3_balanceBehind 25 = .ok (.iload_n 3, 1) := by decide +kernel
theorem dX3_balanceBehind_26 : decode cX3_balanceBehind 26 = .ok (.iload 5, 2) := by decide +kernel
theorem dX3_balanceBehind_28 : decode cX3_balanceBehind 28 = .ok (.bipush 32, 2) := by decide +kernel
theorem dX3_balanceBehind_30 : decode cX3_balanceBehind 30 = .ok (.iload_n 1, 1) := by decide +kernel
theorem dX3_balanceBehind_31 : decode cX3_balanceBehind 31 = .ok (.bipush 32, 2) := by decide +kernel
theorem dX3_balanceBehind_33 : decode cX3_balanceBehind 33 = .ok (.iload 4, 2) := by decide +kernel
theorem dX3_balanceBehind_35 : decode cX3_balanceBehind 35 = .ok (.imul, 1) := by decide +kernel
theorem dX3_balanceBehind_36 : decode cX3_balanceBehind 36 = .ok (.isub, 1) := by decide +kernel
theorem dX3_balanceBehind_37 : decode cX3_balanceBehind 37 = .ok (.invokestatic 52, 3) := by decide +kernel
theorem dX3_balanceBehind_40 : decode cX3_balanceBehind 40 = .ok (.invokestatic 60, 3) := by decide +kernel
theorem dX3_balanceBehind_43 : decode cX3_balanceBehind 43 = .ok (.imul, 1) := by decide +kernel
theorem dX3_balanceBehind_44 : decode cX3_balanceBehind 44 = .ok (.iadd, 1) := by decide +kernel
theorem dX3_balanceBehind_45 : decode cX3_balanceBehind 45 = .ok (.istore_n 2, 1) := by decide +kernel
theorem dX3_balanceBehind_46 : decode cX3_balanceBehind 46 = .ok (.iload 5, 2) := by decide +kernel
theorem dX3_balanceBehind_48 : decode cX3_balanceBehind 48 = .ok (.invokestatic 55, 3) := by decide +kernel
theorem dX3_balanceBehind_51 : decode cX3_balanceBehind 51 = .ok (.iconst 2, 1) := by decide +kernel
theorem dX3_balanceBehind_52 : decode cX3_balanceBehind 52 = .ok (.irem, 1) := by decide +kernel
theorem dX3_balanceBehind_53 : decode cX3_balanceBehind 53 = .ok (.iconst 1, 1) := by decide +kernel
theorem dX3_balanceBehind_54 : decode cX3_balanceBehind 54 = .ok (.if_icmp .ne 6, 3) := by decide +kernel
theorem dX3_balanceBehind_57 : decode cX3_balanceBehind 57 = .ok (.iload_n 3, 1) := by decide +kernel
theorem dX3_balanceBehind_58 : decode cX3_balanceBehind 58 = .ok (.ineg, 1) := by decide +kernel
theorem dX3_balanceBehind_59 : decode cX3_balanceBehind 59 = .ok (.istore_n 3, 1) := by decide +kernel
theorem dX3_balanceBehind_60 : decode cX3_balanceBehind 60 = .ok (.iinc 4 1, 3) := by decide +kernel
theorem dX3_balanceBehind_63 : decode cX3_balanceBehind 63 = .ok (.goto (-56), 3) := by decide +kernel
theorem dX3_balanceBehind_66 : decode cX3_balanceBehind 66 = .ok (.iload_n 2, 1) := by decide +kernel
theorem dX3_balanceBehind_67 : decode cX3_balanceBehind 67 = .ok (.ireturn, 1) := by decide +kernel
theorem dX3_extremeRun_0 : decode cX3_extremeRun 0 = .ok (.iconst (-1), 1) := by decide +kernel
theorem dX3_extremeRun_1 : decode cX3_extremeRun 1 = .ok (.istore_n 2, 1) := by decide +kernel
theorem dX3_extremeRun_2 : decode cX3_extremeRun 2 = .ok (.iconst (-1), 1) := by decide +kernel
theorem dX3_extremeRun_3 : decode cX3_extremeRun 3 = .ok (.istore_n 3, 1) := by decide +kernel
theorem dX3_extremeRun_4 : decode cX3_extremeRun 4 = .ok (.iconst 0, 1) := by decide +kernel
theorem dX3_extremeRun_5 : decode cX3_extremeRun 5 = .ok (.istore 4, 2) := by decide +kernel
theorem dX3_extremeRun_7 : decode cX3_extremeRun 7 = .ok (.bipush 32, 2) := by decide +kernel
theorem dX3_extremeRun_9 : decode cX3_extremeRun 9 = .ok (.iload 4, 2) := by decide +kernel
theorem dX3_extremeRun_11 : decode cX3_extremeRun 11 = .ok (.imul, 1) := by decide +kernel
theorem dX3_extremeRun_12 : decode cX3_extremeRun 12 = .ok (.aload_n 0, 1) := by decide +kernel
theorem dX3_extremeRun_13 : decode cX3_extremeRun 13 = .ok (.getfield 21, 3) := by decide +kernel
theorem dX3_extremeRun_16 : decode cX3_extremeRun 16 = .ok (.if_icmp .ge 89, 3) := by decide +kernel
theorem dX3_extremeRun_19 : decode cX3_extremeRun 19 = .ok (.aload_n 0, 1) := by decide +kernel
theorem dX3_extremeRun_20 : decode cX3_extremeRun 20 = .ok (.iload 4, 2) := by decide +kernel
theorem dX3_extremeRun_22 : decode cX3_extremeRun 22 = .ok (.invokevirtual 28, 3) := by decide +kernel
theorem dX3_extremeRun_25 : decode cX3_extremeRun 25 = .ok (.istore 5, 2) := by decide +kernel
theorem dX3_extremeRun_27 : decode cX3_extremeRun 27 = .ok (.bipush 31, 2) := by decide +kernel
theorem dX3_extremeRun_29 : decode cX3_extremeRun 29 = .ok (.istore 6, 2) := by decide +kernel
theorem dX3_extremeRun_31 : decode cX3_extremeRun 31 = .ok (.iload 6, 2) := by decide +kernel
theorem dX3_extremeRun_33 : decode cX3_extremeRun 33 = .ok (.ifCond .lt 66, 3) := by decide +kernel
theorem dX3_extremeRun_36 : decode cX3_extremeRun 36 = .ok (.iload 5, 2) := by decide +kernel
theorem dX3_extremeRun_38 : decode cX3_extremeRun 38 = .ok (.iload 6, 2) := by decide +kernel
theorem dX3_extremeRun_40 : decode cX3_extremeRun 40 = .ok (.iushr, 1) := by decide +kernel
theorem dX3_extremeRun_41 : decode cX3_extremeRun 41 = .ok (.iconst 1, 1) := by decide +kernel
theorem dX3_extremeRun_42 : decode cX3_extremeRun 42 = .ok (.iand, 1) := by decide +kernel
theorem dX3_extremeRun_43 : decode cX3_extremeRun 43 = .ok (.ifCond .ne 19, 3) := by decide +kernel
theorem dX3_extremeRun_46 : decode cX3_extremeRun 46 = .ok (.iload_n 3, 1) := by decide +kernel
theorem dX3_extremeRun_47 : decode cX3_extremeRun 47 = .ok (.iconst (-1), 1) := by decide +kernel
theorem dX3_extremeRun_48 : decode cX3_extremeRun 48 = .ok (.if_icmp .ne 7, 3) := by decide +kernel
theorem dX3_extremeRun_51 : decode cX3_extremeRun 51 = .ok (.iconst (-1), 1) := by decide +kernel
theorem dX3_extremeRun_52 : decode cX3_extremeRun 52 = .ok (.goto 6, 3) := by decide +kernel
theorem dX3_extremeRun_55 : decode cX3_extremeRun 55 = .ok (.iload_n 3, 1) := by decide +kernel
theorem dX3_extremeRun_56 : decode cX3_extremeRun 56 = .ok (.iconst 1, 1) := by decide +kernel
theorem dX3_extremeRun_57 : decode cX3_extremeRun 57 = .ok (.iadd, 1) := by decide +kernel
theorem dX3_extremeRun_58 : decode cX3_extremeRun 58 = .ok (.istore_n 3, 1) := by decide +kernel
theorem dX3_extremeRun_59 : decode cX3_extremeRun 59 = .ok (.goto 34, 3) := by decide +kernel
theorem dX3_extremeRun_62 : decode cX3_extremeRun 62 = .ok (.iload_n 3, 1) := by decide +kernel
theorem dX3_extremeRun_63 : decode cX3_extremeRun 63 = .ok (.iconst (-1), 1) := by decide +kernel
theorem dX3_extremeRun_64 : decode cX3_extremeRun 64 = .ok (.if_icmp .eq 27, 3) := by decide +kernel
theorem dX3_extremeRun_67 : decode cX3_extremeRun 67 = .ok (.iload_n 2, 1) := by decide +kernel
theorem dX3_extremeRun_68 : decode cX3_extremeRun 68 = .ok (.iconst (-1), 1) := by decide +kernel
theorem dX3_extremeRun_69 : decode cX3_extremeRun 69 = .ok (.if_icmp .eq 20, 3) := by decide +kernel
theorem dX3_extremeRun_72 : decode cX3_extremeRun 72 = .ok (.iload_n 1, 1) := by decide +kernel
theorem dX3_extremeRun_73 : decode cX3_extremeRun 73 = .ok (.ifCond .eq 11, 3) := by decide +kernel
theorem dX3_extremeRun_76 : decode cX3_extremeRun 76 = .ok (.iload_n 3, 1) := by decide +kernel
theorem dX3_extremeRun_77 : decode cX3_extremeRun 77 = .ok (.iload_n 2, 1) := by decide +kernel
theorem dX3_extremeRun_78 : decode cX3_extremeRun 78 = .ok (.if_icmp .le 13, 3) := by decide +kernel
theorem dX3_extremeRun_81 : decode cX3_extremeRun 81 = .ok (.goto 8, 3) := by decide +kernel
theorem dX3_extremeRun_84 : decode cX3_extremeRun 84 = .ok (.iload_n 3, 1) := by decide +kernel
theorem dX3_extremeRun_85 : decode cX3_extremeRun 85 = .ok (.iload_n 2, 1) := by decide +kernel
theorem dX3_extremeRun_86 : decode cX3_extremeRun 86 = .ok (.if_icmp .ge 5, 3) := by decide +kernel
theorem dX3_extremeRun_89 : decode cX3_extremeRun 89 = .ok (.iload_n 3, 1) := by decide +kernel
theorem dX3_extremeRun_90 : decode cX3_extremeRun 90 = .ok (.istore_n 2, 1) := by decide +kernel
theorem dX3_extremeRun_91 : decode cX3_extremeRun 91 = .ok (.iconst 0, 1) := by decide +kernel
theorem dX3_extremeRun_92 : decode cX3_extremeRun 92 = .ok (.istore_n 3, 1) := by decide +kernel
theorem dX3_extremeRun_93 : decode cX3_extremeRun 93 = .ok (.iinc 6 (-1), 3) := by decide +kernel
theorem dX3_extremeRun_96 : decode cX3_extremeRun 96 = .ok (.goto (-65), 3) := by decide +kernel
theorem dX3_extremeRun_99 : decode cX3_extremeRun 99 = .ok (.iinc 4 1, 3) := by decide +kernel
theorem dX3_extremeRun_102 : decode cX3_extremeRun 102 = .ok (.goto (-95), 3) := by decide +kernel
theorem dX3_extremeRun_105 : decode cX3_extremeRun 105 = .ok (.iload_n 2, 1) := by decide +kernel
theorem dX3_extremeRun_106 : decode cX3_extremeRun 106 = .ok (.ireturn, 1) := by decide +kernel
theorem dX3_signStands_0 : decode cX3_signStands 0 = .ok (.iload_n 1, 1) := by decide +kernel
theorem dX3_signStands_1 : decode cX3_signStands 1 = .ok (.ifCond .lt 31, 3) := by decide +kernel
theorem dX3_signStands_4 : decode cX3_signStands 4 = .ok (.iload_n 1, 1) := by decide +kernel
theorem dX3_signStands_5 : decode cX3_signStands 5 = .ok (.aload_n 0, 1) := by decide +kernel
theorem dX3_signStands_6 : decode cX3_signStands 6 = .ok (.getfield 21, 3) := by decide +kernel
theorem dX3_signStands_9 : decode cX3_signStands 9 = .ok (.bipush 24, 2) := by decide +kernel
theorem dX3_signStands_11 : decode cX3_signStands 11 = .ok (.isub, 1) := by decide +kernel
theorem dX3_signStands_12 : decode cX3_signStands 12 = .ok (.if_icmp .gt 20, 3) := by decide +kernel
theorem dX3_signStands_15 : decode cX3_signStands 15 = .ok (.aload_n 0, 1) := by decide +kernel
theorem dX3_signStands_16 : decode cX3_signStands 16 = .ok (.iload_n 1, 1) := by decide +kernel
theorem dX3_signStands_17 : decode cX3_signStands 17 = .ok (.invokevirtual 32, 3) := by decide +kernel
theorem dX3_signStands_20 : decode cX3_signStands 20 = .ok (.bipush 8, 2) := by decide +kernel
theorem dX3_signStands_22 : decode cX3_signStands 22 = .ok (.iushr, 1) := by decide +kernel
theorem dX3_signStands_23 : decode cX3_signStands 23 = .ok (.ldc 63, 2) := by decide +kernel
theorem dX3_signStands_25 : decode cX3_signStands 25 = .ok (.if_icmp .ne 7, 3) := by decide +kernel
theorem dX3_signStands_28 : decode cX3_signStands 28 = .ok (.iconst 1, 1) := by decide +kernel
theorem dX3_signStands_29 : decode cX3_signStands 29 = .ok (.goto 4, 3) := by decide +kernel
theorem dX3_signStands_32 : decode cX3_signStands 32 = .ok (.iconst 0, 1) := by decide +kernel
theorem dX3_signStands_33 : decode cX3_signStands 33 = .ok (.ireturn, 1) := by decide +kernel
theorem dX3_nextSign_0 : decode cX3_nextSign 0 = .ok (.iload_n 1, 1) := by decide +kernel
theorem dX3_nextSign_1 : decode cX3_nextSign 1 = .ok (.iconst 0, 1) := by decide +kernel
theorem dX3_nextSign_2 : decode cX3_nextSign 2 = .ok (.invokestatic 43, 3) := by decide +kernel
theorem dX3_nextSign_5 : decode cX3_nextSign 5 = .ok (.istore_n 2, 1) := by decide +kernel
theorem dX3_nextSign_6 : decode cX3_nextSign 6 = .ok (.iload_n 2, 1) := by decide +kernel
theorem dX3_nextSign_7 : decode cX3_nextSign 7 = .ok (.aload_n 0, 1) := by decide +kernel
theorem dX3_nextSign_8 : decode cX3_nextSign 8 = .ok (.getfield 21, 3) := by decide +kernel
theorem dX3_nextSign_11 : decode cX3_nextSign 11 = .ok (.if_icmp .ge 82, 3) := by decide +kernel
theorem dX3_nextSign_14 : decode cX3_nextSign 14 = .ok (.aload_n 0, 1) := by decide +kernel
theorem dX3_nextSign_15 : decode cX3_nextSign 15 = .ok (.iload_n 2, 1) := by decide +kernel
theorem dX3_nextSign_16 : decode cX3_nextSign 16 = .ok (.invokevirtual 32, 3) := by decide +kernel
theorem dX3_nextSign_19 : decode cX3_nextSign 19 = .ok (.aload_n 0, 1) := by decide +kernel
theorem dX3_nextSign_20 : decode cX3_nextSign 20 = .ok (.iload_n 2, 1) := by decide +kernel
theorem dX3_nextSign_21 : decode cX3_nextSign 21 = .ok (.bipush 11, 2) := by decide +kernel
theorem dX3_nextSign_23 : decode cX3_nextSign 23 = .ok (.iadd, 1) := by decide +kernel
theorem dX3_nextSign_24 : decode cX3_nextSign 24 = .ok (.invokevirtual 32, 3) := by decide +kernel
theorem dX3_nextSign_27 : decode cX3_nextSign 27 = .ok (.iand, 1) := by decide +kernel
theorem dX3_nextSign_28 : decode cX3_nextSign 28 = .ok (.aload_n 0, 1) := by decide +kernel
theorem dX3_nextSign_29 : decode cX3_nextSign 29 = .ok (.iload_n 2, 1) := by decide +kernel
theorem dX3_nextSign_30 : decode cX3_nextSign 30 = .ok (.bipush 22, 2) := by decide +kernel
theorem dX3_nextSign_32 : decode cX3_nextSign 32 = .ok (.iadd, 1) := by decide +kernel
theorem dX3_nextSign_33 : decode cX3_nextSign 33 = .ok (.invokevirtual 32, 3) := by decide +kernel
theorem dX3_nextSign_36 : decode cX3_nextSign 36 = .ok (.iand, 1) := by decide +kernel
theorem dX3_nextSign_37 : decode cX3_nextSign 37 = .ok (.istore_n 3, 1) := by decide +kernel
theorem dX3_nextSign_38 : decode cX3_nextSign 38 = .ok (.iconst 0, 1) := by decide +kernel
theorem dX3_nextSign_39 : decode cX3_nextSign 39 = .ok (.istore 4, 2) := by decide +kernel
theorem dX3_nextSign_41 : decode cX3_nextSign 41 = .ok (.iload 4, 2) := by decide +kernel
theorem dX3_nextSign_43 : decode cX3_nextSign 43 = .ok (.bipush 32, 2) := by decide +kernel
theorem dX3_nextSign_45 : decode cX3_nextSign 45 = .ok (.if_icmp .ge 42, 3) := by decide +kernel
theorem dX3_nextSign_48 : decode cX3_nextSign 48 = .ok (.iload_n 3, 1) := by decide +kernel
theorem dX3_nextSign_49 : decode cX3_nextSign 49 = .ok (.ifCond .eq 38, 3) := by decide +kernel
theorem dX3_nextSign_52 : decode cX3_nextSign 52 = .ok (.iload_n 3, 1) := by decide +kernel
theorem dX3_nextSign_53 : decode cX3_nextSign 53 = .ok (.bipush 31, 2) := by decide +kernel
theorem dX3_nextSign_55 : decode cX3_nextSign 55 = .ok (.iload 4, 2) := by decide +kernel
theorem dX3_nextSign_57 : decode cX3_nextSign 57 = .ok (.isub, 1) := by decide +kernel
theorem dX3_nextSign_58 : decode cX3_nextSign 58 = .ok (.iushr, 1) := by decide +kernel
theorem dX3_nextSign_59 : decode cX3_nextSign 59 = .ok (.iconst 1, 1) := by decide +kernel
theorem dX3_nextSign_60 : decode cX3_nextSign 60 = .ok (.iand, 1) := by decide +kernel
theorem dX3_nextSign_61 : decode cX3_nextSign 61 = .ok (.iconst 1, 1) := by decide +kernel
theorem dX3_nextSign_62 : decode cX3_nextSign 62 = .ok (.if_icmp .ne 19, 3) := by decide +kernel
theorem dX3_nextSign_65 : decode cX3_nextSign 65 = .ok (.aload_n 0, 1) := by decide +kernel
theorem dX3_nextSign_66 : decode cX3_nextSign 66 = .ok (.iload_n 2, 1) := by decide +kernel
theorem dX3_nextSign_67 : decode cX3_nextSign 67 = .ok (.iload 4, 2) := by decide +kernel
theorem dX3_nextSign_69 : decode cX3_nextSign 69 = .ok (.iadd, 1) := by decide +kernel
theorem dX3_nextSign_70 : decode cX3_nextSign 70 = .ok (.invokevirtual 64, 3) := by decide +kernel
theorem dX3_nextSign_73 : decode cX3_nextSign 73 = .ok (.ifCond .eq 8, 3) := by decide +kernel
theorem dX3_nextSign_76 : decode cX3_nextSign 76 = .ok (.iload_n 2, 1) := by decide +kernel
theorem dX3_nextSign_77 : decode cX3_nextSign 77 = .ok (.iload 4, 2) := by decide +kernel
theorem dX3_nextSign_79 : decode cX3_nextSign 79 = .ok (.iadd, 1) := by decide +kernel
theorem dX3_nextSign_80 : decode cX3_nextSign 80 = .ok (.ireturn, 1) := by decide +kernel
theorem dX3_nextSign_81 : decode cX3_nextSign 81 = .ok (.iinc 4 1, 3) := by decide +kernel
theorem dX3_nextSign_84 : decode cX3_nextSign 84 = .ok (.goto (-43), 3) := by decide +kernel
theorem dX3_nextSign_87 : decode cX3_nextSign 87 = .ok (.iinc 2 32, 3) := by decide +kernel
theorem dX3_nextSign_90 : decode cX3_nextSign 90 = .ok (.goto (-84), 3) := by decide +kernel
theorem dX3_nextSign_93 : decode cX3_nextSign 93 = .ok (.iconst (-1), 1) := by decide +kernel
theorem dX3_nextSign_94 : decode cX3_nextSign 94 = .ok (.ireturn, 1) := by decide +kernel
theorem dX3_countSigns_0 : decode cX3_countSigns 0 = .ok (.aload_n 0, 1) := by decide +kernel
theorem dX3_countSigns_1 : decode cX3_countSigns 1 = .ok (.iconst 0, 1) := by decide +kernel
theorem dX3_countSigns_2 : decode cX3_countSigns 2 = .ok (.invokevirtual 67, 3) := by decide +kernel
theorem dX3_countSigns_5 : decode cX3_countSigns 5 = .ok (.istore_n 1, 1) := by decide +kernel
theorem dX3_countSigns_6 : decode cX3_countSigns 6 = .ok (.iconst 0, 1) := by decide +kernel
theorem dX3_countSigns_7 : decode cX3_countSigns 7 = .ok (.istore_n 2, 1) := by decide +kernel
theorem dX3_countSigns_8 : decode cX3_countSigns 8 = .ok (.iload_n 1, 1) := by decide +kernel
theorem dX3_countSigns_9 : decode cX3_countSigns 9 = .ok (.iconst (-1), 1) := by decide +kernel
theorem dX3_countSigns_10 : decode cX3_countSigns 10 = .ok (.if_icmp .eq 25, 3) := by decide +kernel
theorem dX3_countSigns_13 : decode cX3_countSigns 13 = .ok (.iload_n 2, 1) := by decide +kernel
theorem dX3_countSigns_14 : decode cX3_countSigns 14 = .ok (.aload_n 0, 1) := by decide +kernel
theorem dX3_countSigns_15 : decode cX3_countSigns 15 = .ok (.getfield 21, 3) := by decide +kernel
theorem dX3_countSigns_18 : decode cX3_countSigns 18 = .ok (.if_icmp .ge 17, 3) := by decide +kernel
theorem dX3_countSigns_21 : decode cX3_countSigns 21 = .ok (.iinc 2 1, 3) := by decide +kernel
theorem dX3_countSigns_24 : decode cX3_countSigns 24 = .ok (.aload_n 0, 1) := by decide +kernel
theorem dX3_countSigns_25 : decode cX3_countSigns 25 = .ok (.iload_n 1, 1) := by decide +kernel
theorem dX3_countSigns_26 : decode cX3_countSigns 26 = .ok (.iconst 1, 1) := by decide +kernel
theorem dX3_countSigns_27 : decode cX3_countSigns 27 = .ok (.iadd, 1) := by decide +kernel
theorem dX3_countSigns_28 : decode cX3_countSigns 28 = .ok (.invokevirtual 67, 3) := by decide +kernel
theorem dX3_countSigns_31 : decode cX3_countSigns 31 = .ok (.istore_n 1, 1) := by decide +kernel
theorem dX3_countSigns_32 : decode cX3_countSigns 32 = .ok (.goto (-24), 3) := by decide +kernel
theorem dX3_countSigns_35 : decode cX3_countSigns 35 = .ok (.iload_n 2, 1) := by decide +kernel
theorem dX3_countSigns_36 : decode cX3_countSigns 36 = .ok (.ireturn, 1) := by decide +kernel
theorem dX3_findSign_0 : decode cX3_findSign 0 = .ok (.iload_n 1, 1) := by decide +kernel
theorem dX3_findSign_1 : decode cX3_findSign 1 = .ok (.ifCond .ge 7, 3) := by decide +kernel
theorem dX3_findSign_4 : decode cX3_findSign 4 = .ok (.iconst (-1), 1) := by decide +kernel
theorem dX3_findSign_5 : decode cX3_findSign 5 = .ok (.goto 8, 3) := by decide +kernel
theorem dX3_findSign_8 : decode cX3_findSign 8 = .ok (.aload_n 0, 1) := by decide +kernel
theorem dX3_findSign_9 : decode cX3_findSign 9 = .ok (.iconst 0, 1) := by decide +kernel
theorem dX3_findSign_10 : decode cX3_findSign 10 = .ok (.invokevirtual 67, 3) := by decide +kernel
theorem dX3_findSign_13 : decode cX3_findSign 13 = .ok (.istore_n 2, 1) := by decide +kernel
theorem dX3_findSign_14 : decode cX3_findSign 14 = .ok (.iconst 0, 1) := by decide +kernel
theorem dX3_findSign_15 : decode cX3_findSign 15 = .ok (.istore_n 3, 1) := by decide +kernel
theorem dX3_findSign_16 : decode cX3_findSign 16 = .ok (.iload_n 3, 1) := by decide +kernel
theorem dX3_findSign_17 : decode cX3_findSign 17 = .ok (.iload_n 1, 1) := by decide +kernel
theorem dX3_findSign_18 : decode cX3_findSign 18 = .ok (.if_icmp .ge 22, 3) := by decide +kernel
theorem dX3_findSign_21 : decode cX3_findSign 21 = .ok (.iload_n 2, 1) := by decide +kernel
theorem dX3_findSign_22 : decode cX3_findSign 22 = .ok (.iconst (-1), 1) := by decide +kernel
theorem dX3_findSign_23 : decode cX3_findSign 23 = .ok (.if_icmp .eq 17, 3) := by decide +kernel
theorem dX3_findSign_26 : decode cX3_findSign 26 = .ok (.aload_n 0, 1) := by decide +kernel
theorem dX3_findSign_27 : decode cX3_findSign 27 = .ok (.iload_n 2, 1) := by decide +kernel
theorem dX3_findSign_28 : decode cX3_findSign 28 = .ok (.iconst 1, 1) := by decide +kernel
theorem dX3_findSign_29 : decode cX3_findSign 29 = .ok (.iadd, 1) := by decide +kernel
theorem dX3_findSign_30 : decode cX3_findSign 30 = .ok (.invokevirtual 67, 3) := by decide +kernel
theorem dX3_findSign_33 : decode cX3_findSign 33 = .ok (.istore_n 2, 1) := by decide +kernel
theorem dX3_findSign_34 : decode cX3_findSign 34 = .ok (.iinc 3 1, 3) := by decide +kernel
theorem dX3_findSign_37 : decode cX3_findSign 37 = .ok (.goto (-21), 3) := by decide +kernel
theorem dX3_findSign_40 : decode cX3_findSign 40 = .ok (.iload_n 2, 1) := by decide +kernel
theorem dX3_findSign_41 : decode cX3_findSign 41 = .ok (.ireturn, 1) := by decide +kernel
theorem dX4_init_0 : decode cX4_init 0 = .ok (.aload_n 0, 1) := by decide +kernel
theorem dX4_init_1 : decode cX4_init 1 = .ok (.invokespecial 1, 3) := by decide +kernel
theorem dX4_init_4 : decode cX4_init 4 = .ok (.aload_n 0, 1) := by decide +kernel
theorem dX4_init_5 : decode cX4_init 5 = .ok (.bipush 12, 2) := by decide +kernel
theorem dX4_init_7 : decode cX4_init 7 = .ok (.newarray .int, 2) := by decide +kernel
theorem dX4_init_9 : decode cX4_init 9 = .ok (.putfield 7, 3) := by decide +kernel
theorem dX4_init_12 : decode cX4_init 12 = .ok (.return_, 1) := by decide +kernel
theorem dX4_write_0 : decode cX4_write 0 = .ok (.aload_n 0, 1) := by decide +kernel
theorem dX4_write_1 : decode cX4_write 1 = .ok (.getfield 7, 3) := by decide +kernel
theorem dX4_write_4 : decode cX4_write 4 = .ok (.iconst 0, 1) := by decide +kernel
theorem dX4_write_5 : decode cX4_write 5 = .ok (.iload_n 1, 1) := by decide +kernel
theorem dX4_write_6 : decode cX4_write 6 = .ok (.iconst 4, 1) := by decide +kernel
theorem dX4_write_7 : decode cX4_write 7 = .ok (.ishl, 1) := by decide +kernel
theorem dX4_write_8 : decode cX4_write 8 = .ok (.iconst 1, 1) := by decide +kernel
theorem dX4_write_9 : decode cX4_write 9 = .ok (.ior, 1) := by decide +kernel
theorem dX4_write_10 : decode cX4_write 10 = .ok (.iastore, 1) := by decide +kernel
theorem dX4_write_11 : decode cX4_write 11 = .ok (.aload_n 0, 1) := by decide +kernel
theorem dX4_write_12 : decode cX4_write 12 = .ok (.getfield 7, 3) := by decide +kernel
theorem dX4_write_15 : decode cX4_write 15 = .ok (.iconst 1, 1) := by decide +kernel
theorem dX4_write_16 : decode cX4_write 16 = .ok (.iload_n 2, 1) := by decide +kernel
theorem dX4_write_17 : decode cX4_write 17 = .ok (.invokestatic 13, 3) := by decide +kernel
theorem dX4_write_20 : decode cX4_write 20 = .ok (.iastore, 1) := by decide +kernel
theorem dX4_write_21 : decode cX4_write 21 = .ok (.aload_n 0, 1) := by decide +kernel
theorem dX4_write_22 : decode cX4_write 22 = .ok (.getfield 7, 3) := by decide +kernel
theorem dX4_write_25 : decode cX4_write 25 = .ok (.iconst 2, 1) := by decide +kernel
theorem dX4_write_26 : decode cX4_write 26 = .ok (.iload_n 3, 1) := by decide +kernel
theorem dX4_write_27 : decode cX4_write 27 = .ok (.invokestatic 13, 3) := by decide +kernel
theorem dX4_write_30 : decode cX4_write 30 = .ok (.iastore, 1) := by decide +kernel
theorem dX4_write_31 : decode cX4_write 31 = .ok (.aload_n 0, 1) := by decide +kernel
theorem dX4_write_32 : decode cX4_write 32 = .ok (.iconst 3, 1) := by decide +kernel
theorem dX4_write_33 : decode cX4_write 33 = .ok (.iload 4, 2) := by decide +kernel
theorem dX4_write_35 : decode cX4_write 35 = .ok (.invokevirtual 17, 3) := by decide +kernel
theorem dX4_write_38 : decode cX4_write 38 = .ok (.aload_n 0, 1) := by decide +kernel
theorem dX4_write_39 : decode cX4_write 39 = .ok (.getfield 7, 3) := by decide +kernel
theorem dX4_write_42 : decode cX4_write 42 = .ok (.bipush 6, 2) := by decide +kernel
theorem dX4_write_44 : decode cX4_write 44 = .ok (.iconst 0, 1) := by decide +kernel
theorem dX4_write_45 : decode cX4_write 45 = .ok (.iastore, 1) := by decide +kernel
theorem dX4_write_46 : decode cX4_write 46 = .ok (.aload_n 0, 1) := by decide +kernel
theorem dX4_write_47 : decode cX4_write 47 = .ok (.bipush 7, 2) := by decide +kernel
theorem dX4_write_49 : decode cX4_write 49 = .ok (.iload 5, 2) := by decide +kernel
theorem dX4_write_51 : decode cX4_write 51 = .ok (.invokevirtual 17, 3) := by decide +kernel
theorem dX4_write_54 : decode cX4_write 54 = .ok (.aload_n 0, 1) := by decide +kernel
theorem dX4_write_55 : decode cX4_write 55 = .ok (.invokevirtual 21, 3) := by decide +kernel
theorem dX4_write_58 : decode cX4_write 58 = .ok (.iconst (-1), 1) := by decide +kernel
theorem dX4_write_59 : decode cX4_write 59 = .ok (.ixor, 1) := by decide +kernel
theorem dX4_write_60 : decode cX4_write 60 = .ok (.istore 6, 2) := by decide +kernel
theorem dX4_write_62 : decode cX4_write 62 = .ok (.aload_n 0, 1) := by decide +kernel
theorem dX4_write_63 : decode cX4_write 63 = .ok (.getfield 7, 3) := by decide +kernel
theorem dX4_write_66 : decode cX4_write 66 = .ok (.bipush 10, 2) := by decide +kernel
theorem dX4_write_68 : decode cX4_write 68 = .ok (.iload 6, 2) := by decide +kernel
theorem dX4_write_70 : decode cX4_write 70 = .ok (.bipush 8, 2) := by decide +kernel
theorem dX4_write_72 : decode cX4_write 72 = .ok (.iushr, 1) := by decide +kernel
theorem dX4_write_73 : decode cX4_write 73 = .ok (.sipush 255, 3) := by decide +kernel
theorem dX4_write_76 : decode cX4_write 76 = .ok (.iand, 1) := by decide +kernel
theorem dX4_write_77 : decode cX4_write 77 = .ok (.iastore, 1) := by decide +kernel
theorem dX4_write_78 : decode cX4_write 78 = .ok (.aload_n 0, 1) := by decide +kernel
theorem dX4_write_79 : decode cX4_write 79 = .ok (.getfield 7, 3) := by decide +kernel
theorem dX4_write_82 : decode cX4_write 82 = .ok (.bipush 11, 2) := by decide +kernel
theorem dX4_write_84 : decode cX4_write 84 = .ok (.iload 6, 2) := by decide +kernel
theorem dX4_write_86 : decode cX4_write 86 = .ok (.sipush 255, 3) := by decide +kernel
theorem dX4_write_89 : decode cX4_write 89 = .ok (.iand, 1) := by decide +kernel
theorem dX4_write_90 : decode cX4_write 90 = .ok (.iastore, 1) := by decide +kernel
theorem dX4_write_91 : decode cX4_write 91 = .ok (.return_, 1) := by decide +kernel
theorem dX4_writeTime_0 : decode cX4_writeTime 0 = .ok (.aload_n 0, 1) := by decide +kernel
theorem dX4_writeTime_1 : decode cX4_writeTime 1 = .ok (.getfield 7, 3) := by decide +kernel
theorem dX4_writeTime_4 : decode cX4_writeTime 4 = .ok (.iload_n 1, 1) := by decide +kernel
theorem dX4_writeTime_5 : decode cX4_writeTime 5 = .ok (.iload_n 2, 1) := by decide +kernel
theorem dX4_writeTime_6 : decode cX4_writeTime 6 = .ok (.sipush 4500, 3) := by decide +kernel
theorem dX4_writeTime_9 : decode cX4_writeTime 9 = .ok (.idiv, 1) := by decide +kernel
theorem dX4_writeTime_10 : decode cX4_writeTime 10 = .ok (.invokestatic 13, 3) := by decide +kernel
theorem dX4_writeTime_13 : decode cX4_writeTime 13 = .ok (.iastore, 1) := by decide +kernel
theorem dX4_writeTime_14 : decode cX4_writeTime 14 = .ok (.aload_n 0, 1) := by decide +kernel
theorem dX4_writeTime_15 : decode cX4_writeTime 15 = .ok (.getfield 7, 3) := by decide +kernel
theorem dX4_writeTime_18 : decode cX4_writeTime 18 = .ok (.iload_n 1, 1) := by decide +kernel
theorem dX4_writeTime_19 : decode cX4_writeTime 19 = .ok (.iconst 1, 1) := by decide +kernel
theorem dX4_writeTime_20 : decode cX4_writeTime 20 = .ok (.iadd, 1) := by decide +kernel
theorem dX4_writeTime_21 : decode cX4_writeTime 21 = .ok (.iload_n 2, 1) := by decide +kernel
theorem dX4_writeTime_22 : decode cX4_writeTime 22 = .ok (.bipush 75, 2) := by decide +kernel
theorem dX4_writeTime_24 : decode cX4_writeTime 24 = .ok (.idiv, 1) := by decide +kernel
theorem dX4_writeTime_25 : decode cX4_writeTime 25 = .ok (.bipush 60, 2) := by decide +kernel
theorem dX4_writeTime_27 : decode cX4_writeTime 27 = .ok (.irem, 1) := by decide +kernel
theorem dX4_writeTime_28 : decode cX4_writeTime 28 = .ok (.invokestatic 13, 3) := by decide +kernel
theorem dX4_writeTime_31 : decode cX4_writeTime 31 = .ok (.iastore, 1) := by decide +kernel
theorem dX4_writeTime_32 : decode cX4_writeTime 32 = .ok (.aload_n 0, 1) := by decide +kernel
theorem dX4_writeTime_33 : decode cX4_writeTime 33 = .ok (.getfield 7, 3) := by decide +kernel
theorem dX4_writeTime_36 : decode cX4_writeTime 36 = .ok (.iload_n 1, 1) := by decide +kernel
theorem dX4_writeTime_37 : decode cX4_writeTime 37 = .ok (.iconst 2, 1) := by decide +kernel
theorem dX4_writeTime_38 : decode cX4_writeTime 38 = .ok (.iadd, 1) := by decide +kernel
theorem dX4_writeTime_39 : decode cX4_writeTime 39 = .ok (.iload_n 2, 1) := by decide +kernel
theorem dX4_writeTime_40 : decode cX4_writeTime 40 = .ok (.bipush 75, 2) := by decide +kernel
theorem dX4_writeTime_42 : decode cX4_writeTime 42 = .ok (.irem, 1) := by decide +kernel
theorem dX4_writeTime_43 : decode cX4_writeTime 43 = .ok (.invokestatic 13, 3) := by decide +kernel
theorem dX4_writeTime_46 : decode cX4_writeTime 46 = .ok (.iastore, 1) := by decide +kernel
theorem dX4_writeTime_47 : decode cX4_writeTime 47 = .ok (.return_, 1) := by decide +kernel
theorem dX4_figures_0 : decode cX4_figures 0 = .ok (.iload_n 0, 1) := by decide +kernel
theorem dX4_figures_1 : decode cX4_figures 1 = .ok (.bipush 10, 2) := by decide +kernel
theorem dX4_figures_3 : decode cX4_figures 3 = .ok (.idiv, 1) := by decide +kernel
theorem dX4_figures_4 : decode cX4_figures 4 = .ok (.bipush 10, 2) := by decide +kernel
theorem dX4_figures_6 : decode cX4_figures 6 = .ok (.irem, 1) := by decide +kernel
theorem dX4_figures_7 : decode cX4_figures 7 = .ok (.iconst 4, 1) := by decide +kernel
theorem dX4_figures_8 : decode cX4_figures 8 = .ok (.ishl, 1) := by decide +kernel
theorem dX4_figures_9 : decode cX4_figures 9 = .ok (.iload_n 0, 1) := by decide +kernel
theorem dX4_figures_10 : decode cX4_figures 10 = .ok (.bipush 10, 2) := by decide +kernel
theorem dX4_figures_12 : decode cX4_figures 12 = .ok (.irem, 1) := by decide +kernel
theorem dX4_figures_13 : decode cX4_figures 13 = .ok (.ior, 1) := by decide +kernel
theorem dX4_figures_14 : decode cX4_figures 14 = .ok (.ireturn, 1) := by decide +kernel
theorem dX4_restOf80_0 : decode cX4_restOf80 0 = .ok (.iconst 0, 1) := by decide +kernel
theorem dX4_restOf80_1 : decode cX4_restOf80 1 = .ok (.istore_n 1, 1) := by decide +kernel
theorem dX4_restOf80_2 : decode cX4_restOf80 2 = .ok (.iconst 0, 1) := by decide +kernel
theorem dX4_restOf80_3 : decode cX4_restOf80 3 = .ok (.istore_n 2, 1) := by decide +kernel
theorem dX4_restOf80_4 : decode cX4_restOf80 4 = .ok (.iload_n 2, 1) := by decide +kernel
theorem dX4_restOf80_5 : decode cX4_restOf80 5 = .ok (.bipush 80, 2) := by decide +kernel
theorem dX4_restOf80_7 : decode cX4_restOf80 7 = .ok (.if_icmp .ge 38, 3) := by decide +kernel
theorem dX4_restOf80_10 : decode cX4_restOf80 10 = .ok (.iload_n 1, 1) := by decide +kernel
theorem dX4_restOf80_11 : decode cX4_restOf80 11 = .ok (.bipush 15, 2) := by decide +kernel
theorem dX4_restOf80_13 : decode cX4_restOf80 13 = .ok (.iushr, 1) := by decide +kernel
theorem dX4_restOf80_14 : decode cX4_restOf80 14 = .ok (.aload_n 0, 1) := by decide +kernel
theorem dX4_restOf80_15 : decode cX4_restOf80 15 = .ok (.iload_n 2, 1) := by decide +kernel
theorem dX4_restOf80_16 : decode cX4_restOf80 16 = .ok (.invokevirtual 25, 3) := by decide +kernel
theorem dX4_restOf80_19 : decode cX4_restOf80 19 = .ok (.ixor, 1) := by decide +kernel
theorem dX4_restOf80_20 : decode cX4_restOf80 20 = .ok (.istore_n 3, 1) := by decide +kernel
theorem dX4_restOf80_21 : decode cX4_restOf80 21 = .ok (.iload_n 1, 1) := by decide +kernel
theorem dX4_restOf80_22 : decode cX4_restOf80 22 = .ok (.iconst 1, 1) := by decide +kernel
theorem dX4_restOf80_23 : decode cX4_restOf80 23 = .ok (.ishl, 1) := by decide +kernel
theorem dX4_restOf80_24 : decode cX4_restOf80 24 = .ok (.ldc 28, 2) := by decide +kernel
theorem dX4_restOf80_26 : decode cX4_restOf80 26 = .ok (.iand, 1) := by decide +kernel
theorem dX4_restOf80_27 : decode cX4_restOf80 27 = .ok (.istore_n 1, 1) := by decide +kernel
theorem dX4_restOf80_28 : decode cX4_restOf80 28 = .ok (.iload_n 3, 1) := by decide +kernel
theorem dX4_restOf80_29 : decode cX4_restOf80 29 = .ok (.iconst 1, 1) := by decide +kernel
theorem dX4_restOf80_30 : decode cX4_restOf80 30 = .ok (.if_icmp .ne 9, 3) := by decide +kernel
theorem dX4_restOf80_33 : decode cX4_restOf80 33 = .ok (.iload_n 1, 1) := by decide +kernel
theorem dX4_restOf80_34 : decode cX4_restOf80 34 = .ok (.sipush 4129, 3) := by decide +kernel
theorem dX4_restOf80_37 : decode cX4_restOf80 37 = .ok (.ixor, 1) := by decide +kernel
theorem dX4_restOf80_38 : decode cX4_restOf80 38 = .ok (.istore_n 1, 1) := by decide +kernel
theorem dX4_restOf80_39 : decode cX4_restOf80 39 = .ok (.iinc 2 1, 3) := by decide +kernel
theorem dX4_restOf80_42 : decode cX4_restOf80 42 = .ok (.goto (-38), 3) := by decide +kernel
theorem dX4_restOf80_45 : decode cX4_restOf80 45 = .ok (.iload_n 1, 1) := by decide +kernel
theorem dX4_restOf80_46 : decode cX4_restOf80 46 = .ok (.ireturn, 1) := by decide +kernel
theorem dX4_bitOf_0 : decode cX4_bitOf 0 = .ok (.iload_n 1, 1) := by decide +kernel
theorem dX4_bitOf_1 : decode cX4_bitOf 1 = .ok (.ifCond .lt 30, 3) := by decide +kernel
theorem dX4_bitOf_4 : decode cX4_bitOf 4 = .ok (.iload_n 1, 1) := by decide +kernel
theorem dX4_bitOf_5 : decode cX4_bitOf 5 = .ok (.bipush 96, 2) := by decide +kernel
theorem dX4_bitOf_7 : decode cX4_bitOf 7 = .ok (.if_icmp .ge 24, 3) := by decide +kernel
theorem dX4_bitOf_10 : decode cX4_bitOf 10 = .ok (.aload_n 0, 1) := by decide +kernel
theorem dX4_bitOf_11 : decode cX4_bitOf 11 = .ok (.getfield 7, 3) := by decide +kernel
theorem dX4_bitOf_14 : decode cX4_bitOf 14 = .ok (.iload_n 1, 1) := by decide +kernel
theorem dX4_bitOf_15 : decode cX4_bitOf 15 = .ok (.iconst 3, 1) := by decide +kernel
theorem dX4_bitOf_16 : decode cX4_bitOf 16 = .ok (.ishr, 1) := by decide +kernel
theorem dX4_bitOf_17 : decode cX4_bitOf 17 = .ok (.iaload, 1) := by decide +kernel
theorem dX4_bitOf_18 : decode cX4_bitOf 18 = .ok (.bipush 7, 2) := by decide +kernel
theorem dX4_bitOf_20 : decode cX4_bitOf 20 = .ok (.iload_n 1, 1) := by decide +kernel
theorem dX4_bitOf_21 : decode cX4_bitOf 21 = .ok (.bipush 7, 2) := by decide +kernel
theorem dX4_bitOf_23 : decode cX4_bitOf 23 = .ok (.iand, 1) := by decide +kernel
theorem dX4_bitOf_24 : decode cX4_bitOf 24 = .ok (.isub, 1) := by decide +kernel
theorem dX4_bitOf_25 : decode cX4_bitOf 25 = .ok (.iushr, 1) := by decide +kernel
theorem dX4_bitOf_26 : decode cX4_bitOf 26 = .ok (.iconst 1, 1) := by decide +kernel
theorem dX4_bitOf_27 : decode cX4_bitOf 27 = .ok (.iand, 1) := by decide +kernel
theorem dX4_bitOf_28 : decode cX4_bitOf 28 = .ok (.goto 4, 3) := by decide +kernel
theorem dX4_bitOf_31 : decode cX4_bitOf 31 = .ok (.iconst 0, 1) := by decide +kernel
theorem dX4_bitOf_32 : decode cX4_bitOf 32 = .ok (.ireturn, 1) := by decide +kernel
theorem dX4_setBit_0 : decode cX4_setBit 0 = .ok (.iload_n 1, 1) := by decide +kernel
theorem dX4_setBit_1 : decode cX4_setBit 1 = .ok (.ifCond .lt 43, 3) := by decide +kernel
theorem dX4_setBit_4 : decode cX4_setBit 4 = .ok (.iload_n 1, 1) := by decide +kernel
theorem dX4_setBit_5 : decode cX4_setBit 5 = .ok (.bipush 96, 2) := by decide +kernel
theorem dX4_setBit_7 : decode cX4_setBit 7 = .ok (.if_icmp .ge 37, 3) := by decide +kernel
theorem dX4_setBit_10 : decode cX4_setBit 10 = .ok (.bipush 7, 2) := by decide +kernel
theorem dX4_setBit_12 : decode cX4_setBit 12 = .ok (.iload_n 1, 1) := by decide +kernel
theorem dX4_setBit_13 : decode cX4_setBit 13 = .ok (.bipush 7, 2) := by decide +kernel
theorem dX4_setBit_15 : decode cX4_setBit 15 = .ok (.iand, 1) := by decide +kernel
theorem dX4_setBit_16 : decode cX4_setBit 16 = .ok (.isub, 1) := by decide +kernel
theorem dX4_setBit_17 : decode cX4_setBit 17 = .ok (.istore_n 3, 1) := by decide +kernel
theorem dX4_setBit_18 : decode cX4_setBit 18 = .ok (.aload_n 0, 1) := by decide +kernel
theorem dX4_setBit_19 : decode cX4_setBit 19 = .ok (.getfield 7, 3) := by decide +kernel
theorem dX4_setBit_22 : decode cX4_setBit 22 = .ok (.iload_n 1, 1) := by decide +kernel
theorem dX4_setBit_23 : decode cX4_setBit 23 = .ok (.iconst 3, 1) := by decide +kernel
theorem dX4_setBit_24 : decode cX4_setBit 24 = .ok (.ishr, 1) := by decide +kernel
theorem dX4_setBit_25 : decode cX4_setBit 25 = .ok (.aload_n 0, 1) := by decide +kernel
theorem dX4_setBit_26 : decode cX4_setBit 26 = .ok (.getfield 7, 3) := by decide +kernel
theorem dX4_setBit_29 : decode cX4_setBit 29 = .ok (.iload_n 1, 1) := by decide +kernel
theorem dX4_setBit_30 : decode cX4_setBit 30 = .ok (.iconst 3, 1) := by decide +kernel
theorem dX4_setBit_31 : decode cX4_setBit 31 = .ok (.ishr, 1) := by decide +kernel
theorem dX4_setBit_32 : decode cX4_setBit 32 = .ok (.iaload, 1) := by decide +kernel
theorem dX4_setBit_33 : decode cX4_setBit 33 = .ok (.iconst 1, 1) := by decide +kernel
theorem dX4_setBit_34 : decode cX4_setBit 34 = .ok (.iload_n 3, 1) := by decide +kernel
theorem dX4_setBit_35 : decode cX4_setBit 35 = .ok (.ishl, 1) := by decide +kernel
theorem dX4_setBit_36 : decode cX4_setBit 36 = .ok (.iconst (-1), 1) := by decide +kernel
theorem dX4_setBit_37 : decode cX4_setBit 37 = .ok (.ixor, 1) := by decide +kernel
theorem dX4_setBit_38 : decode cX4_setBit 38 = .ok (.iand, 1) := by decide +kernel
theorem dX4_setBit_39 : decode cX4_setBit 39 = .ok (.iload_n 2, 1) := by decide +kernel
theorem dX4_setBit_40 : decode cX4_setBit 40 = .ok (.iload_n 3, 1) := by decide +kernel
theorem dX4_setBit_41 : decode cX4_setBit 41 = .ok (.ishl, 1) := by decide +kernel
theorem dX4_setBit_42 : decode cX4_setBit 42 = .ok (.ior, 1) := by decide +kernel
theorem dX4_setBit_43 : decode cX4_setBit 43 = .ok (.iastore, 1) := by decide +kernel
theorem dX4_setBit_44 : decode cX4_setBit 44 = .ok (.return_, 1) := by decide +kernel
theorem dX4_isSound_0 : decode cX4_isSound 0 = .ok (.aload_n 0, 1) := by decide +kernel
theorem dX4_isSound_1 : decode cX4_isSound 1 = .ok (.getfield 7, 3) := by decide +kernel
theorem dX4_isSound_4 : decode cX4_isSound 4 = .ok (.bipush 10, 2) := by decide +kernel
theorem dX4_isSound_6 : decode cX4_isSound 6 = .ok (.iaload, 1) := by decide +kernel
theorem dX4_isSound_7 : decode cX4_isSound 7 = .ok (.bipush 8, 2) := by decide +kernel
theorem dX4_isSound_9 : decode cX4_isSound 9 = .ok (.ishl, 1) := by decide +kernel
theorem dX4_isSound_10 : decode cX4_isSound 10 = .ok (.aload_n 0, 1) := by decide +kernel
theorem dX4_isSound_11 : decode cX4_isSound 11 = .ok (.getfield 7, 3) := by decide +kernel
theorem dX4_isSound_14 : decode cX4_isSound 14 = .ok (.bipush 11, 2) := by decide +kernel
theorem dX4_isSound_16 : decode cX4_isSound 16 = .ok (.iaload, 1) := by decide +kernel
theorem dX4_isSound_17 : decode cX4_isSound 17 = .ok (.ior, 1) := by decide +kernel
theorem dX4_isSound_18 : decode cX4_isSound 18 = .ok (.istore_n 1, 1) := by decide +kernel
theorem dX4_isSound_19 : decode cX4_isSound 19 = .ok (.aload_n 0, 1) := by decide +kernel
theorem dX4_isSound_20 : decode cX4_isSound 20 = .ok (.iconst 1, 1) := by decide +kernel
theorem dX4_isSound_21 : decode cX4_isSound 21 = .ok (.invokevirtual 29, 3) := by decide +kernel
theorem dX4_isSound_24 : decode cX4_isSound 24 = .ok (.ifCond .eq 32, 3) := by decide +kernel
theorem dX4_isSound_27 : decode cX4_isSound 27 = .ok (.aload_n 0, 1) := by decide +kernel
theorem dX4_isSound_28 : decode cX4_isSound 28 = .ok (.iconst 2, 1) := by decide +kernel
theorem dX4_isSound_29 : decode cX4_isSound 29 = .ok (.invokevirtual 29, 3) := by decide +kernel
theorem dX4_isSound_32 : decode cX4_isSound 32 = .ok (.ifCond .eq 24, 3) := by decide +kernel
theorem dX4_isSound_35 : decode cX4_isSound 35 = .ok (.aload_n 0, 1) := by decide +kernel
theorem dX4_isSound_36 : decode cX4_isSound 36 = .ok (.iconst 3, 1) := by decide +kernel
theorem dX4_isSound_37 : decode cX4_isSound 37 = .ok (.invokevirtual 33, 3) := by decide +kernel
theorem dX4_isSound_40 : decode cX4_isSound 40 = .ok (.ifCond .eq 16, 3) := by decide +kernel
theorem dX4_isSound_43 : decode cX4_isSound 43 = .ok (.aload_n 0, 1) := by decide +kernel
theorem dX4_isSound_44 : decode cX4_isSound 44 = .ok (.bipush 7, 2) := by decide +kernel
theorem dX4_isSound_46 : decode cX4_isSound 46 = .ok (.invokevirtual 33, 3) := by decide +kernel
theorem dX4_isSound_49 : decode cX4_isSound 49 = .ok (.ifCond .eq 7, 3) := by decide +kernel
theorem dX4_isSound_52 : decode cX4_isSound 52 = .ok (.iconst 1, 1) := by decide +kernel
theorem dX4_isSound_53 : decode cX4_isSound 53 = .ok (.goto 4, 3) := by decide +kernel
theorem dX4_isSound_56 : decode cX4_isSound 56 = .ok (.iconst 0, 1) := by decide +kernel
theorem dX4_isSound_57 : decode cX4_isSound 57 = .ok (.istore_n 2, 1) := by decide +kernel
theorem dX4_isSound_58 : decode cX4_isSound 58 = .ok (.iload_n 1, 1) := by decide +kernel
theorem dX4_isSound_59 : decode cX4_isSound 59 = .ok (.aload_n 0, 1) := by decide +kernel
theorem dX4_isSound_60 : decode cX4_isSound 60 = .ok (.invokevirtual 21, 3) := by decide +kernel
theorem dX4_isSound_63 : decode cX4_isSound 63 = .ok (.iconst (-1), 1) := by decide +kernel
theorem dX4_isSound_64 : decode cX4_isSound 64 = .ok (.ixor, 1) := by decide +kernel
theorem dX4_isSound_65 : decode cX4_isSound 65 = .ok (.ldc 28, 2) := by decide +kernel
theorem dX4_isSound_67 : decode cX4_isSound 67 = .ok (.iand, 1) := by decide +kernel
theorem dX4_isSound_68 : decode cX4_isSound 68 = .ok (.if_icmp .ne 24, 3) := by decide +kernel
theorem dX4_isSound_71 : decode cX4_isSound 71 = .ok (.aload_n 0, 1) := by decide +kernel
theorem dX4_isSound_72 : decode cX4_isSound 72 = .ok (.getfield 7, 3) := by decide +kernel
theorem dX4_isSound_75 : decode cX4_isSound 75 = .ok (.iconst 0, 1) := by decide +kernel
theorem dX4_isSound_76 : decode cX4_isSound 76 = .ok (.iaload, 1) := by decide +kernel
theorem dX4_isSound_77 : decode cX4_isSound 77 = .ok (.bipush 15, 2) := by decide +kernel
theorem dX4_isSound_79 : decode cX4_isSound 79 = .ok (.iand, 1) := by decide +kernel
theorem dX4_isSound_80 : decode cX4_isSound 80 = .ok (.iconst 1, 1) := by decide +kernel
theorem dX4_isSound_81 : decode cX4_isSound 81 = .ok (.if_icmp .ne 11, 3) := by decide +kernel
theorem dX4_isSound_84 : decode cX4_isSound 84 = .ok (.iload_n 2, 1) := by decide +kernel
theorem dX4_isSound_85 : decode cX4_isSound 85 = .ok (.ifCond .eq 7, 3) := by decide +kernel
theorem dX4_isSound_88 : decode cX4_isSound 88 = .ok (.iconst 1, 1) := by decide +kernel
theorem dX4_isSound_89 : decode cX4_isSound 89 = .ok (.goto 4, 3) := by decide +kernel
theorem dX4_isSound_92 : decode cX4_isSound 92 = .ok (.iconst 0, 1) := by decide +kernel
theorem dX4_isSound_93 : decode cX4_isSound 93 = .ok (.ireturn, 1) := by decide +kernel
theorem dX4_areFigures_0 : decode cX4_areFigures 0 = .ok (.aload_n 0, 1) := by decide +kernel
theorem dX4_areFigures_1 : decode cX4_areFigures 1 = .ok (.getfield 7, 3) := by decide +kernel
theorem dX4_areFigures_4 : decode cX4_areFigures 4 = .ok (.iload_n 1, 1) := by decide +kernel
theorem dX4_areFigures_5 : decode cX4_areFigures 5 = .ok (.iaload, 1) := by decide +kernel
theorem dX4_areFigures_6 : decode cX4_areFigures 6 = .ok (.iconst 4, 1) := by decide +kernel
theorem dX4_areFigures_7 : decode cX4_areFigures 7 = .ok (.iushr, 1) := by decide +kernel
theorem dX4_areFigures_8 : decode cX4_areFigures 8 = .ok (.bipush 9, 2) := by decide +kernel
theorem dX4_areFigures_10 : decode cX4_areFigures 10 = .ok (.if_icmp .gt 21, 3) := by decide +kernel
theorem dX4_areFigures_13 : decode cX4_areFigures 13 = .ok (.aload_n 0, 1) := by decide +kernel
theorem dX4_areFigures_14 : decode cX4_areFigures 14 = .ok (.getfield 7, 3) := by decide +kernel
theorem dX4_areFigures_17 : decode cX4_areFigures 17 = .ok (.iload_n 1, 1) := by decide +kernel
theorem dX4_areFigures_18 : decode cX4_areFigures 18 = .ok (.iaload, 1) := by decide +kernel
theorem dX4_areFigures_19 : decode cX4_areFigures 19 = .ok (.bipush 15, 2) := by decide +kernel
theorem dX4_areFigures_21 : decode cX4_areFigures 21 = .ok (.iand, 1) := by decide +kernel
theorem dX4_areFigures_22 : decode cX4_areFigures 22 = .ok (.bipush 9, 2) := by decide +kernel
theorem dX4_areFigures_24 : decode cX4_areFigures 24 = .ok (.if_icmp .gt 7, 3) := by decide +kernel
theorem dX4_areFigures_27 : decode cX4_areFigures 27 = .ok (.iconst 1, 1) := by decide +kernel
theorem dX4_areFigures_28 : decode cX4_areFigures 28 = .ok (.goto 4, 3) := by decide +kernel
theorem dX4_areFigures_31 : decode cX4_areFigures 31 = .ok (.iconst 0, 1) := by decide +kernel
theorem dX4_areFigures_32 : decode cX4_areFigures 32 = .ok (.ireturn, 1) := by decide +kernel
theorem dX4_isTime_0 : decode cX4_isTime 0 = .ok (.aload_n 0, 1) := by decide +kernel
theorem dX4_isTime_1 : decode cX4_isTime 1 = .ok (.iload_n 1, 1) := by decide +kernel
theorem dX4_isTime_2 : decode cX4_isTime 2 = .ok (.invokevirtual 29, 3) := by decide +kernel
theorem dX4_isTime_5 : decode cX4_isTime 5 = .ok (.ifCond .eq 51, 3) := by decide +kernel
theorem dX4_isTime_8 : decode cX4_isTime 8 = .ok (.aload_n 0, 1) := by decide +kernel
theorem dX4_isTime_9 : decode cX4_isTime 9 = .ok (.iload_n 1, 1) := by decide +kernel
theorem dX4_isTime_10 : decode cX4_isTime 10 = .ok (.iconst 1, 1) := by decide +kernel
theorem dX4_isTime_11 : decode cX4_isTime 11 = .ok (.iadd, 1) := by decide +kernel
theorem dX4_isTime_12 : decode cX4_isTime 12 = .ok (.invokevirtual 29, 3) := by decide +kernel
theorem dX4_isTime_15 : decode cX4_isTime 15 = .ok (.ifCond .eq 41, 3) := by decide +kernel
theorem dX4_isTime_18 : decode cX4_isTime 18 = .ok (.aload_n 0, 1) := by decide +kernel
theorem dX4_isTime_19 : decode cX4_isTime 19 = .ok (.iload_n 1, 1) := by decide +kernel
theorem dX4_isTime_20 : decode cX4_isTime 20 = .ok (.iconst 2, 1) := by decide +kernel
theorem dX4_isTime_21 : decode cX4_isTime 21 = .ok (.iadd, 1) := by decide +kernel
theorem dX4_isTime_22 : decode cX4_isTime 22 = .ok (.invokevirtual 29, 3) := by decide +kernel
theorem dX4_isTime_25 : decode cX4_isTime 25 = .ok (.ifCond .eq 31, 3) := by decide +kernel
theorem dX4_isTime_28 : decode cX4_isTime 28 = .ok (.aload_n 0, 1) := by decide +kernel
theorem dX4_isTime_29 : decode cX4_isTime 29 = .ok (.iload_n 1, 1) := by decide +kernel
theorem dX4_isTime_30 : decode cX4_isTime 30 = .ok (.iconst 1, 1) := by decide +kernel
theorem dX4_isTime_31 : decode cX4_isTime 31 = .ok (.iadd, 1) := by decide +kernel
theorem dX4_isTime_32 : decode cX4_isTime 32 = .ok (.invokevirtual 36, 3) := by decide +kernel
theorem dX4_isTime_35 : decode cX4_isTime 35 = .ok (.bipush 60, 2) := by decide +kernel
theorem dX4_isTime_37 : decode cX4_isTime 37 = .ok (.if_icmp .ge 19, 3) := by decide +kernel
theorem dX4_isTime_40 : decode cX4_isTime 40 = .ok (.aload_n 0, 1) := by decide +kernel
theorem dX4_isTime_41 : decode cX4_isTime 41 = .ok (.iload_n 1, 1) := by decide +kernel
theorem dX4_isTime_42 : decode cX4_isTime 42 = .ok (.iconst 2, 1) := by decide +kernel
theorem dX4_isTime_43 : decode cX4_isTime 43 = .ok (.iadd, 1) := by decide +kernel
theorem dX4_isTime_44 : decode cX4_isTime 44 = .ok (.invokevirtual 36, 3) := by decide +kernel
theorem dX4_isTime_47 : decode cX4_isTime 47 = .ok (.bipush 75, 2) := by decide +kernel
theorem dX4_isTime_49 : decode cX4_isTime 49 = .ok (.if_icmp .ge 7, 3) := by decide +kernel
theorem dX4_isTime_52 : decode cX4_isTime 52 = .ok (.iconst 1, 1) := by decide +kernel
theorem dX4_isTime_53 : decode cX4_isTime 53 = .ok (.goto 4, 3) := by decide +kernel
theorem dX4_isTime_56 : decode cX4_isTime 56 = .ok (.iconst 0, 1) := by decide +kernel
theorem dX4_isTime_57 : decode cX4_isTime 57 = .ok (.ireturn, 1) := by decide +kernel
theorem dX4_number_0 : decode cX4_number 0 = .ok (.aload_n 0, 1) := by decide +kernel
theorem dX4_number_1 : decode cX4_number 1 = .ok (.getfield 7, 3) := by decide +kernel
theorem dX4_number_4 : decode cX4_number 4 = .ok (.iload_n 1, 1) := by decide +kernel
theorem dX4_number_5 : decode cX4_number 5 = .ok (.iaload, 1) := by decide +kernel
theorem dX4_number_6 : decode cX4_number 6 = .ok (.iconst 4, 1) := by decide +kernel
theorem dX4_number_7 : decode cX4_number 7 = .ok (.iushr, 1) := by decide +kernel
theorem dX4_number_8 : decode cX4_number 8 = .ok (.bipush 10, 2) := by decide +kernel
theorem dX4_number_10 : decode cX4_number 10 = .ok (.imul, 1) := by decide +kernel
theorem dX4_number_11 : decode cX4_number 11 = .ok (.aload_n 0, 1) := by decide +kernel
theorem dX4_number_12 : decode cX4_number 12 = .ok (.getfield 7, 3) := by decide +kernel
theorem dX4_number_15 : decode cX4_number 15 = .ok (.iload_n 1, 1) := by decide +kernel
theorem dX4_number_16 : decode cX4_number 16 = .ok (.iaload, 1) := by decide +kernel
theorem dX4_number_17 : decode cX4_number 17 = .ok (.bipush 15, 2) := by decide +kernel
theorem dX4_number_19 : decode cX4_number 19 = .ok (.iand, 1) := by decide +kernel
theorem dX4_number_20 : decode cX4_number 20 = .ok (.iadd, 1) := by decide +kernel
theorem dX4_number_21 : decode cX4_number 21 = .ok (.ireturn, 1) := by decide +kernel
theorem dX4_timeOf_0 : decode cX4_timeOf 0 = .ok (.aload_n 0, 1) := by decide +kernel
theorem dX4_timeOf_1 : decode cX4_timeOf 1 = .ok (.iload_n 1, 1) := by decide +kernel
theorem dX4_timeOf_2 : decode cX4_timeOf 2 = .ok (.invokevirtual 36, 3) := by decide +kernel
theorem dX4_timeOf_5 : decode cX4_timeOf 5 = .ok (.sipush 4500, 3) := by decide +kernel
theorem dX4_timeOf_8 : decode cX4_timeOf 8 = .ok (.imul, 1) := by decide +kernel
theorem dX4_timeOf_9 : decode cX4_timeOf 9 = .ok (.aload_n 0, 1) := by decide +kernel
theorem dX4_timeOf_10 : decode cX4_timeOf 10 = .ok (.iload_n 1, 1) := by decide +kernel
theorem dX4_timeOf_11 : decode cX4_timeOf 11 = .ok (.iconst 1, 1) := by decide +kernel
theorem dX4_timeOf_12 : decode cX4_timeOf 12 = .ok (.iadd, 1) := by decide +kernel
theorem dX4_timeOf_13 : decode cX4_timeOf 13 = .ok (.invokevirtual 36, 3) := by decide +kernel
theorem dX4_timeOf_16 : decode cX4_timeOf 16 = .ok (.bipush 75, 2) := by decide +kernel
theorem dX4_timeOf_18 : decode cX4_timeOf 18 = .ok (.imul, 1) := by decide +kernel
theorem dX4_timeOf_19 : decode cX4_timeOf 19 = .ok (.iadd, 1) := by decide +kernel
theorem dX4_timeOf_20 : decode cX4_timeOf 20 = .ok (.aload_n 0, 1) := by decide +kernel
theorem dX4_timeOf_21 : decode cX4_timeOf 21 = .ok (.iload_n 1, 1) := by decide +kernel
theorem dX4_timeOf_22 : decode cX4_timeOf 22 = .ok (.iconst 2, 1) := by decide +kernel
theorem dX4_timeOf_23 : decode cX4_timeOf 23 = .ok (.iadd, 1) := by decide +kernel
theorem dX4_timeOf_24 : decode cX4_timeOf 24 = .ok (.invokevirtual 36, 3) := by decide +kernel
theorem dX4_timeOf_27 : decode cX4_timeOf 27 = .ok (.iadd, 1) := by decide +kernel
theorem dX4_timeOf_28 : decode cX4_timeOf 28 = .ok (.ireturn, 1) := by decide +kernel
theorem dX4_control_0 : decode cX4_control 0 = .ok (.aload_n 0, 1) := by decide +kernel
theorem dX4_control_1 : decode cX4_control 1 = .ok (.getfield 7, 3) := by decide +kernel
theorem dX4_control_4 : decode cX4_control 4 = .ok (.iconst 0, 1) := by decide +kernel
theorem dX4_control_5 : decode cX4_control 5 = .ok (.iaload, 1) := by decide +kernel
theorem dX4_control_6 : decode cX4_control 6 = .ok (.iconst 4, 1) := by decide +kernel
theorem dX4_control_7 : decode cX4_control 7 = .ok (.iushr, 1) := by decide +kernel
theorem dX4_control_8 : decode cX4_control 8 = .ok (.ireturn, 1) := by decide +kernel
theorem dX4_track_0 : decode cX4_track 0 = .ok (.aload_n 0, 1) := by decide +kernel
theorem dX4_track_1 : decode cX4_track 1 = .ok (.iconst 1, 1) := by decide +kernel
theorem dX4_track_2 : decode cX4_track 2 = .ok (.invokevirtual 36, 3) := by decide +kernel
theorem dX4_track_5 : decode cX4_track 5 = .ok (.ireturn, 1) := by decide +kernel
theorem dX4_index_0 : decode cX4_index 0 = .ok (.aload_n 0, 1) := by decide +kernel
theorem dX4_index_1 : decode cX4_index 1 = .ok (.iconst 2, 1) := by decide +kernel
theorem dX4_index_2 : decode cX4_index 2 = .ok (.invokevirtual 36, 3) := by decide +kernel
theorem dX4_index_5 : decode cX4_index 5 = .ok (.ireturn, 1) := by decide +kernel
theorem dX4_time_0 : decode cX4_time 0 = .ok (.aload_n 0, 1) := by decide +kernel
theorem dX4_time_1 : decode cX4_time 1 = .ok (.iconst 3, 1) := by decide +kernel
theorem dX4_time_2 : decode cX4_time 2 = .ok (.invokevirtual 39, 3) := by decide +kernel
theorem dX4_time_5 : decode cX4_time 5 = .ok (.ireturn, 1) := by decide +kernel
theorem dX4_place_0 : decode cX4_place 0 = .ok (.aload_n 0, 1) := by decide +kernel
theorem dX4_place_1 : decode cX4_place 1 = .ok (.bipush 7, 2) := by decide +kernel
theorem dX4_place_3 : decode cX4_place 3 = .ok (.invokevirtual 39, 3) := by decide +kernel
theorem dX4_place_6 : decode cX4_place 6 = .ok (.ireturn, 1) := by decide +kernel
theorem dX1_init_0 : decode cX1_init 0 = .ok (.aload_n 0, 1) := by decide +kernel
theorem dX1_init_1 : decode cX1_init 1 = .ok (.invokespecial 3, 3) := by decide +kernel
theorem dX1_init_4 : decode cX1_init 4 = .ok (.aload_n 0, 1) := by decide +kernel
theorem dX1_init_5 : decode cX1_init 5 = .ok (.bipush 20, 2) := by decide +kernel
theorem dX1_init_7 : decode cX1_init 7 = .ok (.newarray .int, 2) := by decide +kernel
theorem dX1_init_9 : decode cX1_init 9 = .ok (.putfield 9, 3) := by decide +kernel
theorem dX1_init_12 : decode cX1_init 12 = .ok (.aload_n 0, 1) := by decide +kernel
theorem dX1_init_13 : decode cX1_init 13 = .ok (.bipush 20, 2) := by decide +kernel
theorem dX1_init_15 : decode cX1_init 15 = .ok (.newarray .int, 2) := by decide +kernel
theorem dX1_init_17 : decode cX1_init 17 = .ok (.putfield 15, 3) := by decide +kernel
theorem dX1_init_20 : decode cX1_init 20 = .ok (.aload_n 0, 1) := by decide +kernel
theorem dX1_init_21 : decode cX1_init 21 = .ok (.bipush 20, 2) := by decide +kernel
theorem dX1_init_23 : decode cX1_init 23 = .ok (.newarray .int, 2) := by decide +kernel
theorem dX1_init_25 : decode cX1_init 25 = .ok (.putfield 18, 3) := by decide +kernel
theorem dX1_init_28 : decode cX1_init 28 = .ok (.aload_n 0, 1) := by decide +kernel
theorem dX1_init_29 : decode cX1_init 29 = .ok (.bipush 20, 2) := by decide +kernel
theorem dX1_init_31 : decode cX1_init 31 = .ok (.newarray .int, 2) := by decide +kernel
theorem dX1_init_33 : decode cX1_init 33 = .ok (.putfield 21, 3) := by decide +kernel
theorem dX1_init_36 : decode cX1_init 36 = .ok (.return_, 1) := by decide +kernel
theorem dX1_startAt_0 : decode cX1_startAt 0 = .ok (.aload_n 0, 1) := by decide +kernel
theorem dX1_startAt_1 : decode cX1_startAt 1 = .ok (.iload_n 1, 1) := by decide +kernel
theorem dX1_startAt_2 : decode cX1_startAt 2 = .ok (.putfield 24, 3) := by decide +kernel
theorem dX1_startAt_5 : decode cX1_startAt 5 = .ok (.return_, 1) := by decide +kernel
theorem dX1_add_0 : decode cX1_add 0 = .ok (.aload_n 0, 1) := by decide +kernel
theorem dX1_add_1 : decode cX1_add 1 = .ok (.getfield 28, 3) := by decide +kernel
theorem dX1_add_4 : decode cX1_add 4 = .ok (.ifCond .lt 12, 3) := by decide +kernel
theorem dX1_add_7 : decode cX1_add 7 = .ok (.aload_n 0, 1) := by decide +kernel
theorem dX1_add_8 : decode cX1_add 8 = .ok (.getfield 28, 3) := by decide +kernel
theorem dX1_add_11 : decode cX1_add 11 = .ok (.bipush 20, 2) := by decide +kernel
theorem dX1_add_13 : decode cX1_add 13 = .ok (.if_icmp .lt 5, 3) := by decide +kernel
theorem dX1_add_16 : decode cX1_add 16 = .ok (.iconst (-1), 1) := by decide +kernel
theorem dX1_add_17 : decode cX1_add 17 = .ok (.ireturn, 1) := by decide +kernel
theorem dX1_add_18 : decode cX1_add 18 = .ok (.aload_n 0, 1) := by decide +kernel
theorem dX1_add_19 : decode cX1_add 19 = .ok (.getfield 9, 3) := by decide +kernel
theorem dX1_add_22 : decode cX1_add 22 = .ok (.aload_n 0, 1) := by decide +kernel
theorem dX1_add_23 : decode cX1_add 23 = .ok (.getfield 28, 3) := by decide +kernel
theorem dX1_add_26 : decode cX1_add 26 = .ok (.iload_n 1, 1) := by decide +kernel
theorem dX1_add_27 : decode cX1_add 27 = .ok (.iastore, 1) := by decide +kernel
theorem dX1_add_28 : decode cX1_add 28 = .ok (.aload_n 0, 1) := by decide +kernel
theorem dX1_add_29 : decode cX1_add 29 = .ok (.getfield 15, 3) := by decide +kernel
theorem dX1_add_32 : decode cX1_add 32 = .ok (.aload_n 0, 1) := by decide +kernel
theorem dX1_add_33 : decode cX1_add 33 = .ok (.getfield 28, 3) := by decide +kernel
theorem dX1_add_36 : decode cX1_add 36 = .ok (.iload_n 2, 1) := by decide +kernel
theorem dX1_add_37 : decode cX1_add 37 = .ok (.iastore, 1) := by decide +kernel
theorem dX1_add_38 : decode cX1_add 38 = .ok (.aload_n 0, 1) := by decide +kernel
theorem dX1_add_39 : decode cX1_add 39 = .ok (.getfield 18, 3) := by decide +kernel
theorem dX1_add_42 : decode cX1_add 42 = .ok (.aload_n 0, 1) := by decide +kernel
theorem dX1_add_43 : decode cX1_add 43 = .ok (.getfield 28, 3) := by decide +kernel
theorem dX1_add_46 : decode cX1_add 46 = .ok (.iload_n 3, 1) := by decide +kernel
theorem dX1_add_47 : decode cX1_add 47 = .ok (.iastore, 1) := by decide +kernel
theorem dX1_add_48 : decode cX1_add 48 = .ok (.aload_n 0, 1) := by decide +kernel
theorem dX1_add_49 : decode cX1_add 49 = .ok (.getfield 21, 3) := by decide +kernel
theorem dX1_add_52 : decode cX1_add 52 = .ok (.aload_n 0, 1) := by decide +kernel
theorem dX1_add_53 : decode cX1_add 53 = .ok (.getfield 28, 3) := by decide +kernel
theorem dX1_add_56 : decode cX1_add 56 = .ok (.iload 4, 2) := by decide +kernel
theorem dX1_add_58 : decode cX1_add 58 = .ok (.iastore, 1) := by decide +kernel
theorem dX1_add_59 : decode cX1_add 59 = .ok (.aload_n 0, 1) := by decide +kernel
theorem dX1_add_60 : decode cX1_add 60 = .ok (.dup, 1) := by decide +kernel
theorem dX1_add_61 : decode cX1_add 61 = .ok (.getfield 28, 3) := by decide +kernel
theorem dX1_add_64 : decode cX1_add 64 = .ok (.iconst 1, 1) := by decide +kernel
theorem dX1_add_65 : decode cX1_add 65 = .ok (.iadd, 1) := by decide +kernel
theorem dX1_add_66 : decode cX1_add 66 = .ok (.putfield 28, 3) := by decide +kernel
theorem dX1_add_69 : decode cX1_add 69 = .ok (.aload_n 0, 1) := by decide +kernel
theorem dX1_add_70 : decode cX1_add 70 = .ok (.getfield 28, 3) := by decide +kernel
theorem dX1_add_73 : decode cX1_add 73 = .ok (.ireturn, 1) := by decide +kernel
theorem dX1_clear_0 : decode cX1_clear 0 = .ok (.aload_n 0, 1) := by decide +kernel
theorem dX1_clear_1 : decode cX1_clear 1 = .ok (.getfield 28, 3) := by decide +kernel
theorem dX1_clear_4 : decode cX1_clear 4 = .ok (.istore_n 1, 1) := by decide +kernel
theorem dX1_clear_5 : decode cX1_clear 5 = .ok (.aload_n 0, 1) := by decide +kernel
theorem dX1_clear_6 : decode cX1_clear 6 = .ok (.iconst 0, 1) := by decide +kernel
theorem dX1_clear_7 : decode cX1_clear 7 = .ok (.putfield 28, 3) := by decide +kernel
theorem dX1_clear_10 : decode cX1_clear 10 = .ok (.iload_n 1, 1) := by decide +kernel
theorem dX1_clear_11 : decode cX1_clear 11 = .ok (.ireturn, 1) := by decide +kernel
theorem dX1_entryFor_0 : decode cX1_entryFor 0 = .ok (.iconst (-1), 1) := by decide +kernel
theorem dX1_entryFor_1 : decode cX1_entryFor 1 = .ok (.istore_n 2, 1) := by decide +kernel
theorem dX1_entryFor_2 : decode cX1_entryFor 2 = .ok (.iconst 0, 1) := by decide +kernel
theorem dX1_entryFor_3 : decode cX1_entryFor 3 = .ok (.istore_n 3, 1) := by decide +kernel
theorem dX1_entryFor_4 : decode cX1_entryFor 4 = .ok (.iload_n 3, 1) := by decide +kernel
theorem dX1_entryFor_5 : decode cX1_entryFor 5 = .ok (.aload_n 0, 1) := by decide +kernel
theorem dX1_entryFor_6 : decode cX1_entryFor 6 = .ok (.getfield 28, 3) := by decide +kernel
theorem dX1_entryFor_9 : decode cX1_entryFor 9 = .ok (.if_icmp .ge 47, 3) := by decide +kernel
theorem dX1_entryFor_12 : decode cX1_entryFor 12 = .ok (.iload_n 3, 1) := by decide +kernel
theorem dX1_entryFor_13 : decode cX1_entryFor 13 = .ok (.bipush 20, 2) := by decide +kernel
theorem dX1_entryFor_15 : decode cX1_entryFor 15 = .ok (.if_icmp .ge 41, 3) := by decide +kernel
theorem dX1_entryFor_18 : decode cX1_entryFor 18 = .ok (.aload_n 0, 1) := by decide +kernel
theorem dX1_entryFor_19 : decode cX1_entryFor 19 = .ok (.getfield 9, 3) := by decide +kernel
theorem dX1_entryFor_22 : decode cX1_entryFor 22 = .ok (.iload_n 3, 1) := by decide +kernel
theorem dX1_entryFor_23 : decode cX1_entryFor 23 = .ok (.iaload, 1) := by decide +kernel
theorem dX1_entryFor_24 : decode cX1_entryFor 24 = .ok (.iload_n 1, 1) := by decide +kernel
theorem dX1_entryFor_25 : decode cX1_entryFor 25 = .ok (.if_icmp .gt 25, 3) := by decide +kernel
theorem dX1_entryFor_28 : decode cX1_entryFor 28 = .ok (.iload_n 2, 1) := by decide +kernel
theorem dX1_entryFor_29 : decode cX1_entryFor 29 = .ok (.iconst (-1), 1) := by decide +kernel
theorem dX1_entryFor_30 : decode cX1_entryFor 30 = .ok (.if_icmp .eq 18, 3) := by decide +kernel
theorem dX1_entryFor_33 : decode cX1_entryFor 33 = .ok (.aload_n 0, 1) := by decide +kernel
theorem dX1_entryFor_34 : decode cX1_entryFor 34 = .ok (.getfield 9, 3) := by decide +kernel
theorem dX1_entryFor_37 : decode cX1_entryFor 37 = .ok (.iload_n 3, 1) := by decide +kernel
theorem dX1_entryFor_38 : decode cX1_entryFor 38 = .ok (.iaload, 1) := by decide +kernel
theorem dX1_entryFor_39 : decode cX1_entryFor 39 = .ok (.aload_n 0, 1) := by decide +kernel
theorem dX1_entryFor_40 : decode cX1_entryFor 40 = .ok (.getfield 9, 3) := by decide +kernel
theorem dX1_entryFor_43 : decode cX1_entryFor 43 = .ok (.iload_n 2, 1) := by decide +kernel
theorem dX1_entryFor_44 : decode cX1_entryFor 44 = .ok (.iaload, 1) := by decide +kernel
theorem dX1_entryFor_45 : decode cX1_entryFor 45 = .ok (.if_icmp .lt 5, 3) := by decide +kernel
theorem dX1_entryFor_48 : decode cX1_entryFor 48 = .ok (.iload_n 3, 1) := by decide +kernel
theorem dX1_entryFor_49 : decode cX1_entryFor 49 = .ok (.istore_n 2, 1) := by decide +kernel
theorem dX1_entryFor_50 : decode cX1_entryFor 50 = .ok (.iinc 3 1, 3) := by decide +kernel
theorem dX1_entryFor_53 : decode cX1_entryFor 53 = .ok (.goto (-49), 3) := by decide +kernel
theorem dX1_entryFor_56 : decode cX1_entryFor 56 = .ok (.iload_n 2, 1) := by decide +kernel
theorem dX1_entryFor_57 : decode cX1_entryFor 57 = .ok (.ireturn, 1) := by decide +kernel
theorem dX1_isEntry_0 : decode cX1_isEntry 0 = .ok (.iload_n 0, 1) := by decide +kernel
theorem dX1_isEntry_1 : decode cX1_isEntry 1 = .ok (.ifCond .lt 13, 3) := by decide +kernel
theorem dX1_isEntry_4 : decode cX1_isEntry 4 = .ok (.iload_n 0, 1) := by decide +kernel
theorem dX1_isEntry_5 : decode cX1_isEntry 5 = .ok (.bipush 20, 2) := by decide +kernel
theorem dX1_isEntry_7 : decode cX1_isEntry 7 = .ok (.if_icmp .ge 7, 3) := by decide +kernel
theorem dX1_isEntry_10 : decode cX1_isEntry 10 = .ok (.iconst 1, 1) := by decide +kernel
theorem dX1_isEntry_11 : decode cX1_isEntry 11 = .ok (.goto 4, 3) := by decide +kernel
theorem dX1_isEntry_14 : decode cX1_isEntry 14 = .ok (.iconst 0, 1) := by decide +kernel
theorem dX1_isEntry_15 : decode cX1_isEntry 15 = .ok (.ireturn, 1) := by decide +kernel
theorem dX1_controlOf_0 : decode cX1_controlOf 0 = .ok (.iload_n 1, 1) := by decide +kernel
theorem dX1_controlOf_1 : decode cX1_controlOf 1 = .ok (.invokestatic 31, 3) := by decide +kernel
theorem dX1_controlOf_4 : decode cX1_controlOf 4 = .ok (.ifCond .eq 12, 3) := by decide +kernel
theorem dX1_controlOf_7 : decode cX1_controlOf 7 = .ok (.aload_n 0, 1) := by decide +kernel
theorem dX1_controlOf_8 : decode cX1_controlOf 8 = .ok (.getfield 15, 3) := by decide +kernel
theorem dX1_controlOf_11 : decode cX1_controlOf 11 = .ok (.iload_n 1, 1) := by decide +kernel
theorem dX1_controlOf_12 : decode cX1_controlOf 12 = .ok (.iaload, 1) := by decide +kernel
theorem dX1_controlOf_13 : decode cX1_controlOf 13 = .ok (.goto 4, 3) := by decide +kernel
theorem dX1_controlOf_16 : decode cX1_controlOf 16 = .ok (.iconst 0, 1) := by decide +kernel
theorem dX1_controlOf_17 : decode cX1_controlOf 17 = .ok (.ireturn, 1) := by decide +kernel
theorem dX1_trackOf_0 : decode cX1_trackOf 0 = .ok (.iload_n 1, 1) := by decide +kernel
theorem dX1_trackOf_1 : decode cX1_trackOf 1 = .ok (.invokestatic 31, 3) := by decide +kernel
theorem dX1_trackOf_4 : decode cX1_trackOf 4 = .ok (.ifCond .eq 12, 3) := by decide +kernel
theorem dX1_trackOf_7 : decode cX1_trackOf 7 = .ok (.aload_n 0, 1) := by decide +kernel
theorem dX1_trackOf_8 : decode cX1_trackOf 8 = .ok (.getfield 18, 3) := by decide +kernel
theorem dX1_trackOf_11 : decode cX1_trackOf 11 = .ok (.iload_n 1, 1) := by decide +kernel
theorem dX1_trackOf_12 : decode cX1_trackOf 12 = .ok (.iaload, 1) := by decide +kernel
theorem dX1_trackOf_13 : decode cX1_trackOf 13 = .ok (.goto 4, 3) := by decide +kernel
theorem dX1_trackOf_16 : decode cX1_trackOf 16 = .ok (.iconst 1, 1) := by decide +kernel
theorem dX1_trackOf_17 : decode cX1_trackOf 17 = .ok (.ireturn, 1) := by decide +kernel
theorem dX1_indexOf_0 : decode cX1_indexOf 0 = .ok (.iload_n 1, 1) := by decide +kernel
theorem dX1_indexOf_1 : decode cX1_indexOf 1 = .ok (.invokestatic 31, 3) := by decide +kernel
theorem dX1_indexOf_4 : decode cX1_indexOf 4 = .ok (.ifCond .eq 12, 3) := by decide +kernel
theorem dX1_indexOf_7 : decode cX1_indexOf 7 = .ok (.aload_n 0, 1) := by decide +kernel
theorem dX1_indexOf_8 : decode cX1_indexOf 8 = .ok (.getfield 21, 3) := by decide +kernel
theorem dX1_indexOf_11 : decode cX1_indexOf 11 = .ok (.iload_n 1, 1) := by decide +kernel
theorem dX1_indexOf_12 : decode cX1_indexOf 12 = .ok (.iaload, 1) := by decide +kernel
theorem dX1_indexOf_13 : decode cX1_indexOf 13 = .ok (.goto 4, 3) := by decide +kernel
theorem dX1_indexOf_16 : decode cX1_indexOf 16 = .ok (.iconst 1, 1) := by decide +kernel
theorem dX1_indexOf_17 : decode cX1_indexOf 17 = .ok (.ireturn, 1) := by decide +kernel
theorem dX1_isPause_0 : decode cX1_isPause 0 = .ok (.aload_n 0, 1) := by decide +kernel
theorem dX1_isPause_1 : decode cX1_isPause 1 = .ok (.aload_n 0, 1) := by decide +kernel
theorem dX1_isPause_2 : decode cX1_isPause 2 = .ok (.iload_n 1, 1) := by decide +kernel
theorem dX1_isPause_3 : decode cX1_isPause 3 = .ok (.invokevirtual 35, 3) := by decide +kernel
theorem dX1_isPause_6 : decode cX1_isPause 6 = .ok (.invokevirtual 39, 3) := by decide +kernel
theorem dX1_isPause_9 : decode cX1_isPause 9 = .ok (.ifCond .ne 7, 3) := by decide +kernel
theorem dX1_isPause_12 : decode cX1_isPause 12 = .ok (.iconst 1, 1) := by decide +kernel
theorem dX1_isPause_13 : decode cX1_isPause 13 = .ok (.goto 4, 3) := by decide +kernel
theorem dX1_isPause_16 : decode cX1_isPause 16 = .ok (.iconst 0, 1) := by decide +kernel
theorem dX1_isPause_17 : decode cX1_isPause 17 = .ok (.ireturn, 1) := by decide +kernel
theorem dX1_belongs_0 : decode cX1_belongs 0 = .ok (.aload_n 0, 1) := by decide +kernel
theorem dX1_belongs_1 : decode cX1_belongs 1 = .ok (.iload_n 1, 1) := by decide +kernel
theorem dX1_belongs_2 : decode cX1_belongs 2 = .ok (.invokevirtual 42, 3) := by decide +kernel
theorem dX1_belongs_5 : decode cX1_belongs 5 = .ok (.aload_n 0, 1) := by decide +kernel
theorem dX1_belongs_6 : decode cX1_belongs 6 = .ok (.iload_n 2, 1) := by decide +kernel
theorem dX1_belongs_7 : decode cX1_belongs 7 = .ok (.invokevirtual 42, 3) := by decide +kernel
theorem dX1_belongs_10 : decode cX1_belongs 10 = .ok (.if_icmp .ne 36, 3) := by decide +kernel
theorem dX1_belongs_13 : decode cX1_belongs 13 = .ok (.aload_n 0, 1) := by decide +kernel
theorem dX1_belongs_14 : decode cX1_belongs 14 = .ok (.iload_n 1, 1) := by decide +kernel
theorem dX1_belongs_15 : decode cX1_belongs 15 = .ok (.invokevirtual 39, 3) := by decide +kernel
theorem dX1_belongs_18 : decode cX1_belongs 18 = .ok (.ifCond .ne 7, 3) := by decide +kernel
theorem dX1_belongs_21 : decode cX1_belongs 21 = .ok (.iconst 1, 1) := by decide +kernel
theorem dX1_belongs_22 : decode cX1_belongs 22 = .ok (.goto 4, 3) := by decide +kernel
theorem dX1_belongs_25 : decode cX1_belongs 25 = .ok (.iconst 0, 1) := by decide +kernel
theorem dX1_belongs_26 : decode cX1_belongs 26 = .ok (.aload_n 0, 1) := by decide +kernel
theorem dX1_belongs_27 : decode cX1_belongs 27 = .ok (.iload_n 2, 1) := by decide +kernel
theorem dX1_belongs_28 : decode cX1_belongs 28 = .ok (.invokevirtual 39, 3) := by decide +kernel
theorem dX1_belongs_31 : decode cX1_belongs 31 = .ok (.ifCond .ne 7, 3) := by decide +kernel
theorem dX1_belongs_34 : decode cX1_belongs 34 = .ok (.iconst 1, 1) := by decide +kernel
theorem dX1_belongs_35 : decode cX1_belongs 35 = .ok (.goto 4, 3) := by decide +kernel
theorem dX1_belongs_38 : decode cX1_belongs 38 = .ok (.iconst 0, 1) := by decide +kernel
theorem dX1_belongs_39 : decode cX1_belongs 39 = .ok (.if_icmp .ne 7, 3) := by decide +kernel
theorem dX1_belongs_42 : decode cX1_belongs 42 = .ok (.iconst 1, 1) := by decide +kernel
theorem dX1_belongs_43 : decode cX1_belongs 43 = .ok (.goto 4, 3) := by decide +kernel
theorem dX1_belongs_46 : decode cX1_belongs 46 = .ok (.iconst 0, 1) := by decide +kernel
theorem dX1_belongs_47 : decode cX1_belongs 47 = .ok (.ireturn, 1) := by decide +kernel
theorem dX1_timeOf_0 : decode cX1_timeOf 0 = .ok (.aload_n 0, 1) := by decide +kernel
theorem dX1_timeOf_1 : decode cX1_timeOf 1 = .ok (.iload_n 1, 1) := by decide +kernel
theorem dX1_timeOf_2 : decode cX1_timeOf 2 = .ok (.invokevirtual 35, 3) := by decide +kernel
theorem dX1_timeOf_5 : decode cX1_timeOf 5 = .ok (.istore_n 3, 1) := by decide +kernel
theorem dX1_timeOf_6 : decode cX1_timeOf 6 = .ok (.iconst 0, 1) := by decide +kernel
theorem dX1_timeOf_7 : decode cX1_timeOf 7 = .ok (.istore 4, 2) := by decide +kernel
theorem dX1_timeOf_9 : decode cX1_timeOf 9 = .ok (.aload_n 0, 1) := by decide +kernel
theorem dX1_timeOf_10 : decode cX1_timeOf 10 = .ok (.iload_n 3, 1) := by decide +kernel
theorem dX1_timeOf_11 : decode cX1_timeOf 11 = .ok (.invokevirtual 39, 3) := by decide +kernel
theorem dX1_timeOf_14 : decode cX1_timeOf 14 = .ok (.ifCond .ne 38, 3) := by decide +kernel
theorem dX1_timeOf_17 : decode cX1_timeOf 17 = .ok (.iload_n 1, 1) := by decide +kernel
theorem dX1_timeOf_18 : decode cX1_timeOf 18 = .ok (.istore 5, 2) := by decide +kernel
theorem dX1_timeOf_20 : decode cX1_timeOf 20 = .ok (.iload 5, 2) := by decide +kernel
theorem dX1_timeOf_22 : decode cX1_timeOf 22 = .ok (.iload_n 2, 1) := by decide +kernel
theorem dX1_timeOf_23 : decode cX1_timeOf 23 = .ok (.if_icmp .ge 26, 3) := by decide +kernel
theorem dX1_timeOf_26 : decode cX1_timeOf 26 = .ok (.aload_n 0, 1) := by decide +kernel
theorem dX1_timeOf_27 : decode cX1_timeOf 27 = .ok (.iload_n 3, 1) := by decide +kernel
theorem dX1_timeOf_28 : decode cX1_timeOf 28 = .ok (.aload_n 0, 1) := by decide +kernel
theorem dX1_timeOf_29 : decode cX1_timeOf 29 = .ok (.iload 5, 2) := by decide +kernel
theorem dX1_timeOf_31 : decode cX1_timeOf 31 = .ok (.invokevirtual 35, 3) := by decide +kernel
theorem dX1_timeOf_34 : decode cX1_timeOf 34 = .ok (.invokevirtual 45, 3) := by decide +kernel
theorem dX1_timeOf_37 : decode cX1_timeOf 37 = .ok (.ifCond .eq 12, 3) := by decide +kernel
theorem dX1_timeOf_40 : decode cX1_timeOf 40 = .ok (.iinc 4 1, 3) := by decide +kernel
theorem dX1_timeOf_43 : decode cX1_timeOf 43 = .ok (.iinc 5 1, 3) := by decide +kernel
theorem dX1_timeOf_46 : decode cX1_timeOf 46 = .ok (.goto (-26), 3) := by decide +kernel
theorem dX1_timeOf_49 : decode cX1_timeOf 49 = .ok (.goto 36, 3) := by decide +kernel
theorem dX1_timeOf_52 : decode cX1_timeOf 52 = .ok (.iload_n 1, 1) := by decide +kernel
theorem dX1_timeOf_53 : decode cX1_timeOf 53 = .ok (.iconst 1, 1) := by decide +kernel
theorem dX1_timeOf_54 : decode cX1_timeOf 54 = .ok (.isub, 1) := by decide +kernel
theorem dX1_timeOf_55 : decode cX1_timeOf 55 = .ok (.istore 5, 2) := by decide +kernel
theorem dX1_timeOf_57 : decode cX1_timeOf 57 = .ok (.iload 5, 2) := by decide +kernel
theorem dX1_timeOf_59 : decode cX1_timeOf 59 = .ok (.ifCond .lt 26, 3) := by decide +kernel
theorem dX1_timeOf_62 : decode cX1_timeOf 62 = .ok (.aload_n 0, 1) := by decide +kernel
theorem dX1_timeOf_63 : decode cX1_timeOf 63 = .ok (.iload_n 3, 1) := by decide +kernel
theorem dX1_timeOf_64 : decode cX1_timeOf 64 = .ok (.aload_n 0, 1) := by decide +kernel
theorem dX1_timeOf_65 : decode cX1_timeOf 65 = .ok (.iload 5, 2) := by decide +kernel
theorem dX1_timeOf_67 : decode cX1_timeOf 67 = .ok (.invokevirtual 35, 3) := by decide +kernel
theorem dX1_timeOf_70 : decode cX1_timeOf 70 = .ok (.invokevirtual 45, 3) := by decide +kernel
theorem dX1_timeOf_73 : decode cX1_timeOf 73 = .ok (.ifCond .eq 12, 3) := by decide +kernel
theorem dX1_timeOf_76 : decode cX1_timeOf 76 = .ok (.iinc 4 1, 3) := by decide +kernel
theorem dX1_timeOf_79 : decode cX1_timeOf 79 = .ok (.iinc 5 (-1), 3) := by decide +kernel
theorem dX1_timeOf_82 : decode cX1_timeOf 82 = .ok (.goto (-25), 3) := by decide +kernel
theorem dX1_timeOf_85 : decode cX1_timeOf 85 = .ok (.iload 4, 2) := by decide +kernel
theorem dX1_timeOf_87 : decode cX1_timeOf 87 = .ok (.ireturn, 1) := by decide +kernel
theorem dX1_describe_0 : decode cX1_describe 0 = .ok (.aload_n 0, 1) := by decide +kernel
theorem dX1_describe_1 : decode cX1_describe 1 = .ok (.iload_n 1, 1) := by decide +kernel
theorem dX1_describe_2 : decode cX1_describe 2 = .ok (.invokevirtual 35, 3) := by decide +kernel
theorem dX1_describe_5 : decode cX1_describe 5 = .ok (.istore 4, 2) := by decide +kernel
theorem dX1_describe_7 : decode cX1_describe 7 = .ok (.aload_n 3, 1) := by decide +kernel
theorem dX1_describe_8 : decode cX1_describe 8 = .ok (.aload_n 0, 1) := by decide +kernel
theorem dX1_describe_9 : decode cX1_describe 9 = .ok (.iload 4, 2) := by decide +kernel
theorem dX1_describe_11 : decode cX1_describe 11 = .ok (.invokevirtual 49, 3) := by decide +kernel
theorem dX1_describe_14 : decode cX1_describe 14 = .ok (.aload_n 0, 1) := by decide +kernel
theorem dX1_describe_15 : decode cX1_describe 15 = .ok (.iload 4, 2) := by decide +kernel
theorem dX1_describe_17 : decode cX1_describe 17 = .ok (.invokevirtual 42, 3) := by decide +kernel
theorem dX1_describe_20 : decode cX1_describe 20 = .ok (.aload_n 0, 1) := by decide +kernel
theorem dX1_describe_21 : decode cX1_describe 21 = .ok (.iload 4, 2) := by decide +kernel
theorem dX1_describe_23 : decode cX1_describe 23 = .ok (.invokevirtual 39, 3) := by decide +kernel
theorem dX1_describe_26 : decode cX1_describe 26 = .ok (.aload_n 0, 1) := by decide +kernel
theorem dX1_describe_27 : decode cX1_describe 27 = .ok (.iload_n 1, 1) := by decide +kernel
theorem dX1_describe_28 : decode cX1_describe 28 = .ok (.iload_n 2, 1) := by decide +kernel
theorem dX1_describe_29 : decode cX1_describe 29 = .ok (.invokevirtual 52, 3) := by decide +kernel
theorem dX1_describe_32 : decode cX1_describe 32 = .ok (.aload_n 0, 1) := by decide +kernel
theorem dX1_describe_33 : decode cX1_describe 33 = .ok (.getfield 24, 3) := by decide +kernel
theorem dX1_describe_36 : decode cX1_describe 36 = .ok (.iload_n 1, 1) := by decide +kernel
theorem dX1_describe_37 : decode cX1_describe 37 = .ok (.iadd, 1) := by decide +kernel
theorem dX1_describe_38 : decode cX1_describe 38 = .ok (.invokevirtual 56, 3) := by decide +kernel
theorem dX1_describe_41 : decode cX1_describe 41 = .ok (.return_, 1) := by decide +kernel
theorem dX0_init_0 : decode cX0_init 0 = .ok (.aload_n 0, 1) := by decide +kernel
theorem dX0_init_1 : decode cX0_init 1 = .ok (.invokespecial 3, 3) := by decide +kernel
theorem dX0_init_4 : decode cX0_init 4 = .ok (.aload_n 0, 1) := by decide +kernel
theorem dX0_init_5 : decode cX0_init 5 = .ok (.iconst 4, 1) := by decide +kernel
theorem dX0_init_6 : decode cX0_init 6 = .ok (.newarray .int, 2) := by decide +kernel
theorem dX0_init_8 : decode cX0_init 8 = .ok (.putfield 9, 3) := by decide +kernel
theorem dX0_init_11 : decode cX0_init 11 = .ok (.aload_n 0, 1) := by decide +kernel
theorem dX0_init_12 : decode cX0_init 12 = .ok (.iconst 4, 1) := by decide +kernel
theorem dX0_init_13 : decode cX0_init 13 = .ok (.newarray .int, 2) := by decide +kernel
theorem dX0_init_15 : decode cX0_init 15 = .ok (.putfield 15, 3) := by decide +kernel
theorem dX0_init_18 : decode cX0_init 18 = .ok (.aload_n 0, 1) := by decide +kernel
theorem dX0_init_19 : decode cX0_init 19 = .ok (.iconst 5, 1) := by decide +kernel
theorem dX0_init_20 : decode cX0_init 20 = .ok (.newarray .int, 2) := by decide +kernel
theorem dX0_init_22 : decode cX0_init 22 = .ok (.putfield 18, 3) := by decide +kernel
theorem dX0_init_25 : decode cX0_init 25 = .ok (.aload_n 0, 1) := by decide +kernel
theorem dX0_init_26 : decode cX0_init 26 = .ok (.iconst 4, 1) := by decide +kernel
theorem dX0_init_27 : decode cX0_init 27 = .ok (.newarray .int, 2) := by decide +kernel
theorem dX0_init_29 : decode cX0_init 29 = .ok (.putfield 21, 3) := by decide +kernel
theorem dX0_init_32 : decode cX0_init 32 = .ok (.aload_n 0, 1) := by decide +kernel
theorem dX0_init_33 : decode cX0_init 33 = .ok (.aload_n 1, 1) := by decide +kernel
theorem dX0_init_34 : decode cX0_init 34 = .ok (.putfield 24, 3) := by decide +kernel
theorem dX0_init_37 : decode cX0_init 37 = .ok (.aload_n 0, 1) := by decide +kernel
theorem dX0_init_38 : decode cX0_init 38 = .ok (.iload_n 2, 1) := by decide +kernel
theorem dX0_init_39 : decode cX0_init 39 = .ok (.putfield 28, 3) := by decide +kernel
theorem dX0_init_42 : decode cX0_init 42 = .ok (.aload_n 0, 1) := by decide +kernel
theorem dX0_init_43 : decode cX0_init 43 = .ok (.iload_n 3, 1) := by decide +kernel
theorem dX0_init_44 : decode cX0_init 44 = .ok (.putfield 32, 3) := by decide +kernel
theorem dX0_init_47 : decode cX0_init 47 = .ok (.return_, 1) := by decide +kernel
theorem dX0_allPlaces_0 : decode cX0_allPlaces 0 = .ok (.aload_n 0, 1) := by decide +kernel
theorem dX0_allPlaces_1 : decode cX0_allPlaces 1 = .ok (.getfield 28, 3) := by decide +kernel
theorem dX0_allPlaces_4 : decode cX0_allPlaces 4 = .ok (.bipush 32, 2) := by decide +kernel
theorem dX0_allPlaces_6 : decode cX0_allPlaces 6 = .ok (.if_icmp .lt 7, 3) := by decide +kernel
theorem dX0_allPlaces_9 : decode cX0_allPlaces 9 = .ok (.iconst (-1), 1) := by decide +kernel
theorem dX0_allPlaces_10 : decode cX0_allPlaces 10 = .ok (.goto 11, 3) := by decide +kernel
theorem dX0_allPlaces_13 : decode cX0_allPlaces 13 = .ok (.iconst 1, 1) := by decide +kernel
theorem dX0_allPlaces_14 : decode cX0_allPlaces 14 = .ok (.aload_n 0, 1) := by decide +kernel
theorem dX0_allPlaces_15 : decode cX0_allPlaces 15 = .ok (.getfield 28, 3) := by decide +kernel
theorem dX0_allPlaces_18 : decode cX0_allPlaces 18 = .ok (.ishl, 1) := by decide +kernel
theorem dX0_allPlaces_19 : decode cX0_allPlaces 19 = .ok (.iconst 1, 1) := by decide +kernel
theorem dX0_allPlaces_20 : decode cX0_allPlaces 20 = .ok (.isub, 1) := by decide +kernel
theorem dX0_allPlaces_21 : decode cX0_allPlaces 21 = .ok (.ireturn, 1) := by decide +kernel
theorem dX0_fits_0 : decode cX0_fits 0 = .ok (.aload_n 1, 1) := by decide +kernel
theorem dX0_fits_1 : decode cX0_fits 1 = .ok (.ifnull 22, 3) := by decide +kernel
theorem dX0_fits_4 : decode cX0_fits 4 = .ok (.iload_n 2, 1) := by decide +kernel
theorem dX0_fits_5 : decode cX0_fits 5 = .ok (.ifCond .lt 18, 3) := by decide +kernel
theorem dX0_fits_8 : decode cX0_fits 8 = .ok (.iload_n 2, 1) := by decide +kernel
theorem dX0_fits_9 : decode cX0_fits 9 = .ok (.aload_n 1, 1) := by decide +kernel
theorem dX0_fits_10 : decode cX0_fits 10 = .ok (.arraylength, 1) := by decide +kernel
theorem dX0_fits_11 : decode cX0_fits 11 = .ok (.aload_n 0, 1) := by decide +kernel
theorem dX0_fits_12 : decode cX0_fits 12 = .ok (.getfield 28, 3) := by decide +kernel
theorem dX0_fits_15 : decode cX0_fits 15 = .ok (.isub, 1) := by decide +kernel
theorem dX0_fits_16 : decode cX0_fits 16 = .ok (.if_icmp .gt 7, 3) := by decide +kernel
theorem dX0_fits_19 : decode cX0_fits 19 = .ok (.iconst 1, 1) := by decide +kernel
theorem dX0_fits_20 : decode cX0_fits 20 = .ok (.goto 4, 3) := by decide +kernel
theorem dX0_fits_23 : decode cX0_fits 23 = .ok (.iconst 0, 1) := by decide +kernel
theorem dX0_fits_24 : decode cX0_fits 24 = .ok (.ireturn, 1) := by decide +kernel
theorem dX0_sumOf_0 : decode cX0_sumOf 0 = .ok (.aload_n 0, 1) := by decide +kernel
theorem dX0_sumOf_1 : decode cX0_sumOf 1 = .ok (.aload_n 1, 1) := by decide +kernel
theorem dX0_sumOf_2 : decode cX0_sumOf 2 = .ok (.iload_n 2, 1) := by decide +kernel
theorem dX0_sumOf_3 : decode cX0_sumOf 3 = .ok (.invokevirtual 35, 3) := by decide +kernel
theorem dX0_sumOf_6 : decode cX0_sumOf 6 = .ok (.iload_n 3, 1) := by decide +kernel
theorem dX0_sumOf_7 : decode cX0_sumOf 7 = .ok (.ifCond .lt 21, 3) := by decide +kernel
theorem dX0_sumOf_10 : decode cX0_sumOf 10 = .ok (.iload_n 3, 1) := by decide +kernel
theorem dX0_sumOf_11 : decode cX0_sumOf 11 = .ok (.aload_n 0, 1) := by decide +kernel
theorem dX0_sumOf_12 : decode cX0_sumOf 12 = .ok (.getfield 9, 3) := by decide +kernel
theorem dX0_sumOf_15 : decode cX0_sumOf 15 = .ok (.arraylength, 1) := by decide +kernel
theorem dX0_sumOf_16 : decode cX0_sumOf 16 = .ok (.if_icmp .ge 12, 3) := by decide +kernel
theorem dX0_sumOf_19 : decode cX0_sumOf 19 = .ok (.aload_n 0, 1) := by decide +kernel
theorem dX0_sumOf_20 : decode cX0_sumOf 20 = .ok (.getfield 9, 3) := by decide +kernel
theorem dX0_sumOf_23 : decode cX0_sumOf 23 = .ok (.iload_n 3, 1) := by decide +kernel
theorem dX0_sumOf_24 : decode cX0_sumOf 24 = .ok (.iaload, 1) := by decide +kernel
theorem dX0_sumOf_25 : decode cX0_sumOf 25 = .ok (.goto 4, 3) := by decide +kernel
theorem dX0_sumOf_28 : decode cX0_sumOf 28 = .ok (.iconst (-1), 1) := by decide +kernel
theorem dX0_sumOf_29 : decode cX0_sumOf 29 = .ok (.ireturn, 1) := by decide +kernel
theorem dX0_settle_0 : decode cX0_settle 0 = .ok (.aload_n 0, 1) := by decide +kernel
theorem dX0_settle_1 : decode cX0_settle 1 = .ok (.aload_n 1, 1) := by decide +kernel
theorem dX0_settle_2 : decode cX0_settle 2 = .ok (.iload_n 2, 1) := by decide +kernel
theorem dX0_settle_3 : decode cX0_settle 3 = .ok (.invokevirtual 35, 3) := by decide +kernel
theorem dX0_settle_6 : decode cX0_settle 6 = .ok (.aload_n 0, 1) := by decide +kernel
theorem dX0_settle_7 : decode cX0_settle 7 = .ok (.iconst 0, 1) := by decide +kernel
theorem dX0_settle_8 : decode cX0_settle 8 = .ok (.putfield 39, 3) := by decide +kernel
theorem dX0_settle_11 : decode cX0_settle 11 = .ok (.iconst 0, 1) := by decide +kernel
theorem dX0_settle_12 : decode cX0_settle 12 = .ok (.istore_n 3, 1) := by decide +kernel
theorem dX0_settle_13 : decode cX0_settle 13 = .ok (.iload_n 3, 1) := by decide +kernel
theorem dX0_settle_14 : decode cX0_settle 14 = .ok (.iconst 4, 1) := by decide +kernel
theorem dX0_settle_15 : decode cX0_settle 15 = .ok (.if_icmp .ge 19, 3) := by decide +kernel
theorem dX0_settle_18 : decode cX0_settle 18 = .ok (.aload_n 0, 1) := by decide +kernel
theorem dX0_settle_19 : decode cX0_settle 19 = .ok (.aload_n 0, 1) := by decide +kernel
theorem dX0_settle_20 : decode cX0_settle 20 = .ok (.getfield 32, 3) := by decide +kernel
theorem dX0_settle_23 : decode cX0_settle 23 = .ok (.iload_n 3, 1) := by decide +kernel
theorem dX0_settle_24 : decode cX0_settle 24 = .ok (.iadd, 1) := by decide +kernel
theorem dX0_settle_25 : decode cX0_settle 25 = .ok (.invokevirtual 42, 3) := by decide +kernel
theorem dX0_settle_28 : decode cX0_settle 28 = .ok (.iinc 3 1, 3) := by decide +kernel
theorem dX0_settle_31 : decode cX0_settle 31 = .ok (.goto (-18), 3) := by decide +kernel
theorem dX0_settle_34 : decode cX0_settle 34 = .ok (.aload_n 0, 1) := by decide +kernel
theorem dX0_settle_35 : decode cX0_settle 35 = .ok (.aload_n 1, 1) := by decide +kernel
theorem dX0_settle_36 : decode cX0_settle 36 = .ok (.iload_n 2, 1) := by decide +kernel
theorem dX0_settle_37 : decode cX0_settle 37 = .ok (.invokevirtual 46, 3) := by decide +kernel
theorem dX0_settle_40 : decode cX0_settle 40 = .ok (.return_, 1) := by decide +kernel
theorem dX0_heal_0 : decode cX0_heal 0 = .ok (.iload_n 3, 1) := by decide +kernel
theorem dX0_heal_1 : decode cX0_heal 1 = .ok (.aload_n 0, 1) := by decide +kernel
theorem dX0_heal_2 : decode cX0_heal 2 = .ok (.invokevirtual 49, 3) := by decide +kernel
theorem dX0_heal_5 : decode cX0_heal 5 = .ok (.iand, 1) := by decide +kernel
theorem dX0_heal_6 : decode cX0_heal 6 = .ok (.invokestatic 53, 3) := by decide +kernel
theorem dX0_heal_9 : decode cX0_heal 9 = .ok (.istore 5, 2) := by decide +kernel
theorem dX0_heal_11 : decode cX0_heal 11 = .ok (.iload 5, 2) := by decide +kernel
theorem dX0_heal_13 : decode cX0_heal 13 = .ok (.iconst 4, 1) := by decide +kernel
theorem dX0_heal_14 : decode cX0_heal 14 = .ok (.if_icmp .le 6, 3) := by decide +kernel
theorem dX0_heal_17 : decode cX0_heal 17 = .ok (.bipush (-2), 2) := by decide +kernel
theorem dX0_heal_19 : decode cX0_heal 19 = .ok (.ireturn, 1) := by decide +kernel
theorem dX0_heal_20 : decode cX0_heal 20 = .ok (.aload_n 0, 1) := by decide +kernel
theorem dX0_heal_21 : decode cX0_heal 21 = .ok (.aload_n 1, 1) := by decide +kernel
theorem dX0_heal_22 : decode cX0_heal 22 = .ok (.iload_n 2, 1) := by decide +kernel
theorem dX0_heal_23 : decode cX0_heal 23 = .ok (.invokevirtual 35, 3) := by decide +kernel
theorem dX0_heal_26 : decode cX0_heal 26 = .ok (.aload_n 0, 1) := by decide +kernel
theorem dX0_heal_27 : decode cX0_heal 27 = .ok (.iconst 0, 1) := by decide +kernel
theorem dX0_heal_28 : decode cX0_heal 28 = .ok (.putfield 39, 3) := by decide +kernel
theorem dX0_heal_31 : decode cX0_heal 31 = .ok (.iconst 0, 1) := by decide +kernel
theorem dX0_heal_32 : decode cX0_heal 32 = .ok (.istore 6, 2) := by decide +kernel
theorem dX0_heal_34 : decode cX0_heal 34 = .ok (.iload 6, 2) := by decide +kernel
theorem dX0_heal_36 : decode cX0_heal 36 = .ok (.aload_n 0, 1) := by decide +kernel
theorem dX0_heal_37 : decode cX0_heal 37 = .ok (.getfield 28, 3) := by decide +kernel
theorem dX0_heal_40 : decode cX0_heal 40 = .ok (.if_icmp .ge 25, 3) := by decide +kernel
theorem dX0_heal_43 : decode cX0_heal 43 = .ok (.iload_n 3, 1) := by decide +kernel
theorem dX0_heal_44 : decode cX0_heal 44 = .ok (.iload 6, 2) := by decide +kernel
theorem dX0_heal_46 : decode cX0_heal 46 = .ok (.iushr, 1) := by decide +kernel
theorem dX0_heal_47 : decode cX0_heal 47 = .ok (.iconst 1, 1) := by decide +kernel
theorem dX0_heal_48 : decode cX0_heal 48 = .ok (.iand, 1) := by decide +kernel
theorem dX0_heal_49 : decode cX0_heal 49 = .ok (.iconst 1, 1) := by decide +kernel
theorem dX0_heal_50 : decode cX0_heal 50 = .ok (.if_icmp .ne 9, 3) := by decide +kernel
theorem dX0_heal_53 : decode cX0_heal 53 = .ok (.aload_n 0, 1) := by decide +kernel
theorem dX0_heal_54 : decode cX0_heal 54 = .ok (.iload 6, 2) := by decide +kernel
theorem dX0_heal_56 : decode cX0_heal 56 = .ok (.invokevirtual 42, 3) := by decide +kernel
theorem dX0_heal_59 : decode cX0_heal 59 = .ok (.iinc 6 1, 3) := by decide +kernel
theorem dX0_heal_62 : decode cX0_heal 62 = .ok (.goto (-28), 3) := by decide +kernel
theorem dX0_heal_65 : decode cX0_heal 65 = .ok (.aload_n 0, 1) := by decide +kernel
theorem dX0_heal_66 : decode cX0_heal 66 = .ok (.iload_n 3, 1) := by decide +kernel
theorem dX0_heal_67 : decode cX0_heal 67 = .ok (.iload 4, 2) := by decide +kernel
theorem dX0_heal_69 : decode cX0_heal 69 = .ok (.iconst 4, 1) := by decide +kernel
theorem dX0_heal_70 : decode cX0_heal 70 = .ok (.iload 5, 2) := by decide +kernel
theorem dX0_heal_72 : decode cX0_heal 72 = .ok (.isub, 1) := by decide +kernel
theorem dX0_heal_73 : decode cX0_heal 73 = .ok (.iconst 2, 1) := by decide +kernel
theorem dX0_heal_74 : decode cX0_heal 74 = .ok (.idiv, 1) := by decide +kernel
theorem dX0_heal_75 : decode cX0_heal 75 = .ok (.invokestatic 59, 3) := by decide +kernel
theorem dX0_heal_78 : decode cX0_heal 78 = .ok (.invokevirtual 65, 3) := by decide +kernel
theorem dX0_heal_81 : decode cX0_heal 81 = .ok (.ifCond .ne 6, 3) := by decide +kernel
theorem dX0_heal_84 : decode cX0_heal 84 = .ok (.bipush (-2), 2) := by decide +kernel
theorem dX0_heal_86 : decode cX0_heal 86 = .ok (.ireturn, 1) := by decide +kernel
theorem dX0_heal_87 : decode cX0_heal 87 = .ok (.aload_n 0, 1) := by decide +kernel
theorem dX0_heal_88 : decode cX0_heal 88 = .ok (.aload_n 1, 1) := by decide +kernel
theorem dX0_heal_89 : decode cX0_heal 89 = .ok (.iload_n 2, 1) := by decide +kernel
theorem dX0_heal_90 : decode cX0_heal 90 = .ok (.invokevirtual 46, 3) := by decide +kernel
theorem dX0_heal_93 : decode cX0_heal 93 = .ok (.aload_n 0, 1) := by decide +kernel
theorem dX0_heal_94 : decode cX0_heal 94 = .ok (.getfield 39, 3) := by decide +kernel
theorem dX0_heal_97 : decode cX0_heal 97 = .ok (.ireturn, 1) := by decide +kernel
theorem dX0_addSpot_0 : decode cX0_addSpot 0 = .ok (.aload_n 0, 1) := by decide +kernel
theorem dX0_addSpot_1 : decode cX0_addSpot 1 = .ok (.getfield 39, 3) := by decide +kernel
theorem dX0_addSpot_4 : decode cX0_addSpot 4 = .ok (.ifCond .lt 35, 3) := by decide +kernel
theorem dX0_addSpot_7 : decode cX0_addSpot 7 = .ok (.aload_n 0, 1) := by decide +kernel
theorem dX0_addSpot_8 : decode cX0_addSpot 8 = .ok (.getfield 39, 3) := by decide +kernel
theorem dX0_addSpot_11 : decode cX0_addSpot 11 = .ok (.aload_n 0, 1) := by decide +kernel
theorem dX0_addSpot_12 : decode cX0_addSpot 12 = .ok (.getfield 15, 3) := by decide +kernel
theorem dX0_addSpot_15 : decode cX0_addSpot 15 = .ok (.arraylength, 1) := by decide +kernel
theorem dX0_addSpot_16 : decode cX0_addSpot 16 = .ok (.if_icmp .ge 23, 3) := by decide +kernel
theorem dX0_addSpot_19 : decode cX0_addSpot 19 = .ok (.aload_n 0, 1) := by decide +kernel
theorem dX0_addSpot_20 : decode cX0_addSpot 20 = .ok (.getfield 15, 3) := by decide +kernel
theorem dX0_addSpot_23 : decode cX0_addSpot 23 = .ok (.aload_n 0, 1) := by decide +kernel
theorem dX0_addSpot_24 : decode cX0_addSpot 24 = .ok (.getfield 39, 3) := by decide +kernel
theorem dX0_addSpot_27 : decode cX0_addSpot 27 = .ok (.iload_n 1, 1) := by decide +kernel
theorem dX0_addSpot_28 : decode cX0_addSpot 28 = .ok (.iastore, 1) := by decide +kernel
theorem dX0_addSpot_29 : decode cX0_addSpot 29 = .ok (.aload_n 0, 1) := by decide +kernel
theorem dX0_addSpot_30 : decode cX0_addSpot 30 = .ok (.dup, 1) := by decide +kernel
theorem dX0_addSpot_31 : decode cX0_addSpot 31 = .ok (.getfield 39, 3) := by decide +kernel
theorem dX0_addSpot_34 : decode cX0_addSpot 34 = .ok (.iconst 1, 1) := by decide +kernel
theorem dX0_addSpot_35 : decode cX0_addSpot 35 = .ok (.iadd, 1) := by decide +kernel
theorem dX0_addSpot_36 : decode cX0_addSpot 36 = .ok (.putfield 39, 3) := by decide +kernel
theorem dX0_addSpot_39 : decode cX0_addSpot 39 = .ok (.return_, 1) := by decide +kernel
theorem dX0_sumUp_0 : decode cX0_sumUp 0 = .ok (.iconst 0, 1) := by decide +kernel
theorem dX0_sumUp_1 : decode cX0_sumUp 1 = .ok (.istore_n 3, 1) := by decide +kernel
theorem dX0_sumUp_2 : decode cX0_sumUp 2 = .ok (.iconst 0, 1) := by decide +kernel
theorem dX0_sumUp_3 : decode cX0_sumUp 3 = .ok (.istore 4, 2) := by decide +kernel
theorem dX0_sumUp_5 : decode cX0_sumUp 5 = .ok (.iconst 0, 1) := by decide +kernel
theorem dX0_sumUp_6 : decode cX0_sumUp 6 = .ok (.istore 5, 2) := by decide +kernel
theorem dX0_sumUp_8 : decode cX0_sumUp 8 = .ok (.iconst 0, 1) := by decide +kernel
theorem dX0_sumUp_9 : decode cX0_sumUp 9 = .ok (.istore 6, 2) := by decide +kernel
theorem dX0_sumUp_11 : decode cX0_sumUp 11 = .ok (.aload_n 0, 1) := by decide +kernel
theorem dX0_sumUp_12 : decode cX0_sumUp 12 = .ok (.aload_n 1, 1) := by decide +kernel
theorem dX0_sumUp_13 : decode cX0_sumUp 13 = .ok (.iload_n 2, 1) := by decide +kernel
theorem dX0_sumUp_14 : decode cX0_sumUp 14 = .ok (.invokevirtual 69, 3) := by decide +kernel
theorem dX0_sumUp_17 : decode cX0_sumUp 17 = .ok (.ifCond .eq 12, 3) := by decide +kernel
theorem dX0_sumUp_20 : decode cX0_sumUp 20 = .ok (.iload_n 2, 1) := by decide +kernel
theorem dX0_sumUp_21 : decode cX0_sumUp 21 = .ok (.aload_n 0, 1) := by decide +kernel
theorem dX0_sumUp_22 : decode cX0_sumUp 22 = .ok (.getfield 28, 3) := by decide +kernel
theorem dX0_sumUp_25 : decode cX0_sumUp 25 = .ok (.iadd, 1) := by decide +kernel
theorem dX0_sumUp_26 : decode cX0_sumUp 26 = .ok (.goto 4, 3) := by decide +kernel
theorem dX0_sumUp_29 : decode cX0_sumUp 29 = .ok (.iload_n 2, 1) := by decide +kernel
theorem dX0_sumUp_30 : decode cX0_sumUp 30 = .ok (.istore 7, 2) := by decide +kernel
theorem dX0_sumUp_32 : decode cX0_sumUp 32 = .ok (.iload_n 2, 1) := by decide +kernel
theorem dX0_sumUp_33 : decode cX0_sumUp 33 = .ok (.istore 8, 2) := by decide +kernel
theorem dX0_sumUp_35 : decode cX0_sumUp 35 = .ok (.iload 8, 2) := by decide +kernel
theorem dX0_sumUp_37 : decode cX0_sumUp 37 = .ok (.iload 7, 2) := by decide +kernel
theorem dX0_sumUp_39 : decode cX0_sumUp 39 = .ok (.if_icmp .ge 63, 3) := by decide +kernel
theorem dX0_sumUp_42 : decode cX0_sumUp 42 = .ok (.aload_n 1, 1) := by decide +kernel
theorem dX0_sumUp_43 : decode cX0_sumUp 43 = .ok (.iload 8, 2) := by decide +kernel
theorem dX0_sumUp_45 : decode cX0_sumUp 45 = .ok (.baload, 1) := by decide +kernel
theorem dX0_sumUp_46 : decode cX0_sumUp 46 = .ok (.sipush 255, 3) := by decide +kernel
theorem dX0_sumUp_49 : decode cX0_sumUp 49 = .ok (.iand, 1) := by decide +kernel
theorem dX0_sumUp_50 : decode cX0_sumUp 50 = .ok (.istore 9, 2) := by decide +kernel
theorem dX0_sumUp_52 : decode cX0_sumUp 52 = .ok (.iload_n 3, 1) := by decide +kernel
theorem dX0_sumUp_53 : decode cX0_sumUp 53 = .ok (.iload 9, 2) := by decide +kernel
theorem dX0_sumUp_55 : decode cX0_sumUp 55 = .ok (.ixor, 1) := by decide +kernel
theorem dX0_sumUp_56 : decode cX0_sumUp 56 = .ok (.istore_n 3, 1) := by decide +kernel
theorem dX0_sumUp_57 : decode cX0_sumUp 57 = .ok (.iload 4, 2) := by decide +kernel
theorem dX0_sumUp_59 : decode cX0_sumUp 59 = .ok (.invokestatic 73, 3) := by decide +kernel
theorem dX0_sumUp_62 : decode cX0_sumUp 62 = .ok (.iload 9, 2) := by decide +kernel
theorem dX0_sumUp_64 : decode cX0_sumUp 64 = .ok (.ixor, 1) := by decide +kernel
theorem dX0_sumUp_65 : decode cX0_sumUp 65 = .ok (.istore 4, 2) := by decide +kernel
theorem dX0_sumUp_67 : decode cX0_sumUp 67 = .ok (.iload 5, 2) := by decide +kernel
theorem dX0_sumUp_69 : decode cX0_sumUp 69 = .ok (.invokestatic 73, 3) := by decide +kernel
theorem dX0_sumUp_72 : decode cX0_sumUp 72 = .ok (.invokestatic 73, 3) := by decide +kernel
theorem dX0_sumUp_75 : decode cX0_sumUp 75 = .ok (.iload 9, 2) := by decide +kernel
theorem dX0_sumUp_77 : decode cX0_sumUp 77 = .ok (.ixor, 1) := by decide +kernel
theorem dX0_sumUp_78 : decode cX0_sumUp 78 = .ok (.istore 5, 2) := by decide +kernel
theorem dX0_sumUp_80 : decode cX0_sumUp 80 = .ok (.iload 6, 2) := by decide +kernel
theorem dX0_sumUp_82 : decode cX0_sumUp 82 = .ok (.invokestatic 73, 3) := by decide +kernel
theorem dX0_sumUp_85 : decode cX0_sumUp 85 = .ok (.invokestatic 73, 3) := by decide +kernel
theorem dX0_sumUp_88 : decode cX0_sumUp 88 = .ok (.invokestatic 73, 3) := by decide +kernel
theorem dX0_sumUp_91 : decode cX0_sumUp 91 = .ok (.iload 9, 2) := by decide +kernel
theorem dX0_sumUp_93 : decode cX0_sumUp 93 = .ok (.ixor, 1) := by decide +kernel
theorem dX0_sumUp_94 : decode cX0_sumUp 94 = .ok (.istore 6, 2) := by decide +kernel
theorem dX0_sumUp_96 : decode cX0_sumUp 96 = .ok (.iinc 8 1, 3) := by decide +kernel
theorem dX0_sumUp_99 : decode cX0_sumUp 99 = .ok (.goto (-64), 3) := by decide +kernel
theorem dX0_sumUp_102 : decode cX0_sumUp 102 = .ok (.aload_n 0, 1) := by decide +kernel
theorem dX0_sumUp_103 : decode cX0_sumUp 103 = .ok (.getfield 9, 3) := by decide +kernel
theorem dX0_sumUp_106 : decode cX0_sumUp 106 = .ok (.iconst 0, 1) := by decide +kernel
theorem dX0_sumUp_107 : decode cX0_sumUp 107 = .ok (.iload_n 3, 1) := by decide +kernel
theorem dX0_sumUp_108 : decode cX0_sumUp 108 = .ok (.iastore, 1) := by decide +kernel
theorem dX0_sumUp_109 : decode cX0_sumUp 109 = .ok (.aload_n 0, 1) := by decide +kernel
theorem dX0_sumUp_110 : decode cX0_sumUp 110 = .ok (.getfield 9, 3) := by decide +kernel
theorem dX0_sumUp_113 : decode cX0_sumUp 113 = .ok (.iconst 1, 1) := by decide +kernel
theorem dX0_sumUp_114 : decode cX0_sumUp 114 = .ok (.iload 4, 2) := by decide +kernel
theorem dX0_sumUp_116 : decode cX0_sumUp 116 = .ok (.iastore, 1) := by decide +kernel
theorem dX0_sumUp_117 : decode cX0_sumUp 117 = .ok (.aload_n 0, 1) := by decide +kernel
theorem dX0_sumUp_118 : decode cX0_sumUp 118 = .ok (.getfield 9, 3) := by decide +kernel
theorem dX0_sumUp_121 : decode cX0_sumUp 121 = .ok (.iconst 2, 1) := by decide +kernel
theorem dX0_sumUp_122 : decode cX0_sumUp 122 = .ok (.iload 5, 2) := by decide +kernel
theorem dX0_sumUp_124 : decode cX0_sumUp 124 = .ok (.iastore, 1) := by decide +kernel
theorem dX0_sumUp_125 : decode cX0_sumUp 125 = .ok (.aload_n 0, 1) := by decide +kernel
theorem dX0_sumUp_126 : decode cX0_sumUp 126 = .ok (.getfield 9, 3) := by decide +kernel
theorem dX0_sumUp_129 : decode cX0_sumUp 129 = .ok (.iconst 3, 1) := by decide +kernel
theorem dX0_sumUp_130 : decode cX0_sumUp 130 = .ok (.iload 6, 2) := by decide +kernel
theorem dX0_sumUp_132 : decode cX0_sumUp 132 = .ok (.iastore, 1) := by decide +kernel
theorem dX0_sumUp_133 : decode cX0_sumUp 133 = .ok (.return_, 1) := by decide +kernel
theorem dX0_locate_0 : decode cX0_locate 0 = .ok (.aload_n 0, 1) := by decide +kernel
theorem dX0_locate_1 : decode cX0_locate 1 = .ok (.iconst (-1), 1) := by decide +kernel
theorem dX0_locate_2 : decode cX0_locate 2 = .ok (.invokevirtual 78, 3) := by decide +kernel
theorem dX0_locate_5 : decode cX0_locate 5 = .ok (.istore_n 3, 1) := by decide +kernel
theorem dX0_locate_6 : decode cX0_locate 6 = .ok (.iconst 1, 1) := by decide +kernel
theorem dX0_locate_7 : decode cX0_locate 7 = .ok (.istore 4, 2) := by decide +kernel
theorem dX0_locate_9 : decode cX0_locate 9 = .ok (.iconst 0, 1) := by decide +kernel
theorem dX0_locate_10 : decode cX0_locate 10 = .ok (.istore 5, 2) := by decide +kernel
theorem dX0_locate_12 : decode cX0_locate 12 = .ok (.iload 5, 2) := by decide +kernel
theorem dX0_locate_14 : decode cX0_locate 14 = .ok (.iconst 4, 1) := by decide +kernel
theorem dX0_locate_15 : decode cX0_locate 15 = .ok (.iload_n 3, 1) := by decide +kernel
theorem dX0_locate_16 : decode cX0_locate 16 = .ok (.isub, 1) := by decide +kernel
theorem dX0_locate_17 : decode cX0_locate 17 = .ok (.if_icmp .ge 43, 3) := by decide +kernel
theorem dX0_locate_20 : decode cX0_locate 20 = .ok (.aload_n 0, 1) := by decide +kernel
theorem dX0_locate_21 : decode cX0_locate 21 = .ok (.getfield 21, 3) := by decide +kernel
theorem dX0_locate_24 : decode cX0_locate 24 = .ok (.iload 5, 2) := by decide +kernel
theorem dX0_locate_26 : decode cX0_locate 26 = .ok (.aload_n 0, 1) := by decide +kernel
theorem dX0_locate_27 : decode cX0_locate 27 = .ok (.iload_n 3, 1) := by decide +kernel
theorem dX0_locate_28 : decode cX0_locate 28 = .ok (.iload 5, 2) := by decide +kernel
theorem dX0_locate_30 : decode cX0_locate 30 = .ok (.invokevirtual 81, 3) := by decide +kernel
theorem dX0_locate_33 : decode cX0_locate 33 = .ok (.iastore, 1) := by decide +kernel
theorem dX0_locate_34 : decode cX0_locate 34 = .ok (.iload 4, 2) := by decide +kernel
theorem dX0_locate_36 : decode cX0_locate 36 = .ok (.aload_n 0, 1) := by decide +kernel
theorem dX0_locate_37 : decode cX0_locate 37 = .ok (.getfield 21, 3) := by decide +kernel
theorem dX0_locate_40 : decode cX0_locate 40 = .ok (.iload 5, 2) := by decide +kernel
theorem dX0_locate_42 : decode cX0_locate 42 = .ok (.iaload, 1) := by decide +kernel
theorem dX0_locate_43 : decode cX0_locate 43 = .ok (.ifCond .ne 7, 3) := by decide +kernel
theorem dX0_locate_46 : decode cX0_locate 46 = .ok (.iconst 1, 1) := by decide +kernel
theorem dX0_locate_47 : decode cX0_locate 47 = .ok (.goto 4, 3) := by decide +kernel
theorem dX0_locate_50 : decode cX0_locate 50 = .ok (.iconst 0, 1) := by decide +kernel
theorem dX0_locate_51 : decode cX0_locate 51 = .ok (.iand, 1) := by decide +kernel
theorem dX0_locate_52 : decode cX0_locate 52 = .ok (.istore 4, 2) := by decide +kernel
theorem dX0_locate_54 : decode cX0_locate 54 = .ok (.iinc 5 1, 3) := by decide +kernel
theorem dX0_locate_57 : decode cX0_locate 57 = .ok (.goto (-45), 3) := by decide +kernel
theorem dX0_locate_60 : decode cX0_locate 60 = .ok (.iload 4, 2) := by decide +kernel
theorem dX0_locate_62 : decode cX0_locate 62 = .ok (.ifCond .eq 5, 3) := by decide +kernel
theorem dX0_locate_65 : decode cX0_locate 65 = .ok (.iconst 1, 1) := by decide +kernel
theorem dX0_locate_66 : decode cX0_locate 66 = .ok (.ireturn, 1) := by decide +kernel
theorem dX0_locate_67 : decode cX0_locate 67 = .ok (.iload_n 2, 1) := by decide +kernel
theorem dX0_locate_68 : decode cX0_locate 68 = .ok (.iconst 1, 1) := by decide +kernel
theorem dX0_locate_69 : decode cX0_locate 69 = .ok (.if_icmp .lt 14, 3) := by decide +kernel
theorem dX0_locate_72 : decode cX0_locate 72 = .ok (.aload_n 0, 1) := by decide +kernel
theorem dX0_locate_73 : decode cX0_locate 73 = .ok (.iload_n 1, 1) := by decide +kernel
theorem dX0_locate_74 : decode cX0_locate 74 = .ok (.iconst 4, 1) := by decide +kernel
theorem dX0_locate_75 : decode cX0_locate 75 = .ok (.iload_n 3, 1) := by decide +kernel
theorem dX0_locate_76 : decode cX0_locate 76 = .ok (.isub, 1) := by decide +kernel
theorem dX0_locate_77 : decode cX0_locate 77 = .ok (.invokevirtual 84, 3) := by decide +kernel
theorem dX0_locate_80 : decode cX0_locate 80 = .ok (.ifCond .ne 15, 3) := by decide +kernel
theorem dX0_locate_83 : decode cX0_locate 83 = .ok (.iload_n 2, 1) := by decide +kernel
theorem dX0_locate_84 : decode cX0_locate 84 = .ok (.iconst 2, 1) := by decide +kernel
theorem dX0_locate_85 : decode cX0_locate 85 = .ok (.if_icmp .lt 14, 3) := by decide +kernel
theorem dX0_locate_88 : decode cX0_locate 88 = .ok (.aload_n 0, 1) := by decide +kernel
theorem dX0_locate_89 : decode cX0_locate 89 = .ok (.invokevirtual 87, 3) := by decide +kernel
theorem dX0_locate_92 : decode cX0_locate 92 = .ok (.ifCond .eq 7, 3) := by decide +kernel
theorem dX0_locate_95 : decode cX0_locate 95 = .ok (.iconst 1, 1) := by decide +kernel
theorem dX0_locate_96 : decode cX0_locate 96 = .ok (.goto 4, 3) := by decide +kernel
theorem dX0_locate_99 : decode cX0_locate 99 = .ok (.iconst 0, 1) := by decide +kernel
theorem dX0_locate_100 : decode cX0_locate 100 = .ok (.ireturn, 1) := by decide +kernel
theorem dX0_locateOne_0 : decode cX0_locateOne 0 = .ok (.iload_n 2, 1) := by decide +kernel
theorem dX0_locateOne_1 : decode cX0_locateOne 1 = .ok (.iconst 2, 1) := by decide +kernel
theorem dX0_locateOne_2 : decode cX0_locateOne 2 = .ok (.if_icmp .lt 26, 3) := by decide +kernel
theorem dX0_locateOne_5 : decode cX0_locateOne 5 = .ok (.iload_n 2, 1) := by decide +kernel
theorem dX0_locateOne_6 : decode cX0_locateOne 6 = .ok (.iconst 4, 1) := by decide +kernel
theorem dX0_locateOne_7 : decode cX0_locateOne 7 = .ok (.if_icmp .gt 21, 3) := by decide +kernel
theorem dX0_locateOne_10 : decode cX0_locateOne 10 = .ok (.aload_n 0, 1) := by decide +kernel
theorem dX0_locateOne_11 : decode cX0_locateOne 11 = .ok (.getfield 21, 3) := by decide +kernel
theorem dX0_locateOne_14 : decode cX0_locateOne 14 = .ok (.iconst 0, 1) := by decide +kernel
theorem dX0_locateOne_15 : decode cX0_locateOne 15 = .ok (.iaload, 1) := by decide +kernel
theorem dX0_locateOne_16 : decode cX0_locateOne 16 = .ok (.ifCond .eq 12, 3) := by decide +kernel
theorem dX0_locateOne_19 : decode cX0_locateOne 19 = .ok (.aload_n 0, 1) := by decide +kernel
theorem dX0_locateOne_20 : decode cX0_locateOne 20 = .ok (.getfield 21, 3) := by decide +kernel
theorem dX0_locateOne_23 : decode cX0_locateOne 23 = .ok (.iconst 1, 1) := by decide +kernel
theorem dX0_locateOne_24 : decode cX0_locateOne 24 = .ok (.iaload, 1) := by decide +kernel
theorem dX0_locateOne_25 : decode cX0_locateOne 25 = .ok (.ifCond .ne 5, 3) := by decide +kernel
theorem dX0_locateOne_28 : decode cX0_locateOne 28 = .ok (.iconst 0, 1) := by decide +kernel
theorem dX0_locateOne_29 : decode cX0_locateOne 29 = .ok (.ireturn, 1) := by decide +kernel
theorem dX0_locateOne_30 : decode cX0_locateOne 30 = .ok (.iconst 2, 1) := by decide +kernel
theorem dX0_locateOne_31 : decode cX0_locateOne 31 = .ok (.istore_n 3, 1) := by decide +kernel
theorem dX0_locateOne_32 : decode cX0_locateOne 32 = .ok (.iload_n 3, 1) := by decide +kernel
theorem dX0_locateOne_33 : decode cX0_locateOne 33 = .ok (.iload_n 2, 1) := by decide +kernel
theorem dX0_locateOne_34 : decode cX0_locateOne 34 = .ok (.if_icmp .ge 54, 3) := by decide +kernel
theorem dX0_locateOne_37 : decode cX0_locateOne 37 = .ok (.aload_n 0, 1) := by decide +kernel
theorem dX0_locateOne_38 : decode cX0_locateOne 38 = .ok (.getfield 24, 3) := by decide +kernel
theorem dX0_locateOne_41 : decode cX0_locateOne 41 = .ok (.aload_n 0, 1) := by decide +kernel
theorem dX0_locateOne_42 : decode cX0_locateOne 42 = .ok (.getfield 21, 3) := by decide +kernel
theorem dX0_locateOne_45 : decode cX0_locateOne 45 = .ok (.iload_n 3, 1) := by decide +kernel
theorem dX0_locateOne_46 : decode cX0_locateOne 46 = .ok (.iaload, 1) := by decide +kernel
theorem dX0_locateOne_47 : decode cX0_locateOne 47 = .ok (.aload_n 0, 1) := by decide +kernel
theorem dX0_locateOne_48 : decode cX0_locateOne 48 = .ok (.getfield 21, 3) := by decide +kernel
theorem dX0_locateOne_51 : decode cX0_locateOne 51 = .ok (.iconst 0, 1) := by decide +kernel
theorem dX0_locateOne_52 : decode cX0_locateOne 52 = .ok (.iaload, 1) := by decide +kernel
theorem dX0_locateOne_53 : decode cX0_locateOne 53 = .ok (.invokevirtual 91, 3) := by decide +kernel
theorem dX0_locateOne_56 : decode cX0_locateOne 56 = .ok (.aload_n 0, 1) := by decide +kernel
theorem dX0_locateOne_57 : decode cX0_locateOne 57 = .ok (.getfield 24, 3) := by decide +kernel
theorem dX0_locateOne_60 : decode cX0_locateOne 60 = .ok (.aload_n 0, 1) := by decide +kernel
theorem dX0_locateOne_61 : decode cX0_locateOne 61 = .ok (.getfield 21, 3) := by decide +kernel
theorem dX0_locateOne_64 : decode cX0_locateOne 64 = .ok (.iload_n 3, 1) := by decide +kernel
theorem dX0_locateOne_65 : decode cX0_locateOne 65 = .ok (.iconst 1, 1) := by decide +kernel
theorem dX0_locateOne_66 : decode cX0_locateOne 66 = .ok (.isub, 1) := by decide +kernel
theorem dX0_locateOne_67 : decode cX0_locateOne 67 = .ok (.iaload, 1) := by decide +kernel
theorem dX0_locateOne_68 : decode cX0_locateOne 68 = .ok (.aload_n 0, 1) := by decide +kernel
theorem dX0_locateOne_69 : decode cX0_locateOne 69 = .ok (.getfield 21, 3) := by decide +kernel
theorem dX0_locateOne_72 : decode cX0_locateOne 72 = .ok (.iconst 1, 1) := by decide +kernel
theorem dX0_locateOne_73 : decode cX0_locateOne 73 = .ok (.iaload, 1) := by decide +kernel
theorem dX0_locateOne_74 : decode cX0_locateOne 74 = .ok (.invokevirtual 91, 3) := by decide +kernel
theorem dX0_locateOne_77 : decode cX0_locateOne 77 = .ok (.if_icmp .eq 5, 3) := by decide +kernel
theorem dX0_locateOne_80 : decode cX0_locateOne 80 = .ok (.iconst 0, 1) := by decide +kernel
theorem dX0_locateOne_81 : decode cX0_locateOne 81 = .ok (.ireturn, 1) := by decide +kernel
theorem dX0_locateOne_82 : decode cX0_locateOne 82 = .ok (.iinc 3 1, 3) := by decide +kernel
theorem dX0_locateOne_85 : decode cX0_locateOne 85 = .ok (.goto (-53), 3) := by decide +kernel
theorem dX0_locateOne_88 : decode cX0_locateOne 88 = .ok (.aload_n 0, 1) := by decide +kernel
theorem dX0_locateOne_89 : decode cX0_locateOne 89 = .ok (.getfield 28, 3) := by decide +kernel
theorem dX0_locateOne_92 : decode cX0_locateOne 92 = .ok (.iconst 1, 1) := by decide +kernel
theorem dX0_locateOne_93 : decode cX0_locateOne 93 = .ok (.isub, 1) := by decide +kernel
theorem dX0_locateOne_94 : decode cX0_locateOne 94 = .ok (.aload_n 0, 1) := by decide +kernel
theorem dX0_locateOne_95 : decode cX0_locateOne 95 = .ok (.getfield 24, 3) := by decide +kernel
theorem dX0_locateOne_98 : decode cX0_locateOne 98 = .ok (.aload_n 0, 1) := by decide +kernel
theorem dX0_locateOne_99 : decode cX0_locateOne 99 = .ok (.getfield 24, 3) := by decide +kernel
theorem dX0_locateOne_102 : decode cX0_locateOne 102 = .ok (.aload_n 0, 1) := by decide +kernel
theorem dX0_locateOne_103 : decode cX0_locateOne 103 = .ok (.getfield 21, 3) := by decide +kernel
theorem dX0_locateOne_106 : decode cX0_locateOne 106 = .ok (.iconst 1, 1) := by decide +kernel
theorem dX0_locateOne_107 : decode cX0_locateOne 107 = .ok (.iaload, 1) := by decide +kernel
theorem dX0_locateOne_108 : decode cX0_locateOne 108 = .ok (.aload_n 0, 1) := by decide +kernel
theorem dX0_locateOne_109 : decode cX0_locateOne 109 = .ok (.getfield 21, 3) := by decide +kernel
theorem dX0_locateOne_112 : decode cX0_locateOne 112 = .ok (.iconst 0, 1) := by decide +kernel
theorem dX0_locateOne_113 : decode cX0_locateOne 113 = .ok (.iaload, 1) := by decide +kernel
theorem dX0_locateOne_114 : decode cX0_locateOne 114 = .ok (.invokevirtual 94, 3) := by decide +kernel
theorem dX0_locateOne_117 : decode cX0_locateOne 117 = .ok (.invokevirtual 97, 3) := by decide +kernel
theorem dX0_locateOne_120 : decode cX0_locateOne 120 = .ok (.isub, 1) := by decide +kernel
theorem dX0_locateOne_121 : decode cX0_locateOne 121 = .ok (.istore_n 3, 1) := by decide +kernel
theorem dX0_locateOne_122 : decode cX0_locateOne 122 = .ok (.iload_n 3, 1) := by decide +kernel
theorem dX0_locateOne_123 : decode cX0_locateOne 123 = .ok (.ifCond .lt 12, 3) := by decide +kernel
theorem dX0_locateOne_126 : decode cX0_locateOne 126 = .ok (.iload_n 1, 1) := by decide +kernel
theorem dX0_locateOne_127 : decode cX0_locateOne 127 = .ok (.iload_n 3, 1) := by decide +kernel
theorem dX0_locateOne_128 : decode cX0_locateOne 128 = .ok (.iushr, 1) := by decide +kernel
theorem dX0_locateOne_129 : decode cX0_locateOne 129 = .ok (.iconst 1, 1) := by decide +kernel
theorem dX0_locateOne_130 : decode cX0_locateOne 130 = .ok (.iand, 1) := by decide +kernel
theorem dX0_locateOne_131 : decode cX0_locateOne 131 = .ok (.iconst 1, 1) := by decide +kernel
theorem dX0_locateOne_132 : decode cX0_locateOne 132 = .ok (.if_icmp .ne 5, 3) := by decide +kernel
theorem dX0_locateOne_135 : decode cX0_locateOne 135 = .ok (.iconst 0, 1) := by decide +kernel
theorem dX0_locateOne_136 : decode cX0_locateOne 136 = .ok (.ireturn, 1) := by decide +kernel
theorem dX0_locateOne_137 : decode cX0_locateOne 137 = .ok (.aload_n 0, 1) := by decide +kernel
theorem dX0_locateOne_138 : decode cX0_locateOne 138 = .ok (.iload_n 3, 1) := by decide +kernel
theorem dX0_locateOne_139 : decode cX0_locateOne 139 = .ok (.invokevirtual 42, 3) := by decide +kernel
theorem dX0_locateOne_142 : decode cX0_locateOne 142 = .ok (.iconst 1, 1) := by decide +kernel
theorem dX0_locateOne_143 : decode cX0_locateOne 143 = .ok (.ireturn, 1) := by decide +kernel
theorem dX0_locateTwo_0 : decode cX0_locateTwo 0 = .ok (.aload_n 0, 1) := by decide +kernel
theorem dX0_locateTwo_1 : decode cX0_locateTwo 1 = .ok (.getfield 24, 3) := by decide +kernel
theorem dX0_locateTwo_4 : decode cX0_locateTwo 4 = .ok (.aload_n 0, 1) := by decide +kernel
theorem dX0_locateTwo_5 : decode cX0_locateTwo 5 = .ok (.getfield 9, 3) := by decide +kernel
theorem dX0_locateTwo_8 : decode cX0_locateTwo 8 = .ok (.iconst 1, 1) := by decide +kernel
theorem dX0_locateTwo_9 : decode cX0_locateTwo 9 = .ok (.iaload, 1) := by decide +kernel
theorem dX0_locateTwo_10 : decode cX0_locateTwo 10 = .ok (.aload_n 0, 1) := by decide +kernel
theorem dX0_locateTwo_11 : decode cX0_locateTwo 11 = .ok (.getfield 9, 3) := by decide +kernel
theorem dX0_locateTwo_14 : decode cX0_locateTwo 14 = .ok (.iconst 1, 1) := by decide +kernel
theorem dX0_locateTwo_15 : decode cX0_locateTwo 15 = .ok (.iaload, 1) := by decide +kernel
theorem dX0_locateTwo_16 : decode cX0_locateTwo 16 = .ok (.invokevirtual 91, 3) := by decide +kernel
theorem dX0_locateTwo_19 : decode cX0_locateTwo 19 = .ok (.aload_n 0, 1) := by decide +kernel
theorem dX0_locateTwo_20 : decode cX0_locateTwo 20 = .ok (.getfield 24, 3) := by decide +kernel
theorem dX0_locateTwo_23 : decode cX0_locateTwo 23 = .ok (.aload_n 0, 1) := by decide +kernel
theorem dX0_locateTwo_24 : decode cX0_locateTwo 24 = .ok (.getfield 9, 3) := by decide +kernel
theorem dX0_locateTwo_27 : decode cX0_locateTwo 27 = .ok (.iconst 0, 1) := by decide +kernel
theorem dX0_locateTwo_28 : decode cX0_locateTwo 28 = .ok (.iaload, 1) := by decide +kernel
theorem dX0_locateTwo_29 : decode cX0_locateTwo 29 = .ok (.aload_n 0, 1) := by decide +kernel
theorem dX0_locateTwo_30 : decode cX0_locateTwo 30 = .ok (.getfield 9, 3) := by decide +kernel
theorem dX0_locateTwo_33 : decode cX0_locateTwo 33 = .ok (.iconst 2, 1) := by decide +kernel
theorem dX0_locateTwo_34 : decode cX0_locateTwo 34 = .ok (.iaload, 1) := by decide +kernel
theorem dX0_locateTwo_35 : decode cX0_locateTwo 35 = .ok (.invokevirtual 91, 3) := by decide +kernel
theorem dX0_locateTwo_38 : decode cX0_locateTwo 38 = .ok (.ixor, 1) := by decide +kernel
theorem dX0_locateTwo_39 : decode cX0_locateTwo 39 = .ok (.istore_n 1, 1) := by decide +kernel
theorem dX0_locateTwo_40 : decode cX0_locateTwo 40 = .ok (.iload_n 1, 1) := by decide +kernel
theorem dX0_locateTwo_41 : decode cX0_locateTwo 41 = .ok (.ifCond .ne 5, 3) := by decide +kernel
theorem dX0_locateTwo_44 : decode cX0_locateTwo 44 = .ok (.iconst 0, 1) := by decide +kernel
theorem dX0_locateTwo_45 : decode cX0_locateTwo 45 = .ok (.ireturn, 1) := by decide +kernel
theorem dX0_locateTwo_46 : decode cX0_locateTwo 46 = .ok (.aload_n 0, 1) := by decide +kernel
theorem dX0_locateTwo_47 : decode cX0_locateTwo 47 = .ok (.getfield 24, 3) := by decide +kernel
theorem dX0_locateTwo_50 : decode cX0_locateTwo 50 = .ok (.aload_n 0, 1) := by decide +kernel
theorem dX0_locateTwo_51 : decode cX0_locateTwo 51 = .ok (.getfield 24, 3) := by decide +kernel
theorem dX0_locateTwo_54 : decode cX0_locateTwo 54 = .ok (.aload_n 0, 1) := by decide +kernel
theorem dX0_locateTwo_55 : decode cX0_locateTwo 55 = .ok (.getfield 9, 3) := by decide +kernel
theorem dX0_locateTwo_58 : decode cX0_locateTwo 58 = .ok (.iconst 0, 1) := by decide +kernel
theorem dX0_locateTwo_59 : decode cX0_locateTwo 59 = .ok (.iaload, 1) := by decide +kernel
theorem dX0_locateTwo_60 : decode cX0_locateTwo 60 = .ok (.aload_n 0, 1) := by decide +kernel
theorem dX0_locateTwo_61 : decode cX0_locateTwo 61 = .ok (.getfield 9, 3) := by decide +kernel
theorem dX0_locateTwo_64 : decode cX0_locateTwo 64 = .ok (.iconst 3, 1) := by decide +kernel
theorem dX0_locateTwo_65 : decode cX0_locateTwo 65 = .ok (.iaload, 1) := by decide +kernel
theorem dX0_locateTwo_66 : decode cX0_locateTwo 66 = .ok (.invokevirtual 91, 3) := by decide +kernel
theorem dX0_locateTwo_69 : decode cX0_locateTwo 69 = .ok (.aload_n 0, 1) := by decide +kernel
theorem dX0_locateTwo_70 : decode cX0_locateTwo 70 = .ok (.getfield 24, 3) := by decide +kernel
theorem dX0_locateTwo_73 : decode cX0_locateTwo 73 = .ok (.aload_n 0, 1) := by decide +kernel
theorem dX0_locateTwo_74 : decode cX0_locateTwo 74 = .ok (.getfield 9, 3) := by decide +kernel
theorem dX0_locateTwo_77 : decode cX0_locateTwo 77 = .ok (.iconst 1, 1) := by decide +kernel
theorem dX0_locateTwo_78 : decode cX0_locateTwo 78 = .ok (.iaload, 1) := by decide +kernel
theorem dX0_locateTwo_79 : decode cX0_locateTwo 79 = .ok (.aload_n 0, 1) := by decide +kernel
theorem dX0_locateTwo_80 : decode cX0_locateTwo 80 = .ok (.getfield 9, 3) := by decide +kernel
theorem dX0_locateTwo_83 : decode cX0_locateTwo 83 = .ok (.iconst 2, 1) := by decide +kernel
theorem dX0_locateTwo_84 : decode cX0_locateTwo 84 = .ok (.iaload, 1) := by decide +kernel
theorem dX0_locateTwo_85 : decode cX0_locateTwo 85 = .ok (.invokevirtual 91, 3) := by decide +kernel
theorem dX0_locateTwo_88 : decode cX0_locateTwo 88 = .ok (.ixor, 1) := by decide +kernel
theorem dX0_locateTwo_89 : decode cX0_locateTwo 89 = .ok (.iload_n 1, 1) := by decide +kernel
theorem dX0_locateTwo_90 : decode cX0_locateTwo 90 = .ok (.invokevirtual 94, 3) := by decide +kernel
theorem dX0_locateTwo_93 : decode cX0_locateTwo 93 = .ok (.istore_n 2, 1) := by decide +kernel
theorem dX0_locateTwo_94 : decode cX0_locateTwo 94 = .ok (.aload_n 0, 1) := by decide +kernel
theorem dX0_locateTwo_95 : decode cX0_locateTwo 95 = .ok (.getfield 24, 3) := by decide +kernel
theorem dX0_locateTwo_98 : decode cX0_locateTwo 98 = .ok (.aload_n 0, 1) := by decide +kernel
theorem dX0_locateTwo_99 : decode cX0_locateTwo 99 = .ok (.getfield 24, 3) := by decide +kernel
theorem dX0_locateTwo_102 : decode cX0_locateTwo 102 = .ok (.aload_n 0, 1) := by decide +kernel
theorem dX0_locateTwo_103 : decode cX0_locateTwo 103 = .ok (.getfield 9, 3) := by decide +kernel
theorem dX0_locateTwo_106 : decode cX0_locateTwo 106 = .ok (.iconst 1, 1) := by decide +kernel
theorem dX0_locateTwo_107 : decode cX0_locateTwo 107 = .ok (.iaload, 1) := by decide +kernel
theorem dX0_locateTwo_108 : decode cX0_locateTwo 108 = .ok (.aload_n 0, 1) := by decide +kernel
theorem dX0_locateTwo_109 : decode cX0_locateTwo 109 = .ok (.getfield 9, 3) := by decide +kernel
theorem dX0_locateTwo_112 : decode cX0_locateTwo 112 = .ok (.iconst 3, 1) := by decide +kernel
theorem dX0_locateTwo_113 : decode cX0_locateTwo 113 = .ok (.iaload, 1) := by decide +kernel
theorem dX0_locateTwo_114 : decode cX0_locateTwo 114 = .ok (.invokevirtual 91, 3) := by decide +kernel
theorem dX0_locateTwo_117 : decode cX0_locateTwo 117 = .ok (.aload_n 0, 1) := by decide +kernel
theorem dX0_locateTwo_118 : decode cX0_locateTwo 118 = .ok (.getfield 24, 3) := by decide +kernel
theorem dX0_locateTwo_121 : decode cX0_locateTwo 121 = .ok (.aload_n 0, 1) := by decide +kernel
theorem dX0_locateTwo_122 : decode cX0_locateTwo 122 = .ok (.getfield 9, 3) := by decide +kernel
theorem dX0_locateTwo_125 : decode cX0_locateTwo 125 = .ok (.iconst 2, 1) := by decide +kernel
theorem dX0_locateTwo_126 : decode cX0_locateTwo 126 = .ok (.iaload, 1) := by decide +kernel
theorem dX0_locateTwo_127 : decode cX0_locateTwo 127 = .ok (.aload_n 0, 1) := by decide +kernel
theorem dX0_locateTwo_128 : decode cX0_locateTwo 128 = .ok (.getfield 9, 3) := by decide +kernel
theorem dX0_locateTwo_131 : decode cX0_locateTwo 131 = .ok (.iconst 2, 1) := by decide +kernel
theorem dX0_locateTwo_132 : decode cX0_locateTwo 132 = .ok (.iaload, 1) := by decide +kernel
theorem dX0_locateTwo_133 : decode cX0_locateTwo 133 = .ok (.invokevirtual 91, 3) := by decide +kernel
theorem dX0_locateTwo_136 : decode cX0_locateTwo 136 = .ok (.ixor, 1) := by decide +kernel
theorem dX0_locateTwo_137 : decode cX0_locateTwo 137 = .ok (.iload_n 1, 1) := by decide +kernel
theorem dX0_locateTwo_138 : decode cX0_locateTwo 138 = .ok (.invokevirtual 94, 3) := by decide +kernel
theorem dX0_locateTwo_141 : decode cX0_locateTwo 141 = .ok (.istore_n 3, 1) := by decide +kernel
theorem dX0_locateTwo_142 : decode cX0_locateTwo 142 = .ok (.iconst 0, 1) := by decide +kernel
theorem dX0_locateTwo_143 : decode cX0_locateTwo 143 = .ok (.istore 4, 2) := by decide +kernel
theorem dX0_locateTwo_145 : decode cX0_locateTwo 145 = .ok (.iload 4, 2) := by decide +kernel
theorem dX0_locateTwo_147 : decode cX0_locateTwo 147 = .ok (.aload_n 0, 1) := by decide +kernel
theorem dX0_locateTwo_148 : decode cX0_locateTwo 148 = .ok (.getfield 28, 3) := by decide +kernel
theorem dX0_locateTwo_151 : decode cX0_locateTwo 151 = .ok (.if_icmp .ge 51, 3) := by decide +kernel
theorem dX0_locateTwo_154 : decode cX0_locateTwo 154 = .ok (.aload_n 0, 1) := by decide +kernel
theorem dX0_locateTwo_155 : decode cX0_locateTwo 155 = .ok (.getfield 24, 3) := by decide +kernel
theorem dX0_locateTwo_158 : decode cX0_locateTwo 158 = .ok (.aload_n 0, 1) := by decide +kernel
theorem dX0_locateTwo_159 : decode cX0_locateTwo 159 = .ok (.getfield 28, 3) := by decide +kernel
theorem dX0_locateTwo_162 : decode cX0_locateTwo 162 = .ok (.iconst 1, 1) := by decide +kernel
theorem dX0_locateTwo_163 : decode cX0_locateTwo 163 = .ok (.isub, 1) := by decide +kernel
theorem dX0_locateTwo_164 : decode cX0_locateTwo 164 = .ok (.iload 4, 2) := by decide +kernel
theorem dX0_locateTwo_166 : decode cX0_locateTwo 166 = .ok (.isub, 1) := by decide +kernel
theorem dX0_locateTwo_167 : decode cX0_locateTwo 167 = .ok (.invokevirtual 100, 3) := by decide +kernel
theorem dX0_locateTwo_170 : decode cX0_locateTwo 170 = .ok (.istore 5, 2) := by decide +kernel
theorem dX0_locateTwo_172 : decode cX0_locateTwo 172 = .ok (.aload_n 0, 1) := by decide +kernel
theorem dX0_locateTwo_173 : decode cX0_locateTwo 173 = .ok (.getfield 24, 3) := by decide +kernel
theorem dX0_locateTwo_176 : decode cX0_locateTwo 176 = .ok (.iload 5, 2) := by decide +kernel
theorem dX0_locateTwo_178 : decode cX0_locateTwo 178 = .ok (.iload_n 2, 1) := by decide +kernel
theorem dX0_locateTwo_179 : decode cX0_locateTwo 179 = .ok (.ixor, 1) := by decide +kernel
theorem dX0_locateTwo_180 : decode cX0_locateTwo 180 = .ok (.iload 5, 2) := by decide +kernel
theorem dX0_locateTwo_182 : decode cX0_locateTwo 182 = .ok (.invokevirtual 91, 3) := by decide +kernel
theorem dX0_locateTwo_185 : decode cX0_locateTwo 185 = .ok (.iload_n 3, 1) := by decide +kernel
theorem dX0_locateTwo_186 : decode cX0_locateTwo 186 = .ok (.ixor, 1) := by decide +kernel
theorem dX0_locateTwo_187 : decode cX0_locateTwo 187 = .ok (.ifCond .ne 9, 3) := by decide +kernel
theorem dX0_locateTwo_190 : decode cX0_locateTwo 190 = .ok (.aload_n 0, 1) := by decide +kernel
theorem dX0_locateTwo_191 : decode cX0_locateTwo 191 = .ok (.iload 4, 2) := by decide +kernel
theorem dX0_locateTwo_193 : decode cX0_locateTwo 193 = .ok (.invokevirtual 42, 3) := by decide +kernel
theorem dX0_locateTwo_196 : decode cX0_locateTwo 196 = .ok (.iinc 4 1, 3) := by decide +kernel
theorem dX0_locateTwo_199 : decode cX0_locateTwo 199 = .ok (.goto (-54), 3) := by decide +kernel
theorem dX0_locateTwo_202 : decode cX0_locateTwo 202 = .ok (.aload_n 0, 1) := by decide +kernel
theorem dX0_locateTwo_203 : decode cX0_locateTwo 203 = .ok (.getfield 39, 3) := by decide +kernel
theorem dX0_locateTwo_206 : decode cX0_locateTwo 206 = .ok (.iconst 2, 1) := by decide +kernel
theorem dX0_locateTwo_207 : decode cX0_locateTwo 207 = .ok (.if_icmp .ne 7, 3) := by decide +kernel
theorem dX0_locateTwo_210 : decode cX0_locateTwo 210 = .ok (.iconst 1, 1) := by decide +kernel
theorem dX0_locateTwo_211 : decode cX0_locateTwo 211 = .ok (.goto 4, 3) := by decide +kernel
theorem dX0_locateTwo_214 : decode cX0_locateTwo 214 = .ok (.iconst 0, 1) := by decide +kernel
theorem dX0_locateTwo_215 : decode cX0_locateTwo 215 = .ok (.ireturn, 1) := by decide +kernel
theorem dX0_spread_0 : decode cX0_spread 0 = .ok (.aload_n 0, 1) := by decide +kernel
theorem dX0_spread_1 : decode cX0_spread 1 = .ok (.getfield 18, 3) := by decide +kernel
theorem dX0_spread_4 : decode cX0_spread 4 = .ok (.iconst 0, 1) := by decide +kernel
theorem dX0_spread_5 : decode cX0_spread 5 = .ok (.invokestatic 103, 3) := by decide +kernel
theorem dX0_spread_8 : decode cX0_spread 8 = .ok (.aload_n 0, 1) := by decide +kernel
theorem dX0_spread_9 : decode cX0_spread 9 = .ok (.getfield 18, 3) := by decide +kernel
theorem dX0_spread_12 : decode cX0_spread 12 = .ok (.iconst 0, 1) := by decide +kernel
theorem dX0_spread_13 : decode cX0_spread 13 = .ok (.iconst 1, 1) := by decide +kernel
theorem dX0_spread_14 : decode cX0_spread 14 = .ok (.iastore, 1) := by decide +kernel
theorem dX0_spread_15 : decode cX0_spread 15 = .ok (.iconst 0, 1) := by decide +kernel
theorem dX0_spread_16 : decode cX0_spread 16 = .ok (.istore_n 2, 1) := by decide +kernel
theorem dX0_spread_17 : decode cX0_spread 17 = .ok (.iconst 0, 1) := by decide +kernel
theorem dX0_spread_18 : decode cX0_spread 18 = .ok (.istore_n 3, 1) := by decide +kernel
theorem dX0_spread_19 : decode cX0_spread 19 = .ok (.iload_n 3, 1) := by decide +kernel
theorem dX0_spread_20 : decode cX0_spread 20 = .ok (.aload_n 0, 1) := by decide +kernel
theorem dX0_spread_21 : decode cX0_spread 21 = .ok (.getfield 39, 3) := by decide +kernel
theorem dX0_spread_24 : decode cX0_spread 24 = .ok (.if_icmp .ge 119, 3) := by decide +kernel
theorem dX0_spread_27 : decode cX0_spread 27 = .ok (.iload_n 3, 1) := by decide +kernel
theorem dX0_spread_28 : decode cX0_spread 28 = .ok (.aload_n 0, 1) := by decide +kernel
theorem dX0_spread_29 : decode cX0_spread 29 = .ok (.getfield 15, 3) := by decide +kernel
theorem dX0_spread_32 : decode cX0_spread 32 = .ok (.arraylength, 1) := by decide +kernel
theorem dX0_spread_33 : decode cX0_spread 33 = .ok (.if_icmp .ge 110, 3) := by decide +kernel
theorem dX0_spread_36 : decode cX0_spread 36 = .ok (.iload_n 3, 1) := by decide +kernel
theorem dX0_spread_37 : decode cX0_spread 37 = .ok (.iload_n 1, 1) := by decide +kernel
theorem dX0_spread_38 : decode cX0_spread 38 = .ok (.if_icmp .ne 6, 3) := by decide +kernel
theorem dX0_spread_41 : decode cX0_spread 41 = .ok (.goto 96, 3) := by decide +kernel
theorem dX0_spread_44 : decode cX0_spread 44 = .ok (.aload_n 0, 1) := by decide +kernel
theorem dX0_spread_45 : decode cX0_spread 45 = .ok (.getfield 24, 3) := by decide +kernel
theorem dX0_spread_48 : decode cX0_spread 48 = .ok (.aload_n 0, 1) := by decide +kernel
theorem dX0_spread_49 : decode cX0_spread 49 = .ok (.getfield 28, 3) := by decide +kernel
theorem dX0_spread_52 : decode cX0_spread 52 = .ok (.iconst 1, 1) := by decide +kernel
theorem dX0_spread_53 : decode cX0_spread 53 = .ok (.isub, 1) := by decide +kernel
theorem dX0_spread_54 : decode cX0_spread 54 = .ok (.aload_n 0, 1) := by decide +kernel
theorem dX0_spread_55 : decode cX0_spread 55 = .ok (.getfield 15, 3) := by decide +kernel
theorem dX0_spread_58 : decode cX0_spread 58 = .ok (.iload_n 3, 1) := by decide +kernel
theorem dX0_spread_59 : decode cX0_spread 59 = .ok (.iaload, 1) := by decide +kernel
theorem dX0_spread_60 : decode cX0_spread 60 = .ok (.isub, 1) := by decide +kernel
theorem dX0_spread_61 : decode cX0_spread 61 = .ok (.invokevirtual 100, 3) := by decide +kernel
theorem dX0_spread_64 : decode cX0_spread 64 = .ok (.istore 4, 2) := by decide +kernel
theorem dX0_spread_66 : decode cX0_spread 66 = .ok (.iinc 2 1, 3) := by decide +kernel
theorem dX0_spread_69 : decode cX0_spread 69 = .ok (.iload_n 2, 1) := by decide +kernel
theorem dX0_spread_70 : decode cX0_spread 70 = .ok (.istore 5, 2) := by decide +kernel
theorem dX0_spread_72 : decode cX0_spread 72 = .ok (.iload 5, 2) := by decide +kernel
theorem dX0_spread_74 : decode cX0_spread 74 = .ok (.ifCond .le 42, 3) := by decide +kernel
theorem dX0_spread_77 : decode cX0_spread 77 = .ok (.aload_n 0, 1) := by decide +kernel
theorem dX0_spread_78 : decode cX0_spread 78 = .ok (.getfield 18, 3) := by decide +kernel
theorem dX0_spread_81 : decode cX0_spread 81 = .ok (.iload 5, 2) := by decide +kernel
theorem dX0_spread_83 : decode cX0_spread 83 = .ok (.aload_n 0, 1) := by decide +kernel
theorem dX0_spread_84 : decode cX0_spread 84 = .ok (.getfield 18, 3) := by decide +kernel
theorem dX0_spread_87 : decode cX0_spread 87 = .ok (.iload 5, 2) := by decide +kernel
theorem dX0_spread_89 : decode cX0_spread 89 = .ok (.iconst 1, 1) := by decide +kernel
theorem dX0_spread_90 : decode cX0_spread 90 = .ok (.isub, 1) := by decide +kernel
theorem dX0_spread_91 : decode cX0_spread 91 = .ok (.iaload, 1) := by decide +kernel
theorem dX0_spread_92 : decode cX0_spread 92 = .ok (.aload_n 0, 1) := by decide +kernel
theorem dX0_spread_93 : decode cX0_spread 93 = .ok (.getfield 24, 3) := by decide +kernel
theorem dX0_spread_96 : decode cX0_spread 96 = .ok (.aload_n 0, 1) := by decide +kernel
theorem dX0_spread_97 : decode cX0_spread 97 = .ok (.getfield 18, 3) := by decide +kernel
theorem dX0_spread_100 : decode cX0_spread 100 = .ok (.iload 5, 2) := by decide +kernel
theorem dX0_spread_102 : decode cX0_spread 102 = .ok (.iaload, 1) := by decide +kernel
theorem dX0_spread_103 : decode cX0_spread 103 = .ok (.iload 4, 2) := by decide +kernel
theorem dX0_spread_105 : decode cX0_spread 105 = .ok (.invokevirtual 91, 3) := by decide +kernel
theorem dX0_spread_108 : decode cX0_spread 108 = .ok (.ixor, 1) := by decide +kernel
theorem dX0_spread_109 : decode cX0_spread 109 = .ok (.iastore, 1) := by decide +kernel
theorem dX0_spread_110 : decode cX0_spread 110 = .ok (.iinc 5 (-1), 3) := by decide +kernel
theorem dX0_spread_113 : decode cX0_spread 113 = .ok (.goto (-41), 3) := by decide +kernel
theorem dX0_spread_116 : decode cX0_spread 116 = .ok (.aload_n 0, 1) := by decide +kernel
theorem dX0_spread_117 : decode cX0_spread 117 = .ok (.getfield 18, 3) := by decide +kernel
theorem dX0_spread_120 : decode cX0_spread 120 = .ok (.iconst 0, 1) := by decide +kernel
theorem dX0_spread_121 : decode cX0_spread 121 = .ok (.aload_n 0, 1) := by decide +kernel
theorem dX0_spread_122 : decode cX0_spread 122 = .ok (.getfield 24, 3) := by decide +kernel
theorem dX0_spread_125 : decode cX0_spread 125 = .ok (.aload_n 0, 1) := by decide +kernel
theorem dX0_spread_126 : decode cX0_spread 126 = .ok (.getfield 18, 3) := by decide +kernel
theorem dX0_spread_129 : decode cX0_spread 129 = .ok (.iconst 0, 1) := by decide +kernel
theorem dX0_spread_130 : decode cX0_spread 130 = .ok (.iaload, 1) := by decide +kernel
theorem dX0_spread_131 : decode cX0_spread 131 = .ok (.iload 4, 2) := by decide +kernel
theorem dX0_spread_133 : decode cX0_spread 133 = .ok (.invokevirtual 91, 3) := by decide +kernel
theorem dX0_spread_136 : decode cX0_spread 136 = .ok (.iastore, 1) := by decide +kernel
theorem dX0_spread_137 : decode cX0_spread 137 = .ok (.iinc 3 1, 3) := by decide +kernel
theorem dX0_spread_140 : decode cX0_spread 140 = .ok (.goto (-121), 3) := by decide +kernel
theorem dX0_spread_143 : decode cX0_spread 143 = .ok (.iload_n 2, 1) := by decide +kernel
theorem dX0_spread_144 : decode cX0_spread 144 = .ok (.ireturn, 1) := by decide +kernel
theorem dX0_without_0 : decode cX0_without 0 = .ok (.iconst 0, 1) := by decide +kernel
theorem dX0_without_1 : decode cX0_without 1 = .ok (.istore_n 3, 1) := by decide +kernel
theorem dX0_without_2 : decode cX0_without 2 = .ok (.iconst 0, 1) := by decide +kernel
theorem dX0_without_3 : decode cX0_without 3 = .ok (.istore 4, 2) := by decide +kernel
theorem dX0_without_5 : decode cX0_without 5 = .ok (.iload 4, 2) := by decide +kernel
theorem dX0_without_7 : decode cX0_without 7 = .ok (.iload_n 1, 1) := by decide +kernel
theorem dX0_without_8 : decode cX0_without 8 = .ok (.if_icmp .gt 43, 3) := by decide +kernel
theorem dX0_without_11 : decode cX0_without 11 = .ok (.iload_n 2, 1) := by decide +kernel
theorem dX0_without_12 : decode cX0_without 12 = .ok (.iload 4, 2) := by decide +kernel
theorem dX0_without_14 : decode cX0_without 14 = .ok (.iadd, 1) := by decide +kernel
theorem dX0_without_15 : decode cX0_without 15 = .ok (.iconst 4, 1) := by decide +kernel
theorem dX0_without_16 : decode cX0_without 16 = .ok (.if_icmp .ge 35, 3) := by decide +kernel
theorem dX0_without_19 : decode cX0_without 19 = .ok (.iload_n 3, 1) := by decide +kernel
theorem dX0_without_20 : decode cX0_without 20 = .ok (.aload_n 0, 1) := by decide +kernel
theorem dX0_without_21 : decode cX0_without 21 = .ok (.getfield 24, 3) := by decide +kernel
theorem dX0_without_24 : decode cX0_without 24 = .ok (.aload_n 0, 1) := by decide +kernel
theorem dX0_without_25 : decode cX0_without 25 = .ok (.getfield 18, 3) := by decide +kernel
theorem dX0_without_28 : decode cX0_without 28 = .ok (.iload 4, 2) := by decide +kernel
theorem dX0_without_30 : decode cX0_without 30 = .ok (.iaload, 1) := by decide +kernel
theorem dX0_without_31 : decode cX0_without 31 = .ok (.aload_n 0, 1) := by decide +kernel
theorem dX0_without_32 : decode cX0_without 32 = .ok (.getfield 9, 3) := by decide +kernel
theorem dX0_without_35 : decode cX0_without 35 = .ok (.iload_n 2, 1) := by decide +kernel
theorem dX0_without_36 : decode cX0_without 36 = .ok (.iload 4, 2) := by decide +kernel
theorem dX0_without_38 : decode cX0_without 38 = .ok (.iadd, 1) := by decide +kernel
theorem dX0_without_39 : decode cX0_without 39 = .ok (.iaload, 1) := by decide +kernel
theorem dX0_without_40 : decode cX0_without 40 = .ok (.invokevirtual 91, 3) := by decide +kernel
theorem dX0_without_43 : decode cX0_without 43 = .ok (.ixor, 1) := by decide +kernel
theorem dX0_without_44 : decode cX0_without 44 = .ok (.istore_n 3, 1) := by decide +kernel
theorem dX0_without_45 : decode cX0_without 45 = .ok (.iinc 4 1, 3) := by decide +kernel
theorem dX0_without_48 : decode cX0_without 48 = .ok (.goto (-43), 3) := by decide +kernel
theorem dX0_without_51 : decode cX0_without 51 = .ok (.iload_n 3, 1) := by decide +kernel
theorem dX0_without_52 : decode cX0_without 52 = .ok (.ireturn, 1) := by decide +kernel
theorem dX0_correct_0 : decode cX0_correct 0 = .ok (.aload_n 0, 1) := by decide +kernel
theorem dX0_correct_1 : decode cX0_correct 1 = .ok (.aload_n 1, 1) := by decide +kernel
theorem dX0_correct_2 : decode cX0_correct 2 = .ok (.iload_n 2, 1) := by decide +kernel
theorem dX0_correct_3 : decode cX0_correct 3 = .ok (.invokevirtual 69, 3) := by decide +kernel
theorem dX0_correct_6 : decode cX0_correct 6 = .ok (.ifCond .ne 4, 3) := by decide +kernel
theorem dX0_correct_9 : decode cX0_correct 9 = .ok (.return_, 1) := by decide +kernel
theorem dX0_correct_10 : decode cX0_correct 10 = .ok (.iconst 0, 1) := by decide +kernel
theorem dX0_correct_11 : decode cX0_correct 11 = .ok (.istore_n 3, 1) := by decide +kernel
theorem dX0_correct_12 : decode cX0_correct 12 = .ok (.iload_n 3, 1) := by decide +kernel
theorem dX0_correct_13 : decode cX0_correct 13 = .ok (.aload_n 0, 1) := by decide +kernel
theorem dX0_correct_14 : decode cX0_correct 14 = .ok (.getfield 39, 3) := by decide +kernel
theorem dX0_correct_17 : decode cX0_correct 17 = .ok (.if_icmp .ge 117, 3) := by decide +kernel
theorem dX0_correct_20 : decode cX0_correct 20 = .ok (.iload_n 3, 1) := by decide +kernel
theorem dX0_correct_21 : decode cX0_correct 21 = .ok (.aload_n 0, 1) := by decide +kernel
theorem dX0_correct_22 : decode cX0_correct 22 = .ok (.getfield 15, 3) := by decide +kernel
theorem dX0_correct_25 : decode cX0_correct 25 = .ok (.arraylength, 1) := by decide +kernel
theorem dX0_correct_26 : decode cX0_correct 26 = .ok (.if_icmp .ge 108, 3) := by decide +kernel
theorem dX0_correct_29 : decode cX0_correct 29 = .ok (.aload_n 0, 1) := by decide +kernel
theorem dX0_correct_30 : decode cX0_correct 30 = .ok (.iload_n 3, 1) := by decide +kernel
theorem dX0_correct_31 : decode cX0_correct 31 = .ok (.invokevirtual 78, 3) := by decide +kernel
theorem dX0_correct_34 : decode cX0_correct 34 = .ok (.istore 4, 2) := by decide +kernel
theorem dX0_correct_36 : decode cX0_correct 36 = .ok (.aload_n 0, 1) := by decide +kernel
theorem dX0_correct_37 : decode cX0_correct 37 = .ok (.getfield 24, 3) := by decide +kernel
theorem dX0_correct_40 : decode cX0_correct 40 = .ok (.aload_n 0, 1) := by decide +kernel
theorem dX0_correct_41 : decode cX0_correct 41 = .ok (.getfield 28, 3) := by decide +kernel
theorem dX0_correct_44 : decode cX0_correct 44 = .ok (.iconst 1, 1) := by decide +kernel
theorem dX0_correct_45 : decode cX0_correct 45 = .ok (.isub, 1) := by decide +kernel
theorem dX0_correct_46 : decode cX0_correct 46 = .ok (.aload_n 0, 1) := by decide +kernel
theorem dX0_correct_47 : decode cX0_correct 47 = .ok (.getfield 15, 3) := by decide +kernel
theorem dX0_correct_50 : decode cX0_correct 50 = .ok (.iload_n 3, 1) := by decide +kernel
theorem dX0_correct_51 : decode cX0_correct 51 = .ok (.iaload, 1) := by decide +kernel
theorem dX0_correct_52 : decode cX0_correct 52 = .ok (.isub, 1) := by decide +kernel
theorem dX0_correct_53 : decode cX0_correct 53 = .ok (.invokevirtual 100, 3) := by decide +kernel
theorem dX0_correct_56 : decode cX0_correct 56 = .ok (.istore 5, 2) := by decide +kernel
theorem dX0_correct_58 : decode cX0_correct 58 = .ok (.iconst 0, 1) := by decide +kernel
theorem dX0_correct_59 : decode cX0_correct 59 = .ok (.istore 6, 2) := by decide +kernel
theorem dX0_correct_61 : decode cX0_correct 61 = .ok (.iload 4, 2) := by decide +kernel
theorem dX0_correct_63 : decode cX0_correct 63 = .ok (.istore 7, 2) := by decide +kernel
theorem dX0_correct_65 : decode cX0_correct 65 = .ok (.iload 7, 2) := by decide +kernel
theorem dX0_correct_67 : decode cX0_correct 67 = .ok (.ifCond .lt 30, 3) := by decide +kernel
theorem dX0_correct_70 : decode cX0_correct 70 = .ok (.aload_n 0, 1) := by decide +kernel
theorem dX0_correct_71 : decode cX0_correct 71 = .ok (.getfield 24, 3) := by decide +kernel
theorem dX0_correct_74 : decode cX0_correct 74 = .ok (.iload 6, 2) := by decide +kernel
theorem dX0_correct_76 : decode cX0_correct 76 = .ok (.iload 5, 2) := by decide +kernel
theorem dX0_correct_78 : decode cX0_correct 78 = .ok (.invokevirtual 91, 3) := by decide +kernel
theorem dX0_correct_81 : decode cX0_correct 81 = .ok (.aload_n 0, 1) := by decide +kernel
theorem dX0_correct_82 : decode cX0_correct 82 = .ok (.getfield 18, 3) := by decide +kernel
theorem dX0_correct_85 : decode cX0_correct 85 = .ok (.iload 7, 2) := by decide +kernel
theorem dX0_correct_87 : decode cX0_correct 87 = .ok (.iaload, 1) := by decide +kernel
theorem dX0_correct_88 : decode cX0_correct 88 = .ok (.ixor, 1) := by decide +kernel
theorem dX0_correct_89 : decode cX0_correct 89 = .ok (.istore 6, 2) := by decide +kernel
theorem dX0_correct_91 : decode cX0_correct 91 = .ok (.iinc 7 (-1), 3) := by decide +kernel
theorem dX0_correct_94 : decode cX0_correct 94 = .ok (.goto (-29), 3) := by decide +kernel
theorem dX0_correct_97 : decode cX0_correct 97 = .ok (.aload_n 1, 1) := by decide +kernel
theorem dX0_correct_98 : decode cX0_correct 98 = .ok (.iload_n 2, 1) := by decide +kernel
theorem dX0_correct_99 : decode cX0_correct 99 = .ok (.aload_n 0, 1) := by decide +kernel
theorem dX0_correct_100 : decode cX0_correct 100 = .ok (.getfield 15, 3) := by decide +kernel
theorem dX0_correct_103 : decode cX0_correct 103 = .ok (.iload_n 3, 1) := by decide +kernel
theorem dX0_correct_104 : decode cX0_correct 104 = .ok (.iaload, 1) := by decide +kernel
theorem dX0_correct_105 : decode cX0_correct 105 = .ok (.iadd, 1) := by decide +kernel
theorem dX0_correct_106 : decode cX0_correct 106 = .ok (.dup2, 1) := by decide +kernel
theorem dX0_correct_107 : decode cX0_correct 107 = .ok (.baload, 1) := by decide +kernel
theorem dX0_correct_108 : decode cX0_correct 108 = .ok (.aload_n 0, 1) := by decide +kernel
theorem dX0_correct_109 : decode cX0_correct 109 = .ok (.getfield 24, 3) := by decide +kernel
theorem dX0_correct_112 : decode cX0_correct 112 = .ok (.aload_n 0, 1) := by decide +kernel
theorem dX0_correct_113 : decode cX0_correct 113 = .ok (.iload 4, 2) := by decide +kernel
theorem dX0_correct_115 : decode cX0_correct 115 = .ok (.iconst 0, 1) := by decide +kernel
theorem dX0_correct_116 : decode cX0_correct 116 = .ok (.invokevirtual 81, 3) := by decide +kernel
theorem dX0_correct_119 : decode cX0_correct 119 = .ok (.iload 6, 2) := by decide +kernel
theorem dX0_correct_121 : decode cX0_correct 121 = .ok (.invokevirtual 94, 3) := by decide +kernel
theorem dX0_correct_124 : decode cX0_correct 124 = .ok (.i2b, 1) := by decide +kernel
theorem dX0_correct_125 : decode cX0_correct 125 = .ok (.ixor, 1) := by decide +kernel
theorem dX0_correct_126 : decode cX0_correct 126 = .ok (.i2b, 1) := by decide +kernel
theorem dX0_correct_127 : decode cX0_correct 127 = .ok (.bastore, 1) := by decide +kernel
theorem dX0_correct_128 : decode cX0_correct 128 = .ok (.iinc 3 1, 3) := by decide +kernel
theorem dX0_correct_131 : decode cX0_correct 131 = .ok (.goto (-119), 3) := by decide +kernel
theorem dX0_correct_134 : decode cX0_correct 134 = .ok (.return_, 1) := by decide +kernel
theorem dX6_init_0 : decode cX6_init 0 = .ok (.aload_n 0, 1) := by decide +kernel
theorem dX6_init_1 : decode cX6_init 1 = .ok (.invokespecial 3, 3) := by decide +kernel
theorem dX6_init_4 : decode cX6_init 4 = .ok (.aload_n 0, 1) := by decide +kernel
theorem dX6_init_5 : decode cX6_init 5 = .ok (.new 9, 3) := by decide +kernel
theorem dX6_init_8 : decode cX6_init 8 = .ok (.dup, 1) := by decide +kernel
theorem dX6_init_9 : decode cX6_init 9 = .ok (.invokespecial 11, 3) := by decide +kernel
theorem dX6_init_12 : decode cX6_init 12 = .ok (.putfield 12, 3) := by decide +kernel
theorem dX6_init_15 : decode cX6_init 15 = .ok (.aload_n 0, 1) := by decide +kernel
theorem dX6_init_16 : decode cX6_init 16 = .ok (.aload_n 1, 1) := by decide +kernel
theorem dX6_init_17 : decode cX6_init 17 = .ok (.putfield 18, 3) := by decide +kernel
theorem dX6_init_20 : decode cX6_init 20 = .ok (.aload_n 0, 1) := by decide +kernel
theorem dX6_init_21 : decode cX6_init 21 = .ok (.aload_n 2, 1) := by decide +kernel
theorem dX6_init_22 : decode cX6_init 22 = .ok (.putfield 22, 3) := by decide +kernel
theorem dX6_init_25 : decode cX6_init 25 = .ok (.aload_n 0, 1) := by decide +kernel
theorem dX6_init_26 : decode cX6_init 26 = .ok (.aload_n 3, 1) := by decide +kernel
theorem dX6_init_27 : decode cX6_init 27 = .ok (.putfield 26, 3) := by decide +kernel
theorem dX6_init_30 : decode cX6_init 30 = .ok (.aload_n 0, 1) := by decide +kernel
theorem dX6_init_31 : decode cX6_init 31 = .ok (.aload 4, 2) := by decide +kernel
theorem dX6_init_33 : decode cX6_init 33 = .ok (.putfield 30, 3) := by decide +kernel
theorem dX6_init_36 : decode cX6_init 36 = .ok (.aload_n 0, 1) := by decide +kernel
theorem dX6_init_37 : decode cX6_init 37 = .ok (.aload 5, 2) := by decide +kernel
theorem dX6_init_39 : decode cX6_init 39 = .ok (.putfield 34, 3) := by decide +kernel
theorem dX6_init_42 : decode cX6_init 42 = .ok (.aload_n 0, 1) := by decide +kernel
theorem dX6_init_43 : decode cX6_init 43 = .ok (.aload 6, 2) := by decide +kernel
theorem dX6_init_45 : decode cX6_init 45 = .ok (.putfield 37, 3) := by decide +kernel
theorem dX6_init_48 : decode cX6_init 48 = .ok (.return_, 1) := by decide +kernel
theorem dX6_pressStream_0 : decode cX6_pressStream 0 = .ok (.iload_n 2, 1) := by decide +kernel
theorem dX6_pressStream_1 : decode cX6_pressStream 1 = .ok (.ifCond .ne 7, 3) := by decide +kernel
theorem dX6_pressStream_4 : decode cX6_pressStream 4 = .ok (.iconst 0, 1) := by decide +kernel
theorem dX6_pressStream_5 : decode cX6_pressStream 5 = .ok (.goto 15, 3) := by decide +kernel
theorem dX6_pressStream_8 : decode cX6_pressStream 8 = .ok (.iload_n 2, 1) := by decide +kernel
theorem dX6_pressStream_9 : decode cX6_pressStream 9 = .ok (.bipush 24, 2) := by decide +kernel
theorem dX6_pressStream_11 : decode cX6_pressStream 11 = .ok (.iadd, 1) := by decide +kernel
theorem dX6_pressStream_12 : decode cX6_pressStream 12 = .ok (.iconst 1, 1) := by decide +kernel
theorem dX6_pressStream_13 : decode cX6_pressStream 13 = .ok (.isub, 1) := by decide +kernel
theorem dX6_pressStream_14 : decode cX6_pressStream 14 = .ok (.bipush 24, 2) := by decide +kernel
theorem dX6_pressStream_16 : decode cX6_pressStream 16 = .ok (.idiv, 1) := by decide +kernel
theorem dX6_pressStream_17 : decode cX6_pressStream 17 = .ok (.bipush 111, 2) := by decide +kernel
theorem dX6_pressStream_19 : decode cX6_pressStream 19 = .ok (.iadd, 1) := by decide +kernel
theorem dX6_pressStream_20 : decode cX6_pressStream 20 = .ok (.istore_n 3, 1) := by decide +kernel
theorem dX6_pressStream_21 : decode cX6_pressStream 21 = .ok (.aload_n 0, 1) := by decide +kernel
theorem dX6_pressStream_22 : decode cX6_pressStream 22 = .ok (.getfield 22, 3) := by decide +kernel
theorem dX6_pressStream_25 : decode cX6_pressStream 25 = .ok (.iload_n 3, 1) := by decide +kernel
theorem dX6_pressStream_26 : decode cX6_pressStream 26 = .ok (.invokevirtual 41, 3) := by decide +kernel
theorem dX6_pressStream_29 : decode cX6_pressStream 29 = .ok (.iload_n 3, 1) := by decide +kernel
theorem dX6_pressStream_30 : decode cX6_pressStream 30 = .ok (.ifCond .le 32, 3) := by decide +kernel
theorem dX6_pressStream_33 : decode cX6_pressStream 33 = .ok (.aload_n 0, 1) := by decide +kernel
theorem dX6_pressStream_34 : decode cX6_pressStream 34 = .ok (.getfield 18, 3) := by decide +kernel
theorem dX6_pressStream_37 : decode cX6_pressStream 37 = .ok (.invokevirtual 47, 3) := by decide +kernel
theorem dX6_pressStream_40 : decode cX6_pressStream 40 = .ok (.aload_n 0, 1) := by decide +kernel
theorem dX6_pressStream_41 : decode cX6_pressStream 41 = .ok (.aload_n 1, 1) := by decide +kernel
theorem dX6_pressStream_42 : decode cX6_pressStream 42 = .ok (.iload_n 2, 1) := by decide +kernel
theorem dX6_pressStream_43 : decode cX6_pressStream 43 = .ok (.iload_n 3, 1) := by decide +kernel
theorem dX6_pressStream_44 : decode cX6_pressStream 44 = .ok (.invokevirtual 52, 3) := by decide +kernel
theorem dX6_pressStream_47 : decode cX6_pressStream 47 = .ok (.aload_n 0, 1) := by decide +kernel
theorem dX6_pressStream_48 : decode cX6_pressStream 48 = .ok (.iload_n 3, 1) := by decide +kernel
theorem dX6_pressStream_49 : decode cX6_pressStream 49 = .ok (.invokevirtual 56, 3) := by decide +kernel
theorem dX6_pressStream_52 : decode cX6_pressStream 52 = .ok (.aload_n 0, 1) := by decide +kernel
theorem dX6_pressStream_53 : decode cX6_pressStream 53 = .ok (.iload_n 3, 1) := by decide +kernel
theorem dX6_pressStream_54 : decode cX6_pressStream 54 = .ok (.invokevirtual 59, 3) := by decide +kernel
theorem dX6_pressStream_57 : decode cX6_pressStream 57 = .ok (.aload_n 0, 1) := by decide +kernel
theorem dX6_pressStream_58 : decode cX6_pressStream 58 = .ok (.iload_n 3, 1) := by decide +kernel
theorem dX6_pressStream_59 : decode cX6_pressStream 59 = .ok (.invokevirtual 62, 3) := by decide +kernel
theorem dX6_pressStream_62 : decode cX6_pressStream 62 = .ok (.iload_n 3, 1) := by decide +kernel
theorem dX6_pressStream_63 : decode cX6_pressStream 63 = .ok (.ireturn, 1) := by decide +kernel
theorem dX6_makeOuterWords_0 : decode cX6_makeOuterWords 0 = .ok (.iconst 0, 1) := by decide +kernel
theorem dX6_makeOuterWords_1 : decode cX6_makeOuterWords 1 = .ok (.istore 4, 2) := by decide +kernel
theorem dX6_makeOuterWords_3 : decode cX6_makeOuterWords 3 = .ok (.iload 4, 2) := by decide +kernel
theorem dX6_makeOuterWords_5 : decode cX6_makeOuterWords 5 = .ok (.iload_n 2, 1) := by decide +kernel
theorem dX6_makeOuterWords_6 : decode cX6_makeOuterWords 6 = .ok (.if_icmp .ge 50, 3) := by decide +kernel
theorem dX6_makeOuterWords_9 : decode cX6_makeOuterWords 9 = .ok (.iload 4, 2) := by decide +kernel
theorem dX6_makeOuterWords_11 : decode cX6_makeOuterWords 11 = .ok (.aload_n 1, 1) := by decide +kernel
theorem dX6_makeOuterWords_12 : decode cX6_makeOuterWords 12 = .ok (.arraylength, 1) := by decide +kernel
theorem dX6_makeOuterWords_13 : decode cX6_makeOuterWords 13 = .ok (.if_icmp .ge 43, 3) := by decide +kernel
theorem dX6_makeOuterWords_16 : decode cX6_makeOuterWords 16 = .ok (.iload 4, 2) := by decide +kernel
theorem dX6_makeOuterWords_18 : decode cX6_makeOuterWords 18 = .ok (.bipush 24, 2) := by decide +kernel
theorem dX6_makeOuterWords_20 : decode cX6_makeOuterWords 20 = .ok (.irem, 1) := by decide +kernel
theorem dX6_makeOuterWords_21 : decode cX6_makeOuterWords 21 = .ok (.istore 5, 2) := by decide +kernel
theorem dX6_makeOuterWords_23 : decode cX6_makeOuterWords 23 = .ok (.aload_n 0, 1) := by decide +kernel
theorem dX6_makeOuterWords_24 : decode cX6_makeOuterWords 24 = .ok (.getfield 18, 3) := by decide +kernel
theorem dX6_makeOuterWords_27 : decode cX6_makeOuterWords 27 = .ok (.iload 4, 2) := by decide +kernel
theorem dX6_makeOuterWords_29 : decode cX6_makeOuterWords 29 = .ok (.bipush 24, 2) := by decide +kernel
theorem dX6_makeOuterWords_31 : decode cX6_makeOuterWords 31 = .ok (.idiv, 1) := by decide +kernel
theorem dX6_makeOuterWords_32 : decode cX6_makeOuterWords 32 = .ok (.iload 5, 2) := by decide +kernel
theorem dX6_makeOuterWords_34 : decode cX6_makeOuterWords 34 = .ok (.invokestatic 65, 3) := by decide +kernel
theorem dX6_makeOuterWords_37 : decode cX6_makeOuterWords 37 = .ok (.iadd, 1) := by decide +kernel
theorem dX6_makeOuterWords_38 : decode cX6_makeOuterWords 38 = .ok (.iload 5, 2) := by decide +kernel
theorem dX6_makeOuterWords_40 : decode cX6_makeOuterWords 40 = .ok (.invokestatic 69, 3) := by decide +kernel
theorem dX6_makeOuterWords_43 : decode cX6_makeOuterWords 43 = .ok (.aload_n 1, 1) := by decide +kernel
theorem dX6_makeOuterWords_44 : decode cX6_makeOuterWords 44 = .ok (.iload 4, 2) := by decide +kernel
theorem dX6_makeOuterWords_46 : decode cX6_makeOuterWords 46 = .ok (.baload, 1) := by decide +kernel
theorem dX6_makeOuterWords_47 : decode cX6_makeOuterWords 47 = .ok (.invokevirtual 72, 3) := by decide +kernel
theorem dX6_makeOuterWords_50 : decode cX6_makeOuterWords 50 = .ok (.iinc 4 1, 3) := by decide +kernel
theorem dX6_makeOuterWords_53 : decode cX6_makeOuterWords 53 = .ok (.goto (-50), 3) := by decide +kernel
theorem dX6_makeOuterWords_56 : decode cX6_makeOuterWords 56 = .ok (.iconst 0, 1) := by decide +kernel
theorem dX6_makeOuterWords_57 : decode cX6_makeOuterWords 57 = .ok (.istore 4, 2) := by decide +kernel
theorem dX6_makeOuterWords_59 : decode cX6_makeOuterWords 59 = .ok (.iload 4, 2) := by decide +kernel
theorem dX6_makeOuterWords_61 : decode cX6_makeOuterWords 61 = .ok (.iload_n 3, 1) := by decide +kernel
theorem dX6_makeOuterWords_62 : decode cX6_makeOuterWords 62 = .ok (.if_icmp .ge 32, 3) := by decide +kernel
theorem dX6_makeOuterWords_65 : decode cX6_makeOuterWords 65 = .ok (.aload_n 0, 1) := by decide +kernel
theorem dX6_makeOuterWords_66 : decode cX6_makeOuterWords 66 = .ok (.getfield 34, 3) := by decide +kernel
theorem dX6_makeOuterWords_69 : decode cX6_makeOuterWords 69 = .ok (.aload_n 0, 1) := by decide +kernel
theorem dX6_makeOuterWords_70 : decode cX6_makeOuterWords 70 = .ok (.getfield 18, 3) := by decide +kernel
theorem dX6_makeOuterWords_73 : decode cX6_makeOuterWords 73 = .ok (.invokevirtual 76, 3) := by decide +kernel
theorem dX6_makeOuterWords_76 : decode cX6_makeOuterWords 76 = .ok (.aload_n 0, 1) := by decide +kernel
theorem dX6_makeOuterWords_77 : decode cX6_makeOuterWords 77 = .ok (.getfield 18, 3) := by decide +kernel
theorem dX6_makeOuterWords_80 : decode cX6_makeOuterWords 80 = .ok (.iload 4, 2) := by decide +kernel
theorem dX6_makeOuterWords_82 : decode cX6_makeOuterWords 82 = .ok (.invokevirtual 80, 3) := by decide +kernel
theorem dX6_makeOuterWords_85 : decode cX6_makeOuterWords 85 = .ok (.invokevirtual 83, 3) := by decide +kernel
theorem dX6_makeOuterWords_88 : decode cX6_makeOuterWords 88 = .ok (.iinc 4 1, 3) := by decide +kernel
theorem dX6_makeOuterWords_91 : decode cX6_makeOuterWords 91 = .ok (.goto (-32), 3) := by decide +kernel
theorem dX6_makeOuterWords_94 : decode cX6_makeOuterWords 94 = .ok (.return_, 1) := by decide +kernel
theorem dX6_makeInnerWords_0 : decode cX6_makeInnerWords 0 = .ok (.iload_n 1, 1) := by decide +kernel
theorem dX6_makeInnerWords_1 : decode cX6_makeInnerWords 1 = .ok (.iconst 1, 1) := by decide +kernel
theorem dX6_makeInnerWords_2 : decode cX6_makeInnerWords 2 = .ok (.isub, 1) := by decide +kernel
theorem dX6_makeInnerWords_3 : decode cX6_makeInnerWords 3 = .ok (.istore_n 2, 1) := by decide +kernel
theorem dX6_makeInnerWords_4 : decode cX6_makeInnerWords 4 = .ok (.iload_n 2, 1) := by decide +kernel
theorem dX6_makeInnerWords_5 : decode cX6_makeInnerWords 5 = .ok (.ifCond .lt 67, 3) := by decide +kernel
theorem dX6_makeInnerWords_8 : decode cX6_makeInnerWords 8 = .ok (.iconst 0, 1) := by decide +kernel
theorem dX6_makeInnerWords_9 : decode cX6_makeInnerWords 9 = .ok (.istore_n 3, 1) := by decide +kernel
theorem dX6_makeInnerWords_10 : decode cX6_makeInnerWords 10 = .ok (.iload_n 3, 1) := by decide +kernel
theorem dX6_makeInnerWords_11 : decode cX6_makeInnerWords 11 = .ok (.bipush 28, 2) := by decide +kernel
theorem dX6_makeInnerWords_13 : decode cX6_makeInnerWords 13 = .ok (.if_icmp .ge 31, 3) := by decide +kernel
theorem dX6_makeInnerWords_16 : decode cX6_makeInnerWords 16 = .ok (.aload_n 0, 1) := by decide +kernel
theorem dX6_makeInnerWords_17 : decode cX6_makeInnerWords 17 = .ok (.getfield 18, 3) := by decide +kernel
theorem dX6_makeInnerWords_20 : decode cX6_makeInnerWords 20 = .ok (.iload_n 2, 1) := by decide +kernel
theorem dX6_makeInnerWords_21 : decode cX6_makeInnerWords 21 = .ok (.iload_n 3, 1) := by decide +kernel
theorem dX6_makeInnerWords_22 : decode cX6_makeInnerWords 22 = .ok (.aload_n 0, 1) := by decide +kernel
theorem dX6_makeInnerWords_23 : decode cX6_makeInnerWords 23 = .ok (.getfield 18, 3) := by decide +kernel
theorem dX6_makeInnerWords_26 : decode cX6_makeInnerWords 26 = .ok (.iload_n 2, 1) := by decide +kernel
theorem dX6_makeInnerWords_27 : decode cX6_makeInnerWords 27 = .ok (.iconst 4, 1) := by decide +kernel
theorem dX6_makeInnerWords_28 : decode cX6_makeInnerWords 28 = .ok (.iload_n 3, 1) := by decide +kernel
theorem dX6_makeInnerWords_29 : decode cX6_makeInnerWords 29 = .ok (.imul, 1) := by decide +kernel
theorem dX6_makeInnerWords_30 : decode cX6_makeInnerWords 30 = .ok (.isub, 1) := by decide +kernel
theorem dX6_makeInnerWords_31 : decode cX6_makeInnerWords 31 = .ok (.iload_n 3, 1) := by decide +kernel
theorem dX6_makeInnerWords_32 : decode cX6_makeInnerWords 32 = .ok (.invokevirtual 89, 3) := by decide +kernel
theorem dX6_makeInnerWords_35 : decode cX6_makeInnerWords 35 = .ok (.invokevirtual 72, 3) := by decide +kernel
theorem dX6_makeInnerWords_38 : decode cX6_makeInnerWords 38 = .ok (.iinc 3 1, 3) := by decide +kernel
theorem dX6_makeInnerWords_41 : decode cX6_makeInnerWords 41 = .ok (.goto (-31), 3) := by decide +kernel
theorem dX6_makeInnerWords_44 : decode cX6_makeInnerWords 44 = .ok (.aload_n 0, 1) := by decide +kernel
theorem dX6_makeInnerWords_45 : decode cX6_makeInnerWords 45 = .ok (.getfield 30, 3) := by decide +kernel
theorem dX6_makeInnerWords_48 : decode cX6_makeInnerWords 48 = .ok (.aload_n 0, 1) := by decide +kernel
theorem dX6_makeInnerWords_49 : decode cX6_makeInnerWords 49 = .ok (.getfield 18, 3) := by decide +kernel
theorem dX6_makeInnerWords_52 : decode cX6_makeInnerWords 52 = .ok (.invokevirtual 76, 3) := by decide +kernel
theorem dX6_makeInnerWords_55 : decode cX6_makeInnerWords 55 = .ok (.aload_n 0, 1) := by decide +kernel
theorem dX6_makeInnerWords_56 : decode cX6_makeInnerWords 56 = .ok (.getfield 18, 3) := by decide +kernel
theorem dX6_makeInnerWords_59 : decode cX6_makeInnerWords 59 = .ok (.iload_n 2, 1) := by decide +kernel
theorem dX6_makeInnerWords_60 : decode cX6_makeInnerWords 60 = .ok (.invokevirtual 80, 3) := by decide +kernel
theorem dX6_makeInnerWords_63 : decode cX6_makeInnerWords 63 = .ok (.invokevirtual 83, 3) := by decide +kernel
theorem dX6_makeInnerWords_66 : decode cX6_makeInnerWords 66 = .ok (.iinc 2 (-1), 3) := by decide +kernel
theorem dX6_makeInnerWords_69 : decode cX6_makeInnerWords 69 = .ok (.goto (-65), 3) := by decide +kernel
theorem dX6_makeInnerWords_72 : decode cX6_makeInnerWords 72 = .ok (.return_, 1) := by decide +kernel
theorem dX6_makeFrames_0 : decode cX6_makeFrames 0 = .ok (.iload_n 1, 1) := by decide +kernel
theorem dX6_makeFrames_1 : decode cX6_makeFrames 1 = .ok (.iconst 1, 1) := by decide +kernel
theorem dX6_makeFrames_2 : decode cX6_makeFrames 2 = .ok (.isub, 1) := by decide +kernel
theorem dX6_makeFrames_3 : decode cX6_makeFrames 3 = .ok (.istore_n 2, 1) := by decide +kernel
theorem dX6_makeFrames_4 : decode cX6_makeFrames 4 = .ok (.iload_n 2, 1) := by decide +kernel
theorem dX6_makeFrames_5 : decode cX6_makeFrames 5 = .ok (.ifCond .lt 43, 3) := by decide +kernel
theorem dX6_makeFrames_8 : decode cX6_makeFrames 8 = .ok (.iconst 0, 1) := by decide +kernel
theorem dX6_makeFrames_9 : decode cX6_makeFrames 9 = .ok (.istore_n 3, 1) := by decide +kernel
theorem dX6_makeFrames_10 : decode cX6_makeFrames 10 = .ok (.iload_n 3, 1) := by decide +kernel
theorem dX6_makeFrames_11 : decode cX6_makeFrames 11 = .ok (.bipush 32, 2) := by decide +kernel
theorem dX6_makeFrames_13 : decode cX6_makeFrames 13 = .ok (.if_icmp .ge 29, 3) := by decide +kernel
theorem dX6_makeFrames_16 : decode cX6_makeFrames 16 = .ok (.aload_n 0, 1) := by decide +kernel
theorem dX6_makeFrames_17 : decode cX6_makeFrames 17 = .ok (.getfield 18, 3) := by decide +kernel
theorem dX6_makeFrames_20 : decode cX6_makeFrames 20 = .ok (.iload_n 2, 1) := by decide +kernel
theorem dX6_makeFrames_21 : decode cX6_makeFrames 21 = .ok (.iload_n 3, 1) := by decide +kernel
theorem dX6_makeFrames_22 : decode cX6_makeFrames 22 = .ok (.aload_n 0, 1) := by decide +kernel
theorem dX6_makeFrames_23 : decode cX6_makeFrames 23 = .ok (.getfield 18, 3) := by decide +kernel
theorem dX6_makeFrames_26 : decode cX6_makeFrames 26 = .ok (.iload_n 2, 1) := by decide +kernel
theorem dX6_makeFrames_27 : decode cX6_makeFrames 27 = .ok (.iconst 1, 1) := by decide +kernel
theorem dX6_makeFrames_28 : decode cX6_makeFrames 28 = .ok (.isub, 1) := by decide +kernel
theorem dX6_makeFrames_29 : decode cX6_makeFrames 29 = .ok (.iload_n 3, 1) := by decide +kernel
theorem dX6_makeFrames_30 : decode cX6_makeFrames 30 = .ok (.invokevirtual 89, 3) := by decide +kernel
theorem dX6_makeFrames_33 : decode cX6_makeFrames 33 = .ok (.invokevirtual 72, 3) := by decide +kernel
theorem dX6_makeFrames_36 : decode cX6_makeFrames 36 = .ok (.iinc 3 2, 3) := by decide +kernel
theorem dX6_makeFrames_39 : decode cX6_makeFrames 39 = .ok (.goto (-29), 3) := by decide +kernel
theorem dX6_makeFrames_42 : decode cX6_makeFrames 42 = .ok (.iinc 2 (-1), 3) := by decide +kernel
theorem dX6_makeFrames_45 : decode cX6_makeFrames 45 = .ok (.goto (-41), 3) := by decide +kernel
theorem dX6_makeFrames_48 : decode cX6_makeFrames 48 = .ok (.return_, 1) := by decide +kernel
theorem dX6_cut_0 : decode cX6_cut 0 = .ok (.aload_n 0, 1) := by decide +kernel
theorem dX6_cut_1 : decode cX6_cut 1 = .ok (.invokevirtual 93, 3) := by decide +kernel
theorem dX6_cut_4 : decode cX6_cut 4 = .ok (.iload_n 1, 1) := by decide +kernel
theorem dX6_cut_5 : decode cX6_cut 5 = .ok (.bipush 98, 2) := by decide +kernel
theorem dX6_cut_7 : decode cX6_cut 7 = .ok (.iadd, 1) := by decide +kernel
theorem dX6_cut_8 : decode cX6_cut 8 = .ok (.iconst 1, 1) := by decide +kernel
theorem dX6_cut_9 : decode cX6_cut 9 = .ok (.isub, 1) := by decide +kernel
theorem dX6_cut_10 : decode cX6_cut 10 = .ok (.bipush 98, 2) := by decide +kernel
theorem dX6_cut_12 : decode cX6_cut 12 = .ok (.idiv, 1) := by decide +kernel
theorem dX6_cut_13 : decode cX6_cut 13 = .ok (.istore_n 2, 1) := by decide +kernel
theorem dX6_cut_14 : decode cX6_cut 14 = .ok (.iconst 0, 1) := by decide +kernel
theorem dX6_cut_15 : decode cX6_cut 15 = .ok (.istore_n 3, 1) := by decide +kernel
theorem dX6_cut_16 : decode cX6_cut 16 = .ok (.iload_n 3, 1) := by decide +kernel
theorem dX6_cut_17 : decode cX6_cut 17 = .ok (.iload_n 1, 1) := by decide +kernel
theorem dX6_cut_18 : decode cX6_cut 18 = .ok (.if_icmp .ge 126, 3) := by decide +kernel
theorem dX6_cut_21 : decode cX6_cut 21 = .ok (.iload_n 3, 1) := by decide +kernel
theorem dX6_cut_22 : decode cX6_cut 22 = .ok (.ifCond .ne 14, 3) := by decide +kernel
theorem dX6_cut_25 : decode cX6_cut 25 = .ok (.aload_n 0, 1) := by decide +kernel
theorem dX6_cut_26 : decode cX6_cut 26 = .ok (.ldc 96, 2) := by decide +kernel
theorem dX6_cut_28 : decode cX6_cut 28 = .ok (.bipush 24, 2) := by decide +kernel
theorem dX6_cut_30 : decode cX6_cut 30 = .ok (.invokevirtual 97, 3) := by decide +kernel
theorem dX6_cut_33 : decode cX6_cut 33 = .ok (.goto 11, 3) := by decide +kernel
theorem dX6_cut_36 : decode cX6_cut 36 = .ok (.aload_n 0, 1) := by decide +kernel
theorem dX6_cut_37 : decode cX6_cut 37 = .ok (.ldc 96, 2) := by decide +kernel
theorem dX6_cut_39 : decode cX6_cut 39 = .ok (.bipush 24, 2) := by decide +kernel
theorem dX6_cut_41 : decode cX6_cut 41 = .ok (.invokevirtual 101, 3) := by decide +kernel
theorem dX6_cut_44 : decode cX6_cut 44 = .ok (.iload_n 3, 1) := by decide +kernel
theorem dX6_cut_45 : decode cX6_cut 45 = .ok (.bipush 98, 2) := by decide +kernel
theorem dX6_cut_47 : decode cX6_cut 47 = .ok (.irem, 1) := by decide +kernel
theorem dX6_cut_48 : decode cX6_cut 48 = .ok (.ifCond .ne 19, 3) := by decide +kernel
theorem dX6_cut_51 : decode cX6_cut 51 = .ok (.aload_n 0, 1) := by decide +kernel
theorem dX6_cut_52 : decode cX6_cut 52 = .ok (.getfield 37, 3) := by decide +kernel
theorem dX6_cut_55 : decode cX6_cut 55 = .ok (.iload_n 3, 1) := by decide +kernel
theorem dX6_cut_56 : decode cX6_cut 56 = .ok (.bipush 98, 2) := by decide +kernel
theorem dX6_cut_58 : decode cX6_cut 58 = .ok (.idiv, 1) := by decide +kernel
theorem dX6_cut_59 : decode cX6_cut 59 = .ok (.iload_n 2, 1) := by decide +kernel
theorem dX6_cut_60 : decode cX6_cut 60 = .ok (.aload_n 0, 1) := by decide +kernel
theorem dX6_cut_61 : decode cX6_cut 61 = .ok (.getfield 12, 3) := by decide +kernel
theorem dX6_cut_64 : decode cX6_cut 64 = .ok (.invokevirtual 104, 3) := by decide +kernel
theorem dX6_cut_67 : decode cX6_cut 67 = .ok (.aload_n 0, 1) := by decide +kernel
theorem dX6_cut_68 : decode cX6_cut 68 = .ok (.aload_n 0, 1) := by decide +kernel
theorem dX6_cut_69 : decode cX6_cut 69 = .ok (.iload_n 3, 1) := by decide +kernel
theorem dX6_cut_70 : decode cX6_cut 70 = .ok (.invokevirtual 110, 3) := by decide +kernel
theorem dX6_cut_73 : decode cX6_cut 73 = .ok (.bipush 14, 2) := by decide +kernel
theorem dX6_cut_75 : decode cX6_cut 75 = .ok (.invokevirtual 101, 3) := by decide +kernel
theorem dX6_cut_78 : decode cX6_cut 78 = .ok (.iconst 0, 1) := by decide +kernel
theorem dX6_cut_79 : decode cX6_cut 79 = .ok (.istore 4, 2) := by decide +kernel
theorem dX6_cut_81 : decode cX6_cut 81 = .ok (.iload 4, 2) := by decide +kernel
theorem dX6_cut_83 : decode cX6_cut 83 = .ok (.bipush 32, 2) := by decide +kernel
theorem dX6_cut_85 : decode cX6_cut 85 = .ok (.if_icmp .ge 53, 3) := by decide +kernel
theorem dX6_cut_88 : decode cX6_cut 88 = .ok (.aload_n 0, 1) := by decide +kernel
theorem dX6_cut_89 : decode cX6_cut 89 = .ok (.getfield 18, 3) := by decide +kernel
theorem dX6_cut_92 : decode cX6_cut 92 = .ok (.iload_n 3, 1) := by decide +kernel
theorem dX6_cut_93 : decode cX6_cut 93 = .ok (.iload 4, 2) := by decide +kernel
theorem dX6_cut_95 : decode cX6_cut 95 = .ok (.invokevirtual 89, 3) := by decide +kernel
theorem dX6_cut_98 : decode cX6_cut 98 = .ok (.istore 5, 2) := by decide +kernel
theorem dX6_cut_100 : decode cX6_cut 100 = .ok (.aload_n 0, 1) := by decide +kernel
theorem dX6_cut_101 : decode cX6_cut 101 = .ok (.aload_n 0, 1) := by decide +kernel
theorem dX6_cut_102 : decode cX6_cut 102 = .ok (.getfield 26, 3) := by decide +kernel
theorem dX6_cut_105 : decode cX6_cut 105 = .ok (.iload 4, 2) := by decide +kernel
theorem dX6_cut_107 : decode cX6_cut 107 = .ok (.invokestatic 113, 3) := by decide +kernel
theorem dX6_cut_110 : decode cX6_cut 110 = .ok (.ifCond .eq 12, 3) := by decide +kernel
theorem dX6_cut_113 : decode cX6_cut 113 = .ok (.sipush 255, 3) := by decide +kernel
theorem dX6_cut_116 : decode cX6_cut 116 = .ok (.iload 5, 2) := by decide +kernel
theorem dX6_cut_118 : decode cX6_cut 118 = .ok (.isub, 1) := by decide +kernel
theorem dX6_cut_119 : decode cX6_cut 119 = .ok (.goto 5, 3) := by decide +kernel
theorem dX6_cut_122 : decode cX6_cut 122 = .ok (.iload 5, 2) := by decide +kernel
theorem dX6_cut_124 : decode cX6_cut 124 = .ok (.invokevirtual 117, 3) := by decide +kernel
theorem dX6_cut_127 : decode cX6_cut 127 = .ok (.bipush 14, 2) := by decide +kernel
theorem dX6_cut_129 : decode cX6_cut 129 = .ok (.invokevirtual 101, 3) := by decide +kernel
theorem dX6_cut_132 : decode cX6_cut 132 = .ok (.iinc 4 1, 3) := by decide +kernel
theorem dX6_cut_135 : decode cX6_cut 135 = .ok (.goto (-54), 3) := by decide +kernel
theorem dX6_cut_138 : decode cX6_cut 138 = .ok (.iinc 3 1, 3) := by decide +kernel
theorem dX6_cut_141 : decode cX6_cut 141 = .ok (.goto (-125), 3) := by decide +kernel
theorem dX6_cut_144 : decode cX6_cut 144 = .ok (.aload_n 0, 1) := by decide +kernel
theorem dX6_cut_145 : decode cX6_cut 145 = .ok (.iconst 0, 1) := by decide +kernel
theorem dX6_cut_146 : decode cX6_cut 146 = .ok (.iconst 3, 1) := by decide +kernel
theorem dX6_cut_147 : decode cX6_cut 147 = .ok (.invokevirtual 97, 3) := by decide +kernel
theorem dX6_cut_150 : decode cX6_cut 150 = .ok (.return_, 1) := by decide +kernel
theorem dX6_startGroove_0 : decode cX6_startGroove 0 = .ok (.aload_n 0, 1) := by decide +kernel
theorem dX6_startGroove_1 : decode cX6_startGroove 1 = .ok (.lconst 0, 1) := by decide +kernel
theorem dX6_startGroove_2 : decode cX6_startGroove 2 = .ok (.putfield 122, 3) := by decide +kernel
theorem dX6_startGroove_5 : decode cX6_startGroove 5 = .ok (.aload_n 0, 1) := by decide +kernel
theorem dX6_startGroove_6 : decode cX6_startGroove 6 = .ok (.iconst 0, 1) := by decide +kernel
theorem dX6_startGroove_7 : decode cX6_startGroove 7 = .ok (.putfield 126, 3) := by decide +kernel
theorem dX6_startGroove_10 : decode cX6_startGroove 10 = .ok (.aload_n 0, 1) := by decide +kernel
theorem dX6_startGroove_11 : decode cX6_startGroove 11 = .ok (.iconst 0, 1) := by decide +kernel
theorem dX6_startGroove_12 : decode cX6_startGroove 12 = .ok (.putfield 130, 3) := by decide +kernel
theorem dX6_startGroove_15 : decode cX6_startGroove 15 = .ok (.aload_n 0, 1) := by decide +kernel
theorem dX6_startGroove_16 : decode cX6_startGroove 16 = .ok (.iconst 1, 1) := by decide +kernel
theorem dX6_startGroove_17 : decode cX6_startGroove 17 = .ok (.putfield 133, 3) := by decide +kernel
theorem dX6_startGroove_20 : decode cX6_startGroove 20 = .ok (.return_, 1) := by decide +kernel
theorem dX6_wordBeside_0 : decode cX6_wordBeside 0 = .ok (.iload_n 1, 1) := by decide +kernel
theorem dX6_wordBeside_1 : decode cX6_wordBeside 1 = .ok (.bipush 98, 2) := by decide +kernel
theorem dX6_wordBeside_3 : decode cX6_wordBeside 3 = .ok (.irem, 1) := by decide +kernel
theorem dX6_wordBeside_4 : decode cX6_wordBeside 4 = .ok (.istore_n 2, 1) := by decide +kernel
theorem dX6_wordBeside_5 : decode cX6_wordBeside 5 = .ok (.iload_n 2, 1) := by decide +kernel
theorem dX6_wordBeside_6 : decode cX6_wordBeside 6 = .ok (.iconst 2, 1) := by decide +kernel
theorem dX6_wordBeside_7 : decode cX6_wordBeside 7 = .ok (.if_icmp .ge 16, 3) := by decide +kernel
theorem dX6_wordBeside_10 : decode cX6_wordBeside 10 = .ok (.iload_n 2, 1) := by decide +kernel
theorem dX6_wordBeside_11 : decode cX6_wordBeside 11 = .ok (.ifCond .ne 9, 3) := by decide +kernel
theorem dX6_wordBeside_14 : decode cX6_wordBeside 14 = .ok (.sipush 2049, 3) := by decide +kernel
theorem dX6_wordBeside_17 : decode cX6_wordBeside 17 = .ok (.goto 5, 3) := by decide +kernel
theorem dX6_wordBeside_20 : decode cX6_wordBeside 20 = .ok (.bipush 18, 2) := by decide +kernel
theorem dX6_wordBeside_22 : decode cX6_wordBeside 22 = .ok (.ireturn, 1) := by decide +kernel
theorem dX6_wordBeside_23 : decode cX6_wordBeside 23 = .ok (.aload_n 0, 1) := by decide +kernel
theorem dX6_wordBeside_24 : decode cX6_wordBeside 24 = .ok (.getfield 37, 3) := by decide +kernel
theorem dX6_wordBeside_27 : decode cX6_wordBeside 27 = .ok (.iload_n 1, 1) := by decide +kernel
theorem dX6_wordBeside_28 : decode cX6_wordBeside 28 = .ok (.bipush 98, 2) := by decide +kernel
theorem dX6_wordBeside_30 : decode cX6_wordBeside 30 = .ok (.idiv, 1) := by decide +kernel
theorem dX6_wordBeside_31 : decode cX6_wordBeside 31 = .ok (.invokevirtual 136, 3) := by decide +kernel
theorem dX6_wordBeside_34 : decode cX6_wordBeside 34 = .ok (.ifCond .eq 9, 3) := by decide +kernel
theorem dX6_wordBeside_37 : decode cX6_wordBeside 37 = .ok (.sipush 128, 3) := by decide +kernel
theorem dX6_wordBeside_40 : decode cX6_wordBeside 40 = .ok (.goto 4, 3) := by decide +kernel
theorem dX6_wordBeside_43 : decode cX6_wordBeside 43 = .ok (.iconst 0, 1) := by decide +kernel
theorem dX6_wordBeside_44 : decode cX6_wordBeside 44 = .ok (.istore_n 3, 1) := by decide +kernel
theorem dX6_wordBeside_45 : decode cX6_wordBeside 45 = .ok (.aload_n 0, 1) := by decide +kernel
theorem dX6_wordBeside_46 : decode cX6_wordBeside 46 = .ok (.getfield 26, 3) := by decide +kernel
theorem dX6_wordBeside_49 : decode cX6_wordBeside 49 = .ok (.iload_n 3, 1) := by decide +kernel
theorem dX6_wordBeside_50 : decode cX6_wordBeside 50 = .ok (.bipush 64, 2) := by decide +kernel
theorem dX6_wordBeside_52 : decode cX6_wordBeside 52 = .ok (.aload_n 0, 1) := by decide +kernel
theorem dX6_wordBeside_53 : decode cX6_wordBeside 53 = .ok (.getfield 12, 3) := by decide +kernel
theorem dX6_wordBeside_56 : decode cX6_wordBeside 56 = .ok (.iload_n 2, 1) := by decide +kernel
theorem dX6_wordBeside_57 : decode cX6_wordBeside 57 = .ok (.iconst 2, 1) := by decide +kernel
theorem dX6_wordBeside_58 : decode cX6_wordBeside 58 = .ok (.isub, 1) := by decide +kernel
theorem dX6_wordBeside_59 : decode cX6_wordBeside 59 = .ok (.invokevirtual 139, 3) := by decide +kernel
theorem dX6_wordBeside_62 : decode cX6_wordBeside 62 = .ok (.imul, 1) := by decide +kernel
theorem dX6_wordBeside_63 : decode cX6_wordBeside 63 = .ok (.iadd, 1) := by decide +kernel
theorem dX6_wordBeside_64 : decode cX6_wordBeside 64 = .ok (.invokevirtual 117, 3) := by decide +kernel
theorem dX6_wordBeside_67 : decode cX6_wordBeside 67 = .ok (.ireturn, 1) := by decide +kernel
theorem dX6_carveJoined_0 : decode cX6_carveJoined 0 = .ok (.aload_n 0, 1) := by decide +kernel
theorem dX6_carveJoined_1 : decode cX6_carveJoined 1 = .ok (.aload_n 0, 1) := by decide +kernel
theorem dX6_carveJoined_2 : decode cX6_carveJoined 2 = .ok (.iload_n 1, 1) := by decide +kernel
theorem dX6_carveJoined_3 : decode cX6_carveJoined 3 = .ok (.iload_n 2, 1) := by decide +kernel
theorem dX6_carveJoined_4 : decode cX6_carveJoined 4 = .ok (.invokevirtual 142, 3) := by decide +kernel
theorem dX6_carveJoined_7 : decode cX6_carveJoined 7 = .ok (.iload_n 2, 1) := by decide +kernel
theorem dX6_carveJoined_8 : decode cX6_carveJoined 8 = .ok (.ishl, 1) := by decide +kernel
theorem dX6_carveJoined_9 : decode cX6_carveJoined 9 = .ok (.iload_n 1, 1) := by decide +kernel
theorem dX6_carveJoined_10 : decode cX6_carveJoined 10 = .ok (.ior, 1) := by decide +kernel
theorem dX6_carveJoined_11 : decode cX6_carveJoined 11 = .ok (.iload_n 2, 1) := by decide +kernel
theorem dX6_carveJoined_12 : decode cX6_carveJoined 12 = .ok (.iconst 3, 1) := by decide +kernel
theorem dX6_carveJoined_13 : decode cX6_carveJoined 13 = .ok (.iadd, 1) := by decide +kernel
theorem dX6_carveJoined_14 : decode cX6_carveJoined 14 = .ok (.invokevirtual 97, 3) := by decide +kernel
theorem dX6_carveJoined_17 : decode cX6_carveJoined 17 = .ok (.return_, 1) := by decide +kernel
theorem dX6_carve_0 : decode cX6_carve 0 = .ok (.aload_n 0, 1) := by decide +kernel
theorem dX6_carve_1 : decode cX6_carve 1 = .ok (.getfield 22, 3) := by decide +kernel
theorem dX6_carve_4 : decode cX6_carve 4 = .ok (.iload_n 1, 1) := by decide +kernel
theorem dX6_carve_5 : decode cX6_carve 5 = .ok (.iload_n 2, 1) := by decide +kernel
theorem dX6_carve_6 : decode cX6_carve 6 = .ok (.invokevirtual 145, 3) := by decide +kernel
theorem dX6_carve_9 : decode cX6_carve 9 = .ok (.aload_n 0, 1) := by decide +kernel
theorem dX6_carve_10 : decode cX6_carve 10 = .ok (.aload_n 0, 1) := by decide +kernel
theorem dX6_carve_11 : decode cX6_carve 11 = .ok (.getfield 122, 3) := by decide +kernel
theorem dX6_carve_14 : decode cX6_carve 14 = .ok (.iload_n 2, 1) := by decide +kernel
theorem dX6_carve_15 : decode cX6_carve 15 = .ok (.lshl, 1) := by decide +kernel
theorem dX6_carve_16 : decode cX6_carve 16 = .ok (.iload_n 1, 1) := by decide +kernel
theorem dX6_carve_17 : decode cX6_carve 17 = .ok (.i2l, 1) := by decide +kernel
theorem dX6_carve_18 : decode cX6_carve 18 = .ok (.lor, 1) := by decide +kernel
theorem dX6_carve_19 : decode cX6_carve 19 = .ok (.putfield 122, 3) := by decide +kernel
theorem dX6_carve_22 : decode cX6_carve 22 = .ok (.aload_n 0, 1) := by decide +kernel
theorem dX6_carve_23 : decode cX6_carve 23 = .ok (.dup, 1) := by decide +kernel
theorem dX6_carve_24 : decode cX6_carve 24 = .ok (.getfield 130, 3) := by decide +kernel
theorem dX6_carve_27 : decode cX6_carve 27 = .ok (.aload_n 0, 1) := by decide +kernel
theorem dX6_carve_28 : decode cX6_carve 28 = .ok (.getfield 133, 3) := by decide +kernel
theorem dX6_carve_31 : decode cX6_carve 31 = .ok (.iload_n 1, 1) := by decide +kernel
theorem dX6_carve_32 : decode cX6_carve 32 = .ok (.bipush 32, 2) := by decide +kernel
theorem dX6_carve_34 : decode cX6_carve 34 = .ok (.iload_n 2, 1) := by decide +kernel
theorem dX6_carve_35 : decode cX6_carve 35 = .ok (.isub, 1) := by decide +kernel
theorem dX6_carve_36 : decode cX6_carve 36 = .ok (.ishl, 1) := by decide +kernel
theorem dX6_carve_37 : decode cX6_carve 37 = .ok (.iload_n 2, 1) := by decide +kernel
theorem dX6_carve_38 : decode cX6_carve 38 = .ok (.invokestatic 148, 3) := by decide +kernel
theorem dX6_carve_41 : decode cX6_carve 41 = .ok (.imul, 1) := by decide +kernel
theorem dX6_carve_42 : decode cX6_carve 42 = .ok (.iadd, 1) := by decide +kernel
theorem dX6_carve_43 : decode cX6_carve 43 = .ok (.putfield 130, 3) := by decide +kernel
theorem dX6_carve_46 : decode cX6_carve 46 = .ok (.iload_n 1, 1) := by decide +kernel
theorem dX6_carve_47 : decode cX6_carve 47 = .ok (.invokestatic 151, 3) := by decide +kernel
theorem dX6_carve_50 : decode cX6_carve 50 = .ok (.iconst 2, 1) := by decide +kernel
theorem dX6_carve_51 : decode cX6_carve 51 = .ok (.irem, 1) := by decide +kernel
theorem dX6_carve_52 : decode cX6_carve 52 = .ok (.iconst 1, 1) := by decide +kernel
theorem dX6_carve_53 : decode cX6_carve 53 = .ok (.if_icmp .ne 12, 3) := by decide +kernel
theorem dX6_carve_56 : decode cX6_carve 56 = .ok (.aload_n 0, 1) := by decide +kernel
theorem dX6_carve_57 : decode cX6_carve 57 = .ok (.aload_n 0, 1) := by decide +kernel
theorem dX6_carve_58 : decode cX6_carve 58 = .ok (.getfield 133, 3) := by decide +kernel
theorem dX6_carve_61 : decode cX6_carve 61 = .ok (.ineg, 1) := by decide +kernel
theorem dX6_carve_62 : decode cX6_carve 62 = .ok (.putfield 133, 3) := by decide +kernel
theorem dX6_carve_65 : decode cX6_carve 65 = .ok (.iload_n 1, 1) := by decide +kernel
theorem dX6_carve_66 : decode cX6_carve 66 = .ok (.iload_n 2, 1) := by decide +kernel
theorem dX6_carve_67 : decode cX6_carve 67 = .ok (.invokestatic 156, 3) := by decide +kernel
theorem dX6_carve_70 : decode cX6_carve 70 = .ok (.istore_n 3, 1) := by decide +kernel
theorem dX6_carve_71 : decode cX6_carve 71 = .ok (.aload_n 0, 1) := by decide +kernel
theorem dX6_carve_72 : decode cX6_carve 72 = .ok (.iload_n 3, 1) := by decide +kernel
theorem dX6_carve_73 : decode cX6_carve 73 = .ok (.iload_n 2, 1) := by decide +kernel
theorem dX6_carve_74 : decode cX6_carve 74 = .ok (.if_icmp .ne 12, 3) := by decide +kernel
theorem dX6_carve_77 : decode cX6_carve 77 = .ok (.aload_n 0, 1) := by decide +kernel
theorem dX6_carve_78 : decode cX6_carve 78 = .ok (.getfield 126, 3) := by decide +kernel
theorem dX6_carve_81 : decode cX6_carve 81 = .ok (.iload_n 2, 1) := by decide +kernel
theorem dX6_carve_82 : decode cX6_carve 82 = .ok (.iadd, 1) := by decide +kernel
theorem dX6_carve_83 : decode cX6_carve 83 = .ok (.goto 4, 3) := by decide +kernel
theorem dX6_carve_86 : decode cX6_carve 86 = .ok (.iload_n 3, 1) := by decide +kernel
theorem dX6_carve_87 : decode cX6_carve 87 = .ok (.putfield 126, 3) := by decide +kernel
theorem dX6_carve_90 : decode cX6_carve 90 = .ok (.return_, 1) := by decide +kernel
theorem dX6_zerosBehind_0 : decode cX6_zerosBehind 0 = .ok (.iconst 0, 1) := by decide +kernel
theorem dX6_zerosBehind_1 : decode cX6_zerosBehind 1 = .ok (.istore_n 2, 1) := by decide +kernel
theorem dX6_zerosBehind_2 : decode cX6_zerosBehind 2 = .ok (.iload_n 2, 1) := by decide +kernel
theorem dX6_zerosBehind_3 : decode cX6_zerosBehind 3 = .ok (.iload_n 1, 1) := by decide +kernel
theorem dX6_zerosBehind_4 : decode cX6_zerosBehind 4 = .ok (.if_icmp .ge 17, 3) := by decide +kernel
theorem dX6_zerosBehind_7 : decode cX6_zerosBehind 7 = .ok (.iload_n 0, 1) := by decide +kernel
theorem dX6_zerosBehind_8 : decode cX6_zerosBehind 8 = .ok (.iload_n 2, 1) := by decide +kernel
theorem dX6_zerosBehind_9 : decode cX6_zerosBehind 9 = .ok (.iushr, 1) := by decide +kernel
theorem dX6_zerosBehind_10 : decode cX6_zerosBehind 10 = .ok (.iconst 1, 1) := by decide +kernel
theorem dX6_zerosBehind_11 : decode cX6_zerosBehind 11 = .ok (.iand, 1) := by decide +kernel
theorem dX6_zerosBehind_12 : decode cX6_zerosBehind 12 = .ok (.ifCond .ne 9, 3) := by decide +kernel
theorem dX6_zerosBehind_15 : decode cX6_zerosBehind 15 = .ok (.iinc 2 1, 3) := by decide +kernel
theorem dX6_zerosBehind_18 : decode cX6_zerosBehind 18 = .ok (.goto (-16), 3) := by decide +kernel
theorem dX6_zerosBehind_21 : decode cX6_zerosBehind 21 = .ok (.iload_n 2, 1) := by decide +kernel
theorem dX6_zerosBehind_22 : decode cX6_zerosBehind 22 = .ok (.ireturn, 1) := by decide +kernel
theorem dX6_zerosAhead_0 : decode cX6_zerosAhead 0 = .ok (.iconst 0, 1) := by decide +kernel
theorem dX6_zerosAhead_1 : decode cX6_zerosAhead 1 = .ok (.istore_n 2, 1) := by decide +kernel
theorem dX6_zerosAhead_2 : decode cX6_zerosAhead 2 = .ok (.iload_n 2, 1) := by decide +kernel
theorem dX6_zerosAhead_3 : decode cX6_zerosAhead 3 = .ok (.iload_n 1, 1) := by decide +kernel
theorem dX6_zerosAhead_4 : decode cX6_zerosAhead 4 = .ok (.if_icmp .ge 21, 3) := by decide +kernel
theorem dX6_zerosAhead_7 : decode cX6_zerosAhead 7 = .ok (.iload_n 0, 1) := by decide +kernel
theorem dX6_zerosAhead_8 : decode cX6_zerosAhead 8 = .ok (.iload_n 1, 1) := by decide +kernel
theorem dX6_zerosAhead_9 : decode cX6_zerosAhead 9 = .ok (.iconst 1, 1) := by decide +kernel
theorem dX6_zerosAhead_10 : decode cX6_zerosAhead 10 = .ok (.isub, 1) := by decide +kernel
theorem dX6_zerosAhead_11 : decode cX6_zerosAhead 11 = .ok (.iload_n 2, 1) := by decide +kernel
theorem dX6_zerosAhead_12 : decode cX6_zerosAhead 12 = .ok (.isub, 1) := by decide +kernel
theorem dX6_zerosAhead_13 : decode cX6_zerosAhead 13 = .ok (.iushr, 1) := by decide +kernel
theorem dX6_zerosAhead_14 : decode cX6_zerosAhead 14 = .ok (.iconst 1, 1) := by decide +kernel
theorem dX6_zerosAhead_15 : decode cX6_zerosAhead 15 = .ok (.iand, 1) := by decide +kernel
theorem dX6_zerosAhead_16 : decode cX6_zerosAhead 16 = .ok (.ifCond .ne 9, 3) := by decide +kernel
theorem dX6_zerosAhead_19 : decode cX6_zerosAhead 19 = .ok (.iinc 2 1, 3) := by decide +kernel
theorem dX6_zerosAhead_22 : decode cX6_zerosAhead 22 = .ok (.goto (-20), 3) := by decide +kernel
theorem dX6_zerosAhead_25 : decode cX6_zerosAhead 25 = .ok (.iload_n 2, 1) := by decide +kernel
theorem dX6_zerosAhead_26 : decode cX6_zerosAhead 26 = .ok (.ireturn, 1) := by decide +kernel
theorem dX6_chooseJoint_0 : decode cX6_chooseJoint 0 = .ok (.iload_n 1, 1) := by decide +kernel
theorem dX6_chooseJoint_1 : decode cX6_chooseJoint 1 = .ok (.iload_n 2, 1) := by decide +kernel
theorem dX6_chooseJoint_2 : decode cX6_chooseJoint 2 = .ok (.invokestatic 159, 3) := by decide +kernel
theorem dX6_chooseJoint_5 : decode cX6_chooseJoint 5 = .ok (.istore_n 3, 1) := by decide +kernel
theorem dX6_chooseJoint_6 : decode cX6_chooseJoint 6 = .ok (.iconst 0, 1) := by decide +kernel
theorem dX6_chooseJoint_7 : decode cX6_chooseJoint 7 = .ok (.istore 4, 2) := by decide +kernel
theorem dX6_chooseJoint_9 : decode cX6_chooseJoint 9 = .ok (.ldc 162, 2) := by decide +kernel
theorem dX6_chooseJoint_11 : decode cX6_chooseJoint 11 = .ok (.istore 5, 2) := by decide +kernel
theorem dX6_chooseJoint_13 : decode cX6_chooseJoint 13 = .ok (.iconst 1, 1) := by decide +kernel
theorem dX6_chooseJoint_14 : decode cX6_chooseJoint 14 = .ok (.istore 6, 2) := by decide +kernel
theorem dX6_chooseJoint_16 : decode cX6_chooseJoint 16 = .ok (.iconst 0, 1) := by decide +kernel
theorem dX6_chooseJoint_17 : decode cX6_chooseJoint 17 = .ok (.istore 7, 2) := by decide +kernel
theorem dX6_chooseJoint_19 : decode cX6_chooseJoint 19 = .ok (.iload 7, 2) := by decide +kernel
theorem dX6_chooseJoint_21 : decode cX6_chooseJoint 21 = .ok (.iconst 3, 1) := by decide +kernel
theorem dX6_chooseJoint_22 : decode cX6_chooseJoint 22 = .ok (.if_icmp .gt 131, 3) := by decide +kernel
theorem dX6_chooseJoint_25 : decode cX6_chooseJoint 25 = .ok (.iconst 1, 1) := by decide +kernel
theorem dX6_chooseJoint_26 : decode cX6_chooseJoint 26 = .ok (.iload 7, 2) := by decide +kernel
theorem dX6_chooseJoint_28 : decode cX6_chooseJoint 28 = .ok (.ishl, 1) := by decide +kernel
theorem dX6_chooseJoint_29 : decode cX6_chooseJoint 29 = .ok (.iconst 1, 1) := by decide +kernel
theorem dX6_chooseJoint_30 : decode cX6_chooseJoint 30 = .ok (.iushr, 1) := by decide +kernel
theorem dX6_chooseJoint_31 : decode cX6_chooseJoint 31 = .ok (.istore 8, 2) := by decide +kernel
theorem dX6_chooseJoint_33 : decode cX6_chooseJoint 33 = .ok (.aload_n 0, 1) := by decide +kernel
theorem dX6_chooseJoint_34 : decode cX6_chooseJoint 34 = .ok (.iload 7, 2) := by decide +kernel
theorem dX6_chooseJoint_36 : decode cX6_chooseJoint 36 = .ok (.iload_n 3, 1) := by decide +kernel
theorem dX6_chooseJoint_37 : decode cX6_chooseJoint 37 = .ok (.invokevirtual 163, 3) := by decide +kernel
theorem dX6_chooseJoint_40 : decode cX6_chooseJoint 40 = .ok (.ifCond .ne 6, 3) := by decide +kernel
theorem dX6_chooseJoint_43 : decode cX6_chooseJoint 43 = .ok (.goto 104, 3) := by decide +kernel
theorem dX6_chooseJoint_46 : decode cX6_chooseJoint 46 = .ok (.iload 8, 2) := by decide +kernel
theorem dX6_chooseJoint_48 : decode cX6_chooseJoint 48 = .ok (.iload_n 2, 1) := by decide +kernel
theorem dX6_chooseJoint_49 : decode cX6_chooseJoint 49 = .ok (.ishl, 1) := by decide +kernel
theorem dX6_chooseJoint_50 : decode cX6_chooseJoint 50 = .ok (.iload_n 1, 1) := by decide +kernel
theorem dX6_chooseJoint_51 : decode cX6_chooseJoint 51 = .ok (.ior, 1) := by decide +kernel
theorem dX6_chooseJoint_52 : decode cX6_chooseJoint 52 = .ok (.istore 9, 2) := by decide +kernel
theorem dX6_chooseJoint_54 : decode cX6_chooseJoint 54 = .ok (.iload_n 2, 1) := by decide +kernel
theorem dX6_chooseJoint_55 : decode cX6_chooseJoint 55 = .ok (.iconst 3, 1) := by decide +kernel
theorem dX6_chooseJoint_56 : decode cX6_chooseJoint 56 = .ok (.iadd, 1) := by decide +kernel
theorem dX6_chooseJoint_57 : decode cX6_chooseJoint 57 = .ok (.istore 10, 2) := by decide +kernel
theorem dX6_chooseJoint_59 : decode cX6_chooseJoint 59 = .ok (.iload_n 2, 1) := by decide +kernel
theorem dX6_chooseJoint_60 : decode cX6_chooseJoint 60 = .ok (.bipush 14, 2) := by decide +kernel
theorem dX6_chooseJoint_62 : decode cX6_chooseJoint 62 = .ok (.if_icmp .ne 18, 3) := by decide +kernel
theorem dX6_chooseJoint_65 : decode cX6_chooseJoint 65 = .ok (.aload_n 0, 1) := by decide +kernel
theorem dX6_chooseJoint_66 : decode cX6_chooseJoint 66 = .ok (.iload 9, 2) := by decide +kernel
theorem dX6_chooseJoint_68 : decode cX6_chooseJoint 68 = .ok (.iload 10, 2) := by decide +kernel
theorem dX6_chooseJoint_70 : decode cX6_chooseJoint 70 = .ok (.invokevirtual 167, 3) := by decide +kernel
theorem dX6_chooseJoint_73 : decode cX6_chooseJoint 73 = .ok (.ifCond .eq 7, 3) := by decide +kernel
theorem dX6_chooseJoint_76 : decode cX6_chooseJoint 76 = .ok (.iconst 1, 1) := by decide +kernel
theorem dX6_chooseJoint_77 : decode cX6_chooseJoint 77 = .ok (.goto 4, 3) := by decide +kernel
theorem dX6_chooseJoint_80 : decode cX6_chooseJoint 80 = .ok (.iconst 0, 1) := by decide +kernel
theorem dX6_chooseJoint_81 : decode cX6_chooseJoint 81 = .ok (.istore 11, 2) := by decide +kernel
theorem dX6_chooseJoint_83 : decode cX6_chooseJoint 83 = .ok (.aload_n 0, 1) := by decide +kernel
theorem dX6_chooseJoint_84 : decode cX6_chooseJoint 84 = .ok (.getfield 130, 3) := by decide +kernel
theorem dX6_chooseJoint_87 : decode cX6_chooseJoint 87 = .ok (.aload_n 0, 1) := by decide +kernel
theorem dX6_chooseJoint_88 : decode cX6_chooseJoint 88 = .ok (.getfield 133, 3) := by decide +kernel
theorem dX6_chooseJoint_91 : decode cX6_chooseJoint 91 = .ok (.iload 9, 2) := by decide +kernel
theorem dX6_chooseJoint_93 : decode cX6_chooseJoint 93 = .ok (.bipush 32, 2) := by decide +kernel
theorem dX6_chooseJoint_95 : decode cX6_chooseJoint 95 = .ok (.iload 10, 2) := by decide +kernel
theorem dX6_chooseJoint_97 : decode cX6_chooseJoint 97 = .ok (.isub, 1) := by decide +kernel
theorem dX6_chooseJoint_98 : decode cX6_chooseJoint 98 = .ok (.ishl, 1) := by decide +kernel
theorem dX6_chooseJoint_99 : decode cX6_chooseJoint 99 = .ok (.iload 10, 2) := by decide +kernel
theorem dX6_chooseJoint_101 : decode cX6_chooseJoint 101 = .ok (.invokestatic 148, 3) := by decide +kernel
theorem dX6_chooseJoint_104 : decode cX6_chooseJoint 104 = .ok (.imul, 1) := by decide +kernel
theorem dX6_chooseJoint_105 : decode cX6_chooseJoint 105 = .ok (.iadd, 1) := by decide +kernel
theorem dX6_chooseJoint_106 : decode cX6_chooseJoint 106 = .ok (.invokestatic 170, 3) := by decide +kernel
theorem dX6_chooseJoint_109 : decode cX6_chooseJoint 109 = .ok (.istore 12, 2) := by decide +kernel
theorem dX6_chooseJoint_111 : decode cX6_chooseJoint 111 = .ok (.iload 6, 2) := by decide +kernel
theorem dX6_chooseJoint_113 : decode cX6_chooseJoint 113 = .ok (.ifCond .eq 8, 3) := by decide +kernel
theorem dX6_chooseJoint_116 : decode cX6_chooseJoint 116 = .ok (.iload 11, 2) := by decide +kernel
theorem dX6_chooseJoint_118 : decode cX6_chooseJoint 118 = .ok (.ifCond .eq 17, 3) := by decide +kernel
theorem dX6_chooseJoint_121 : decode cX6_chooseJoint 121 = .ok (.iload 6, 2) := by decide +kernel
theorem dX6_chooseJoint_123 : decode cX6_chooseJoint 123 = .ok (.iload 11, 2) := by decide +kernel
theorem dX6_chooseJoint_125 : decode cX6_chooseJoint 125 = .ok (.if_icmp .ne 22, 3) := by decide +kernel
theorem dX6_chooseJoint_128 : decode cX6_chooseJoint 128 = .ok (.iload 12, 2) := by decide +kernel
theorem dX6_chooseJoint_130 : decode cX6_chooseJoint 130 = .ok (.iload 5, 2) := by decide +kernel
theorem dX6_chooseJoint_132 : decode cX6_chooseJoint 132 = .ok (.if_icmp .ge 15, 3) := by decide +kernel
theorem dX6_chooseJoint_135 : decode cX6_chooseJoint 135 = .ok (.iload 8, 2) := by decide +kernel
theorem dX6_chooseJoint_137 : decode cX6_chooseJoint 137 = .ok (.istore 4, 2) := by decide +kernel
theorem dX6_chooseJoint_139 : decode cX6_chooseJoint 139 = .ok (.iload 12, 2) := by decide +kernel
theorem dX6_chooseJoint_141 : decode cX6_chooseJoint 141 = .ok (.istore 5, 2) := by decide +kernel
theorem dX6_chooseJoint_143 : decode cX6_chooseJoint 143 = .ok (.iload 11, 2) := by decide +kernel
theorem dX6_chooseJoint_145 : decode cX6_chooseJoint 145 = .ok (.istore 6, 2) := by decide +kernel
theorem dX6_chooseJoint_147 : decode cX6_chooseJoint 147 = .ok (.iinc 7 1, 3) := by decide +kernel
theorem dX6_chooseJoint_150 : decode cX6_chooseJoint 150 = .ok (.goto (-131), 3) := by decide +kernel
theorem dX6_chooseJoint_153 : decode cX6_chooseJoint 153 = .ok (.iload 4, 2) := by decide +kernel
theorem dX6_chooseJoint_155 : decode cX6_chooseJoint 155 = .ok (.ireturn, 1) := by decide +kernel
theorem dX6_mayBe_0 : decode cX6_mayBe 0 = .ok (.iload_n 1, 1) := by decide +kernel
theorem dX6_mayBe_1 : decode cX6_mayBe 1 = .ok (.ifCond .ne 15, 3) := by decide +kernel
theorem dX6_mayBe_4 : decode cX6_mayBe 4 = .ok (.aload_n 0, 1) := by decide +kernel
theorem dX6_mayBe_5 : decode cX6_mayBe 5 = .ok (.getfield 126, 3) := by decide +kernel
theorem dX6_mayBe_8 : decode cX6_mayBe 8 = .ok (.iconst 3, 1) := by decide +kernel
theorem dX6_mayBe_9 : decode cX6_mayBe 9 = .ok (.iadd, 1) := by decide +kernel
theorem dX6_mayBe_10 : decode cX6_mayBe 10 = .ok (.iload_n 2, 1) := by decide +kernel
theorem dX6_mayBe_11 : decode cX6_mayBe 11 = .ok (.iadd, 1) := by decide +kernel
theorem dX6_mayBe_12 : decode cX6_mayBe 12 = .ok (.invokestatic 175, 3) := by decide +kernel
theorem dX6_mayBe_15 : decode cX6_mayBe 15 = .ok (.ireturn, 1) := by decide +kernel
theorem dX6_mayBe_16 : decode cX6_mayBe 16 = .ok (.aload_n 0, 1) := by decide +kernel
theorem dX6_mayBe_17 : decode cX6_mayBe 17 = .ok (.getfield 126, 3) := by decide +kernel
theorem dX6_mayBe_20 : decode cX6_mayBe 20 = .ok (.iconst 3, 1) := by decide +kernel
theorem dX6_mayBe_21 : decode cX6_mayBe 21 = .ok (.iadd, 1) := by decide +kernel
theorem dX6_mayBe_22 : decode cX6_mayBe 22 = .ok (.iload_n 1, 1) := by decide +kernel
theorem dX6_mayBe_23 : decode cX6_mayBe 23 = .ok (.isub, 1) := by decide +kernel
theorem dX6_mayBe_24 : decode cX6_mayBe 24 = .ok (.invokestatic 175, 3) := by decide +kernel
theorem dX6_mayBe_27 : decode cX6_mayBe 27 = .ok (.ifCond .eq 18, 3) := by decide +kernel
theorem dX6_mayBe_30 : decode cX6_mayBe 30 = .ok (.iload_n 1, 1) := by decide +kernel
theorem dX6_mayBe_31 : decode cX6_mayBe 31 = .ok (.iconst 1, 1) := by decide +kernel
theorem dX6_mayBe_32 : decode cX6_mayBe 32 = .ok (.isub, 1) := by decide +kernel
theorem dX6_mayBe_33 : decode cX6_mayBe 33 = .ok (.iload_n 2, 1) := by decide +kernel
theorem dX6_mayBe_34 : decode cX6_mayBe 34 = .ok (.iadd, 1) := by decide +kernel
theorem dX6_mayBe_35 : decode cX6_mayBe 35 = .ok (.invokestatic 175, 3) := by decide +kernel
theorem dX6_mayBe_38 : decode cX6_mayBe 38 = .ok (.ifCond .eq 7, 3) := by decide +kernel
theorem dX6_mayBe_41 : decode cX6_mayBe 41 = .ok (.iconst 1, 1) := by decide +kernel
theorem dX6_mayBe_42 : decode cX6_mayBe 42 = .ok (.goto 4, 3) := by decide +kernel
theorem dX6_mayBe_45 : decode cX6_mayBe 45 = .ok (.iconst 0, 1) := by decide +kernel
theorem dX6_mayBe_46 : decode cX6_mayBe 46 = .ok (.ireturn, 1) := by decide +kernel
theorem dX6_isRun_0 : decode cX6_isRun 0 = .ok (.iload_n 0, 1) := by decide +kernel
theorem dX6_isRun_1 : decode cX6_isRun 1 = .ok (.iconst 2, 1) := by decide +kernel
theorem dX6_isRun_2 : decode cX6_isRun 2 = .ok (.if_icmp .lt 13, 3) := by decide +kernel
theorem dX6_isRun_5 : decode cX6_isRun 5 = .ok (.iload_n 0, 1) := by decide +kernel
theorem dX6_isRun_6 : decode cX6_isRun 6 = .ok (.bipush 10, 2) := by decide +kernel
theorem dX6_isRun_8 : decode cX6_isRun 8 = .ok (.if_icmp .gt 7, 3) := by decide +kernel
theorem dX6_isRun_11 : decode cX6_isRun 11 = .ok (.iconst 1, 1) := by decide +kernel
theorem dX6_isRun_12 : decode cX6_isRun 12 = .ok (.goto 4, 3) := by decide +kernel
theorem dX6_isRun_15 : decode cX6_isRun 15 = .ok (.iconst 0, 1) := by decide +kernel
theorem dX6_isRun_16 : decode cX6_isRun 16 = .ok (.ireturn, 1) := by decide +kernel
theorem dX6_mocks_0 : decode cX6_mocks 0 = .ok (.aload_n 0, 1) := by decide +kernel
theorem dX6_mocks_1 : decode cX6_mocks 1 = .ok (.getfield 122, 3) := by decide +kernel
theorem dX6_mocks_4 : decode cX6_mocks 4 = .ok (.iload_n 2, 1) := by decide +kernel
theorem dX6_mocks_5 : decode cX6_mocks 5 = .ok (.lshl, 1) := by decide +kernel
theorem dX6_mocks_6 : decode cX6_mocks 6 = .ok (.iload_n 1, 1) := by decide +kernel
theorem dX6_mocks_7 : decode cX6_mocks 7 = .ok (.i2l, 1) := by decide +kernel
theorem dX6_mocks_8 : decode cX6_mocks 8 = .ok (.lor, 1) := by decide +kernel
theorem dX6_mocks_9 : decode cX6_mocks 9 = .ok (.lstore_n 3, 1) := by decide +kernel
theorem dX6_mocks_10 : decode cX6_mocks 10 = .ok (.lload_n 3, 1) := by decide +kernel
theorem dX6_mocks_11 : decode cX6_mocks 11 = .ok (.lload_n 3, 1) := by decide +kernel
theorem dX6_mocks_12 : decode cX6_mocks 12 = .ok (.bipush 11, 2) := by decide +kernel
theorem dX6_mocks_14 : decode cX6_mocks 14 = .ok (.lushr, 1) := by decide +kernel
theorem dX6_mocks_15 : decode cX6_mocks 15 = .ok (.land, 1) := by decide +kernel
theorem dX6_mocks_16 : decode cX6_mocks 16 = .ok (.lload_n 3, 1) := by decide +kernel
theorem dX6_mocks_17 : decode cX6_mocks 17 = .ok (.bipush 22, 2) := by decide +kernel
theorem dX6_mocks_19 : decode cX6_mocks 19 = .ok (.lushr, 1) := by decide +kernel
theorem dX6_mocks_20 : decode cX6_mocks 20 = .ok (.land, 1) := by decide +kernel
theorem dX6_mocks_21 : decode cX6_mocks 21 = .ok (.lstore 5, 2) := by decide +kernel
theorem dX6_mocks_23 : decode cX6_mocks 23 = .ok (.iconst 0, 1) := by decide +kernel
theorem dX6_mocks_24 : decode cX6_mocks 24 = .ok (.istore 7, 2) := by decide +kernel
theorem dX6_mocks_26 : decode cX6_mocks 26 = .ok (.iload 7, 2) := by decide +kernel
theorem dX6_mocks_28 : decode cX6_mocks 28 = .ok (.iload_n 2, 1) := by decide +kernel
theorem dX6_mocks_29 : decode cX6_mocks 29 = .ok (.if_icmp .ge 33, 3) := by decide +kernel
theorem dX6_mocks_32 : decode cX6_mocks 32 = .ok (.lload 5, 2) := by decide +kernel
theorem dX6_mocks_34 : decode cX6_mocks 34 = .ok (.lconst 0, 1) := by decide +kernel
theorem dX6_mocks_35 : decode cX6_mocks 35 = .ok (.lcmp, 1) := by decide +kernel
theorem dX6_mocks_36 : decode cX6_mocks 36 = .ok (.ifCond .eq 26, 3) := by decide +kernel
theorem dX6_mocks_39 : decode cX6_mocks 39 = .ok (.lload_n 3, 1) := by decide +kernel
theorem dX6_mocks_40 : decode cX6_mocks 40 = .ok (.iload 7, 2) := by decide +kernel
theorem dX6_mocks_42 : decode cX6_mocks 42 = .ok (.lushr, 1) := by decide +kernel
theorem dX6_mocks_43 : decode cX6_mocks 43 = .ok (.ldc2_w 178, 3) := by decide +kernel
theorem dX6_mocks_46 : decode cX6_mocks 46 = .ok (.land, 1) := by decide +kernel
theorem dX6_mocks_47 : decode cX6_mocks 47 = .ok (.ldc2_w 180, 3) := by decide +kernel
theorem dX6_mocks_50 : decode cX6_mocks 50 = .ok (.lcmp, 1) := by decide +kernel
theorem dX6_mocks_51 : decode cX6_mocks 51 = .ok (.ifCond .ne 5, 3) := by decide +kernel
theorem dX6_mocks_54 : decode cX6_mocks 54 = .ok (.iconst 1, 1) := by decide +kernel
theorem dX6_mocks_55 : decode cX6_mocks 55 = .ok (.ireturn, 1) := by decide +kernel
theorem dX6_mocks_56 : decode cX6_mocks 56 = .ok (.iinc 7 1, 3) := by decide +kernel
theorem dX6_mocks_59 : decode cX6_mocks 59 = .ok (.goto (-33), 3) := by decide +kernel
theorem dX6_mocks_62 : decode cX6_mocks 62 = .ok (.iconst 0, 1) := by decide +kernel
theorem dX6_mocks_63 : decode cX6_mocks 63 = .ok (.ireturn, 1) := by decide +kernel
theorem dX5_init_0 : decode cX5_init 0 = .ok (.aload_n 0, 1) := by decide +kernel
theorem dX5_init_1 : decode cX5_init 1 = .ok (.invokespecial 3, 3) := by decide +kernel
theorem dX5_init_4 : decode cX5_init 4 = .ok (.aload_n 0, 1) := by decide +kernel
theorem dX5_init_5 : decode cX5_init 5 = .ok (.new 9, 3) := by decide +kernel
theorem dX5_init_8 : decode cX5_init 8 = .ok (.dup, 1) := by decide +kernel
theorem dX5_init_9 : decode cX5_init 9 = .ok (.invokespecial 11, 3) := by decide +kernel
theorem dX5_init_12 : decode cX5_init 12 = .ok (.putfield 12, 3) := by decide +kernel
theorem dX5_init_15 : decode cX5_init 15 = .ok (.aload_n 0, 1) := by decide +kernel
theorem dX5_init_16 : decode cX5_init 16 = .ok (.sipush 640, 3) := by decide +kernel
theorem dX5_init_19 : decode cX5_init 19 = .ok (.newarray .int, 2) := by decide +kernel
theorem dX5_init_21 : decode cX5_init 21 = .ok (.putfield 18, 3) := by decide +kernel
theorem dX5_init_24 : decode cX5_init 24 = .ok (.aload_n 0, 1) := by decide +kernel
theorem dX5_init_25 : decode cX5_init 25 = .ok (.sipush 640, 3) := by decide +kernel
theorem dX5_init_28 : decode cX5_init 28 = .ok (.newarray .int, 2) := by decide +kernel
theorem dX5_init_30 : decode cX5_init 30 = .ok (.putfield 22, 3) := by decide +kernel
theorem dX5_init_33 : decode cX5_init 33 = .ok (.aload_n 0, 1) := by decide +kernel
theorem dX5_init_34 : decode cX5_init 34 = .ok (.sipush 640, 3) := by decide +kernel
theorem dX5_init_37 : decode cX5_init 37 = .ok (.newarray .int, 2) := by decide +kernel
theorem dX5_init_39 : decode cX5_init 39 = .ok (.putfield 25, 3) := by decide +kernel
theorem dX5_init_42 : decode cX5_init 42 = .ok (.aload_n 0, 1) := by decide +kernel
theorem dX5_init_43 : decode cX5_init 43 = .ok (.sipush 640, 3) := by decide +kernel
theorem dX5_init_46 : decode cX5_init 46 = .ok (.newarray .int, 2) := by decide +kernel
theorem dX5_init_48 : decode cX5_init 48 = .ok (.putfield 28, 3) := by decide +kernel
theorem dX5_init_51 : decode cX5_init 51 = .ok (.aload_n 0, 1) := by decide +kernel
theorem dX5_init_52 : decode cX5_init 52 = .ok (.sipush 5856, 3) := by decide +kernel
theorem dX5_init_55 : decode cX5_init 55 = .ok (.newarray .int, 2) := by decide +kernel
theorem dX5_init_57 : decode cX5_init 57 = .ok (.putfield 31, 3) := by decide +kernel
theorem dX5_init_60 : decode cX5_init 60 = .ok (.aload_n 0, 1) := by decide +kernel
theorem dX5_init_61 : decode cX5_init 61 = .ok (.bipush 8, 2) := by decide +kernel
theorem dX5_init_63 : decode cX5_init 63 = .ok (.newarray .int, 2) := by decide +kernel
theorem dX5_init_65 : decode cX5_init 65 = .ok (.putfield 34, 3) := by decide +kernel
theorem dX5_init_68 : decode cX5_init 68 = .ok (.aload_n 0, 1) := by decide +kernel
theorem dX5_init_69 : decode cX5_init 69 = .ok (.aload_n 1, 1) := by decide +kernel
theorem dX5_init_70 : decode cX5_init 70 = .ok (.putfield 37, 3) := by decide +kernel
theorem dX5_init_73 : decode cX5_init 73 = .ok (.aload_n 0, 1) := by decide +kernel
theorem dX5_init_74 : decode cX5_init 74 = .ok (.aload_n 2, 1) := by decide +kernel
theorem dX5_init_75 : decode cX5_init 75 = .ok (.putfield 41, 3) := by decide +kernel
theorem dX5_init_78 : decode cX5_init 78 = .ok (.aload_n 0, 1) := by decide +kernel
theorem dX5_init_79 : decode cX5_init 79 = .ok (.aload_n 3, 1) := by decide +kernel
theorem dX5_init_80 : decode cX5_init 80 = .ok (.putfield 45, 3) := by decide +kernel
theorem dX5_init_83 : decode cX5_init 83 = .ok (.aload_n 0, 1) := by decide +kernel
theorem dX5_init_84 : decode cX5_init 84 = .ok (.aload 4, 2) := by decide +kernel
theorem dX5_init_86 : decode cX5_init 86 = .ok (.putfield 49, 3) := by decide +kernel
theorem dX5_init_89 : decode cX5_init 89 = .ok (.aload_n 0, 1) := by decide +kernel
theorem dX5_init_90 : decode cX5_init 90 = .ok (.aload 5, 2) := by decide +kernel
theorem dX5_init_92 : decode cX5_init 92 = .ok (.putfield 53, 3) := by decide +kernel
theorem dX5_init_95 : decode cX5_init 95 = .ok (.return_, 1) := by decide +kernel
theorem dX5_forget_0 : decode cX5_forget 0 = .ok (.aload_n 0, 1) := by decide +kernel
theorem dX5_forget_1 : decode cX5_forget 1 = .ok (.iconst 0, 1) := by decide +kernel
theorem dX5_forget_2 : decode cX5_forget 2 = .ok (.putfield 56, 3) := by decide +kernel
theorem dX5_forget_5 : decode cX5_forget 5 = .ok (.return_, 1) := by decide +kernel
theorem dX5_perform_0 : decode cX5_perform 0 = .ok (.aload_n 0, 1) := by decide +kernel
theorem dX5_perform_1 : decode cX5_perform 1 = .ok (.getfield 34, 3) := by decide +kernel
theorem dX5_perform_4 : decode cX5_perform 4 = .ok (.iconst 0, 1) := by decide +kernel
theorem dX5_perform_5 : decode cX5_perform 5 = .ok (.invokestatic 60, 3) := by decide +kernel
theorem dX5_perform_8 : decode cX5_perform 8 = .ok (.aload_n 0, 1) := by decide +kernel
theorem dX5_perform_9 : decode cX5_perform 9 = .ok (.aload_n 0, 1) := by decide +kernel
theorem dX5_perform_10 : decode cX5_perform 10 = .ok (.getfield 41, 3) := by decide +kernel
theorem dX5_perform_13 : decode cX5_perform 13 = .ok (.invokevirtual 66, 3) := by decide +kernel
theorem dX5_perform_16 : decode cX5_perform 16 = .ok (.bipush 111, 2) := by decide +kernel
theorem dX5_perform_18 : decode cX5_perform 18 = .ok (.isub, 1) := by decide +kernel
theorem dX5_perform_19 : decode cX5_perform 19 = .ok (.putfield 72, 3) := by decide +kernel
theorem dX5_perform_22 : decode cX5_perform 22 = .ok (.aload_n 0, 1) := by decide +kernel
theorem dX5_perform_23 : decode cX5_perform 23 = .ok (.iload_n 3, 1) := by decide +kernel
theorem dX5_perform_24 : decode cX5_perform 24 = .ok (.invokevirtual 76, 3) := by decide +kernel
theorem dX5_perform_27 : decode cX5_perform 27 = .ok (.iconst 0, 1) := by decide +kernel
theorem dX5_perform_28 : decode cX5_perform 28 = .ok (.istore 4, 2) := by decide +kernel
theorem dX5_perform_30 : decode cX5_perform 30 = .ok (.iload 4, 2) := by decide +kernel
theorem dX5_perform_32 : decode cX5_perform 32 = .ok (.aload_n 0, 1) := by decide +kernel
theorem dX5_perform_33 : decode cX5_perform 33 = .ok (.getfield 80, 3) := by decide +kernel
theorem dX5_perform_36 : decode cX5_perform 36 = .ok (.if_icmp .ge 15, 3) := by decide +kernel
theorem dX5_perform_39 : decode cX5_perform 39 = .ok (.aload_n 0, 1) := by decide +kernel
theorem dX5_perform_40 : decode cX5_perform 40 = .ok (.iload 4, 2) := by decide +kernel
theorem dX5_perform_42 : decode cX5_perform 42 = .ok (.invokevirtual 83, 3) := by decide +kernel
theorem dX5_perform_45 : decode cX5_perform 45 = .ok (.iinc 4 1, 3) := by decide +kernel
theorem dX5_perform_48 : decode cX5_perform 48 = .ok (.goto (-18), 3) := by decide +kernel
theorem dX5_perform_51 : decode cX5_perform 51 = .ok (.iconst 0, 1) := by decide +kernel
theorem dX5_perform_52 : decode cX5_perform 52 = .ok (.istore 4, 2) := by decide +kernel
theorem dX5_perform_54 : decode cX5_perform 54 = .ok (.iload 4, 2) := by decide +kernel
theorem dX5_perform_56 : decode cX5_perform 56 = .ok (.aload_n 0, 1) := by decide +kernel
theorem dX5_perform_57 : decode cX5_perform 57 = .ok (.getfield 80, 3) := by decide +kernel
theorem dX5_perform_60 : decode cX5_perform 60 = .ok (.if_icmp .ge 22, 3) := by decide +kernel
theorem dX5_perform_63 : decode cX5_perform 63 = .ok (.aload_n 0, 1) := by decide +kernel
theorem dX5_perform_64 : decode cX5_perform 64 = .ok (.iload 4, 2) := by decide +kernel
theorem dX5_perform_66 : decode cX5_perform 66 = .ok (.invokevirtual 86, 3) := by decide +kernel
theorem dX5_perform_69 : decode cX5_perform 69 = .ok (.aload_n 0, 1) := by decide +kernel
theorem dX5_perform_70 : decode cX5_perform 70 = .ok (.iload 4, 2) := by decide +kernel
theorem dX5_perform_72 : decode cX5_perform 72 = .ok (.iload_n 1, 1) := by decide +kernel
theorem dX5_perform_73 : decode cX5_perform 73 = .ok (.invokevirtual 89, 3) := by decide +kernel
theorem dX5_perform_76 : decode cX5_perform 76 = .ok (.iinc 4 1, 3) := by decide +kernel
theorem dX5_perform_79 : decode cX5_perform 79 = .ok (.goto (-25), 3) := by decide +kernel
theorem dX5_perform_82 : decode cX5_perform 82 = .ok (.iconst 0, 1) := by decide +kernel
theorem dX5_perform_83 : decode cX5_perform 83 = .ok (.istore 4, 2) := by decide +kernel
theorem dX5_perform_85 : decode cX5_perform 85 = .ok (.iload 4, 2) := by decide +kernel
theorem dX5_perform_87 : decode cX5_perform 87 = .ok (.aload_n 0, 1) := by decide +kernel
theorem dX5_perform_88 : decode cX5_perform 88 = .ok (.getfield 80, 3) := by decide +kernel
theorem dX5_perform_91 : decode cX5_perform 91 = .ok (.if_icmp .ge 26, 3) := by decide +kernel
theorem dX5_perform_94 : decode cX5_perform 94 = .ok (.aload_n 0, 1) := by decide +kernel
theorem dX5_perform_95 : decode cX5_perform 95 = .ok (.iload 4, 2) := by decide +kernel
theorem dX5_perform_97 : decode cX5_perform 97 = .ok (.invokevirtual 93, 3) := by decide +kernel
theorem dX5_perform_100 : decode cX5_perform 100 = .ok (.istore 5, 2) := by decide +kernel
theorem dX5_perform_102 : decode cX5_perform 102 = .ok (.aload_n 0, 1) := by decide +kernel
theorem dX5_perform_103 : decode cX5_perform 103 = .ok (.iload 4, 2) := by decide +kernel
theorem dX5_perform_105 : decode cX5_perform 105 = .ok (.iload 5, 2) := by decide +kernel
theorem dX5_perform_107 : decode cX5_perform 107 = .ok (.iload_n 2, 1) := by decide +kernel
theorem dX5_perform_108 : decode cX5_perform 108 = .ok (.invokevirtual 97, 3) := by decide +kernel
theorem dX5_perform_111 : decode cX5_perform 111 = .ok (.iinc 4 1, 3) := by decide +kernel
theorem dX5_perform_114 : decode cX5_perform 114 = .ok (.goto (-29), 3) := by decide +kernel
theorem dX5_perform_117 : decode cX5_perform 117 = .ok (.aload_n 0, 1) := by decide +kernel
theorem dX5_perform_118 : decode cX5_perform 118 = .ok (.iconst 1, 1) := by decide +kernel
theorem dX5_perform_119 : decode cX5_perform 119 = .ok (.putfield 56, 3) := by decide +kernel
theorem dX5_perform_122 : decode cX5_perform 122 = .ok (.aload_n 0, 1) := by decide +kernel
theorem dX5_perform_123 : decode cX5_perform 123 = .ok (.invokevirtual 101, 3) := by decide +kernel
theorem dX5_perform_126 : decode cX5_perform 126 = .ok (.aload_n 0, 1) := by decide +kernel
theorem dX5_perform_127 : decode cX5_perform 127 = .ok (.iconst 0, 1) := by decide +kernel
theorem dX5_perform_128 : decode cX5_perform 128 = .ok (.invokevirtual 104, 3) := by decide +kernel
theorem dX5_perform_131 : decode cX5_perform 131 = .ok (.aload_n 0, 1) := by decide +kernel
theorem dX5_perform_132 : decode cX5_perform 132 = .ok (.iconst 1, 1) := by decide +kernel
theorem dX5_perform_133 : decode cX5_perform 133 = .ok (.invokevirtual 104, 3) := by decide +kernel
theorem dX5_perform_136 : decode cX5_perform 136 = .ok (.aload_n 0, 1) := by decide +kernel
theorem dX5_perform_137 : decode cX5_perform 137 = .ok (.getfield 34, 3) := by decide +kernel
theorem dX5_perform_140 : decode cX5_perform 140 = .ok (.bipush 6, 2) := by decide +kernel
theorem dX5_perform_142 : decode cX5_perform 142 = .ok (.aload_n 0, 1) := by decide +kernel
theorem dX5_perform_143 : decode cX5_perform 143 = .ok (.getfield 80, 3) := by decide +kernel
theorem dX5_perform_146 : decode cX5_perform 146 = .ok (.iastore, 1) := by decide +kernel
theorem dX5_perform_147 : decode cX5_perform 147 = .ok (.aload_n 0, 1) := by decide +kernel
theorem dX5_perform_148 : decode cX5_perform 148 = .ok (.getfield 34, 3) := by decide +kernel
theorem dX5_perform_151 : decode cX5_perform 151 = .ok (.bipush 7, 2) := by decide +kernel
theorem dX5_perform_153 : decode cX5_perform 153 = .ok (.aload_n 0, 1) := by decide +kernel
theorem dX5_perform_154 : decode cX5_perform 154 = .ok (.invokevirtual 107, 3) := by decide +kernel
theorem dX5_perform_157 : decode cX5_perform 157 = .ok (.iastore, 1) := by decide +kernel
theorem dX5_perform_158 : decode cX5_perform 158 = .ok (.aload_n 0, 1) := by decide +kernel
theorem dX5_perform_159 : decode cX5_perform 159 = .ok (.getfield 34, 3) := by decide +kernel
theorem dX5_perform_162 : decode cX5_perform 162 = .ok (.iconst 3, 1) := by decide +kernel
theorem dX5_perform_163 : decode cX5_perform 163 = .ok (.iaload, 1) := by decide +kernel
theorem dX5_perform_164 : decode cX5_perform 164 = .ok (.ireturn, 1) := by decide +kernel
theorem dX5_findFrames_0 : decode cX5_findFrames 0 = .ok (.aload_n 0, 1) := by decide +kernel
theorem dX5_findFrames_1 : decode cX5_findFrames 1 = .ok (.iconst 0, 1) := by decide +kernel
theorem dX5_findFrames_2 : decode cX5_findFrames 2 = .ok (.putfield 80, 3) := by decide +kernel
theorem dX5_findFrames_5 : decode cX5_findFrames 5 = .ok (.aload_n 0, 1) := by decide +kernel
theorem dX5_findFrames_6 : decode cX5_findFrames 6 = .ok (.getfield 41, 3) := by decide +kernel
theorem dX5_findFrames_9 : decode cX5_findFrames 9 = .ok (.iconst 0, 1) := by decide +kernel
theorem dX5_findFrames_10 : decode cX5_findFrames 10 = .ok (.invokevirtual 110, 3) := by decide +kernel
theorem dX5_findFrames_13 : decode cX5_findFrames 13 = .ok (.iconst 0, 1) := by decide +kernel
theorem dX5_findFrames_14 : decode cX5_findFrames 14 = .ok (.invokestatic 113, 3) := by decide +kernel
theorem dX5_findFrames_17 : decode cX5_findFrames 17 = .ok (.istore_n 2, 1) := by decide +kernel
theorem dX5_findFrames_18 : decode cX5_findFrames 18 = .ok (.aload_n 0, 1) := by decide +kernel
theorem dX5_findFrames_19 : decode cX5_findFrames 19 = .ok (.getfield 18, 3) := by decide +kernel
theorem dX5_findFrames_22 : decode cX5_findFrames 22 = .ok (.aload_n 0, 1) := by decide +kernel
theorem dX5_findFrames_23 : decode cX5_findFrames 23 = .ok (.getfield 80, 3) := by decide +kernel
theorem dX5_findFrames_26 : decode cX5_findFrames 26 = .ok (.iload_n 2, 1) := by decide +kernel
theorem dX5_findFrames_27 : decode cX5_findFrames 27 = .ok (.iastore, 1) := by decide +kernel
theorem dX5_findFrames_28 : decode cX5_findFrames 28 = .ok (.aload_n 0, 1) := by decide +kernel
theorem dX5_findFrames_29 : decode cX5_findFrames 29 = .ok (.dup, 1) := by decide +kernel
theorem dX5_findFrames_30 : decode cX5_findFrames 30 = .ok (.getfield 80, 3) := by decide +kernel
theorem dX5_findFrames_33 : decode cX5_findFrames 33 = .ok (.iconst 1, 1) := by decide +kernel
theorem dX5_findFrames_34 : decode cX5_findFrames 34 = .ok (.iadd, 1) := by decide +kernel
theorem dX5_findFrames_35 : decode cX5_findFrames 35 = .ok (.putfield 80, 3) := by decide +kernel
theorem dX5_findFrames_38 : decode cX5_findFrames 38 = .ok (.aload_n 0, 1) := by decide +kernel
theorem dX5_findFrames_39 : decode cX5_findFrames 39 = .ok (.iload_n 2, 1) := by decide +kernel
theorem dX5_findFrames_40 : decode cX5_findFrames 40 = .ok (.sipush 588, 3) := by decide +kernel
theorem dX5_findFrames_43 : decode cX5_findFrames 43 = .ok (.iadd, 1) := by decide +kernel
theorem dX5_findFrames_44 : decode cX5_findFrames 44 = .ok (.iload_n 1, 1) := by decide +kernel
theorem dX5_findFrames_45 : decode cX5_findFrames 45 = .ok (.invokevirtual 119, 3) := by decide +kernel
theorem dX5_findFrames_48 : decode cX5_findFrames 48 = .ok (.istore_n 2, 1) := by decide +kernel
theorem dX5_findFrames_49 : decode cX5_findFrames 49 = .ok (.aload_n 0, 1) := by decide +kernel
theorem dX5_findFrames_50 : decode cX5_findFrames 50 = .ok (.getfield 80, 3) := by decide +kernel
theorem dX5_findFrames_53 : decode cX5_findFrames 53 = .ok (.sipush 640, 3) := by decide +kernel
theorem dX5_findFrames_56 : decode cX5_findFrames 56 = .ok (.if_icmp .ge 14, 3) := by decide +kernel
theorem dX5_findFrames_59 : decode cX5_findFrames 59 = .ok (.iload_n 2, 1) := by decide +kernel
theorem dX5_findFrames_60 : decode cX5_findFrames 60 = .ok (.aload_n 0, 1) := by decide +kernel
theorem dX5_findFrames_61 : decode cX5_findFrames 61 = .ok (.getfield 41, 3) := by decide +kernel
theorem dX5_findFrames_64 : decode cX5_findFrames 64 = .ok (.invokevirtual 122, 3) := by decide +kernel
theorem dX5_findFrames_67 : decode cX5_findFrames 67 = .ok (.if_icmp .lt (-49), 3) := by decide +kernel
theorem dX5_findFrames_70 : decode cX5_findFrames 70 = .ok (.return_, 1) := by decide +kernel
theorem dX5_nextStart_0 : decode cX5_nextStart 0 = .ok (.iconst 0, 1) := by decide +kernel
theorem dX5_nextStart_1 : decode cX5_nextStart 1 = .ok (.istore_n 3, 1) := by decide +kernel
theorem dX5_nextStart_2 : decode cX5_nextStart 2 = .ok (.iload_n 3, 1) := by decide +kernel
theorem dX5_nextStart_3 : decode cX5_nextStart 3 = .ok (.iload_n 2, 1) := by decide +kernel
theorem dX5_nextStart_4 : decode cX5_nextStart 4 = .ok (.if_icmp .gt 43, 3) := by decide +kernel
theorem dX5_nextStart_7 : decode cX5_nextStart 7 = .ok (.aload_n 0, 1) := by decide +kernel
theorem dX5_nextStart_8 : decode cX5_nextStart 8 = .ok (.getfield 41, 3) := by decide +kernel
theorem dX5_nextStart_11 : decode cX5_nextStart 11 = .ok (.iload_n 1, 1) := by decide +kernel
theorem dX5_nextStart_12 : decode cX5_nextStart 12 = .ok (.iload_n 3, 1) := by decide +kernel
theorem dX5_nextStart_13 : decode cX5_nextStart 13 = .ok (.isub, 1) := by decide +kernel
theorem dX5_nextStart_14 : decode cX5_nextStart 14 = .ok (.invokevirtual 125, 3) := by decide +kernel
theorem dX5_nextStart_17 : decode cX5_nextStart 17 = .ok (.ifCond .eq 7, 3) := by decide +kernel
theorem dX5_nextStart_20 : decode cX5_nextStart 20 = .ok (.iload_n 1, 1) := by decide +kernel
theorem dX5_nextStart_21 : decode cX5_nextStart 21 = .ok (.iload_n 3, 1) := by decide +kernel
theorem dX5_nextStart_22 : decode cX5_nextStart 22 = .ok (.isub, 1) := by decide +kernel
theorem dX5_nextStart_23 : decode cX5_nextStart 23 = .ok (.ireturn, 1) := by decide +kernel
theorem dX5_nextStart_24 : decode cX5_nextStart 24 = .ok (.aload_n 0, 1) := by decide +kernel
theorem dX5_nextStart_25 : decode cX5_nextStart 25 = .ok (.getfield 41, 3) := by decide +kernel
theorem dX5_nextStart_28 : decode cX5_nextStart 28 = .ok (.iload_n 1, 1) := by decide +kernel
theorem dX5_nextStart_29 : decode cX5_nextStart 29 = .ok (.iload_n 3, 1) := by decide +kernel
theorem dX5_nextStart_30 : decode cX5_nextStart 30 = .ok (.iadd, 1) := by decide +kernel
theorem dX5_nextStart_31 : decode cX5_nextStart 31 = .ok (.invokevirtual 125, 3) := by decide +kernel
theorem dX5_nextStart_34 : decode cX5_nextStart 34 = .ok (.ifCond .eq 7, 3) := by decide +kernel
theorem dX5_nextStart_37 : decode cX5_nextStart 37 = .ok (.iload_n 1, 1) := by decide +kernel
theorem dX5_nextStart_38 : decode cX5_nextStart 38 = .ok (.iload_n 3, 1) := by decide +kernel
theorem dX5_nextStart_39 : decode cX5_nextStart 39 = .ok (.iadd, 1) := by decide +kernel
theorem dX5_nextStart_40 : decode cX5_nextStart 40 = .ok (.ireturn, 1) := by decide +kernel
theorem dX5_nextStart_41 : decode cX5_nextStart 41 = .ok (.iinc 3 1, 3) := by decide +kernel
theorem dX5_nextStart_44 : decode cX5_nextStart 44 = .ok (.goto (-42), 3) := by decide +kernel
theorem dX5_nextStart_47 : decode cX5_nextStart 47 = .ok (.iload_n 1, 1) := by decide +kernel
theorem dX5_nextStart_48 : decode cX5_nextStart 48 = .ok (.ireturn, 1) := by decide +kernel
theorem dX5_readFrame_0 : decode cX5_readFrame 0 = .ok (.iload_n 1, 1) := by decide +kernel
theorem dX5_readFrame_1 : decode cX5_readFrame 1 = .ok (.ifCond .lt 10, 3) := by decide +kernel
theorem dX5_readFrame_4 : decode cX5_readFrame 4 = .ok (.iload_n 1, 1) := by decide +kernel
theorem dX5_readFrame_5 : decode cX5_readFrame 5 = .ok (.sipush 640, 3) := by decide +kernel
theorem dX5_readFrame_8 : decode cX5_readFrame 8 = .ok (.if_icmp .lt 4, 3) := by decide +kernel
theorem dX5_readFrame_11 : decode cX5_readFrame 11 = .ok (.return_, 1) := by decide +kernel
theorem dX5_readFrame_12 : decode cX5_readFrame 12 = .ok (.aload_n 0, 1) := by decide +kernel
theorem dX5_readFrame_13 : decode cX5_readFrame 13 = .ok (.getfield 22, 3) := by decide +kernel
theorem dX5_readFrame_16 : decode cX5_readFrame 16 = .ok (.iload_n 1, 1) := by decide +kernel
theorem dX5_readFrame_17 : decode cX5_readFrame 17 = .ok (.aload_n 0, 1) := by decide +kernel
theorem dX5_readFrame_18 : decode cX5_readFrame 18 = .ok (.getfield 41, 3) := by decide +kernel
theorem dX5_readFrame_21 : decode cX5_readFrame 21 = .ok (.aload_n 0, 1) := by decide +kernel
theorem dX5_readFrame_22 : decode cX5_readFrame 22 = .ok (.getfield 18, 3) := by decide +kernel
theorem dX5_readFrame_25 : decode cX5_readFrame 25 = .ok (.iload_n 1, 1) := by decide +kernel
theorem dX5_readFrame_26 : decode cX5_readFrame 26 = .ok (.iaload, 1) := by decide +kernel
theorem dX5_readFrame_27 : decode cX5_readFrame 27 = .ok (.iconst 0, 1) := by decide +kernel
theorem dX5_readFrame_28 : decode cX5_readFrame 28 = .ok (.invokevirtual 129, 3) := by decide +kernel
theorem dX5_readFrame_31 : decode cX5_readFrame 31 = .ok (.iastore, 1) := by decide +kernel
theorem dX5_readFrame_32 : decode cX5_readFrame 32 = .ok (.iconst 0, 1) := by decide +kernel
theorem dX5_readFrame_33 : decode cX5_readFrame 33 = .ok (.istore_n 2, 1) := by decide +kernel
theorem dX5_readFrame_34 : decode cX5_readFrame 34 = .ok (.iconst 0, 1) := by decide +kernel
theorem dX5_readFrame_35 : decode cX5_readFrame 35 = .ok (.istore_n 3, 1) := by decide +kernel
theorem dX5_readFrame_36 : decode cX5_readFrame 36 = .ok (.iload_n 3, 1) := by decide +kernel
theorem dX5_readFrame_37 : decode cX5_readFrame 37 = .ok (.bipush 32, 2) := by decide +kernel
theorem dX5_readFrame_39 : decode cX5_readFrame 39 = .ok (.if_icmp .ge 86, 3) := by decide +kernel
theorem dX5_readFrame_42 : decode cX5_readFrame 42 = .ok (.aload_n 0, 1) := by decide +kernel
theorem dX5_readFrame_43 : decode cX5_readFrame 43 = .ok (.getfield 45, 3) := by decide +kernel
theorem dX5_readFrame_46 : decode cX5_readFrame 46 = .ok (.aload_n 0, 1) := by decide +kernel
theorem dX5_readFrame_47 : decode cX5_readFrame 47 = .ok (.getfield 41, 3) := by decide +kernel
theorem dX5_readFrame_50 : decode cX5_readFrame 50 = .ok (.aload_n 0, 1) := by decide +kernel
theorem dX5_readFrame_51 : decode cX5_readFrame 51 = .ok (.getfield 18, 3) := by decide +kernel
theorem dX5_readFrame_54 : decode cX5_readFrame 54 = .ok (.iload_n 1, 1) := by decide +kernel
theorem dX5_readFrame_55 : decode cX5_readFrame 55 = .ok (.iaload, 1) := by decide +kernel
theorem dX5_readFrame_56 : decode cX5_readFrame 56 = .ok (.iload_n 3, 1) := by decide +kernel
theorem dX5_readFrame_57 : decode cX5_readFrame 57 = .ok (.iconst 1, 1) := by decide +kernel
theorem dX5_readFrame_58 : decode cX5_readFrame 58 = .ok (.iadd, 1) := by decide +kernel
theorem dX5_readFrame_59 : decode cX5_readFrame 59 = .ok (.invokevirtual 129, 3) := by decide +kernel
theorem dX5_readFrame_62 : decode cX5_readFrame 62 = .ok (.invokevirtual 132, 3) := by decide +kernel
theorem dX5_readFrame_65 : decode cX5_readFrame 65 = .ok (.istore 4, 2) := by decide +kernel
theorem dX5_readFrame_67 : decode cX5_readFrame 67 = .ok (.iload 4, 2) := by decide +kernel
theorem dX5_readFrame_69 : decode cX5_readFrame 69 = .ok (.iconst (-1), 1) := by decide +kernel
theorem dX5_readFrame_70 : decode cX5_readFrame 70 = .ok (.if_icmp .ne 22, 3) := by decide +kernel
theorem dX5_readFrame_73 : decode cX5_readFrame 73 = .ok (.aload_n 0, 1) := by decide +kernel
theorem dX5_readFrame_74 : decode cX5_readFrame 74 = .ok (.getfield 34, 3) := by decide +kernel
theorem dX5_readFrame_77 : decode cX5_readFrame 77 = .ok (.iconst 0, 1) := by decide +kernel
theorem dX5_readFrame_78 : decode cX5_readFrame 78 = .ok (.dup2, 1) := by decide +kernel
theorem dX5_readFrame_79 : decode cX5_readFrame 79 = .ok (.iaload, 1) := by decide +kernel
theorem dX5_readFrame_80 : decode cX5_readFrame 80 = .ok (.iconst 1, 1) := by decide +kernel
theorem dX5_readFrame_81 : decode cX5_readFrame 81 = .ok (.iadd, 1) := by decide +kernel
theorem dX5_readFrame_82 : decode cX5_readFrame 82 = .ok (.iastore, 1) := by decide +kernel
theorem dX5_readFrame_83 : decode cX5_readFrame 83 = .ok (.iload_n 2, 1) := by decide +kernel
theorem dX5_readFrame_84 : decode cX5_readFrame 84 = .ok (.iconst 1, 1) := by decide +kernel
theorem dX5_readFrame_85 : decode cX5_readFrame 85 = .ok (.iload_n 3, 1) := by decide +kernel
theorem dX5_readFrame_86 : decode cX5_readFrame 86 = .ok (.ishl, 1) := by decide +kernel
theorem dX5_readFrame_87 : decode cX5_readFrame 87 = .ok (.ior, 1) := by decide +kernel
theorem dX5_readFrame_88 : decode cX5_readFrame 88 = .ok (.istore_n 2, 1) := by decide +kernel
theorem dX5_readFrame_89 : decode cX5_readFrame 89 = .ok (.iconst 0, 1) := by decide +kernel
theorem dX5_readFrame_90 : decode cX5_readFrame 90 = .ok (.istore 4, 2) := by decide +kernel
theorem dX5_readFrame_92 : decode cX5_readFrame 92 = .ok (.aload_n 0, 1) := by decide +kernel
theorem dX5_readFrame_93 : decode cX5_readFrame 93 = .ok (.getfield 37, 3) := by decide +kernel
theorem dX5_readFrame_96 : decode cX5_readFrame 96 = .ok (.iload_n 1, 1) := by decide +kernel
theorem dX5_readFrame_97 : decode cX5_readFrame 97 = .ok (.iload_n 3, 1) := by decide +kernel
theorem dX5_readFrame_98 : decode cX5_readFrame 98 = .ok (.iload_n 3, 1) := by decide +kernel
theorem dX5_readFrame_99 : decode cX5_readFrame 99 = .ok (.invokestatic 137, 3) := by decide +kernel
theorem dX5_readFrame_102 : decode cX5_readFrame 102 = .ok (.ifCond .eq 12, 3) := by decide +kernel
theorem dX5_readFrame_105 : decode cX5_readFrame 105 = .ok (.sipush 255, 3) := by decide +kernel
theorem dX5_readFrame_108 : decode cX5_readFrame 108 = .ok (.iload 4, 2) := by decide +kernel
theorem dX5_readFrame_110 : decode cX5_readFrame 110 = .ok (.isub, 1) := by decide +kernel
theorem dX5_readFrame_111 : decode cX5_readFrame 111 = .ok (.goto 5, 3) := by decide +kernel
theorem dX5_readFrame_114 : decode cX5_readFrame 114 = .ok (.iload 4, 2) := by decide +kernel
theorem dX5_readFrame_116 : decode cX5_readFrame 116 = .ok (.invokevirtual 142, 3) := by decide +kernel
theorem dX5_readFrame_119 : decode cX5_readFrame 119 = .ok (.iinc 3 1, 3) := by decide +kernel
theorem dX5_readFrame_122 : decode cX5_readFrame 122 = .ok (.goto (-86), 3) := by decide +kernel
theorem dX5_readFrame_125 : decode cX5_readFrame 125 = .ok (.aload_n 0, 1) := by decide +kernel
theorem dX5_readFrame_126 : decode cX5_readFrame 126 = .ok (.getfield 37, 3) := by decide +kernel
theorem dX5_readFrame_129 : decode cX5_readFrame 129 = .ok (.iload_n 1, 1) := by decide +kernel
theorem dX5_readFrame_130 : decode cX5_readFrame 130 = .ok (.iload_n 2, 1) := by decide +kernel
theorem dX5_readFrame_131 : decode cX5_readFrame 131 = .ok (.invokevirtual 145, 3) := by decide +kernel
theorem dX5_readFrame_134 : decode cX5_readFrame 134 = .ok (.return_, 1) := by decide +kernel
theorem dX5_takeInnerWord_0 : decode cX5_takeInnerWord 0 = .ok (.iload_n 1, 1) := by decide +kernel
theorem dX5_takeInnerWord_1 : decode cX5_takeInnerWord 1 = .ok (.iconst 1, 1) := by decide +kernel
theorem dX5_takeInnerWord_2 : decode cX5_takeInnerWord 2 = .ok (.iadd, 1) := by decide +kernel
theorem dX5_takeInnerWord_3 : decode cX5_takeInnerWord 3 = .ok (.aload_n 0, 1) := by decide +kernel
theorem dX5_takeInnerWord_4 : decode cX5_takeInnerWord 4 = .ok (.getfield 80, 3) := by decide +kernel
theorem dX5_takeInnerWord_7 : decode cX5_takeInnerWord 7 = .ok (.if_icmp .lt 7, 3) := by decide +kernel
theorem dX5_takeInnerWord_10 : decode cX5_takeInnerWord 10 = .ok (.iconst 1, 1) := by decide +kernel
theorem dX5_takeInnerWord_11 : decode cX5_takeInnerWord 11 = .ok (.goto 4, 3) := by decide +kernel
theorem dX5_takeInnerWord_14 : decode cX5_takeInnerWord 14 = .ok (.iconst 0, 1) := by decide +kernel
theorem dX5_takeInnerWord_15 : decode cX5_takeInnerWord 15 = .ok (.istore_n 2, 1) := by decide +kernel
theorem dX5_takeInnerWord_16 : decode cX5_takeInnerWord 16 = .ok (.iconst 0, 1) := by decide +kernel
theorem dX5_takeInnerWord_17 : decode cX5_takeInnerWord 17 = .ok (.istore_n 3, 1) := by decide +kernel
theorem dX5_takeInnerWord_18 : decode cX5_takeInnerWord 18 = .ok (.iload_n 3, 1) := by decide +kernel
theorem dX5_takeInnerWord_19 : decode cX5_takeInnerWord 19 = .ok (.bipush 32, 2) := by decide +kernel
theorem dX5_takeInnerWord_21 : decode cX5_takeInnerWord 21 = .ok (.if_icmp .ge 37, 3) := by decide +kernel
theorem dX5_takeInnerWord_24 : decode cX5_takeInnerWord 24 = .ok (.aload_n 0, 1) := by decide +kernel
theorem dX5_takeInnerWord_25 : decode cX5_takeInnerWord 25 = .ok (.getfield 37, 3) := by decide +kernel
theorem dX5_takeInnerWord_28 : decode cX5_takeInnerWord 28 = .ok (.iload_n 1, 1) := by decide +kernel
theorem dX5_takeInnerWord_29 : decode cX5_takeInnerWord 29 = .ok (.iload_n 3, 1) := by decide +kernel
theorem dX5_takeInnerWord_30 : decode cX5_takeInnerWord 30 = .ok (.iload_n 2, 1) := by decide +kernel
theorem dX5_takeInnerWord_31 : decode cX5_takeInnerWord 31 = .ok (.ifCond .eq 7, 3) := by decide +kernel
theorem dX5_takeInnerWord_34 : decode cX5_takeInnerWord 34 = .ok (.iconst 0, 1) := by decide +kernel
theorem dX5_takeInnerWord_35 : decode cX5_takeInnerWord 35 = .ok (.goto 14, 3) := by decide +kernel
theorem dX5_takeInnerWord_38 : decode cX5_takeInnerWord 38 = .ok (.aload_n 0, 1) := by decide +kernel
theorem dX5_takeInnerWord_39 : decode cX5_takeInnerWord 39 = .ok (.getfield 37, 3) := by decide +kernel
theorem dX5_takeInnerWord_42 : decode cX5_takeInnerWord 42 = .ok (.iload_n 1, 1) := by decide +kernel
theorem dX5_takeInnerWord_43 : decode cX5_takeInnerWord 43 = .ok (.iconst 1, 1) := by decide +kernel
theorem dX5_takeInnerWord_44 : decode cX5_takeInnerWord 44 = .ok (.iadd, 1) := by decide +kernel
theorem dX5_takeInnerWord_45 : decode cX5_takeInnerWord 45 = .ok (.iload_n 3, 1) := by decide +kernel
theorem dX5_takeInnerWord_46 : decode cX5_takeInnerWord 46 = .ok (.invokevirtual 148, 3) := by decide +kernel
theorem dX5_takeInnerWord_49 : decode cX5_takeInnerWord 49 = .ok (.invokevirtual 142, 3) := by decide +kernel
theorem dX5_takeInnerWord_52 : decode cX5_takeInnerWord 52 = .ok (.iinc 3 2, 3) := by decide +kernel
theorem dX5_takeInnerWord_55 : decode cX5_takeInnerWord 55 = .ok (.goto (-37), 3) := by decide +kernel
theorem dX5_takeInnerWord_58 : decode cX5_takeInnerWord 58 = .ok (.iload_n 2, 1) := by decide +kernel
theorem dX5_takeInnerWord_59 : decode cX5_takeInnerWord 59 = .ok (.ifCond .eq 7, 3) := by decide +kernel
theorem dX5_takeInnerWord_62 : decode cX5_takeInnerWord 62 = .ok (.iconst (-1), 1) := by decide +kernel
theorem dX5_takeInnerWord_63 : decode cX5_takeInnerWord 63 = .ok (.goto 13, 3) := by decide +kernel
theorem dX5_takeInnerWord_66 : decode cX5_takeInnerWord 66 = .ok (.aload_n 0, 1) := by decide +kernel
theorem dX5_takeInnerWord_67 : decode cX5_takeInnerWord 67 = .ok (.getfield 37, 3) := by decide +kernel
theorem dX5_takeInnerWord_70 : decode cX5_takeInnerWord 70 = .ok (.iload_n 1, 1) := by decide +kernel
theorem dX5_takeInnerWord_71 : decode cX5_takeInnerWord 71 = .ok (.iconst 1, 1) := by decide +kernel
theorem dX5_takeInnerWord_72 : decode cX5_takeInnerWord 72 = .ok (.iadd, 1) := by decide +kernel
theorem dX5_takeInnerWord_73 : decode cX5_takeInnerWord 73 = .ok (.invokevirtual 151, 3) := by decide +kernel
theorem dX5_takeInnerWord_76 : decode cX5_takeInnerWord 76 = .ok (.istore_n 3, 1) := by decide +kernel
theorem dX5_takeInnerWord_77 : decode cX5_takeInnerWord 77 = .ok (.aload_n 0, 1) := by decide +kernel
theorem dX5_takeInnerWord_78 : decode cX5_takeInnerWord 78 = .ok (.getfield 37, 3) := by decide +kernel
theorem dX5_takeInnerWord_81 : decode cX5_takeInnerWord 81 = .ok (.iload_n 1, 1) := by decide +kernel
theorem dX5_takeInnerWord_82 : decode cX5_takeInnerWord 82 = .ok (.aload_n 0, 1) := by decide +kernel
theorem dX5_takeInnerWord_83 : decode cX5_takeInnerWord 83 = .ok (.getfield 37, 3) := by decide +kernel
theorem dX5_takeInnerWord_86 : decode cX5_takeInnerWord 86 = .ok (.iload_n 1, 1) := by decide +kernel
theorem dX5_takeInnerWord_87 : decode cX5_takeInnerWord 87 = .ok (.invokevirtual 151, 3) := by decide +kernel
theorem dX5_takeInnerWord_90 : decode cX5_takeInnerWord 90 = .ok (.ldc 154, 2) := by decide +kernel
theorem dX5_takeInnerWord_92 : decode cX5_takeInnerWord 92 = .ok (.iand, 1) := by decide +kernel
theorem dX5_takeInnerWord_93 : decode cX5_takeInnerWord 93 = .ok (.iload_n 3, 1) := by decide +kernel
theorem dX5_takeInnerWord_94 : decode cX5_takeInnerWord 94 = .ok (.ldc 155, 2) := by decide +kernel
theorem dX5_takeInnerWord_96 : decode cX5_takeInnerWord 96 = .ok (.iand, 1) := by decide +kernel
theorem dX5_takeInnerWord_97 : decode cX5_takeInnerWord 97 = .ok (.ior, 1) := by decide +kernel
theorem dX5_takeInnerWord_98 : decode cX5_takeInnerWord 98 = .ok (.invokevirtual 145, 3) := by decide +kernel
theorem dX5_takeInnerWord_101 : decode cX5_takeInnerWord 101 = .ok (.return_, 1) := by decide +kernel
theorem dX5_mendInner_0 : decode cX5_mendInner 0 = .ok (.aload_n 0, 1) := by decide +kernel
theorem dX5_mendInner_1 : decode cX5_mendInner 1 = .ok (.getfield 49, 3) := by decide +kernel
theorem dX5_mendInner_4 : decode cX5_mendInner 4 = .ok (.aload_n 0, 1) := by decide +kernel
theorem dX5_mendInner_5 : decode cX5_mendInner 5 = .ok (.getfield 37, 3) := by decide +kernel
theorem dX5_mendInner_8 : decode cX5_mendInner 8 = .ok (.invokevirtual 156, 3) := by decide +kernel
theorem dX5_mendInner_11 : decode cX5_mendInner 11 = .ok (.aload_n 0, 1) := by decide +kernel
theorem dX5_mendInner_12 : decode cX5_mendInner 12 = .ok (.getfield 37, 3) := by decide +kernel
theorem dX5_mendInner_15 : decode cX5_mendInner 15 = .ok (.iload_n 1, 1) := by decide +kernel
theorem dX5_mendInner_16 : decode cX5_mendInner 16 = .ok (.invokevirtual 160, 3) := by decide +kernel
theorem dX5_mendInner_19 : decode cX5_mendInner 19 = .ok (.aload_n 0, 1) := by decide +kernel
theorem dX5_mendInner_20 : decode cX5_mendInner 20 = .ok (.getfield 37, 3) := by decide +kernel
theorem dX5_mendInner_23 : decode cX5_mendInner 23 = .ok (.iload_n 1, 1) := by decide +kernel
theorem dX5_mendInner_24 : decode cX5_mendInner 24 = .ok (.invokevirtual 151, 3) := by decide +kernel
theorem dX5_mendInner_27 : decode cX5_mendInner 27 = .ok (.iload_n 2, 1) := by decide +kernel
theorem dX5_mendInner_28 : decode cX5_mendInner 28 = .ok (.invokevirtual 163, 3) := by decide +kernel
theorem dX5_mendInner_31 : decode cX5_mendInner 31 = .ok (.istore_n 3, 1) := by decide +kernel
theorem dX5_mendInner_32 : decode cX5_mendInner 32 = .ok (.iload_n 3, 1) := by decide +kernel
theorem dX5_mendInner_33 : decode cX5_mendInner 33 = .ok (.bipush (-2), 2) := by decide +kernel
theorem dX5_mendInner_35 : decode cX5_mendInner 35 = .ok (.if_icmp .ne 13, 3) := by decide +kernel
theorem dX5_mendInner_38 : decode cX5_mendInner 38 = .ok (.aload_n 0, 1) := by decide +kernel
theorem dX5_mendInner_39 : decode cX5_mendInner 39 = .ok (.getfield 34, 3) := by decide +kernel
theorem dX5_mendInner_42 : decode cX5_mendInner 42 = .ok (.iconst 1, 1) := by decide +kernel
theorem dX5_mendInner_43 : decode cX5_mendInner 43 = .ok (.dup2, 1) := by decide +kernel
theorem dX5_mendInner_44 : decode cX5_mendInner 44 = .ok (.iaload, 1) := by decide +kernel
theorem dX5_mendInner_45 : decode cX5_mendInner 45 = .ok (.iconst 1, 1) := by decide +kernel
theorem dX5_mendInner_46 : decode cX5_mendInner 46 = .ok (.iadd, 1) := by decide +kernel
theorem dX5_mendInner_47 : decode cX5_mendInner 47 = .ok (.iastore, 1) := by decide +kernel
theorem dX5_mendInner_48 : decode cX5_mendInner 48 = .ok (.aload_n 0, 1) := by decide +kernel
theorem dX5_mendInner_49 : decode cX5_mendInner 49 = .ok (.getfield 37, 3) := by decide +kernel
theorem dX5_mendInner_52 : decode cX5_mendInner 52 = .ok (.iload_n 1, 1) := by decide +kernel
theorem dX5_mendInner_53 : decode cX5_mendInner 53 = .ok (.iload_n 3, 1) := by decide +kernel
theorem dX5_mendInner_54 : decode cX5_mendInner 54 = .ok (.bipush (-2), 2) := by decide +kernel
theorem dX5_mendInner_56 : decode cX5_mendInner 56 = .ok (.if_icmp .ne 7, 3) := by decide +kernel
theorem dX5_mendInner_59 : decode cX5_mendInner 59 = .ok (.iconst (-1), 1) := by decide +kernel
theorem dX5_mendInner_60 : decode cX5_mendInner 60 = .ok (.goto 4, 3) := by decide +kernel
theorem dX5_mendInner_63 : decode cX5_mendInner 63 = .ok (.iconst 0, 1) := by decide +kernel
theorem dX5_mendInner_64 : decode cX5_mendInner 64 = .ok (.invokevirtual 145, 3) := by decide +kernel
theorem dX5_mendInner_67 : decode cX5_mendInner 67 = .ok (.iload_n 1, 1) := by decide +kernel
theorem dX5_mendInner_68 : decode cX5_mendInner 68 = .ok (.ifCond .lt 17, 3) := by decide +kernel
theorem dX5_mendInner_71 : decode cX5_mendInner 71 = .ok (.iload_n 1, 1) := by decide +kernel
theorem dX5_mendInner_72 : decode cX5_mendInner 72 = .ok (.sipush 640, 3) := by decide +kernel
theorem dX5_mendInner_75 : decode cX5_mendInner 75 = .ok (.if_icmp .ge 10, 3) := by decide +kernel
theorem dX5_mendInner_78 : decode cX5_mendInner 78 = .ok (.aload_n 0, 1) := by decide +kernel
theorem dX5_mendInner_79 : decode cX5_mendInner 79 = .ok (.getfield 25, 3) := by decide +kernel
theorem dX5_mendInner_82 : decode cX5_mendInner 82 = .ok (.iload_n 1, 1) := by decide +kernel
theorem dX5_mendInner_83 : decode cX5_mendInner 83 = .ok (.iload_n 3, 1) := by decide +kernel
theorem dX5_mendInner_84 : decode cX5_mendInner 84 = .ok (.iastore, 1) := by decide +kernel
theorem dX5_mendInner_85 : decode cX5_mendInner 85 = .ok (.return_, 1) := by decide +kernel
theorem dX5_takeOuterWord_0 : decode cX5_takeOuterWord 0 = .ok (.iconst 0, 1) := by decide +kernel
theorem dX5_takeOuterWord_1 : decode cX5_takeOuterWord 1 = .ok (.istore_n 2, 1) := by decide +kernel
theorem dX5_takeOuterWord_2 : decode cX5_takeOuterWord 2 = .ok (.iconst 0, 1) := by decide +kernel
theorem dX5_takeOuterWord_3 : decode cX5_takeOuterWord 3 = .ok (.istore_n 3, 1) := by decide +kernel
theorem dX5_takeOuterWord_4 : decode cX5_takeOuterWord 4 = .ok (.iload_n 3, 1) := by decide +kernel
theorem dX5_takeOuterWord_5 : decode cX5_takeOuterWord 5 = .ok (.bipush 28, 2) := by decide +kernel
theorem dX5_takeOuterWord_7 : decode cX5_takeOuterWord 7 = .ok (.if_icmp .ge 76, 3) := by decide +kernel
theorem dX5_takeOuterWord_10 : decode cX5_takeOuterWord 10 = .ok (.iload_n 1, 1) := by decide +kernel
theorem dX5_takeOuterWord_11 : decode cX5_takeOuterWord 11 = .ok (.iconst 4, 1) := by decide +kernel
theorem dX5_takeOuterWord_12 : decode cX5_takeOuterWord 12 = .ok (.iload_n 3, 1) := by decide +kernel
theorem dX5_takeOuterWord_13 : decode cX5_takeOuterWord 13 = .ok (.imul, 1) := by decide +kernel
theorem dX5_takeOuterWord_14 : decode cX5_takeOuterWord 14 = .ok (.iadd, 1) := by decide +kernel
theorem dX5_takeOuterWord_15 : decode cX5_takeOuterWord 15 = .ok (.istore 4, 2) := by decide +kernel
theorem dX5_takeOuterWord_17 : decode cX5_takeOuterWord 17 = .ok (.aload_n 0, 1) := by decide +kernel
theorem dX5_takeOuterWord_18 : decode cX5_takeOuterWord 18 = .ok (.getfield 37, 3) := by decide +kernel
theorem dX5_takeOuterWord_21 : decode cX5_takeOuterWord 21 = .ok (.iload_n 1, 1) := by decide +kernel
theorem dX5_takeOuterWord_22 : decode cX5_takeOuterWord 22 = .ok (.iload_n 3, 1) := by decide +kernel
theorem dX5_takeOuterWord_23 : decode cX5_takeOuterWord 23 = .ok (.iload 4, 2) := by decide +kernel
theorem dX5_takeOuterWord_25 : decode cX5_takeOuterWord 25 = .ok (.aload_n 0, 1) := by decide +kernel
theorem dX5_takeOuterWord_26 : decode cX5_takeOuterWord 26 = .ok (.getfield 80, 3) := by decide +kernel
theorem dX5_takeOuterWord_29 : decode cX5_takeOuterWord 29 = .ok (.if_icmp .ge 16, 3) := by decide +kernel
theorem dX5_takeOuterWord_32 : decode cX5_takeOuterWord 32 = .ok (.aload_n 0, 1) := by decide +kernel
theorem dX5_takeOuterWord_33 : decode cX5_takeOuterWord 33 = .ok (.getfield 37, 3) := by decide +kernel
theorem dX5_takeOuterWord_36 : decode cX5_takeOuterWord 36 = .ok (.iload 4, 2) := by decide +kernel
theorem dX5_takeOuterWord_38 : decode cX5_takeOuterWord 38 = .ok (.iload_n 3, 1) := by decide +kernel
theorem dX5_takeOuterWord_39 : decode cX5_takeOuterWord 39 = .ok (.invokevirtual 148, 3) := by decide +kernel
theorem dX5_takeOuterWord_42 : decode cX5_takeOuterWord 42 = .ok (.goto 4, 3) := by decide +kernel
theorem dX5_takeOuterWord_45 : decode cX5_takeOuterWord 45 = .ok (.iconst 0, 1) := by decide +kernel
theorem dX5_takeOuterWord_46 : decode cX5_takeOuterWord 46 = .ok (.invokevirtual 142, 3) := by decide +kernel
theorem dX5_takeOuterWord_49 : decode cX5_takeOuterWord 49 = .ok (.iload 4, 2) := by decide +kernel
theorem dX5_takeOuterWord_51 : decode cX5_takeOuterWord 51 = .ok (.aload_n 0, 1) := by decide +kernel
theorem dX5_takeOuterWord_52 : decode cX5_takeOuterWord 52 = .ok (.getfield 80, 3) := by decide +kernel
theorem dX5_takeOuterWord_55 : decode cX5_takeOuterWord 55 = .ok (.if_icmp .ge 16, 3) := by decide +kernel
theorem dX5_takeOuterWord_58 : decode cX5_takeOuterWord 58 = .ok (.aload_n 0, 1) := by decide +kernel
theorem dX5_takeOuterWord_59 : decode cX5_takeOuterWord 59 = .ok (.getfield 37, 3) := by decide +kernel
theorem dX5_takeOuterWord_62 : decode cX5_takeOuterWord 62 = .ok (.iload 4, 2) := by decide +kernel
theorem dX5_takeOuterWord_64 : decode cX5_takeOuterWord 64 = .ok (.iload_n 3, 1) := by decide +kernel
theorem dX5_takeOuterWord_65 : decode cX5_takeOuterWord 65 = .ok (.invokevirtual 169, 3) := by decide +kernel
theorem dX5_takeOuterWord_68 : decode cX5_takeOuterWord 68 = .ok (.ifCond .eq 9, 3) := by decide +kernel
theorem dX5_takeOuterWord_71 : decode cX5_takeOuterWord 71 = .ok (.iload_n 2, 1) := by decide +kernel
theorem dX5_takeOuterWord_72 : decode cX5_takeOuterWord 72 = .ok (.iconst 1, 1) := by decide +kernel
theorem dX5_takeOuterWord_73 : decode cX5_takeOuterWord 73 = .ok (.iload_n 3, 1) := by decide +kernel
theorem dX5_takeOuterWord_74 : decode cX5_takeOuterWord 74 = .ok (.ishl, 1) := by decide +kernel
theorem dX5_takeOuterWord_75 : decode cX5_takeOuterWord 75 = .ok (.ior, 1) := by decide +kernel
theorem dX5_takeOuterWord_76 : decode cX5_takeOuterWord 76 = .ok (.istore_n 2, 1) := by decide +kernel
theorem dX5_takeOuterWord_77 : decode cX5_takeOuterWord 77 = .ok (.iinc 3 1, 3) := by decide +kernel
theorem dX5_takeOuterWord_80 : decode cX5_takeOuterWord 80 = .ok (.goto (-76), 3) := by decide +kernel
theorem dX5_takeOuterWord_83 : decode cX5_takeOuterWord 83 = .ok (.iload_n 2, 1) := by decide +kernel
theorem dX5_takeOuterWord_84 : decode cX5_takeOuterWord 84 = .ok (.ireturn, 1) := by decide +kernel
theorem dX5_mendOuter_0 : decode cX5_mendOuter 0 = .ok (.iload_n 2, 1) := by decide +kernel
theorem dX5_mendOuter_1 : decode cX5_mendOuter 1 = .ok (.invokestatic 173, 3) := by decide +kernel
theorem dX5_mendOuter_4 : decode cX5_mendOuter 4 = .ok (.istore 4, 2) := by decide +kernel
theorem dX5_mendOuter_6 : decode cX5_mendOuter 6 = .ok (.aload_n 0, 1) := by decide +kernel
theorem dX5_mendOuter_7 : decode cX5_mendOuter 7 = .ok (.getfield 34, 3) := by decide +kernel
theorem dX5_mendOuter_10 : decode cX5_mendOuter 10 = .ok (.iconst 5, 1) := by decide +kernel
theorem dX5_mendOuter_11 : decode cX5_mendOuter 11 = .ok (.aload_n 0, 1) := by decide +kernel
theorem dX5_mendOuter_12 : decode cX5_mendOuter 12 = .ok (.getfield 34, 3) := by decide +kernel
theorem dX5_mendOuter_15 : decode cX5_mendOuter 15 = .ok (.iconst 5, 1) := by decide +kernel
theorem dX5_mendOuter_16 : decode cX5_mendOuter 16 = .ok (.iaload, 1) := by decide +kernel
theorem dX5_mendOuter_17 : decode cX5_mendOuter 17 = .ok (.iload 4, 2) := by decide +kernel
theorem dX5_mendOuter_19 : decode cX5_mendOuter 19 = .ok (.invokestatic 113, 3) := by decide +kernel
theorem dX5_mendOuter_22 : decode cX5_mendOuter 22 = .ok (.iastore, 1) := by decide +kernel
theorem dX5_mendOuter_23 : decode cX5_mendOuter 23 = .ok (.aload_n 0, 1) := by decide +kernel
theorem dX5_mendOuter_24 : decode cX5_mendOuter 24 = .ok (.getfield 53, 3) := by decide +kernel
theorem dX5_mendOuter_27 : decode cX5_mendOuter 27 = .ok (.aload_n 0, 1) := by decide +kernel
theorem dX5_mendOuter_28 : decode cX5_mendOuter 28 = .ok (.getfield 37, 3) := by decide +kernel
theorem dX5_mendOuter_31 : decode cX5_mendOuter 31 = .ok (.invokevirtual 156, 3) := by decide +kernel
theorem dX5_mendOuter_34 : decode cX5_mendOuter 34 = .ok (.aload_n 0, 1) := by decide +kernel
theorem dX5_mendOuter_35 : decode cX5_mendOuter 35 = .ok (.getfield 37, 3) := by decide +kernel
theorem dX5_mendOuter_38 : decode cX5_mendOuter 38 = .ok (.iload_n 1, 1) := by decide +kernel
theorem dX5_mendOuter_39 : decode cX5_mendOuter 39 = .ok (.invokevirtual 160, 3) := by decide +kernel
theorem dX5_mendOuter_42 : decode cX5_mendOuter 42 = .ok (.iload_n 2, 1) := by decide +kernel
theorem dX5_mendOuter_43 : decode cX5_mendOuter 43 = .ok (.iload_n 3, 1) := by decide +kernel
theorem dX5_mendOuter_44 : decode cX5_mendOuter 44 = .ok (.invokevirtual 163, 3) := by decide +kernel
theorem dX5_mendOuter_47 : decode cX5_mendOuter 47 = .ok (.istore 5, 2) := by decide +kernel
theorem dX5_mendOuter_49 : decode cX5_mendOuter 49 = .ok (.iconst 0, 1) := by decide +kernel
theorem dX5_mendOuter_50 : decode cX5_mendOuter 50 = .ok (.istore 6, 2) := by decide +kernel
theorem dX5_mendOuter_52 : decode cX5_mendOuter 52 = .ok (.iload 5, 2) := by decide +kernel
theorem dX5_mendOuter_54 : decode cX5_mendOuter 54 = .ok (.bipush (-2), 2) := by decide +kernel
theorem dX5_mendOuter_56 : decode cX5_mendOuter 56 = .ok (.if_icmp .ne 27, 3) := by decide +kernel
theorem dX5_mendOuter_59 : decode cX5_mendOuter 59 = .ok (.aload_n 0, 1) := by decide +kernel
theorem dX5_mendOuter_60 : decode cX5_mendOuter 60 = .ok (.getfield 34, 3) := by decide +kernel
theorem dX5_mendOuter_63 : decode cX5_mendOuter 63 = .ok (.iconst 2, 1) := by decide +kernel
theorem dX5_mendOuter_64 : decode cX5_mendOuter 64 = .ok (.dup2, 1) := by decide +kernel
theorem dX5_mendOuter_65 : decode cX5_mendOuter 65 = .ok (.iaload, 1) := by decide +kernel
theorem dX5_mendOuter_66 : decode cX5_mendOuter 66 = .ok (.iconst 1, 1) := by decide +kernel
theorem dX5_mendOuter_67 : decode cX5_mendOuter 67 = .ok (.iadd, 1) := by decide +kernel
theorem dX5_mendOuter_68 : decode cX5_mendOuter 68 = .ok (.iastore, 1) := by decide +kernel
theorem dX5_mendOuter_69 : decode cX5_mendOuter 69 = .ok (.iload 4, 2) := by decide +kernel
theorem dX5_mendOuter_71 : decode cX5_mendOuter 71 = .ok (.iconst 4, 1) := by decide +kernel
theorem dX5_mendOuter_72 : decode cX5_mendOuter 72 = .ok (.if_icmp .le 7, 3) := by decide +kernel
theorem dX5_mendOuter_75 : decode cX5_mendOuter 75 = .ok (.iload_n 2, 1) := by decide +kernel
theorem dX5_mendOuter_76 : decode cX5_mendOuter 76 = .ok (.goto 5, 3) := by decide +kernel
theorem dX5_mendOuter_79 : decode cX5_mendOuter 79 = .ok (.ldc 178, 2) := by decide +kernel
theorem dX5_mendOuter_81 : decode cX5_mendOuter 81 = .ok (.istore 6, 2) := by decide +kernel
theorem dX5_mendOuter_83 : decode cX5_mendOuter 83 = .ok (.aload_n 0, 1) := by decide +kernel
theorem dX5_mendOuter_84 : decode cX5_mendOuter 84 = .ok (.getfield 37, 3) := by decide +kernel
theorem dX5_mendOuter_87 : decode cX5_mendOuter 87 = .ok (.iload_n 1, 1) := by decide +kernel
theorem dX5_mendOuter_88 : decode cX5_mendOuter 88 = .ok (.iload 6, 2) := by decide +kernel
theorem dX5_mendOuter_90 : decode cX5_mendOuter 90 = .ok (.invokevirtual 145, 3) := by decide +kernel
theorem dX5_mendOuter_93 : decode cX5_mendOuter 93 = .ok (.iload_n 1, 1) := by decide +kernel
theorem dX5_mendOuter_94 : decode cX5_mendOuter 94 = .ok (.ifCond .lt 18, 3) := by decide +kernel
theorem dX5_mendOuter_97 : decode cX5_mendOuter 97 = .ok (.iload_n 1, 1) := by decide +kernel
theorem dX5_mendOuter_98 : decode cX5_mendOuter 98 = .ok (.sipush 640, 3) := by decide +kernel
theorem dX5_mendOuter_101 : decode cX5_mendOuter 101 = .ok (.if_icmp .ge 11, 3) := by decide +kernel
theorem dX5_mendOuter_104 : decode cX5_mendOuter 104 = .ok (.aload_n 0, 1) := by decide +kernel
theorem dX5_mendOuter_105 : decode cX5_mendOuter 105 = .ok (.getfield 28, 3) := by decide +kernel
theorem dX5_mendOuter_108 : decode cX5_mendOuter 108 = .ok (.iload_n 1, 1) := by decide +kernel
theorem dX5_mendOuter_109 : decode cX5_mendOuter 109 = .ok (.iload 5, 2) := by decide +kernel
theorem dX5_mendOuter_111 : decode cX5_mendOuter 111 = .ok (.iastore, 1) := by decide +kernel
theorem dX5_mendOuter_112 : decode cX5_mendOuter 112 = .ok (.return_, 1) := by decide +kernel
theorem dX5_hasByte_0 : decode cX5_hasByte 0 = .ok (.aload_n 0, 1) := by decide +kernel
theorem dX5_hasByte_1 : decode cX5_hasByte 1 = .ok (.getfield 56, 3) := by decide +kernel
theorem dX5_hasByte_4 : decode cX5_hasByte 4 = .ok (.ifCond .eq 22, 3) := by decide +kernel
theorem dX5_hasByte_7 : decode cX5_hasByte 7 = .ok (.iload_n 1, 1) := by decide +kernel
theorem dX5_hasByte_8 : decode cX5_hasByte 8 = .ok (.ifCond .lt 18, 3) := by decide +kernel
theorem dX5_hasByte_11 : decode cX5_hasByte 11 = .ok (.iload_n 1, 1) := by decide +kernel
theorem dX5_hasByte_12 : decode cX5_hasByte 12 = .ok (.bipush 24, 2) := by decide +kernel
theorem dX5_hasByte_14 : decode cX5_hasByte 14 = .ok (.aload_n 0, 1) := by decide +kernel
theorem dX5_hasByte_15 : decode cX5_hasByte 15 = .ok (.getfield 72, 3) := by decide +kernel
theorem dX5_hasByte_18 : decode cX5_hasByte 18 = .ok (.imul, 1) := by decide +kernel
theorem dX5_hasByte_19 : decode cX5_hasByte 19 = .ok (.if_icmp .ge 7, 3) := by decide +kernel
theorem dX5_hasByte_22 : decode cX5_hasByte 22 = .ok (.iconst 1, 1) := by decide +kernel
theorem dX5_hasByte_23 : decode cX5_hasByte 23 = .ok (.goto 4, 3) := by decide +kernel
theorem dX5_hasByte_26 : decode cX5_hasByte 26 = .ok (.iconst 0, 1) := by decide +kernel
theorem dX5_hasByte_27 : decode cX5_hasByte 27 = .ok (.ireturn, 1) := by decide +kernel
theorem dX5_rowOf_0 : decode cX5_rowOf 0 = .ok (.iload_n 0, 1) := by decide +kernel
theorem dX5_rowOf_1 : decode cX5_rowOf 1 = .ok (.bipush 24, 2) := by decide +kernel
theorem dX5_rowOf_3 : decode cX5_rowOf 3 = .ok (.idiv, 1) := by decide +kernel
theorem dX5_rowOf_4 : decode cX5_rowOf 4 = .ok (.iload_n 0, 1) := by decide +kernel
theorem dX5_rowOf_5 : decode cX5_rowOf 5 = .ok (.bipush 24, 2) := by decide +kernel
theorem dX5_rowOf_7 : decode cX5_rowOf 7 = .ok (.irem, 1) := by decide +kernel
theorem dX5_rowOf_8 : decode cX5_rowOf 8 = .ok (.invokestatic 179, 3) := by decide +kernel
theorem dX5_rowOf_11 : decode cX5_rowOf 11 = .ok (.iadd, 1) := by decide +kernel
theorem dX5_rowOf_12 : decode cX5_rowOf 12 = .ok (.ireturn, 1) := by decide +kernel
theorem dX5_byteOf_0 : decode cX5_byteOf 0 = .ok (.iload_n 1, 1) := by decide +kernel
theorem dX5_byteOf_1 : decode cX5_byteOf 1 = .ok (.invokestatic 182, 3) := by decide +kernel
theorem dX5_byteOf_4 : decode cX5_byteOf 4 = .ok (.istore_n 2, 1) := by decide +kernel
theorem dX5_byteOf_5 : decode cX5_byteOf 5 = .ok (.iload_n 2, 1) := by decide +kernel
theorem dX5_byteOf_6 : decode cX5_byteOf 6 = .ok (.aload_n 0, 1) := by decide +kernel
theorem dX5_byteOf_7 : decode cX5_byteOf 7 = .ok (.getfield 80, 3) := by decide +kernel
theorem dX5_byteOf_10 : decode cX5_byteOf 10 = .ok (.if_icmp .ge 21, 3) := by decide +kernel
theorem dX5_byteOf_13 : decode cX5_byteOf 13 = .ok (.aload_n 0, 1) := by decide +kernel
theorem dX5_byteOf_14 : decode cX5_byteOf 14 = .ok (.getfield 37, 3) := by decide +kernel
theorem dX5_byteOf_17 : decode cX5_byteOf 17 = .ok (.iload_n 2, 1) := by decide +kernel
theorem dX5_byteOf_18 : decode cX5_byteOf 18 = .ok (.iload_n 1, 1) := by decide +kernel
theorem dX5_byteOf_19 : decode cX5_byteOf 19 = .ok (.bipush 24, 2) := by decide +kernel
theorem dX5_byteOf_21 : decode cX5_byteOf 21 = .ok (.irem, 1) := by decide +kernel
theorem dX5_byteOf_22 : decode cX5_byteOf 22 = .ok (.invokestatic 185, 3) := by decide +kernel
theorem dX5_byteOf_25 : decode cX5_byteOf 25 = .ok (.invokevirtual 148, 3) := by decide +kernel
theorem dX5_byteOf_28 : decode cX5_byteOf 28 = .ok (.goto 4, 3) := by decide +kernel
theorem dX5_byteOf_31 : decode cX5_byteOf 31 = .ok (.iconst 0, 1) := by decide +kernel
theorem dX5_byteOf_32 : decode cX5_byteOf 32 = .ok (.ireturn, 1) := by decide +kernel
theorem dX5_sureOf_0 : decode cX5_sureOf 0 = .ok (.iload_n 1, 1) := by decide +kernel
theorem dX5_sureOf_1 : decode cX5_sureOf 1 = .ok (.invokestatic 182, 3) := by decide +kernel
theorem dX5_sureOf_4 : decode cX5_sureOf 4 = .ok (.istore_n 2, 1) := by decide +kernel
theorem dX5_sureOf_5 : decode cX5_sureOf 5 = .ok (.iload_n 2, 1) := by decide +kernel
theorem dX5_sureOf_6 : decode cX5_sureOf 6 = .ok (.aload_n 0, 1) := by decide +kernel
theorem dX5_sureOf_7 : decode cX5_sureOf 7 = .ok (.getfield 80, 3) := by decide +kernel
theorem dX5_sureOf_10 : decode cX5_sureOf 10 = .ok (.if_icmp .ge 25, 3) := by decide +kernel
theorem dX5_sureOf_13 : decode cX5_sureOf 13 = .ok (.aload_n 0, 1) := by decide +kernel
theorem dX5_sureOf_14 : decode cX5_sureOf 14 = .ok (.getfield 37, 3) := by decide +kernel
theorem dX5_sureOf_17 : decode cX5_sureOf 17 = .ok (.iload_n 2, 1) := by decide +kernel
theorem dX5_sureOf_18 : decode cX5_sureOf 18 = .ok (.iload_n 1, 1) := by decide +kernel
theorem dX5_sureOf_19 : decode cX5_sureOf 19 = .ok (.bipush 24, 2) := by decide +kernel
theorem dX5_sureOf_21 : decode cX5_sureOf 21 = .ok (.irem, 1) := by decide +kernel
theorem dX5_sureOf_22 : decode cX5_sureOf 22 = .ok (.invokestatic 185, 3) := by decide +kernel
theorem dX5_sureOf_25 : decode cX5_sureOf 25 = .ok (.invokevirtual 169, 3) := by decide +kernel
theorem dX5_sureOf_28 : decode cX5_sureOf 28 = .ok (.ifCond .ne 7, 3) := by decide +kernel
theorem dX5_sureOf_31 : decode cX5_sureOf 31 = .ok (.iconst 1, 1) := by decide +kernel
theorem dX5_sureOf_32 : decode cX5_sureOf 32 = .ok (.goto 4, 3) := by decide +kernel
theorem dX5_sureOf_35 : decode cX5_sureOf 35 = .ok (.iconst 0, 1) := by decide +kernel
theorem dX5_sureOf_36 : decode cX5_sureOf 36 = .ok (.ireturn, 1) := by decide +kernel
theorem dX5_countUnsure_0 : decode cX5_countUnsure 0 = .ok (.iconst 0, 1) := by decide +kernel
theorem dX5_countUnsure_1 : decode cX5_countUnsure 1 = .ok (.istore_n 1, 1) := by decide +kernel
theorem dX5_countUnsure_2 : decode cX5_countUnsure 2 = .ok (.iload_n 1, 1) := by decide +kernel
theorem dX5_countUnsure_3 : decode cX5_countUnsure 3 = .ok (.bipush 24, 2) := by decide +kernel
theorem dX5_countUnsure_5 : decode cX5_countUnsure 5 = .ok (.aload_n 0, 1) := by decide +kernel
theorem dX5_countUnsure_6 : decode cX5_countUnsure 6 = .ok (.getfield 72, 3) := by decide +kernel
theorem dX5_countUnsure_9 : decode cX5_countUnsure 9 = .ok (.imul, 1) := by decide +kernel
theorem dX5_countUnsure_10 : decode cX5_countUnsure 10 = .ok (.if_icmp .ge 27, 3) := by decide +kernel
theorem dX5_countUnsure_13 : decode cX5_countUnsure 13 = .ok (.aload_n 0, 1) := by decide +kernel
theorem dX5_countUnsure_14 : decode cX5_countUnsure 14 = .ok (.iload_n 1, 1) := by decide +kernel
theorem dX5_countUnsure_15 : decode cX5_countUnsure 15 = .ok (.invokevirtual 188, 3) := by decide +kernel
theorem dX5_countUnsure_18 : decode cX5_countUnsure 18 = .ok (.ifCond .ne 13, 3) := by decide +kernel
theorem dX5_countUnsure_21 : decode cX5_countUnsure 21 = .ok (.aload_n 0, 1) := by decide +kernel
theorem dX5_countUnsure_22 : decode cX5_countUnsure 22 = .ok (.getfield 34, 3) := by decide +kernel
theorem dX5_countUnsure_25 : decode cX5_countUnsure 25 = .ok (.iconst 3, 1) := by decide +kernel
theorem dX5_countUnsure_26 : decode cX5_countUnsure 26 = .ok (.dup2, 1) := by decide +kernel
theorem dX5_countUnsure_27 : decode cX5_countUnsure 27 = .ok (.iaload, 1) := by decide +kernel
theorem dX5_countUnsure_28 : decode cX5_countUnsure 28 = .ok (.iconst 1, 1) := by decide +kernel
theorem dX5_countUnsure_29 : decode cX5_countUnsure 29 = .ok (.iadd, 1) := by decide +kernel
theorem dX5_countUnsure_30 : decode cX5_countUnsure 30 = .ok (.iastore, 1) := by decide +kernel
theorem dX5_countUnsure_31 : decode cX5_countUnsure 31 = .ok (.iinc 1 1, 3) := by decide +kernel
theorem dX5_countUnsure_34 : decode cX5_countUnsure 34 = .ok (.goto (-32), 3) := by decide +kernel
theorem dX5_countUnsure_37 : decode cX5_countUnsure 37 = .ok (.return_, 1) := by decide +kernel
theorem dX5_highByteOf_0 : decode cX5_highByteOf 0 = .ok (.iconst 4, 1) := by decide +kernel
theorem dX5_highByteOf_1 : decode cX5_highByteOf 1 = .ok (.iload_n 0, 1) := by decide +kernel
theorem dX5_highByteOf_2 : decode cX5_highByteOf 2 = .ok (.imul, 1) := by decide +kernel
theorem dX5_highByteOf_3 : decode cX5_highByteOf 3 = .ok (.iconst 2, 1) := by decide +kernel
theorem dX5_highByteOf_4 : decode cX5_highByteOf 4 = .ok (.iload_n 1, 1) := by decide +kernel
theorem dX5_highByteOf_5 : decode cX5_highByteOf 5 = .ok (.imul, 1) := by decide +kernel
theorem dX5_highByteOf_6 : decode cX5_highByteOf 6 = .ok (.iadd, 1) := by decide +kernel
theorem dX5_highByteOf_7 : decode cX5_highByteOf 7 = .ok (.ireturn, 1) := by decide +kernel
theorem dX5_isSample_0 : decode cX5_isSample 0 = .ok (.iload_n 1, 1) := by decide +kernel
theorem dX5_isSample_1 : decode cX5_isSample 1 = .ok (.ifCond .lt 25, 3) := by decide +kernel
theorem dX5_isSample_4 : decode cX5_isSample 4 = .ok (.iload_n 1, 1) := by decide +kernel
theorem dX5_isSample_5 : decode cX5_isSample 5 = .ok (.bipush 6, 2) := by decide +kernel
theorem dX5_isSample_7 : decode cX5_isSample 7 = .ok (.aload_n 0, 1) := by decide +kernel
theorem dX5_isSample_8 : decode cX5_isSample 8 = .ok (.getfield 72, 3) := by decide +kernel
theorem dX5_isSample_11 : decode cX5_isSample 11 = .ok (.imul, 1) := by decide +kernel
theorem dX5_isSample_12 : decode cX5_isSample 12 = .ok (.if_icmp .ge 14, 3) := by decide +kernel
theorem dX5_isSample_15 : decode cX5_isSample 15 = .ok (.iload_n 1, 1) := by decide +kernel
theorem dX5_isSample_16 : decode cX5_isSample 16 = .ok (.sipush 2928, 3) := by decide +kernel
theorem dX5_isSample_19 : decode cX5_isSample 19 = .ok (.if_icmp .ge 7, 3) := by decide +kernel
theorem dX5_isSample_22 : decode cX5_isSample 22 = .ok (.iconst 1, 1) := by decide +kernel
theorem dX5_isSample_23 : decode cX5_isSample 23 = .ok (.goto 4, 3) := by decide +kernel
theorem dX5_isSample_26 : decode cX5_isSample 26 = .ok (.iconst 0, 1) := by decide +kernel
theorem dX5_isSample_27 : decode cX5_isSample 27 = .ok (.ireturn, 1) := by decide +kernel
theorem dX5_sampleSure_0 : decode cX5_sampleSure 0 = .ok (.iload_n 1, 1) := by decide +kernel
theorem dX5_sampleSure_1 : decode cX5_sampleSure 1 = .ok (.iload_n 2, 1) := by decide +kernel
theorem dX5_sampleSure_2 : decode cX5_sampleSure 2 = .ok (.invokestatic 191, 3) := by decide +kernel
theorem dX5_sampleSure_5 : decode cX5_sampleSure 5 = .ok (.istore_n 3, 1) := by decide +kernel
theorem dX5_sampleSure_6 : decode cX5_sampleSure 6 = .ok (.aload_n 0, 1) := by decide +kernel
theorem dX5_sampleSure_7 : decode cX5_sampleSure 7 = .ok (.iload_n 1, 1) := by decide +kernel
theorem dX5_sampleSure_8 : decode cX5_sampleSure 8 = .ok (.invokevirtual 194, 3) := by decide +kernel
theorem dX5_sampleSure_11 : decode cX5_sampleSure 11 = .ok (.ifCond .eq 25, 3) := by decide +kernel
theorem dX5_sampleSure_14 : decode cX5_sampleSure 14 = .ok (.aload_n 0, 1) := by decide +kernel
theorem dX5_sampleSure_15 : decode cX5_sampleSure 15 = .ok (.iload_n 3, 1) := by decide +kernel
theorem dX5_sampleSure_16 : decode cX5_sampleSure 16 = .ok (.invokevirtual 188, 3) := by decide +kernel
theorem dX5_sampleSure_19 : decode cX5_sampleSure 19 = .ok (.ifCond .eq 17, 3) := by decide +kernel
theorem dX5_sampleSure_22 : decode cX5_sampleSure 22 = .ok (.aload_n 0, 1) := by decide +kernel
theorem dX5_sampleSure_23 : decode cX5_sampleSure 23 = .ok (.iload_n 3, 1) := by decide +kernel
theorem dX5_sampleSure_24 : decode cX5_sampleSure 24 = .ok (.iconst 1, 1) := by decide +kernel
theorem dX5_sampleSure_25 : decode cX5_sampleSure 25 = .ok (.iadd, 1) := by decide +kernel
theorem dX5_sampleSure_26 : decode cX5_sampleSure 26 = .ok (.invokevirtual 188, 3) := by decide +kernel
theorem dX5_sampleSure_29 : decode cX5_sampleSure 29 = .ok (.ifCond .eq 7, 3) := by decide +kernel
theorem dX5_sampleSure_32 : decode cX5_sampleSure 32 = .ok (.iconst 1, 1) := by decide +kernel
theorem dX5_sampleSure_33 : decode cX5_sampleSure 33 = .ok (.goto 4, 3) := by decide +kernel
theorem dX5_sampleSure_36 : decode cX5_sampleSure 36 = .ok (.iconst 0, 1) := by decide +kernel
theorem dX5_sampleSure_37 : decode cX5_sampleSure 37 = .ok (.ireturn, 1) := by decide +kernel
theorem dX5_sampleOf_0 : decode cX5_sampleOf 0 = .ok (.iload_n 1, 1) := by decide +kernel
theorem dX5_sampleOf_1 : decode cX5_sampleOf 1 = .ok (.iload_n 2, 1) := by decide +kernel
theorem dX5_sampleOf_2 : decode cX5_sampleOf 2 = .ok (.invokestatic 191, 3) := by decide +kernel
theorem dX5_sampleOf_5 : decode cX5_sampleOf 5 = .ok (.istore_n 3, 1) := by decide +kernel
theorem dX5_sampleOf_6 : decode cX5_sampleOf 6 = .ok (.aload_n 0, 1) := by decide +kernel
theorem dX5_sampleOf_7 : decode cX5_sampleOf 7 = .ok (.iload_n 3, 1) := by decide +kernel
theorem dX5_sampleOf_8 : decode cX5_sampleOf 8 = .ok (.invokevirtual 197, 3) := by decide +kernel
theorem dX5_sampleOf_11 : decode cX5_sampleOf 11 = .ok (.bipush 8, 2) := by decide +kernel
theorem dX5_sampleOf_13 : decode cX5_sampleOf 13 = .ok (.ishl, 1) := by decide +kernel
theorem dX5_sampleOf_14 : decode cX5_sampleOf 14 = .ok (.aload_n 0, 1) := by decide +kernel
theorem dX5_sampleOf_15 : decode cX5_sampleOf 15 = .ok (.iload_n 3, 1) := by decide +kernel
theorem dX5_sampleOf_16 : decode cX5_sampleOf 16 = .ok (.iconst 1, 1) := by decide +kernel
theorem dX5_sampleOf_17 : decode cX5_sampleOf 17 = .ok (.iadd, 1) := by decide +kernel
theorem dX5_sampleOf_18 : decode cX5_sampleOf 18 = .ok (.invokevirtual 197, 3) := by decide +kernel
theorem dX5_sampleOf_21 : decode cX5_sampleOf 21 = .ok (.ior, 1) := by decide +kernel
theorem dX5_sampleOf_22 : decode cX5_sampleOf 22 = .ok (.i2s, 1) := by decide +kernel
theorem dX5_sampleOf_23 : decode cX5_sampleOf 23 = .ok (.ireturn, 1) := by decide +kernel
theorem dX5_hide_0 : decode cX5_hide 0 = .ok (.iconst 0, 1) := by decide +kernel
theorem dX5_hide_1 : decode cX5_hide 1 = .ok (.istore_n 2, 1) := by decide +kernel
theorem dX5_hide_2 : decode cX5_hide 2 = .ok (.iconst 0, 1) := by decide +kernel
theorem dX5_hide_3 : decode cX5_hide 3 = .ok (.istore_n 3, 1) := by decide +kernel
theorem dX5_hide_4 : decode cX5_hide 4 = .ok (.iload_n 3, 1) := by decide +kernel
theorem dX5_hide_5 : decode cX5_hide 5 = .ok (.bipush 6, 2) := by decide +kernel
theorem dX5_hide_7 : decode cX5_hide 7 = .ok (.aload_n 0, 1) := by decide +kernel
theorem dX5_hide_8 : decode cX5_hide 8 = .ok (.getfield 72, 3) := by decide +kernel
theorem dX5_hide_11 : decode cX5_hide 11 = .ok (.imul, 1) := by decide +kernel
theorem dX5_hide_12 : decode cX5_hide 12 = .ok (.if_icmp .ge 84, 3) := by decide +kernel
theorem dX5_hide_15 : decode cX5_hide 15 = .ok (.iload_n 3, 1) := by decide +kernel
theorem dX5_hide_16 : decode cX5_hide 16 = .ok (.sipush 2928, 3) := by decide +kernel
theorem dX5_hide_19 : decode cX5_hide 19 = .ok (.if_icmp .ge 77, 3) := by decide +kernel
theorem dX5_hide_22 : decode cX5_hide 22 = .ok (.aload_n 0, 1) := by decide +kernel
theorem dX5_hide_23 : decode cX5_hide 23 = .ok (.iload_n 3, 1) := by decide +kernel
theorem dX5_hide_24 : decode cX5_hide 24 = .ok (.iload_n 1, 1) := by decide +kernel
theorem dX5_hide_25 : decode cX5_hide 25 = .ok (.invokevirtual 198, 3) := by decide +kernel
theorem dX5_hide_28 : decode cX5_hide 28 = .ok (.ifCond .eq 13, 3) := by decide +kernel
theorem dX5_hide_31 : decode cX5_hide 31 = .ok (.aload_n 0, 1) := by decide +kernel
theorem dX5_hide_32 : decode cX5_hide 32 = .ok (.iload_n 3, 1) := by decide +kernel
theorem dX5_hide_33 : decode cX5_hide 33 = .ok (.iload_n 1, 1) := by decide +kernel
theorem dX5_hide_34 : decode cX5_hide 34 = .ok (.invokevirtual 201, 3) := by decide +kernel
theorem dX5_hide_37 : decode cX5_hide 37 = .ok (.istore_n 2, 1) := by decide +kernel
theorem dX5_hide_38 : decode cX5_hide 38 = .ok (.goto 41, 3) := by decide +kernel
theorem dX5_hide_41 : decode cX5_hide 41 = .ok (.aload_n 0, 1) := by decide +kernel
theorem dX5_hide_42 : decode cX5_hide 42 = .ok (.getfield 34, 3) := by decide +kernel
theorem dX5_hide_45 : decode cX5_hide 45 = .ok (.iconst 4, 1) := by decide +kernel
theorem dX5_hide_46 : decode cX5_hide 46 = .ok (.dup2, 1) := by decide +kernel
theorem dX5_hide_47 : decode cX5_hide 47 = .ok (.iaload, 1) := by decide +kernel
theorem dX5_hide_48 : decode cX5_hide 48 = .ok (.iconst 1, 1) := by decide +kernel
theorem dX5_hide_49 : decode cX5_hide 49 = .ok (.iadd, 1) := by decide +kernel
theorem dX5_hide_50 : decode cX5_hide 50 = .ok (.iastore, 1) := by decide +kernel
theorem dX5_hide_51 : decode cX5_hide 51 = .ok (.aload_n 0, 1) := by decide +kernel
theorem dX5_hide_52 : decode cX5_hide 52 = .ok (.iload_n 3, 1) := by decide +kernel
theorem dX5_hide_53 : decode cX5_hide 53 = .ok (.iconst 1, 1) := by decide +kernel
theorem dX5_hide_54 : decode cX5_hide 54 = .ok (.iadd, 1) := by decide +kernel
theorem dX5_hide_55 : decode cX5_hide 55 = .ok (.iload_n 1, 1) := by decide +kernel
theorem dX5_hide_56 : decode cX5_hide 56 = .ok (.invokevirtual 198, 3) := by decide +kernel
theorem dX5_hide_59 : decode cX5_hide 59 = .ok (.ifCond .eq 18, 3) := by decide +kernel
theorem dX5_hide_62 : decode cX5_hide 62 = .ok (.iload_n 2, 1) := by decide +kernel
theorem dX5_hide_63 : decode cX5_hide 63 = .ok (.aload_n 0, 1) := by decide +kernel
theorem dX5_hide_64 : decode cX5_hide 64 = .ok (.iload_n 3, 1) := by decide +kernel
theorem dX5_hide_65 : decode cX5_hide 65 = .ok (.iconst 1, 1) := by decide +kernel
theorem dX5_hide_66 : decode cX5_hide 66 = .ok (.iadd, 1) := by decide +kernel
theorem dX5_hide_67 : decode cX5_hide 67 = .ok (.iload_n 1, 1) := by decide +kernel
theorem dX5_hide_68 : decode cX5_hide 68 = .ok (.invokevirtual 201, 3) := by decide +kernel
theorem dX5_hide_71 : decode cX5_hide 71 = .ok (.iadd, 1) := by decide +kernel
theorem dX5_hide_72 : decode cX5_hide 72 = .ok (.iconst 1, 1) := by decide +kernel
theorem dX5_hide_73 : decode cX5_hide 73 = .ok (.ishr, 1) := by decide +kernel
theorem dX5_hide_74 : decode cX5_hide 74 = .ok (.goto 4, 3) := by decide +kernel
theorem dX5_hide_77 : decode cX5_hide 77 = .ok (.iload_n 2, 1) := by decide +kernel
theorem dX5_hide_78 : decode cX5_hide 78 = .ok (.istore_n 2, 1) := by decide +kernel
theorem dX5_hide_79 : decode cX5_hide 79 = .ok (.aload_n 0, 1) := by decide +kernel
theorem dX5_hide_80 : decode cX5_hide 80 = .ok (.getfield 31, 3) := by decide +kernel
theorem dX5_hide_83 : decode cX5_hide 83 = .ok (.iconst 2, 1) := by decide +kernel
theorem dX5_hide_84 : decode cX5_hide 84 = .ok (.iload_n 3, 1) := by decide +kernel
theorem dX5_hide_85 : decode cX5_hide 85 = .ok (.imul, 1) := by decide +kernel
theorem dX5_hide_86 : decode cX5_hide 86 = .ok (.iload_n 1, 1) := by decide +kernel
theorem dX5_hide_87 : decode cX5_hide 87 = .ok (.iadd, 1) := by decide +kernel
theorem dX5_hide_88 : decode cX5_hide 88 = .ok (.iload_n 2, 1) := by decide +kernel
theorem dX5_hide_89 : decode cX5_hide 89 = .ok (.iastore, 1) := by decide +kernel
theorem dX5_hide_90 : decode cX5_hide 90 = .ok (.iinc 3 1, 3) := by decide +kernel
theorem dX5_hide_93 : decode cX5_hide 93 = .ok (.goto (-89), 3) := by decide +kernel
theorem dX5_hide_96 : decode cX5_hide 96 = .ok (.return_, 1) := by decide +kernel
theorem dX5_sampleHeard_0 : decode cX5_sampleHeard 0 = .ok (.aload_n 0, 1) := by decide +kernel
theorem dX5_sampleHeard_1 : decode cX5_sampleHeard 1 = .ok (.getfield 56, 3) := by decide +kernel
theorem dX5_sampleHeard_4 : decode cX5_sampleHeard 4 = .ok (.ifCond .eq 32, 3) := by decide +kernel
theorem dX5_sampleHeard_7 : decode cX5_sampleHeard 7 = .ok (.aload_n 0, 1) := by decide +kernel
theorem dX5_sampleHeard_8 : decode cX5_sampleHeard 8 = .ok (.iload_n 1, 1) := by decide +kernel
theorem dX5_sampleHeard_9 : decode cX5_sampleHeard 9 = .ok (.invokevirtual 194, 3) := by decide +kernel
theorem dX5_sampleHeard_12 : decode cX5_sampleHeard 12 = .ok (.ifCond .eq 24, 3) := by decide +kernel
theorem dX5_sampleHeard_15 : decode cX5_sampleHeard 15 = .ok (.aload_n 0, 1) := by decide +kernel
theorem dX5_sampleHeard_16 : decode cX5_sampleHeard 16 = .ok (.getfield 31, 3) := by decide +kernel
theorem dX5_sampleHeard_19 : decode cX5_sampleHeard 19 = .ok (.iconst 2, 1) := by decide +kernel
theorem dX5_sampleHeard_20 : decode cX5_sampleHeard 20 = .ok (.iload_n 1, 1) := by decide +kernel
theorem dX5_sampleHeard_21 : decode cX5_sampleHeard 21 = .ok (.imul, 1) := by decide +kernel
theorem dX5_sampleHeard_22 : decode cX5_sampleHeard 22 = .ok (.iload_n 2, 1) := by decide +kernel
theorem dX5_sampleHeard_23 : decode cX5_sampleHeard 23 = .ok (.ifCond .eq 7, 3) := by decide +kernel
theorem dX5_sampleHeard_26 : decode cX5_sampleHeard 26 = .ok (.iconst 1, 1) := by decide +kernel
theorem dX5_sampleHeard_27 : decode cX5_sampleHeard 27 = .ok (.goto 4, 3) := by decide +kernel
theorem dX5_sampleHeard_30 : decode cX5_sampleHeard 30 = .ok (.iconst 0, 1) := by decide +kernel
theorem dX5_sampleHeard_31 : decode cX5_sampleHeard 31 = .ok (.iadd, 1) := by decide +kernel
theorem dX5_sampleHeard_32 : decode cX5_sampleHeard 32 = .ok (.iaload, 1) := by decide +kernel
theorem dX5_sampleHeard_33 : decode cX5_sampleHeard 33 = .ok (.goto 5, 3) := by decide +kernel
theorem dX5_sampleHeard_36 : decode cX5_sampleHeard 36 = .ok (.ldc 204, 2) := by decide +kernel
theorem dX5_sampleHeard_38 : decode cX5_sampleHeard 38 = .ok (.ireturn, 1) := by decide +kernel
theorem dX5_wasFound_0 : decode cX5_wasFound 0 = .ok (.aload_n 0, 1) := by decide +kernel
theorem dX5_wasFound_1 : decode cX5_wasFound 1 = .ok (.getfield 56, 3) := by decide +kernel
theorem dX5_wasFound_4 : decode cX5_wasFound 4 = .ok (.ifCond .eq 26, 3) := by decide +kernel
theorem dX5_wasFound_7 : decode cX5_wasFound 7 = .ok (.iload_n 1, 1) := by decide +kernel
theorem dX5_wasFound_8 : decode cX5_wasFound 8 = .ok (.ifCond .lt 22, 3) := by decide +kernel
theorem dX5_wasFound_11 : decode cX5_wasFound 11 = .ok (.iload_n 1, 1) := by decide +kernel
theorem dX5_wasFound_12 : decode cX5_wasFound 12 = .ok (.aload_n 0, 1) := by decide +kernel
theorem dX5_wasFound_13 : decode cX5_wasFound 13 = .ok (.getfield 80, 3) := by decide +kernel
theorem dX5_wasFound_16 : decode cX5_wasFound 16 = .ok (.if_icmp .ge 14, 3) := by decide +kernel
theorem dX5_wasFound_19 : decode cX5_wasFound 19 = .ok (.iload_n 1, 1) := by decide +kernel
theorem dX5_wasFound_20 : decode cX5_wasFound 20 = .ok (.sipush 640, 3) := by decide +kernel
theorem dX5_wasFound_23 : decode cX5_wasFound 23 = .ok (.if_icmp .ge 7, 3) := by decide +kernel
theorem dX5_wasFound_26 : decode cX5_wasFound 26 = .ok (.iconst 1, 1) := by decide +kernel
theorem dX5_wasFound_27 : decode cX5_wasFound 27 = .ok (.goto 4, 3) := by decide +kernel
theorem dX5_wasFound_30 : decode cX5_wasFound 30 = .ok (.iconst 0, 1) := by decide +kernel
theorem dX5_wasFound_31 : decode cX5_wasFound 31 = .ok (.ireturn, 1) := by decide +kernel
theorem dX5_innerFate_0 : decode cX5_innerFate 0 = .ok (.aload_n 0, 1) := by decide +kernel
theorem dX5_innerFate_1 : decode cX5_innerFate 1 = .ok (.iload_n 1, 1) := by decide +kernel
theorem dX5_innerFate_2 : decode cX5_innerFate 2 = .ok (.invokevirtual 205, 3) := by decide +kernel
theorem dX5_innerFate_5 : decode cX5_innerFate 5 = .ok (.ifCond .eq 12, 3) := by decide +kernel
theorem dX5_innerFate_8 : decode cX5_innerFate 8 = .ok (.aload_n 0, 1) := by decide +kernel
theorem dX5_innerFate_9 : decode cX5_innerFate 9 = .ok (.getfield 25, 3) := by decide +kernel
theorem dX5_innerFate_12 : decode cX5_innerFate 12 = .ok (.iload_n 1, 1) := by decide +kernel
theorem dX5_innerFate_13 : decode cX5_innerFate 13 = .ok (.iaload, 1) := by decide +kernel
theorem dX5_innerFate_14 : decode cX5_innerFate 14 = .ok (.goto 4, 3) := by decide +kernel
theorem dX5_innerFate_17 : decode cX5_innerFate 17 = .ok (.iconst (-1), 1) := by decide +kernel
theorem dX5_innerFate_18 : decode cX5_innerFate 18 = .ok (.ireturn, 1) := by decide +kernel
theorem dX5_outerFate_0 : decode cX5_outerFate 0 = .ok (.aload_n 0, 1) := by decide +kernel
theorem dX5_outerFate_1 : decode cX5_outerFate 1 = .ok (.iload_n 1, 1) := by decide +kernel
theorem dX5_outerFate_2 : decode cX5_outerFate 2 = .ok (.invokevirtual 205, 3) := by decide +kernel
theorem dX5_outerFate_5 : decode cX5_outerFate 5 = .ok (.ifCond .eq 12, 3) := by decide +kernel
theorem dX5_outerFate_8 : decode cX5_outerFate 8 = .ok (.aload_n 0, 1) := by decide +kernel
theorem dX5_outerFate_9 : decode cX5_outerFate 9 = .ok (.getfield 28, 3) := by decide +kernel
theorem dX5_outerFate_12 : decode cX5_outerFate 12 = .ok (.iload_n 1, 1) := by decide +kernel
theorem dX5_outerFate_13 : decode cX5_outerFate 13 = .ok (.iaload, 1) := by decide +kernel
theorem dX5_outerFate_14 : decode cX5_outerFate 14 = .ok (.goto 4, 3) := by decide +kernel
theorem dX5_outerFate_17 : decode cX5_outerFate 17 = .ok (.iconst (-1), 1) := by decide +kernel
theorem dX5_outerFate_18 : decode cX5_outerFate 18 = .ok (.ireturn, 1) := by decide +kernel
theorem dX5_tally_0 : decode cX5_tally 0 = .ok (.aload_n 0, 1) := by decide +kernel
theorem dX5_tally_1 : decode cX5_tally 1 = .ok (.getfield 56, 3) := by decide +kernel
theorem dX5_tally_4 : decode cX5_tally 4 = .ok (.ifCond .eq 25, 3) := by decide +kernel
theorem dX5_tally_7 : decode cX5_tally 7 = .ok (.iload_n 1, 1) := by decide +kernel
theorem dX5_tally_8 : decode cX5_tally 8 = .ok (.ifCond .lt 21, 3) := by decide +kernel
theorem dX5_tally_11 : decode cX5_tally 11 = .ok (.iload_n 1, 1) := by decide +kernel
theorem dX5_tally_12 : decode cX5_tally 12 = .ok (.aload_n 0, 1) := by decide +kernel
theorem dX5_tally_13 : decode cX5_tally 13 = .ok (.getfield 34, 3) := by decide +kernel
theorem dX5_tally_16 : decode cX5_tally 16 = .ok (.arraylength, 1) := by decide +kernel
theorem dX5_tally_17 : decode cX5_tally 17 = .ok (.if_icmp .ge 12, 3) := by decide +kernel
theorem dX5_tally_20 : decode cX5_tally 20 = .ok (.aload_n 0, 1) := by decide +kernel
theorem dX5_tally_21 : decode cX5_tally 21 = .ok (.getfield 34, 3) := by decide +kernel
theorem dX5_tally_24 : decode cX5_tally 24 = .ok (.iload_n 1, 1) := by decide +kernel
theorem dX5_tally_25 : decode cX5_tally 25 = .ok (.iaload, 1) := by decide +kernel
theorem dX5_tally_26 : decode cX5_tally 26 = .ok (.goto 4, 3) := by decide +kernel
theorem dX5_tally_29 : decode cX5_tally 29 = .ok (.iconst (-1), 1) := by decide +kernel
theorem dX5_tally_30 : decode cX5_tally 30 = .ok (.ireturn, 1) := by decide +kernel
theorem dX5_beginsSection_0 : decode cX5_beginsSection 0 = .ok (.aload_n 0, 1) := by decide +kernel
theorem dX5_beginsSection_1 : decode cX5_beginsSection 1 = .ok (.iload_n 1, 1) := by decide +kernel
theorem dX5_beginsSection_2 : decode cX5_beginsSection 2 = .ok (.invokevirtual 205, 3) := by decide +kernel
theorem dX5_beginsSection_5 : decode cX5_beginsSection 5 = .ok (.ifCond .eq 42, 3) := by decide +kernel
theorem dX5_beginsSection_8 : decode cX5_beginsSection 8 = .ok (.aload_n 0, 1) := by decide +kernel
theorem dX5_beginsSection_9 : decode cX5_beginsSection 9 = .ok (.iload_n 1, 1) := by decide +kernel
theorem dX5_beginsSection_10 : decode cX5_beginsSection 10 = .ok (.iconst 1, 1) := by decide +kernel
theorem dX5_beginsSection_11 : decode cX5_beginsSection 11 = .ok (.iadd, 1) := by decide +kernel
theorem dX5_beginsSection_12 : decode cX5_beginsSection 12 = .ok (.invokevirtual 205, 3) := by decide +kernel
theorem dX5_beginsSection_15 : decode cX5_beginsSection 15 = .ok (.ifCond .eq 32, 3) := by decide +kernel
theorem dX5_beginsSection_18 : decode cX5_beginsSection 18 = .ok (.aload_n 0, 1) := by decide +kernel
theorem dX5_beginsSection_19 : decode cX5_beginsSection 19 = .ok (.getfield 22, 3) := by decide +kernel
theorem dX5_beginsSection_22 : decode cX5_beginsSection 22 = .ok (.iload_n 1, 1) := by decide +kernel
theorem dX5_beginsSection_23 : decode cX5_beginsSection 23 = .ok (.iaload, 1) := by decide +kernel
theorem dX5_beginsSection_24 : decode cX5_beginsSection 24 = .ok (.sipush 2049, 3) := by decide +kernel
theorem dX5_beginsSection_27 : decode cX5_beginsSection 27 = .ok (.if_icmp .ne 20, 3) := by decide +kernel
theorem dX5_beginsSection_30 : decode cX5_beginsSection 30 = .ok (.aload_n 0, 1) := by decide +kernel
theorem dX5_beginsSection_31 : decode cX5_beginsSection 31 = .ok (.getfield 22, 3) := by decide +kernel
theorem dX5_beginsSection_34 : decode cX5_beginsSection 34 = .ok (.iload_n 1, 1) := by decide +kernel
theorem dX5_beginsSection_35 : decode cX5_beginsSection 35 = .ok (.iconst 1, 1) := by decide +kernel
theorem dX5_beginsSection_36 : decode cX5_beginsSection 36 = .ok (.iadd, 1) := by decide +kernel
theorem dX5_beginsSection_37 : decode cX5_beginsSection 37 = .ok (.iaload, 1) := by decide +kernel
theorem dX5_beginsSection_38 : decode cX5_beginsSection 38 = .ok (.bipush 18, 2) := by decide +kernel
theorem dX5_beginsSection_40 : decode cX5_beginsSection 40 = .ok (.if_icmp .ne 7, 3) := by decide +kernel
theorem dX5_beginsSection_43 : decode cX5_beginsSection 43 = .ok (.iconst 1, 1) := by decide +kernel
theorem dX5_beginsSection_44 : decode cX5_beginsSection 44 = .ok (.goto 4, 3) := by decide +kernel
theorem dX5_beginsSection_47 : decode cX5_beginsSection 47 = .ok (.iconst 0, 1) := by decide +kernel
theorem dX5_beginsSection_48 : decode cX5_beginsSection 48 = .ok (.ireturn, 1) := by decide +kernel
theorem dX5_countSections_0 : decode cX5_countSections 0 = .ok (.iconst 0, 1) := by decide +kernel
theorem dX5_countSections_1 : decode cX5_countSections 1 = .ok (.istore_n 1, 1) := by decide +kernel
theorem dX5_countSections_2 : decode cX5_countSections 2 = .ok (.iconst 0, 1) := by decide +kernel
theorem dX5_countSections_3 : decode cX5_countSections 3 = .ok (.istore_n 2, 1) := by decide +kernel
theorem dX5_countSections_4 : decode cX5_countSections 4 = .ok (.iload_n 2, 1) := by decide +kernel
theorem dX5_countSections_5 : decode cX5_countSections 5 = .ok (.aload_n 0, 1) := by decide +kernel
theorem dX5_countSections_6 : decode cX5_countSections 6 = .ok (.getfield 80, 3) := by decide +kernel
theorem dX5_countSections_9 : decode cX5_countSections 9 = .ok (.if_icmp .ge 20, 3) := by decide +kernel
theorem dX5_countSections_12 : decode cX5_countSections 12 = .ok (.aload_n 0, 1) := by decide +kernel
theorem dX5_countSections_13 : decode cX5_countSections 13 = .ok (.iload_n 2, 1) := by decide +kernel
theorem dX5_countSections_14 : decode cX5_countSections 14 = .ok (.invokevirtual 208, 3) := by decide +kernel
theorem dX5_countSections_17 : decode cX5_countSections 17 = .ok (.ifCond .eq 6, 3) := by decide +kernel
theorem dX5_countSections_20 : decode cX5_countSections 20 = .ok (.iinc 1 1, 3) := by decide +kernel
theorem dX5_countSections_23 : decode cX5_countSections 23 = .ok (.iinc 2 1, 3) := by decide +kernel
theorem dX5_countSections_26 : decode cX5_countSections 26 = .ok (.goto (-22), 3) := by decide +kernel
theorem dX5_countSections_29 : decode cX5_countSections 29 = .ok (.iload_n 1, 1) := by decide +kernel
theorem dX5_countSections_30 : decode cX5_countSections 30 = .ok (.ireturn, 1) := by decide +kernel
theorem dX5_sectionStart_0 : decode cX5_sectionStart 0 = .ok (.iload_n 1, 1) := by decide +kernel
theorem dX5_sectionStart_1 : decode cX5_sectionStart 1 = .ok (.istore_n 2, 1) := by decide +kernel
theorem dX5_sectionStart_2 : decode cX5_sectionStart 2 = .ok (.iconst 0, 1) := by decide +kernel
theorem dX5_sectionStart_3 : decode cX5_sectionStart 3 = .ok (.istore_n 3, 1) := by decide +kernel
theorem dX5_sectionStart_4 : decode cX5_sectionStart 4 = .ok (.iload_n 3, 1) := by decide +kernel
theorem dX5_sectionStart_5 : decode cX5_sectionStart 5 = .ok (.aload_n 0, 1) := by decide +kernel
theorem dX5_sectionStart_6 : decode cX5_sectionStart 6 = .ok (.getfield 80, 3) := by decide +kernel
theorem dX5_sectionStart_9 : decode cX5_sectionStart 9 = .ok (.if_icmp .ge 26, 3) := by decide +kernel
theorem dX5_sectionStart_12 : decode cX5_sectionStart 12 = .ok (.aload_n 0, 1) := by decide +kernel
theorem dX5_sectionStart_13 : decode cX5_sectionStart 13 = .ok (.iload_n 3, 1) := by decide +kernel
theorem dX5_sectionStart_14 : decode cX5_sectionStart 14 = .ok (.invokevirtual 208, 3) := by decide +kernel
theorem dX5_sectionStart_17 : decode cX5_sectionStart 17 = .ok (.ifCond .eq 12, 3) := by decide +kernel
theorem dX5_sectionStart_20 : decode cX5_sectionStart 20 = .ok (.iload_n 2, 1) := by decide +kernel
theorem dX5_sectionStart_21 : decode cX5_sectionStart 21 = .ok (.ifCond .ne 5, 3) := by decide +kernel
theorem dX5_sectionStart_24 : decode cX5_sectionStart 24 = .ok (.iload_n 3, 1) := by decide +kernel
theorem dX5_sectionStart_25 : decode cX5_sectionStart 25 = .ok (.ireturn, 1) := by decide +kernel
theorem dX5_sectionStart_26 : decode cX5_sectionStart 26 = .ok (.iinc 2 (-1), 3) := by decide +kernel
theorem dX5_sectionStart_29 : decode cX5_sectionStart 29 = .ok (.iinc 3 1, 3) := by decide +kernel
theorem dX5_sectionStart_32 : decode cX5_sectionStart 32 = .ok (.goto (-28), 3) := by decide +kernel
theorem dX5_sectionStart_35 : decode cX5_sectionStart 35 = .ok (.iconst (-1), 1) := by decide +kernel
theorem dX5_sectionStart_36 : decode cX5_sectionStart 36 = .ok (.ireturn, 1) := by decide +kernel
theorem dX5_sectionTells_0 : decode cX5_sectionTells 0 = .ok (.aload_n 0, 1) := by decide +kernel
theorem dX5_sectionTells_1 : decode cX5_sectionTells 1 = .ok (.getfield 56, 3) := by decide +kernel
theorem dX5_sectionTells_4 : decode cX5_sectionTells 4 = .ok (.ifCond .eq 15, 3) := by decide +kernel
theorem dX5_sectionTells_7 : decode cX5_sectionTells 7 = .ok (.iload_n 1, 1) := by decide +kernel
theorem dX5_sectionTells_8 : decode cX5_sectionTells 8 = .ok (.ifCond .lt 11, 3) := by decide +kernel
theorem dX5_sectionTells_11 : decode cX5_sectionTells 11 = .ok (.aload_n 0, 1) := by decide +kernel
theorem dX5_sectionTells_12 : decode cX5_sectionTells 12 = .ok (.iload_n 1, 1) := by decide +kernel
theorem dX5_sectionTells_13 : decode cX5_sectionTells 13 = .ok (.invokevirtual 211, 3) := by decide +kernel
theorem dX5_sectionTells_16 : decode cX5_sectionTells 16 = .ok (.goto 4, 3) := by decide +kernel
theorem dX5_sectionTells_19 : decode cX5_sectionTells 19 = .ok (.iconst (-1), 1) := by decide +kernel
theorem dX5_sectionTells_20 : decode cX5_sectionTells 20 = .ok (.istore_n 3, 1) := by decide +kernel
theorem dX5_sectionTells_21 : decode cX5_sectionTells 21 = .ok (.iload_n 3, 1) := by decide +kernel
theorem dX5_sectionTells_22 : decode cX5_sectionTells 22 = .ok (.iconst (-1), 1) := by decide +kernel
theorem dX5_sectionTells_23 : decode cX5_sectionTells 23 = .ok (.if_icmp .eq 13, 3) := by decide +kernel
theorem dX5_sectionTells_26 : decode cX5_sectionTells 26 = .ok (.iload_n 2, 1) := by decide +kernel
theorem dX5_sectionTells_27 : decode cX5_sectionTells 27 = .ok (.ifCond .lt 9, 3) := by decide +kernel
theorem dX5_sectionTells_30 : decode cX5_sectionTells 30 = .ok (.iload_n 2, 1) := by decide +kernel
theorem dX5_sectionTells_31 : decode cX5_sectionTells 31 = .ok (.bipush 6, 2) := by decide +kernel
theorem dX5_sectionTells_33 : decode cX5_sectionTells 33 = .ok (.if_icmp .le 5, 3) := by decide +kernel
theorem dX5_sectionTells_36 : decode cX5_sectionTells 36 = .ok (.iconst (-1), 1) := by decide +kernel
theorem dX5_sectionTells_37 : decode cX5_sectionTells 37 = .ok (.ireturn, 1) := by decide +kernel
theorem dX5_sectionTells_38 : decode cX5_sectionTells 38 = .ok (.aload_n 0, 1) := by decide +kernel
theorem dX5_sectionTells_39 : decode cX5_sectionTells 39 = .ok (.iload_n 3, 1) := by decide +kernel
theorem dX5_sectionTells_40 : decode cX5_sectionTells 40 = .ok (.invokevirtual 214, 3) := by decide +kernel
theorem dX5_sectionTells_43 : decode cX5_sectionTells 43 = .ok (.istore 4, 2) := by decide +kernel
theorem dX5_sectionTells_45 : decode cX5_sectionTells 45 = .ok (.iload 4, 2) := by decide +kernel
theorem dX5_sectionTells_47 : decode cX5_sectionTells 47 = .ok (.iconst (-1), 1) := by decide +kernel
theorem dX5_sectionTells_48 : decode cX5_sectionTells 48 = .ok (.if_icmp .eq 17, 3) := by decide +kernel
theorem dX5_sectionTells_51 : decode cX5_sectionTells 51 = .ok (.aload_n 0, 1) := by decide +kernel
theorem dX5_sectionTells_52 : decode cX5_sectionTells 52 = .ok (.getfield 12, 3) := by decide +kernel
theorem dX5_sectionTells_55 : decode cX5_sectionTells 55 = .ok (.invokevirtual 217, 3) := by decide +kernel
theorem dX5_sectionTells_58 : decode cX5_sectionTells 58 = .ok (.ifCond .eq 7, 3) := by decide +kernel
theorem dX5_sectionTells_61 : decode cX5_sectionTells 61 = .ok (.iconst 1, 1) := by decide +kernel
theorem dX5_sectionTells_62 : decode cX5_sectionTells 62 = .ok (.goto 4, 3) := by decide +kernel
theorem dX5_sectionTells_65 : decode cX5_sectionTells 65 = .ok (.iconst 0, 1) := by decide +kernel
theorem dX5_sectionTells_66 : decode cX5_sectionTells 66 = .ok (.istore 5, 2) := by decide +kernel
theorem dX5_sectionTells_68 : decode cX5_sectionTells 68 = .ok (.iload_n 2, 1) := by decide +kernel
theorem dX5_sectionTells_69 : decode cX5_sectionTells 69 = .ok (.ifCond .ne 14, 3) := by decide +kernel
theorem dX5_sectionTells_72 : decode cX5_sectionTells 72 = .ok (.iload 5, 2) := by decide +kernel
theorem dX5_sectionTells_74 : decode cX5_sectionTells 74 = .ok (.ifCond .eq 7, 3) := by decide +kernel
theorem dX5_sectionTells_77 : decode cX5_sectionTells 77 = .ok (.iconst 1, 1) := by decide +kernel
theorem dX5_sectionTells_78 : decode cX5_sectionTells 78 = .ok (.goto 4, 3) := by decide +kernel
theorem dX5_sectionTells_81 : decode cX5_sectionTells 81 = .ok (.iconst 0, 1) := by decide +kernel
theorem dX5_sectionTells_82 : decode cX5_sectionTells 82 = .ok (.ireturn, 1) := by decide +kernel
theorem dX5_sectionTells_83 : decode cX5_sectionTells 83 = .ok (.iload 5, 2) := by decide +kernel
theorem dX5_sectionTells_85 : decode cX5_sectionTells 85 = .ok (.ifCond .ne 5, 3) := by decide +kernel
theorem dX5_sectionTells_88 : decode cX5_sectionTells 88 = .ok (.iconst (-1), 1) := by decide +kernel
theorem dX5_sectionTells_89 : decode cX5_sectionTells 89 = .ok (.ireturn, 1) := by decide +kernel
theorem dX5_sectionTells_90 : decode cX5_sectionTells 90 = .ok (.iload_n 2, 1) := by decide +kernel
theorem dX5_sectionTells_91 : decode cX5_sectionTells 91 = .ok (.tableswitch 73 1 5 #[33, 41, 49, 57, 65], 33) := by decide +kernel
theorem dX5_sectionTells_124 : decode cX5_sectionTells 124 = .ok (.aload_n 0, 1) := by decide +kernel
theorem dX5_sectionTells_125 : decode cX5_sectionTells 125 = .ok (.getfield 12, 3) := by decide +kernel
theorem dX5_sectionTells_128 : decode cX5_sectionTells 128 = .ok (.invokevirtual 221, 3) := by decide +kernel
theorem dX5_sectionTells_131 : decode cX5_sectionTells 131 = .ok (.ireturn, 1) := by decide +kernel
theorem dX5_sectionTells_132 : decode cX5_sectionTells 132 = .ok (.aload_n 0, 1) := by decide +kernel
theorem dX5_sectionTells_133 : decode cX5_sectionTells 133 = .ok (.getfield 12, 3) := by decide +kernel
theorem dX5_sectionTells_136 : decode cX5_sectionTells 136 = .ok (.invokevirtual 224, 3) := by decide +kernel
theorem dX5_sectionTells_139 : decode cX5_sectionTells 139 = .ok (.ireturn, 1) := by decide +kernel
theorem dX5_sectionTells_140 : decode cX5_sectionTells 140 = .ok (.aload_n 0, 1) := by decide +kernel
theorem dX5_sectionTells_141 : decode cX5_sectionTells 141 = .ok (.getfield 12, 3) := by decide +kernel
theorem dX5_sectionTells_144 : decode cX5_sectionTells 144 = .ok (.invokevirtual 227, 3) := by decide +kernel
theorem dX5_sectionTells_147 : decode cX5_sectionTells 147 = .ok (.ireturn, 1) := by decide +kernel
theorem dX5_sectionTells_148 : decode cX5_sectionTells 148 = .ok (.aload_n 0, 1) := by decide +kernel
theorem dX5_sectionTells_149 : decode cX5_sectionTells 149 = .ok (.getfield 12, 3) := by decide +kernel
theorem dX5_sectionTells_152 : decode cX5_sectionTells 152 = .ok (.invokevirtual 230, 3) := by decide +kernel
theorem dX5_sectionTells_155 : decode cX5_sectionTells 155 = .ok (.ireturn, 1) := by decide +kernel
theorem dX5_sectionTells_156 : decode cX5_sectionTells 156 = .ok (.aload_n 0, 1) := by decide +kernel
theorem dX5_sectionTells_157 : decode cX5_sectionTells 157 = .ok (.getfield 12, 3) := by decide +kernel
theorem dX5_sectionTells_160 : decode cX5_sectionTells 160 = .ok (.invokevirtual 233, 3) := by decide +kernel
theorem dX5_sectionTells_163 : decode cX5_sectionTells 163 = .ok (.ireturn, 1) := by decide +kernel
theorem dX5_sectionTells_164 : decode cX5_sectionTells 164 = .ok (.iload 4, 2) := by decide +kernel
theorem dX5_sectionTells_166 : decode cX5_sectionTells 166 = .ok (.ireturn, 1) := by decide +kernel
theorem dX5_readLabel_0 : decode cX5_readLabel 0 = .ok (.iload_n 1, 1) := by decide +kernel
theorem dX5_readLabel_1 : decode cX5_readLabel 1 = .ok (.ifCond .lt 14, 3) := by decide +kernel
theorem dX5_readLabel_4 : decode cX5_readLabel 4 = .ok (.iload_n 1, 1) := by decide +kernel
theorem dX5_readLabel_5 : decode cX5_readLabel 5 = .ok (.bipush 98, 2) := by decide +kernel
theorem dX5_readLabel_7 : decode cX5_readLabel 7 = .ok (.iadd, 1) := by decide +kernel
theorem dX5_readLabel_8 : decode cX5_readLabel 8 = .ok (.aload_n 0, 1) := by decide +kernel
theorem dX5_readLabel_9 : decode cX5_readLabel 9 = .ok (.getfield 80, 3) := by decide +kernel
theorem dX5_readLabel_12 : decode cX5_readLabel 12 = .ok (.if_icmp .le 5, 3) := by decide +kernel
theorem dX5_readLabel_15 : decode cX5_readLabel 15 = .ok (.iconst (-1), 1) := by decide +kernel
theorem dX5_readLabel_16 : decode cX5_readLabel 16 = .ok (.ireturn, 1) := by decide +kernel
theorem dX5_readLabel_17 : decode cX5_readLabel 17 = .ok (.iconst 0, 1) := by decide +kernel
theorem dX5_readLabel_18 : decode cX5_readLabel 18 = .ok (.istore_n 2, 1) := by decide +kernel
theorem dX5_readLabel_19 : decode cX5_readLabel 19 = .ok (.iconst 2, 1) := by decide +kernel
theorem dX5_readLabel_20 : decode cX5_readLabel 20 = .ok (.istore_n 3, 1) := by decide +kernel
theorem dX5_readLabel_21 : decode cX5_readLabel 21 = .ok (.iload_n 3, 1) := by decide +kernel
theorem dX5_readLabel_22 : decode cX5_readLabel 22 = .ok (.bipush 98, 2) := by decide +kernel
theorem dX5_readLabel_24 : decode cX5_readLabel 24 = .ok (.if_icmp .ge 88, 3) := by decide +kernel
theorem dX5_readLabel_27 : decode cX5_readLabel 27 = .ok (.aload_n 0, 1) := by decide +kernel
theorem dX5_readLabel_28 : decode cX5_readLabel 28 = .ok (.iload_n 1, 1) := by decide +kernel
theorem dX5_readLabel_29 : decode cX5_readLabel 29 = .ok (.iload_n 3, 1) := by decide +kernel
theorem dX5_readLabel_30 : decode cX5_readLabel 30 = .ok (.iadd, 1) := by decide +kernel
theorem dX5_readLabel_31 : decode cX5_readLabel 31 = .ok (.invokevirtual 205, 3) := by decide +kernel
theorem dX5_readLabel_34 : decode cX5_readLabel 34 = .ok (.ifCond .eq 21, 3) := by decide +kernel
theorem dX5_readLabel_37 : decode cX5_readLabel 37 = .ok (.aload_n 0, 1) := by decide +kernel
theorem dX5_readLabel_38 : decode cX5_readLabel 38 = .ok (.getfield 45, 3) := by decide +kernel
theorem dX5_readLabel_41 : decode cX5_readLabel 41 = .ok (.aload_n 0, 1) := by decide +kernel
theorem dX5_readLabel_42 : decode cX5_readLabel 42 = .ok (.getfield 22, 3) := by decide +kernel
theorem dX5_readLabel_45 : decode cX5_readLabel 45 = .ok (.iload_n 1, 1) := by decide +kernel
theorem dX5_readLabel_46 : decode cX5_readLabel 46 = .ok (.iload_n 3, 1) := by decide +kernel
theorem dX5_readLabel_47 : decode cX5_readLabel 47 = .ok (.iadd, 1) := by decide +kernel
theorem dX5_readLabel_48 : decode cX5_readLabel 48 = .ok (.iaload, 1) := by decide +kernel
theorem dX5_readLabel_49 : decode cX5_readLabel 49 = .ok (.invokevirtual 132, 3) := by decide +kernel
theorem dX5_readLabel_52 : decode cX5_readLabel 52 = .ok (.goto 4, 3) := by decide +kernel
theorem dX5_readLabel_55 : decode cX5_readLabel 55 = .ok (.iconst (-1), 1) := by decide +kernel
theorem dX5_readLabel_56 : decode cX5_readLabel 56 = .ok (.istore 4, 2) := by decide +kernel
theorem dX5_readLabel_58 : decode cX5_readLabel 58 = .ok (.iload 4, 2) := by decide +kernel
theorem dX5_readLabel_60 : decode cX5_readLabel 60 = .ok (.iconst (-1), 1) := by decide +kernel
theorem dX5_readLabel_61 : decode cX5_readLabel 61 = .ok (.if_icmp .ne 5, 3) := by decide +kernel
theorem dX5_readLabel_64 : decode cX5_readLabel 64 = .ok (.iconst (-1), 1) := by decide +kernel
theorem dX5_readLabel_65 : decode cX5_readLabel 65 = .ok (.ireturn, 1) := by decide +kernel
theorem dX5_readLabel_66 : decode cX5_readLabel 66 = .ok (.aload_n 0, 1) := by decide +kernel
theorem dX5_readLabel_67 : decode cX5_readLabel 67 = .ok (.getfield 12, 3) := by decide +kernel
theorem dX5_readLabel_70 : decode cX5_readLabel 70 = .ok (.iload_n 3, 1) := by decide +kernel
theorem dX5_readLabel_71 : decode cX5_readLabel 71 = .ok (.iconst 2, 1) := by decide +kernel
theorem dX5_readLabel_72 : decode cX5_readLabel 72 = .ok (.isub, 1) := by decide +kernel
theorem dX5_readLabel_73 : decode cX5_readLabel 73 = .ok (.iload 4, 2) := by decide +kernel
theorem dX5_readLabel_75 : decode cX5_readLabel 75 = .ok (.bipush 64, 2) := by decide +kernel
theorem dX5_readLabel_77 : decode cX5_readLabel 77 = .ok (.iand, 1) := by decide +kernel
theorem dX5_readLabel_78 : decode cX5_readLabel 78 = .ok (.ifCond .ne 7, 3) := by decide +kernel
theorem dX5_readLabel_81 : decode cX5_readLabel 81 = .ok (.iconst 0, 1) := by decide +kernel
theorem dX5_readLabel_82 : decode cX5_readLabel 82 = .ok (.goto 4, 3) := by decide +kernel
theorem dX5_readLabel_85 : decode cX5_readLabel 85 = .ok (.iconst 1, 1) := by decide +kernel
theorem dX5_readLabel_86 : decode cX5_readLabel 86 = .ok (.invokevirtual 236, 3) := by decide +kernel
theorem dX5_readLabel_89 : decode cX5_readLabel 89 = .ok (.iload_n 2, 1) := by decide +kernel
theorem dX5_readLabel_90 : decode cX5_readLabel 90 = .ok (.iload 4, 2) := by decide +kernel
theorem dX5_readLabel_92 : decode cX5_readLabel 92 = .ok (.sipush 128, 3) := by decide +kernel
theorem dX5_readLabel_95 : decode cX5_readLabel 95 = .ok (.iand, 1) := by decide +kernel
theorem dX5_readLabel_96 : decode cX5_readLabel 96 = .ok (.ifCond .ne 7, 3) := by decide +kernel
theorem dX5_readLabel_99 : decode cX5_readLabel 99 = .ok (.iconst 0, 1) := by decide +kernel
theorem dX5_readLabel_100 : decode cX5_readLabel 100 = .ok (.goto 4, 3) := by decide +kernel
theorem dX5_readLabel_103 : decode cX5_readLabel 103 = .ok (.iconst 1, 1) := by decide +kernel
theorem dX5_readLabel_104 : decode cX5_readLabel 104 = .ok (.iadd, 1) := by decide +kernel
theorem dX5_readLabel_105 : decode cX5_readLabel 105 = .ok (.istore_n 2, 1) := by decide +kernel
theorem dX5_readLabel_106 : decode cX5_readLabel 106 = .ok (.iinc 3 1, 3) := by decide +kernel
theorem dX5_readLabel_109 : decode cX5_readLabel 109 = .ok (.goto (-88), 3) := by decide +kernel
theorem dX5_readLabel_112 : decode cX5_readLabel 112 = .ok (.iload_n 2, 1) := by decide +kernel
theorem dX5_readLabel_113 : decode cX5_readLabel 113 = .ok (.ireturn, 1) := by decide +kernel
theorem dX9_init_0 : decode cX9_init 0 = .ok (.aload_n 0, 1) := by decide +kernel
theorem dX9_init_1 : decode cX9_init 1 = .ok (.invokespecial 3, 3) := by decide +kernel
theorem dX9_init_4 : decode cX9_init 4 = .ok (.new 9, 3) := by decide +kernel
theorem dX9_init_7 : decode cX9_init 7 = .ok (.dup, 1) := by decide +kernel
theorem dX9_init_8 : decode cX9_init 8 = .ok (.invokespecial 11, 3) := by decide +kernel
theorem dX9_init_11 : decode cX9_init 11 = .ok (.astore_n 1, 1) := by decide +kernel
theorem dX9_init_12 : decode cX9_init 12 = .ok (.new 12, 3) := by decide +kernel
theorem dX9_init_15 : decode cX9_init 15 = .ok (.dup, 1) := by decide +kernel
theorem dX9_init_16 : decode cX9_init 16 = .ok (.invokespecial 14, 3) := by decide +kernel
theorem dX9_init_19 : decode cX9_init 19 = .ok (.astore_n 2, 1) := by decide +kernel
theorem dX9_init_20 : decode cX9_init 20 = .ok (.aload_n 0, 1) := by decide +kernel
theorem dX9_init_21 : decode cX9_init 21 = .ok (.sipush 11712, 3) := by decide +kernel
theorem dX9_init_24 : decode cX9_init 24 = .ok (.newarray .byte, 2) := by decide +kernel
theorem dX9_init_26 : decode cX9_init 26 = .ok (.putfield 15, 3) := by decide +kernel
theorem dX9_init_29 : decode cX9_init 29 = .ok (.aload_n 0, 1) := by decide +kernel
theorem dX9_init_30 : decode cX9_init 30 = .ok (.new 19, 3) := by decide +kernel
theorem dX9_init_33 : decode cX9_init 33 = .ok (.dup, 1) := by decide +kernel
theorem dX9_init_34 : decode cX9_init 34 = .ok (.invokespecial 21, 3) := by decide +kernel
theorem dX9_init_37 : decode cX9_init 37 = .ok (.putfield 22, 3) := by decide +kernel
theorem dX9_init_40 : decode cX9_init 40 = .ok (.aload_n 0, 1) := by decide +kernel
theorem dX9_init_41 : decode cX9_init 41 = .ok (.new 26, 3) := by decide +kernel
theorem dX9_init_44 : decode cX9_init 44 = .ok (.dup, 1) := by decide +kernel
theorem dX9_init_45 : decode cX9_init 45 = .ok (.invokespecial 28, 3) := by decide +kernel
theorem dX9_init_48 : decode cX9_init 48 = .ok (.putfield 29, 3) := by decide +kernel
theorem dX9_init_51 : decode cX9_init 51 = .ok (.aload_n 0, 1) := by decide +kernel
theorem dX9_init_52 : decode cX9_init 52 = .ok (.new 33, 3) := by decide +kernel
theorem dX9_init_55 : decode cX9_init 55 = .ok (.dup, 1) := by decide +kernel
theorem dX9_init_56 : decode cX9_init 56 = .ok (.aload_n 1, 1) := by decide +kernel
theorem dX9_init_57 : decode cX9_init 57 = .ok (.bipush 32, 2) := by decide +kernel
theorem dX9_init_59 : decode cX9_init 59 = .ok (.bipush 28, 2) := by decide +kernel
theorem dX9_init_61 : decode cX9_init 61 = .ok (.invokespecial 35, 3) := by decide +kernel
theorem dX9_init_64 : decode cX9_init 64 = .ok (.putfield 38, 3) := by decide +kernel
theorem dX9_init_67 : decode cX9_init 67 = .ok (.aload_n 0, 1) := by decide +kernel
theorem dX9_init_68 : decode cX9_init 68 = .ok (.new 33, 3) := by decide +kernel
theorem dX9_init_71 : decode cX9_init 71 = .ok (.dup, 1) := by decide +kernel
theorem dX9_init_72 : decode cX9_init 72 = .ok (.aload_n 1, 1) := by decide +kernel
theorem dX9_init_73 : decode cX9_init 73 = .ok (.bipush 28, 2) := by decide +kernel
theorem dX9_init_75 : decode cX9_init 75 = .ok (.bipush 12, 2) := by decide +kernel
theorem dX9_init_77 : decode cX9_init 77 = .ok (.invokespecial 35, 3) := by decide +kernel
theorem dX9_init_80 : decode cX9_init 80 = .ok (.putfield 42, 3) := by decide +kernel
theorem dX9_init_83 : decode cX9_init 83 = .ok (.aload_n 0, 1) := by decide +kernel
theorem dX9_init_84 : decode cX9_init 84 = .ok (.new 45, 3) := by decide +kernel
theorem dX9_init_87 : decode cX9_init 87 = .ok (.dup, 1) := by decide +kernel
theorem dX9_init_88 : decode cX9_init 88 = .ok (.invokespecial 47, 3) := by decide +kernel
theorem dX9_init_91 : decode cX9_init 91 = .ok (.putfield 48, 3) := by decide +kernel
theorem dX9_init_94 : decode cX9_init 94 = .ok (.aload_n 0, 1) := by decide +kernel
theorem dX9_init_95 : decode cX9_init 95 = .ok (.new 52, 3) := by decide +kernel
theorem dX9_init_98 : decode cX9_init 98 = .ok (.dup, 1) := by decide +kernel
theorem dX9_init_99 : decode cX9_init 99 = .ok (.aload_n 2, 1) := by decide +kernel
theorem dX9_init_100 : decode cX9_init 100 = .ok (.aload_n 0, 1) := by decide +kernel
theorem dX9_init_101 : decode cX9_init 101 = .ok (.getfield 48, 3) := by decide +kernel
theorem dX9_init_104 : decode cX9_init 104 = .ok (.aload_n 0, 1) := by decide +kernel
theorem dX9_init_105 : decode cX9_init 105 = .ok (.getfield 29, 3) := by decide +kernel
theorem dX9_init_108 : decode cX9_init 108 = .ok (.aload_n 0, 1) := by decide +kernel
theorem dX9_init_109 : decode cX9_init 109 = .ok (.getfield 38, 3) := by decide +kernel
theorem dX9_init_112 : decode cX9_init 112 = .ok (.aload_n 0, 1) := by decide +kernel
theorem dX9_init_113 : decode cX9_init 113 = .ok (.getfield 42, 3) := by decide +kernel
theorem dX9_init_116 : decode cX9_init 116 = .ok (.aload_n 0, 1) := by decide +kernel
theorem dX9_init_117 : decode cX9_init 117 = .ok (.getfield 22, 3) := by decide +kernel
theorem dX9_init_120 : decode cX9_init 120 = .ok (.invokespecial 54, 3) := by decide +kernel
theorem dX9_init_123 : decode cX9_init 123 = .ok (.putfield 57, 3) := by decide +kernel
theorem dX9_init_126 : decode cX9_init 126 = .ok (.aload_n 0, 1) := by decide +kernel
theorem dX9_init_127 : decode cX9_init 127 = .ok (.new 61, 3) := by decide +kernel
theorem dX9_init_130 : decode cX9_init 130 = .ok (.dup, 1) := by decide +kernel
theorem dX9_init_131 : decode cX9_init 131 = .ok (.aload_n 2, 1) := by decide +kernel
theorem dX9_init_132 : decode cX9_init 132 = .ok (.aload_n 0, 1) := by decide +kernel
theorem dX9_init_133 : decode cX9_init 133 = .ok (.getfield 48, 3) := by decide +kernel
theorem dX9_init_136 : decode cX9_init 136 = .ok (.aload_n 0, 1) := by decide +kernel
theorem dX9_init_137 : decode cX9_init 137 = .ok (.getfield 29, 3) := by decide +kernel
theorem dX9_init_140 : decode cX9_init 140 = .ok (.aload_n 0, 1) := by decide +kernel
theorem dX9_init_141 : decode cX9_init 141 = .ok (.getfield 38, 3) := by decide +kernel
theorem dX9_init_144 : decode cX9_init 144 = .ok (.aload_n 0, 1) := by decide +kernel
theorem dX9_init_145 : decode cX9_init 145 = .ok (.getfield 42, 3) := by decide +kernel
theorem dX9_init_148 : decode cX9_init 148 = .ok (.invokespecial 63, 3) := by decide +kernel
theorem dX9_init_151 : decode cX9_init 151 = .ok (.putfield 66, 3) := by decide +kernel
theorem dX9_init_154 : decode cX9_init 154 = .ok (.aload_n 0, 1) := by decide +kernel
theorem dX9_init_155 : decode cX9_init 155 = .ok (.bipush 32, 2) := by decide +kernel
theorem dX9_init_157 : decode cX9_init 157 = .ok (.newarray .byte, 2) := by decide +kernel
theorem dX9_init_159 : decode cX9_init 159 = .ok (.putfield 70, 3) := by decide +kernel
theorem dX9_init_162 : decode cX9_init 162 = .ok (.return_, 1) := by decide +kernel
theorem dX9_feed_0 : decode cX9_feed 0 = .ok (.iload_n 3, 1) := by decide +kernel
theorem dX9_feed_1 : decode cX9_feed 1 = .ok (.iconst 1, 1) := by decide +kernel
theorem dX9_feed_2 : decode cX9_feed 2 = .ok (.if_icmp .lt 21, 3) := by decide +kernel
theorem dX9_feed_5 : decode cX9_feed 5 = .ok (.iload_n 3, 1) := by decide +kernel
theorem dX9_feed_6 : decode cX9_feed 6 = .ok (.bipush 8, 2) := by decide +kernel
theorem dX9_feed_8 : decode cX9_feed 8 = .ok (.if_icmp .gt 15, 3) := by decide +kernel
theorem dX9_feed_11 : decode cX9_feed 11 = .ok (.iload_n 3, 1) := by decide +kernel
theorem dX9_feed_12 : decode cX9_feed 12 = .ok (.sipush 11712, 3) := by decide +kernel
theorem dX9_feed_15 : decode cX9_feed 15 = .ok (.aload_n 0, 1) := by decide +kernel
theorem dX9_feed_16 : decode cX9_feed 16 = .ok (.getfield 73, 3) := by decide +kernel
theorem dX9_feed_19 : decode cX9_feed 19 = .ok (.isub, 1) := by decide +kernel
theorem dX9_feed_20 : decode cX9_feed 20 = .ok (.if_icmp .le 5, 3) := by decide +kernel
theorem dX9_feed_23 : decode cX9_feed 23 = .ok (.iconst (-1), 1) := by decide +kernel
theorem dX9_feed_24 : decode cX9_feed 24 = .ok (.ireturn, 1) := by decide +kernel
theorem dX9_feed_25 : decode cX9_feed 25 = .ok (.iload_n 3, 1) := by decide +kernel
theorem dX9_feed_26 : decode cX9_feed 26 = .ok (.iconst 1, 1) := by decide +kernel
theorem dX9_feed_27 : decode cX9_feed 27 = .ok (.isub, 1) := by decide +kernel
theorem dX9_feed_28 : decode cX9_feed 28 = .ok (.istore 4, 2) := by decide +kernel
theorem dX9_feed_30 : decode cX9_feed 30 = .ok (.iload 4, 2) := by decide +kernel
theorem dX9_feed_32 : decode cX9_feed 32 = .ok (.ifCond .lt 21, 3) := by decide +kernel
theorem dX9_feed_35 : decode cX9_feed 35 = .ok (.aload_n 0, 1) := by decide +kernel
theorem dX9_feed_36 : decode cX9_feed 36 = .ok (.lload_n 1, 1) := by decide +kernel
theorem dX9_feed_37 : decode cX9_feed 37 = .ok (.bipush 8, 2) := by decide +kernel
theorem dX9_feed_39 : decode cX9_feed 39 = .ok (.iload 4, 2) := by decide +kernel
theorem dX9_feed_41 : decode cX9_feed 41 = .ok (.imul, 1) := by decide +kernel
theorem dX9_feed_42 : decode cX9_feed 42 = .ok (.lushr, 1) := by decide +kernel
theorem dX9_feed_43 : decode cX9_feed 43 = .ok (.l2i, 1) := by decide +kernel
theorem dX9_feed_44 : decode cX9_feed 44 = .ok (.invokevirtual 77, 3) := by decide +kernel
theorem dX9_feed_47 : decode cX9_feed 47 = .ok (.iinc 4 (-1), 3) := by decide +kernel
theorem dX9_feed_50 : decode cX9_feed 50 = .ok (.goto (-20), 3) := by decide +kernel
theorem dX9_feed_53 : decode cX9_feed 53 = .ok (.aload_n 0, 1) := by decide +kernel
theorem dX9_feed_54 : decode cX9_feed 54 = .ok (.getfield 73, 3) := by decide +kernel
theorem dX9_feed_57 : decode cX9_feed 57 = .ok (.ireturn, 1) := by decide +kernel
theorem dX9_fill_0 : decode cX9_fill 0 = .ok (.iload_n 1, 1) := by decide +kernel
theorem dX9_fill_1 : decode cX9_fill 1 = .ok (.ifCond .lt 15, 3) := by decide +kernel
theorem dX9_fill_4 : decode cX9_fill 4 = .ok (.iload_n 1, 1) := by decide +kernel
theorem dX9_fill_5 : decode cX9_fill 5 = .ok (.sipush 11712, 3) := by decide +kernel
theorem dX9_fill_8 : decode cX9_fill 8 = .ok (.aload_n 0, 1) := by decide +kernel
theorem dX9_fill_9 : decode cX9_fill 9 = .ok (.getfield 73, 3) := by decide +kernel
theorem dX9_fill_12 : decode cX9_fill 12 = .ok (.isub, 1) := by decide +kernel
theorem dX9_fill_13 : decode cX9_fill 13 = .ok (.if_icmp .le 5, 3) := by decide +kernel
theorem dX9_fill_16 : decode cX9_fill 16 = .ok (.iconst (-1), 1) := by decide +kernel
theorem dX9_fill_17 : decode cX9_fill 17 = .ok (.ireturn, 1) := by decide +kernel
theorem dX9_fill_18 : decode cX9_fill 18 = .ok (.iload_n 2, 1) := by decide +kernel
theorem dX9_fill_19 : decode cX9_fill 19 = .ok (.istore_n 3, 1) := by decide +kernel
theorem dX9_fill_20 : decode cX9_fill 20 = .ok (.iconst 0, 1) := by decide +kernel
theorem dX9_fill_21 : decode cX9_fill 21 = .ok (.istore 4, 2) := by decide +kernel
theorem dX9_fill_23 : decode cX9_fill 23 = .ok (.iload 4, 2) := by decide +kernel
theorem dX9_fill_25 : decode cX9_fill 25 = .ok (.iload_n 1, 1) := by decide +kernel
theorem dX9_fill_26 : decode cX9_fill 26 = .ok (.if_icmp .ge 22, 3) := by decide +kernel
theorem dX9_fill_29 : decode cX9_fill 29 = .ok (.iload_n 3, 1) := by decide +kernel
theorem dX9_fill_30 : decode cX9_fill 30 = .ok (.invokestatic 81, 3) := by decide +kernel
theorem dX9_fill_33 : decode cX9_fill 33 = .ok (.istore_n 3, 1) := by decide +kernel
theorem dX9_fill_34 : decode cX9_fill 34 = .ok (.aload_n 0, 1) := by decide +kernel
theorem dX9_fill_35 : decode cX9_fill 35 = .ok (.iload_n 3, 1) := by decide +kernel
theorem dX9_fill_36 : decode cX9_fill 36 = .ok (.bipush 24, 2) := by decide +kernel
theorem dX9_fill_38 : decode cX9_fill 38 = .ok (.iushr, 1) := by decide +kernel
theorem dX9_fill_39 : decode cX9_fill 39 = .ok (.invokevirtual 77, 3) := by decide +kernel
theorem dX9_fill_42 : decode cX9_fill 42 = .ok (.iinc 4 1, 3) := by decide +kernel
theorem dX9_fill_45 : decode cX9_fill 45 = .ok (.goto (-22), 3) := by decide +kernel
theorem dX9_fill_48 : decode cX9_fill 48 = .ok (.aload_n 0, 1) := by decide +kernel
theorem dX9_fill_49 : decode cX9_fill 49 = .ok (.getfield 73, 3) := by decide +kernel
theorem dX9_fill_52 : decode cX9_fill 52 = .ok (.ireturn, 1) := by decide +kernel
theorem dX9_addByte_0 : decode cX9_addByte 0 = .ok (.aload_n 0, 1) := by decide +kernel
theorem dX9_addByte_1 : decode cX9_addByte 1 = .ok (.getfield 73, 3) := by decide +kernel
theorem dX9_addByte_4 : decode cX9_addByte 4 = .ok (.ifCond .lt 36, 3) := by decide +kernel
theorem dX9_addByte_7 : decode cX9_addByte 7 = .ok (.aload_n 0, 1) := by decide +kernel
theorem dX9_addByte_8 : decode cX9_addByte 8 = .ok (.getfield 73, 3) := by decide +kernel
theorem dX9_addByte_11 : decode cX9_addByte 11 = .ok (.aload_n 0, 1) := by decide +kernel
theorem dX9_addByte_12 : decode cX9_addByte 12 = .ok (.getfield 15, 3) := by decide +kernel
theorem dX9_addByte_15 : decode cX9_addByte 15 = .ok (.arraylength, 1) := by decide +kernel
theorem dX9_addByte_16 : decode cX9_addByte 16 = .ok (.if_icmp .ge 24, 3) := by decide +kernel
theorem dX9_addByte_19 : decode cX9_addByte 19 = .ok (.aload_n 0, 1) := by decide +kernel
theorem dX9_addByte_20 : decode cX9_addByte 20 = .ok (.getfield 15, 3) := by decide +kernel
theorem dX9_addByte_23 : decode cX9_addByte 23 = .ok (.aload_n 0, 1) := by decide +kernel
theorem dX9_addByte_24 : decode cX9_addByte 24 = .ok (.getfield 73, 3) := by decide +kernel
theorem dX9_addByte_27 : decode cX9_addByte 27 = .ok (.iload_n 1, 1) := by decide +kernel
theorem dX9_addByte_28 : decode cX9_addByte 28 = .ok (.i2b, 1) := by decide +kernel
theorem dX9_addByte_29 : decode cX9_addByte 29 = .ok (.bastore, 1) := by decide +kernel
theorem dX9_addByte_30 : decode cX9_addByte 30 = .ok (.aload_n 0, 1) := by decide +kernel
theorem dX9_addByte_31 : decode cX9_addByte 31 = .ok (.dup, 1) := by decide +kernel
theorem dX9_addByte_32 : decode cX9_addByte 32 = .ok (.getfield 73, 3) := by decide +kernel
theorem dX9_addByte_35 : decode cX9_addByte 35 = .ok (.iconst 1, 1) := by decide +kernel
theorem dX9_addByte_36 : decode cX9_addByte 36 = .ok (.iadd, 1) := by decide +kernel
theorem dX9_addByte_37 : decode cX9_addByte 37 = .ok (.putfield 73, 3) := by decide +kernel
theorem dX9_addByte_40 : decode cX9_addByte 40 = .ok (.return_, 1) := by decide +kernel
theorem dX9_nextNoise_0 : decode cX9_nextNoise 0 = .ok (.iload_n 0, 1) := by decide +kernel
theorem dX9_nextNoise_1 : decode cX9_nextNoise 1 = .ok (.ldc 85, 2) := by decide +kernel
theorem dX9_nextNoise_3 : decode cX9_nextNoise 3 = .ok (.imul, 1) := by decide +kernel
theorem dX9_nextNoise_4 : decode cX9_nextNoise 4 = .ok (.ldc 86, 2) := by decide +kernel
theorem dX9_nextNoise_6 : decode cX9_nextNoise 6 = .ok (.iadd, 1) := by decide +kernel
theorem dX9_nextNoise_7 : decode cX9_nextNoise 7 = .ok (.ireturn, 1) := by decide +kernel
theorem dX9_wipe_0 : decode cX9_wipe 0 = .ok (.aload_n 0, 1) := by decide +kernel
theorem dX9_wipe_1 : decode cX9_wipe 1 = .ok (.getfield 73, 3) := by decide +kernel
theorem dX9_wipe_4 : decode cX9_wipe 4 = .ok (.istore_n 1, 1) := by decide +kernel
theorem dX9_wipe_5 : decode cX9_wipe 5 = .ok (.aload_n 0, 1) := by decide +kernel
theorem dX9_wipe_6 : decode cX9_wipe 6 = .ok (.iconst 0, 1) := by decide +kernel
theorem dX9_wipe_7 : decode cX9_wipe 7 = .ok (.putfield 73, 3) := by decide +kernel
theorem dX9_wipe_10 : decode cX9_wipe 10 = .ok (.iload_n 1, 1) := by decide +kernel
theorem dX9_wipe_11 : decode cX9_wipe 11 = .ok (.ireturn, 1) := by decide +kernel
theorem dX9_streamAt_0 : decode cX9_streamAt 0 = .ok (.iload_n 1, 1) := by decide +kernel
theorem dX9_streamAt_1 : decode cX9_streamAt 1 = .ok (.ifCond .lt 33, 3) := by decide +kernel
theorem dX9_streamAt_4 : decode cX9_streamAt 4 = .ok (.iload_n 1, 1) := by decide +kernel
theorem dX9_streamAt_5 : decode cX9_streamAt 5 = .ok (.aload_n 0, 1) := by decide +kernel
theorem dX9_streamAt_6 : decode cX9_streamAt 6 = .ok (.getfield 73, 3) := by decide +kernel
theorem dX9_streamAt_9 : decode cX9_streamAt 9 = .ok (.if_icmp .ge 25, 3) := by decide +kernel
theorem dX9_streamAt_12 : decode cX9_streamAt 12 = .ok (.iload_n 1, 1) := by decide +kernel
theorem dX9_streamAt_13 : decode cX9_streamAt 13 = .ok (.aload_n 0, 1) := by decide +kernel
theorem dX9_streamAt_14 : decode cX9_streamAt 14 = .ok (.getfield 15, 3) := by decide +kernel
theorem dX9_streamAt_17 : decode cX9_streamAt 17 = .ok (.arraylength, 1) := by decide +kernel
theorem dX9_streamAt_18 : decode cX9_streamAt 18 = .ok (.if_icmp .ge 16, 3) := by decide +kernel
theorem dX9_streamAt_21 : decode cX9_streamAt 21 = .ok (.aload_n 0, 1) := by decide +kernel
theorem dX9_streamAt_22 : decode cX9_streamAt 22 = .ok (.getfield 15, 3) := by decide +kernel
theorem dX9_streamAt_25 : decode cX9_streamAt 25 = .ok (.iload_n 1, 1) := by decide +kernel
theorem dX9_streamAt_26 : decode cX9_streamAt 26 = .ok (.baload, 1) := by decide +kernel
theorem dX9_streamAt_27 : decode cX9_streamAt 27 = .ok (.sipush 255, 3) := by decide +kernel
theorem dX9_streamAt_30 : decode cX9_streamAt 30 = .ok (.iand, 1) := by decide +kernel
theorem dX9_streamAt_31 : decode cX9_streamAt 31 = .ok (.goto 4, 3) := by decide +kernel
theorem dX9_streamAt_34 : decode cX9_streamAt 34 = .ok (.iconst (-1), 1) := by decide +kernel
theorem dX9_streamAt_35 : decode cX9_streamAt 35 = .ok (.ireturn, 1) := by decide +kernel
theorem dX9_begin_0 : decode cX9_begin 0 = .ok (.iload_n 1, 1) := by decide +kernel
theorem dX9_begin_1 : decode cX9_begin 1 = .ok (.ifCond .lt 9, 3) := by decide +kernel
theorem dX9_begin_4 : decode cX9_begin 4 = .ok (.iload_n 1, 1) := by decide +kernel
theorem dX9_begin_5 : decode cX9_begin 5 = .ok (.ldc 87, 2) := by decide +kernel
theorem dX9_begin_7 : decode cX9_begin 7 = .ok (.if_icmp .le 5, 3) := by decide +kernel
theorem dX9_begin_10 : decode cX9_begin 10 = .ok (.iconst 0, 1) := by decide +kernel
theorem dX9_begin_11 : decode cX9_begin 11 = .ok (.ireturn, 1) := by decide +kernel
theorem dX9_begin_12 : decode cX9_begin 12 = .ok (.aload_n 0, 1) := by decide +kernel
theorem dX9_begin_13 : decode cX9_begin 13 = .ok (.getfield 22, 3) := by decide +kernel
theorem dX9_begin_16 : decode cX9_begin 16 = .ok (.iload_n 1, 1) := by decide +kernel
theorem dX9_begin_17 : decode cX9_begin 17 = .ok (.invokevirtual 88, 3) := by decide +kernel
theorem dX9_begin_20 : decode cX9_begin 20 = .ok (.iconst 1, 1) := by decide +kernel
theorem dX9_begin_21 : decode cX9_begin 21 = .ok (.ireturn, 1) := by decide +kernel
theorem dX9_entry_0 : decode cX9_entry 0 = .ok (.iload_n 1, 1) := by decide +kernel
theorem dX9_entry_1 : decode cX9_entry 1 = .ok (.ifCond .lt 46, 3) := by decide +kernel
theorem dX9_entry_4 : decode cX9_entry 4 = .ok (.iload_n 1, 1) := by decide +kernel
theorem dX9_entry_5 : decode cX9_entry 5 = .ok (.bipush 9, 2) := by decide +kernel
theorem dX9_entry_7 : decode cX9_entry 7 = .ok (.if_icmp .gt 40, 3) := by decide +kernel
theorem dX9_entry_10 : decode cX9_entry 10 = .ok (.iload_n 2, 1) := by decide +kernel
theorem dX9_entry_11 : decode cX9_entry 11 = .ok (.ifCond .lt 36, 3) := by decide +kernel
theorem dX9_entry_14 : decode cX9_entry 14 = .ok (.iload_n 2, 1) := by decide +kernel
theorem dX9_entry_15 : decode cX9_entry 15 = .ok (.bipush 15, 2) := by decide +kernel
theorem dX9_entry_17 : decode cX9_entry 17 = .ok (.if_icmp .gt 30, 3) := by decide +kernel
theorem dX9_entry_20 : decode cX9_entry 20 = .ok (.iload_n 3, 1) := by decide +kernel
theorem dX9_entry_21 : decode cX9_entry 21 = .ok (.iconst 1, 1) := by decide +kernel
theorem dX9_entry_22 : decode cX9_entry 22 = .ok (.if_icmp .lt 25, 3) := by decide +kernel
theorem dX9_entry_25 : decode cX9_entry 25 = .ok (.iload_n 3, 1) := by decide +kernel
theorem dX9_entry_26 : decode cX9_entry 26 = .ok (.bipush 99, 2) := by decide +kernel
theorem dX9_entry_28 : decode cX9_entry 28 = .ok (.if_icmp .gt 19, 3) := by decide +kernel
theorem dX9_entry_31 : decode cX9_entry 31 = .ok (.iload 4, 2) := by decide +kernel
theorem dX9_entry_33 : decode cX9_entry 33 = .ok (.ifCond .lt 14, 3) := by decide +kernel
theorem dX9_entry_36 : decode cX9_entry 36 = .ok (.iload 4, 2) := by decide +kernel
theorem dX9_entry_38 : decode cX9_entry 38 = .ok (.bipush 99, 2) := by decide +kernel
theorem dX9_entry_40 : decode cX9_entry 40 = .ok (.if_icmp .gt 7, 3) := by decide +kernel
theorem dX9_entry_43 : decode cX9_entry 43 = .ok (.iconst 1, 1) := by decide +kernel
theorem dX9_entry_44 : decode cX9_entry 44 = .ok (.goto 4, 3) := by decide +kernel
theorem dX9_entry_47 : decode cX9_entry 47 = .ok (.iconst 0, 1) := by decide +kernel
theorem dX9_entry_48 : decode cX9_entry 48 = .ok (.istore 5, 2) := by decide +kernel
theorem dX9_entry_50 : decode cX9_entry 50 = .ok (.iload 5, 2) := by decide +kernel
theorem dX9_entry_52 : decode cX9_entry 52 = .ok (.ifCond .eq 18, 3) := by decide +kernel
theorem dX9_entry_55 : decode cX9_entry 55 = .ok (.aload_n 0, 1) := by decide +kernel
theorem dX9_entry_56 : decode cX9_entry 56 = .ok (.getfield 22, 3) := by decide +kernel
theorem dX9_entry_59 : decode cX9_entry 59 = .ok (.iload_n 1, 1) := by decide +kernel
theorem dX9_entry_60 : decode cX9_entry 60 = .ok (.iload_n 2, 1) := by decide +kernel
theorem dX9_entry_61 : decode cX9_entry 61 = .ok (.iload_n 3, 1) := by decide +kernel
theorem dX9_entry_62 : decode cX9_entry 62 = .ok (.iload 4, 2) := by decide +kernel
theorem dX9_entry_64 : decode cX9_entry 64 = .ok (.invokevirtual 91, 3) := by decide +kernel
theorem dX9_entry_67 : decode cX9_entry 67 = .ok (.goto 4, 3) := by decide +kernel
theorem dX9_entry_70 : decode cX9_entry 70 = .ok (.iconst (-1), 1) := by decide +kernel
theorem dX9_entry_71 : decode cX9_entry 71 = .ok (.ireturn, 1) := by decide +kernel
theorem dX9_plain_0 : decode cX9_plain 0 = .ok (.aload_n 0, 1) := by decide +kernel
theorem dX9_plain_1 : decode cX9_plain 1 = .ok (.getfield 22, 3) := by decide +kernel
theorem dX9_plain_4 : decode cX9_plain 4 = .ok (.invokevirtual 95, 3) := by decide +kernel
theorem dX9_plain_7 : decode cX9_plain 7 = .ok (.ireturn, 1) := by decide +kernel
theorem dX9_press_0 : decode cX9_press 0 = .ok (.aload_n 0, 1) := by decide +kernel
theorem dX9_press_1 : decode cX9_press 1 = .ok (.getfield 66, 3) := by decide +kernel
theorem dX9_press_4 : decode cX9_press 4 = .ok (.invokevirtual 99, 3) := by decide +kernel
theorem dX9_press_7 : decode cX9_press 7 = .ok (.aload_n 0, 1) := by decide +kernel
theorem dX9_press_8 : decode cX9_press 8 = .ok (.getfield 57, 3) := by decide +kernel
theorem dX9_press_11 : decode cX9_press 11 = .ok (.aload_n 0, 1) := by decide +kernel
theorem dX9_press_12 : decode cX9_press 12 = .ok (.getfield 15, 3) := by decide +kernel
theorem dX9_press_15 : decode cX9_press 15 = .ok (.aload_n 0, 1) := by decide +kernel
theorem dX9_press_16 : decode cX9_press 16 = .ok (.getfield 73, 3) := by decide +kernel
theorem dX9_press_19 : decode cX9_press 19 = .ok (.invokevirtual 102, 3) := by decide +kernel
theorem dX9_press_22 : decode cX9_press 22 = .ok (.ireturn, 1) := by decide +kernel
theorem dX9_frames_0 : decode cX9_frames 0 = .ok (.aload_n 0, 1) := by decide +kernel
theorem dX9_frames_1 : decode cX9_frames 1 = .ok (.getfield 48, 3) := by decide +kernel
theorem dX9_frames_4 : decode cX9_frames 4 = .ok (.invokevirtual 106, 3) := by decide +kernel
theorem dX9_frames_7 : decode cX9_frames 7 = .ok (.ireturn, 1) := by decide +kernel
theorem dX9_length_0 : decode cX9_length 0 = .ok (.aload_n 0, 1) := by decide +kernel
theorem dX9_length_1 : decode cX9_length 1 = .ok (.getfield 48, 3) := by decide +kernel
theorem dX9_length_4 : decode cX9_length 4 = .ok (.invokevirtual 109, 3) := by decide +kernel
theorem dX9_length_7 : decode cX9_length 7 = .ok (.ireturn, 1) := by decide +kernel
theorem dX9_bits_0 : decode cX9_bits 0 = .ok (.aload_n 0, 1) := by decide +kernel
theorem dX9_bits_1 : decode cX9_bits 1 = .ok (.getfield 48, 3) := by decide +kernel
theorem dX9_bits_4 : decode cX9_bits 4 = .ok (.iload_n 1, 1) := by decide +kernel
theorem dX9_bits_5 : decode cX9_bits 5 = .ok (.invokevirtual 112, 3) := by decide +kernel
theorem dX9_bits_8 : decode cX9_bits 8 = .ok (.ifCond .eq 14, 3) := by decide +kernel
theorem dX9_bits_11 : decode cX9_bits 11 = .ok (.aload_n 0, 1) := by decide +kernel
theorem dX9_bits_12 : decode cX9_bits 12 = .ok (.getfield 48, 3) := by decide +kernel
theorem dX9_bits_15 : decode cX9_bits 15 = .ok (.iload_n 1, 1) := by decide +kernel
theorem dX9_bits_16 : decode cX9_bits 16 = .ok (.invokevirtual 116, 3) := by decide +kernel
theorem dX9_bits_19 : decode cX9_bits 19 = .ok (.goto 4, 3) := by decide +kernel
theorem dX9_bits_22 : decode cX9_bits 22 = .ok (.iconst 0, 1) := by decide +kernel
theorem dX9_bits_23 : decode cX9_bits 23 = .ok (.ireturn, 1) := by decide +kernel
theorem dX9_word_0 : decode cX9_word 0 = .ok (.aload_n 0, 1) := by decide +kernel
theorem dX9_word_1 : decode cX9_word 1 = .ok (.getfield 48, 3) := by decide +kernel
theorem dX9_word_4 : decode cX9_word 4 = .ok (.iload_n 1, 1) := by decide +kernel
theorem dX9_word_5 : decode cX9_word 5 = .ok (.invokevirtual 119, 3) := by decide +kernel
theorem dX9_word_8 : decode cX9_word 8 = .ok (.ifCond .eq 13, 3) := by decide +kernel
theorem dX9_word_11 : decode cX9_word 11 = .ok (.iload_n 2, 1) := by decide +kernel
theorem dX9_word_12 : decode cX9_word 12 = .ok (.ifCond .lt 9, 3) := by decide +kernel
theorem dX9_word_15 : decode cX9_word 15 = .ok (.iload_n 2, 1) := by decide +kernel
theorem dX9_word_16 : decode cX9_word 16 = .ok (.bipush 32, 2) := by decide +kernel
theorem dX9_word_18 : decode cX9_word 18 = .ok (.if_icmp .le 5, 3) := by decide +kernel
theorem dX9_word_21 : decode cX9_word 21 = .ok (.iconst (-1), 1) := by decide +kernel
theorem dX9_word_22 : decode cX9_word 22 = .ok (.ireturn, 1) := by decide +kernel
theorem dX9_word_23 : decode cX9_word 23 = .ok (.aload_n 0, 1) := by decide +kernel
theorem dX9_word_24 : decode cX9_word 24 = .ok (.getfield 48, 3) := by decide +kernel
theorem dX9_word_27 : decode cX9_word 27 = .ok (.sipush 588, 3) := by decide +kernel
theorem dX9_word_30 : decode cX9_word 30 = .ok (.iload_n 1, 1) := by decide +kernel
theorem dX9_word_31 : decode cX9_word 31 = .ok (.imul, 1) := by decide +kernel
theorem dX9_word_32 : decode cX9_word 32 = .ok (.iload_n 2, 1) := by decide +kernel
theorem dX9_word_33 : decode cX9_word 33 = .ok (.invokevirtual 122, 3) := by decide +kernel
theorem dX9_word_36 : decode cX9_word 36 = .ok (.ireturn, 1) := by decide +kernel
theorem dX9_joint_0 : decode cX9_joint 0 = .ok (.aload_n 0, 1) := by decide +kernel
theorem dX9_joint_1 : decode cX9_joint 1 = .ok (.getfield 48, 3) := by decide +kernel
theorem dX9_joint_4 : decode cX9_joint 4 = .ok (.iload_n 1, 1) := by decide +kernel
theorem dX9_joint_5 : decode cX9_joint 5 = .ok (.invokevirtual 119, 3) := by decide +kernel
theorem dX9_joint_8 : decode cX9_joint 8 = .ok (.ifCond .eq 13, 3) := by decide +kernel
theorem dX9_joint_11 : decode cX9_joint 11 = .ok (.iload_n 2, 1) := by decide +kernel
theorem dX9_joint_12 : decode cX9_joint 12 = .ok (.ifCond .lt 9, 3) := by decide +kernel
theorem dX9_joint_15 : decode cX9_joint 15 = .ok (.iload_n 2, 1) := by decide +kernel
theorem dX9_joint_16 : decode cX9_joint 16 = .ok (.bipush 33, 2) := by decide +kernel
theorem dX9_joint_18 : decode cX9_joint 18 = .ok (.if_icmp .le 5, 3) := by decide +kernel
theorem dX9_joint_21 : decode cX9_joint 21 = .ok (.iconst (-1), 1) := by decide +kernel
theorem dX9_joint_22 : decode cX9_joint 22 = .ok (.ireturn, 1) := by decide +kernel
theorem dX9_joint_23 : decode cX9_joint 23 = .ok (.aload_n 0, 1) := by decide +kernel
theorem dX9_joint_24 : decode cX9_joint 24 = .ok (.getfield 48, 3) := by decide +kernel
theorem dX9_joint_27 : decode cX9_joint 27 = .ok (.sipush 588, 3) := by decide +kernel
theorem dX9_joint_30 : decode cX9_joint 30 = .ok (.iload_n 1, 1) := by decide +kernel
theorem dX9_joint_31 : decode cX9_joint 31 = .ok (.imul, 1) := by decide +kernel
theorem dX9_joint_32 : decode cX9_joint 32 = .ok (.bipush 24, 2) := by decide +kernel
theorem dX9_joint_34 : decode cX9_joint 34 = .ok (.iadd, 1) := by decide +kernel
theorem dX9_joint_35 : decode cX9_joint 35 = .ok (.bipush 17, 2) := by decide +kernel
theorem dX9_joint_37 : decode cX9_joint 37 = .ok (.iload_n 2, 1) := by decide +kernel
theorem dX9_joint_38 : decode cX9_joint 38 = .ok (.imul, 1) := by decide +kernel
theorem dX9_joint_39 : decode cX9_joint 39 = .ok (.iadd, 1) := by decide +kernel
theorem dX9_joint_40 : decode cX9_joint 40 = .ok (.invokevirtual 116, 3) := by decide +kernel
theorem dX9_joint_43 : decode cX9_joint 43 = .ok (.bipush 29, 2) := by decide +kernel
theorem dX9_joint_45 : decode cX9_joint 45 = .ok (.iushr, 1) := by decide +kernel
theorem dX9_joint_46 : decode cX9_joint 46 = .ok (.ireturn, 1) := by decide +kernel
theorem dX9_balance_0 : decode cX9_balance 0 = .ok (.iload_n 1, 1) := by decide +kernel
theorem dX9_balance_1 : decode cX9_balance 1 = .ok (.ifCond .lt 14, 3) := by decide +kernel
theorem dX9_balance_4 : decode cX9_balance 4 = .ok (.iload_n 1, 1) := by decide +kernel
theorem dX9_balance_5 : decode cX9_balance 5 = .ok (.aload_n 0, 1) := by decide +kernel
theorem dX9_balance_6 : decode cX9_balance 6 = .ok (.getfield 48, 3) := by decide +kernel
theorem dX9_balance_9 : decode cX9_balance 9 = .ok (.invokevirtual 109, 3) := by decide +kernel
theorem dX9_balance_12 : decode cX9_balance 12 = .ok (.if_icmp .le 8, 3) := by decide +kernel
theorem dX9_balance_15 : decode cX9_balance 15 = .ok (.ldc 126, 2) := by decide +kernel
theorem dX9_balance_17 : decode cX9_balance 17 = .ok (.goto 11, 3) := by decide +kernel
theorem dX9_balance_20 : decode cX9_balance 20 = .ok (.aload_n 0, 1) := by decide +kernel
theorem dX9_balance_21 : decode cX9_balance 21 = .ok (.getfield 48, 3) := by decide +kernel
theorem dX9_balance_24 : decode cX9_balance 24 = .ok (.iload_n 1, 1) := by decide +kernel
theorem dX9_balance_25 : decode cX9_balance 25 = .ok (.invokevirtual 127, 3) := by decide +kernel
theorem dX9_balance_28 : decode cX9_balance 28 = .ok (.ireturn, 1) := by decide +kernel
theorem dX9_run_0 : decode cX9_run 0 = .ok (.aload_n 0, 1) := by decide +kernel
theorem dX9_run_1 : decode cX9_run 1 = .ok (.getfield 48, 3) := by decide +kernel
theorem dX9_run_4 : decode cX9_run 4 = .ok (.iload_n 1, 1) := by decide +kernel
theorem dX9_run_5 : decode cX9_run 5 = .ok (.invokevirtual 130, 3) := by decide +kernel
theorem dX9_run_8 : decode cX9_run 8 = .ok (.ireturn, 1) := by decide +kernel
theorem dX9_signs_0 : decode cX9_signs 0 = .ok (.aload_n 0, 1) := by decide +kernel
theorem dX9_signs_1 : decode cX9_signs 1 = .ok (.getfield 48, 3) := by decide +kernel
theorem dX9_signs_4 : decode cX9_signs 4 = .ok (.invokevirtual 134, 3) := by decide +kernel
theorem dX9_signs_7 : decode cX9_signs 7 = .ok (.ireturn, 1) := by decide +kernel
theorem dX9_signAt_0 : decode cX9_signAt 0 = .ok (.aload_n 0, 1) := by decide +kernel
theorem dX9_signAt_1 : decode cX9_signAt 1 = .ok (.getfield 48, 3) := by decide +kernel
theorem dX9_signAt_4 : decode cX9_signAt 4 = .ok (.iload_n 1, 1) := by decide +kernel
theorem dX9_signAt_5 : decode cX9_signAt 5 = .ok (.invokevirtual 137, 3) := by decide +kernel
theorem dX9_signAt_8 : decode cX9_signAt 8 = .ok (.ireturn, 1) := by decide +kernel
theorem dX9_flip_0 : decode cX9_flip 0 = .ok (.aload_n 0, 1) := by decide +kernel
theorem dX9_flip_1 : decode cX9_flip 1 = .ok (.getfield 48, 3) := by decide +kernel
theorem dX9_flip_4 : decode cX9_flip 4 = .ok (.iload_n 1, 1) := by decide +kernel
theorem dX9_flip_5 : decode cX9_flip 5 = .ok (.invokevirtual 112, 3) := by decide +kernel
theorem dX9_flip_8 : decode cX9_flip 8 = .ok (.ifCond .ne 5, 3) := by decide +kernel
theorem dX9_flip_11 : decode cX9_flip 11 = .ok (.iconst 0, 1) := by decide +kernel
theorem dX9_flip_12 : decode cX9_flip 12 = .ok (.ireturn, 1) := by decide +kernel
theorem dX9_flip_13 : decode cX9_flip 13 = .ok (.aload_n 0, 1) := by decide +kernel
theorem dX9_flip_14 : decode cX9_flip 14 = .ok (.getfield 48, 3) := by decide +kernel
theorem dX9_flip_17 : decode cX9_flip 17 = .ok (.iload_n 1, 1) := by decide +kernel
theorem dX9_flip_18 : decode cX9_flip 18 = .ok (.invokevirtual 140, 3) := by decide +kernel
theorem dX9_flip_21 : decode cX9_flip 21 = .ok (.iconst 1, 1) := by decide +kernel
theorem dX9_flip_22 : decode cX9_flip 22 = .ok (.ireturn, 1) := by decide +kernel
theorem dX9_scratch_0 : decode cX9_scratch 0 = .ok (.aload_n 0, 1) := by decide +kernel
theorem dX9_scratch_1 : decode cX9_scratch 1 = .ok (.iload_n 1, 1) := by decide +kernel
theorem dX9_scratch_2 : decode cX9_scratch 2 = .ok (.iload_n 2, 1) := by decide +kernel
theorem dX9_scratch_3 : decode cX9_scratch 3 = .ok (.invokevirtual 143, 3) := by decide +kernel
theorem dX9_scratch_6 : decode cX9_scratch 6 = .ok (.ifCond .ne 5, 3) := by decide +kernel
theorem dX9_scratch_9 : decode cX9_scratch 9 = .ok (.iconst (-1), 1) := by decide +kernel
theorem dX9_scratch_10 : decode cX9_scratch 10 = .ok (.ireturn, 1) := by decide +kernel
theorem dX9_scratch_11 : decode cX9_scratch 11 = .ok (.sipush 588, 3) := by decide +kernel
theorem dX9_scratch_14 : decode cX9_scratch 14 = .ok (.iload_n 1, 1) := by decide +kernel
theorem dX9_scratch_15 : decode cX9_scratch 15 = .ok (.imul, 1) := by decide +kernel
theorem dX9_scratch_16 : decode cX9_scratch 16 = .ok (.istore_n 3, 1) := by decide +kernel
theorem dX9_scratch_17 : decode cX9_scratch 17 = .ok (.aload_n 0, 1) := by decide +kernel
theorem dX9_scratch_18 : decode cX9_scratch 18 = .ok (.getfield 48, 3) := by decide +kernel
theorem dX9_scratch_21 : decode cX9_scratch 21 = .ok (.invokevirtual 109, 3) := by decide +kernel
theorem dX9_scratch_24 : decode cX9_scratch 24 = .ok (.iload_n 3, 1) := by decide +kernel
theorem dX9_scratch_25 : decode cX9_scratch 25 = .ok (.sipush 588, 3) := by decide +kernel
theorem dX9_scratch_28 : decode cX9_scratch 28 = .ok (.iload_n 2, 1) := by decide +kernel
theorem dX9_scratch_29 : decode cX9_scratch 29 = .ok (.imul, 1) := by decide +kernel
theorem dX9_scratch_30 : decode cX9_scratch 30 = .ok (.iadd, 1) := by decide +kernel
theorem dX9_scratch_31 : decode cX9_scratch 31 = .ok (.invokestatic 147, 3) := by decide +kernel
theorem dX9_scratch_34 : decode cX9_scratch 34 = .ok (.istore 4, 2) := by decide +kernel
theorem dX9_scratch_36 : decode cX9_scratch 36 = .ok (.aload_n 0, 1) := by decide +kernel
theorem dX9_scratch_37 : decode cX9_scratch 37 = .ok (.getfield 48, 3) := by decide +kernel
theorem dX9_scratch_40 : decode cX9_scratch 40 = .ok (.iload_n 3, 1) := by decide +kernel
theorem dX9_scratch_41 : decode cX9_scratch 41 = .ok (.iload 4, 2) := by decide +kernel
theorem dX9_scratch_43 : decode cX9_scratch 43 = .ok (.invokevirtual 152, 3) := by decide +kernel
theorem dX9_scratch_46 : decode cX9_scratch 46 = .ok (.iload 4, 2) := by decide +kernel
theorem dX9_scratch_48 : decode cX9_scratch 48 = .ok (.iload_n 3, 1) := by decide +kernel
theorem dX9_scratch_49 : decode cX9_scratch 49 = .ok (.isub, 1) := by decide +kernel
theorem dX9_scratch_50 : decode cX9_scratch 50 = .ok (.ireturn, 1) := by decide +kernel
theorem dX9_noise_0 : decode cX9_noise 0 = .ok (.aload_n 0, 1) := by decide +kernel
theorem dX9_noise_1 : decode cX9_noise 1 = .ok (.iload_n 1, 1) := by decide +kernel
theorem dX9_noise_2 : decode cX9_noise 2 = .ok (.iload_n 2, 1) := by decide +kernel
theorem dX9_noise_3 : decode cX9_noise 3 = .ok (.invokevirtual 143, 3) := by decide +kernel
theorem dX9_noise_6 : decode cX9_noise 6 = .ok (.ifCond .ne 5, 3) := by decide +kernel
theorem dX9_noise_9 : decode cX9_noise 9 = .ok (.iconst (-1), 1) := by decide +kernel
theorem dX9_noise_10 : decode cX9_noise 10 = .ok (.ireturn, 1) := by decide +kernel
theorem dX9_noise_11 : decode cX9_noise 11 = .ok (.sipush 588, 3) := by decide +kernel
theorem dX9_noise_14 : decode cX9_noise 14 = .ok (.iload_n 1, 1) := by decide +kernel
theorem dX9_noise_15 : decode cX9_noise 15 = .ok (.imul, 1) := by decide +kernel
theorem dX9_noise_16 : decode cX9_noise 16 = .ok (.istore 4, 2) := by decide +kernel
theorem dX9_noise_18 : decode cX9_noise 18 = .ok (.aload_n 0, 1) := by decide +kernel
theorem dX9_noise_19 : decode cX9_noise 19 = .ok (.getfield 48, 3) := by decide +kernel
theorem dX9_noise_22 : decode cX9_noise 22 = .ok (.invokevirtual 109, 3) := by decide +kernel
theorem dX9_noise_25 : decode cX9_noise 25 = .ok (.iload 4, 2) := by decide +kernel
theorem dX9_noise_27 : decode cX9_noise 27 = .ok (.sipush 588, 3) := by decide +kernel
theorem dX9_noise_30 : decode cX9_noise 30 = .ok (.iload_n 2, 1) := by decide +kernel
theorem dX9_noise_31 : decode cX9_noise 31 = .ok (.imul, 1) := by decide +kernel
theorem dX9_noise_32 : decode cX9_noise 32 = .ok (.iadd, 1) := by decide +kernel
theorem dX9_noise_33 : decode cX9_noise 33 = .ok (.invokestatic 147, 3) := by decide +kernel
theorem dX9_noise_36 : decode cX9_noise 36 = .ok (.istore 5, 2) := by decide +kernel
theorem dX9_noise_38 : decode cX9_noise 38 = .ok (.iload_n 3, 1) := by decide +kernel
theorem dX9_noise_39 : decode cX9_noise 39 = .ok (.istore 6, 2) := by decide +kernel
theorem dX9_noise_41 : decode cX9_noise 41 = .ok (.iconst 0, 1) := by decide +kernel
theorem dX9_noise_42 : decode cX9_noise 42 = .ok (.istore 7, 2) := by decide +kernel
theorem dX9_noise_44 : decode cX9_noise 44 = .ok (.iload 4, 2) := by decide +kernel
theorem dX9_noise_46 : decode cX9_noise 46 = .ok (.istore 8, 2) := by decide +kernel
theorem dX9_noise_48 : decode cX9_noise 48 = .ok (.iload 8, 2) := by decide +kernel
theorem dX9_noise_50 : decode cX9_noise 50 = .ok (.iload 5, 2) := by decide +kernel
theorem dX9_noise_52 : decode cX9_noise 52 = .ok (.if_icmp .ge 33, 3) := by decide +kernel
theorem dX9_noise_55 : decode cX9_noise 55 = .ok (.iload 6, 2) := by decide +kernel
theorem dX9_noise_57 : decode cX9_noise 57 = .ok (.invokestatic 81, 3) := by decide +kernel
theorem dX9_noise_60 : decode cX9_noise 60 = .ok (.istore 6, 2) := by decide +kernel
theorem dX9_noise_62 : decode cX9_noise 62 = .ok (.iload 6, 2) := by decide +kernel
theorem dX9_noise_64 : decode cX9_noise 64 = .ok (.ifCond .ge 15, 3) := by decide +kernel
theorem dX9_noise_67 : decode cX9_noise 67 = .ok (.aload_n 0, 1) := by decide +kernel
theorem dX9_noise_68 : decode cX9_noise 68 = .ok (.getfield 48, 3) := by decide +kernel
theorem dX9_noise_71 : decode cX9_noise 71 = .ok (.iload 8, 2) := by decide +kernel
theorem dX9_noise_73 : decode cX9_noise 73 = .ok (.invokevirtual 140, 3) := by decide +kernel
theorem dX9_noise_76 : decode cX9_noise 76 = .ok (.iinc 7 1, 3) := by decide +kernel
theorem dX9_noise_79 : decode cX9_noise 79 = .ok (.iinc 8 1, 3) := by decide +kernel
theorem dX9_noise_82 : decode cX9_noise 82 = .ok (.goto (-34), 3) := by decide +kernel
theorem dX9_noise_85 : decode cX9_noise 85 = .ok (.iload 7, 2) := by decide +kernel
theorem dX9_noise_87 : decode cX9_noise 87 = .ok (.ireturn, 1) := by decide +kernel
theorem dX9_canSpoil_0 : decode cX9_canSpoil 0 = .ok (.iload_n 1, 1) := by decide +kernel
theorem dX9_canSpoil_1 : decode cX9_canSpoil 1 = .ok (.ifCond .lt 36, 3) := by decide +kernel
theorem dX9_canSpoil_4 : decode cX9_canSpoil 4 = .ok (.ldc2_w 156, 3) := by decide +kernel
theorem dX9_canSpoil_7 : decode cX9_canSpoil 7 = .ok (.iload_n 1, 1) := by decide +kernel
theorem dX9_canSpoil_8 : decode cX9_canSpoil 8 = .ok (.i2l, 1) := by decide +kernel
theorem dX9_canSpoil_9 : decode cX9_canSpoil 9 = .ok (.lmul, 1) := by decide +kernel
theorem dX9_canSpoil_10 : decode cX9_canSpoil 10 = .ok (.aload_n 0, 1) := by decide +kernel
theorem dX9_canSpoil_11 : decode cX9_canSpoil 11 = .ok (.getfield 48, 3) := by decide +kernel
theorem dX9_canSpoil_14 : decode cX9_canSpoil 14 = .ok (.invokevirtual 109, 3) := by decide +kernel
theorem dX9_canSpoil_17 : decode cX9_canSpoil 17 = .ok (.i2l, 1) := by decide +kernel
theorem dX9_canSpoil_18 : decode cX9_canSpoil 18 = .ok (.lcmp, 1) := by decide +kernel
theorem dX9_canSpoil_19 : decode cX9_canSpoil 19 = .ok (.ifCond .ge 18, 3) := by decide +kernel
theorem dX9_canSpoil_22 : decode cX9_canSpoil 22 = .ok (.iload_n 2, 1) := by decide +kernel
theorem dX9_canSpoil_23 : decode cX9_canSpoil 23 = .ok (.ifCond .lt 14, 3) := by decide +kernel
theorem dX9_canSpoil_26 : decode cX9_canSpoil 26 = .ok (.iload_n 2, 1) := by decide +kernel
theorem dX9_canSpoil_27 : decode cX9_canSpoil 27 = .ok (.sipush 600, 3) := by decide +kernel
theorem dX9_canSpoil_30 : decode cX9_canSpoil 30 = .ok (.if_icmp .gt 7, 3) := by decide +kernel
theorem dX9_canSpoil_33 : decode cX9_canSpoil 33 = .ok (.iconst 1, 1) := by decide +kernel
theorem dX9_canSpoil_34 : decode cX9_canSpoil 34 = .ok (.goto 4, 3) := by decide +kernel
theorem dX9_canSpoil_37 : decode cX9_canSpoil 37 = .ok (.iconst 0, 1) := by decide +kernel
theorem dX9_canSpoil_38 : decode cX9_canSpoil 38 = .ok (.ireturn, 1) := by decide +kernel
theorem dX9_slip_0 : decode cX9_slip 0 = .ok (.aload_n 0, 1) := by decide +kernel
theorem dX9_slip_1 : decode cX9_slip 1 = .ok (.getfield 48, 3) := by decide +kernel
theorem dX9_slip_4 : decode cX9_slip 4 = .ok (.invokevirtual 106, 3) := by decide +kernel
theorem dX9_slip_7 : decode cX9_slip 7 = .ok (.ifCond .eq 46, 3) := by decide +kernel
theorem dX9_slip_10 : decode cX9_slip 10 = .ok (.iload_n 1, 1) := by decide +kernel
theorem dX9_slip_11 : decode cX9_slip 11 = .ok (.ifCond .lt 42, 3) := by decide +kernel
theorem dX9_slip_14 : decode cX9_slip 14 = .ok (.iload_n 1, 1) := by decide +kernel
theorem dX9_slip_15 : decode cX9_slip 15 = .ok (.aload_n 0, 1) := by decide +kernel
theorem dX9_slip_16 : decode cX9_slip 16 = .ok (.getfield 48, 3) := by decide +kernel
theorem dX9_slip_19 : decode cX9_slip 19 = .ok (.invokevirtual 109, 3) := by decide +kernel
theorem dX9_slip_22 : decode cX9_slip 22 = .ok (.if_icmp .gt 31, 3) := by decide +kernel
theorem dX9_slip_25 : decode cX9_slip 25 = .ok (.iload_n 2, 1) := by decide +kernel
theorem dX9_slip_26 : decode cX9_slip 26 = .ok (.sipush (-600), 3) := by decide +kernel
theorem dX9_slip_29 : decode cX9_slip 29 = .ok (.if_icmp .lt 24, 3) := by decide +kernel
theorem dX9_slip_32 : decode cX9_slip 32 = .ok (.iload_n 2, 1) := by decide +kernel
theorem dX9_slip_33 : decode cX9_slip 33 = .ok (.sipush 600, 3) := by decide +kernel
theorem dX9_slip_36 : decode cX9_slip 36 = .ok (.if_icmp .gt 17, 3) := by decide +kernel
theorem dX9_slip_39 : decode cX9_slip 39 = .ok (.iload_n 2, 1) := by decide +kernel
theorem dX9_slip_40 : decode cX9_slip 40 = .ok (.ldc 158, 2) := by decide +kernel
theorem dX9_slip_42 : decode cX9_slip 42 = .ok (.aload_n 0, 1) := by decide +kernel
theorem dX9_slip_43 : decode cX9_slip 43 = .ok (.getfield 48, 3) := by decide +kernel
theorem dX9_slip_46 : decode cX9_slip 46 = .ok (.invokevirtual 109, 3) := by decide +kernel
theorem dX9_slip_49 : decode cX9_slip 49 = .ok (.isub, 1) := by decide +kernel
theorem dX9_slip_50 : decode cX9_slip 50 = .ok (.if_icmp .le 5, 3) := by decide +kernel
theorem dX9_slip_53 : decode cX9_slip 53 = .ok (.iconst (-1), 1) := by decide +kernel
theorem dX9_slip_54 : decode cX9_slip 54 = .ok (.ireturn, 1) := by decide +kernel
theorem dX9_slip_55 : decode cX9_slip 55 = .ok (.iload_n 2, 1) := by decide +kernel
theorem dX9_slip_56 : decode cX9_slip 56 = .ok (.ifCond .lt 15, 3) := by decide +kernel
theorem dX9_slip_59 : decode cX9_slip 59 = .ok (.aload_n 0, 1) := by decide +kernel
theorem dX9_slip_60 : decode cX9_slip 60 = .ok (.getfield 48, 3) := by decide +kernel
theorem dX9_slip_63 : decode cX9_slip 63 = .ok (.iload_n 1, 1) := by decide +kernel
theorem dX9_slip_64 : decode cX9_slip 64 = .ok (.iload_n 2, 1) := by decide +kernel
theorem dX9_slip_65 : decode cX9_slip 65 = .ok (.invokevirtual 159, 3) := by decide +kernel
theorem dX9_slip_68 : decode cX9_slip 68 = .ok (.goto 13, 3) := by decide +kernel
theorem dX9_slip_71 : decode cX9_slip 71 = .ok (.aload_n 0, 1) := by decide +kernel
theorem dX9_slip_72 : decode cX9_slip 72 = .ok (.getfield 48, 3) := by decide +kernel
theorem dX9_slip_75 : decode cX9_slip 75 = .ok (.iload_n 1, 1) := by decide +kernel
theorem dX9_slip_76 : decode cX9_slip 76 = .ok (.iload_n 2, 1) := by decide +kernel
theorem dX9_slip_77 : decode cX9_slip 77 = .ok (.ineg, 1) := by decide +kernel
theorem dX9_slip_78 : decode cX9_slip 78 = .ok (.invokevirtual 162, 3) := by decide +kernel
theorem dX9_slip_81 : decode cX9_slip 81 = .ok (.aload_n 0, 1) := by decide +kernel
theorem dX9_slip_82 : decode cX9_slip 82 = .ok (.getfield 48, 3) := by decide +kernel
theorem dX9_slip_85 : decode cX9_slip 85 = .ok (.invokevirtual 109, 3) := by decide +kernel
theorem dX9_slip_88 : decode cX9_slip 88 = .ok (.ireturn, 1) := by decide +kernel
theorem dX9_play_0 : decode cX9_play 0 = .ok (.aload_n 0, 1) := by decide +kernel
theorem dX9_play_1 : decode cX9_play 1 = .ok (.getfield 48, 3) := by decide +kernel
theorem dX9_play_4 : decode cX9_play 4 = .ok (.invokevirtual 106, 3) := by decide +kernel
theorem dX9_play_7 : decode cX9_play 7 = .ok (.ifCond .eq 27, 3) := by decide +kernel
theorem dX9_play_10 : decode cX9_play 10 = .ok (.iload_n 1, 1) := by decide +kernel
theorem dX9_play_11 : decode cX9_play 11 = .ok (.invokestatic 165, 3) := by decide +kernel
theorem dX9_play_14 : decode cX9_play 14 = .ok (.ifCond .eq 20, 3) := by decide +kernel
theorem dX9_play_17 : decode cX9_play 17 = .ok (.iload_n 2, 1) := by decide +kernel
theorem dX9_play_18 : decode cX9_play 18 = .ok (.invokestatic 165, 3) := by decide +kernel
theorem dX9_play_21 : decode cX9_play 21 = .ok (.ifCond .eq 13, 3) := by decide +kernel
theorem dX9_play_24 : decode cX9_play 24 = .ok (.iload_n 3, 1) := by decide +kernel
theorem dX9_play_25 : decode cX9_play 25 = .ok (.ifCond .lt 9, 3) := by decide +kernel
theorem dX9_play_28 : decode cX9_play 28 = .ok (.iload_n 3, 1) := by decide +kernel
theorem dX9_play_29 : decode cX9_play 29 = .ok (.bipush 20, 2) := by decide +kernel
theorem dX9_play_31 : decode cX9_play 31 = .ok (.if_icmp .le 5, 3) := by decide +kernel
theorem dX9_play_34 : decode cX9_play 34 = .ok (.iconst (-1), 1) := by decide +kernel
theorem dX9_play_35 : decode cX9_play 35 = .ok (.ireturn, 1) := by decide +kernel
theorem dX9_play_36 : decode cX9_play 36 = .ok (.aload_n 0, 1) := by decide +kernel
theorem dX9_play_37 : decode cX9_play 37 = .ok (.getfield 66, 3) := by decide +kernel
theorem dX9_play_40 : decode cX9_play 40 = .ok (.iload_n 1, 1) := by decide +kernel
theorem dX9_play_41 : decode cX9_play 41 = .ok (.iload_n 2, 1) := by decide +kernel
theorem dX9_play_42 : decode cX9_play 42 = .ok (.iload_n 3, 1) := by decide +kernel
theorem dX9_play_43 : decode cX9_play 43 = .ok (.invokevirtual 168, 3) := by decide +kernel
theorem dX9_play_46 : decode cX9_play 46 = .ok (.ireturn, 1) := by decide +kernel
theorem dX9_isReach_0 : decode cX9_isReach 0 = .ok (.iload_n 0, 1) := by decide +kernel
theorem dX9_isReach_1 : decode cX9_isReach 1 = .ok (.ifCond .lt 12, 3) := by decide +kernel
theorem dX9_isReach_4 : decode cX9_isReach 4 = .ok (.iload_n 0, 1) := by decide +kernel
theorem dX9_isReach_5 : decode cX9_isReach 5 = .ok (.iconst 2, 1) := by decide +kernel
theorem dX9_isReach_6 : decode cX9_isReach 6 = .ok (.if_icmp .gt 7, 3) := by decide +kernel
theorem dX9_isReach_9 : decode cX9_isReach 9 = .ok (.iconst 1, 1) := by decide +kernel
theorem dX9_isReach_10 : decode cX9_isReach 10 = .ok (.goto 4, 3) := by decide +kernel
theorem dX9_isReach_13 : decode cX9_isReach 13 = .ok (.iconst 0, 1) := by decide +kernel
theorem dX9_isReach_14 : decode cX9_isReach 14 = .ok (.ireturn, 1) := by decide +kernel
theorem dX9_played_0 : decode cX9_played 0 = .ok (.aload_n 0, 1) := by decide +kernel
theorem dX9_played_1 : decode cX9_played 1 = .ok (.getfield 66, 3) := by decide +kernel
theorem dX9_played_4 : decode cX9_played 4 = .ok (.iload_n 1, 1) := by decide +kernel
theorem dX9_played_5 : decode cX9_played 5 = .ok (.invokevirtual 172, 3) := by decide +kernel
theorem dX9_played_8 : decode cX9_played 8 = .ok (.ifCond .eq 14, 3) := by decide +kernel
theorem dX9_played_11 : decode cX9_played 11 = .ok (.aload_n 0, 1) := by decide +kernel
theorem dX9_played_12 : decode cX9_played 12 = .ok (.getfield 66, 3) := by decide +kernel
theorem dX9_played_15 : decode cX9_played 15 = .ok (.iload_n 1, 1) := by decide +kernel
theorem dX9_played_16 : decode cX9_played 16 = .ok (.invokevirtual 175, 3) := by decide +kernel
theorem dX9_played_19 : decode cX9_played 19 = .ok (.goto 4, 3) := by decide +kernel
theorem dX9_played_22 : decode cX9_played 22 = .ok (.iconst (-1), 1) := by decide +kernel
theorem dX9_played_23 : decode cX9_played 23 = .ok (.ireturn, 1) := by decide +kernel
theorem dX9_isSure_0 : decode cX9_isSure 0 = .ok (.aload_n 0, 1) := by decide +kernel
theorem dX9_isSure_1 : decode cX9_isSure 1 = .ok (.getfield 66, 3) := by decide +kernel
theorem dX9_isSure_4 : decode cX9_isSure 4 = .ok (.iload_n 1, 1) := by decide +kernel
theorem dX9_isSure_5 : decode cX9_isSure 5 = .ok (.invokevirtual 172, 3) := by decide +kernel
theorem dX9_isSure_8 : decode cX9_isSure 8 = .ok (.ifCond .eq 18, 3) := by decide +kernel
theorem dX9_isSure_11 : decode cX9_isSure 11 = .ok (.aload_n 0, 1) := by decide +kernel
theorem dX9_isSure_12 : decode cX9_isSure 12 = .ok (.getfield 66, 3) := by decide +kernel
theorem dX9_isSure_15 : decode cX9_isSure 15 = .ok (.iload_n 1, 1) := by decide +kernel
theorem dX9_isSure_16 : decode cX9_isSure 16 = .ok (.invokevirtual 178, 3) := by decide +kernel
theorem dX9_isSure_19 : decode cX9_isSure 19 = .ok (.ifCond .eq 7, 3) := by decide +kernel
theorem dX9_isSure_22 : decode cX9_isSure 22 = .ok (.iconst 1, 1) := by decide +kernel
theorem dX9_isSure_23 : decode cX9_isSure 23 = .ok (.goto 4, 3) := by decide +kernel
theorem dX9_isSure_26 : decode cX9_isSure 26 = .ok (.iconst 0, 1) := by decide +kernel
theorem dX9_isSure_27 : decode cX9_isSure 27 = .ok (.ireturn, 1) := by decide +kernel
theorem dX9_heard_0 : decode cX9_heard 0 = .ok (.aload_n 0, 1) := by decide +kernel
theorem dX9_heard_1 : decode cX9_heard 1 = .ok (.getfield 66, 3) := by decide +kernel
theorem dX9_heard_4 : decode cX9_heard 4 = .ok (.iload_n 1, 1) := by decide +kernel
theorem dX9_heard_5 : decode cX9_heard 5 = .ok (.iload_n 2, 1) := by decide +kernel
theorem dX9_heard_6 : decode cX9_heard 6 = .ok (.invokevirtual 181, 3) := by decide +kernel
theorem dX9_heard_9 : decode cX9_heard 9 = .ok (.ireturn, 1) := by decide +kernel
theorem dX9_inner_0 : decode cX9_inner 0 = .ok (.aload_n 0, 1) := by decide +kernel
theorem dX9_inner_1 : decode cX9_inner 1 = .ok (.getfield 66, 3) := by decide +kernel
theorem dX9_inner_4 : decode cX9_inner 4 = .ok (.iload_n 1, 1) := by decide +kernel
theorem dX9_inner_5 : decode cX9_inner 5 = .ok (.invokevirtual 185, 3) := by decide +kernel
theorem dX9_inner_8 : decode cX9_inner 8 = .ok (.ireturn, 1) := by decide +kernel
theorem dX9_outer_0 : decode cX9_outer 0 = .ok (.aload_n 0, 1) := by decide +kernel
theorem dX9_outer_1 : decode cX9_outer 1 = .ok (.getfield 66, 3) := by decide +kernel
theorem dX9_outer_4 : decode cX9_outer 4 = .ok (.iload_n 1, 1) := by decide +kernel
theorem dX9_outer_5 : decode cX9_outer 5 = .ok (.invokevirtual 188, 3) := by decide +kernel
theorem dX9_outer_8 : decode cX9_outer 8 = .ok (.ireturn, 1) := by decide +kernel
theorem dX9_told_0 : decode cX9_told 0 = .ok (.aload_n 0, 1) := by decide +kernel
theorem dX9_told_1 : decode cX9_told 1 = .ok (.getfield 66, 3) := by decide +kernel
theorem dX9_told_4 : decode cX9_told 4 = .ok (.iload_n 1, 1) := by decide +kernel
theorem dX9_told_5 : decode cX9_told 5 = .ok (.invokevirtual 191, 3) := by decide +kernel
theorem dX9_told_8 : decode cX9_told 8 = .ok (.ireturn, 1) := by decide +kernel
theorem dX9_q_0 : decode cX9_q 0 = .ok (.aload_n 0, 1) := by decide +kernel
theorem dX9_q_1 : decode cX9_q 1 = .ok (.getfield 66, 3) := by decide +kernel
theorem dX9_q_4 : decode cX9_q 4 = .ok (.iload_n 1, 1) := by decide +kernel
theorem dX9_q_5 : decode cX9_q 5 = .ok (.iload_n 2, 1) := by decide +kernel
theorem dX9_q_6 : decode cX9_q 6 = .ok (.invokevirtual 194, 3) := by decide +kernel
theorem dX9_q_9 : decode cX9_q 9 = .ok (.ireturn, 1) := by decide +kernel
theorem dX9_burst_0 : decode cX9_burst 0 = .ok (.iload_n 1, 1) := by decide +kernel
theorem dX9_burst_1 : decode cX9_burst 1 = .ok (.iconst 1, 1) := by decide +kernel
theorem dX9_burst_2 : decode cX9_burst 2 = .ok (.if_icmp .lt 10, 3) := by decide +kernel
theorem dX9_burst_5 : decode cX9_burst 5 = .ok (.iload_n 1, 1) := by decide +kernel
theorem dX9_burst_6 : decode cX9_burst 6 = .ok (.sipush 200, 3) := by decide +kernel
theorem dX9_burst_9 : decode cX9_burst 9 = .ok (.if_icmp .le 5, 3) := by decide +kernel
theorem dX9_burst_12 : decode cX9_burst 12 = .ok (.iconst (-1), 1) := by decide +kernel
theorem dX9_burst_13 : decode cX9_burst 13 = .ok (.ireturn, 1) := by decide +kernel
theorem dX9_burst_14 : decode cX9_burst 14 = .ok (.bipush 28, 2) := by decide +kernel
theorem dX9_burst_16 : decode cX9_burst 16 = .ok (.iload_n 1, 1) := by decide +kernel
theorem dX9_burst_17 : decode cX9_burst 17 = .ok (.iconst 4, 1) := by decide +kernel
theorem dX9_burst_18 : decode cX9_burst 18 = .ok (.idiv, 1) := by decide +kernel
theorem dX9_burst_19 : decode cX9_burst 19 = .ok (.iconst 1, 1) := by decide +kernel
theorem dX9_burst_20 : decode cX9_burst 20 = .ok (.iadd, 1) := by decide +kernel
theorem dX9_burst_21 : decode cX9_burst 21 = .ok (.invokestatic 147, 3) := by decide +kernel
theorem dX9_burst_24 : decode cX9_burst 24 = .ok (.ireturn, 1) := by decide +kernel
theorem dX9_spell_0 : decode cX9_spell 0 = .ok (.aload_n 0, 1) := by decide +kernel
theorem dX9_spell_1 : decode cX9_spell 1 = .ok (.getfield 29, 3) := by decide +kernel
theorem dX9_spell_4 : decode cX9_spell 4 = .ok (.iload_n 1, 1) := by decide +kernel
theorem dX9_spell_5 : decode cX9_spell 5 = .ok (.invokevirtual 197, 3) := by decide +kernel
theorem dX9_spell_8 : decode cX9_spell 8 = .ok (.ireturn, 1) := by decide +kernel
theorem dX9_read_0 : decode cX9_read 0 = .ok (.aload_n 0, 1) := by decide +kernel
theorem dX9_read_1 : decode cX9_read 1 = .ok (.getfield 29, 3) := by decide +kernel
theorem dX9_read_4 : decode cX9_read 4 = .ok (.iload_n 1, 1) := by decide +kernel
theorem dX9_read_5 : decode cX9_read 5 = .ok (.invokevirtual 200, 3) := by decide +kernel
theorem dX9_read_8 : decode cX9_read 8 = .ok (.ireturn, 1) := by decide +kernel
theorem dX9_put_0 : decode cX9_put 0 = .ok (.aload_n 0, 1) := by decide +kernel
theorem dX9_put_1 : decode cX9_put 1 = .ok (.iload_n 1, 1) := by decide +kernel
theorem dX9_put_2 : decode cX9_put 2 = .ok (.invokevirtual 201, 3) := by decide +kernel
theorem dX9_put_5 : decode cX9_put 5 = .ok (.ifCond .eq 14, 3) := by decide +kernel
theorem dX9_put_8 : decode cX9_put 8 = .ok (.iload_n 2, 1) := by decide +kernel
theorem dX9_put_9 : decode cX9_put 9 = .ok (.ifCond .lt 10, 3) := by decide +kernel
theorem dX9_put_12 : decode cX9_put 12 = .ok (.iload_n 2, 1) := by decide +kernel
theorem dX9_put_13 : decode cX9_put 13 = .ok (.sipush 255, 3) := by decide +kernel
theorem dX9_put_16 : decode cX9_put 16 = .ok (.if_icmp .le 5, 3) := by decide +kernel
theorem dX9_put_19 : decode cX9_put 19 = .ok (.iconst (-1), 1) := by decide +kernel
theorem dX9_put_20 : decode cX9_put 20 = .ok (.ireturn, 1) := by decide +kernel
theorem dX9_put_21 : decode cX9_put 21 = .ok (.aload_n 0, 1) := by decide +kernel
theorem dX9_put_22 : decode cX9_put 22 = .ok (.getfield 70, 3) := by decide +kernel
theorem dX9_put_25 : decode cX9_put 25 = .ok (.iload_n 1, 1) := by decide +kernel
theorem dX9_put_26 : decode cX9_put 26 = .ok (.baload, 1) := by decide +kernel
theorem dX9_put_27 : decode cX9_put 27 = .ok (.sipush 255, 3) := by decide +kernel
theorem dX9_put_30 : decode cX9_put 30 = .ok (.iand, 1) := by decide +kernel
theorem dX9_put_31 : decode cX9_put 31 = .ok (.istore_n 3, 1) := by decide +kernel
theorem dX9_put_32 : decode cX9_put 32 = .ok (.aload_n 0, 1) := by decide +kernel
theorem dX9_put_33 : decode cX9_put 33 = .ok (.getfield 70, 3) := by decide +kernel
theorem dX9_put_36 : decode cX9_put 36 = .ok (.iload_n 1, 1) := by decide +kernel
theorem dX9_put_37 : decode cX9_put 37 = .ok (.iload_n 2, 1) := by decide +kernel
theorem dX9_put_38 : decode cX9_put 38 = .ok (.i2b, 1) := by decide +kernel
theorem dX9_put_39 : decode cX9_put 39 = .ok (.bastore, 1) := by decide +kernel
theorem dX9_put_40 : decode cX9_put 40 = .ok (.aload_n 0, 1) := by decide +kernel
theorem dX9_put_41 : decode cX9_put 41 = .ok (.dup, 1) := by decide +kernel
theorem dX9_put_42 : decode cX9_put 42 = .ok (.getfield 204, 3) := by decide +kernel
theorem dX9_put_45 : decode cX9_put 45 = .ok (.iconst 1, 1) := by decide +kernel
theorem dX9_put_46 : decode cX9_put 46 = .ok (.iload_n 1, 1) := by decide +kernel
theorem dX9_put_47 : decode cX9_put 47 = .ok (.ishl, 1) := by decide +kernel
theorem dX9_put_48 : decode cX9_put 48 = .ok (.iconst (-1), 1) := by decide +kernel
theorem dX9_put_49 : decode cX9_put 49 = .ok (.ixor, 1) := by decide +kernel
theorem dX9_put_50 : decode cX9_put 50 = .ok (.iand, 1) := by decide +kernel
theorem dX9_put_51 : decode cX9_put 51 = .ok (.putfield 204, 3) := by decide +kernel
theorem dX9_put_54 : decode cX9_put 54 = .ok (.iload_n 3, 1) := by decide +kernel
theorem dX9_put_55 : decode cX9_put 55 = .ok (.ireturn, 1) := by decide +kernel
theorem dX9_mark_0 : decode cX9_mark 0 = .ok (.aload_n 0, 1) := by decide +kernel
theorem dX9_mark_1 : decode cX9_mark 1 = .ok (.iload_n 1, 1) := by decide +kernel
theorem dX9_mark_2 : decode cX9_mark 2 = .ok (.invokevirtual 201, 3) := by decide +kernel
theorem dX9_mark_5 : decode cX9_mark 5 = .ok (.ifCond .ne 5, 3) := by decide +kernel
theorem dX9_mark_8 : decode cX9_mark 8 = .ok (.iconst 0, 1) := by decide +kernel
theorem dX9_mark_9 : decode cX9_mark 9 = .ok (.ireturn, 1) := by decide +kernel
theorem dX9_mark_10 : decode cX9_mark 10 = .ok (.aload_n 0, 1) := by decide +kernel
theorem dX9_mark_11 : decode cX9_mark 11 = .ok (.getfield 204, 3) := by decide +kernel
theorem dX9_mark_14 : decode cX9_mark 14 = .ok (.iload_n 1, 1) := by decide +kernel
theorem dX9_mark_15 : decode cX9_mark 15 = .ok (.iushr, 1) := by decide +kernel
theorem dX9_mark_16 : decode cX9_mark 16 = .ok (.iconst 1, 1) := by decide +kernel
theorem dX9_mark_17 : decode cX9_mark 17 = .ok (.iand, 1) := by decide +kernel
theorem dX9_mark_18 : decode cX9_mark 18 = .ok (.iconst 1, 1) := by decide +kernel
theorem dX9_mark_19 : decode cX9_mark 19 = .ok (.if_icmp .ne 7, 3) := by decide +kernel
theorem dX9_mark_22 : decode cX9_mark 22 = .ok (.iconst 1, 1) := by decide +kernel
theorem dX9_mark_23 : decode cX9_mark 23 = .ok (.goto 4, 3) := by decide +kernel
theorem dX9_mark_26 : decode cX9_mark 26 = .ok (.iconst 0, 1) := by decide +kernel
theorem dX9_mark_27 : decode cX9_mark 27 = .ok (.istore_n 3, 1) := by decide +kernel
theorem dX9_mark_28 : decode cX9_mark 28 = .ok (.aload_n 0, 1) := by decide +kernel
theorem dX9_mark_29 : decode cX9_mark 29 = .ok (.iload_n 2, 1) := by decide +kernel
theorem dX9_mark_30 : decode cX9_mark 30 = .ok (.ifCond .eq 14, 3) := by decide +kernel
theorem dX9_mark_33 : decode cX9_mark 33 = .ok (.aload_n 0, 1) := by decide +kernel
theorem dX9_mark_34 : decode cX9_mark 34 = .ok (.getfield 204, 3) := by decide +kernel
theorem dX9_mark_37 : decode cX9_mark 37 = .ok (.iconst 1, 1) := by decide +kernel
theorem dX9_mark_38 : decode cX9_mark 38 = .ok (.iload_n 1, 1) := by decide +kernel
theorem dX9_mark_39 : decode cX9_mark 39 = .ok (.ishl, 1) := by decide +kernel
theorem dX9_mark_40 : decode cX9_mark 40 = .ok (.ior, 1) := by decide +kernel
theorem dX9_mark_41 : decode cX9_mark 41 = .ok (.goto 13, 3) := by decide +kernel
theorem dX9_mark_44 : decode cX9_mark 44 = .ok (.aload_n 0, 1) := by decide +kernel
theorem dX9_mark_45 : decode cX9_mark 45 = .ok (.getfield 204, 3) := by decide +kernel
theorem dX9_mark_48 : decode cX9_mark 48 = .ok (.iconst 1, 1) := by decide +kernel
theorem dX9_mark_49 : decode cX9_mark 49 = .ok (.iload_n 1, 1) := by decide +kernel
theorem dX9_mark_50 : decode cX9_mark 50 = .ok (.ishl, 1) := by decide +kernel
theorem dX9_mark_51 : decode cX9_mark 51 = .ok (.iconst (-1), 1) := by decide +kernel
theorem dX9_mark_52 : decode cX9_mark 52 = .ok (.ixor, 1) := by decide +kernel
theorem dX9_mark_53 : decode cX9_mark 53 = .ok (.iand, 1) := by decide +kernel
theorem dX9_mark_54 : decode cX9_mark 54 = .ok (.putfield 204, 3) := by decide +kernel
theorem dX9_mark_57 : decode cX9_mark 57 = .ok (.iload_n 3, 1) := by decide +kernel
theorem dX9_mark_58 : decode cX9_mark 58 = .ok (.ireturn, 1) := by decide +kernel
theorem dX9_at_0 : decode cX9_at 0 = .ok (.aload_n 0, 1) := by decide +kernel
theorem dX9_at_1 : decode cX9_at 1 = .ok (.iload_n 1, 1) := by decide +kernel
theorem dX9_at_2 : decode cX9_at 2 = .ok (.invokevirtual 201, 3) := by decide +kernel
theorem dX9_at_5 : decode cX9_at 5 = .ok (.ifCond .eq 16, 3) := by decide +kernel
theorem dX9_at_8 : decode cX9_at 8 = .ok (.aload_n 0, 1) := by decide +kernel
theorem dX9_at_9 : decode cX9_at 9 = .ok (.getfield 70, 3) := by decide +kernel
theorem dX9_at_12 : decode cX9_at 12 = .ok (.iload_n 1, 1) := by decide +kernel
theorem dX9_at_13 : decode cX9_at 13 = .ok (.baload, 1) := by decide +kernel
theorem dX9_at_14 : decode cX9_at 14 = .ok (.sipush 255, 3) := by decide +kernel
theorem dX9_at_17 : decode cX9_at 17 = .ok (.iand, 1) := by decide +kernel
theorem dX9_at_18 : decode cX9_at 18 = .ok (.goto 4, 3) := by decide +kernel
theorem dX9_at_21 : decode cX9_at 21 = .ok (.iconst (-1), 1) := by decide +kernel
theorem dX9_at_22 : decode cX9_at 22 = .ok (.ireturn, 1) := by decide +kernel
theorem dX9_isBench_0 : decode cX9_isBench 0 = .ok (.iload_n 1, 1) := by decide +kernel
theorem dX9_isBench_1 : decode cX9_isBench 1 = .ok (.ifCond .lt 16, 3) := by decide +kernel
theorem dX9_isBench_4 : decode cX9_isBench 4 = .ok (.iload_n 1, 1) := by decide +kernel
theorem dX9_isBench_5 : decode cX9_isBench 5 = .ok (.aload_n 0, 1) := by decide +kernel
theorem dX9_isBench_6 : decode cX9_isBench 6 = .ok (.getfield 70, 3) := by decide +kernel
theorem dX9_isBench_9 : decode cX9_isBench 9 = .ok (.arraylength, 1) := by decide +kernel
theorem dX9_isBench_10 : decode cX9_isBench 10 = .ok (.if_icmp .ge 7, 3) := by decide +kernel
theorem dX9_isBench_13 : decode cX9_isBench 13 = .ok (.iconst 1, 1) := by decide +kernel
theorem dX9_isBench_14 : decode cX9_isBench 14 = .ok (.goto 4, 3) := by decide +kernel
theorem dX9_isBench_17 : decode cX9_isBench 17 = .ok (.iconst 0, 1) := by decide +kernel
theorem dX9_isBench_18 : decode cX9_isBench 18 = .ok (.ireturn, 1) := by decide +kernel
theorem dX9_codeOf_0 : decode cX9_codeOf 0 = .ok (.iload_n 1, 1) := by decide +kernel
theorem dX9_codeOf_1 : decode cX9_codeOf 1 = .ok (.ifCond .eq 10, 3) := by decide +kernel
theorem dX9_codeOf_4 : decode cX9_codeOf 4 = .ok (.aload_n 0, 1) := by decide +kernel
theorem dX9_codeOf_5 : decode cX9_codeOf 5 = .ok (.getfield 38, 3) := by decide +kernel
theorem dX9_codeOf_8 : decode cX9_codeOf 8 = .ok (.goto 7, 3) := by decide +kernel
theorem dX9_codeOf_11 : decode cX9_codeOf 11 = .ok (.aload_n 0, 1) := by decide +kernel
theorem dX9_codeOf_12 : decode cX9_codeOf 12 = .ok (.getfield 42, 3) := by decide +kernel
theorem dX9_codeOf_15 : decode cX9_codeOf 15 = .ok (.areturn, 1) := by decide +kernel
theorem dX9_seal_0 : decode cX9_seal 0 = .ok (.aload_n 0, 1) := by decide +kernel
theorem dX9_seal_1 : decode cX9_seal 1 = .ok (.iload_n 1, 1) := by decide +kernel
theorem dX9_seal_2 : decode cX9_seal 2 = .ok (.invokevirtual 207, 3) := by decide +kernel
theorem dX9_seal_5 : decode cX9_seal 5 = .ok (.astore_n 2, 1) := by decide +kernel
theorem dX9_seal_6 : decode cX9_seal 6 = .ok (.aload_n 2, 1) := by decide +kernel
theorem dX9_seal_7 : decode cX9_seal 7 = .ok (.aload_n 0, 1) := by decide +kernel
theorem dX9_seal_8 : decode cX9_seal 8 = .ok (.getfield 70, 3) := by decide +kernel
theorem dX9_seal_11 : decode cX9_seal 11 = .ok (.iconst 0, 1) := by decide +kernel
theorem dX9_seal_12 : decode cX9_seal 12 = .ok (.invokevirtual 211, 3) := by decide +kernel
theorem dX9_seal_15 : decode cX9_seal 15 = .ok (.aload_n 0, 1) := by decide +kernel
theorem dX9_seal_16 : decode cX9_seal 16 = .ok (.dup, 1) := by decide +kernel
theorem dX9_seal_17 : decode cX9_seal 17 = .ok (.getfield 204, 3) := by decide +kernel
theorem dX9_seal_20 : decode cX9_seal 20 = .ok (.aload_n 2, 1) := by decide +kernel
theorem dX9_seal_21 : decode cX9_seal 21 = .ok (.invokevirtual 215, 3) := by decide +kernel
theorem dX9_seal_24 : decode cX9_seal 24 = .ok (.iconst (-1), 1) := by decide +kernel
theorem dX9_seal_25 : decode cX9_seal 25 = .ok (.ixor, 1) := by decide +kernel
theorem dX9_seal_26 : decode cX9_seal 26 = .ok (.iand, 1) := by decide +kernel
theorem dX9_seal_27 : decode cX9_seal 27 = .ok (.putfield 204, 3) := by decide +kernel
theorem dX9_seal_30 : decode cX9_seal 30 = .ok (.return_, 1) := by decide +kernel
theorem dX9_syndrome_0 : decode cX9_syndrome 0 = .ok (.iload_n 2, 1) := by decide +kernel
theorem dX9_syndrome_1 : decode cX9_syndrome 1 = .ok (.ifCond .lt 8, 3) := by decide +kernel
theorem dX9_syndrome_4 : decode cX9_syndrome 4 = .ok (.iload_n 2, 1) := by decide +kernel
theorem dX9_syndrome_5 : decode cX9_syndrome 5 = .ok (.iconst 3, 1) := by decide +kernel
theorem dX9_syndrome_6 : decode cX9_syndrome 6 = .ok (.if_icmp .le 7, 3) := by decide +kernel
theorem dX9_syndrome_9 : decode cX9_syndrome 9 = .ok (.iconst (-1), 1) := by decide +kernel
theorem dX9_syndrome_10 : decode cX9_syndrome 10 = .ok (.goto 17, 3) := by decide +kernel
theorem dX9_syndrome_13 : decode cX9_syndrome 13 = .ok (.aload_n 0, 1) := by decide +kernel
theorem dX9_syndrome_14 : decode cX9_syndrome 14 = .ok (.iload_n 1, 1) := by decide +kernel
theorem dX9_syndrome_15 : decode cX9_syndrome 15 = .ok (.invokevirtual 207, 3) := by decide +kernel
theorem dX9_syndrome_18 : decode cX9_syndrome 18 = .ok (.aload_n 0, 1) := by decide +kernel
theorem dX9_syndrome_19 : decode cX9_syndrome 19 = .ok (.getfield 70, 3) := by decide +kernel
theorem dX9_syndrome_22 : decode cX9_syndrome 22 = .ok (.iconst 0, 1) := by decide +kernel
theorem dX9_syndrome_23 : decode cX9_syndrome 23 = .ok (.iload_n 2, 1) := by decide +kernel
theorem dX9_syndrome_24 : decode cX9_syndrome 24 = .ok (.invokevirtual 218, 3) := by decide +kernel
theorem dX9_syndrome_27 : decode cX9_syndrome 27 = .ok (.ireturn, 1) := by decide +kernel
theorem dX9_mend_0 : decode cX9_mend 0 = .ok (.iload_n 2, 1) := by decide +kernel
theorem dX9_mend_1 : decode cX9_mend 1 = .ok (.invokestatic 165, 3) := by decide +kernel
theorem dX9_mend_4 : decode cX9_mend 4 = .ok (.ifCond .ne 5, 3) := by decide +kernel
theorem dX9_mend_7 : decode cX9_mend 7 = .ok (.iconst (-1), 1) := by decide +kernel
theorem dX9_mend_8 : decode cX9_mend 8 = .ok (.ireturn, 1) := by decide +kernel
theorem dX9_mend_9 : decode cX9_mend 9 = .ok (.aload_n 0, 1) := by decide +kernel
theorem dX9_mend_10 : decode cX9_mend 10 = .ok (.iload_n 1, 1) := by decide +kernel
theorem dX9_mend_11 : decode cX9_mend 11 = .ok (.invokevirtual 207, 3) := by decide +kernel
theorem dX9_mend_14 : decode cX9_mend 14 = .ok (.astore_n 3, 1) := by decide +kernel
theorem dX9_mend_15 : decode cX9_mend 15 = .ok (.aload_n 3, 1) := by decide +kernel
theorem dX9_mend_16 : decode cX9_mend 16 = .ok (.aload_n 0, 1) := by decide +kernel
theorem dX9_mend_17 : decode cX9_mend 17 = .ok (.getfield 70, 3) := by decide +kernel
theorem dX9_mend_20 : decode cX9_mend 20 = .ok (.iconst 0, 1) := by decide +kernel
theorem dX9_mend_21 : decode cX9_mend 21 = .ok (.aload_n 0, 1) := by decide +kernel
theorem dX9_mend_22 : decode cX9_mend 22 = .ok (.getfield 204, 3) := by decide +kernel
theorem dX9_mend_25 : decode cX9_mend 25 = .ok (.iload_n 2, 1) := by decide +kernel
theorem dX9_mend_26 : decode cX9_mend 26 = .ok (.invokevirtual 222, 3) := by decide +kernel
theorem dX9_mend_29 : decode cX9_mend 29 = .ok (.istore 4, 2) := by decide +kernel
theorem dX9_mend_31 : decode cX9_mend 31 = .ok (.iload 4, 2) := by decide +kernel
theorem dX9_mend_33 : decode cX9_mend 33 = .ok (.bipush (-2), 2) := by decide +kernel
theorem dX9_mend_35 : decode cX9_mend 35 = .ok (.if_icmp .eq 18, 3) := by decide +kernel
theorem dX9_mend_38 : decode cX9_mend 38 = .ok (.aload_n 0, 1) := by decide +kernel
theorem dX9_mend_39 : decode cX9_mend 39 = .ok (.dup, 1) := by decide +kernel
theorem dX9_mend_40 : decode cX9_mend 40 = .ok (.getfield 204, 3) := by decide +kernel
theorem dX9_mend_43 : decode cX9_mend 43 = .ok (.aload_n 3, 1) := by decide +kernel
theorem dX9_mend_44 : decode cX9_mend 44 = .ok (.invokevirtual 215, 3) := by decide +kernel
theorem dX9_mend_47 : decode cX9_mend 47 = .ok (.iconst (-1), 1) := by decide +kernel
theorem dX9_mend_48 : decode cX9_mend 48 = .ok (.ixor, 1) := by decide +kernel
theorem dX9_mend_49 : decode cX9_mend 49 = .ok (.iand, 1) := by decide +kernel
theorem dX9_mend_50 : decode cX9_mend 50 = .ok (.putfield 204, 3) := by decide +kernel
theorem dX9_mend_53 : decode cX9_mend 53 = .ok (.iload 4, 2) := by decide +kernel
theorem dX9_mend_55 : decode cX9_mend 55 = .ok (.ireturn, 1) := by decide +kernel
