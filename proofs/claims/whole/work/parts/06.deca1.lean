theorem dX6_addresses_0 : decode cX6_addresses 0 = .ok (.aload_n 0, 1) := by decide +kernel
theorem dX6_addresses_1 : decode cX6_addresses 1 = .ok (.getfield 7, 3) := by decide +kernel
theorem dX6_addresses_4 : decode cX6_addresses 4 = .ok (.aload_n 0, 1) := by decide +kernel
theorem dX6_addresses_5 : decode cX6_addresses 5 = .ok (.getfield 13, 3) := by decide +kernel
theorem dX6_addresses_8 : decode cX6_addresses 8 = .ok (.imul, 1) := by decide +kernel
theorem dX6_addresses_9 : decode cX6_addresses 9 = .ok (.aload_n 0, 1) := by decide +kernel
theorem dX6_addresses_10 : decode cX6_addresses 10 = .ok (.getfield 16, 3) := by decide +kernel
theorem dX6_addresses_13 : decode cX6_addresses 13 = .ok (.imul, 1) := by decide +kernel
theorem dX6_addresses_14 : decode cX6_addresses 14 = .ok (.ireturn, 1) := by decide +kernel
theorem dX1_fill_0 : decode cX1_fill 0 = .ok (.iload_n 1, 1) := by decide +kernel
theorem dX1_fill_1 : decode cX1_fill 1 = .ok (.ifCond .lt 11, 3) := by decide +kernel
theorem dX1_fill_4 : decode cX1_fill 4 = .ok (.iload_n 1, 1) := by decide +kernel
theorem dX1_fill_5 : decode cX1_fill 5 = .ok (.getstatic 20, 3) := by decide +kernel
theorem dX1_fill_8 : decode cX1_fill 8 = .ok (.arraylength, 1) := by decide +kernel
theorem dX1_fill_9 : decode cX1_fill 9 = .ok (.if_icmp .lt 4, 3) := by decide +kernel
theorem dX1_fill_12 : decode cX1_fill 12 = .ok (.return_, 1) := by decide +kernel
theorem dX1_fill_13 : decode cX1_fill 13 = .ok (.aload_n 0, 1) := by decide +kernel
theorem dX1_fill_14 : decode cX1_fill 14 = .ok (.getstatic 20, 3) := by decide +kernel
theorem dX1_fill_17 : decode cX1_fill 17 = .ok (.iload_n 1, 1) := by decide +kernel
theorem dX1_fill_18 : decode cX1_fill 18 = .ok (.iaload, 1) := by decide +kernel
theorem dX1_fill_19 : decode cX1_fill 19 = .ok (.putfield 16, 3) := by decide +kernel
theorem dX1_fill_22 : decode cX1_fill 22 = .ok (.iconst 1, 1) := by decide +kernel
theorem dX1_fill_23 : decode cX1_fill 23 = .ok (.istore_n 2, 1) := by decide +kernel
theorem dX1_fill_24 : decode cX1_fill 24 = .ok (.iconst 0, 1) := by decide +kernel
theorem dX1_fill_25 : decode cX1_fill 25 = .ok (.istore_n 3, 1) := by decide +kernel
theorem dX1_fill_26 : decode cX1_fill 26 = .ok (.iload_n 3, 1) := by decide +kernel
theorem dX1_fill_27 : decode cX1_fill 27 = .ok (.sipush 255, 3) := by decide +kernel
theorem dX1_fill_30 : decode cX1_fill 30 = .ok (.if_icmp .ge 41, 3) := by decide +kernel
theorem dX1_fill_33 : decode cX1_fill 33 = .ok (.aload_n 0, 1) := by decide +kernel
theorem dX1_fill_34 : decode cX1_fill 34 = .ok (.getfield 9, 3) := by decide +kernel
theorem dX1_fill_37 : decode cX1_fill 37 = .ok (.iload_n 3, 1) := by decide +kernel
theorem dX1_fill_38 : decode cX1_fill 38 = .ok (.iload_n 2, 1) := by decide +kernel
theorem dX1_fill_39 : decode cX1_fill 39 = .ok (.iastore, 1) := by decide +kernel
theorem dX1_fill_40 : decode cX1_fill 40 = .ok (.aload_n 0, 1) := by decide +kernel
theorem dX1_fill_41 : decode cX1_fill 41 = .ok (.getfield 13, 3) := by decide +kernel
theorem dX1_fill_44 : decode cX1_fill 44 = .ok (.iload_n 2, 1) := by decide +kernel
theorem dX1_fill_45 : decode cX1_fill 45 = .ok (.sipush 255, 3) := by decide +kernel
theorem dX1_fill_48 : decode cX1_fill 48 = .ok (.iand, 1) := by decide +kernel
theorem dX1_fill_49 : decode cX1_fill 49 = .ok (.iload_n 3, 1) := by decide +kernel
theorem dX1_fill_50 : decode cX1_fill 50 = .ok (.iastore, 1) := by decide +kernel
theorem dX1_fill_51 : decode cX1_fill 51 = .ok (.iload_n 2, 1) := by decide +kernel
theorem dX1_fill_52 : decode cX1_fill 52 = .ok (.iconst 1, 1) := by decide +kernel
theorem dX1_fill_53 : decode cX1_fill 53 = .ok (.ishl, 1) := by decide +kernel
theorem dX1_fill_54 : decode cX1_fill 54 = .ok (.iload_n 2, 1) := by decide +kernel
theorem dX1_fill_55 : decode cX1_fill 55 = .ok (.bipush 7, 2) := by decide +kernel
theorem dX1_fill_57 : decode cX1_fill 57 = .ok (.iushr, 1) := by decide +kernel
theorem dX1_fill_58 : decode cX1_fill 58 = .ok (.aload_n 0, 1) := by decide +kernel
theorem dX1_fill_59 : decode cX1_fill 59 = .ok (.getfield 16, 3) := by decide +kernel
theorem dX1_fill_62 : decode cX1_fill 62 = .ok (.imul, 1) := by decide +kernel
theorem dX1_fill_63 : decode cX1_fill 63 = .ok (.ixor, 1) := by decide +kernel
theorem dX1_fill_64 : decode cX1_fill 64 = .ok (.istore_n 2, 1) := by decide +kernel
theorem dX1_fill_65 : decode cX1_fill 65 = .ok (.iinc 3 1, 3) := by decide +kernel
theorem dX1_fill_68 : decode cX1_fill 68 = .ok (.goto (-42), 3) := by decide +kernel
theorem dX1_fill_71 : decode cX1_fill 71 = .ok (.return_, 1) := by decide +kernel
theorem dJ9_floorMod_7cf53_0 : decode cJ9_floorMod_7cf53 0 = .ok (.iload_n 0, 1) := by decide +kernel
theorem dJ9_floorMod_7cf53_1 : decode cJ9_floorMod_7cf53 1 = .ok (.iload_n 1, 1) := by decide +kernel
theorem dJ9_floorMod_7cf53_2 : decode cJ9_floorMod_7cf53 2 = .ok (.irem, 1) := by decide +kernel
theorem dJ9_floorMod_7cf53_3 : decode cJ9_floorMod_7cf53 3 = .ok (.istore_n 2, 1) := by decide +kernel
theorem dJ9_floorMod_7cf53_4 : decode cJ9_floorMod_7cf53 4 = .ok (.iload_n 0, 1) := by decide +kernel
theorem dJ9_floorMod_7cf53_5 : decode cJ9_floorMod_7cf53 5 = .ok (.iload_n 1, 1) := by decide +kernel
theorem dJ9_floorMod_7cf53_6 : decode cJ9_floorMod_7cf53 6 = .ok (.ixor, 1) := by decide +kernel
theorem dJ9_floorMod_7cf53_7 : decode cJ9_floorMod_7cf53 7 = .ok (.ifCond .ge 11, 3) := by decide +kernel
theorem dJ9_floorMod_7cf53_10 : decode cJ9_floorMod_7cf53 10 = .ok (.iload_n 2, 1) := by decide +kernel
theorem dJ9_floorMod_7cf53_11 : decode cJ9_floorMod_7cf53 11 = .ok (.ifCond .eq 7, 3) := by decide +kernel
theorem dJ9_floorMod_7cf53_14 : decode cJ9_floorMod_7cf53 14 = .ok (.iload_n 2, 1) := by decide +kernel
theorem dJ9_floorMod_7cf53_15 : decode cJ9_floorMod_7cf53 15 = .ok (.iload_n 1, 1) := by decide +kernel
theorem dJ9_floorMod_7cf53_16 : decode cJ9_floorMod_7cf53 16 = .ok (.iadd, 1) := by decide +kernel
theorem dJ9_floorMod_7cf53_17 : decode cJ9_floorMod_7cf53 17 = .ok (.ireturn, 1) := by decide +kernel
theorem dJ9_floorMod_7cf53_18 : decode cJ9_floorMod_7cf53 18 = .ok (.iload_n 2, 1) := by decide +kernel
theorem dJ9_floorMod_7cf53_19 : decode cJ9_floorMod_7cf53 19 = .ok (.ireturn, 1) := by decide +kernel
theorem dX1_powerOfTwo_0 : decode cX1_powerOfTwo 0 = .ok (.aload_n 0, 1) := by decide +kernel
theorem dX1_powerOfTwo_1 : decode cX1_powerOfTwo 1 = .ok (.getfield 9, 3) := by decide +kernel
theorem dX1_powerOfTwo_4 : decode cX1_powerOfTwo 4 = .ok (.iload_n 1, 1) := by decide +kernel
theorem dX1_powerOfTwo_5 : decode cX1_powerOfTwo 5 = .ok (.sipush 255, 3) := by decide +kernel
theorem dX1_powerOfTwo_8 : decode cX1_powerOfTwo 8 = .ok (.invokestatic 23, 3) := by decide +kernel
theorem dX1_powerOfTwo_11 : decode cX1_powerOfTwo 11 = .ok (.iaload, 1) := by decide +kernel
theorem dX1_powerOfTwo_12 : decode cX1_powerOfTwo 12 = .ok (.ireturn, 1) := by decide +kernel
theorem dX1_logarithm_0 : decode cX1_logarithm 0 = .ok (.aload_n 0, 1) := by decide +kernel
theorem dX1_logarithm_1 : decode cX1_logarithm 1 = .ok (.getfield 13, 3) := by decide +kernel
theorem dX1_logarithm_4 : decode cX1_logarithm 4 = .ok (.iload_n 1, 1) := by decide +kernel
theorem dX1_logarithm_5 : decode cX1_logarithm 5 = .ok (.sipush 255, 3) := by decide +kernel
theorem dX1_logarithm_8 : decode cX1_logarithm 8 = .ok (.iand, 1) := by decide +kernel
theorem dX1_logarithm_9 : decode cX1_logarithm 9 = .ok (.iaload, 1) := by decide +kernel
theorem dX1_logarithm_10 : decode cX1_logarithm 10 = .ok (.ireturn, 1) := by decide +kernel
theorem dX1_product_0 : decode cX1_product 0 = .ok (.iload_n 1, 1) := by decide +kernel
theorem dX1_product_1 : decode cX1_product 1 = .ok (.ifCond .eq 7, 3) := by decide +kernel
theorem dX1_product_4 : decode cX1_product 4 = .ok (.iload_n 2, 1) := by decide +kernel
theorem dX1_product_5 : decode cX1_product 5 = .ok (.ifCond .ne 5, 3) := by decide +kernel
theorem dX1_product_8 : decode cX1_product 8 = .ok (.iconst 0, 1) := by decide +kernel
theorem dX1_product_9 : decode cX1_product 9 = .ok (.ireturn, 1) := by decide +kernel
theorem dX1_product_10 : decode cX1_product 10 = .ok (.aload_n 0, 1) := by decide +kernel
theorem dX1_product_11 : decode cX1_product 11 = .ok (.getfield 9, 3) := by decide +kernel
theorem dX1_product_14 : decode cX1_product 14 = .ok (.aload_n 0, 1) := by decide +kernel
theorem dX1_product_15 : decode cX1_product 15 = .ok (.getfield 13, 3) := by decide +kernel
theorem dX1_product_18 : decode cX1_product 18 = .ok (.iload_n 1, 1) := by decide +kernel
theorem dX1_product_19 : decode cX1_product 19 = .ok (.sipush 255, 3) := by decide +kernel
theorem dX1_product_22 : decode cX1_product 22 = .ok (.iand, 1) := by decide +kernel
theorem dX1_product_23 : decode cX1_product 23 = .ok (.iaload, 1) := by decide +kernel
theorem dX1_product_24 : decode cX1_product 24 = .ok (.aload_n 0, 1) := by decide +kernel
theorem dX1_product_25 : decode cX1_product 25 = .ok (.getfield 13, 3) := by decide +kernel
theorem dX1_product_28 : decode cX1_product 28 = .ok (.iload_n 2, 1) := by decide +kernel
theorem dX1_product_29 : decode cX1_product 29 = .ok (.sipush 255, 3) := by decide +kernel
theorem dX1_product_32 : decode cX1_product 32 = .ok (.iand, 1) := by decide +kernel
theorem dX1_product_33 : decode cX1_product 33 = .ok (.iaload, 1) := by decide +kernel
theorem dX1_product_34 : decode cX1_product 34 = .ok (.iadd, 1) := by decide +kernel
theorem dX1_product_35 : decode cX1_product 35 = .ok (.sipush 255, 3) := by decide +kernel
theorem dX1_product_38 : decode cX1_product 38 = .ok (.invokestatic 23, 3) := by decide +kernel
theorem dX1_product_41 : decode cX1_product 41 = .ok (.iaload, 1) := by decide +kernel
theorem dX1_product_42 : decode cX1_product 42 = .ok (.ireturn, 1) := by decide +kernel
theorem dX1_quotient_0 : decode cX1_quotient 0 = .ok (.iload_n 1, 1) := by decide +kernel
theorem dX1_quotient_1 : decode cX1_quotient 1 = .ok (.ifCond .eq 7, 3) := by decide +kernel
theorem dX1_quotient_4 : decode cX1_quotient 4 = .ok (.iload_n 2, 1) := by decide +kernel
theorem dX1_quotient_5 : decode cX1_quotient 5 = .ok (.ifCond .ne 5, 3) := by decide +kernel
theorem dX1_quotient_8 : decode cX1_quotient 8 = .ok (.iconst 0, 1) := by decide +kernel
theorem dX1_quotient_9 : decode cX1_quotient 9 = .ok (.ireturn, 1) := by decide +kernel
theorem dX1_quotient_10 : decode cX1_quotient 10 = .ok (.aload_n 0, 1) := by decide +kernel
theorem dX1_quotient_11 : decode cX1_quotient 11 = .ok (.getfield 9, 3) := by decide +kernel
theorem dX1_quotient_14 : decode cX1_quotient 14 = .ok (.aload_n 0, 1) := by decide +kernel
theorem dX1_quotient_15 : decode cX1_quotient 15 = .ok (.getfield 13, 3) := by decide +kernel
theorem dX1_quotient_18 : decode cX1_quotient 18 = .ok (.iload_n 1, 1) := by decide +kernel
theorem dX1_quotient_19 : decode cX1_quotient 19 = .ok (.sipush 255, 3) := by decide +kernel
theorem dX1_quotient_22 : decode cX1_quotient 22 = .ok (.iand, 1) := by decide +kernel
theorem dX1_quotient_23 : decode cX1_quotient 23 = .ok (.iaload, 1) := by decide +kernel
theorem dX1_quotient_24 : decode cX1_quotient 24 = .ok (.aload_n 0, 1) := by decide +kernel
theorem dX1_quotient_25 : decode cX1_quotient 25 = .ok (.getfield 13, 3) := by decide +kernel
theorem dX1_quotient_28 : decode cX1_quotient 28 = .ok (.iload_n 2, 1) := by decide +kernel
theorem dX1_quotient_29 : decode cX1_quotient 29 = .ok (.sipush 255, 3) := by decide +kernel
theorem dX1_quotient_32 : decode cX1_quotient 32 = .ok (.iand, 1) := by decide +kernel
theorem dX1_quotient_33 : decode cX1_quotient 33 = .ok (.iaload, 1) := by decide +kernel
theorem dX1_quotient_34 : decode cX1_quotient 34 = .ok (.isub, 1) := by decide +kernel
theorem dX1_quotient_35 : decode cX1_quotient 35 = .ok (.sipush 255, 3) := by decide +kernel
theorem dX1_quotient_38 : decode cX1_quotient 38 = .ok (.invokestatic 23, 3) := by decide +kernel
theorem dX1_quotient_41 : decode cX1_quotient 41 = .ok (.iaload, 1) := by decide +kernel
theorem dX1_quotient_42 : decode cX1_quotient 42 = .ok (.ireturn, 1) := by decide +kernel
theorem dX1_sumByPowers_0 : decode cX1_sumByPowers 0 = .ok (.iconst 0, 1) := by decide +kernel
theorem dX1_sumByPowers_1 : decode cX1_sumByPowers 1 = .ok (.istore_n 3, 1) := by decide +kernel
theorem dX1_sumByPowers_2 : decode cX1_sumByPowers 2 = .ok (.iload_n 2, 1) := by decide +kernel
theorem dX1_sumByPowers_3 : decode cX1_sumByPowers 3 = .ok (.aload_n 1, 1) := by decide +kernel
theorem dX1_sumByPowers_4 : decode cX1_sumByPowers 4 = .ok (.arraylength, 1) := by decide +kernel
theorem dX1_sumByPowers_5 : decode cX1_sumByPowers 5 = .ok (.invokestatic 29, 3) := by decide +kernel
theorem dX1_sumByPowers_8 : decode cX1_sumByPowers 8 = .ok (.iconst 1, 1) := by decide +kernel
theorem dX1_sumByPowers_9 : decode cX1_sumByPowers 9 = .ok (.isub, 1) := by decide +kernel
theorem dX1_sumByPowers_10 : decode cX1_sumByPowers 10 = .ok (.istore 4, 2) := by decide +kernel
theorem dX1_sumByPowers_12 : decode cX1_sumByPowers 12 = .ok (.iload 4, 2) := by decide +kernel
theorem dX1_sumByPowers_14 : decode cX1_sumByPowers 14 = .ok (.ifCond .lt 28, 3) := by decide +kernel
theorem dX1_sumByPowers_17 : decode cX1_sumByPowers 17 = .ok (.iload_n 3, 1) := by decide +kernel
theorem dX1_sumByPowers_18 : decode cX1_sumByPowers 18 = .ok (.iconst 1, 1) := by decide +kernel
theorem dX1_sumByPowers_19 : decode cX1_sumByPowers 19 = .ok (.ishl, 1) := by decide +kernel
theorem dX1_sumByPowers_20 : decode cX1_sumByPowers 20 = .ok (.iload_n 3, 1) := by decide +kernel
theorem dX1_sumByPowers_21 : decode cX1_sumByPowers 21 = .ok (.bipush 7, 2) := by decide +kernel
theorem dX1_sumByPowers_23 : decode cX1_sumByPowers 23 = .ok (.iushr, 1) := by decide +kernel
theorem dX1_sumByPowers_24 : decode cX1_sumByPowers 24 = .ok (.aload_n 0, 1) := by decide +kernel
theorem dX1_sumByPowers_25 : decode cX1_sumByPowers 25 = .ok (.getfield 16, 3) := by decide +kernel
theorem dX1_sumByPowers_28 : decode cX1_sumByPowers 28 = .ok (.imul, 1) := by decide +kernel
theorem dX1_sumByPowers_29 : decode cX1_sumByPowers 29 = .ok (.ixor, 1) := by decide +kernel
theorem dX1_sumByPowers_30 : decode cX1_sumByPowers 30 = .ok (.aload_n 1, 1) := by decide +kernel
theorem dX1_sumByPowers_31 : decode cX1_sumByPowers 31 = .ok (.iload 4, 2) := by decide +kernel
theorem dX1_sumByPowers_33 : decode cX1_sumByPowers 33 = .ok (.iaload, 1) := by decide +kernel
theorem dX1_sumByPowers_34 : decode cX1_sumByPowers 34 = .ok (.ixor, 1) := by decide +kernel
theorem dX1_sumByPowers_35 : decode cX1_sumByPowers 35 = .ok (.istore_n 3, 1) := by decide +kernel
theorem dX1_sumByPowers_36 : decode cX1_sumByPowers 36 = .ok (.iinc 4 (-1), 3) := by decide +kernel
theorem dX1_sumByPowers_39 : decode cX1_sumByPowers 39 = .ok (.goto (-27), 3) := by decide +kernel
theorem dX1_sumByPowers_42 : decode cX1_sumByPowers 42 = .ok (.iload_n 3, 1) := by decide +kernel
theorem dX1_sumByPowers_43 : decode cX1_sumByPowers 43 = .ok (.ireturn, 1) := by decide +kernel
theorem dX2_size_0 : decode cX2_size 0 = .ok (.aload_n 0, 1) := by decide +kernel
theorem dX2_size_1 : decode cX2_size 1 = .ok (.getfield 19, 3) := by decide +kernel
theorem dX2_size_4 : decode cX2_size 4 = .ok (.ireturn, 1) := by decide +kernel
theorem dX9_saveTo_0 : decode cX9_saveTo 0 = .ok (.iload_n 2, 1) := by decide +kernel
theorem dX9_saveTo_1 : decode cX9_saveTo 1 = .ok (.ifCond .lt 26, 3) := by decide +kernel
theorem dX9_saveTo_4 : decode cX9_saveTo 4 = .ok (.iload_n 2, 1) := by decide +kernel
theorem dX9_saveTo_5 : decode cX9_saveTo 5 = .ok (.aload_n 1, 1) := by decide +kernel
theorem dX9_saveTo_6 : decode cX9_saveTo 6 = .ok (.arraylength, 1) := by decide +kernel
theorem dX9_saveTo_7 : decode cX9_saveTo 7 = .ok (.sipush 144, 3) := by decide +kernel
theorem dX9_saveTo_10 : decode cX9_saveTo 10 = .ok (.isub, 1) := by decide +kernel
theorem dX9_saveTo_11 : decode cX9_saveTo 11 = .ok (.if_icmp .gt 16, 3) := by decide +kernel
theorem dX9_saveTo_14 : decode cX9_saveTo 14 = .ok (.aload_n 0, 1) := by decide +kernel
theorem dX9_saveTo_15 : decode cX9_saveTo 15 = .ok (.getfield 11, 3) := by decide +kernel
theorem dX9_saveTo_18 : decode cX9_saveTo 18 = .ok (.iconst 0, 1) := by decide +kernel
theorem dX9_saveTo_19 : decode cX9_saveTo 19 = .ok (.aload_n 1, 1) := by decide +kernel
theorem dX9_saveTo_20 : decode cX9_saveTo 20 = .ok (.iload_n 2, 1) := by decide +kernel
theorem dX9_saveTo_21 : decode cX9_saveTo 21 = .ok (.sipush 144, 3) := by decide +kernel
theorem dX9_saveTo_24 : decode cX9_saveTo 24 = .ok (.invokestatic 31, 3) := by decide +kernel
theorem dX9_saveTo_27 : decode cX9_saveTo 27 = .ok (.return_, 1) := by decide +kernel
theorem dX2_keep_0 : decode cX2_keep 0 = .ok (.aload_n 1, 1) := by decide +kernel
theorem dX2_keep_1 : decode cX2_keep 1 = .ok (.aload_n 0, 1) := by decide +kernel
theorem dX2_keep_2 : decode cX2_keep 2 = .ok (.getfield 11, 3) := by decide +kernel
theorem dX2_keep_5 : decode cX2_keep 5 = .ok (.aload_n 0, 1) := by decide +kernel
theorem dX2_keep_6 : decode cX2_keep 6 = .ok (.getfield 15, 3) := by decide +kernel
theorem dX2_keep_9 : decode cX2_keep 9 = .ok (.sipush 144, 3) := by decide +kernel
theorem dX2_keep_12 : decode cX2_keep 12 = .ok (.imul, 1) := by decide +kernel
theorem dX2_keep_13 : decode cX2_keep 13 = .ok (.invokevirtual 22, 3) := by decide +kernel
theorem dX2_keep_16 : decode cX2_keep 16 = .ok (.aload_n 0, 1) := by decide +kernel
theorem dX2_keep_17 : decode cX2_keep 17 = .ok (.aload_n 0, 1) := by decide +kernel
theorem dX2_keep_18 : decode cX2_keep 18 = .ok (.getfield 15, 3) := by decide +kernel
theorem dX2_keep_21 : decode cX2_keep 21 = .ok (.iconst 1, 1) := by decide +kernel
theorem dX2_keep_22 : decode cX2_keep 22 = .ok (.iadd, 1) := by decide +kernel
theorem dX2_keep_23 : decode cX2_keep 23 = .ok (.bipush 40, 2) := by decide +kernel
theorem dX2_keep_25 : decode cX2_keep 25 = .ok (.if_icmp .ge 12, 3) := by decide +kernel
theorem dX2_keep_28 : decode cX2_keep 28 = .ok (.aload_n 0, 1) := by decide +kernel
theorem dX2_keep_29 : decode cX2_keep 29 = .ok (.getfield 15, 3) := by decide +kernel
theorem dX2_keep_32 : decode cX2_keep 32 = .ok (.iconst 1, 1) := by decide +kernel
theorem dX2_keep_33 : decode cX2_keep 33 = .ok (.iadd, 1) := by decide +kernel
theorem dX2_keep_34 : decode cX2_keep 34 = .ok (.goto 4, 3) := by decide +kernel
theorem dX2_keep_37 : decode cX2_keep 37 = .ok (.iconst 0, 1) := by decide +kernel
theorem dX2_keep_38 : decode cX2_keep 38 = .ok (.putfield 15, 3) := by decide +kernel
theorem dX2_keep_41 : decode cX2_keep 41 = .ok (.aload_n 0, 1) := by decide +kernel
theorem dX2_keep_42 : decode cX2_keep 42 = .ok (.aload_n 0, 1) := by decide +kernel
theorem dX2_keep_43 : decode cX2_keep 43 = .ok (.getfield 19, 3) := by decide +kernel
theorem dX2_keep_46 : decode cX2_keep 46 = .ok (.iconst 1, 1) := by decide +kernel
theorem dX2_keep_47 : decode cX2_keep 47 = .ok (.iadd, 1) := by decide +kernel
theorem dX2_keep_48 : decode cX2_keep 48 = .ok (.bipush 40, 2) := by decide +kernel
theorem dX2_keep_50 : decode cX2_keep 50 = .ok (.invokestatic 26, 3) := by decide +kernel
theorem dX2_keep_53 : decode cX2_keep 53 = .ok (.putfield 19, 3) := by decide +kernel
theorem dX2_keep_56 : decode cX2_keep 56 = .ok (.return_, 1) := by decide +kernel
theorem dX9_loadFrom_0 : decode cX9_loadFrom 0 = .ok (.iload_n 2, 1) := by decide +kernel
theorem dX9_loadFrom_1 : decode cX9_loadFrom 1 = .ok (.ifCond .lt 26, 3) := by decide +kernel
theorem dX9_loadFrom_4 : decode cX9_loadFrom 4 = .ok (.iload_n 2, 1) := by decide +kernel
theorem dX9_loadFrom_5 : decode cX9_loadFrom 5 = .ok (.aload_n 1, 1) := by decide +kernel
theorem dX9_loadFrom_6 : decode cX9_loadFrom 6 = .ok (.arraylength, 1) := by decide +kernel
theorem dX9_loadFrom_7 : decode cX9_loadFrom 7 = .ok (.sipush 144, 3) := by decide +kernel
theorem dX9_loadFrom_10 : decode cX9_loadFrom 10 = .ok (.isub, 1) := by decide +kernel
theorem dX9_loadFrom_11 : decode cX9_loadFrom 11 = .ok (.if_icmp .gt 16, 3) := by decide +kernel
theorem dX9_loadFrom_14 : decode cX9_loadFrom 14 = .ok (.aload_n 1, 1) := by decide +kernel
theorem dX9_loadFrom_15 : decode cX9_loadFrom 15 = .ok (.iload_n 2, 1) := by decide +kernel
theorem dX9_loadFrom_16 : decode cX9_loadFrom 16 = .ok (.aload_n 0, 1) := by decide +kernel
theorem dX9_loadFrom_17 : decode cX9_loadFrom 17 = .ok (.getfield 11, 3) := by decide +kernel
theorem dX9_loadFrom_20 : decode cX9_loadFrom 20 = .ok (.iconst 0, 1) := by decide +kernel
theorem dX9_loadFrom_21 : decode cX9_loadFrom 21 = .ok (.sipush 144, 3) := by decide +kernel
theorem dX9_loadFrom_24 : decode cX9_loadFrom 24 = .ok (.invokestatic 31, 3) := by decide +kernel
theorem dX9_loadFrom_27 : decode cX9_loadFrom 27 = .ok (.return_, 1) := by decide +kernel
theorem dX2_bringBack_0 : decode cX2_bringBack 0 = .ok (.aload_n 0, 1) := by decide +kernel
theorem dX2_bringBack_1 : decode cX2_bringBack 1 = .ok (.getfield 19, 3) := by decide +kernel
theorem dX2_bringBack_4 : decode cX2_bringBack 4 = .ok (.ifCond .le 51, 3) := by decide +kernel
theorem dX2_bringBack_7 : decode cX2_bringBack 7 = .ok (.aload_n 0, 1) := by decide +kernel
theorem dX2_bringBack_8 : decode cX2_bringBack 8 = .ok (.aload_n 0, 1) := by decide +kernel
theorem dX2_bringBack_9 : decode cX2_bringBack 9 = .ok (.getfield 15, 3) := by decide +kernel
theorem dX2_bringBack_12 : decode cX2_bringBack 12 = .ok (.ifCond .le 12, 3) := by decide +kernel
theorem dX2_bringBack_15 : decode cX2_bringBack 15 = .ok (.aload_n 0, 1) := by decide +kernel
theorem dX2_bringBack_16 : decode cX2_bringBack 16 = .ok (.getfield 15, 3) := by decide +kernel
theorem dX2_bringBack_19 : decode cX2_bringBack 19 = .ok (.iconst 1, 1) := by decide +kernel
theorem dX2_bringBack_20 : decode cX2_bringBack 20 = .ok (.isub, 1) := by decide +kernel
theorem dX2_bringBack_21 : decode cX2_bringBack 21 = .ok (.goto 5, 3) := by decide +kernel
theorem dX2_bringBack_24 : decode cX2_bringBack 24 = .ok (.bipush 39, 2) := by decide +kernel
theorem dX2_bringBack_26 : decode cX2_bringBack 26 = .ok (.putfield 15, 3) := by decide +kernel
theorem dX2_bringBack_29 : decode cX2_bringBack 29 = .ok (.aload_n 1, 1) := by decide +kernel
theorem dX2_bringBack_30 : decode cX2_bringBack 30 = .ok (.aload_n 0, 1) := by decide +kernel
theorem dX2_bringBack_31 : decode cX2_bringBack 31 = .ok (.getfield 11, 3) := by decide +kernel
theorem dX2_bringBack_34 : decode cX2_bringBack 34 = .ok (.aload_n 0, 1) := by decide +kernel
theorem dX2_bringBack_35 : decode cX2_bringBack 35 = .ok (.getfield 15, 3) := by decide +kernel
theorem dX2_bringBack_38 : decode cX2_bringBack 38 = .ok (.sipush 144, 3) := by decide +kernel
theorem dX2_bringBack_41 : decode cX2_bringBack 41 = .ok (.imul, 1) := by decide +kernel
theorem dX2_bringBack_42 : decode cX2_bringBack 42 = .ok (.invokevirtual 32, 3) := by decide +kernel
theorem dX2_bringBack_45 : decode cX2_bringBack 45 = .ok (.aload_n 0, 1) := by decide +kernel
theorem dX2_bringBack_46 : decode cX2_bringBack 46 = .ok (.dup, 1) := by decide +kernel
theorem dX2_bringBack_47 : decode cX2_bringBack 47 = .ok (.getfield 19, 3) := by decide +kernel
theorem dX2_bringBack_50 : decode cX2_bringBack 50 = .ok (.iconst 1, 1) := by decide +kernel
theorem dX2_bringBack_51 : decode cX2_bringBack 51 = .ok (.isub, 1) := by decide +kernel
theorem dX2_bringBack_52 : decode cX2_bringBack 52 = .ok (.putfield 19, 3) := by decide +kernel
theorem dX2_bringBack_55 : decode cX2_bringBack 55 = .ok (.return_, 1) := by decide +kernel
theorem dX2_forget_0 : decode cX2_forget 0 = .ok (.aload_n 0, 1) := by decide +kernel
theorem dX2_forget_1 : decode cX2_forget 1 = .ok (.iconst 0, 1) := by decide +kernel
theorem dX2_forget_2 : decode cX2_forget 2 = .ok (.putfield 19, 3) := by decide +kernel
theorem dX2_forget_5 : decode cX2_forget 5 = .ok (.return_, 1) := by decide +kernel
theorem dX3_add_0 : decode cX3_add 0 = .ok (.iconst 3, 1) := by decide +kernel
theorem dX3_add_1 : decode cX3_add 1 = .ok (.aload_n 0, 1) := by decide +kernel
theorem dX3_add_2 : decode cX3_add 2 = .ok (.getfield 17, 3) := by decide +kernel
theorem dX3_add_5 : decode cX3_add 5 = .ok (.bipush 100, 2) := by decide +kernel
theorem dX3_add_7 : decode cX3_add 7 = .ok (.invokestatic 21, 3) := by decide +kernel
theorem dX3_add_10 : decode cX3_add 10 = .ok (.imul, 1) := by decide +kernel
theorem dX3_add_11 : decode cX3_add 11 = .ok (.istore 4, 2) := by decide +kernel
theorem dX3_add_13 : decode cX3_add 13 = .ok (.aload_n 0, 1) := by decide +kernel
theorem dX3_add_14 : decode cX3_add 14 = .ok (.getfield 13, 3) := by decide +kernel
theorem dX3_add_17 : decode cX3_add 17 = .ok (.iload 4, 2) := by decide +kernel
theorem dX3_add_19 : decode cX3_add 19 = .ok (.iload_n 1, 1) := by decide +kernel
theorem dX3_add_20 : decode cX3_add 20 = .ok (.iastore, 1) := by decide +kernel
theorem dX3_add_21 : decode cX3_add 21 = .ok (.aload_n 0, 1) := by decide +kernel
theorem dX3_add_22 : decode cX3_add 22 = .ok (.getfield 13, 3) := by decide +kernel
theorem dX3_add_25 : decode cX3_add 25 = .ok (.iload 4, 2) := by decide +kernel
theorem dX3_add_27 : decode cX3_add 27 = .ok (.iconst 1, 1) := by decide +kernel
theorem dX3_add_28 : decode cX3_add 28 = .ok (.iadd, 1) := by decide +kernel
theorem dX3_add_29 : decode cX3_add 29 = .ok (.iload_n 2, 1) := by decide +kernel
theorem dX3_add_30 : decode cX3_add 30 = .ok (.iastore, 1) := by decide +kernel
theorem dX3_add_31 : decode cX3_add 31 = .ok (.aload_n 0, 1) := by decide +kernel
theorem dX3_add_32 : decode cX3_add 32 = .ok (.getfield 13, 3) := by decide +kernel
theorem dX3_add_35 : decode cX3_add 35 = .ok (.iload 4, 2) := by decide +kernel
theorem dX3_add_37 : decode cX3_add 37 = .ok (.iconst 2, 1) := by decide +kernel
theorem dX3_add_38 : decode cX3_add 38 = .ok (.iadd, 1) := by decide +kernel
theorem dX3_add_39 : decode cX3_add 39 = .ok (.iload_n 3, 1) := by decide +kernel
theorem dX3_add_40 : decode cX3_add 40 = .ok (.iastore, 1) := by decide +kernel
theorem dX3_add_41 : decode cX3_add 41 = .ok (.aload_n 0, 1) := by decide +kernel
theorem dX3_add_42 : decode cX3_add 42 = .ok (.dup, 1) := by decide +kernel
theorem dX3_add_43 : decode cX3_add 43 = .ok (.getfield 17, 3) := by decide +kernel
theorem dX3_add_46 : decode cX3_add 46 = .ok (.iconst 1, 1) := by decide +kernel
theorem dX3_add_47 : decode cX3_add 47 = .ok (.iadd, 1) := by decide +kernel
theorem dX3_add_48 : decode cX3_add 48 = .ok (.putfield 17, 3) := by decide +kernel
theorem dX3_add_51 : decode cX3_add 51 = .ok (.return_, 1) := by decide +kernel
theorem dX3_drop_0 : decode cX3_drop 0 = .ok (.aload_n 0, 1) := by decide +kernel
theorem dX3_drop_1 : decode cX3_drop 1 = .ok (.getfield 17, 3) := by decide +kernel
theorem dX3_drop_4 : decode cX3_drop 4 = .ok (.ifCond .le 13, 3) := by decide +kernel
theorem dX3_drop_7 : decode cX3_drop 7 = .ok (.aload_n 0, 1) := by decide +kernel
theorem dX3_drop_8 : decode cX3_drop 8 = .ok (.dup, 1) := by decide +kernel
theorem dX3_drop_9 : decode cX3_drop 9 = .ok (.getfield 17, 3) := by decide +kernel
theorem dX3_drop_12 : decode cX3_drop 12 = .ok (.iconst 1, 1) := by decide +kernel
theorem dX3_drop_13 : decode cX3_drop 13 = .ok (.isub, 1) := by decide +kernel
theorem dX3_drop_14 : decode cX3_drop 14 = .ok (.putfield 17, 3) := by decide +kernel
theorem dX3_drop_17 : decode cX3_drop 17 = .ok (.return_, 1) := by decide +kernel
theorem dX3_forget_0 : decode cX3_forget 0 = .ok (.aload_n 0, 1) := by decide +kernel
theorem dX3_forget_1 : decode cX3_forget 1 = .ok (.iconst 0, 1) := by decide +kernel
theorem dX3_forget_2 : decode cX3_forget 2 = .ok (.putfield 17, 3) := by decide +kernel
theorem dX3_forget_5 : decode cX3_forget 5 = .ok (.return_, 1) := by decide +kernel
theorem dX3_length_0 : decode cX3_length 0 = .ok (.aload_n 0, 1) := by decide +kernel
theorem dX3_length_1 : decode cX3_length 1 = .ok (.getfield 17, 3) := by decide +kernel
theorem dX3_length_4 : decode cX3_length 4 = .ok (.bipush 60, 2) := by decide +kernel
theorem dX3_length_6 : decode cX3_length 6 = .ok (.invokestatic 27, 3) := by decide +kernel
theorem dX3_length_9 : decode cX3_length 9 = .ok (.ireturn, 1) := by decide +kernel
theorem dX3_tell_0 : decode cX3_tell 0 = .ok (.iload_n 1, 1) := by decide +kernel
theorem dX3_tell_1 : decode cX3_tell 1 = .ok (.ifCond .lt 20, 3) := by decide +kernel
theorem dX3_tell_4 : decode cX3_tell 4 = .ok (.iload_n 1, 1) := by decide +kernel
theorem dX3_tell_5 : decode cX3_tell 5 = .ok (.aload_n 0, 1) := by decide +kernel
theorem dX3_tell_6 : decode cX3_tell 6 = .ok (.invokevirtual 30, 3) := by decide +kernel
theorem dX3_tell_9 : decode cX3_tell 9 = .ok (.if_icmp .ge 12, 3) := by decide +kernel
theorem dX3_tell_12 : decode cX3_tell 12 = .ok (.iload_n 2, 1) := by decide +kernel
theorem dX3_tell_13 : decode cX3_tell 13 = .ok (.ifCond .lt 8, 3) := by decide +kernel
theorem dX3_tell_16 : decode cX3_tell 16 = .ok (.iload_n 2, 1) := by decide +kernel
theorem dX3_tell_17 : decode cX3_tell 17 = .ok (.iconst 3, 1) := by decide +kernel
theorem dX3_tell_18 : decode cX3_tell 18 = .ok (.if_icmp .lt 6, 3) := by decide +kernel
theorem dX3_tell_21 : decode cX3_tell 21 = .ok (.ldc 34, 2) := by decide +kernel
theorem dX3_tell_23 : decode cX3_tell 23 = .ok (.ireturn, 1) := by decide +kernel
theorem dX3_tell_24 : decode cX3_tell 24 = .ok (.aload_n 0, 1) := by decide +kernel
theorem dX3_tell_25 : decode cX3_tell 25 = .ok (.getfield 13, 3) := by decide +kernel
theorem dX3_tell_28 : decode cX3_tell 28 = .ok (.iconst 3, 1) := by decide +kernel
theorem dX3_tell_29 : decode cX3_tell 29 = .ok (.aload_n 0, 1) := by decide +kernel
theorem dX3_tell_30 : decode cX3_tell 30 = .ok (.getfield 17, 3) := by decide +kernel
theorem dX3_tell_33 : decode cX3_tell 33 = .ok (.iconst 1, 1) := by decide +kernel
theorem dX3_tell_34 : decode cX3_tell 34 = .ok (.isub, 1) := by decide +kernel
theorem dX3_tell_35 : decode cX3_tell 35 = .ok (.iload_n 1, 1) := by decide +kernel
theorem dX3_tell_36 : decode cX3_tell 36 = .ok (.isub, 1) := by decide +kernel
theorem dX3_tell_37 : decode cX3_tell 37 = .ok (.bipush 100, 2) := by decide +kernel
theorem dX3_tell_39 : decode cX3_tell 39 = .ok (.invokestatic 21, 3) := by decide +kernel
theorem dX3_tell_42 : decode cX3_tell 42 = .ok (.imul, 1) := by decide +kernel
theorem dX3_tell_43 : decode cX3_tell 43 = .ok (.iload_n 2, 1) := by decide +kernel
theorem dX3_tell_44 : decode cX3_tell 44 = .ok (.iadd, 1) := by decide +kernel
theorem dX3_tell_45 : decode cX3_tell 45 = .ok (.iaload, 1) := by decide +kernel
theorem dX3_tell_46 : decode cX3_tell 46 = .ok (.ireturn, 1) := by decide +kernel
theorem dX3_copy_0 : decode cX3_copy 0 = .ok (.aload_n 1, 1) := by decide +kernel
theorem dX3_copy_1 : decode cX3_copy 1 = .ok (.getfield 13, 3) := by decide +kernel
theorem dX3_copy_4 : decode cX3_copy 4 = .ok (.iconst 0, 1) := by decide +kernel
theorem dX3_copy_5 : decode cX3_copy 5 = .ok (.aload_n 0, 1) := by decide +kernel
theorem dX3_copy_6 : decode cX3_copy 6 = .ok (.getfield 13, 3) := by decide +kernel
theorem dX3_copy_9 : decode cX3_copy 9 = .ok (.iconst 0, 1) := by decide +kernel
theorem dX3_copy_10 : decode cX3_copy 10 = .ok (.sipush 300, 3) := by decide +kernel
theorem dX3_copy_13 : decode cX3_copy 13 = .ok (.invokestatic 35, 3) := by decide +kernel
theorem dX3_copy_16 : decode cX3_copy 16 = .ok (.aload_n 0, 1) := by decide +kernel
theorem dX3_copy_17 : decode cX3_copy 17 = .ok (.aload_n 1, 1) := by decide +kernel
theorem dX3_copy_18 : decode cX3_copy 18 = .ok (.getfield 17, 3) := by decide +kernel
theorem dX3_copy_21 : decode cX3_copy 21 = .ok (.putfield 17, 3) := by decide +kernel
theorem dX3_copy_24 : decode cX3_copy 24 = .ok (.return_, 1) := by decide +kernel
theorem dX6_partOf_0 : decode cX6_partOf 0 = .ok (.aload_n 0, 1) := by decide +kernel
theorem dX6_partOf_1 : decode cX6_partOf 1 = .ok (.getfield 16, 3) := by decide +kernel
theorem dX6_partOf_4 : decode cX6_partOf 4 = .ok (.iconst 1, 1) := by decide +kernel
theorem dX6_partOf_5 : decode cX6_partOf 5 = .ok (.if_icmp .lt 11, 3) := by decide +kernel
theorem dX6_partOf_8 : decode cX6_partOf 8 = .ok (.aload_n 0, 1) := by decide +kernel
theorem dX6_partOf_9 : decode cX6_partOf 9 = .ok (.getfield 7, 3) := by decide +kernel
theorem dX6_partOf_12 : decode cX6_partOf 12 = .ok (.iconst 1, 1) := by decide +kernel
theorem dX6_partOf_13 : decode cX6_partOf 13 = .ok (.if_icmp .ge 7, 3) := by decide +kernel
theorem dX6_partOf_16 : decode cX6_partOf 16 = .ok (.iconst 0, 1) := by decide +kernel
theorem dX6_partOf_17 : decode cX6_partOf 17 = .ok (.goto 14, 3) := by decide +kernel
theorem dX6_partOf_20 : decode cX6_partOf 20 = .ok (.iload_n 1, 1) := by decide +kernel
theorem dX6_partOf_21 : decode cX6_partOf 21 = .ok (.aload_n 0, 1) := by decide +kernel
theorem dX6_partOf_22 : decode cX6_partOf 22 = .ok (.getfield 16, 3) := by decide +kernel
theorem dX6_partOf_25 : decode cX6_partOf 25 = .ok (.idiv, 1) := by decide +kernel
theorem dX6_partOf_26 : decode cX6_partOf 26 = .ok (.aload_n 0, 1) := by decide +kernel
theorem dX6_partOf_27 : decode cX6_partOf 27 = .ok (.getfield 7, 3) := by decide +kernel
theorem dX6_partOf_30 : decode cX6_partOf 30 = .ok (.irem, 1) := by decide +kernel
theorem dX6_partOf_31 : decode cX6_partOf 31 = .ok (.ireturn, 1) := by decide +kernel
theorem dX6_stripeOf_0 : decode cX6_stripeOf 0 = .ok (.aload_n 0, 1) := by decide +kernel
theorem dX6_stripeOf_1 : decode cX6_stripeOf 1 = .ok (.getfield 16, 3) := by decide +kernel
theorem dX6_stripeOf_4 : decode cX6_stripeOf 4 = .ok (.iconst 1, 1) := by decide +kernel
theorem dX6_stripeOf_5 : decode cX6_stripeOf 5 = .ok (.if_icmp .lt 11, 3) := by decide +kernel
theorem dX6_stripeOf_8 : decode cX6_stripeOf 8 = .ok (.aload_n 0, 1) := by decide +kernel
theorem dX6_stripeOf_9 : decode cX6_stripeOf 9 = .ok (.getfield 7, 3) := by decide +kernel
theorem dX6_stripeOf_12 : decode cX6_stripeOf 12 = .ok (.iconst 1, 1) := by decide +kernel
theorem dX6_stripeOf_13 : decode cX6_stripeOf 13 = .ok (.if_icmp .ge 7, 3) := by decide +kernel
theorem dX6_stripeOf_16 : decode cX6_stripeOf 16 = .ok (.iconst 0, 1) := by decide +kernel
theorem dX6_stripeOf_17 : decode cX6_stripeOf 17 = .ok (.goto 14, 3) := by decide +kernel
theorem dX6_stripeOf_20 : decode cX6_stripeOf 20 = .ok (.iload_n 1, 1) := by decide +kernel
theorem dX6_stripeOf_21 : decode cX6_stripeOf 21 = .ok (.aload_n 0, 1) := by decide +kernel
theorem dX6_stripeOf_22 : decode cX6_stripeOf 22 = .ok (.getfield 16, 3) := by decide +kernel
theorem dX6_stripeOf_25 : decode cX6_stripeOf 25 = .ok (.idiv, 1) := by decide +kernel
theorem dX6_stripeOf_26 : decode cX6_stripeOf 26 = .ok (.aload_n 0, 1) := by decide +kernel
theorem dX6_stripeOf_27 : decode cX6_stripeOf 27 = .ok (.getfield 7, 3) := by decide +kernel
theorem dX6_stripeOf_30 : decode cX6_stripeOf 30 = .ok (.idiv, 1) := by decide +kernel
theorem dX6_stripeOf_31 : decode cX6_stripeOf 31 = .ok (.ireturn, 1) := by decide +kernel
theorem dX6_diskOf_0 : decode cX6_diskOf 0 = .ok (.aload_n 0, 1) := by decide +kernel
theorem dX6_diskOf_1 : decode cX6_diskOf 1 = .ok (.getfield 25, 3) := by decide +kernel
theorem dX6_diskOf_4 : decode cX6_diskOf 4 = .ok (.iconst 1, 1) := by decide +kernel
theorem dX6_diskOf_5 : decode cX6_diskOf 5 = .ok (.if_icmp .ge 5, 3) := by decide +kernel
theorem dX6_diskOf_8 : decode cX6_diskOf 8 = .ok (.iconst 0, 1) := by decide +kernel
theorem dX6_diskOf_9 : decode cX6_diskOf 9 = .ok (.ireturn, 1) := by decide +kernel
theorem dX6_diskOf_10 : decode cX6_diskOf 10 = .ok (.iload_n 1, 1) := by decide +kernel
theorem dX6_diskOf_11 : decode cX6_diskOf 11 = .ok (.aload_n 0, 1) := by decide +kernel
theorem dX6_diskOf_12 : decode cX6_diskOf 12 = .ok (.getfield 7, 3) := by decide +kernel
theorem dX6_diskOf_15 : decode cX6_diskOf 15 = .ok (.if_icmp .lt 12, 3) := by decide +kernel
theorem dX6_diskOf_18 : decode cX6_diskOf 18 = .ok (.iload_n 1, 1) := by decide +kernel
theorem dX6_diskOf_19 : decode cX6_diskOf 19 = .ok (.aload_n 0, 1) := by decide +kernel
theorem dX6_diskOf_20 : decode cX6_diskOf 20 = .ok (.getfield 7, 3) := by decide +kernel
theorem dX6_diskOf_23 : decode cX6_diskOf 23 = .ok (.isub, 1) := by decide +kernel
theorem dX6_diskOf_24 : decode cX6_diskOf 24 = .ok (.goto 6, 3) := by decide +kernel
theorem dX6_diskOf_27 : decode cX6_diskOf 27 = .ok (.iload_n 1, 1) := by decide +kernel
theorem dX6_diskOf_28 : decode cX6_diskOf 28 = .ok (.iconst 2, 1) := by decide +kernel
theorem dX6_diskOf_29 : decode cX6_diskOf 29 = .ok (.iadd, 1) := by decide +kernel
theorem dX6_diskOf_30 : decode cX6_diskOf 30 = .ok (.istore_n 3, 1) := by decide +kernel
theorem dX6_diskOf_31 : decode cX6_diskOf 31 = .ok (.aload_n 0, 1) := by decide +kernel
theorem dX6_diskOf_32 : decode cX6_diskOf 32 = .ok (.getfield 25, 3) := by decide +kernel
theorem dX6_diskOf_35 : decode cX6_diskOf 35 = .ok (.iconst 1, 1) := by decide +kernel
theorem dX6_diskOf_36 : decode cX6_diskOf 36 = .ok (.isub, 1) := by decide +kernel
theorem dX6_diskOf_37 : decode cX6_diskOf 37 = .ok (.iload_n 2, 1) := by decide +kernel
theorem dX6_diskOf_38 : decode cX6_diskOf 38 = .ok (.aload_n 0, 1) := by decide +kernel
theorem dX6_diskOf_39 : decode cX6_diskOf 39 = .ok (.getfield 25, 3) := by decide +kernel
theorem dX6_diskOf_42 : decode cX6_diskOf 42 = .ok (.irem, 1) := by decide +kernel
theorem dX6_diskOf_43 : decode cX6_diskOf 43 = .ok (.isub, 1) := by decide +kernel
theorem dX6_diskOf_44 : decode cX6_diskOf 44 = .ok (.iload_n 3, 1) := by decide +kernel
theorem dX6_diskOf_45 : decode cX6_diskOf 45 = .ok (.iadd, 1) := by decide +kernel
theorem dX6_diskOf_46 : decode cX6_diskOf 46 = .ok (.aload_n 0, 1) := by decide +kernel
theorem dX6_diskOf_47 : decode cX6_diskOf 47 = .ok (.getfield 25, 3) := by decide +kernel
theorem dX6_diskOf_50 : decode cX6_diskOf 50 = .ok (.invokestatic 60, 3) := by decide +kernel
theorem dX6_diskOf_53 : decode cX6_diskOf 53 = .ok (.ireturn, 1) := by decide +kernel
theorem dX9_get_0 : decode cX9_get 0 = .ok (.iload_n 1, 1) := by decide +kernel
theorem dX9_get_1 : decode cX9_get 1 = .ok (.ifCond .lt 19, 3) := by decide +kernel
theorem dX9_get_4 : decode cX9_get 4 = .ok (.iload_n 1, 1) := by decide +kernel
theorem dX9_get_5 : decode cX9_get 5 = .ok (.sipush 144, 3) := by decide +kernel
theorem dX9_get_8 : decode cX9_get 8 = .ok (.if_icmp .ge 12, 3) := by decide +kernel
theorem dX9_get_11 : decode cX9_get 11 = .ok (.aload_n 0, 1) := by decide +kernel
theorem dX9_get_12 : decode cX9_get 12 = .ok (.getfield 11, 3) := by decide +kernel
theorem dX9_get_15 : decode cX9_get 15 = .ok (.iload_n 1, 1) := by decide +kernel
theorem dX9_get_16 : decode cX9_get 16 = .ok (.iaload, 1) := by decide +kernel
theorem dX9_get_17 : decode cX9_get 17 = .ok (.goto 4, 3) := by decide +kernel
theorem dX9_get_20 : decode cX9_get 20 = .ok (.iconst 0, 1) := by decide +kernel
theorem dX9_get_21 : decode cX9_get 21 = .ok (.ireturn, 1) := by decide +kernel
theorem dJ6_bitCount_0f7a4_0 : decode cJ6_bitCount_0f7a4 0 = .ok (.iload_n 0, 1) := by decide +kernel
theorem dJ6_bitCount_0f7a4_1 : decode cJ6_bitCount_0f7a4 1 = .ok (.iload_n 0, 1) := by decide +kernel
theorem dJ6_bitCount_0f7a4_2 : decode cJ6_bitCount_0f7a4 2 = .ok (.iconst 1, 1) := by decide +kernel
theorem dJ6_bitCount_0f7a4_3 : decode cJ6_bitCount_0f7a4 3 = .ok (.iushr, 1) := by decide +kernel
theorem dJ6_bitCount_0f7a4_4 : decode cJ6_bitCount_0f7a4 4 = .ok (.ldc_w 265, 3) := by decide +kernel
theorem dJ6_bitCount_0f7a4_7 : decode cJ6_bitCount_0f7a4 7 = .ok (.iand, 1) := by decide +kernel
theorem dJ6_bitCount_0f7a4_8 : decode cJ6_bitCount_0f7a4 8 = .ok (.isub, 1) := by decide +kernel
theorem dJ6_bitCount_0f7a4_9 : decode cJ6_bitCount_0f7a4 9 = .ok (.istore_n 0, 1) := by decide +kernel
theorem dJ6_bitCount_0f7a4_10 : decode cJ6_bitCount_0f7a4 10 = .ok (.iload_n 0, 1) := by decide +kernel
theorem dJ6_bitCount_0f7a4_11 : decode cJ6_bitCount_0f7a4 11 = .ok (.ldc_w 266, 3) := by decide +kernel
theorem dJ6_bitCount_0f7a4_14 : decode cJ6_bitCount_0f7a4 14 = .ok (.iand, 1) := by decide +kernel
theorem dJ6_bitCount_0f7a4_15 : decode cJ6_bitCount_0f7a4 15 = .ok (.iload_n 0, 1) := by decide +kernel
theorem dJ6_bitCount_0f7a4_16 : decode cJ6_bitCount_0f7a4 16 = .ok (.iconst 2, 1) := by decide +kernel
theorem dJ6_bitCount_0f7a4_17 : decode cJ6_bitCount_0f7a4 17 = .ok (.iushr, 1) := by decide +kernel
theorem dJ6_bitCount_0f7a4_18 : decode cJ6_bitCount_0f7a4 18 = .ok (.ldc_w 266, 3) := by decide +kernel
theorem dJ6_bitCount_0f7a4_21 : decode cJ6_bitCount_0f7a4 21 = .ok (.iand, 1) := by decide +kernel
theorem dJ6_bitCount_0f7a4_22 : decode cJ6_bitCount_0f7a4 22 = .ok (.iadd, 1) := by decide +kernel
theorem dJ6_bitCount_0f7a4_23 : decode cJ6_bitCount_0f7a4 23 = .ok (.istore_n 0, 1) := by decide +kernel
theorem dJ6_bitCount_0f7a4_24 : decode cJ6_bitCount_0f7a4 24 = .ok (.iload_n 0, 1) := by decide +kernel
theorem dJ6_bitCount_0f7a4_25 : decode cJ6_bitCount_0f7a4 25 = .ok (.iload_n 0, 1) := by decide +kernel
theorem dJ6_bitCount_0f7a4_26 : decode cJ6_bitCount_0f7a4 26 = .ok (.iconst 4, 1) := by decide +kernel
theorem dJ6_bitCount_0f7a4_27 : decode cJ6_bitCount_0f7a4 27 = .ok (.iushr, 1) := by decide +kernel
theorem dJ6_bitCount_0f7a4_28 : decode cJ6_bitCount_0f7a4 28 = .ok (.iadd, 1) := by decide +kernel
theorem dJ6_bitCount_0f7a4_29 : decode cJ6_bitCount_0f7a4 29 = .ok (.ldc_w 267, 3) := by decide +kernel
theorem dJ6_bitCount_0f7a4_32 : decode cJ6_bitCount_0f7a4 32 = .ok (.iand, 1) := by decide +kernel
theorem dJ6_bitCount_0f7a4_33 : decode cJ6_bitCount_0f7a4 33 = .ok (.istore_n 0, 1) := by decide +kernel
theorem dJ6_bitCount_0f7a4_34 : decode cJ6_bitCount_0f7a4 34 = .ok (.iload_n 0, 1) := by decide +kernel
theorem dJ6_bitCount_0f7a4_35 : decode cJ6_bitCount_0f7a4 35 = .ok (.iload_n 0, 1) := by decide +kernel
theorem dJ6_bitCount_0f7a4_36 : decode cJ6_bitCount_0f7a4 36 = .ok (.bipush 8, 2) := by decide +kernel
theorem dJ6_bitCount_0f7a4_38 : decode cJ6_bitCount_0f7a4 38 = .ok (.iushr, 1) := by decide +kernel
theorem dJ6_bitCount_0f7a4_39 : decode cJ6_bitCount_0f7a4 39 = .ok (.iadd, 1) := by decide +kernel
theorem dJ6_bitCount_0f7a4_40 : decode cJ6_bitCount_0f7a4 40 = .ok (.istore_n 0, 1) := by decide +kernel
theorem dJ6_bitCount_0f7a4_41 : decode cJ6_bitCount_0f7a4 41 = .ok (.iload_n 0, 1) := by decide +kernel
theorem dJ6_bitCount_0f7a4_42 : decode cJ6_bitCount_0f7a4 42 = .ok (.iload_n 0, 1) := by decide +kernel
theorem dJ6_bitCount_0f7a4_43 : decode cJ6_bitCount_0f7a4 43 = .ok (.bipush 16, 2) := by decide +kernel
theorem dJ6_bitCount_0f7a4_45 : decode cJ6_bitCount_0f7a4 45 = .ok (.iushr, 1) := by decide +kernel
theorem dJ6_bitCount_0f7a4_46 : decode cJ6_bitCount_0f7a4 46 = .ok (.iadd, 1) := by decide +kernel
theorem dJ6_bitCount_0f7a4_47 : decode cJ6_bitCount_0f7a4 47 = .ok (.istore_n 0, 1) := by decide +kernel
theorem dJ6_bitCount_0f7a4_48 : decode cJ6_bitCount_0f7a4 48 = .ok (.iload_n 0, 1) := by decide +kernel
theorem dJ6_bitCount_0f7a4_49 : decode cJ6_bitCount_0f7a4 49 = .ok (.bipush 63, 2) := by decide +kernel
theorem dJ6_bitCount_0f7a4_51 : decode cJ6_bitCount_0f7a4 51 = .ok (.iand, 1) := by decide +kernel
theorem dJ6_bitCount_0f7a4_52 : decode cJ6_bitCount_0f7a4 52 = .ok (.ireturn, 1) := by decide +kernel
theorem dX6_partOn_0 : decode cX6_partOn 0 = .ok (.aload_n 0, 1) := by decide +kernel
theorem dX6_partOn_1 : decode cX6_partOn 1 = .ok (.getfield 25, 3) := by decide +kernel
theorem dX6_partOn_4 : decode cX6_partOn 4 = .ok (.iconst 1, 1) := by decide +kernel
theorem dX6_partOn_5 : decode cX6_partOn 5 = .ok (.if_icmp .ge 5, 3) := by decide +kernel
theorem dX6_partOn_8 : decode cX6_partOn 8 = .ok (.iconst 0, 1) := by decide +kernel
theorem dX6_partOn_9 : decode cX6_partOn 9 = .ok (.ireturn, 1) := by decide +kernel
theorem dX6_partOn_10 : decode cX6_partOn 10 = .ok (.iload_n 1, 1) := by decide +kernel
theorem dX6_partOn_11 : decode cX6_partOn 11 = .ok (.aload_n 0, 1) := by decide +kernel
theorem dX6_partOn_12 : decode cX6_partOn 12 = .ok (.getfield 25, 3) := by decide +kernel
theorem dX6_partOn_15 : decode cX6_partOn 15 = .ok (.iconst 1, 1) := by decide +kernel
theorem dX6_partOn_16 : decode cX6_partOn 16 = .ok (.isub, 1) := by decide +kernel
theorem dX6_partOn_17 : decode cX6_partOn 17 = .ok (.iload_n 2, 1) := by decide +kernel
theorem dX6_partOn_18 : decode cX6_partOn 18 = .ok (.aload_n 0, 1) := by decide +kernel
theorem dX6_partOn_19 : decode cX6_partOn 19 = .ok (.getfield 25, 3) := by decide +kernel
theorem dX6_partOn_22 : decode cX6_partOn 22 = .ok (.irem, 1) := by decide +kernel
theorem dX6_partOn_23 : decode cX6_partOn 23 = .ok (.isub, 1) := by decide +kernel
theorem dX6_partOn_24 : decode cX6_partOn 24 = .ok (.isub, 1) := by decide +kernel
theorem dX6_partOn_25 : decode cX6_partOn 25 = .ok (.aload_n 0, 1) := by decide +kernel
theorem dX6_partOn_26 : decode cX6_partOn 26 = .ok (.getfield 25, 3) := by decide +kernel
theorem dX6_partOn_29 : decode cX6_partOn 29 = .ok (.invokestatic 60, 3) := by decide +kernel
theorem dX6_partOn_32 : decode cX6_partOn 32 = .ok (.istore_n 3, 1) := by decide +kernel
theorem dX6_partOn_33 : decode cX6_partOn 33 = .ok (.iload_n 3, 1) := by decide +kernel
theorem dX6_partOn_34 : decode cX6_partOn 34 = .ok (.iconst 2, 1) := by decide +kernel
theorem dX6_partOn_35 : decode cX6_partOn 35 = .ok (.if_icmp .ge 12, 3) := by decide +kernel
theorem dX6_partOn_38 : decode cX6_partOn 38 = .ok (.aload_n 0, 1) := by decide +kernel
theorem dX6_partOn_39 : decode cX6_partOn 39 = .ok (.getfield 7, 3) := by decide +kernel
theorem dX6_partOn_42 : decode cX6_partOn 42 = .ok (.iload_n 3, 1) := by decide +kernel
theorem dX6_partOn_43 : decode cX6_partOn 43 = .ok (.iadd, 1) := by decide +kernel
theorem dX6_partOn_44 : decode cX6_partOn 44 = .ok (.goto 6, 3) := by decide +kernel
theorem dX6_partOn_47 : decode cX6_partOn 47 = .ok (.iload_n 3, 1) := by decide +kernel
theorem dX6_partOn_48 : decode cX6_partOn 48 = .ok (.iconst 2, 1) := by decide +kernel
theorem dX6_partOn_49 : decode cX6_partOn 49 = .ok (.isub, 1) := by decide +kernel
theorem dX6_partOn_50 : decode cX6_partOn 50 = .ok (.ireturn, 1) := by decide +kernel
theorem dX9_byteAt_0 : decode cX9_byteAt 0 = .ok (.iload_n 1, 1) := by decide +kernel
theorem dX9_byteAt_1 : decode cX9_byteAt 1 = .ok (.bipush 12, 2) := by decide +kernel
theorem dX9_byteAt_3 : decode cX9_byteAt 3 = .ok (.imul, 1) := by decide +kernel
theorem dX9_byteAt_4 : decode cX9_byteAt 4 = .ok (.iload_n 2, 1) := by decide +kernel
theorem dX9_byteAt_5 : decode cX9_byteAt 5 = .ok (.iadd, 1) := by decide +kernel
theorem dX9_byteAt_6 : decode cX9_byteAt 6 = .ok (.istore 4, 2) := by decide +kernel
theorem dX9_byteAt_8 : decode cX9_byteAt 8 = .ok (.iload 4, 2) := by decide +kernel
theorem dX9_byteAt_10 : decode cX9_byteAt 10 = .ok (.ifCond .lt 38, 3) := by decide +kernel
theorem dX9_byteAt_13 : decode cX9_byteAt 13 = .ok (.iload 4, 2) := by decide +kernel
theorem dX9_byteAt_15 : decode cX9_byteAt 15 = .ok (.bipush 96, 2) := by decide +kernel
theorem dX9_byteAt_17 : decode cX9_byteAt 17 = .ok (.if_icmp .ge 31, 3) := by decide +kernel
theorem dX9_byteAt_20 : decode cX9_byteAt 20 = .ok (.iload_n 3, 1) := by decide +kernel
theorem dX9_byteAt_21 : decode cX9_byteAt 21 = .ok (.ifCond .lt 27, 3) := by decide +kernel
theorem dX9_byteAt_24 : decode cX9_byteAt 24 = .ok (.iload_n 3, 1) := by decide +kernel
theorem dX9_byteAt_25 : decode cX9_byteAt 25 = .ok (.iconst 4, 1) := by decide +kernel
theorem dX9_byteAt_26 : decode cX9_byteAt 26 = .ok (.if_icmp .ge 22, 3) := by decide +kernel
theorem dX9_byteAt_29 : decode cX9_byteAt 29 = .ok (.aload_n 0, 1) := by decide +kernel
theorem dX9_byteAt_30 : decode cX9_byteAt 30 = .ok (.getfield 11, 3) := by decide +kernel
theorem dX9_byteAt_33 : decode cX9_byteAt 33 = .ok (.iload 4, 2) := by decide +kernel
theorem dX9_byteAt_35 : decode cX9_byteAt 35 = .ok (.iaload, 1) := by decide +kernel
theorem dX9_byteAt_36 : decode cX9_byteAt 36 = .ok (.bipush 8, 2) := by decide +kernel
theorem dX9_byteAt_38 : decode cX9_byteAt 38 = .ok (.iload_n 3, 1) := by decide +kernel
theorem dX9_byteAt_39 : decode cX9_byteAt 39 = .ok (.imul, 1) := by decide +kernel
theorem dX9_byteAt_40 : decode cX9_byteAt 40 = .ok (.iushr, 1) := by decide +kernel
theorem dX9_byteAt_41 : decode cX9_byteAt 41 = .ok (.sipush 255, 3) := by decide +kernel
theorem dX9_byteAt_44 : decode cX9_byteAt 44 = .ok (.iand, 1) := by decide +kernel
theorem dX9_byteAt_45 : decode cX9_byteAt 45 = .ok (.goto 4, 3) := by decide +kernel
theorem dX9_byteAt_48 : decode cX9_byteAt 48 = .ok (.iconst 0, 1) := by decide +kernel
theorem dX9_byteAt_49 : decode cX9_byteAt 49 = .ok (.ireturn, 1) := by decide +kernel
theorem dX5_load_0 : decode cX5_load 0 = .ok (.iconst 0, 1) := by decide +kernel
theorem dX5_load_1 : decode cX5_load 1 = .ok (.istore 5, 2) := by decide +kernel
theorem dX5_load_3 : decode cX5_load 3 = .ok (.iload 5, 2) := by decide +kernel
theorem dX5_load_5 : decode cX5_load 5 = .ok (.aload_n 0, 1) := by decide +kernel
theorem dX5_load_6 : decode cX5_load 6 = .ok (.getfield 17, 3) := by decide +kernel
theorem dX5_load_9 : decode cX5_load 9 = .ok (.getfield 25, 3) := by decide +kernel
theorem dX5_load_12 : decode cX5_load 12 = .ok (.if_icmp .ge 68, 3) := by decide +kernel
theorem dX5_load_15 : decode cX5_load 15 = .ok (.iload 5, 2) := by decide +kernel
theorem dX5_load_17 : decode cX5_load 17 = .ok (.aload_n 0, 1) := by decide +kernel
theorem dX5_load_18 : decode cX5_load 18 = .ok (.getfield 11, 3) := by decide +kernel
theorem dX5_load_21 : decode cX5_load 21 = .ok (.arraylength, 1) := by decide +kernel
theorem dX5_load_22 : decode cX5_load 22 = .ok (.if_icmp .ge 58, 3) := by decide +kernel
theorem dX5_load_25 : decode cX5_load 25 = .ok (.iload 4, 2) := by decide +kernel
theorem dX5_load_27 : decode cX5_load 27 = .ok (.iload 5, 2) := by decide +kernel
theorem dX5_load_29 : decode cX5_load 29 = .ok (.ishr, 1) := by decide +kernel
theorem dX5_load_30 : decode cX5_load 30 = .ok (.iconst 1, 1) := by decide +kernel
theorem dX5_load_31 : decode cX5_load 31 = .ok (.iand, 1) := by decide +kernel
theorem dX5_load_32 : decode cX5_load 32 = .ok (.ifCond .ne 7, 3) := by decide +kernel
theorem dX5_load_35 : decode cX5_load 35 = .ok (.iconst 1, 1) := by decide +kernel
theorem dX5_load_36 : decode cX5_load 36 = .ok (.goto 4, 3) := by decide +kernel
theorem dX5_load_39 : decode cX5_load 39 = .ok (.iconst 0, 1) := by decide +kernel
theorem dX5_load_40 : decode cX5_load 40 = .ok (.istore 6, 2) := by decide +kernel
theorem dX5_load_42 : decode cX5_load 42 = .ok (.aload_n 0, 1) := by decide +kernel
theorem dX5_load_43 : decode cX5_load 43 = .ok (.getfield 11, 3) := by decide +kernel
theorem dX5_load_46 : decode cX5_load 46 = .ok (.iload 5, 2) := by decide +kernel
theorem dX5_load_48 : decode cX5_load 48 = .ok (.iload 6, 2) := by decide +kernel
theorem dX5_load_50 : decode cX5_load 50 = .ok (.ifCond .eq 22, 3) := by decide +kernel
theorem dX5_load_53 : decode cX5_load 53 = .ok (.aload_n 1, 1) := by decide +kernel
theorem dX5_load_54 : decode cX5_load 54 = .ok (.aload_n 0, 1) := by decide +kernel
theorem dX5_load_55 : decode cX5_load 55 = .ok (.getfield 17, 3) := by decide +kernel
theorem dX5_load_58 : decode cX5_load 58 = .ok (.iload 5, 2) := by decide +kernel
theorem dX5_load_60 : decode cX5_load 60 = .ok (.iload_n 2, 1) := by decide +kernel
theorem dX5_load_61 : decode cX5_load 61 = .ok (.invokevirtual 31, 3) := by decide +kernel
theorem dX5_load_64 : decode cX5_load 64 = .ok (.iload_n 2, 1) := by decide +kernel
theorem dX5_load_65 : decode cX5_load 65 = .ok (.iload_n 3, 1) := by decide +kernel
theorem dX5_load_66 : decode cX5_load 66 = .ok (.invokevirtual 35, 3) := by decide +kernel
theorem dX5_load_69 : decode cX5_load 69 = .ok (.goto 4, 3) := by decide +kernel
theorem dX5_load_72 : decode cX5_load 72 = .ok (.iconst 0, 1) := by decide +kernel
theorem dX5_load_73 : decode cX5_load 73 = .ok (.iastore, 1) := by decide +kernel
theorem dX5_load_74 : decode cX5_load 74 = .ok (.iinc 5 1, 3) := by decide +kernel
theorem dX5_load_77 : decode cX5_load 77 = .ok (.goto (-74), 3) := by decide +kernel
theorem dX5_load_80 : decode cX5_load 80 = .ok (.return_, 1) := by decide +kernel
theorem dJ6_numberOfTrailingZeros_0f7a4_0 : decode cJ6_numberOfTrailingZeros_0f7a4 0 = .ok (.iload_n 0, 1) := by decide +kernel
theorem dJ6_numberOfTrailingZeros_0f7a4_1 : decode cJ6_numberOfTrailingZeros_0f7a4 1 = .ok (.iconst (-1), 1) := by decide +kernel
theorem dJ6_numberOfTrailingZeros_0f7a4_2 : decode cJ6_numberOfTrailingZeros_0f7a4 2 = .ok (.ixor, 1) := by decide +kernel
theorem dJ6_numberOfTrailingZeros_0f7a4_3 : decode cJ6_numberOfTrailingZeros_0f7a4 3 = .ok (.iload_n 0, 1) := by decide +kernel
theorem dJ6_numberOfTrailingZeros_0f7a4_4 : decode cJ6_numberOfTrailingZeros_0f7a4 4 = .ok (.iconst 1, 1) := by decide +kernel
theorem dJ6_numberOfTrailingZeros_0f7a4_5 : decode cJ6_numberOfTrailingZeros_0f7a4 5 = .ok (.isub, 1) := by decide +kernel
theorem dJ6_numberOfTrailingZeros_0f7a4_6 : decode cJ6_numberOfTrailingZeros_0f7a4 6 = .ok (.iand, 1) := by decide +kernel
theorem dJ6_numberOfTrailingZeros_0f7a4_7 : decode cJ6_numberOfTrailingZeros_0f7a4 7 = .ok (.istore_n 0, 1) := by decide +kernel
theorem dJ6_numberOfTrailingZeros_0f7a4_8 : decode cJ6_numberOfTrailingZeros_0f7a4 8 = .ok (.iload_n 0, 1) := by decide +kernel
theorem dJ6_numberOfTrailingZeros_0f7a4_9 : decode cJ6_numberOfTrailingZeros_0f7a4 9 = .ok (.ifCond .gt 8, 3) := by decide +kernel
theorem dJ6_numberOfTrailingZeros_0f7a4_12 : decode cJ6_numberOfTrailingZeros_0f7a4 12 = .ok (.iload_n 0, 1) := by decide +kernel
theorem dJ6_numberOfTrailingZeros_0f7a4_13 : decode cJ6_numberOfTrailingZeros_0f7a4 13 = .ok (.bipush 32, 2) := by decide +kernel
theorem dJ6_numberOfTrailingZeros_0f7a4_15 : decode cJ6_numberOfTrailingZeros_0f7a4 15 = .ok (.iand, 1) := by decide +kernel
theorem dJ6_numberOfTrailingZeros_0f7a4_16 : decode cJ6_numberOfTrailingZeros_0f7a4 16 = .ok (.ireturn, 1) := by decide +kernel
theorem dJ6_numberOfTrailingZeros_0f7a4_17 : decode cJ6_numberOfTrailingZeros_0f7a4 17 = .ok (.iconst 1, 1) := by decide +kernel
theorem dJ6_numberOfTrailingZeros_0f7a4_18 : decode cJ6_numberOfTrailingZeros_0f7a4 18 = .ok (.istore_n 1, 1) := by decide +kernel
theorem dJ6_numberOfTrailingZeros_0f7a4_19 : decode cJ6_numberOfTrailingZeros_0f7a4 19 = .ok (.iload_n 0, 1) := by decide +kernel
theorem dJ6_numberOfTrailingZeros_0f7a4_20 : decode cJ6_numberOfTrailingZeros_0f7a4 20 = .ok (.ldc_w 264, 3) := by decide +kernel
theorem dJ6_numberOfTrailingZeros_0f7a4_23 : decode cJ6_numberOfTrailingZeros_0f7a4 23 = .ok (.if_icmp .le 11, 3) := by decide +kernel
theorem dJ6_numberOfTrailingZeros_0f7a4_26 : decode cJ6_numberOfTrailingZeros_0f7a4 26 = .ok (.iinc 1 16, 3) := by decide +kernel
theorem dJ6_numberOfTrailingZeros_0f7a4_29 : decode cJ6_numberOfTrailingZeros_0f7a4 29 = .ok (.iload_n 0, 1) := by decide +kernel
theorem dJ6_numberOfTrailingZeros_0f7a4_30 : decode cJ6_numberOfTrailingZeros_0f7a4 30 = .ok (.bipush 16, 2) := by decide +kernel
theorem dJ6_numberOfTrailingZeros_0f7a4_32 : decode cJ6_numberOfTrailingZeros_0f7a4 32 = .ok (.iushr, 1) := by decide +kernel
theorem dJ6_numberOfTrailingZeros_0f7a4_33 : decode cJ6_numberOfTrailingZeros_0f7a4 33 = .ok (.istore_n 0, 1) := by decide +kernel
theorem dJ6_numberOfTrailingZeros_0f7a4_34 : decode cJ6_numberOfTrailingZeros_0f7a4 34 = .ok (.iload_n 0, 1) := by decide +kernel
theorem dJ6_numberOfTrailingZeros_0f7a4_35 : decode cJ6_numberOfTrailingZeros_0f7a4 35 = .ok (.sipush 256, 3) := by decide +kernel
theorem dJ6_numberOfTrailingZeros_0f7a4_38 : decode cJ6_numberOfTrailingZeros_0f7a4 38 = .ok (.if_icmp .le 11, 3) := by decide +kernel
theorem dJ6_numberOfTrailingZeros_0f7a4_41 : decode cJ6_numberOfTrailingZeros_0f7a4 41 = .ok (.iinc 1 8, 3) := by decide +kernel
theorem dJ6_numberOfTrailingZeros_0f7a4_44 : decode cJ6_numberOfTrailingZeros_0f7a4 44 = .ok (.iload_n 0, 1) := by decide +kernel
theorem dJ6_numberOfTrailingZeros_0f7a4_45 : decode cJ6_numberOfTrailingZeros_0f7a4 45 = .ok (.bipush 8, 2) := by decide +kernel
theorem dJ6_numberOfTrailingZeros_0f7a4_47 : decode cJ6_numberOfTrailingZeros_0f7a4 47 = .ok (.iushr, 1) := by decide +kernel
theorem dJ6_numberOfTrailingZeros_0f7a4_48 : decode cJ6_numberOfTrailingZeros_0f7a4 48 = .ok (.istore_n 0, 1) := by decide +kernel
theorem dJ6_numberOfTrailingZeros_0f7a4_49 : decode cJ6_numberOfTrailingZeros_0f7a4 49 = .ok (.iload_n 0, 1) := by decide +kernel
theorem dJ6_numberOfTrailingZeros_0f7a4_50 : decode cJ6_numberOfTrailingZeros_0f7a4 50 = .ok (.bipush 16, 2) := by decide +kernel
theorem dJ6_numberOfTrailingZeros_0f7a4_52 : decode cJ6_numberOfTrailingZeros_0f7a4 52 = .ok (.if_icmp .le 10, 3) := by decide +kernel
theorem dJ6_numberOfTrailingZeros_0f7a4_55 : decode cJ6_numberOfTrailingZeros_0f7a4 55 = .ok (.iinc 1 4, 3) := by decide +kernel
theorem dJ6_numberOfTrailingZeros_0f7a4_58 : decode cJ6_numberOfTrailingZeros_0f7a4 58 = .ok (.iload_n 0, 1) := by decide +kernel
theorem dJ6_numberOfTrailingZeros_0f7a4_59 : decode cJ6_numberOfTrailingZeros_0f7a4 59 = .ok (.iconst 4, 1) := by decide +kernel
theorem dJ6_numberOfTrailingZeros_0f7a4_60 : decode cJ6_numberOfTrailingZeros_0f7a4 60 = .ok (.iushr, 1) := by decide +kernel
theorem dJ6_numberOfTrailingZeros_0f7a4_61 : decode cJ6_numberOfTrailingZeros_0f7a4 61 = .ok (.istore_n 0, 1) := by decide +kernel
theorem dJ6_numberOfTrailingZeros_0f7a4_62 : decode cJ6_numberOfTrailingZeros_0f7a4 62 = .ok (.iload_n 0, 1) := by decide +kernel
theorem dJ6_numberOfTrailingZeros_0f7a4_63 : decode cJ6_numberOfTrailingZeros_0f7a4 63 = .ok (.iconst 4, 1) := by decide +kernel
theorem dJ6_numberOfTrailingZeros_0f7a4_64 : decode cJ6_numberOfTrailingZeros_0f7a4 64 = .ok (.if_icmp .le 10, 3) := by decide +kernel
theorem dJ6_numberOfTrailingZeros_0f7a4_67 : decode cJ6_numberOfTrailingZeros_0f7a4 67 = .ok (.iinc 1 2, 3) := by decide +kernel
theorem dJ6_numberOfTrailingZeros_0f7a4_70 : decode cJ6_numberOfTrailingZeros_0f7a4 70 = .ok (.iload_n 0, 1) := by decide +kernel
theorem dJ6_numberOfTrailingZeros_0f7a4_71 : decode cJ6_numberOfTrailingZeros_0f7a4 71 = .ok (.iconst 2, 1) := by decide +kernel
theorem dJ6_numberOfTrailingZeros_0f7a4_72 : decode cJ6_numberOfTrailingZeros_0f7a4 72 = .ok (.iushr, 1) := by decide +kernel
theorem dJ6_numberOfTrailingZeros_0f7a4_73 : decode cJ6_numberOfTrailingZeros_0f7a4 73 = .ok (.istore_n 0, 1) := by decide +kernel
theorem dJ6_numberOfTrailingZeros_0f7a4_74 : decode cJ6_numberOfTrailingZeros_0f7a4 74 = .ok (.iload_n 1, 1) := by decide +kernel
theorem dJ6_numberOfTrailingZeros_0f7a4_75 : decode cJ6_numberOfTrailingZeros_0f7a4 75 = .ok (.iload_n 0, 1) := by decide +kernel
theorem dJ6_numberOfTrailingZeros_0f7a4_76 : decode cJ6_numberOfTrailingZeros_0f7a4 76 = .ok (.iconst 1, 1) := by decide +kernel
theorem dJ6_numberOfTrailingZeros_0f7a4_77 : decode cJ6_numberOfTrailingZeros_0f7a4 77 = .ok (.iushr, 1) := by decide +kernel
theorem dJ6_numberOfTrailingZeros_0f7a4_78 : decode cJ6_numberOfTrailingZeros_0f7a4 78 = .ok (.iadd, 1) := by decide +kernel
theorem dJ6_numberOfTrailingZeros_0f7a4_79 : decode cJ6_numberOfTrailingZeros_0f7a4 79 = .ok (.ireturn, 1) := by decide +kernel
theorem dJ6_numberOfLeadingZeros_0f7a4_0 : decode cJ6_numberOfLeadingZeros_0f7a4 0 = .ok (.iload_n 0, 1) := by decide +kernel
theorem dJ6_numberOfLeadingZeros_0f7a4_1 : decode cJ6_numberOfLeadingZeros_0f7a4 1 = .ok (.ifCond .gt 14, 3) := by decide +kernel
theorem dJ6_numberOfLeadingZeros_0f7a4_4 : decode cJ6_numberOfLeadingZeros_0f7a4 4 = .ok (.iload_n 0, 1) := by decide +kernel
theorem dJ6_numberOfLeadingZeros_0f7a4_5 : decode cJ6_numberOfLeadingZeros_0f7a4 5 = .ok (.ifCond .ne 8, 3) := by decide +kernel
theorem dJ6_numberOfLeadingZeros_0f7a4_8 : decode cJ6_numberOfLeadingZeros_0f7a4 8 = .ok (.bipush 32, 2) := by decide +kernel
theorem dJ6_numberOfLeadingZeros_0f7a4_10 : decode cJ6_numberOfLeadingZeros_0f7a4 10 = .ok (.goto 4, 3) := by decide +kernel
theorem dJ6_numberOfLeadingZeros_0f7a4_13 : decode cJ6_numberOfLeadingZeros_0f7a4 13 = .ok (.iconst 0, 1) := by decide +kernel
theorem dJ6_numberOfLeadingZeros_0f7a4_14 : decode cJ6_numberOfLeadingZeros_0f7a4 14 = .ok (.ireturn, 1) := by decide +kernel
theorem dJ6_numberOfLeadingZeros_0f7a4_15 : decode cJ6_numberOfLeadingZeros_0f7a4 15 = .ok (.bipush 31, 2) := by decide +kernel
theorem dJ6_numberOfLeadingZeros_0f7a4_17 : decode cJ6_numberOfLeadingZeros_0f7a4 17 = .ok (.istore_n 1, 1) := by decide +kernel
theorem dJ6_numberOfLeadingZeros_0f7a4_18 : decode cJ6_numberOfLeadingZeros_0f7a4 18 = .ok (.iload_n 0, 1) := by decide +kernel
theorem dJ6_numberOfLeadingZeros_0f7a4_19 : decode cJ6_numberOfLeadingZeros_0f7a4 19 = .ok (.ldc_w 264, 3) := by decide +kernel
theorem dJ6_numberOfLeadingZeros_0f7a4_22 : decode cJ6_numberOfLeadingZeros_0f7a4 22 = .ok (.if_icmp .lt 11, 3) := by decide +kernel
theorem dJ6_numberOfLeadingZeros_0f7a4_25 : decode cJ6_numberOfLeadingZeros_0f7a4 25 = .ok (.iinc 1 (-16), 3) := by decide +kernel
theorem dJ6_numberOfLeadingZeros_0f7a4_28 : decode cJ6_numberOfLeadingZeros_0f7a4 28 = .ok (.iload_n 0, 1) := by decide +kernel
theorem dJ6_numberOfLeadingZeros_0f7a4_29 : decode cJ6_numberOfLeadingZeros_0f7a4 29 = .ok (.bipush 16, 2) := by decide +kernel
theorem dJ6_numberOfLeadingZeros_0f7a4_31 : decode cJ6_numberOfLeadingZeros_0f7a4 31 = .ok (.iushr, 1) := by decide +kernel
theorem dJ6_numberOfLeadingZeros_0f7a4_32 : decode cJ6_numberOfLeadingZeros_0f7a4 32 = .ok (.istore_n 0, 1) := by decide +kernel
theorem dJ6_numberOfLeadingZeros_0f7a4_33 : decode cJ6_numberOfLeadingZeros_0f7a4 33 = .ok (.iload_n 0, 1) := by decide +kernel
theorem dJ6_numberOfLeadingZeros_0f7a4_34 : decode cJ6_numberOfLeadingZeros_0f7a4 34 = .ok (.sipush 256, 3) := by decide +kernel
theorem dJ6_numberOfLeadingZeros_0f7a4_37 : decode cJ6_numberOfLeadingZeros_0f7a4 37 = .ok (.if_icmp .lt 11, 3) := by decide +kernel
theorem dJ6_numberOfLeadingZeros_0f7a4_40 : decode cJ6_numberOfLeadingZeros_0f7a4 40 = .ok (.iinc 1 (-8), 3) := by decide +kernel
theorem dJ6_numberOfLeadingZeros_0f7a4_43 : decode cJ6_numberOfLeadingZeros_0f7a4 43 = .ok (.iload_n 0, 1) := by decide +kernel
theorem dJ6_numberOfLeadingZeros_0f7a4_44 : decode cJ6_numberOfLeadingZeros_0f7a4 44 = .ok (.bipush 8, 2) := by decide +kernel
theorem dJ6_numberOfLeadingZeros_0f7a4_46 : decode cJ6_numberOfLeadingZeros_0f7a4 46 = .ok (.iushr, 1) := by decide +kernel
theorem dJ6_numberOfLeadingZeros_0f7a4_47 : decode cJ6_numberOfLeadingZeros_0f7a4 47 = .ok (.istore_n 0, 1) := by decide +kernel
theorem dJ6_numberOfLeadingZeros_0f7a4_48 : decode cJ6_numberOfLeadingZeros_0f7a4 48 = .ok (.iload_n 0, 1) := by decide +kernel
theorem dJ6_numberOfLeadingZeros_0f7a4_49 : decode cJ6_numberOfLeadingZeros_0f7a4 49 = .ok (.bipush 16, 2) := by decide +kernel
theorem dJ6_numberOfLeadingZeros_0f7a4_51 : decode cJ6_numberOfLeadingZeros_0f7a4 51 = .ok (.if_icmp .lt 10, 3) := by decide +kernel
theorem dJ6_numberOfLeadingZeros_0f7a4_54 : decode cJ6_numberOfLeadingZeros_0f7a4 54 = .ok (.iinc 1 (-4), 3) := by decide +kernel
theorem dJ6_numberOfLeadingZeros_0f7a4_57 : decode cJ6_numberOfLeadingZeros_0f7a4 57 = .ok (.iload_n 0, 1) := by decide +kernel
theorem dJ6_numberOfLeadingZeros_0f7a4_58 : decode cJ6_numberOfLeadingZeros_0f7a4 58 = .ok (.iconst 4, 1) := by decide +kernel
theorem dJ6_numberOfLeadingZeros_0f7a4_59 : decode cJ6_numberOfLeadingZeros_0f7a4 59 = .ok (.iushr, 1) := by decide +kernel
theorem dJ6_numberOfLeadingZeros_0f7a4_60 : decode cJ6_numberOfLeadingZeros_0f7a4 60 = .ok (.istore_n 0, 1) := by decide +kernel
theorem dJ6_numberOfLeadingZeros_0f7a4_61 : decode cJ6_numberOfLeadingZeros_0f7a4 61 = .ok (.iload_n 0, 1) := by decide +kernel
theorem dJ6_numberOfLeadingZeros_0f7a4_62 : decode cJ6_numberOfLeadingZeros_0f7a4 62 = .ok (.iconst 4, 1) := by decide +kernel
theorem dJ6_numberOfLeadingZeros_0f7a4_63 : decode cJ6_numberOfLeadingZeros_0f7a4 63 = .ok (.if_icmp .lt 10, 3) := by decide +kernel
theorem dJ6_numberOfLeadingZeros_0f7a4_66 : decode cJ6_numberOfLeadingZeros_0f7a4 66 = .ok (.iinc 1 (-2), 3) := by decide +kernel
theorem dJ6_numberOfLeadingZeros_0f7a4_69 : decode cJ6_numberOfLeadingZeros_0f7a4 69 = .ok (.iload_n 0, 1) := by decide +kernel
theorem dJ6_numberOfLeadingZeros_0f7a4_70 : decode cJ6_numberOfLeadingZeros_0f7a4 70 = .ok (.iconst 2, 1) := by decide +kernel
theorem dJ6_numberOfLeadingZeros_0f7a4_71 : decode cJ6_numberOfLeadingZeros_0f7a4 71 = .ok (.iushr, 1) := by decide +kernel
theorem dJ6_numberOfLeadingZeros_0f7a4_72 : decode cJ6_numberOfLeadingZeros_0f7a4 72 = .ok (.istore_n 0, 1) := by decide +kernel
theorem dJ6_numberOfLeadingZeros_0f7a4_73 : decode cJ6_numberOfLeadingZeros_0f7a4 73 = .ok (.iload_n 1, 1) := by decide +kernel
theorem dJ6_numberOfLeadingZeros_0f7a4_74 : decode cJ6_numberOfLeadingZeros_0f7a4 74 = .ok (.iload_n 0, 1) := by decide +kernel
theorem dJ6_numberOfLeadingZeros_0f7a4_75 : decode cJ6_numberOfLeadingZeros_0f7a4 75 = .ok (.iconst 1, 1) := by decide +kernel
theorem dJ6_numberOfLeadingZeros_0f7a4_76 : decode cJ6_numberOfLeadingZeros_0f7a4 76 = .ok (.iushr, 1) := by decide +kernel
theorem dJ6_numberOfLeadingZeros_0f7a4_77 : decode cJ6_numberOfLeadingZeros_0f7a4 77 = .ok (.isub, 1) := by decide +kernel
theorem dJ6_numberOfLeadingZeros_0f7a4_78 : decode cJ6_numberOfLeadingZeros_0f7a4 78 = .ok (.ireturn, 1) := by decide +kernel
theorem dX5_sumForP_0 : decode cX5_sumForP 0 = .ok (.iconst 0, 1) := by decide +kernel
theorem dX5_sumForP_1 : decode cX5_sumForP 1 = .ok (.istore_n 1, 1) := by decide +kernel
theorem dX5_sumForP_2 : decode cX5_sumForP 2 = .ok (.iconst 0, 1) := by decide +kernel
theorem dX5_sumForP_3 : decode cX5_sumForP 3 = .ok (.istore_n 2, 1) := by decide +kernel
theorem dX5_sumForP_4 : decode cX5_sumForP 4 = .ok (.iload_n 2, 1) := by decide +kernel
theorem dX5_sumForP_5 : decode cX5_sumForP 5 = .ok (.aload_n 0, 1) := by decide +kernel
theorem dX5_sumForP_6 : decode cX5_sumForP 6 = .ok (.getfield 17, 3) := by decide +kernel
theorem dX5_sumForP_9 : decode cX5_sumForP 9 = .ok (.getfield 64, 3) := by decide +kernel
theorem dX5_sumForP_12 : decode cX5_sumForP 12 = .ok (.if_icmp .ge 27, 3) := by decide +kernel
theorem dX5_sumForP_15 : decode cX5_sumForP 15 = .ok (.iload_n 2, 1) := by decide +kernel
theorem dX5_sumForP_16 : decode cX5_sumForP 16 = .ok (.aload_n 0, 1) := by decide +kernel
theorem dX5_sumForP_17 : decode cX5_sumForP 17 = .ok (.getfield 11, 3) := by decide +kernel
theorem dX5_sumForP_20 : decode cX5_sumForP 20 = .ok (.arraylength, 1) := by decide +kernel
theorem dX5_sumForP_21 : decode cX5_sumForP 21 = .ok (.if_icmp .ge 18, 3) := by decide +kernel
theorem dX5_sumForP_24 : decode cX5_sumForP 24 = .ok (.iload_n 1, 1) := by decide +kernel
theorem dX5_sumForP_25 : decode cX5_sumForP 25 = .ok (.aload_n 0, 1) := by decide +kernel
theorem dX5_sumForP_26 : decode cX5_sumForP 26 = .ok (.getfield 11, 3) := by decide +kernel
theorem dX5_sumForP_29 : decode cX5_sumForP 29 = .ok (.iload_n 2, 1) := by decide +kernel
theorem dX5_sumForP_30 : decode cX5_sumForP 30 = .ok (.iaload, 1) := by decide +kernel
theorem dX5_sumForP_31 : decode cX5_sumForP 31 = .ok (.ixor, 1) := by decide +kernel
theorem dX5_sumForP_32 : decode cX5_sumForP 32 = .ok (.istore_n 1, 1) := by decide +kernel
theorem dX5_sumForP_33 : decode cX5_sumForP 33 = .ok (.iinc 2 1, 3) := by decide +kernel
theorem dX5_sumForP_36 : decode cX5_sumForP 36 = .ok (.goto (-32), 3) := by decide +kernel
theorem dX5_sumForP_39 : decode cX5_sumForP 39 = .ok (.iload_n 1, 1) := by decide +kernel
theorem dX5_sumForP_40 : decode cX5_sumForP 40 = .ok (.ireturn, 1) := by decide +kernel
theorem dX5_get_0 : decode cX5_get 0 = .ok (.iload_n 1, 1) := by decide +kernel
theorem dX5_get_1 : decode cX5_get 1 = .ok (.ifCond .lt 21, 3) := by decide +kernel
theorem dX5_get_4 : decode cX5_get 4 = .ok (.iload_n 1, 1) := by decide +kernel
theorem dX5_get_5 : decode cX5_get 5 = .ok (.aload_n 0, 1) := by decide +kernel
theorem dX5_get_6 : decode cX5_get 6 = .ok (.getfield 11, 3) := by decide +kernel
theorem dX5_get_9 : decode cX5_get 9 = .ok (.arraylength, 1) := by decide +kernel
theorem dX5_get_10 : decode cX5_get 10 = .ok (.if_icmp .ge 12, 3) := by decide +kernel
theorem dX5_get_13 : decode cX5_get 13 = .ok (.aload_n 0, 1) := by decide +kernel
theorem dX5_get_14 : decode cX5_get 14 = .ok (.getfield 11, 3) := by decide +kernel
theorem dX5_get_17 : decode cX5_get 17 = .ok (.iload_n 1, 1) := by decide +kernel
theorem dX5_get_18 : decode cX5_get 18 = .ok (.iaload, 1) := by decide +kernel
theorem dX5_get_19 : decode cX5_get 19 = .ok (.goto 4, 3) := by decide +kernel
theorem dX5_get_22 : decode cX5_get 22 = .ok (.iconst 0, 1) := by decide +kernel
theorem dX5_get_23 : decode cX5_get 23 = .ok (.ireturn, 1) := by decide +kernel
theorem dX5_set_0 : decode cX5_set 0 = .ok (.iload_n 1, 1) := by decide +kernel
theorem dX5_set_1 : decode cX5_set 1 = .ok (.ifCond .lt 23, 3) := by decide +kernel
theorem dX5_set_4 : decode cX5_set 4 = .ok (.iload_n 1, 1) := by decide +kernel
theorem dX5_set_5 : decode cX5_set 5 = .ok (.aload_n 0, 1) := by decide +kernel
theorem dX5_set_6 : decode cX5_set 6 = .ok (.getfield 11, 3) := by decide +kernel
theorem dX5_set_9 : decode cX5_set 9 = .ok (.arraylength, 1) := by decide +kernel
theorem dX5_set_10 : decode cX5_set 10 = .ok (.if_icmp .ge 14, 3) := by decide +kernel
theorem dX5_set_13 : decode cX5_set 13 = .ok (.aload_n 0, 1) := by decide +kernel
theorem dX5_set_14 : decode cX5_set 14 = .ok (.getfield 11, 3) := by decide +kernel
theorem dX5_set_17 : decode cX5_set 17 = .ok (.iload_n 1, 1) := by decide +kernel
theorem dX5_set_18 : decode cX5_set 18 = .ok (.iload_n 2, 1) := by decide +kernel
theorem dX5_set_19 : decode cX5_set 19 = .ok (.sipush 255, 3) := by decide +kernel
theorem dX5_set_22 : decode cX5_set 22 = .ok (.iand, 1) := by decide +kernel
theorem dX5_set_23 : decode cX5_set 23 = .ok (.iastore, 1) := by decide +kernel
theorem dX5_set_24 : decode cX5_set 24 = .ok (.return_, 1) := by decide +kernel
theorem dX5_solveParts_0 : decode cX5_solveParts 0 = .ok (.iload_n 1, 1) := by decide +kernel
theorem dX5_solveParts_1 : decode cX5_solveParts 1 = .ok (.invokestatic 73, 3) := by decide +kernel
theorem dX5_solveParts_4 : decode cX5_solveParts 4 = .ok (.istore_n 3, 1) := by decide +kernel
theorem dX5_solveParts_5 : decode cX5_solveParts 5 = .ok (.bipush 31, 2) := by decide +kernel
theorem dX5_solveParts_7 : decode cX5_solveParts 7 = .ok (.iload_n 1, 1) := by decide +kernel
theorem dX5_solveParts_8 : decode cX5_solveParts 8 = .ok (.invokestatic 79, 3) := by decide +kernel
theorem dX5_solveParts_11 : decode cX5_solveParts 11 = .ok (.isub, 1) := by decide +kernel
theorem dX5_solveParts_12 : decode cX5_solveParts 12 = .ok (.istore 4, 2) := by decide +kernel
theorem dX5_solveParts_14 : decode cX5_solveParts 14 = .ok (.aload_n 0, 1) := by decide +kernel
theorem dX5_solveParts_15 : decode cX5_solveParts 15 = .ok (.getfield 21, 3) := by decide +kernel
theorem dX5_solveParts_18 : decode cX5_solveParts 18 = .ok (.iload_n 3, 1) := by decide +kernel
theorem dX5_solveParts_19 : decode cX5_solveParts 19 = .ok (.invokevirtual 82, 3) := by decide +kernel
theorem dX5_solveParts_22 : decode cX5_solveParts 22 = .ok (.istore 5, 2) := by decide +kernel
theorem dX5_solveParts_24 : decode cX5_solveParts 24 = .ok (.aload_n 0, 1) := by decide +kernel
theorem dX5_solveParts_25 : decode cX5_solveParts 25 = .ok (.getfield 21, 3) := by decide +kernel
theorem dX5_solveParts_28 : decode cX5_solveParts 28 = .ok (.iload 4, 2) := by decide +kernel
theorem dX5_solveParts_30 : decode cX5_solveParts 30 = .ok (.invokevirtual 82, 3) := by decide +kernel
theorem dX5_solveParts_33 : decode cX5_solveParts 33 = .ok (.istore 6, 2) := by decide +kernel
theorem dX5_solveParts_35 : decode cX5_solveParts 35 = .ok (.aload_n 0, 1) := by decide +kernel
theorem dX5_solveParts_36 : decode cX5_solveParts 36 = .ok (.invokevirtual 53, 3) := by decide +kernel
theorem dX5_solveParts_39 : decode cX5_solveParts 39 = .ok (.aload_n 0, 1) := by decide +kernel
theorem dX5_solveParts_40 : decode cX5_solveParts 40 = .ok (.aload_n 0, 1) := by decide +kernel
theorem dX5_solveParts_41 : decode cX5_solveParts 41 = .ok (.getfield 17, 3) := by decide +kernel
theorem dX5_solveParts_44 : decode cX5_solveParts 44 = .ok (.getfield 46, 3) := by decide +kernel
theorem dX5_solveParts_47 : decode cX5_solveParts 47 = .ok (.invokevirtual 85, 3) := by decide +kernel
theorem dX5_solveParts_50 : decode cX5_solveParts 50 = .ok (.ixor, 1) := by decide +kernel
theorem dX5_solveParts_51 : decode cX5_solveParts 51 = .ok (.istore 7, 2) := by decide +kernel
theorem dX5_solveParts_53 : decode cX5_solveParts 53 = .ok (.aload_n 0, 1) := by decide +kernel
theorem dX5_solveParts_54 : decode cX5_solveParts 54 = .ok (.getfield 21, 3) := by decide +kernel
theorem dX5_solveParts_57 : decode cX5_solveParts 57 = .ok (.aload_n 0, 1) := by decide +kernel
theorem dX5_solveParts_58 : decode cX5_solveParts 58 = .ok (.getfield 11, 3) := by decide +kernel
theorem dX5_solveParts_61 : decode cX5_solveParts 61 = .ok (.aload_n 0, 1) := by decide +kernel
theorem dX5_solveParts_62 : decode cX5_solveParts 62 = .ok (.getfield 17, 3) := by decide +kernel
theorem dX5_solveParts_65 : decode cX5_solveParts 65 = .ok (.getfield 64, 3) := by decide +kernel
theorem dX5_solveParts_68 : decode cX5_solveParts 68 = .ok (.invokevirtual 67, 3) := by decide +kernel
theorem dX5_solveParts_71 : decode cX5_solveParts 71 = .ok (.aload_n 0, 1) := by decide +kernel
theorem dX5_solveParts_72 : decode cX5_solveParts 72 = .ok (.aload_n 0, 1) := by decide +kernel
theorem dX5_solveParts_73 : decode cX5_solveParts 73 = .ok (.getfield 17, 3) := by decide +kernel
theorem dX5_solveParts_76 : decode cX5_solveParts 76 = .ok (.getfield 61, 3) := by decide +kernel
theorem dX5_solveParts_79 : decode cX5_solveParts 79 = .ok (.invokevirtual 85, 3) := by decide +kernel
theorem dX5_solveParts_82 : decode cX5_solveParts 82 = .ok (.ixor, 1) := by decide +kernel
theorem dX5_solveParts_83 : decode cX5_solveParts 83 = .ok (.istore 8, 2) := by decide +kernel
theorem dX5_solveParts_85 : decode cX5_solveParts 85 = .ok (.iload_n 3, 1) := by decide +kernel
theorem dX5_solveParts_86 : decode cX5_solveParts 86 = .ok (.iload 4, 2) := by decide +kernel
theorem dX5_solveParts_88 : decode cX5_solveParts 88 = .ok (.if_icmp .ne 31, 3) := by decide +kernel
theorem dX5_solveParts_91 : decode cX5_solveParts 91 = .ok (.aload_n 0, 1) := by decide +kernel
theorem dX5_solveParts_92 : decode cX5_solveParts 92 = .ok (.iload_n 3, 1) := by decide +kernel
theorem dX5_solveParts_93 : decode cX5_solveParts 93 = .ok (.iload_n 2, 1) := by decide +kernel
theorem dX5_solveParts_94 : decode cX5_solveParts 94 = .ok (.ifCond .eq 8, 3) := by decide +kernel
theorem dX5_solveParts_97 : decode cX5_solveParts 97 = .ok (.iload 7, 2) := by decide +kernel
theorem dX5_solveParts_99 : decode cX5_solveParts 99 = .ok (.goto 14, 3) := by decide +kernel
theorem dX5_solveParts_102 : decode cX5_solveParts 102 = .ok (.aload_n 0, 1) := by decide +kernel
theorem dX5_solveParts_103 : decode cX5_solveParts 103 = .ok (.getfield 21, 3) := by decide +kernel
theorem dX5_solveParts_106 : decode cX5_solveParts 106 = .ok (.iload 8, 2) := by decide +kernel
theorem dX5_solveParts_108 : decode cX5_solveParts 108 = .ok (.iload 5, 2) := by decide +kernel
theorem dX5_solveParts_110 : decode cX5_solveParts 110 = .ok (.invokevirtual 88, 3) := by decide +kernel
theorem dX5_solveParts_113 : decode cX5_solveParts 113 = .ok (.invokevirtual 57, 3) := by decide +kernel
theorem dX5_solveParts_116 : decode cX5_solveParts 116 = .ok (.goto 48, 3) := by decide +kernel
theorem dX5_solveParts_119 : decode cX5_solveParts 119 = .ok (.aload_n 0, 1) := by decide +kernel
theorem dX5_solveParts_120 : decode cX5_solveParts 120 = .ok (.iload_n 3, 1) := by decide +kernel
theorem dX5_solveParts_121 : decode cX5_solveParts 121 = .ok (.aload_n 0, 1) := by decide +kernel
theorem dX5_solveParts_122 : decode cX5_solveParts 122 = .ok (.getfield 21, 3) := by decide +kernel
theorem dX5_solveParts_125 : decode cX5_solveParts 125 = .ok (.iload 8, 2) := by decide +kernel
theorem dX5_solveParts_127 : decode cX5_solveParts 127 = .ok (.aload_n 0, 1) := by decide +kernel
theorem dX5_solveParts_128 : decode cX5_solveParts 128 = .ok (.getfield 21, 3) := by decide +kernel
theorem dX5_solveParts_131 : decode cX5_solveParts 131 = .ok (.iload 7, 2) := by decide +kernel
theorem dX5_solveParts_133 : decode cX5_solveParts 133 = .ok (.iload 6, 2) := by decide +kernel
theorem dX5_solveParts_135 : decode cX5_solveParts 135 = .ok (.invokevirtual 91, 3) := by decide +kernel
theorem dX5_solveParts_138 : decode cX5_solveParts 138 = .ok (.ixor, 1) := by decide +kernel
theorem dX5_solveParts_139 : decode cX5_solveParts 139 = .ok (.iload 5, 2) := by decide +kernel
theorem dX5_solveParts_141 : decode cX5_solveParts 141 = .ok (.iload 6, 2) := by decide +kernel
theorem dX5_solveParts_143 : decode cX5_solveParts 143 = .ok (.ixor, 1) := by decide +kernel
theorem dX5_solveParts_144 : decode cX5_solveParts 144 = .ok (.invokevirtual 88, 3) := by decide +kernel
theorem dX5_solveParts_147 : decode cX5_solveParts 147 = .ok (.invokevirtual 57, 3) := by decide +kernel
theorem dX5_solveParts_150 : decode cX5_solveParts 150 = .ok (.aload_n 0, 1) := by decide +kernel
theorem dX5_solveParts_151 : decode cX5_solveParts 151 = .ok (.iload 4, 2) := by decide +kernel
theorem dX5_solveParts_153 : decode cX5_solveParts 153 = .ok (.iload 7, 2) := by decide +kernel
theorem dX5_solveParts_155 : decode cX5_solveParts 155 = .ok (.aload_n 0, 1) := by decide +kernel
theorem dX5_solveParts_156 : decode cX5_solveParts 156 = .ok (.iload_n 3, 1) := by decide +kernel
theorem dX5_solveParts_157 : decode cX5_solveParts 157 = .ok (.invokevirtual 85, 3) := by decide +kernel
theorem dX5_solveParts_160 : decode cX5_solveParts 160 = .ok (.ixor, 1) := by decide +kernel
theorem dX5_solveParts_161 : decode cX5_solveParts 161 = .ok (.invokevirtual 57, 3) := by decide +kernel
theorem dX5_solveParts_164 : decode cX5_solveParts 164 = .ok (.return_, 1) := by decide +kernel
theorem dX5_gather_0 : decode cX5_gather 0 = .ok (.aload_n 0, 1) := by decide +kernel
theorem dX5_gather_1 : decode cX5_gather 1 = .ok (.aload_n 1, 1) := by decide +kernel
theorem dX5_gather_2 : decode cX5_gather 2 = .ok (.iload_n 2, 1) := by decide +kernel
theorem dX5_gather_3 : decode cX5_gather 3 = .ok (.iload_n 3, 1) := by decide +kernel
theorem dX5_gather_4 : decode cX5_gather 4 = .ok (.iload 4, 2) := by decide +kernel
theorem dX5_gather_6 : decode cX5_gather 6 = .ok (.invokevirtual 39, 3) := by decide +kernel
theorem dX5_gather_9 : decode cX5_gather 9 = .ok (.iload 4, 2) := by decide +kernel
theorem dX5_gather_11 : decode cX5_gather 11 = .ok (.aload_n 0, 1) := by decide +kernel
theorem dX5_gather_12 : decode cX5_gather 12 = .ok (.getfield 17, 3) := by decide +kernel
theorem dX5_gather_15 : decode cX5_gather 15 = .ok (.getfield 43, 3) := by decide +kernel
theorem dX5_gather_18 : decode cX5_gather 18 = .ok (.iand, 1) := by decide +kernel
theorem dX5_gather_19 : decode cX5_gather 19 = .ok (.istore 5, 2) := by decide +kernel
theorem dX5_gather_21 : decode cX5_gather 21 = .ok (.iload 4, 2) := by decide +kernel
theorem dX5_gather_23 : decode cX5_gather 23 = .ok (.aload_n 0, 1) := by decide +kernel
theorem dX5_gather_24 : decode cX5_gather 24 = .ok (.getfield 17, 3) := by decide +kernel
theorem dX5_gather_27 : decode cX5_gather 27 = .ok (.getfield 46, 3) := by decide +kernel
theorem dX5_gather_30 : decode cX5_gather 30 = .ok (.ishr, 1) := by decide +kernel
theorem dX5_gather_31 : decode cX5_gather 31 = .ok (.iconst 1, 1) := by decide +kernel
theorem dX5_gather_32 : decode cX5_gather 32 = .ok (.iand, 1) := by decide +kernel
theorem dX5_gather_33 : decode cX5_gather 33 = .ok (.ifCond .ne 7, 3) := by decide +kernel
theorem dX5_gather_36 : decode cX5_gather 36 = .ok (.iconst 1, 1) := by decide +kernel
theorem dX5_gather_37 : decode cX5_gather 37 = .ok (.goto 4, 3) := by decide +kernel
theorem dX5_gather_40 : decode cX5_gather 40 = .ok (.iconst 0, 1) := by decide +kernel
theorem dX5_gather_41 : decode cX5_gather 41 = .ok (.istore 6, 2) := by decide +kernel
theorem dX5_gather_43 : decode cX5_gather 43 = .ok (.iload 5, 2) := by decide +kernel
theorem dX5_gather_45 : decode cX5_gather 45 = .ok (.ifCond .eq 11, 3) := by decide +kernel
theorem dX5_gather_48 : decode cX5_gather 48 = .ok (.aload_n 0, 1) := by decide +kernel
theorem dX5_gather_49 : decode cX5_gather 49 = .ok (.iload 5, 2) := by decide +kernel
theorem dX5_gather_51 : decode cX5_gather 51 = .ok (.iload 6, 2) := by decide +kernel
theorem dX5_gather_53 : decode cX5_gather 53 = .ok (.invokevirtual 49, 3) := by decide +kernel
theorem dX5_gather_56 : decode cX5_gather 56 = .ok (.iload 6, 2) := by decide +kernel
theorem dX5_gather_58 : decode cX5_gather 58 = .ok (.ifCond .ne 18, 3) := by decide +kernel
theorem dX5_gather_61 : decode cX5_gather 61 = .ok (.aload_n 0, 1) := by decide +kernel
theorem dX5_gather_62 : decode cX5_gather 62 = .ok (.aload_n 0, 1) := by decide +kernel
theorem dX5_gather_63 : decode cX5_gather 63 = .ok (.getfield 17, 3) := by decide +kernel
theorem dX5_gather_66 : decode cX5_gather 66 = .ok (.getfield 46, 3) := by decide +kernel
theorem dX5_gather_69 : decode cX5_gather 69 = .ok (.aload_n 0, 1) := by decide +kernel
theorem dX5_gather_70 : decode cX5_gather 70 = .ok (.invokevirtual 53, 3) := by decide +kernel
theorem dX5_gather_73 : decode cX5_gather 73 = .ok (.invokevirtual 57, 3) := by decide +kernel
theorem dX5_gather_76 : decode cX5_gather 76 = .ok (.iload 4, 2) := by decide +kernel
theorem dX5_gather_78 : decode cX5_gather 78 = .ok (.aload_n 0, 1) := by decide +kernel
theorem dX5_gather_79 : decode cX5_gather 79 = .ok (.getfield 17, 3) := by decide +kernel
theorem dX5_gather_82 : decode cX5_gather 82 = .ok (.getfield 61, 3) := by decide +kernel
theorem dX5_gather_85 : decode cX5_gather 85 = .ok (.ishr, 1) := by decide +kernel
theorem dX5_gather_86 : decode cX5_gather 86 = .ok (.iconst 1, 1) := by decide +kernel
theorem dX5_gather_87 : decode cX5_gather 87 = .ok (.iand, 1) := by decide +kernel
theorem dX5_gather_88 : decode cX5_gather 88 = .ok (.ifCond .eq 32, 3) := by decide +kernel
theorem dX5_gather_91 : decode cX5_gather 91 = .ok (.aload_n 0, 1) := by decide +kernel
theorem dX5_gather_92 : decode cX5_gather 92 = .ok (.aload_n 0, 1) := by decide +kernel
theorem dX5_gather_93 : decode cX5_gather 93 = .ok (.getfield 17, 3) := by decide +kernel
theorem dX5_gather_96 : decode cX5_gather 96 = .ok (.getfield 61, 3) := by decide +kernel
theorem dX5_gather_99 : decode cX5_gather 99 = .ok (.aload_n 0, 1) := by decide +kernel
theorem dX5_gather_100 : decode cX5_gather 100 = .ok (.getfield 21, 3) := by decide +kernel
theorem dX5_gather_103 : decode cX5_gather 103 = .ok (.aload_n 0, 1) := by decide +kernel
theorem dX5_gather_104 : decode cX5_gather 104 = .ok (.getfield 11, 3) := by decide +kernel
theorem dX5_gather_107 : decode cX5_gather 107 = .ok (.aload_n 0, 1) := by decide +kernel
theorem dX5_gather_108 : decode cX5_gather 108 = .ok (.getfield 17, 3) := by decide +kernel
theorem dX5_gather_111 : decode cX5_gather 111 = .ok (.getfield 64, 3) := by decide +kernel
theorem dX5_gather_114 : decode cX5_gather 114 = .ok (.invokevirtual 67, 3) := by decide +kernel
theorem dX5_gather_117 : decode cX5_gather 117 = .ok (.invokevirtual 57, 3) := by decide +kernel
theorem dX5_gather_120 : decode cX5_gather 120 = .ok (.return_, 1) := by decide +kernel
theorem dX5_wrongPart_0 : decode cX5_wrongPart 0 = .ok (.aload_n 0, 1) := by decide +kernel
theorem dX5_wrongPart_1 : decode cX5_wrongPart 1 = .ok (.invokevirtual 53, 3) := by decide +kernel
theorem dX5_wrongPart_4 : decode cX5_wrongPart 4 = .ok (.aload_n 0, 1) := by decide +kernel
theorem dX5_wrongPart_5 : decode cX5_wrongPart 5 = .ok (.aload_n 0, 1) := by decide +kernel
theorem dX5_wrongPart_6 : decode cX5_wrongPart 6 = .ok (.getfield 17, 3) := by decide +kernel
theorem dX5_wrongPart_9 : decode cX5_wrongPart 9 = .ok (.getfield 46, 3) := by decide +kernel
theorem dX5_wrongPart_12 : decode cX5_wrongPart 12 = .ok (.invokevirtual 85, 3) := by decide +kernel
theorem dX5_wrongPart_15 : decode cX5_wrongPart 15 = .ok (.ixor, 1) := by decide +kernel
theorem dX5_wrongPart_16 : decode cX5_wrongPart 16 = .ok (.istore_n 1, 1) := by decide +kernel
theorem dX5_wrongPart_17 : decode cX5_wrongPart 17 = .ok (.aload_n 0, 1) := by decide +kernel
theorem dX5_wrongPart_18 : decode cX5_wrongPart 18 = .ok (.getfield 21, 3) := by decide +kernel
theorem dX5_wrongPart_21 : decode cX5_wrongPart 21 = .ok (.aload_n 0, 1) := by decide +kernel
theorem dX5_wrongPart_22 : decode cX5_wrongPart 22 = .ok (.getfield 11, 3) := by decide +kernel
theorem dX5_wrongPart_25 : decode cX5_wrongPart 25 = .ok (.aload_n 0, 1) := by decide +kernel
theorem dX5_wrongPart_26 : decode cX5_wrongPart 26 = .ok (.getfield 17, 3) := by decide +kernel
theorem dX5_wrongPart_29 : decode cX5_wrongPart 29 = .ok (.getfield 64, 3) := by decide +kernel
theorem dX5_wrongPart_32 : decode cX5_wrongPart 32 = .ok (.invokevirtual 67, 3) := by decide +kernel
theorem dX5_wrongPart_35 : decode cX5_wrongPart 35 = .ok (.aload_n 0, 1) := by decide +kernel
theorem dX5_wrongPart_36 : decode cX5_wrongPart 36 = .ok (.aload_n 0, 1) := by decide +kernel
theorem dX5_wrongPart_37 : decode cX5_wrongPart 37 = .ok (.getfield 17, 3) := by decide +kernel
theorem dX5_wrongPart_40 : decode cX5_wrongPart 40 = .ok (.getfield 61, 3) := by decide +kernel
theorem dX5_wrongPart_43 : decode cX5_wrongPart 43 = .ok (.invokevirtual 85, 3) := by decide +kernel
theorem dX5_wrongPart_46 : decode cX5_wrongPart 46 = .ok (.ixor, 1) := by decide +kernel
theorem dX5_wrongPart_47 : decode cX5_wrongPart 47 = .ok (.istore_n 2, 1) := by decide +kernel
theorem dX5_wrongPart_48 : decode cX5_wrongPart 48 = .ok (.iload_n 1, 1) := by decide +kernel
theorem dX5_wrongPart_49 : decode cX5_wrongPart 49 = .ok (.ifCond .ne 9, 3) := by decide +kernel
theorem dX5_wrongPart_52 : decode cX5_wrongPart 52 = .ok (.iload_n 2, 1) := by decide +kernel
theorem dX5_wrongPart_53 : decode cX5_wrongPart 53 = .ok (.ifCond .ne 5, 3) := by decide +kernel
theorem dX5_wrongPart_56 : decode cX5_wrongPart 56 = .ok (.iconst (-1), 1) := by decide +kernel
theorem dX5_wrongPart_57 : decode cX5_wrongPart 57 = .ok (.ireturn, 1) := by decide +kernel
theorem dX5_wrongPart_58 : decode cX5_wrongPart 58 = .ok (.iload_n 2, 1) := by decide +kernel
theorem dX5_wrongPart_59 : decode cX5_wrongPart 59 = .ok (.ifCond .ne 11, 3) := by decide +kernel
theorem dX5_wrongPart_62 : decode cX5_wrongPart 62 = .ok (.aload_n 0, 1) := by decide +kernel
theorem dX5_wrongPart_63 : decode cX5_wrongPart 63 = .ok (.getfield 17, 3) := by decide +kernel
theorem dX5_wrongPart_66 : decode cX5_wrongPart 66 = .ok (.getfield 46, 3) := by decide +kernel
theorem dX5_wrongPart_69 : decode cX5_wrongPart 69 = .ok (.ireturn, 1) := by decide +kernel
theorem dX5_wrongPart_70 : decode cX5_wrongPart 70 = .ok (.iload_n 1, 1) := by decide +kernel
theorem dX5_wrongPart_71 : decode cX5_wrongPart 71 = .ok (.ifCond .ne 11, 3) := by decide +kernel
theorem dX5_wrongPart_74 : decode cX5_wrongPart 74 = .ok (.aload_n 0, 1) := by decide +kernel
theorem dX5_wrongPart_75 : decode cX5_wrongPart 75 = .ok (.getfield 17, 3) := by decide +kernel
theorem dX5_wrongPart_78 : decode cX5_wrongPart 78 = .ok (.getfield 61, 3) := by decide +kernel
theorem dX5_wrongPart_81 : decode cX5_wrongPart 81 = .ok (.ireturn, 1) := by decide +kernel
theorem dX5_wrongPart_82 : decode cX5_wrongPart 82 = .ok (.aload_n 0, 1) := by decide +kernel
theorem dX5_wrongPart_83 : decode cX5_wrongPart 83 = .ok (.getfield 21, 3) := by decide +kernel
theorem dX5_wrongPart_86 : decode cX5_wrongPart 86 = .ok (.aload_n 0, 1) := by decide +kernel
theorem dX5_wrongPart_87 : decode cX5_wrongPart 87 = .ok (.getfield 21, 3) := by decide +kernel
theorem dX5_wrongPart_90 : decode cX5_wrongPart 90 = .ok (.iload_n 2, 1) := by decide +kernel
theorem dX5_wrongPart_91 : decode cX5_wrongPart 91 = .ok (.iload_n 1, 1) := by decide +kernel
theorem dX5_wrongPart_92 : decode cX5_wrongPart 92 = .ok (.invokevirtual 88, 3) := by decide +kernel
theorem dX5_wrongPart_95 : decode cX5_wrongPart 95 = .ok (.invokevirtual 94, 3) := by decide +kernel
theorem dX5_wrongPart_98 : decode cX5_wrongPart 98 = .ok (.istore_n 3, 1) := by decide +kernel
theorem dX5_wrongPart_99 : decode cX5_wrongPart 99 = .ok (.iload_n 3, 1) := by decide +kernel
theorem dX5_wrongPart_100 : decode cX5_wrongPart 100 = .ok (.aload_n 0, 1) := by decide +kernel
theorem dX5_wrongPart_101 : decode cX5_wrongPart 101 = .ok (.getfield 17, 3) := by decide +kernel
theorem dX5_wrongPart_104 : decode cX5_wrongPart 104 = .ok (.getfield 64, 3) := by decide +kernel
theorem dX5_wrongPart_107 : decode cX5_wrongPart 107 = .ok (.if_icmp .ge 7, 3) := by decide +kernel
theorem dX5_wrongPart_110 : decode cX5_wrongPart 110 = .ok (.iload_n 3, 1) := by decide +kernel
theorem dX5_wrongPart_111 : decode cX5_wrongPart 111 = .ok (.goto 5, 3) := by decide +kernel
theorem dX5_wrongPart_114 : decode cX5_wrongPart 114 = .ok (.bipush (-2), 2) := by decide +kernel
theorem dX5_wrongPart_116 : decode cX5_wrongPart 116 = .ok (.ireturn, 1) := by decide +kernel
theorem dX6_byteOf_0 : decode cX6_byteOf 0 = .ok (.aload_n 0, 1) := by decide +kernel
theorem dX6_byteOf_1 : decode cX6_byteOf 1 = .ok (.getfield 16, 3) := by decide +kernel
theorem dX6_byteOf_4 : decode cX6_byteOf 4 = .ok (.iconst 1, 1) := by decide +kernel
theorem dX6_byteOf_5 : decode cX6_byteOf 5 = .ok (.if_icmp .ge 7, 3) := by decide +kernel
theorem dX6_byteOf_8 : decode cX6_byteOf 8 = .ok (.iconst 0, 1) := by decide +kernel
theorem dX6_byteOf_9 : decode cX6_byteOf 9 = .ok (.goto 9, 3) := by decide +kernel
theorem dX6_byteOf_12 : decode cX6_byteOf 12 = .ok (.iload_n 1, 1) := by decide +kernel
theorem dX6_byteOf_13 : decode cX6_byteOf 13 = .ok (.aload_n 0, 1) := by decide +kernel
theorem dX6_byteOf_14 : decode cX6_byteOf 14 = .ok (.getfield 16, 3) := by decide +kernel
theorem dX6_byteOf_17 : decode cX6_byteOf 17 = .ok (.irem, 1) := by decide +kernel
theorem dX6_byteOf_18 : decode cX6_byteOf 18 = .ok (.ireturn, 1) := by decide +kernel
theorem dX5_mend_0 : decode cX5_mend 0 = .ok (.iload_n 1, 1) := by decide +kernel
theorem dX5_mend_1 : decode cX5_mend 1 = .ok (.aload_n 0, 1) := by decide +kernel
theorem dX5_mend_2 : decode cX5_mend 2 = .ok (.getfield 17, 3) := by decide +kernel
theorem dX5_mend_5 : decode cX5_mend 5 = .ok (.getfield 61, 3) := by decide +kernel
theorem dX5_mend_8 : decode cX5_mend 8 = .ok (.if_icmp .ne 24, 3) := by decide +kernel
theorem dX5_mend_11 : decode cX5_mend 11 = .ok (.aload_n 0, 1) := by decide +kernel
theorem dX5_mend_12 : decode cX5_mend 12 = .ok (.getfield 21, 3) := by decide +kernel
theorem dX5_mend_15 : decode cX5_mend 15 = .ok (.aload_n 0, 1) := by decide +kernel
theorem dX5_mend_16 : decode cX5_mend 16 = .ok (.getfield 11, 3) := by decide +kernel
theorem dX5_mend_19 : decode cX5_mend 19 = .ok (.aload_n 0, 1) := by decide +kernel
theorem dX5_mend_20 : decode cX5_mend 20 = .ok (.getfield 17, 3) := by decide +kernel
theorem dX5_mend_23 : decode cX5_mend 23 = .ok (.getfield 64, 3) := by decide +kernel
theorem dX5_mend_26 : decode cX5_mend 26 = .ok (.invokevirtual 67, 3) := by decide +kernel
theorem dX5_mend_29 : decode cX5_mend 29 = .ok (.goto 7, 3) := by decide +kernel
theorem dX5_mend_32 : decode cX5_mend 32 = .ok (.aload_n 0, 1) := by decide +kernel
theorem dX5_mend_33 : decode cX5_mend 33 = .ok (.invokevirtual 53, 3) := by decide +kernel
theorem dX5_mend_36 : decode cX5_mend 36 = .ok (.istore_n 2, 1) := by decide +kernel
theorem dX5_mend_37 : decode cX5_mend 37 = .ok (.iload_n 1, 1) := by decide +kernel
theorem dX5_mend_38 : decode cX5_mend 38 = .ok (.aload_n 0, 1) := by decide +kernel
theorem dX5_mend_39 : decode cX5_mend 39 = .ok (.getfield 17, 3) := by decide +kernel
theorem dX5_mend_42 : decode cX5_mend 42 = .ok (.getfield 61, 3) := by decide +kernel
theorem dX5_mend_45 : decode cX5_mend 45 = .ok (.if_icmp .ne 17, 3) := by decide +kernel
theorem dX5_mend_48 : decode cX5_mend 48 = .ok (.aload_n 0, 1) := by decide +kernel
theorem dX5_mend_49 : decode cX5_mend 49 = .ok (.aload_n 0, 1) := by decide +kernel
theorem dX5_mend_50 : decode cX5_mend 50 = .ok (.getfield 17, 3) := by decide +kernel
theorem dX5_mend_53 : decode cX5_mend 53 = .ok (.getfield 61, 3) := by decide +kernel
theorem dX5_mend_56 : decode cX5_mend 56 = .ok (.invokevirtual 85, 3) := by decide +kernel
theorem dX5_mend_59 : decode cX5_mend 59 = .ok (.goto 14, 3) := by decide +kernel
theorem dX5_mend_62 : decode cX5_mend 62 = .ok (.aload_n 0, 1) := by decide +kernel
theorem dX5_mend_63 : decode cX5_mend 63 = .ok (.aload_n 0, 1) := by decide +kernel
theorem dX5_mend_64 : decode cX5_mend 64 = .ok (.getfield 17, 3) := by decide +kernel
theorem dX5_mend_67 : decode cX5_mend 67 = .ok (.getfield 46, 3) := by decide +kernel
theorem dX5_mend_70 : decode cX5_mend 70 = .ok (.invokevirtual 85, 3) := by decide +kernel
theorem dX5_mend_73 : decode cX5_mend 73 = .ok (.istore_n 3, 1) := by decide +kernel
theorem dX5_mend_74 : decode cX5_mend 74 = .ok (.aload_n 0, 1) := by decide +kernel
theorem dX5_mend_75 : decode cX5_mend 75 = .ok (.iload_n 1, 1) := by decide +kernel
theorem dX5_mend_76 : decode cX5_mend 76 = .ok (.aload_n 0, 1) := by decide +kernel
theorem dX5_mend_77 : decode cX5_mend 77 = .ok (.iload_n 1, 1) := by decide +kernel
theorem dX5_mend_78 : decode cX5_mend 78 = .ok (.invokevirtual 85, 3) := by decide +kernel
theorem dX5_mend_81 : decode cX5_mend 81 = .ok (.iload_n 2, 1) := by decide +kernel
theorem dX5_mend_82 : decode cX5_mend 82 = .ok (.ixor, 1) := by decide +kernel
theorem dX5_mend_83 : decode cX5_mend 83 = .ok (.iload_n 3, 1) := by decide +kernel
theorem dX5_mend_84 : decode cX5_mend 84 = .ok (.ixor, 1) := by decide +kernel
theorem dX5_mend_85 : decode cX5_mend 85 = .ok (.invokevirtual 57, 3) := by decide +kernel
theorem dX5_mend_88 : decode cX5_mend 88 = .ok (.return_, 1) := by decide +kernel
theorem dX5_reckonSums_0 : decode cX5_reckonSums 0 = .ok (.aload_n 0, 1) := by decide +kernel
theorem dX5_reckonSums_1 : decode cX5_reckonSums 1 = .ok (.aload_n 0, 1) := by decide +kernel
theorem dX5_reckonSums_2 : decode cX5_reckonSums 2 = .ok (.getfield 17, 3) := by decide +kernel
theorem dX5_reckonSums_5 : decode cX5_reckonSums 5 = .ok (.getfield 46, 3) := by decide +kernel
theorem dX5_reckonSums_8 : decode cX5_reckonSums 8 = .ok (.aload_n 0, 1) := by decide +kernel
theorem dX5_reckonSums_9 : decode cX5_reckonSums 9 = .ok (.invokevirtual 53, 3) := by decide +kernel
theorem dX5_reckonSums_12 : decode cX5_reckonSums 12 = .ok (.invokevirtual 57, 3) := by decide +kernel
theorem dX5_reckonSums_15 : decode cX5_reckonSums 15 = .ok (.aload_n 0, 1) := by decide +kernel
theorem dX5_reckonSums_16 : decode cX5_reckonSums 16 = .ok (.aload_n 0, 1) := by decide +kernel
theorem dX5_reckonSums_17 : decode cX5_reckonSums 17 = .ok (.getfield 17, 3) := by decide +kernel
theorem dX5_reckonSums_20 : decode cX5_reckonSums 20 = .ok (.getfield 61, 3) := by decide +kernel
theorem dX5_reckonSums_23 : decode cX5_reckonSums 23 = .ok (.aload_n 0, 1) := by decide +kernel
theorem dX5_reckonSums_24 : decode cX5_reckonSums 24 = .ok (.getfield 21, 3) := by decide +kernel
theorem dX5_reckonSums_27 : decode cX5_reckonSums 27 = .ok (.aload_n 0, 1) := by decide +kernel
theorem dX5_reckonSums_28 : decode cX5_reckonSums 28 = .ok (.getfield 11, 3) := by decide +kernel
theorem dX5_reckonSums_31 : decode cX5_reckonSums 31 = .ok (.aload_n 0, 1) := by decide +kernel
theorem dX5_reckonSums_32 : decode cX5_reckonSums 32 = .ok (.getfield 17, 3) := by decide +kernel
theorem dX5_reckonSums_35 : decode cX5_reckonSums 35 = .ok (.getfield 64, 3) := by decide +kernel
theorem dX5_reckonSums_38 : decode cX5_reckonSums 38 = .ok (.invokevirtual 67, 3) := by decide +kernel
theorem dX5_reckonSums_41 : decode cX5_reckonSums 41 = .ok (.invokevirtual 57, 3) := by decide +kernel
theorem dX5_reckonSums_44 : decode cX5_reckonSums 44 = .ok (.return_, 1) := by decide +kernel
theorem dX5_change_0 : decode cX5_change 0 = .ok (.aload_n 0, 1) := by decide +kernel
theorem dX5_change_1 : decode cX5_change 1 = .ok (.iload_n 1, 1) := by decide +kernel
theorem dX5_change_2 : decode cX5_change 2 = .ok (.invokevirtual 85, 3) := by decide +kernel
theorem dX5_change_5 : decode cX5_change 5 = .ok (.iload_n 2, 1) := by decide +kernel
theorem dX5_change_6 : decode cX5_change 6 = .ok (.ixor, 1) := by decide +kernel
theorem dX5_change_7 : decode cX5_change 7 = .ok (.istore_n 3, 1) := by decide +kernel
theorem dX5_change_8 : decode cX5_change 8 = .ok (.aload_n 0, 1) := by decide +kernel
theorem dX5_change_9 : decode cX5_change 9 = .ok (.iload_n 1, 1) := by decide +kernel
theorem dX5_change_10 : decode cX5_change 10 = .ok (.iload_n 2, 1) := by decide +kernel
theorem dX5_change_11 : decode cX5_change 11 = .ok (.invokevirtual 57, 3) := by decide +kernel
theorem dX5_change_14 : decode cX5_change 14 = .ok (.aload_n 0, 1) := by decide +kernel
theorem dX5_change_15 : decode cX5_change 15 = .ok (.aload_n 0, 1) := by decide +kernel
theorem dX5_change_16 : decode cX5_change 16 = .ok (.getfield 17, 3) := by decide +kernel
theorem dX5_change_19 : decode cX5_change 19 = .ok (.getfield 46, 3) := by decide +kernel
theorem dX5_change_22 : decode cX5_change 22 = .ok (.aload_n 0, 1) := by decide +kernel
theorem dX5_change_23 : decode cX5_change 23 = .ok (.aload_n 0, 1) := by decide +kernel
theorem dX5_change_24 : decode cX5_change 24 = .ok (.getfield 17, 3) := by decide +kernel
theorem dX5_change_27 : decode cX5_change 27 = .ok (.getfield 46, 3) := by decide +kernel
theorem dX5_change_30 : decode cX5_change 30 = .ok (.invokevirtual 85, 3) := by decide +kernel
theorem dX5_change_33 : decode cX5_change 33 = .ok (.iload_n 3, 1) := by decide +kernel
theorem dX5_change_34 : decode cX5_change 34 = .ok (.ixor, 1) := by decide +kernel
theorem dX5_change_35 : decode cX5_change 35 = .ok (.invokevirtual 57, 3) := by decide +kernel
theorem dX5_change_38 : decode cX5_change 38 = .ok (.aload_n 0, 1) := by decide +kernel
theorem dX5_change_39 : decode cX5_change 39 = .ok (.aload_n 0, 1) := by decide +kernel
theorem dX5_change_40 : decode cX5_change 40 = .ok (.getfield 17, 3) := by decide +kernel
theorem dX5_change_43 : decode cX5_change 43 = .ok (.getfield 61, 3) := by decide +kernel
theorem dX5_change_46 : decode cX5_change 46 = .ok (.aload_n 0, 1) := by decide +kernel
theorem dX5_change_47 : decode cX5_change 47 = .ok (.aload_n 0, 1) := by decide +kernel
theorem dX5_change_48 : decode cX5_change 48 = .ok (.getfield 17, 3) := by decide +kernel
theorem dX5_change_51 : decode cX5_change 51 = .ok (.getfield 61, 3) := by decide +kernel
theorem dX5_change_54 : decode cX5_change 54 = .ok (.invokevirtual 85, 3) := by decide +kernel
theorem dX5_change_57 : decode cX5_change 57 = .ok (.aload_n 0, 1) := by decide +kernel
theorem dX5_change_58 : decode cX5_change 58 = .ok (.getfield 21, 3) := by decide +kernel
theorem dX5_change_61 : decode cX5_change 61 = .ok (.iload_n 3, 1) := by decide +kernel
theorem dX5_change_62 : decode cX5_change 62 = .ok (.aload_n 0, 1) := by decide +kernel
theorem dX5_change_63 : decode cX5_change 63 = .ok (.getfield 21, 3) := by decide +kernel
theorem dX5_change_66 : decode cX5_change 66 = .ok (.iload_n 1, 1) := by decide +kernel
theorem dX5_change_67 : decode cX5_change 67 = .ok (.invokevirtual 82, 3) := by decide +kernel
theorem dX5_change_70 : decode cX5_change 70 = .ok (.invokevirtual 91, 3) := by decide +kernel
theorem dX5_change_73 : decode cX5_change 73 = .ok (.ixor, 1) := by decide +kernel
theorem dX5_change_74 : decode cX5_change 74 = .ok (.invokevirtual 57, 3) := by decide +kernel
theorem dX5_change_77 : decode cX5_change 77 = .ok (.return_, 1) := by decide +kernel
theorem dX6_take_0 : decode cX6_take 0 = .ok (.aload_n 0, 1) := by decide +kernel
theorem dX6_take_1 : decode cX6_take 1 = .ok (.aload_n 1, 1) := by decide +kernel
theorem dX6_take_2 : decode cX6_take 2 = .ok (.iconst 0, 1) := by decide +kernel
theorem dX6_take_3 : decode cX6_take 3 = .ok (.invokevirtual 40, 3) := by decide +kernel
theorem dX6_take_6 : decode cX6_take 6 = .ok (.putfield 7, 3) := by decide +kernel
theorem dX6_take_9 : decode cX6_take 9 = .ok (.aload_n 0, 1) := by decide +kernel
theorem dX6_take_10 : decode cX6_take 10 = .ok (.aload_n 1, 1) := by decide +kernel
theorem dX6_take_11 : decode cX6_take 11 = .ok (.iconst 1, 1) := by decide +kernel
theorem dX6_take_12 : decode cX6_take 12 = .ok (.invokevirtual 40, 3) := by decide +kernel
theorem dX6_take_15 : decode cX6_take 15 = .ok (.putfield 13, 3) := by decide +kernel
theorem dX6_take_18 : decode cX6_take 18 = .ok (.aload_n 0, 1) := by decide +kernel
theorem dX6_take_19 : decode cX6_take 19 = .ok (.aload_n 1, 1) := by decide +kernel
theorem dX6_take_20 : decode cX6_take 20 = .ok (.iconst 2, 1) := by decide +kernel
theorem dX6_take_21 : decode cX6_take 21 = .ok (.invokevirtual 40, 3) := by decide +kernel
theorem dX6_take_24 : decode cX6_take 24 = .ok (.putfield 16, 3) := by decide +kernel
theorem dX6_take_27 : decode cX6_take 27 = .ok (.aload_n 0, 1) := by decide +kernel
theorem dX6_take_28 : decode cX6_take 28 = .ok (.aload_n 1, 1) := by decide +kernel
theorem dX6_take_29 : decode cX6_take 29 = .ok (.iconst 3, 1) := by decide +kernel
theorem dX6_take_30 : decode cX6_take 30 = .ok (.invokevirtual 40, 3) := by decide +kernel
theorem dX6_take_33 : decode cX6_take 33 = .ok (.putfield 19, 3) := by decide +kernel
theorem dX6_take_36 : decode cX6_take 36 = .ok (.aload_n 0, 1) := by decide +kernel
theorem dX6_take_37 : decode cX6_take 37 = .ok (.aload_n 1, 1) := by decide +kernel
theorem dX6_take_38 : decode cX6_take 38 = .ok (.iconst 4, 1) := by decide +kernel
theorem dX6_take_39 : decode cX6_take 39 = .ok (.invokevirtual 40, 3) := by decide +kernel
theorem dX6_take_42 : decode cX6_take 42 = .ok (.putfield 22, 3) := by decide +kernel
theorem dX6_take_45 : decode cX6_take 45 = .ok (.aload_n 0, 1) := by decide +kernel
theorem dX6_take_46 : decode cX6_take 46 = .ok (.aload_n 0, 1) := by decide +kernel
theorem dX6_take_47 : decode cX6_take 47 = .ok (.getfield 7, 3) := by decide +kernel
theorem dX6_take_50 : decode cX6_take 50 = .ok (.iconst 2, 1) := by decide +kernel
theorem dX6_take_51 : decode cX6_take 51 = .ok (.iadd, 1) := by decide +kernel
theorem dX6_take_52 : decode cX6_take 52 = .ok (.putfield 25, 3) := by decide +kernel
theorem dX6_take_55 : decode cX6_take 55 = .ok (.aload_n 0, 1) := by decide +kernel
theorem dX6_take_56 : decode cX6_take 56 = .ok (.aload_n 0, 1) := by decide +kernel
theorem dX6_take_57 : decode cX6_take 57 = .ok (.getfield 7, 3) := by decide +kernel
theorem dX6_take_60 : decode cX6_take 60 = .ok (.putfield 28, 3) := by decide +kernel
theorem dX6_take_63 : decode cX6_take 63 = .ok (.aload_n 0, 1) := by decide +kernel
theorem dX6_take_64 : decode cX6_take 64 = .ok (.aload_n 0, 1) := by decide +kernel
theorem dX6_take_65 : decode cX6_take 65 = .ok (.getfield 7, 3) := by decide +kernel
theorem dX6_take_68 : decode cX6_take 68 = .ok (.iconst 1, 1) := by decide +kernel
theorem dX6_take_69 : decode cX6_take 69 = .ok (.iadd, 1) := by decide +kernel
theorem dX6_take_70 : decode cX6_take 70 = .ok (.putfield 31, 3) := by decide +kernel
theorem dX6_take_73 : decode cX6_take 73 = .ok (.aload_n 0, 1) := by decide +kernel
theorem dX6_take_74 : decode cX6_take 74 = .ok (.iconst 1, 1) := by decide +kernel
theorem dX6_take_75 : decode cX6_take 75 = .ok (.aload_n 0, 1) := by decide +kernel
theorem dX6_take_76 : decode cX6_take 76 = .ok (.getfield 7, 3) := by decide +kernel
theorem dX6_take_79 : decode cX6_take 79 = .ok (.ishl, 1) := by decide +kernel
theorem dX6_take_80 : decode cX6_take 80 = .ok (.iconst 1, 1) := by decide +kernel
theorem dX6_take_81 : decode cX6_take 81 = .ok (.isub, 1) := by decide +kernel
theorem dX6_take_82 : decode cX6_take 82 = .ok (.putfield 34, 3) := by decide +kernel
theorem dX6_take_85 : decode cX6_take 85 = .ok (.aload_n 0, 1) := by decide +kernel
theorem dX6_take_86 : decode cX6_take 86 = .ok (.iconst 1, 1) := by decide +kernel
theorem dX6_take_87 : decode cX6_take 87 = .ok (.aload_n 0, 1) := by decide +kernel
theorem dX6_take_88 : decode cX6_take 88 = .ok (.getfield 25, 3) := by decide +kernel
theorem dX6_take_91 : decode cX6_take 91 = .ok (.ishl, 1) := by decide +kernel
theorem dX6_take_92 : decode cX6_take 92 = .ok (.iconst 1, 1) := by decide +kernel
theorem dX6_take_93 : decode cX6_take 93 = .ok (.isub, 1) := by decide +kernel
theorem dX6_take_94 : decode cX6_take 94 = .ok (.putfield 37, 3) := by decide +kernel
theorem dX6_take_97 : decode cX6_take 97 = .ok (.return_, 1) := by decide +kernel
theorem dX6_present_0 : decode cX6_present 0 = .ok (.aload_n 0, 1) := by decide +kernel
theorem dX6_present_1 : decode cX6_present 1 = .ok (.getfield 25, 3) := by decide +kernel
theorem dX6_present_4 : decode cX6_present 4 = .ok (.ifCond .le 7, 3) := by decide +kernel
theorem dX6_present_7 : decode cX6_present 7 = .ok (.iconst 1, 1) := by decide +kernel
theorem dX6_present_8 : decode cX6_present 8 = .ok (.goto 4, 3) := by decide +kernel
theorem dX6_present_11 : decode cX6_present 11 = .ok (.iconst 0, 1) := by decide +kernel
theorem dX6_present_12 : decode cX6_present 12 = .ok (.ireturn, 1) := by decide +kernel
theorem dX6_isAddress_0 : decode cX6_isAddress 0 = .ok (.iload_n 1, 1) := by decide +kernel
theorem dX6_isAddress_1 : decode cX6_isAddress 1 = .ok (.ifCond .lt 15, 3) := by decide +kernel
theorem dX6_isAddress_4 : decode cX6_isAddress 4 = .ok (.iload_n 1, 1) := by decide +kernel
theorem dX6_isAddress_5 : decode cX6_isAddress 5 = .ok (.aload_n 0, 1) := by decide +kernel
theorem dX6_isAddress_6 : decode cX6_isAddress 6 = .ok (.invokevirtual 46, 3) := by decide +kernel
theorem dX6_isAddress_9 : decode cX6_isAddress 9 = .ok (.if_icmp .ge 7, 3) := by decide +kernel
theorem dX6_isAddress_12 : decode cX6_isAddress 12 = .ok (.iconst 1, 1) := by decide +kernel
theorem dX6_isAddress_13 : decode cX6_isAddress 13 = .ok (.goto 4, 3) := by decide +kernel
theorem dX6_isAddress_16 : decode cX6_isAddress 16 = .ok (.iconst 0, 1) := by decide +kernel
theorem dX6_isAddress_17 : decode cX6_isAddress 17 = .ok (.ireturn, 1) := by decide +kernel
theorem dX6_isDisk_0 : decode cX6_isDisk 0 = .ok (.iload_n 1, 1) := by decide +kernel
theorem dX6_isDisk_1 : decode cX6_isDisk 1 = .ok (.ifCond .lt 15, 3) := by decide +kernel
theorem dX6_isDisk_4 : decode cX6_isDisk 4 = .ok (.iload_n 1, 1) := by decide +kernel
theorem dX6_isDisk_5 : decode cX6_isDisk 5 = .ok (.aload_n 0, 1) := by decide +kernel
theorem dX6_isDisk_6 : decode cX6_isDisk 6 = .ok (.getfield 25, 3) := by decide +kernel
theorem dX6_isDisk_9 : decode cX6_isDisk 9 = .ok (.if_icmp .ge 7, 3) := by decide +kernel
theorem dX6_isDisk_12 : decode cX6_isDisk 12 = .ok (.iconst 1, 1) := by decide +kernel
theorem dX6_isDisk_13 : decode cX6_isDisk 13 = .ok (.goto 4, 3) := by decide +kernel
theorem dX6_isDisk_16 : decode cX6_isDisk 16 = .ok (.iconst 0, 1) := by decide +kernel
theorem dX6_isDisk_17 : decode cX6_isDisk 17 = .ok (.ireturn, 1) := by decide +kernel
theorem dX6_isStripe_0 : decode cX6_isStripe 0 = .ok (.iload_n 1, 1) := by decide +kernel
theorem dX6_isStripe_1 : decode cX6_isStripe 1 = .ok (.ifCond .lt 15, 3) := by decide +kernel
theorem dX6_isStripe_4 : decode cX6_isStripe 4 = .ok (.iload_n 1, 1) := by decide +kernel
theorem dX6_isStripe_5 : decode cX6_isStripe 5 = .ok (.aload_n 0, 1) := by decide +kernel
theorem dX6_isStripe_6 : decode cX6_isStripe 6 = .ok (.getfield 13, 3) := by decide +kernel
theorem dX6_isStripe_9 : decode cX6_isStripe 9 = .ok (.if_icmp .ge 7, 3) := by decide +kernel
theorem dX6_isStripe_12 : decode cX6_isStripe 12 = .ok (.iconst 1, 1) := by decide +kernel
theorem dX6_isStripe_13 : decode cX6_isStripe 13 = .ok (.goto 4, 3) := by decide +kernel
theorem dX6_isStripe_16 : decode cX6_isStripe 16 = .ok (.iconst 0, 1) := by decide +kernel
theorem dX6_isStripe_17 : decode cX6_isStripe 17 = .ok (.ireturn, 1) := by decide +kernel
theorem dX6_isByteOfChunk_0 : decode cX6_isByteOfChunk 0 = .ok (.iload_n 1, 1) := by decide +kernel
theorem dX6_isByteOfChunk_1 : decode cX6_isByteOfChunk 1 = .ok (.ifCond .lt 15, 3) := by decide +kernel
theorem dX6_isByteOfChunk_4 : decode cX6_isByteOfChunk 4 = .ok (.iload_n 1, 1) := by decide +kernel
theorem dX6_isByteOfChunk_5 : decode cX6_isByteOfChunk 5 = .ok (.aload_n 0, 1) := by decide +kernel
theorem dX6_isByteOfChunk_6 : decode cX6_isByteOfChunk 6 = .ok (.getfield 16, 3) := by decide +kernel
theorem dX6_isByteOfChunk_9 : decode cX6_isByteOfChunk 9 = .ok (.if_icmp .ge 7, 3) := by decide +kernel
theorem dX6_isByteOfChunk_12 : decode cX6_isByteOfChunk 12 = .ok (.iconst 1, 1) := by decide +kernel
theorem dX6_isByteOfChunk_13 : decode cX6_isByteOfChunk 13 = .ok (.goto 4, 3) := by decide +kernel
theorem dX6_isByteOfChunk_16 : decode cX6_isByteOfChunk 16 = .ok (.iconst 0, 1) := by decide +kernel
theorem dX6_isByteOfChunk_17 : decode cX6_isByteOfChunk 17 = .ok (.ireturn, 1) := by decide +kernel
theorem dX6_isCell_0 : decode cX6_isCell 0 = .ok (.aload_n 0, 1) := by decide +kernel
theorem dX6_isCell_1 : decode cX6_isCell 1 = .ok (.iload_n 1, 1) := by decide +kernel
theorem dX6_isCell_2 : decode cX6_isCell 2 = .ok (.invokevirtual 50, 3) := by decide +kernel
theorem dX6_isCell_5 : decode cX6_isCell 5 = .ok (.ifCond .eq 23, 3) := by decide +kernel
theorem dX6_isCell_8 : decode cX6_isCell 8 = .ok (.aload_n 0, 1) := by decide +kernel
theorem dX6_isCell_9 : decode cX6_isCell 9 = .ok (.iload_n 2, 1) := by decide +kernel
theorem dX6_isCell_10 : decode cX6_isCell 10 = .ok (.invokevirtual 54, 3) := by decide +kernel
theorem dX6_isCell_13 : decode cX6_isCell 13 = .ok (.ifCond .eq 15, 3) := by decide +kernel
theorem dX6_isCell_16 : decode cX6_isCell 16 = .ok (.aload_n 0, 1) := by decide +kernel
theorem dX6_isCell_17 : decode cX6_isCell 17 = .ok (.iload_n 3, 1) := by decide +kernel
theorem dX6_isCell_18 : decode cX6_isCell 18 = .ok (.invokevirtual 57, 3) := by decide +kernel
theorem dX6_isCell_21 : decode cX6_isCell 21 = .ok (.ifCond .eq 7, 3) := by decide +kernel
theorem dX6_isCell_24 : decode cX6_isCell 24 = .ok (.iconst 1, 1) := by decide +kernel
theorem dX6_isCell_25 : decode cX6_isCell 25 = .ok (.goto 4, 3) := by decide +kernel
theorem dX6_isCell_28 : decode cX6_isCell 28 = .ok (.iconst 0, 1) := by decide +kernel
theorem dX6_isCell_29 : decode cX6_isCell 29 = .ok (.ireturn, 1) := by decide +kernel
theorem dX7_numbersOf_0 : decode cX7_numbersOf 0 = .ok (.iload_n 0, 1) := by decide +kernel
theorem dX7_numbersOf_1 : decode cX7_numbersOf 1 = .ok (.ifCond .lt 19, 3) := by decide +kernel
theorem dX7_numbersOf_4 : decode cX7_numbersOf 4 = .ok (.iload_n 0, 1) := by decide +kernel
theorem dX7_numbersOf_5 : decode cX7_numbersOf 5 = .ok (.getstatic 22, 3) := by decide +kernel
theorem dX7_numbersOf_8 : decode cX7_numbersOf 8 = .ok (.arraylength, 1) := by decide +kernel
theorem dX7_numbersOf_9 : decode cX7_numbersOf 9 = .ok (.if_icmp .ge 11, 3) := by decide +kernel
theorem dX7_numbersOf_12 : decode cX7_numbersOf 12 = .ok (.getstatic 22, 3) := by decide +kernel
theorem dX7_numbersOf_15 : decode cX7_numbersOf 15 = .ok (.iload_n 0, 1) := by decide +kernel
theorem dX7_numbersOf_16 : decode cX7_numbersOf 16 = .ok (.iaload, 1) := by decide +kernel
theorem dX7_numbersOf_17 : decode cX7_numbersOf 17 = .ok (.goto 4, 3) := by decide +kernel
theorem dX7_numbersOf_20 : decode cX7_numbersOf 20 = .ok (.iconst 0, 1) := by decide +kernel
theorem dX7_numbersOf_21 : decode cX7_numbersOf 21 = .ok (.ireturn, 1) := by decide +kernel
theorem dX7_size_0 : decode cX7_size 0 = .ok (.aload_n 0, 1) := by decide +kernel
theorem dX7_size_1 : decode cX7_size 1 = .ok (.getfield 18, 3) := by decide +kernel
theorem dX7_size_4 : decode cX7_size 4 = .ok (.ireturn, 1) := by decide +kernel
theorem dX7_clear_0 : decode cX7_clear 0 = .ok (.aload_n 0, 1) := by decide +kernel
theorem dX7_clear_1 : decode cX7_clear 1 = .ok (.iconst 0, 1) := by decide +kernel
theorem dX7_clear_2 : decode cX7_clear 2 = .ok (.putfield 18, 3) := by decide +kernel
theorem dX7_clear_5 : decode cX7_clear 5 = .ok (.return_, 1) := by decide +kernel
theorem dX7_add_0 : decode cX7_add 0 = .ok (.aload_n 0, 1) := by decide +kernel
theorem dX7_add_1 : decode cX7_add 1 = .ok (.getfield 18, 3) := by decide +kernel
theorem dX7_add_4 : decode cX7_add 4 = .ok (.bipush 16, 2) := by decide +kernel
theorem dX7_add_6 : decode cX7_add 6 = .ok (.if_icmp .ge 23, 3) := by decide +kernel
theorem dX7_add_9 : decode cX7_add 9 = .ok (.aload_n 0, 1) := by decide +kernel
theorem dX7_add_10 : decode cX7_add 10 = .ok (.getfield 11, 3) := by decide +kernel
theorem dX7_add_13 : decode cX7_add 13 = .ok (.aload_n 0, 1) := by decide +kernel
theorem dX7_add_14 : decode cX7_add 14 = .ok (.getfield 18, 3) := by decide +kernel
theorem dX7_add_17 : decode cX7_add 17 = .ok (.iload_n 1, 1) := by decide +kernel
theorem dX7_add_18 : decode cX7_add 18 = .ok (.iastore, 1) := by decide +kernel
theorem dX7_add_19 : decode cX7_add 19 = .ok (.aload_n 0, 1) := by decide +kernel
theorem dX7_add_20 : decode cX7_add 20 = .ok (.dup, 1) := by decide +kernel
theorem dX7_add_21 : decode cX7_add 21 = .ok (.getfield 18, 3) := by decide +kernel
theorem dX7_add_24 : decode cX7_add 24 = .ok (.iconst 1, 1) := by decide +kernel
theorem dX7_add_25 : decode cX7_add 25 = .ok (.iadd, 1) := by decide +kernel
theorem dX7_add_26 : decode cX7_add 26 = .ok (.putfield 18, 3) := by decide +kernel
theorem dX7_add_29 : decode cX7_add 29 = .ok (.return_, 1) := by decide +kernel
theorem dX7_isStep_0 : decode cX7_isStep 0 = .ok (.iload_n 1, 1) := by decide +kernel
theorem dX7_isStep_1 : decode cX7_isStep 1 = .ok (.ifCond .lt 21, 3) := by decide +kernel
theorem dX7_isStep_4 : decode cX7_isStep 4 = .ok (.iload_n 1, 1) := by decide +kernel
theorem dX7_isStep_5 : decode cX7_isStep 5 = .ok (.aload_n 0, 1) := by decide +kernel
theorem dX7_isStep_6 : decode cX7_isStep 6 = .ok (.getfield 18, 3) := by decide +kernel
theorem dX7_isStep_9 : decode cX7_isStep 9 = .ok (.if_icmp .ge 13, 3) := by decide +kernel
theorem dX7_isStep_12 : decode cX7_isStep 12 = .ok (.iload_n 1, 1) := by decide +kernel
theorem dX7_isStep_13 : decode cX7_isStep 13 = .ok (.bipush 16, 2) := by decide +kernel
theorem dX7_isStep_15 : decode cX7_isStep 15 = .ok (.if_icmp .ge 7, 3) := by decide +kernel
theorem dX7_isStep_18 : decode cX7_isStep 18 = .ok (.iconst 1, 1) := by decide +kernel
theorem dX7_isStep_19 : decode cX7_isStep 19 = .ok (.goto 4, 3) := by decide +kernel
theorem dX7_isStep_22 : decode cX7_isStep 22 = .ok (.iconst 0, 1) := by decide +kernel
theorem dX7_isStep_23 : decode cX7_isStep 23 = .ok (.ireturn, 1) := by decide +kernel
theorem dX7_put_0 : decode cX7_put 0 = .ok (.aload_n 0, 1) := by decide +kernel
theorem dX7_put_1 : decode cX7_put 1 = .ok (.iload_n 1, 1) := by decide +kernel
theorem dX7_put_2 : decode cX7_put 2 = .ok (.invokevirtual 25, 3) := by decide +kernel
theorem dX7_put_5 : decode cX7_put 5 = .ok (.ifCond .eq 23, 3) := by decide +kernel
theorem dX7_put_8 : decode cX7_put 8 = .ok (.iload_n 2, 1) := by decide +kernel
theorem dX7_put_9 : decode cX7_put 9 = .ok (.ifCond .lt 19, 3) := by decide +kernel
theorem dX7_put_12 : decode cX7_put 12 = .ok (.iload_n 2, 1) := by decide +kernel
theorem dX7_put_13 : decode cX7_put 13 = .ok (.iconst 4, 1) := by decide +kernel
theorem dX7_put_14 : decode cX7_put 14 = .ok (.if_icmp .ge 14, 3) := by decide +kernel
theorem dX7_put_17 : decode cX7_put 17 = .ok (.aload_n 0, 1) := by decide +kernel
theorem dX7_put_18 : decode cX7_put 18 = .ok (.getfield 15, 3) := by decide +kernel
theorem dX7_put_21 : decode cX7_put 21 = .ok (.iconst 4, 1) := by decide +kernel
theorem dX7_put_22 : decode cX7_put 22 = .ok (.iload_n 1, 1) := by decide +kernel
theorem dX7_put_23 : decode cX7_put 23 = .ok (.imul, 1) := by decide +kernel
theorem dX7_put_24 : decode cX7_put 24 = .ok (.iload_n 2, 1) := by decide +kernel
theorem dX7_put_25 : decode cX7_put 25 = .ok (.iadd, 1) := by decide +kernel
theorem dX7_put_26 : decode cX7_put 26 = .ok (.iload_n 3, 1) := by decide +kernel
theorem dX7_put_27 : decode cX7_put 27 = .ok (.iastore, 1) := by decide +kernel
theorem dX7_put_28 : decode cX7_put 28 = .ok (.return_, 1) := by decide +kernel
theorem dX7_sort_0 : decode cX7_sort 0 = .ok (.aload_n 0, 1) := by decide +kernel
theorem dX7_sort_1 : decode cX7_sort 1 = .ok (.iload_n 1, 1) := by decide +kernel
theorem dX7_sort_2 : decode cX7_sort 2 = .ok (.invokevirtual 25, 3) := by decide +kernel
theorem dX7_sort_5 : decode cX7_sort 5 = .ok (.ifCond .eq 12, 3) := by decide +kernel
theorem dX7_sort_8 : decode cX7_sort 8 = .ok (.aload_n 0, 1) := by decide +kernel
theorem dX7_sort_9 : decode cX7_sort 9 = .ok (.getfield 11, 3) := by decide +kernel
theorem dX7_sort_12 : decode cX7_sort 12 = .ok (.iload_n 1, 1) := by decide +kernel
theorem dX7_sort_13 : decode cX7_sort 13 = .ok (.iaload, 1) := by decide +kernel
theorem dX7_sort_14 : decode cX7_sort 14 = .ok (.goto 4, 3) := by decide +kernel
theorem dX7_sort_17 : decode cX7_sort 17 = .ok (.iconst (-1), 1) := by decide +kernel
theorem dX7_sort_18 : decode cX7_sort 18 = .ok (.ireturn, 1) := by decide +kernel
theorem dX7_number_0 : decode cX7_number 0 = .ok (.aload_n 0, 1) := by decide +kernel
theorem dX7_number_1 : decode cX7_number 1 = .ok (.iload_n 1, 1) := by decide +kernel
theorem dX7_number_2 : decode cX7_number 2 = .ok (.invokevirtual 25, 3) := by decide +kernel
theorem dX7_number_5 : decode cX7_number 5 = .ok (.ifCond .eq 25, 3) := by decide +kernel
theorem dX7_number_8 : decode cX7_number 8 = .ok (.iload_n 2, 1) := by decide +kernel
theorem dX7_number_9 : decode cX7_number 9 = .ok (.ifCond .lt 21, 3) := by decide +kernel
theorem dX7_number_12 : decode cX7_number 12 = .ok (.iload_n 2, 1) := by decide +kernel
theorem dX7_number_13 : decode cX7_number 13 = .ok (.iconst 4, 1) := by decide +kernel
theorem dX7_number_14 : decode cX7_number 14 = .ok (.if_icmp .ge 16, 3) := by decide +kernel
theorem dX7_number_17 : decode cX7_number 17 = .ok (.aload_n 0, 1) := by decide +kernel
theorem dX7_number_18 : decode cX7_number 18 = .ok (.getfield 15, 3) := by decide +kernel
theorem dX7_number_21 : decode cX7_number 21 = .ok (.iconst 4, 1) := by decide +kernel
theorem dX7_number_22 : decode cX7_number 22 = .ok (.iload_n 1, 1) := by decide +kernel
theorem dX7_number_23 : decode cX7_number 23 = .ok (.imul, 1) := by decide +kernel
theorem dX7_number_24 : decode cX7_number 24 = .ok (.iload_n 2, 1) := by decide +kernel
theorem dX7_number_25 : decode cX7_number 25 = .ok (.iadd, 1) := by decide +kernel
theorem dX7_number_26 : decode cX7_number 26 = .ok (.iaload, 1) := by decide +kernel
theorem dX7_number_27 : decode cX7_number 27 = .ok (.goto 4, 3) := by decide +kernel
theorem dX7_number_30 : decode cX7_number 30 = .ok (.iconst 0, 1) := by decide +kernel
theorem dX7_number_31 : decode cX7_number 31 = .ok (.ireturn, 1) := by decide +kernel
theorem dX7_tell_0 : decode cX7_tell 0 = .ok (.aload_n 0, 1) := by decide +kernel
theorem dX7_tell_1 : decode cX7_tell 1 = .ok (.iload_n 1, 1) := by decide +kernel
theorem dX7_tell_2 : decode cX7_tell 2 = .ok (.invokevirtual 25, 3) := by decide +kernel
theorem dX7_tell_5 : decode cX7_tell 5 = .ok (.ifCond .eq 12, 3) := by decide +kernel
theorem dX7_tell_8 : decode cX7_tell 8 = .ok (.iload_n 2, 1) := by decide +kernel
theorem dX7_tell_9 : decode cX7_tell 9 = .ok (.ifCond .lt 8, 3) := by decide +kernel
theorem dX7_tell_12 : decode cX7_tell 12 = .ok (.iload_n 2, 1) := by decide +kernel
theorem dX7_tell_13 : decode cX7_tell 13 = .ok (.iconst 4, 1) := by decide +kernel
theorem dX7_tell_14 : decode cX7_tell 14 = .ok (.if_icmp .le 6, 3) := by decide +kernel
theorem dX7_tell_17 : decode cX7_tell 17 = .ok (.ldc 29, 2) := by decide +kernel
theorem dX7_tell_19 : decode cX7_tell 19 = .ok (.ireturn, 1) := by decide +kernel
theorem dX7_tell_20 : decode cX7_tell 20 = .ok (.iload_n 2, 1) := by decide +kernel
theorem dX7_tell_21 : decode cX7_tell 21 = .ok (.ifCond .ne 10, 3) := by decide +kernel
theorem dX7_tell_24 : decode cX7_tell 24 = .ok (.aload_n 0, 1) := by decide +kernel
theorem dX7_tell_25 : decode cX7_tell 25 = .ok (.getfield 11, 3) := by decide +kernel
theorem dX7_tell_28 : decode cX7_tell 28 = .ok (.iload_n 1, 1) := by decide +kernel
theorem dX7_tell_29 : decode cX7_tell 29 = .ok (.iaload, 1) := by decide +kernel
theorem dX7_tell_30 : decode cX7_tell 30 = .ok (.ireturn, 1) := by decide +kernel
theorem dX7_tell_31 : decode cX7_tell 31 = .ok (.iload_n 2, 1) := by decide +kernel
theorem dX7_tell_32 : decode cX7_tell 32 = .ok (.aload_n 0, 1) := by decide +kernel
theorem dX7_tell_33 : decode cX7_tell 33 = .ok (.getfield 11, 3) := by decide +kernel
theorem dX7_tell_36 : decode cX7_tell 36 = .ok (.iload_n 1, 1) := by decide +kernel
theorem dX7_tell_37 : decode cX7_tell 37 = .ok (.iaload, 1) := by decide +kernel
theorem dX7_tell_38 : decode cX7_tell 38 = .ok (.invokestatic 30, 3) := by decide +kernel
theorem dX7_tell_41 : decode cX7_tell 41 = .ok (.if_icmp .gt 18, 3) := by decide +kernel
theorem dX7_tell_44 : decode cX7_tell 44 = .ok (.aload_n 0, 1) := by decide +kernel
theorem dX7_tell_45 : decode cX7_tell 45 = .ok (.getfield 15, 3) := by decide +kernel
theorem dX7_tell_48 : decode cX7_tell 48 = .ok (.iconst 4, 1) := by decide +kernel
theorem dX7_tell_49 : decode cX7_tell 49 = .ok (.iload_n 1, 1) := by decide +kernel
theorem dX7_tell_50 : decode cX7_tell 50 = .ok (.imul, 1) := by decide +kernel
theorem dX7_tell_51 : decode cX7_tell 51 = .ok (.iload_n 2, 1) := by decide +kernel
theorem dX7_tell_52 : decode cX7_tell 52 = .ok (.iadd, 1) := by decide +kernel
theorem dX7_tell_53 : decode cX7_tell 53 = .ok (.iconst 1, 1) := by decide +kernel
theorem dX7_tell_54 : decode cX7_tell 54 = .ok (.isub, 1) := by decide +kernel
theorem dX7_tell_55 : decode cX7_tell 55 = .ok (.iaload, 1) := by decide +kernel
theorem dX7_tell_56 : decode cX7_tell 56 = .ok (.goto 4, 3) := by decide +kernel
theorem dX7_tell_59 : decode cX7_tell 59 = .ok (.iconst (-1), 1) := by decide +kernel
theorem dX7_tell_60 : decode cX7_tell 60 = .ok (.ireturn, 1) := by decide +kernel
theorem dX7_copy_0 : decode cX7_copy 0 = .ok (.aload_n 1, 1) := by decide +kernel
theorem dX7_copy_1 : decode cX7_copy 1 = .ok (.getfield 11, 3) := by decide +kernel
theorem dX7_copy_4 : decode cX7_copy 4 = .ok (.iconst 0, 1) := by decide +kernel
theorem dX7_copy_5 : decode cX7_copy 5 = .ok (.aload_n 0, 1) := by decide +kernel
theorem dX7_copy_6 : decode cX7_copy 6 = .ok (.getfield 11, 3) := by decide +kernel
theorem dX7_copy_9 : decode cX7_copy 9 = .ok (.iconst 0, 1) := by decide +kernel
theorem dX7_copy_10 : decode cX7_copy 10 = .ok (.bipush 16, 2) := by decide +kernel
theorem dX7_copy_12 : decode cX7_copy 12 = .ok (.invokestatic 34, 3) := by decide +kernel
theorem dX7_copy_15 : decode cX7_copy 15 = .ok (.aload_n 1, 1) := by decide +kernel
theorem dX7_copy_16 : decode cX7_copy 16 = .ok (.getfield 15, 3) := by decide +kernel
theorem dX7_copy_19 : decode cX7_copy 19 = .ok (.iconst 0, 1) := by decide +kernel
theorem dX7_copy_20 : decode cX7_copy 20 = .ok (.aload_n 0, 1) := by decide +kernel
theorem dX7_copy_21 : decode cX7_copy 21 = .ok (.getfield 15, 3) := by decide +kernel
theorem dX7_copy_24 : decode cX7_copy 24 = .ok (.iconst 0, 1) := by decide +kernel
theorem dX7_copy_25 : decode cX7_copy 25 = .ok (.bipush 64, 2) := by decide +kernel
theorem dX7_copy_27 : decode cX7_copy 27 = .ok (.invokestatic 34, 3) := by decide +kernel
theorem dX7_copy_30 : decode cX7_copy 30 = .ok (.aload_n 0, 1) := by decide +kernel
theorem dX7_copy_31 : decode cX7_copy 31 = .ok (.aload_n 1, 1) := by decide +kernel
theorem dX7_copy_32 : decode cX7_copy 32 = .ok (.getfield 18, 3) := by decide +kernel
theorem dX7_copy_35 : decode cX7_copy 35 = .ok (.putfield 18, 3) := by decide +kernel
theorem dX7_copy_38 : decode cX7_copy 38 = .ok (.return_, 1) := by decide +kernel
theorem dX9_add_0 : decode cX9_add 0 = .ok (.iload_n 1, 1) := by decide +kernel
theorem dX9_add_1 : decode cX9_add 1 = .ok (.ifCond .lt 20, 3) := by decide +kernel
theorem dX9_add_4 : decode cX9_add 4 = .ok (.iload_n 1, 1) := by decide +kernel
theorem dX9_add_5 : decode cX9_add 5 = .ok (.sipush 144, 3) := by decide +kernel
theorem dX9_add_8 : decode cX9_add 8 = .ok (.if_icmp .ge 13, 3) := by decide +kernel
theorem dX9_add_11 : decode cX9_add 11 = .ok (.aload_n 0, 1) := by decide +kernel
theorem dX9_add_12 : decode cX9_add 12 = .ok (.getfield 11, 3) := by decide +kernel
theorem dX9_add_15 : decode cX9_add 15 = .ok (.iload_n 1, 1) := by decide +kernel
theorem dX9_add_16 : decode cX9_add 16 = .ok (.dup2, 1) := by decide +kernel
theorem dX9_add_17 : decode cX9_add 17 = .ok (.iaload, 1) := by decide +kernel
theorem dX9_add_18 : decode cX9_add 18 = .ok (.iload_n 2, 1) := by decide +kernel
theorem dX9_add_19 : decode cX9_add 19 = .ok (.iadd, 1) := by decide +kernel
theorem dX9_add_20 : decode cX9_add 20 = .ok (.iastore, 1) := by decide +kernel
theorem dX9_add_21 : decode cX9_add 21 = .ok (.return_, 1) := by decide +kernel
theorem dX9_putByte_0 : decode cX9_putByte 0 = .ok (.iload_n 1, 1) := by decide +kernel
theorem dX9_putByte_1 : decode cX9_putByte 1 = .ok (.bipush 12, 2) := by decide +kernel
theorem dX9_putByte_3 : decode cX9_putByte 3 = .ok (.imul, 1) := by decide +kernel
theorem dX9_putByte_4 : decode cX9_putByte 4 = .ok (.iload_n 2, 1) := by decide +kernel
theorem dX9_putByte_5 : decode cX9_putByte 5 = .ok (.iadd, 1) := by decide +kernel
theorem dX9_putByte_6 : decode cX9_putByte 6 = .ok (.istore 5, 2) := by decide +kernel
theorem dX9_putByte_8 : decode cX9_putByte 8 = .ok (.iload 5, 2) := by decide +kernel
theorem dX9_putByte_10 : decode cX9_putByte 10 = .ok (.ifCond .lt 56, 3) := by decide +kernel
theorem dX9_putByte_13 : decode cX9_putByte 13 = .ok (.iload 5, 2) := by decide +kernel
theorem dX9_putByte_15 : decode cX9_putByte 15 = .ok (.bipush 96, 2) := by decide +kernel
theorem dX9_putByte_17 : decode cX9_putByte 17 = .ok (.if_icmp .ge 49, 3) := by decide +kernel
theorem dX9_putByte_20 : decode cX9_putByte 20 = .ok (.iload_n 3, 1) := by decide +kernel
theorem dX9_putByte_21 : decode cX9_putByte 21 = .ok (.ifCond .lt 45, 3) := by decide +kernel
theorem dX9_putByte_24 : decode cX9_putByte 24 = .ok (.iload_n 3, 1) := by decide +kernel
theorem dX9_putByte_25 : decode cX9_putByte 25 = .ok (.iconst 4, 1) := by decide +kernel
theorem dX9_putByte_26 : decode cX9_putByte 26 = .ok (.if_icmp .ge 40, 3) := by decide +kernel
theorem dX9_putByte_29 : decode cX9_putByte 29 = .ok (.aload_n 0, 1) := by decide +kernel
theorem dX9_putByte_30 : decode cX9_putByte 30 = .ok (.getfield 11, 3) := by decide +kernel
theorem dX9_putByte_33 : decode cX9_putByte 33 = .ok (.iload 5, 2) := by decide +kernel
theorem dX9_putByte_35 : decode cX9_putByte 35 = .ok (.aload_n 0, 1) := by decide +kernel
theorem dX9_putByte_36 : decode cX9_putByte 36 = .ok (.getfield 11, 3) := by decide +kernel
theorem dX9_putByte_39 : decode cX9_putByte 39 = .ok (.iload 5, 2) := by decide +kernel
theorem dX9_putByte_41 : decode cX9_putByte 41 = .ok (.iaload, 1) := by decide +kernel
theorem dX9_putByte_42 : decode cX9_putByte 42 = .ok (.sipush 255, 3) := by decide +kernel
theorem dX9_putByte_45 : decode cX9_putByte 45 = .ok (.bipush 8, 2) := by decide +kernel
theorem dX9_putByte_47 : decode cX9_putByte 47 = .ok (.iload_n 3, 1) := by decide +kernel
theorem dX9_putByte_48 : decode cX9_putByte 48 = .ok (.imul, 1) := by decide +kernel
theorem dX9_putByte_49 : decode cX9_putByte 49 = .ok (.ishl, 1) := by decide +kernel
theorem dX9_putByte_50 : decode cX9_putByte 50 = .ok (.iconst (-1), 1) := by decide +kernel
theorem dX9_putByte_51 : decode cX9_putByte 51 = .ok (.ixor, 1) := by decide +kernel
theorem dX9_putByte_52 : decode cX9_putByte 52 = .ok (.iand, 1) := by decide +kernel
theorem dX9_putByte_53 : decode cX9_putByte 53 = .ok (.iload 4, 2) := by decide +kernel
theorem dX9_putByte_55 : decode cX9_putByte 55 = .ok (.sipush 255, 3) := by decide +kernel
theorem dX9_putByte_58 : decode cX9_putByte 58 = .ok (.iand, 1) := by decide +kernel
theorem dX9_putByte_59 : decode cX9_putByte 59 = .ok (.bipush 8, 2) := by decide +kernel
theorem dX9_putByte_61 : decode cX9_putByte 61 = .ok (.iload_n 3, 1) := by decide +kernel
theorem dX9_putByte_62 : decode cX9_putByte 62 = .ok (.imul, 1) := by decide +kernel
theorem dX9_putByte_63 : decode cX9_putByte 63 = .ok (.ishl, 1) := by decide +kernel
theorem dX9_putByte_64 : decode cX9_putByte 64 = .ok (.ior, 1) := by decide +kernel
theorem dX9_putByte_65 : decode cX9_putByte 65 = .ok (.iastore, 1) := by decide +kernel
theorem dX9_putByte_66 : decode cX9_putByte 66 = .ok (.return_, 1) := by decide +kernel
theorem dX9_set_0 : decode cX9_set 0 = .ok (.iload_n 1, 1) := by decide +kernel
theorem dX9_set_1 : decode cX9_set 1 = .ok (.ifCond .lt 17, 3) := by decide +kernel
theorem dX9_set_4 : decode cX9_set 4 = .ok (.iload_n 1, 1) := by decide +kernel
theorem dX9_set_5 : decode cX9_set 5 = .ok (.sipush 144, 3) := by decide +kernel
theorem dX9_set_8 : decode cX9_set 8 = .ok (.if_icmp .ge 10, 3) := by decide +kernel
theorem dX9_set_11 : decode cX9_set 11 = .ok (.aload_n 0, 1) := by decide +kernel
theorem dX9_set_12 : decode cX9_set 12 = .ok (.getfield 11, 3) := by decide +kernel
theorem dX9_set_15 : decode cX9_set 15 = .ok (.iload_n 1, 1) := by decide +kernel
theorem dX9_set_16 : decode cX9_set 16 = .ok (.iload_n 2, 1) := by decide +kernel
theorem dX9_set_17 : decode cX9_set 17 = .ok (.iastore, 1) := by decide +kernel
theorem dX9_set_18 : decode cX9_set 18 = .ok (.return_, 1) := by decide +kernel
theorem dX9_start_0 : decode cX9_start 0 = .ok (.iconst 0, 1) := by decide +kernel
theorem dX9_start_1 : decode cX9_start 1 = .ok (.istore_n 2, 1) := by decide +kernel
theorem dX9_start_2 : decode cX9_start 2 = .ok (.iload_n 2, 1) := by decide +kernel
theorem dX9_start_3 : decode cX9_start 3 = .ok (.sipush 144, 3) := by decide +kernel
theorem dX9_start_6 : decode cX9_start 6 = .ok (.if_icmp .ge 16, 3) := by decide +kernel
theorem dX9_start_9 : decode cX9_start 9 = .ok (.aload_n 0, 1) := by decide +kernel
theorem dX9_start_10 : decode cX9_start 10 = .ok (.getfield 11, 3) := by decide +kernel
theorem dX9_start_13 : decode cX9_start 13 = .ok (.iload_n 2, 1) := by decide +kernel
theorem dX9_start_14 : decode cX9_start 14 = .ok (.iconst 0, 1) := by decide +kernel
theorem dX9_start_15 : decode cX9_start 15 = .ok (.iastore, 1) := by decide +kernel
theorem dX9_start_16 : decode cX9_start 16 = .ok (.iinc 2 1, 3) := by decide +kernel
theorem dX9_start_19 : decode cX9_start 19 = .ok (.goto (-17), 3) := by decide +kernel
theorem dX9_start_22 : decode cX9_start 22 = .ok (.iconst 0, 1) := by decide +kernel
theorem dX9_start_23 : decode cX9_start 23 = .ok (.istore_n 2, 1) := by decide +kernel
theorem dX9_start_24 : decode cX9_start 24 = .ok (.iload_n 2, 1) := by decide +kernel
theorem dX9_start_25 : decode cX9_start 25 = .ok (.bipush 8, 2) := by decide +kernel
theorem dX9_start_27 : decode cX9_start 27 = .ok (.if_icmp .ge 22, 3) := by decide +kernel
theorem dX9_start_30 : decode cX9_start 30 = .ok (.aload_n 0, 1) := by decide +kernel
theorem dX9_start_31 : decode cX9_start 31 = .ok (.getfield 11, 3) := by decide +kernel
theorem dX9_start_34 : decode cX9_start 34 = .ok (.bipush 104, 2) := by decide +kernel
theorem dX9_start_36 : decode cX9_start 36 = .ok (.iload_n 2, 1) := by decide +kernel
theorem dX9_start_37 : decode cX9_start 37 = .ok (.iadd, 1) := by decide +kernel
theorem dX9_start_38 : decode cX9_start 38 = .ok (.aload_n 1, 1) := by decide +kernel
theorem dX9_start_39 : decode cX9_start 39 = .ok (.getfield 15, 3) := by decide +kernel
theorem dX9_start_42 : decode cX9_start 42 = .ok (.iastore, 1) := by decide +kernel
theorem dX9_start_43 : decode cX9_start 43 = .ok (.iinc 2 1, 3) := by decide +kernel
theorem dX9_start_46 : decode cX9_start 46 = .ok (.goto (-22), 3) := by decide +kernel
theorem dX9_start_49 : decode cX9_start 49 = .ok (.aload_n 0, 1) := by decide +kernel
theorem dX9_start_50 : decode cX9_start 50 = .ok (.getfield 11, 3) := by decide +kernel
theorem dX9_start_53 : decode cX9_start 53 = .ok (.sipush 136, 3) := by decide +kernel
theorem dX9_start_56 : decode cX9_start 56 = .ok (.aload_n 1, 1) := by decide +kernel
theorem dX9_start_57 : decode cX9_start 57 = .ok (.getfield 21, 3) := by decide +kernel
theorem dX9_start_60 : decode cX9_start 60 = .ok (.iastore, 1) := by decide +kernel
theorem dX9_start_61 : decode cX9_start 61 = .ok (.aload_n 0, 1) := by decide +kernel
theorem dX9_start_62 : decode cX9_start 62 = .ok (.getfield 11, 3) := by decide +kernel
theorem dX9_start_65 : decode cX9_start 65 = .ok (.sipush 141, 3) := by decide +kernel
theorem dX9_start_68 : decode cX9_start 68 = .ok (.iconst (-1), 1) := by decide +kernel
theorem dX9_start_69 : decode cX9_start 69 = .ok (.iastore, 1) := by decide +kernel
theorem dX9_start_70 : decode cX9_start 70 = .ok (.aload_n 0, 1) := by decide +kernel
theorem dX9_start_71 : decode cX9_start 71 = .ok (.getfield 11, 3) := by decide +kernel
theorem dX9_start_74 : decode cX9_start 74 = .ok (.sipush 142, 3) := by decide +kernel
theorem dX9_start_77 : decode cX9_start 77 = .ok (.iconst (-1), 1) := by decide +kernel
theorem dX9_start_78 : decode cX9_start 78 = .ok (.iastore, 1) := by decide +kernel
theorem dX9_start_79 : decode cX9_start 79 = .ok (.aload_n 0, 1) := by decide +kernel
theorem dX9_start_80 : decode cX9_start 80 = .ok (.getfield 11, 3) := by decide +kernel
theorem dX9_start_83 : decode cX9_start 83 = .ok (.sipush 143, 3) := by decide +kernel
theorem dX9_start_86 : decode cX9_start 86 = .ok (.iconst (-1), 1) := by decide +kernel
theorem dX9_start_87 : decode cX9_start 87 = .ok (.iastore, 1) := by decide +kernel
theorem dX9_start_88 : decode cX9_start 88 = .ok (.return_, 1) := by decide +kernel
theorem dX9_forgetCosts_0 : decode cX9_forgetCosts 0 = .ok (.iconst 0, 1) := by decide +kernel
theorem dX9_forgetCosts_1 : decode cX9_forgetCosts 1 = .ok (.istore_n 1, 1) := by decide +kernel
theorem dX9_forgetCosts_2 : decode cX9_forgetCosts 2 = .ok (.iload_n 1, 1) := by decide +kernel
theorem dX9_forgetCosts_3 : decode cX9_forgetCosts 3 = .ok (.bipush 8, 2) := by decide +kernel
theorem dX9_forgetCosts_5 : decode cX9_forgetCosts 5 = .ok (.if_icmp .ge 29, 3) := by decide +kernel
theorem dX9_forgetCosts_8 : decode cX9_forgetCosts 8 = .ok (.aload_n 0, 1) := by decide +kernel
theorem dX9_forgetCosts_9 : decode cX9_forgetCosts 9 = .ok (.getfield 11, 3) := by decide +kernel
theorem dX9_forgetCosts_12 : decode cX9_forgetCosts 12 = .ok (.bipush 112, 2) := by decide +kernel
theorem dX9_forgetCosts_14 : decode cX9_forgetCosts 14 = .ok (.iload_n 1, 1) := by decide +kernel
theorem dX9_forgetCosts_15 : decode cX9_forgetCosts 15 = .ok (.iadd, 1) := by decide +kernel
theorem dX9_forgetCosts_16 : decode cX9_forgetCosts 16 = .ok (.iconst 0, 1) := by decide +kernel
theorem dX9_forgetCosts_17 : decode cX9_forgetCosts 17 = .ok (.iastore, 1) := by decide +kernel
theorem dX9_forgetCosts_18 : decode cX9_forgetCosts 18 = .ok (.aload_n 0, 1) := by decide +kernel
theorem dX9_forgetCosts_19 : decode cX9_forgetCosts 19 = .ok (.getfield 11, 3) := by decide +kernel
theorem dX9_forgetCosts_22 : decode cX9_forgetCosts 22 = .ok (.bipush 120, 2) := by decide +kernel
theorem dX9_forgetCosts_24 : decode cX9_forgetCosts 24 = .ok (.iload_n 1, 1) := by decide +kernel
theorem dX9_forgetCosts_25 : decode cX9_forgetCosts 25 = .ok (.iadd, 1) := by decide +kernel
theorem dX9_forgetCosts_26 : decode cX9_forgetCosts 26 = .ok (.iconst 0, 1) := by decide +kernel
theorem dX9_forgetCosts_27 : decode cX9_forgetCosts 27 = .ok (.iastore, 1) := by decide +kernel
theorem dX9_forgetCosts_28 : decode cX9_forgetCosts 28 = .ok (.iinc 1 1, 3) := by decide +kernel
theorem dX9_forgetCosts_31 : decode cX9_forgetCosts 31 = .ok (.goto (-29), 3) := by decide +kernel
theorem dX9_forgetCosts_34 : decode cX9_forgetCosts 34 = .ok (.return_, 1) := by decide +kernel
theorem dX9_sumOfDisks_0 : decode cX9_sumOfDisks 0 = .ok (.iconst 0, 1) := by decide +kernel
theorem dX9_sumOfDisks_1 : decode cX9_sumOfDisks 1 = .ok (.istore_n 2, 1) := by decide +kernel
theorem dX9_sumOfDisks_2 : decode cX9_sumOfDisks 2 = .ok (.iconst 0, 1) := by decide +kernel
theorem dX9_sumOfDisks_3 : decode cX9_sumOfDisks 3 = .ok (.istore_n 3, 1) := by decide +kernel
theorem dX9_sumOfDisks_4 : decode cX9_sumOfDisks 4 = .ok (.iload_n 3, 1) := by decide +kernel
theorem dX9_sumOfDisks_5 : decode cX9_sumOfDisks 5 = .ok (.bipush 8, 2) := by decide +kernel
theorem dX9_sumOfDisks_7 : decode cX9_sumOfDisks 7 = .ok (.if_icmp .ge 19, 3) := by decide +kernel
theorem dX9_sumOfDisks_10 : decode cX9_sumOfDisks 10 = .ok (.iload_n 2, 1) := by decide +kernel
theorem dX9_sumOfDisks_11 : decode cX9_sumOfDisks 11 = .ok (.aload_n 0, 1) := by decide +kernel
theorem dX9_sumOfDisks_12 : decode cX9_sumOfDisks 12 = .ok (.iload_n 1, 1) := by decide +kernel
theorem dX9_sumOfDisks_13 : decode cX9_sumOfDisks 13 = .ok (.iload_n 3, 1) := by decide +kernel
theorem dX9_sumOfDisks_14 : decode cX9_sumOfDisks 14 = .ok (.iadd, 1) := by decide +kernel
theorem dX9_sumOfDisks_15 : decode cX9_sumOfDisks 15 = .ok (.invokevirtual 24, 3) := by decide +kernel
theorem dX9_sumOfDisks_18 : decode cX9_sumOfDisks 18 = .ok (.iadd, 1) := by decide +kernel
theorem dX9_sumOfDisks_19 : decode cX9_sumOfDisks 19 = .ok (.istore_n 2, 1) := by decide +kernel
theorem dX9_sumOfDisks_20 : decode cX9_sumOfDisks 20 = .ok (.iinc 3 1, 3) := by decide +kernel
theorem dX9_sumOfDisks_23 : decode cX9_sumOfDisks 23 = .ok (.goto (-19), 3) := by decide +kernel
theorem dX9_sumOfDisks_26 : decode cX9_sumOfDisks 26 = .ok (.iload_n 2, 1) := by decide +kernel
theorem dX9_sumOfDisks_27 : decode cX9_sumOfDisks 27 = .ok (.ireturn, 1) := by decide +kernel
theorem dX9_costEver_0 : decode cX9_costEver 0 = .ok (.aload_n 0, 1) := by decide +kernel
theorem dX9_costEver_1 : decode cX9_costEver 1 = .ok (.bipush 112, 2) := by decide +kernel
theorem dX9_costEver_3 : decode cX9_costEver 3 = .ok (.invokevirtual 28, 3) := by decide +kernel
theorem dX9_costEver_6 : decode cX9_costEver 6 = .ok (.aload_n 0, 1) := by decide +kernel
theorem dX9_costEver_7 : decode cX9_costEver 7 = .ok (.bipush 120, 2) := by decide +kernel
theorem dX9_costEver_9 : decode cX9_costEver 9 = .ok (.invokevirtual 28, 3) := by decide +kernel
theorem dX9_costEver_12 : decode cX9_costEver 12 = .ok (.iadd, 1) := by decide +kernel
theorem dX9_costEver_13 : decode cX9_costEver 13 = .ok (.ireturn, 1) := by decide +kernel
theorem dX9_copy_0 : decode cX9_copy 0 = .ok (.aload_n 1, 1) := by decide +kernel
theorem dX9_copy_1 : decode cX9_copy 1 = .ok (.getfield 11, 3) := by decide +kernel
theorem dX9_copy_4 : decode cX9_copy 4 = .ok (.iconst 0, 1) := by decide +kernel
theorem dX9_copy_5 : decode cX9_copy 5 = .ok (.aload_n 0, 1) := by decide +kernel
theorem dX9_copy_6 : decode cX9_copy 6 = .ok (.getfield 11, 3) := by decide +kernel
theorem dX9_copy_9 : decode cX9_copy 9 = .ok (.iconst 0, 1) := by decide +kernel
theorem dX9_copy_10 : decode cX9_copy 10 = .ok (.sipush 144, 3) := by decide +kernel
theorem dX9_copy_13 : decode cX9_copy 13 = .ok (.invokestatic 31, 3) := by decide +kernel
theorem dX9_copy_16 : decode cX9_copy 16 = .ok (.return_, 1) := by decide +kernel
theorem dX11_isByte_0 : decode cX11_isByte 0 = .ok (.iload_n 0, 1) := by decide +kernel
theorem dX11_isByte_1 : decode cX11_isByte 1 = .ok (.ifCond .lt 14, 3) := by decide +kernel
theorem dX11_isByte_4 : decode cX11_isByte 4 = .ok (.iload_n 0, 1) := by decide +kernel
theorem dX11_isByte_5 : decode cX11_isByte 5 = .ok (.sipush 255, 3) := by decide +kernel
theorem dX11_isByte_8 : decode cX11_isByte 8 = .ok (.if_icmp .gt 7, 3) := by decide +kernel
theorem dX11_isByte_11 : decode cX11_isByte 11 = .ok (.iconst 1, 1) := by decide +kernel
theorem dX11_isByte_12 : decode cX11_isByte 12 = .ok (.goto 4, 3) := by decide +kernel
theorem dX11_isByte_15 : decode cX11_isByte 15 = .ok (.iconst 0, 1) := by decide +kernel
theorem dX11_isByte_16 : decode cX11_isByte 16 = .ok (.ireturn, 1) := by decide +kernel
