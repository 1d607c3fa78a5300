theorem dX8_isThere_0 : decode cX8_isThere 0 = .ok (.iload_n 2, 1) := by decide +kernel
theorem dX8_isThere_1 : decode cX8_isThere 1 = .ok (.aload_n 0, 1) := by decide +kernel
theorem dX8_isThere_2 : decode cX8_isThere 2 = .ok (.getfield 12, 3) := by decide +kernel
theorem dX8_isThere_5 : decode cX8_isThere 5 = .ok (.bipush 104, 2) := by decide +kernel
theorem dX8_isThere_7 : decode cX8_isThere 7 = .ok (.iload_n 1, 1) := by decide +kernel
theorem dX8_isThere_8 : decode cX8_isThere 8 = .ok (.iadd, 1) := by decide +kernel
theorem dX8_isThere_9 : decode cX8_isThere 9 = .ok (.invokevirtual 31, 3) := by decide +kernel
theorem dX8_isThere_12 : decode cX8_isThere 12 = .ok (.if_icmp .ge 7, 3) := by decide +kernel
theorem dX8_isThere_15 : decode cX8_isThere 15 = .ok (.iconst 1, 1) := by decide +kernel
theorem dX8_isThere_16 : decode cX8_isThere 16 = .ok (.goto 4, 3) := by decide +kernel
theorem dX8_isThere_19 : decode cX8_isThere 19 = .ok (.iconst 0, 1) := by decide +kernel
theorem dX8_isThere_20 : decode cX8_isThere 20 = .ok (.ireturn, 1) := by decide +kernel
theorem dX8_missing_0 : decode cX8_missing 0 = .ok (.iconst 0, 1) := by decide +kernel
theorem dX8_missing_1 : decode cX8_missing 1 = .ok (.istore_n 2, 1) := by decide +kernel
theorem dX8_missing_2 : decode cX8_missing 2 = .ok (.iconst 0, 1) := by decide +kernel
theorem dX8_missing_3 : decode cX8_missing 3 = .ok (.istore_n 3, 1) := by decide +kernel
theorem dX8_missing_4 : decode cX8_missing 4 = .ok (.iload_n 3, 1) := by decide +kernel
theorem dX8_missing_5 : decode cX8_missing 5 = .ok (.aload_n 0, 1) := by decide +kernel
theorem dX8_missing_6 : decode cX8_missing 6 = .ok (.getfield 18, 3) := by decide +kernel
theorem dX8_missing_9 : decode cX8_missing 9 = .ok (.getfield 35, 3) := by decide +kernel
theorem dX8_missing_12 : decode cX8_missing 12 = .ok (.if_icmp .ge 32, 3) := by decide +kernel
theorem dX8_missing_15 : decode cX8_missing 15 = .ok (.aload_n 0, 1) := by decide +kernel
theorem dX8_missing_16 : decode cX8_missing 16 = .ok (.aload_n 0, 1) := by decide +kernel
theorem dX8_missing_17 : decode cX8_missing 17 = .ok (.getfield 18, 3) := by decide +kernel
theorem dX8_missing_20 : decode cX8_missing 20 = .ok (.iload_n 3, 1) := by decide +kernel
theorem dX8_missing_21 : decode cX8_missing 21 = .ok (.iload_n 1, 1) := by decide +kernel
theorem dX8_missing_22 : decode cX8_missing 22 = .ok (.invokevirtual 41, 3) := by decide +kernel
theorem dX8_missing_25 : decode cX8_missing 25 = .ok (.iload_n 1, 1) := by decide +kernel
theorem dX8_missing_26 : decode cX8_missing 26 = .ok (.invokevirtual 45, 3) := by decide +kernel
theorem dX8_missing_29 : decode cX8_missing 29 = .ok (.ifCond .ne 9, 3) := by decide +kernel
theorem dX8_missing_32 : decode cX8_missing 32 = .ok (.iload_n 2, 1) := by decide +kernel
theorem dX8_missing_33 : decode cX8_missing 33 = .ok (.iconst 1, 1) := by decide +kernel
theorem dX8_missing_34 : decode cX8_missing 34 = .ok (.iload_n 3, 1) := by decide +kernel
theorem dX8_missing_35 : decode cX8_missing 35 = .ok (.ishl, 1) := by decide +kernel
theorem dX8_missing_36 : decode cX8_missing 36 = .ok (.ior, 1) := by decide +kernel
theorem dX8_missing_37 : decode cX8_missing 37 = .ok (.istore_n 2, 1) := by decide +kernel
theorem dX8_missing_38 : decode cX8_missing 38 = .ok (.iinc 3 1, 3) := by decide +kernel
theorem dX8_missing_41 : decode cX8_missing 41 = .ok (.goto (-37), 3) := by decide +kernel
theorem dX8_missing_44 : decode cX8_missing 44 = .ok (.iload_n 2, 1) := by decide +kernel
theorem dX8_missing_45 : decode cX8_missing 45 = .ok (.ireturn, 1) := by decide +kernel
theorem dX8_writeBits_0 : decode cX8_writeBits 0 = .ok (.iconst 1, 1) := by decide +kernel
theorem dX8_writeBits_1 : decode cX8_writeBits 1 = .ok (.iload_n 2, 1) := by decide +kernel
theorem dX8_writeBits_2 : decode cX8_writeBits 2 = .ok (.ishl, 1) := by decide +kernel
theorem dX8_writeBits_3 : decode cX8_writeBits 3 = .ok (.iconst 1, 1) := by decide +kernel
theorem dX8_writeBits_4 : decode cX8_writeBits 4 = .ok (.aload_n 0, 1) := by decide +kernel
theorem dX8_writeBits_5 : decode cX8_writeBits 5 = .ok (.getfield 18, 3) := by decide +kernel
theorem dX8_writeBits_8 : decode cX8_writeBits 8 = .ok (.getfield 91, 3) := by decide +kernel
theorem dX8_writeBits_11 : decode cX8_writeBits 11 = .ok (.ishl, 1) := by decide +kernel
theorem dX8_writeBits_12 : decode cX8_writeBits 12 = .ok (.ior, 1) := by decide +kernel
theorem dX8_writeBits_13 : decode cX8_writeBits 13 = .ok (.iconst 1, 1) := by decide +kernel
theorem dX8_writeBits_14 : decode cX8_writeBits 14 = .ok (.aload_n 0, 1) := by decide +kernel
theorem dX8_writeBits_15 : decode cX8_writeBits 15 = .ok (.getfield 18, 3) := by decide +kernel
theorem dX8_writeBits_18 : decode cX8_writeBits 18 = .ok (.getfield 94, 3) := by decide +kernel
theorem dX8_writeBits_21 : decode cX8_writeBits 21 = .ok (.ishl, 1) := by decide +kernel
theorem dX8_writeBits_22 : decode cX8_writeBits 22 = .ok (.ior, 1) := by decide +kernel
theorem dX8_writeBits_23 : decode cX8_writeBits 23 = .ok (.iload_n 1, 1) := by decide +kernel
theorem dX8_writeBits_24 : decode cX8_writeBits 24 = .ok (.iconst (-1), 1) := by decide +kernel
theorem dX8_writeBits_25 : decode cX8_writeBits 25 = .ok (.ixor, 1) := by decide +kernel
theorem dX8_writeBits_26 : decode cX8_writeBits 26 = .ok (.iand, 1) := by decide +kernel
theorem dX8_writeBits_27 : decode cX8_writeBits 27 = .ok (.ireturn, 1) := by decide +kernel
theorem dX8_readBits_0 : decode cX8_readBits 0 = .ok (.iload_n 1, 1) := by decide +kernel
theorem dX8_readBits_1 : decode cX8_readBits 1 = .ok (.ifCond .ne 10, 3) := by decide +kernel
theorem dX8_readBits_4 : decode cX8_readBits 4 = .ok (.aload_n 0, 1) := by decide +kernel
theorem dX8_readBits_5 : decode cX8_readBits 5 = .ok (.iload_n 2, 1) := by decide +kernel
theorem dX8_readBits_6 : decode cX8_readBits 6 = .ok (.iload_n 3, 1) := by decide +kernel
theorem dX8_readBits_7 : decode cX8_readBits 7 = .ok (.invokevirtual 85, 3) := by decide +kernel
theorem dX8_readBits_10 : decode cX8_readBits 10 = .ok (.ireturn, 1) := by decide +kernel
theorem dX8_readBits_11 : decode cX8_readBits 11 = .ok (.iload_n 1, 1) := by decide +kernel
theorem dX8_readBits_12 : decode cX8_readBits 12 = .ok (.iconst 1, 1) := by decide +kernel
theorem dX8_readBits_13 : decode cX8_readBits 13 = .ok (.if_icmp .ne 19, 3) := by decide +kernel
theorem dX8_readBits_16 : decode cX8_readBits 16 = .ok (.aload_n 0, 1) := by decide +kernel
theorem dX8_readBits_17 : decode cX8_readBits 17 = .ok (.getfield 18, 3) := by decide +kernel
theorem dX8_readBits_20 : decode cX8_readBits 20 = .ok (.getfield 78, 3) := by decide +kernel
theorem dX8_readBits_23 : decode cX8_readBits 23 = .ok (.iconst 1, 1) := by decide +kernel
theorem dX8_readBits_24 : decode cX8_readBits 24 = .ok (.iload_n 3, 1) := by decide +kernel
theorem dX8_readBits_25 : decode cX8_readBits 25 = .ok (.ishl, 1) := by decide +kernel
theorem dX8_readBits_26 : decode cX8_readBits 26 = .ok (.iconst (-1), 1) := by decide +kernel
theorem dX8_readBits_27 : decode cX8_readBits 27 = .ok (.ixor, 1) := by decide +kernel
theorem dX8_readBits_28 : decode cX8_readBits 28 = .ok (.iand, 1) := by decide +kernel
theorem dX8_readBits_29 : decode cX8_readBits 29 = .ok (.goto 10, 3) := by decide +kernel
theorem dX8_readBits_32 : decode cX8_readBits 32 = .ok (.aload_n 0, 1) := by decide +kernel
theorem dX8_readBits_33 : decode cX8_readBits 33 = .ok (.getfield 18, 3) := by decide +kernel
theorem dX8_readBits_36 : decode cX8_readBits 36 = .ok (.getfield 88, 3) := by decide +kernel
theorem dX8_readBits_39 : decode cX8_readBits 39 = .ok (.istore 4, 2) := by decide +kernel
theorem dX8_readBits_41 : decode cX8_readBits 41 = .ok (.iload 4, 2) := by decide +kernel
theorem dX8_readBits_43 : decode cX8_readBits 43 = .ok (.iload_n 2, 1) := by decide +kernel
theorem dX8_readBits_44 : decode cX8_readBits 44 = .ok (.iconst (-1), 1) := by decide +kernel
theorem dX8_readBits_45 : decode cX8_readBits 45 = .ok (.ixor, 1) := by decide +kernel
theorem dX8_readBits_46 : decode cX8_readBits 46 = .ok (.iand, 1) := by decide +kernel
theorem dX8_readBits_47 : decode cX8_readBits 47 = .ok (.ireturn, 1) := by decide +kernel
theorem dX8_wayOf_0 : decode cX8_wayOf 0 = .ok (.iload_n 1, 1) := by decide +kernel
theorem dX8_wayOf_1 : decode cX8_wayOf 1 = .ok (.iload_n 2, 1) := by decide +kernel
theorem dX8_wayOf_2 : decode cX8_wayOf 2 = .ok (.ishr, 1) := by decide +kernel
theorem dX8_wayOf_3 : decode cX8_wayOf 3 = .ok (.iconst 1, 1) := by decide +kernel
theorem dX8_wayOf_4 : decode cX8_wayOf 4 = .ok (.iand, 1) := by decide +kernel
theorem dX8_wayOf_5 : decode cX8_wayOf 5 = .ok (.ifCond .ne 7, 3) := by decide +kernel
theorem dX8_wayOf_8 : decode cX8_wayOf 8 = .ok (.iconst 1, 1) := by decide +kernel
theorem dX8_wayOf_9 : decode cX8_wayOf 9 = .ok (.goto 4, 3) := by decide +kernel
theorem dX8_wayOf_12 : decode cX8_wayOf 12 = .ok (.iconst 0, 1) := by decide +kernel
theorem dX8_wayOf_13 : decode cX8_wayOf 13 = .ok (.istore_n 3, 1) := by decide +kernel
theorem dX8_wayOf_14 : decode cX8_wayOf 14 = .ok (.iload_n 1, 1) := by decide +kernel
theorem dX8_wayOf_15 : decode cX8_wayOf 15 = .ok (.aload_n 0, 1) := by decide +kernel
theorem dX8_wayOf_16 : decode cX8_wayOf 16 = .ok (.getfield 18, 3) := by decide +kernel
theorem dX8_wayOf_19 : decode cX8_wayOf 19 = .ok (.getfield 78, 3) := by decide +kernel
theorem dX8_wayOf_22 : decode cX8_wayOf 22 = .ok (.iand, 1) := by decide +kernel
theorem dX8_wayOf_23 : decode cX8_wayOf 23 = .ok (.iconst 1, 1) := by decide +kernel
theorem dX8_wayOf_24 : decode cX8_wayOf 24 = .ok (.iload_n 2, 1) := by decide +kernel
theorem dX8_wayOf_25 : decode cX8_wayOf 25 = .ok (.ishl, 1) := by decide +kernel
theorem dX8_wayOf_26 : decode cX8_wayOf 26 = .ok (.iconst (-1), 1) := by decide +kernel
theorem dX8_wayOf_27 : decode cX8_wayOf 27 = .ok (.ixor, 1) := by decide +kernel
theorem dX8_wayOf_28 : decode cX8_wayOf 28 = .ok (.iand, 1) := by decide +kernel
theorem dX8_wayOf_29 : decode cX8_wayOf 29 = .ok (.ifCond .ne 7, 3) := by decide +kernel
theorem dX8_wayOf_32 : decode cX8_wayOf 32 = .ok (.iconst 1, 1) := by decide +kernel
theorem dX8_wayOf_33 : decode cX8_wayOf 33 = .ok (.goto 4, 3) := by decide +kernel
theorem dX8_wayOf_36 : decode cX8_wayOf 36 = .ok (.iconst 0, 1) := by decide +kernel
theorem dX8_wayOf_37 : decode cX8_wayOf 37 = .ok (.istore 4, 2) := by decide +kernel
theorem dX8_wayOf_39 : decode cX8_wayOf 39 = .ok (.iload_n 3, 1) := by decide +kernel
theorem dX8_wayOf_40 : decode cX8_wayOf 40 = .ok (.ifCond .ne 14, 3) := by decide +kernel
theorem dX8_wayOf_43 : decode cX8_wayOf 43 = .ok (.iload 4, 2) := by decide +kernel
theorem dX8_wayOf_45 : decode cX8_wayOf 45 = .ok (.ifCond .eq 7, 3) := by decide +kernel
theorem dX8_wayOf_48 : decode cX8_wayOf 48 = .ok (.iconst 1, 1) := by decide +kernel
theorem dX8_wayOf_49 : decode cX8_wayOf 49 = .ok (.goto 4, 3) := by decide +kernel
theorem dX8_wayOf_52 : decode cX8_wayOf 52 = .ok (.iconst 2, 1) := by decide +kernel
theorem dX8_wayOf_53 : decode cX8_wayOf 53 = .ok (.ireturn, 1) := by decide +kernel
theorem dX8_wayOf_54 : decode cX8_wayOf 54 = .ok (.aload_n 0, 1) := by decide +kernel
theorem dX8_wayOf_55 : decode cX8_wayOf 55 = .ok (.iconst 0, 1) := by decide +kernel
theorem dX8_wayOf_56 : decode cX8_wayOf 56 = .ok (.iload_n 1, 1) := by decide +kernel
theorem dX8_wayOf_57 : decode cX8_wayOf 57 = .ok (.iload_n 2, 1) := by decide +kernel
theorem dX8_wayOf_58 : decode cX8_wayOf 58 = .ok (.invokevirtual 81, 3) := by decide +kernel
theorem dX8_wayOf_61 : decode cX8_wayOf 61 = .ok (.invokestatic 56, 3) := by decide +kernel
theorem dX8_wayOf_64 : decode cX8_wayOf 64 = .ok (.istore 5, 2) := by decide +kernel
theorem dX8_wayOf_66 : decode cX8_wayOf 66 = .ok (.aload_n 0, 1) := by decide +kernel
theorem dX8_wayOf_67 : decode cX8_wayOf 67 = .ok (.iconst 1, 1) := by decide +kernel
theorem dX8_wayOf_68 : decode cX8_wayOf 68 = .ok (.iload_n 1, 1) := by decide +kernel
theorem dX8_wayOf_69 : decode cX8_wayOf 69 = .ok (.iload_n 2, 1) := by decide +kernel
theorem dX8_wayOf_70 : decode cX8_wayOf 70 = .ok (.invokevirtual 81, 3) := by decide +kernel
theorem dX8_wayOf_73 : decode cX8_wayOf 73 = .ok (.invokestatic 56, 3) := by decide +kernel
theorem dX8_wayOf_76 : decode cX8_wayOf 76 = .ok (.istore 6, 2) := by decide +kernel
theorem dX8_wayOf_78 : decode cX8_wayOf 78 = .ok (.iload 4, 2) := by decide +kernel
theorem dX8_wayOf_80 : decode cX8_wayOf 80 = .ok (.ifCond .eq 14, 3) := by decide +kernel
theorem dX8_wayOf_83 : decode cX8_wayOf 83 = .ok (.iload 6, 2) := by decide +kernel
theorem dX8_wayOf_85 : decode cX8_wayOf 85 = .ok (.iload 5, 2) := by decide +kernel
theorem dX8_wayOf_87 : decode cX8_wayOf 87 = .ok (.if_icmp .ge 7, 3) := by decide +kernel
theorem dX8_wayOf_90 : decode cX8_wayOf 90 = .ok (.iconst 1, 1) := by decide +kernel
theorem dX8_wayOf_91 : decode cX8_wayOf 91 = .ok (.goto 4, 3) := by decide +kernel
theorem dX8_wayOf_94 : decode cX8_wayOf 94 = .ok (.iconst 0, 1) := by decide +kernel
theorem dX8_wayOf_95 : decode cX8_wayOf 95 = .ok (.ireturn, 1) := by decide +kernel
theorem dX4_costOf_0 : decode cX4_costOf 0 = .ok (.aload_n 0, 1) := by decide +kernel
theorem dX4_costOf_1 : decode cX4_costOf 1 = .ok (.getfield 21, 3) := by decide +kernel
theorem dX4_costOf_4 : decode cX4_costOf 4 = .ok (.iload_n 1, 1) := by decide +kernel
theorem dX4_costOf_5 : decode cX4_costOf 5 = .ok (.invokevirtual 22, 3) := by decide +kernel
theorem dX4_costOf_8 : decode cX4_costOf 8 = .ok (.istore_n 3, 1) := by decide +kernel
theorem dX4_costOf_9 : decode cX4_costOf 9 = .ok (.aload_n 0, 1) := by decide +kernel
theorem dX4_costOf_10 : decode cX4_costOf 10 = .ok (.getfield 9, 3) := by decide +kernel
theorem dX4_costOf_13 : decode cX4_costOf 13 = .ok (.aload_n 0, 1) := by decide +kernel
theorem dX4_costOf_14 : decode cX4_costOf 14 = .ok (.getfield 21, 3) := by decide +kernel
theorem dX4_costOf_17 : decode cX4_costOf 17 = .ok (.iload_n 1, 1) := by decide +kernel
theorem dX4_costOf_18 : decode cX4_costOf 18 = .ok (.invokevirtual 28, 3) := by decide +kernel
theorem dX4_costOf_21 : decode cX4_costOf 21 = .ok (.invokevirtual 31, 3) := by decide +kernel
theorem dX4_costOf_24 : decode cX4_costOf 24 = .ok (.istore 4, 2) := by decide +kernel
theorem dX4_costOf_26 : decode cX4_costOf 26 = .ok (.aload_n 0, 1) := by decide +kernel
theorem dX4_costOf_27 : decode cX4_costOf 27 = .ok (.getfield 9, 3) := by decide +kernel
theorem dX4_costOf_30 : decode cX4_costOf 30 = .ok (.iload 4, 2) := by decide +kernel
theorem dX4_costOf_32 : decode cX4_costOf 32 = .ok (.iload_n 3, 1) := by decide +kernel
theorem dX4_costOf_33 : decode cX4_costOf 33 = .ok (.invokevirtual 34, 3) := by decide +kernel
theorem dX4_costOf_36 : decode cX4_costOf 36 = .ok (.istore 5, 2) := by decide +kernel
theorem dX4_costOf_38 : decode cX4_costOf 38 = .ok (.iload_n 2, 1) := by decide +kernel
theorem dX4_costOf_39 : decode cX4_costOf 39 = .ok (.tableswitch 58 0 2 #[25, 41, 55], 25) := by decide +kernel
theorem dX4_costOf_64 : decode cX4_costOf 64 = .ok (.aload_n 0, 1) := by decide +kernel
theorem dX4_costOf_65 : decode cX4_costOf 65 = .ok (.getfield 9, 3) := by decide +kernel
theorem dX4_costOf_68 : decode cX4_costOf 68 = .ok (.iload 5, 2) := by decide +kernel
theorem dX4_costOf_70 : decode cX4_costOf 70 = .ok (.iload 4, 2) := by decide +kernel
theorem dX4_costOf_72 : decode cX4_costOf 72 = .ok (.iload_n 3, 1) := by decide +kernel
theorem dX4_costOf_73 : decode cX4_costOf 73 = .ok (.invokevirtual 38, 3) := by decide +kernel
theorem dX4_costOf_76 : decode cX4_costOf 76 = .ok (.invokestatic 42, 3) := by decide +kernel
theorem dX4_costOf_79 : decode cX4_costOf 79 = .ok (.ireturn, 1) := by decide +kernel
theorem dX4_costOf_80 : decode cX4_costOf 80 = .ok (.aload_n 0, 1) := by decide +kernel
theorem dX4_costOf_81 : decode cX4_costOf 81 = .ok (.getfield 9, 3) := by decide +kernel
theorem dX4_costOf_84 : decode cX4_costOf 84 = .ok (.iload 4, 2) := by decide +kernel
theorem dX4_costOf_86 : decode cX4_costOf 86 = .ok (.iload_n 3, 1) := by decide +kernel
theorem dX4_costOf_87 : decode cX4_costOf 87 = .ok (.invokevirtual 47, 3) := by decide +kernel
theorem dX4_costOf_90 : decode cX4_costOf 90 = .ok (.invokestatic 42, 3) := by decide +kernel
theorem dX4_costOf_93 : decode cX4_costOf 93 = .ok (.ireturn, 1) := by decide +kernel
theorem dX4_costOf_94 : decode cX4_costOf 94 = .ok (.iload 5, 2) := by decide +kernel
theorem dX4_costOf_96 : decode cX4_costOf 96 = .ok (.ireturn, 1) := by decide +kernel
theorem dX4_costOf_97 : decode cX4_costOf 97 = .ok (.iconst (-1), 1) := by decide +kernel
theorem dX4_costOf_98 : decode cX4_costOf 98 = .ok (.ireturn, 1) := by decide +kernel
theorem dX4_toldOf_0 : decode cX4_toldOf 0 = .ok (.iconst 1, 1) := by decide +kernel
theorem dX4_toldOf_1 : decode cX4_toldOf 1 = .ok (.aload_n 0, 1) := by decide +kernel
theorem dX4_toldOf_2 : decode cX4_toldOf 2 = .ok (.getfield 21, 3) := by decide +kernel
theorem dX4_toldOf_5 : decode cX4_toldOf 5 = .ok (.iload 4, 2) := by decide +kernel
theorem dX4_toldOf_7 : decode cX4_toldOf 7 = .ok (.iload_n 2, 1) := by decide +kernel
theorem dX4_toldOf_8 : decode cX4_toldOf 8 = .ok (.invokevirtual 50, 3) := by decide +kernel
theorem dX4_toldOf_11 : decode cX4_toldOf 11 = .ok (.ishl, 1) := by decide +kernel
theorem dX4_toldOf_12 : decode cX4_toldOf 12 = .ok (.iconst 1, 1) := by decide +kernel
theorem dX4_toldOf_13 : decode cX4_toldOf 13 = .ok (.aload_n 0, 1) := by decide +kernel
theorem dX4_toldOf_14 : decode cX4_toldOf 14 = .ok (.getfield 21, 3) := by decide +kernel
theorem dX4_toldOf_17 : decode cX4_toldOf 17 = .ok (.iload 5, 2) := by decide +kernel
theorem dX4_toldOf_19 : decode cX4_toldOf 19 = .ok (.iload_n 2, 1) := by decide +kernel
theorem dX4_toldOf_20 : decode cX4_toldOf 20 = .ok (.invokevirtual 50, 3) := by decide +kernel
theorem dX4_toldOf_23 : decode cX4_toldOf 23 = .ok (.ishl, 1) := by decide +kernel
theorem dX4_toldOf_24 : decode cX4_toldOf 24 = .ok (.ior, 1) := by decide +kernel
theorem dX4_toldOf_25 : decode cX4_toldOf 25 = .ok (.istore 6, 2) := by decide +kernel
theorem dX4_toldOf_27 : decode cX4_toldOf 27 = .ok (.aload_n 0, 1) := by decide +kernel
theorem dX4_toldOf_28 : decode cX4_toldOf 28 = .ok (.getfield 9, 3) := by decide +kernel
theorem dX4_toldOf_31 : decode cX4_toldOf 31 = .ok (.iload_n 2, 1) := by decide +kernel
theorem dX4_toldOf_32 : decode cX4_toldOf 32 = .ok (.invokevirtual 31, 3) := by decide +kernel
theorem dX4_toldOf_35 : decode cX4_toldOf 35 = .ok (.iload 6, 2) := by decide +kernel
theorem dX4_toldOf_37 : decode cX4_toldOf 37 = .ok (.iconst (-1), 1) := by decide +kernel
theorem dX4_toldOf_38 : decode cX4_toldOf 38 = .ok (.ixor, 1) := by decide +kernel
theorem dX4_toldOf_39 : decode cX4_toldOf 39 = .ok (.iand, 1) := by decide +kernel
theorem dX4_toldOf_40 : decode cX4_toldOf 40 = .ok (.ifCond .eq 6, 3) := by decide +kernel
theorem dX4_toldOf_43 : decode cX4_toldOf 43 = .ok (.ldc 53, 2) := by decide +kernel
theorem dX4_toldOf_45 : decode cX4_toldOf 45 = .ok (.ireturn, 1) := by decide +kernel
theorem dX4_toldOf_46 : decode cX4_toldOf 46 = .ok (.aload_n 0, 1) := by decide +kernel
theorem dX4_toldOf_47 : decode cX4_toldOf 47 = .ok (.getfield 9, 3) := by decide +kernel
theorem dX4_toldOf_50 : decode cX4_toldOf 50 = .ok (.getfield 54, 3) := by decide +kernel
theorem dX4_toldOf_53 : decode cX4_toldOf 53 = .ok (.aload_n 0, 1) := by decide +kernel
theorem dX4_toldOf_54 : decode cX4_toldOf 54 = .ok (.getfield 9, 3) := by decide +kernel
theorem dX4_toldOf_57 : decode cX4_toldOf 57 = .ok (.getfield 58, 3) := by decide +kernel
theorem dX4_toldOf_60 : decode cX4_toldOf 60 = .ok (.iload_n 2, 1) := by decide +kernel
theorem dX4_toldOf_61 : decode cX4_toldOf 61 = .ok (.iload_n 3, 1) := by decide +kernel
theorem dX4_toldOf_62 : decode cX4_toldOf 62 = .ok (.iload 6, 2) := by decide +kernel
theorem dX4_toldOf_64 : decode cX4_toldOf 64 = .ok (.invokevirtual 62, 3) := by decide +kernel
theorem dX4_toldOf_67 : decode cX4_toldOf 67 = .ok (.aload_n 0, 1) := by decide +kernel
theorem dX4_toldOf_68 : decode cX4_toldOf 68 = .ok (.getfield 9, 3) := by decide +kernel
theorem dX4_toldOf_71 : decode cX4_toldOf 71 = .ok (.getfield 54, 3) := by decide +kernel
theorem dX4_toldOf_74 : decode cX4_toldOf 74 = .ok (.aload_n 0, 1) := by decide +kernel
theorem dX4_toldOf_75 : decode cX4_toldOf 75 = .ok (.getfield 21, 3) := by decide +kernel
theorem dX4_toldOf_78 : decode cX4_toldOf 78 = .ok (.iload_n 1, 1) := by decide +kernel
theorem dX4_toldOf_79 : decode cX4_toldOf 79 = .ok (.iload_n 2, 1) := by decide +kernel
theorem dX4_toldOf_80 : decode cX4_toldOf 80 = .ok (.invokevirtual 50, 3) := by decide +kernel
theorem dX4_toldOf_83 : decode cX4_toldOf 83 = .ok (.invokevirtual 68, 3) := by decide +kernel
theorem dX4_toldOf_86 : decode cX4_toldOf 86 = .ok (.ireturn, 1) := by decide +kernel
theorem dX8_isDirty_0 : decode cX8_isDirty 0 = .ok (.aload_n 0, 1) := by decide +kernel
theorem dX8_isDirty_1 : decode cX8_isDirty 1 = .ok (.getfield 12, 3) := by decide +kernel
theorem dX8_isDirty_4 : decode cX8_isDirty 4 = .ok (.sipush 140, 3) := by decide +kernel
theorem dX8_isDirty_7 : decode cX8_isDirty 7 = .ok (.invokevirtual 31, 3) := by decide +kernel
theorem dX8_isDirty_10 : decode cX8_isDirty 10 = .ok (.iload_n 1, 1) := by decide +kernel
theorem dX8_isDirty_11 : decode cX8_isDirty 11 = .ok (.ishr, 1) := by decide +kernel
theorem dX8_isDirty_12 : decode cX8_isDirty 12 = .ok (.iconst 1, 1) := by decide +kernel
theorem dX8_isDirty_13 : decode cX8_isDirty 13 = .ok (.iand, 1) := by decide +kernel
theorem dX8_isDirty_14 : decode cX8_isDirty 14 = .ok (.ifCond .eq 7, 3) := by decide +kernel
theorem dX8_isDirty_17 : decode cX8_isDirty 17 = .ok (.iconst 1, 1) := by decide +kernel
theorem dX8_isDirty_18 : decode cX8_isDirty 18 = .ok (.goto 4, 3) := by decide +kernel
theorem dX8_isDirty_21 : decode cX8_isDirty 21 = .ok (.iconst 0, 1) := by decide +kernel
theorem dX8_isDirty_22 : decode cX8_isDirty 22 = .ok (.ireturn, 1) := by decide +kernel
theorem dX4_wrongDisk_0 : decode cX4_wrongDisk 0 = .ok (.aload_n 0, 1) := by decide +kernel
theorem dX4_wrongDisk_1 : decode cX4_wrongDisk 1 = .ok (.getfield 9, 3) := by decide +kernel
theorem dX4_wrongDisk_4 : decode cX4_wrongDisk 4 = .ok (.iload_n 1, 1) := by decide +kernel
theorem dX4_wrongDisk_5 : decode cX4_wrongDisk 5 = .ok (.invokevirtual 31, 3) := by decide +kernel
theorem dX4_wrongDisk_8 : decode cX4_wrongDisk 8 = .ok (.ifCond .ne 14, 3) := by decide +kernel
theorem dX4_wrongDisk_11 : decode cX4_wrongDisk 11 = .ok (.aload_n 0, 1) := by decide +kernel
theorem dX4_wrongDisk_12 : decode cX4_wrongDisk 12 = .ok (.getfield 9, 3) := by decide +kernel
theorem dX4_wrongDisk_15 : decode cX4_wrongDisk 15 = .ok (.iload_n 1, 1) := by decide +kernel
theorem dX4_wrongDisk_16 : decode cX4_wrongDisk 16 = .ok (.invokevirtual 71, 3) := by decide +kernel
theorem dX4_wrongDisk_19 : decode cX4_wrongDisk 19 = .ok (.ifCond .eq 6, 3) := by decide +kernel
theorem dX4_wrongDisk_22 : decode cX4_wrongDisk 22 = .ok (.ldc 53, 2) := by decide +kernel
theorem dX4_wrongDisk_24 : decode cX4_wrongDisk 24 = .ok (.ireturn, 1) := by decide +kernel
theorem dX4_wrongDisk_25 : decode cX4_wrongDisk 25 = .ok (.aload_n 0, 1) := by decide +kernel
theorem dX4_wrongDisk_26 : decode cX4_wrongDisk 26 = .ok (.getfield 9, 3) := by decide +kernel
theorem dX4_wrongDisk_29 : decode cX4_wrongDisk 29 = .ok (.getfield 54, 3) := by decide +kernel
theorem dX4_wrongDisk_32 : decode cX4_wrongDisk 32 = .ok (.aload_n 0, 1) := by decide +kernel
theorem dX4_wrongDisk_33 : decode cX4_wrongDisk 33 = .ok (.getfield 9, 3) := by decide +kernel
theorem dX4_wrongDisk_36 : decode cX4_wrongDisk 36 = .ok (.getfield 58, 3) := by decide +kernel
theorem dX4_wrongDisk_39 : decode cX4_wrongDisk 39 = .ok (.iload_n 1, 1) := by decide +kernel
theorem dX4_wrongDisk_40 : decode cX4_wrongDisk 40 = .ok (.iload_n 2, 1) := by decide +kernel
theorem dX4_wrongDisk_41 : decode cX4_wrongDisk 41 = .ok (.iconst 0, 1) := by decide +kernel
theorem dX4_wrongDisk_42 : decode cX4_wrongDisk 42 = .ok (.invokevirtual 75, 3) := by decide +kernel
theorem dX4_wrongDisk_45 : decode cX4_wrongDisk 45 = .ok (.aload_n 0, 1) := by decide +kernel
theorem dX4_wrongDisk_46 : decode cX4_wrongDisk 46 = .ok (.getfield 9, 3) := by decide +kernel
theorem dX4_wrongDisk_49 : decode cX4_wrongDisk 49 = .ok (.getfield 54, 3) := by decide +kernel
theorem dX4_wrongDisk_52 : decode cX4_wrongDisk 52 = .ok (.invokevirtual 78, 3) := by decide +kernel
theorem dX4_wrongDisk_55 : decode cX4_wrongDisk 55 = .ok (.istore_n 3, 1) := by decide +kernel
theorem dX4_wrongDisk_56 : decode cX4_wrongDisk 56 = .ok (.iload_n 3, 1) := by decide +kernel
theorem dX4_wrongDisk_57 : decode cX4_wrongDisk 57 = .ok (.ifCond .ge 7, 3) := by decide +kernel
theorem dX4_wrongDisk_60 : decode cX4_wrongDisk 60 = .ok (.iload_n 3, 1) := by decide +kernel
theorem dX4_wrongDisk_61 : decode cX4_wrongDisk 61 = .ok (.goto 12, 3) := by decide +kernel
theorem dX4_wrongDisk_64 : decode cX4_wrongDisk 64 = .ok (.aload_n 0, 1) := by decide +kernel
theorem dX4_wrongDisk_65 : decode cX4_wrongDisk 65 = .ok (.getfield 21, 3) := by decide +kernel
theorem dX4_wrongDisk_68 : decode cX4_wrongDisk 68 = .ok (.iload_n 3, 1) := by decide +kernel
theorem dX4_wrongDisk_69 : decode cX4_wrongDisk 69 = .ok (.iload_n 1, 1) := by decide +kernel
theorem dX4_wrongDisk_70 : decode cX4_wrongDisk 70 = .ok (.invokevirtual 82, 3) := by decide +kernel
theorem dX4_wrongDisk_73 : decode cX4_wrongDisk 73 = .ok (.ireturn, 1) := by decide +kernel
theorem dX8_stands_0 : decode cX8_stands 0 = .ok (.aload_n 0, 1) := by decide +kernel
theorem dX8_stands_1 : decode cX8_stands 1 = .ok (.getfield 12, 3) := by decide +kernel
theorem dX8_stands_4 : decode cX8_stands 4 = .ok (.bipush 96, 2) := by decide +kernel
theorem dX8_stands_6 : decode cX8_stands 6 = .ok (.iload_n 1, 1) := by decide +kernel
theorem dX8_stands_7 : decode cX8_stands 7 = .ok (.iadd, 1) := by decide +kernel
theorem dX8_stands_8 : decode cX8_stands 8 = .ok (.invokevirtual 31, 3) := by decide +kernel
theorem dX8_stands_11 : decode cX8_stands 11 = .ok (.iload_n 2, 1) := by decide +kernel
theorem dX8_stands_12 : decode cX8_stands 12 = .ok (.if_icmp .ne 7, 3) := by decide +kernel
theorem dX8_stands_15 : decode cX8_stands 15 = .ok (.iconst 1, 1) := by decide +kernel
theorem dX8_stands_16 : decode cX8_stands 16 = .ok (.goto 4, 3) := by decide +kernel
theorem dX8_stands_19 : decode cX8_stands 19 = .ok (.iconst 0, 1) := by decide +kernel
theorem dX8_stands_20 : decode cX8_stands 20 = .ok (.ireturn, 1) := by decide +kernel
theorem dX8_notWhole_0 : decode cX8_notWhole 0 = .ok (.iconst 0, 1) := by decide +kernel
theorem dX8_notWhole_1 : decode cX8_notWhole 1 = .ok (.istore_n 1, 1) := by decide +kernel
theorem dX8_notWhole_2 : decode cX8_notWhole 2 = .ok (.iconst 0, 1) := by decide +kernel
theorem dX8_notWhole_3 : decode cX8_notWhole 3 = .ok (.istore_n 2, 1) := by decide +kernel
theorem dX8_notWhole_4 : decode cX8_notWhole 4 = .ok (.iload_n 2, 1) := by decide +kernel
theorem dX8_notWhole_5 : decode cX8_notWhole 5 = .ok (.aload_n 0, 1) := by decide +kernel
theorem dX8_notWhole_6 : decode cX8_notWhole 6 = .ok (.getfield 18, 3) := by decide +kernel
theorem dX8_notWhole_9 : decode cX8_notWhole 9 = .ok (.getfield 35, 3) := by decide +kernel
theorem dX8_notWhole_12 : decode cX8_notWhole 12 = .ok (.if_icmp .ge 29, 3) := by decide +kernel
theorem dX8_notWhole_15 : decode cX8_notWhole 15 = .ok (.aload_n 0, 1) := by decide +kernel
theorem dX8_notWhole_16 : decode cX8_notWhole 16 = .ok (.getfield 12, 3) := by decide +kernel
theorem dX8_notWhole_19 : decode cX8_notWhole 19 = .ok (.bipush 96, 2) := by decide +kernel
theorem dX8_notWhole_21 : decode cX8_notWhole 21 = .ok (.iload_n 2, 1) := by decide +kernel
theorem dX8_notWhole_22 : decode cX8_notWhole 22 = .ok (.iadd, 1) := by decide +kernel
theorem dX8_notWhole_23 : decode cX8_notWhole 23 = .ok (.invokevirtual 31, 3) := by decide +kernel
theorem dX8_notWhole_26 : decode cX8_notWhole 26 = .ok (.ifCond .eq 9, 3) := by decide +kernel
theorem dX8_notWhole_29 : decode cX8_notWhole 29 = .ok (.iload_n 1, 1) := by decide +kernel
theorem dX8_notWhole_30 : decode cX8_notWhole 30 = .ok (.iconst 1, 1) := by decide +kernel
theorem dX8_notWhole_31 : decode cX8_notWhole 31 = .ok (.iload_n 2, 1) := by decide +kernel
theorem dX8_notWhole_32 : decode cX8_notWhole 32 = .ok (.ishl, 1) := by decide +kernel
theorem dX8_notWhole_33 : decode cX8_notWhole 33 = .ok (.ior, 1) := by decide +kernel
theorem dX8_notWhole_34 : decode cX8_notWhole 34 = .ok (.istore_n 1, 1) := by decide +kernel
theorem dX8_notWhole_35 : decode cX8_notWhole 35 = .ok (.iinc 2 1, 3) := by decide +kernel
theorem dX8_notWhole_38 : decode cX8_notWhole 38 = .ok (.goto (-34), 3) := by decide +kernel
theorem dX8_notWhole_41 : decode cX8_notWhole 41 = .ok (.iload_n 1, 1) := by decide +kernel
theorem dX8_notWhole_42 : decode cX8_notWhole 42 = .ok (.ireturn, 1) := by decide +kernel
theorem dX8_canLose_0 : decode cX8_canLose 0 = .ok (.aload_n 0, 1) := by decide +kernel
theorem dX8_canLose_1 : decode cX8_canLose 1 = .ok (.iload_n 1, 1) := by decide +kernel
theorem dX8_canLose_2 : decode cX8_canLose 2 = .ok (.iconst 1, 1) := by decide +kernel
theorem dX8_canLose_3 : decode cX8_canLose 3 = .ok (.invokevirtual 49, 3) := by decide +kernel
theorem dX8_canLose_6 : decode cX8_canLose 6 = .ok (.ifCond .eq 5, 3) := by decide +kernel
theorem dX8_canLose_9 : decode cX8_canLose 9 = .ok (.iconst 0, 1) := by decide +kernel
theorem dX8_canLose_10 : decode cX8_canLose 10 = .ok (.ireturn, 1) := by decide +kernel
theorem dX8_canLose_11 : decode cX8_canLose 11 = .ok (.aload_n 0, 1) := by decide +kernel
theorem dX8_canLose_12 : decode cX8_canLose 12 = .ok (.iload_n 1, 1) := by decide +kernel
theorem dX8_canLose_13 : decode cX8_canLose 13 = .ok (.iconst 0, 1) := by decide +kernel
theorem dX8_canLose_14 : decode cX8_canLose 14 = .ok (.invokevirtual 49, 3) := by decide +kernel
theorem dX8_canLose_17 : decode cX8_canLose 17 = .ok (.ifCond .eq 14, 3) := by decide +kernel
theorem dX8_canLose_20 : decode cX8_canLose 20 = .ok (.aload_n 0, 1) := by decide +kernel
theorem dX8_canLose_21 : decode cX8_canLose 21 = .ok (.invokevirtual 52, 3) := by decide +kernel
theorem dX8_canLose_24 : decode cX8_canLose 24 = .ok (.invokestatic 56, 3) := by decide +kernel
theorem dX8_canLose_27 : decode cX8_canLose 27 = .ok (.iconst 2, 1) := by decide +kernel
theorem dX8_canLose_28 : decode cX8_canLose 28 = .ok (.if_icmp .ge 7, 3) := by decide +kernel
theorem dX8_canLose_31 : decode cX8_canLose 31 = .ok (.iconst 1, 1) := by decide +kernel
theorem dX8_canLose_32 : decode cX8_canLose 32 = .ok (.goto 4, 3) := by decide +kernel
theorem dX8_canLose_35 : decode cX8_canLose 35 = .ok (.iconst 0, 1) := by decide +kernel
theorem dX8_canLose_36 : decode cX8_canLose 36 = .ok (.ireturn, 1) := by decide +kernel
theorem dX4_losable_0 : decode cX4_losable 0 = .ok (.iconst 0, 1) := by decide +kernel
theorem dX4_losable_1 : decode cX4_losable 1 = .ok (.istore_n 1, 1) := by decide +kernel
theorem dX4_losable_2 : decode cX4_losable 2 = .ok (.iconst 0, 1) := by decide +kernel
theorem dX4_losable_3 : decode cX4_losable 3 = .ok (.istore_n 2, 1) := by decide +kernel
theorem dX4_losable_4 : decode cX4_losable 4 = .ok (.iload_n 2, 1) := by decide +kernel
theorem dX4_losable_5 : decode cX4_losable 5 = .ok (.aload_n 0, 1) := by decide +kernel
theorem dX4_losable_6 : decode cX4_losable 6 = .ok (.getfield 21, 3) := by decide +kernel
theorem dX4_losable_9 : decode cX4_losable 9 = .ok (.getfield 85, 3) := by decide +kernel
theorem dX4_losable_12 : decode cX4_losable 12 = .ok (.if_icmp .ge 26, 3) := by decide +kernel
theorem dX4_losable_15 : decode cX4_losable 15 = .ok (.aload_n 0, 1) := by decide +kernel
theorem dX4_losable_16 : decode cX4_losable 16 = .ok (.getfield 9, 3) := by decide +kernel
theorem dX4_losable_19 : decode cX4_losable 19 = .ok (.iload_n 2, 1) := by decide +kernel
theorem dX4_losable_20 : decode cX4_losable 20 = .ok (.invokevirtual 89, 3) := by decide +kernel
theorem dX4_losable_23 : decode cX4_losable 23 = .ok (.ifCond .eq 9, 3) := by decide +kernel
theorem dX4_losable_26 : decode cX4_losable 26 = .ok (.iload_n 1, 1) := by decide +kernel
theorem dX4_losable_27 : decode cX4_losable 27 = .ok (.iconst 1, 1) := by decide +kernel
theorem dX4_losable_28 : decode cX4_losable 28 = .ok (.iload_n 2, 1) := by decide +kernel
theorem dX4_losable_29 : decode cX4_losable 29 = .ok (.ishl, 1) := by decide +kernel
theorem dX4_losable_30 : decode cX4_losable 30 = .ok (.ior, 1) := by decide +kernel
theorem dX4_losable_31 : decode cX4_losable 31 = .ok (.istore_n 1, 1) := by decide +kernel
theorem dX4_losable_32 : decode cX4_losable 32 = .ok (.iinc 2 1, 3) := by decide +kernel
theorem dX4_losable_35 : decode cX4_losable 35 = .ok (.goto (-31), 3) := by decide +kernel
theorem dX4_losable_38 : decode cX4_losable 38 = .ok (.iload_n 1, 1) := by decide +kernel
theorem dX4_losable_39 : decode cX4_losable 39 = .ok (.ireturn, 1) := by decide +kernel
theorem dX4_losableCouples_0 : decode cX4_losableCouples 0 = .ok (.iconst 0, 1) := by decide +kernel
theorem dX4_losableCouples_1 : decode cX4_losableCouples 1 = .ok (.istore_n 1, 1) := by decide +kernel
theorem dX4_losableCouples_2 : decode cX4_losableCouples 2 = .ok (.aload_n 0, 1) := by decide +kernel
theorem dX4_losableCouples_3 : decode cX4_losableCouples 3 = .ok (.getfield 9, 3) := by decide +kernel
theorem dX4_losableCouples_6 : decode cX4_losableCouples 6 = .ok (.invokevirtual 92, 3) := by decide +kernel
theorem dX4_losableCouples_9 : decode cX4_losableCouples 9 = .ok (.istore_n 2, 1) := by decide +kernel
theorem dX4_losableCouples_10 : decode cX4_losableCouples 10 = .ok (.iconst 0, 1) := by decide +kernel
theorem dX4_losableCouples_11 : decode cX4_losableCouples 11 = .ok (.istore_n 3, 1) := by decide +kernel
theorem dX4_losableCouples_12 : decode cX4_losableCouples 12 = .ok (.iload_n 3, 1) := by decide +kernel
theorem dX4_losableCouples_13 : decode cX4_losableCouples 13 = .ok (.aload_n 0, 1) := by decide +kernel
theorem dX4_losableCouples_14 : decode cX4_losableCouples 14 = .ok (.getfield 21, 3) := by decide +kernel
theorem dX4_losableCouples_17 : decode cX4_losableCouples 17 = .ok (.getfield 85, 3) := by decide +kernel
theorem dX4_losableCouples_20 : decode cX4_losableCouples 20 = .ok (.if_icmp .ge 89, 3) := by decide +kernel
theorem dX4_losableCouples_23 : decode cX4_losableCouples 23 = .ok (.iload_n 3, 1) := by decide +kernel
theorem dX4_losableCouples_24 : decode cX4_losableCouples 24 = .ok (.iconst 1, 1) := by decide +kernel
theorem dX4_losableCouples_25 : decode cX4_losableCouples 25 = .ok (.iadd, 1) := by decide +kernel
theorem dX4_losableCouples_26 : decode cX4_losableCouples 26 = .ok (.istore 4, 2) := by decide +kernel
theorem dX4_losableCouples_28 : decode cX4_losableCouples 28 = .ok (.iload 4, 2) := by decide +kernel
theorem dX4_losableCouples_30 : decode cX4_losableCouples 30 = .ok (.aload_n 0, 1) := by decide +kernel
theorem dX4_losableCouples_31 : decode cX4_losableCouples 31 = .ok (.getfield 21, 3) := by decide +kernel
theorem dX4_losableCouples_34 : decode cX4_losableCouples 34 = .ok (.getfield 85, 3) := by decide +kernel
theorem dX4_losableCouples_37 : decode cX4_losableCouples 37 = .ok (.if_icmp .ge 66, 3) := by decide +kernel
theorem dX4_losableCouples_40 : decode cX4_losableCouples 40 = .ok (.aload_n 0, 1) := by decide +kernel
theorem dX4_losableCouples_41 : decode cX4_losableCouples 41 = .ok (.getfield 9, 3) := by decide +kernel
theorem dX4_losableCouples_44 : decode cX4_losableCouples 44 = .ok (.iload_n 3, 1) := by decide +kernel
theorem dX4_losableCouples_45 : decode cX4_losableCouples 45 = .ok (.iconst 1, 1) := by decide +kernel
theorem dX4_losableCouples_46 : decode cX4_losableCouples 46 = .ok (.invokevirtual 97, 3) := by decide +kernel
theorem dX4_losableCouples_49 : decode cX4_losableCouples 49 = .ok (.ifCond .ne 16, 3) := by decide +kernel
theorem dX4_losableCouples_52 : decode cX4_losableCouples 52 = .ok (.aload_n 0, 1) := by decide +kernel
theorem dX4_losableCouples_53 : decode cX4_losableCouples 53 = .ok (.getfield 9, 3) := by decide +kernel
theorem dX4_losableCouples_56 : decode cX4_losableCouples 56 = .ok (.iload 4, 2) := by decide +kernel
theorem dX4_losableCouples_58 : decode cX4_losableCouples 58 = .ok (.iconst 1, 1) := by decide +kernel
theorem dX4_losableCouples_59 : decode cX4_losableCouples 59 = .ok (.invokevirtual 97, 3) := by decide +kernel
theorem dX4_losableCouples_62 : decode cX4_losableCouples 62 = .ok (.ifCond .eq 7, 3) := by decide +kernel
theorem dX4_losableCouples_65 : decode cX4_losableCouples 65 = .ok (.iconst 1, 1) := by decide +kernel
theorem dX4_losableCouples_66 : decode cX4_losableCouples 66 = .ok (.goto 4, 3) := by decide +kernel
theorem dX4_losableCouples_69 : decode cX4_losableCouples 69 = .ok (.iconst 0, 1) := by decide +kernel
theorem dX4_losableCouples_70 : decode cX4_losableCouples 70 = .ok (.istore 5, 2) := by decide +kernel
theorem dX4_losableCouples_72 : decode cX4_losableCouples 72 = .ok (.iload 5, 2) := by decide +kernel
theorem dX4_losableCouples_74 : decode cX4_losableCouples 74 = .ok (.ifCond .ne 23, 3) := by decide +kernel
theorem dX4_losableCouples_77 : decode cX4_losableCouples 77 = .ok (.iload_n 2, 1) := by decide +kernel
theorem dX4_losableCouples_78 : decode cX4_losableCouples 78 = .ok (.iconst 1, 1) := by decide +kernel
theorem dX4_losableCouples_79 : decode cX4_losableCouples 79 = .ok (.iload_n 3, 1) := by decide +kernel
theorem dX4_losableCouples_80 : decode cX4_losableCouples 80 = .ok (.ishl, 1) := by decide +kernel
theorem dX4_losableCouples_81 : decode cX4_losableCouples 81 = .ok (.ior, 1) := by decide +kernel
theorem dX4_losableCouples_82 : decode cX4_losableCouples 82 = .ok (.iconst 1, 1) := by decide +kernel
theorem dX4_losableCouples_83 : decode cX4_losableCouples 83 = .ok (.iload 4, 2) := by decide +kernel
theorem dX4_losableCouples_85 : decode cX4_losableCouples 85 = .ok (.ishl, 1) := by decide +kernel
theorem dX4_losableCouples_86 : decode cX4_losableCouples 86 = .ok (.ior, 1) := by decide +kernel
theorem dX4_losableCouples_87 : decode cX4_losableCouples 87 = .ok (.invokestatic 42, 3) := by decide +kernel
theorem dX4_losableCouples_90 : decode cX4_losableCouples 90 = .ok (.iconst 2, 1) := by decide +kernel
theorem dX4_losableCouples_91 : decode cX4_losableCouples 91 = .ok (.if_icmp .gt 6, 3) := by decide +kernel
theorem dX4_losableCouples_94 : decode cX4_losableCouples 94 = .ok (.iinc 1 1, 3) := by decide +kernel
theorem dX4_losableCouples_97 : decode cX4_losableCouples 97 = .ok (.iinc 4 1, 3) := by decide +kernel
theorem dX4_losableCouples_100 : decode cX4_losableCouples 100 = .ok (.goto (-72), 3) := by decide +kernel
theorem dX4_losableCouples_103 : decode cX4_losableCouples 103 = .ok (.iinc 3 1, 3) := by decide +kernel
theorem dX4_losableCouples_106 : decode cX4_losableCouples 106 = .ok (.goto (-94), 3) := by decide +kernel
theorem dX4_losableCouples_109 : decode cX4_losableCouples 109 = .ok (.iload_n 1, 1) := by decide +kernel
theorem dX4_losableCouples_110 : decode cX4_losableCouples 110 = .ok (.ireturn, 1) := by decide +kernel
theorem dX4_stripesLeftOf_0 : decode cX4_stripesLeftOf 0 = .ok (.aload_n 0, 1) := by decide +kernel
theorem dX4_stripesLeftOf_1 : decode cX4_stripesLeftOf 1 = .ok (.getfield 21, 3) := by decide +kernel
theorem dX4_stripesLeftOf_4 : decode cX4_stripesLeftOf 4 = .ok (.getfield 101, 3) := by decide +kernel
theorem dX4_stripesLeftOf_7 : decode cX4_stripesLeftOf 7 = .ok (.aload_n 0, 1) := by decide +kernel
theorem dX4_stripesLeftOf_8 : decode cX4_stripesLeftOf 8 = .ok (.getfield 9, 3) := by decide +kernel
theorem dX4_stripesLeftOf_11 : decode cX4_stripesLeftOf 11 = .ok (.getfield 58, 3) := by decide +kernel
theorem dX4_stripesLeftOf_14 : decode cX4_stripesLeftOf 14 = .ok (.bipush 104, 2) := by decide +kernel
theorem dX4_stripesLeftOf_16 : decode cX4_stripesLeftOf 16 = .ok (.iload_n 1, 1) := by decide +kernel
theorem dX4_stripesLeftOf_17 : decode cX4_stripesLeftOf 17 = .ok (.iadd, 1) := by decide +kernel
theorem dX4_stripesLeftOf_18 : decode cX4_stripesLeftOf 18 = .ok (.invokevirtual 104, 3) := by decide +kernel
theorem dX4_stripesLeftOf_21 : decode cX4_stripesLeftOf 21 = .ok (.isub, 1) := by decide +kernel
theorem dX4_stripesLeftOf_22 : decode cX4_stripesLeftOf 22 = .ok (.ireturn, 1) := by decide +kernel
theorem dX4_stripesLeft_0 : decode cX4_stripesLeft 0 = .ok (.iconst 0, 1) := by decide +kernel
theorem dX4_stripesLeft_1 : decode cX4_stripesLeft 1 = .ok (.istore_n 1, 1) := by decide +kernel
theorem dX4_stripesLeft_2 : decode cX4_stripesLeft 2 = .ok (.iconst 0, 1) := by decide +kernel
theorem dX4_stripesLeft_3 : decode cX4_stripesLeft 3 = .ok (.istore_n 2, 1) := by decide +kernel
theorem dX4_stripesLeft_4 : decode cX4_stripesLeft 4 = .ok (.iload_n 2, 1) := by decide +kernel
theorem dX4_stripesLeft_5 : decode cX4_stripesLeft 5 = .ok (.aload_n 0, 1) := by decide +kernel
theorem dX4_stripesLeft_6 : decode cX4_stripesLeft 6 = .ok (.getfield 21, 3) := by decide +kernel
theorem dX4_stripesLeft_9 : decode cX4_stripesLeft 9 = .ok (.getfield 85, 3) := by decide +kernel
theorem dX4_stripesLeft_12 : decode cX4_stripesLeft 12 = .ok (.if_icmp .ge 29, 3) := by decide +kernel
theorem dX4_stripesLeft_15 : decode cX4_stripesLeft 15 = .ok (.aload_n 0, 1) := by decide +kernel
theorem dX4_stripesLeft_16 : decode cX4_stripesLeft 16 = .ok (.getfield 9, 3) := by decide +kernel
theorem dX4_stripesLeft_19 : decode cX4_stripesLeft 19 = .ok (.iload_n 2, 1) := by decide +kernel
theorem dX4_stripesLeft_20 : decode cX4_stripesLeft 20 = .ok (.iconst 2, 1) := by decide +kernel
theorem dX4_stripesLeft_21 : decode cX4_stripesLeft 21 = .ok (.invokevirtual 97, 3) := by decide +kernel
theorem dX4_stripesLeft_24 : decode cX4_stripesLeft 24 = .ok (.ifCond .eq 11, 3) := by decide +kernel
theorem dX4_stripesLeft_27 : decode cX4_stripesLeft 27 = .ok (.iload_n 1, 1) := by decide +kernel
theorem dX4_stripesLeft_28 : decode cX4_stripesLeft 28 = .ok (.aload_n 0, 1) := by decide +kernel
theorem dX4_stripesLeft_29 : decode cX4_stripesLeft 29 = .ok (.iload_n 2, 1) := by decide +kernel
theorem dX4_stripesLeft_30 : decode cX4_stripesLeft 30 = .ok (.invokevirtual 105, 3) := by decide +kernel
theorem dX4_stripesLeft_33 : decode cX4_stripesLeft 33 = .ok (.iadd, 1) := by decide +kernel
theorem dX4_stripesLeft_34 : decode cX4_stripesLeft 34 = .ok (.istore_n 1, 1) := by decide +kernel
theorem dX4_stripesLeft_35 : decode cX4_stripesLeft 35 = .ok (.iinc 2 1, 3) := by decide +kernel
theorem dX4_stripesLeft_38 : decode cX4_stripesLeft 38 = .ok (.goto (-34), 3) := by decide +kernel
theorem dX4_stripesLeft_41 : decode cX4_stripesLeft 41 = .ok (.iload_n 1, 1) := by decide +kernel
theorem dX4_stripesLeft_42 : decode cX4_stripesLeft 42 = .ok (.ireturn, 1) := by decide +kernel
theorem dX4_readsTillWhole_0 : decode cX4_readsTillWhole 0 = .ok (.iconst 0, 1) := by decide +kernel
theorem dX4_readsTillWhole_1 : decode cX4_readsTillWhole 1 = .ok (.istore_n 3, 1) := by decide +kernel
theorem dX4_readsTillWhole_2 : decode cX4_readsTillWhole 2 = .ok (.aload_n 0, 1) := by decide +kernel
theorem dX4_readsTillWhole_3 : decode cX4_readsTillWhole 3 = .ok (.getfield 9, 3) := by decide +kernel
theorem dX4_readsTillWhole_6 : decode cX4_readsTillWhole 6 = .ok (.getfield 58, 3) := by decide +kernel
theorem dX4_readsTillWhole_9 : decode cX4_readsTillWhole 9 = .ok (.bipush 104, 2) := by decide +kernel
theorem dX4_readsTillWhole_11 : decode cX4_readsTillWhole 11 = .ok (.iload_n 1, 1) := by decide +kernel
theorem dX4_readsTillWhole_12 : decode cX4_readsTillWhole 12 = .ok (.iadd, 1) := by decide +kernel
theorem dX4_readsTillWhole_13 : decode cX4_readsTillWhole 13 = .ok (.invokevirtual 104, 3) := by decide +kernel
theorem dX4_readsTillWhole_16 : decode cX4_readsTillWhole 16 = .ok (.istore 4, 2) := by decide +kernel
theorem dX4_readsTillWhole_18 : decode cX4_readsTillWhole 18 = .ok (.iload 4, 2) := by decide +kernel
theorem dX4_readsTillWhole_20 : decode cX4_readsTillWhole 20 = .ok (.aload_n 0, 1) := by decide +kernel
theorem dX4_readsTillWhole_21 : decode cX4_readsTillWhole 21 = .ok (.getfield 21, 3) := by decide +kernel
theorem dX4_readsTillWhole_24 : decode cX4_readsTillWhole 24 = .ok (.getfield 101, 3) := by decide +kernel
theorem dX4_readsTillWhole_27 : decode cX4_readsTillWhole 27 = .ok (.if_icmp .ge 56, 3) := by decide +kernel
theorem dX4_readsTillWhole_30 : decode cX4_readsTillWhole 30 = .ok (.iconst 0, 1) := by decide +kernel
theorem dX4_readsTillWhole_31 : decode cX4_readsTillWhole 31 = .ok (.istore 5, 2) := by decide +kernel
theorem dX4_readsTillWhole_33 : decode cX4_readsTillWhole 33 = .ok (.iload 5, 2) := by decide +kernel
theorem dX4_readsTillWhole_35 : decode cX4_readsTillWhole 35 = .ok (.aload_n 0, 1) := by decide +kernel
theorem dX4_readsTillWhole_36 : decode cX4_readsTillWhole 36 = .ok (.getfield 21, 3) := by decide +kernel
theorem dX4_readsTillWhole_39 : decode cX4_readsTillWhole 39 = .ok (.getfield 85, 3) := by decide +kernel
theorem dX4_readsTillWhole_42 : decode cX4_readsTillWhole 42 = .ok (.if_icmp .ge 35, 3) := by decide +kernel
theorem dX4_readsTillWhole_45 : decode cX4_readsTillWhole 45 = .ok (.aload_n 0, 1) := by decide +kernel
theorem dX4_readsTillWhole_46 : decode cX4_readsTillWhole 46 = .ok (.getfield 9, 3) := by decide +kernel
theorem dX4_readsTillWhole_49 : decode cX4_readsTillWhole 49 = .ok (.iload 5, 2) := by decide +kernel
theorem dX4_readsTillWhole_51 : decode cX4_readsTillWhole 51 = .ok (.iload 4, 2) := by decide +kernel
theorem dX4_readsTillWhole_53 : decode cX4_readsTillWhole 53 = .ok (.invokevirtual 111, 3) := by decide +kernel
theorem dX4_readsTillWhole_56 : decode cX4_readsTillWhole 56 = .ok (.ifCond .ne 12, 3) := by decide +kernel
theorem dX4_readsTillWhole_59 : decode cX4_readsTillWhole 59 = .ok (.iload_n 2, 1) := by decide +kernel
theorem dX4_readsTillWhole_60 : decode cX4_readsTillWhole 60 = .ok (.iload 5, 2) := by decide +kernel
theorem dX4_readsTillWhole_62 : decode cX4_readsTillWhole 62 = .ok (.ishr, 1) := by decide +kernel
theorem dX4_readsTillWhole_63 : decode cX4_readsTillWhole 63 = .ok (.iconst 1, 1) := by decide +kernel
theorem dX4_readsTillWhole_64 : decode cX4_readsTillWhole 64 = .ok (.iand, 1) := by decide +kernel
theorem dX4_readsTillWhole_65 : decode cX4_readsTillWhole 65 = .ok (.ifCond .eq 6, 3) := by decide +kernel
theorem dX4_readsTillWhole_68 : decode cX4_readsTillWhole 68 = .ok (.iinc 3 1, 3) := by decide +kernel
theorem dX4_readsTillWhole_71 : decode cX4_readsTillWhole 71 = .ok (.iinc 5 1, 3) := by decide +kernel
theorem dX4_readsTillWhole_74 : decode cX4_readsTillWhole 74 = .ok (.goto (-41), 3) := by decide +kernel
theorem dX4_readsTillWhole_77 : decode cX4_readsTillWhole 77 = .ok (.iinc 4 1, 3) := by decide +kernel
theorem dX4_readsTillWhole_80 : decode cX4_readsTillWhole 80 = .ok (.goto (-62), 3) := by decide +kernel
theorem dX4_readsTillWhole_83 : decode cX4_readsTillWhole 83 = .ok (.iload_n 3, 1) := by decide +kernel
theorem dX4_readsTillWhole_84 : decode cX4_readsTillWhole 84 = .ok (.aload_n 0, 1) := by decide +kernel
theorem dX4_readsTillWhole_85 : decode cX4_readsTillWhole 85 = .ok (.getfield 21, 3) := by decide +kernel
theorem dX4_readsTillWhole_88 : decode cX4_readsTillWhole 88 = .ok (.getfield 114, 3) := by decide +kernel
theorem dX4_readsTillWhole_91 : decode cX4_readsTillWhole 91 = .ok (.imul, 1) := by decide +kernel
theorem dX4_readsTillWhole_92 : decode cX4_readsTillWhole 92 = .ok (.ireturn, 1) := by decide +kernel
theorem dX4_readsLeft_0 : decode cX4_readsLeft 0 = .ok (.iconst 0, 1) := by decide +kernel
theorem dX4_readsLeft_1 : decode cX4_readsLeft 1 = .ok (.istore_n 1, 1) := by decide +kernel
theorem dX4_readsLeft_2 : decode cX4_readsLeft 2 = .ok (.iconst 0, 1) := by decide +kernel
theorem dX4_readsLeft_3 : decode cX4_readsLeft 3 = .ok (.istore_n 2, 1) := by decide +kernel
theorem dX4_readsLeft_4 : decode cX4_readsLeft 4 = .ok (.iconst 0, 1) := by decide +kernel
theorem dX4_readsLeft_5 : decode cX4_readsLeft 5 = .ok (.istore_n 3, 1) := by decide +kernel
theorem dX4_readsLeft_6 : decode cX4_readsLeft 6 = .ok (.iload_n 3, 1) := by decide +kernel
theorem dX4_readsLeft_7 : decode cX4_readsLeft 7 = .ok (.aload_n 0, 1) := by decide +kernel
theorem dX4_readsLeft_8 : decode cX4_readsLeft 8 = .ok (.getfield 21, 3) := by decide +kernel
theorem dX4_readsLeft_11 : decode cX4_readsLeft 11 = .ok (.getfield 85, 3) := by decide +kernel
theorem dX4_readsLeft_14 : decode cX4_readsLeft 14 = .ok (.if_icmp .ge 36, 3) := by decide +kernel
theorem dX4_readsLeft_17 : decode cX4_readsLeft 17 = .ok (.aload_n 0, 1) := by decide +kernel
theorem dX4_readsLeft_18 : decode cX4_readsLeft 18 = .ok (.getfield 9, 3) := by decide +kernel
theorem dX4_readsLeft_21 : decode cX4_readsLeft 21 = .ok (.iload_n 3, 1) := by decide +kernel
theorem dX4_readsLeft_22 : decode cX4_readsLeft 22 = .ok (.iconst 2, 1) := by decide +kernel
theorem dX4_readsLeft_23 : decode cX4_readsLeft 23 = .ok (.invokevirtual 97, 3) := by decide +kernel
theorem dX4_readsLeft_26 : decode cX4_readsLeft 26 = .ok (.ifCond .eq 18, 3) := by decide +kernel
theorem dX4_readsLeft_29 : decode cX4_readsLeft 29 = .ok (.iload_n 1, 1) := by decide +kernel
theorem dX4_readsLeft_30 : decode cX4_readsLeft 30 = .ok (.aload_n 0, 1) := by decide +kernel
theorem dX4_readsLeft_31 : decode cX4_readsLeft 31 = .ok (.iload_n 3, 1) := by decide +kernel
theorem dX4_readsLeft_32 : decode cX4_readsLeft 32 = .ok (.iload_n 2, 1) := by decide +kernel
theorem dX4_readsLeft_33 : decode cX4_readsLeft 33 = .ok (.invokevirtual 108, 3) := by decide +kernel
theorem dX4_readsLeft_36 : decode cX4_readsLeft 36 = .ok (.iadd, 1) := by decide +kernel
theorem dX4_readsLeft_37 : decode cX4_readsLeft 37 = .ok (.istore_n 1, 1) := by decide +kernel
theorem dX4_readsLeft_38 : decode cX4_readsLeft 38 = .ok (.iload_n 2, 1) := by decide +kernel
theorem dX4_readsLeft_39 : decode cX4_readsLeft 39 = .ok (.iconst 1, 1) := by decide +kernel
theorem dX4_readsLeft_40 : decode cX4_readsLeft 40 = .ok (.iload_n 3, 1) := by decide +kernel
theorem dX4_readsLeft_41 : decode cX4_readsLeft 41 = .ok (.ishl, 1) := by decide +kernel
theorem dX4_readsLeft_42 : decode cX4_readsLeft 42 = .ok (.ior, 1) := by decide +kernel
theorem dX4_readsLeft_43 : decode cX4_readsLeft 43 = .ok (.istore_n 2, 1) := by decide +kernel
theorem dX4_readsLeft_44 : decode cX4_readsLeft 44 = .ok (.iinc 3 1, 3) := by decide +kernel
theorem dX4_readsLeft_47 : decode cX4_readsLeft 47 = .ok (.goto (-41), 3) := by decide +kernel
theorem dX4_readsLeft_50 : decode cX4_readsLeft 50 = .ok (.iload_n 1, 1) := by decide +kernel
theorem dX4_readsLeft_51 : decode cX4_readsLeft 51 = .ok (.ireturn, 1) := by decide +kernel
theorem dX4_nearestWhole_0 : decode cX4_nearestWhole 0 = .ok (.iconst (-1), 1) := by decide +kernel
theorem dX4_nearestWhole_1 : decode cX4_nearestWhole 1 = .ok (.istore_n 2, 1) := by decide +kernel
theorem dX4_nearestWhole_2 : decode cX4_nearestWhole 2 = .ok (.iconst 0, 1) := by decide +kernel
theorem dX4_nearestWhole_3 : decode cX4_nearestWhole 3 = .ok (.istore_n 3, 1) := by decide +kernel
theorem dX4_nearestWhole_4 : decode cX4_nearestWhole 4 = .ok (.iload_n 3, 1) := by decide +kernel
theorem dX4_nearestWhole_5 : decode cX4_nearestWhole 5 = .ok (.aload_n 0, 1) := by decide +kernel
theorem dX4_nearestWhole_6 : decode cX4_nearestWhole 6 = .ok (.getfield 21, 3) := by decide +kernel
theorem dX4_nearestWhole_9 : decode cX4_nearestWhole 9 = .ok (.getfield 85, 3) := by decide +kernel
theorem dX4_nearestWhole_12 : decode cX4_nearestWhole 12 = .ok (.if_icmp .ge 53, 3) := by decide +kernel
theorem dX4_nearestWhole_15 : decode cX4_nearestWhole 15 = .ok (.iload_n 2, 1) := by decide +kernel
theorem dX4_nearestWhole_16 : decode cX4_nearestWhole 16 = .ok (.iconst (-1), 1) := by decide +kernel
theorem dX4_nearestWhole_17 : decode cX4_nearestWhole 17 = .ok (.if_icmp .eq 16, 3) := by decide +kernel
theorem dX4_nearestWhole_20 : decode cX4_nearestWhole 20 = .ok (.aload_n 0, 1) := by decide +kernel
theorem dX4_nearestWhole_21 : decode cX4_nearestWhole 21 = .ok (.iload_n 3, 1) := by decide +kernel
theorem dX4_nearestWhole_22 : decode cX4_nearestWhole 22 = .ok (.invokevirtual 105, 3) := by decide +kernel
theorem dX4_nearestWhole_25 : decode cX4_nearestWhole 25 = .ok (.aload_n 0, 1) := by decide +kernel
theorem dX4_nearestWhole_26 : decode cX4_nearestWhole 26 = .ok (.iload_n 2, 1) := by decide +kernel
theorem dX4_nearestWhole_27 : decode cX4_nearestWhole 27 = .ok (.invokevirtual 105, 3) := by decide +kernel
theorem dX4_nearestWhole_30 : decode cX4_nearestWhole 30 = .ok (.if_icmp .ge 7, 3) := by decide +kernel
theorem dX4_nearestWhole_33 : decode cX4_nearestWhole 33 = .ok (.iconst 1, 1) := by decide +kernel
theorem dX4_nearestWhole_34 : decode cX4_nearestWhole 34 = .ok (.goto 4, 3) := by decide +kernel
theorem dX4_nearestWhole_37 : decode cX4_nearestWhole 37 = .ok (.iconst 0, 1) := by decide +kernel
theorem dX4_nearestWhole_38 : decode cX4_nearestWhole 38 = .ok (.istore 4, 2) := by decide +kernel
theorem dX4_nearestWhole_40 : decode cX4_nearestWhole 40 = .ok (.aload_n 0, 1) := by decide +kernel
theorem dX4_nearestWhole_41 : decode cX4_nearestWhole 41 = .ok (.getfield 9, 3) := by decide +kernel
theorem dX4_nearestWhole_44 : decode cX4_nearestWhole 44 = .ok (.iload_n 3, 1) := by decide +kernel
theorem dX4_nearestWhole_45 : decode cX4_nearestWhole 45 = .ok (.iconst 2, 1) := by decide +kernel
theorem dX4_nearestWhole_46 : decode cX4_nearestWhole 46 = .ok (.invokevirtual 97, 3) := by decide +kernel
theorem dX4_nearestWhole_49 : decode cX4_nearestWhole 49 = .ok (.ifCond .eq 10, 3) := by decide +kernel
theorem dX4_nearestWhole_52 : decode cX4_nearestWhole 52 = .ok (.iload 4, 2) := by decide +kernel
theorem dX4_nearestWhole_54 : decode cX4_nearestWhole 54 = .ok (.ifCond .eq 5, 3) := by decide +kernel
theorem dX4_nearestWhole_57 : decode cX4_nearestWhole 57 = .ok (.iload_n 3, 1) := by decide +kernel
theorem dX4_nearestWhole_58 : decode cX4_nearestWhole 58 = .ok (.istore_n 2, 1) := by decide +kernel
theorem dX4_nearestWhole_59 : decode cX4_nearestWhole 59 = .ok (.iinc 3 1, 3) := by decide +kernel
theorem dX4_nearestWhole_62 : decode cX4_nearestWhole 62 = .ok (.goto (-58), 3) := by decide +kernel
theorem dX4_nearestWhole_65 : decode cX4_nearestWhole 65 = .ok (.iload_n 2, 1) := by decide +kernel
theorem dX4_nearestWhole_66 : decode cX4_nearestWhole 66 = .ok (.iconst (-1), 1) := by decide +kernel
theorem dX4_nearestWhole_67 : decode cX4_nearestWhole 67 = .ok (.if_icmp .eq 7, 3) := by decide +kernel
theorem dX4_nearestWhole_70 : decode cX4_nearestWhole 70 = .ok (.iload_n 1, 1) := by decide +kernel
theorem dX4_nearestWhole_71 : decode cX4_nearestWhole 71 = .ok (.ifCond .ne 5, 3) := by decide +kernel
theorem dX4_nearestWhole_74 : decode cX4_nearestWhole 74 = .ok (.iload_n 2, 1) := by decide +kernel
theorem dX4_nearestWhole_75 : decode cX4_nearestWhole 75 = .ok (.ireturn, 1) := by decide +kernel
theorem dX4_nearestWhole_76 : decode cX4_nearestWhole 76 = .ok (.iload_n 1, 1) := by decide +kernel
theorem dX4_nearestWhole_77 : decode cX4_nearestWhole 77 = .ok (.iconst 1, 1) := by decide +kernel
theorem dX4_nearestWhole_78 : decode cX4_nearestWhole 78 = .ok (.if_icmp .ne 9, 3) := by decide +kernel
theorem dX4_nearestWhole_81 : decode cX4_nearestWhole 81 = .ok (.aload_n 0, 1) := by decide +kernel
theorem dX4_nearestWhole_82 : decode cX4_nearestWhole 82 = .ok (.iload_n 2, 1) := by decide +kernel
theorem dX4_nearestWhole_83 : decode cX4_nearestWhole 83 = .ok (.invokevirtual 105, 3) := by decide +kernel
theorem dX4_nearestWhole_86 : decode cX4_nearestWhole 86 = .ok (.ireturn, 1) := by decide +kernel
theorem dX4_nearestWhole_87 : decode cX4_nearestWhole 87 = .ok (.iload_n 1, 1) := by decide +kernel
theorem dX4_nearestWhole_88 : decode cX4_nearestWhole 88 = .ok (.iconst 2, 1) := by decide +kernel
theorem dX4_nearestWhole_89 : decode cX4_nearestWhole 89 = .ok (.if_icmp .ne 12, 3) := by decide +kernel
theorem dX4_nearestWhole_92 : decode cX4_nearestWhole 92 = .ok (.aload_n 0, 1) := by decide +kernel
theorem dX4_nearestWhole_93 : decode cX4_nearestWhole 93 = .ok (.iload_n 2, 1) := by decide +kernel
theorem dX4_nearestWhole_94 : decode cX4_nearestWhole 94 = .ok (.iconst 0, 1) := by decide +kernel
theorem dX4_nearestWhole_95 : decode cX4_nearestWhole 95 = .ok (.invokevirtual 108, 3) := by decide +kernel
theorem dX4_nearestWhole_98 : decode cX4_nearestWhole 98 = .ok (.goto 4, 3) := by decide +kernel
theorem dX4_nearestWhole_101 : decode cX4_nearestWhole 101 = .ok (.iconst (-1), 1) := by decide +kernel
theorem dX4_nearestWhole_102 : decode cX4_nearestWhole 102 = .ok (.ireturn, 1) := by decide +kernel
theorem dX4_isRight_0 : decode cX4_isRight 0 = .ok (.iconst 0, 1) := by decide +kernel
theorem dX4_isRight_1 : decode cX4_isRight 1 = .ok (.istore_n 2, 1) := by decide +kernel
theorem dX4_isRight_2 : decode cX4_isRight 2 = .ok (.iload_n 2, 1) := by decide +kernel
theorem dX4_isRight_3 : decode cX4_isRight 3 = .ok (.aload_n 0, 1) := by decide +kernel
theorem dX4_isRight_4 : decode cX4_isRight 4 = .ok (.getfield 21, 3) := by decide +kernel
theorem dX4_isRight_7 : decode cX4_isRight 7 = .ok (.getfield 114, 3) := by decide +kernel
theorem dX4_isRight_10 : decode cX4_isRight 10 = .ok (.if_icmp .ge 45, 3) := by decide +kernel
theorem dX4_isRight_13 : decode cX4_isRight 13 = .ok (.aload_n 0, 1) := by decide +kernel
theorem dX4_isRight_14 : decode cX4_isRight 14 = .ok (.getfield 9, 3) := by decide +kernel
theorem dX4_isRight_17 : decode cX4_isRight 17 = .ok (.getfield 54, 3) := by decide +kernel
theorem dX4_isRight_20 : decode cX4_isRight 20 = .ok (.aload_n 0, 1) := by decide +kernel
theorem dX4_isRight_21 : decode cX4_isRight 21 = .ok (.getfield 9, 3) := by decide +kernel
theorem dX4_isRight_24 : decode cX4_isRight 24 = .ok (.getfield 58, 3) := by decide +kernel
theorem dX4_isRight_27 : decode cX4_isRight 27 = .ok (.iload_n 1, 1) := by decide +kernel
theorem dX4_isRight_28 : decode cX4_isRight 28 = .ok (.iload_n 2, 1) := by decide +kernel
theorem dX4_isRight_29 : decode cX4_isRight 29 = .ok (.iconst 0, 1) := by decide +kernel
theorem dX4_isRight_30 : decode cX4_isRight 30 = .ok (.invokevirtual 75, 3) := by decide +kernel
theorem dX4_isRight_33 : decode cX4_isRight 33 = .ok (.aload_n 0, 1) := by decide +kernel
theorem dX4_isRight_34 : decode cX4_isRight 34 = .ok (.getfield 9, 3) := by decide +kernel
theorem dX4_isRight_37 : decode cX4_isRight 37 = .ok (.getfield 54, 3) := by decide +kernel
theorem dX4_isRight_40 : decode cX4_isRight 40 = .ok (.invokevirtual 78, 3) := by decide +kernel
theorem dX4_isRight_43 : decode cX4_isRight 43 = .ok (.iconst (-1), 1) := by decide +kernel
theorem dX4_isRight_44 : decode cX4_isRight 44 = .ok (.if_icmp .eq 5, 3) := by decide +kernel
theorem dX4_isRight_47 : decode cX4_isRight 47 = .ok (.iconst 0, 1) := by decide +kernel
theorem dX4_isRight_48 : decode cX4_isRight 48 = .ok (.ireturn, 1) := by decide +kernel
theorem dX4_isRight_49 : decode cX4_isRight 49 = .ok (.iinc 2 1, 3) := by decide +kernel
theorem dX4_isRight_52 : decode cX4_isRight 52 = .ok (.goto (-50), 3) := by decide +kernel
theorem dX4_isRight_55 : decode cX4_isRight 55 = .ok (.iconst 1, 1) := by decide +kernel
theorem dX4_isRight_56 : decode cX4_isRight 56 = .ok (.ireturn, 1) := by decide +kernel
theorem dX4_fitStripes_0 : decode cX4_fitStripes 0 = .ok (.iconst 0, 1) := by decide +kernel
theorem dX4_fitStripes_1 : decode cX4_fitStripes 1 = .ok (.istore_n 1, 1) := by decide +kernel
theorem dX4_fitStripes_2 : decode cX4_fitStripes 2 = .ok (.iconst 0, 1) := by decide +kernel
theorem dX4_fitStripes_3 : decode cX4_fitStripes 3 = .ok (.istore_n 2, 1) := by decide +kernel
theorem dX4_fitStripes_4 : decode cX4_fitStripes 4 = .ok (.iload_n 2, 1) := by decide +kernel
theorem dX4_fitStripes_5 : decode cX4_fitStripes 5 = .ok (.aload_n 0, 1) := by decide +kernel
theorem dX4_fitStripes_6 : decode cX4_fitStripes 6 = .ok (.getfield 21, 3) := by decide +kernel
theorem dX4_fitStripes_9 : decode cX4_fitStripes 9 = .ok (.getfield 101, 3) := by decide +kernel
theorem dX4_fitStripes_12 : decode cX4_fitStripes 12 = .ok (.if_icmp .ge 34, 3) := by decide +kernel
theorem dX4_fitStripes_15 : decode cX4_fitStripes 15 = .ok (.aload_n 0, 1) := by decide +kernel
theorem dX4_fitStripes_16 : decode cX4_fitStripes 16 = .ok (.getfield 9, 3) := by decide +kernel
theorem dX4_fitStripes_19 : decode cX4_fitStripes 19 = .ok (.iload_n 2, 1) := by decide +kernel
theorem dX4_fitStripes_20 : decode cX4_fitStripes 20 = .ok (.invokevirtual 31, 3) := by decide +kernel
theorem dX4_fitStripes_23 : decode cX4_fitStripes 23 = .ok (.ifCond .ne 17, 3) := by decide +kernel
theorem dX4_fitStripes_26 : decode cX4_fitStripes 26 = .ok (.aload_n 0, 1) := by decide +kernel
theorem dX4_fitStripes_27 : decode cX4_fitStripes 27 = .ok (.iload_n 2, 1) := by decide +kernel
theorem dX4_fitStripes_28 : decode cX4_fitStripes 28 = .ok (.invokevirtual 117, 3) := by decide +kernel
theorem dX4_fitStripes_31 : decode cX4_fitStripes 31 = .ok (.ifCond .eq 9, 3) := by decide +kernel
theorem dX4_fitStripes_34 : decode cX4_fitStripes 34 = .ok (.iload_n 1, 1) := by decide +kernel
theorem dX4_fitStripes_35 : decode cX4_fitStripes 35 = .ok (.iconst 1, 1) := by decide +kernel
theorem dX4_fitStripes_36 : decode cX4_fitStripes 36 = .ok (.iload_n 2, 1) := by decide +kernel
theorem dX4_fitStripes_37 : decode cX4_fitStripes 37 = .ok (.ishl, 1) := by decide +kernel
theorem dX4_fitStripes_38 : decode cX4_fitStripes 38 = .ok (.ior, 1) := by decide +kernel
theorem dX4_fitStripes_39 : decode cX4_fitStripes 39 = .ok (.istore_n 1, 1) := by decide +kernel
theorem dX4_fitStripes_40 : decode cX4_fitStripes 40 = .ok (.iinc 2 1, 3) := by decide +kernel
theorem dX4_fitStripes_43 : decode cX4_fitStripes 43 = .ok (.goto (-39), 3) := by decide +kernel
theorem dX4_fitStripes_46 : decode cX4_fitStripes 46 = .ok (.iload_n 1, 1) := by decide +kernel
theorem dX4_fitStripes_47 : decode cX4_fitStripes 47 = .ok (.ireturn, 1) := by decide +kernel
theorem dX8_byteRead_0 : decode cX8_byteRead 0 = .ok (.aload_n 0, 1) := by decide +kernel
theorem dX8_byteRead_1 : decode cX8_byteRead 1 = .ok (.getfield 18, 3) := by decide +kernel
theorem dX8_byteRead_4 : decode cX8_byteRead 4 = .ok (.iload_n 1, 1) := by decide +kernel
theorem dX8_byteRead_5 : decode cX8_byteRead 5 = .ok (.invokevirtual 61, 3) := by decide +kernel
theorem dX8_byteRead_8 : decode cX8_byteRead 8 = .ok (.istore_n 2, 1) := by decide +kernel
theorem dX8_byteRead_9 : decode cX8_byteRead 9 = .ok (.aload_n 0, 1) := by decide +kernel
theorem dX8_byteRead_10 : decode cX8_byteRead 10 = .ok (.getfield 27, 3) := by decide +kernel
theorem dX8_byteRead_13 : decode cX8_byteRead 13 = .ok (.aload_n 0, 1) := by decide +kernel
theorem dX8_byteRead_14 : decode cX8_byteRead 14 = .ok (.getfield 12, 3) := by decide +kernel
theorem dX8_byteRead_17 : decode cX8_byteRead 17 = .ok (.iload_n 2, 1) := by decide +kernel
theorem dX8_byteRead_18 : decode cX8_byteRead 18 = .ok (.aload_n 0, 1) := by decide +kernel
theorem dX8_byteRead_19 : decode cX8_byteRead 19 = .ok (.getfield 18, 3) := by decide +kernel
theorem dX8_byteRead_22 : decode cX8_byteRead 22 = .ok (.iload_n 1, 1) := by decide +kernel
theorem dX8_byteRead_23 : decode cX8_byteRead 23 = .ok (.invokevirtual 64, 3) := by decide +kernel
theorem dX8_byteRead_26 : decode cX8_byteRead 26 = .ok (.aload_n 0, 1) := by decide +kernel
theorem dX8_byteRead_27 : decode cX8_byteRead 27 = .ok (.iload_n 2, 1) := by decide +kernel
theorem dX8_byteRead_28 : decode cX8_byteRead 28 = .ok (.invokevirtual 67, 3) := by decide +kernel
theorem dX8_byteRead_31 : decode cX8_byteRead 31 = .ok (.invokevirtual 70, 3) := by decide +kernel
theorem dX8_byteRead_34 : decode cX8_byteRead 34 = .ok (.aload_n 0, 1) := by decide +kernel
theorem dX8_byteRead_35 : decode cX8_byteRead 35 = .ok (.getfield 27, 3) := by decide +kernel
theorem dX8_byteRead_38 : decode cX8_byteRead 38 = .ok (.aload_n 0, 1) := by decide +kernel
theorem dX8_byteRead_39 : decode cX8_byteRead 39 = .ok (.getfield 18, 3) := by decide +kernel
theorem dX8_byteRead_42 : decode cX8_byteRead 42 = .ok (.iload_n 1, 1) := by decide +kernel
theorem dX8_byteRead_43 : decode cX8_byteRead 43 = .ok (.invokevirtual 74, 3) := by decide +kernel
theorem dX8_byteRead_46 : decode cX8_byteRead 46 = .ok (.invokevirtual 77, 3) := by decide +kernel
theorem dX8_byteRead_49 : decode cX8_byteRead 49 = .ok (.ireturn, 1) := by decide +kernel
theorem dX4_byteIfScrubbed_0 : decode cX4_byteIfScrubbed 0 = .ok (.aload_n 0, 1) := by decide +kernel
theorem dX4_byteIfScrubbed_1 : decode cX4_byteIfScrubbed 1 = .ok (.getfield 21, 3) := by decide +kernel
theorem dX4_byteIfScrubbed_4 : decode cX4_byteIfScrubbed 4 = .ok (.iload_n 1, 1) := by decide +kernel
theorem dX4_byteIfScrubbed_5 : decode cX4_byteIfScrubbed 5 = .ok (.invokevirtual 22, 3) := by decide +kernel
theorem dX4_byteIfScrubbed_8 : decode cX4_byteIfScrubbed 8 = .ok (.istore_n 2, 1) := by decide +kernel
theorem dX4_byteIfScrubbed_9 : decode cX4_byteIfScrubbed 9 = .ok (.aload_n 0, 1) := by decide +kernel
theorem dX4_byteIfScrubbed_10 : decode cX4_byteIfScrubbed 10 = .ok (.getfield 21, 3) := by decide +kernel
theorem dX4_byteIfScrubbed_13 : decode cX4_byteIfScrubbed 13 = .ok (.iload_n 1, 1) := by decide +kernel
theorem dX4_byteIfScrubbed_14 : decode cX4_byteIfScrubbed 14 = .ok (.invokevirtual 28, 3) := by decide +kernel
theorem dX4_byteIfScrubbed_17 : decode cX4_byteIfScrubbed 17 = .ok (.istore_n 3, 1) := by decide +kernel
theorem dX4_byteIfScrubbed_18 : decode cX4_byteIfScrubbed 18 = .ok (.aload_n 0, 1) := by decide +kernel
theorem dX4_byteIfScrubbed_19 : decode cX4_byteIfScrubbed 19 = .ok (.getfield 9, 3) := by decide +kernel
theorem dX4_byteIfScrubbed_22 : decode cX4_byteIfScrubbed 22 = .ok (.iload_n 1, 1) := by decide +kernel
theorem dX4_byteIfScrubbed_23 : decode cX4_byteIfScrubbed 23 = .ok (.invokevirtual 120, 3) := by decide +kernel
theorem dX4_byteIfScrubbed_26 : decode cX4_byteIfScrubbed 26 = .ok (.istore 4, 2) := by decide +kernel
theorem dX4_byteIfScrubbed_28 : decode cX4_byteIfScrubbed 28 = .ok (.aload_n 0, 1) := by decide +kernel
theorem dX4_byteIfScrubbed_29 : decode cX4_byteIfScrubbed 29 = .ok (.getfield 9, 3) := by decide +kernel
theorem dX4_byteIfScrubbed_32 : decode cX4_byteIfScrubbed 32 = .ok (.iload_n 3, 1) := by decide +kernel
theorem dX4_byteIfScrubbed_33 : decode cX4_byteIfScrubbed 33 = .ok (.invokevirtual 31, 3) := by decide +kernel
theorem dX4_byteIfScrubbed_36 : decode cX4_byteIfScrubbed 36 = .ok (.ifCond .ne 28, 3) := by decide +kernel
theorem dX4_byteIfScrubbed_39 : decode cX4_byteIfScrubbed 39 = .ok (.aload_n 0, 1) := by decide +kernel
theorem dX4_byteIfScrubbed_40 : decode cX4_byteIfScrubbed 40 = .ok (.getfield 9, 3) := by decide +kernel
theorem dX4_byteIfScrubbed_43 : decode cX4_byteIfScrubbed 43 = .ok (.iload_n 3, 1) := by decide +kernel
theorem dX4_byteIfScrubbed_44 : decode cX4_byteIfScrubbed 44 = .ok (.invokevirtual 71, 3) := by decide +kernel
theorem dX4_byteIfScrubbed_47 : decode cX4_byteIfScrubbed 47 = .ok (.ifCond .ne 17, 3) := by decide +kernel
theorem dX4_byteIfScrubbed_50 : decode cX4_byteIfScrubbed 50 = .ok (.aload_n 0, 1) := by decide +kernel
theorem dX4_byteIfScrubbed_51 : decode cX4_byteIfScrubbed 51 = .ok (.getfield 9, 3) := by decide +kernel
theorem dX4_byteIfScrubbed_54 : decode cX4_byteIfScrubbed 54 = .ok (.getfield 54, 3) := by decide +kernel
theorem dX4_byteIfScrubbed_57 : decode cX4_byteIfScrubbed 57 = .ok (.invokevirtual 78, 3) := by decide +kernel
theorem dX4_byteIfScrubbed_60 : decode cX4_byteIfScrubbed 60 = .ok (.iload_n 2, 1) := by decide +kernel
theorem dX4_byteIfScrubbed_61 : decode cX4_byteIfScrubbed 61 = .ok (.if_icmp .eq 6, 3) := by decide +kernel
theorem dX4_byteIfScrubbed_64 : decode cX4_byteIfScrubbed 64 = .ok (.iload 4, 2) := by decide +kernel
theorem dX4_byteIfScrubbed_66 : decode cX4_byteIfScrubbed 66 = .ok (.ireturn, 1) := by decide +kernel
theorem dX4_byteIfScrubbed_67 : decode cX4_byteIfScrubbed 67 = .ok (.aload_n 0, 1) := by decide +kernel
theorem dX4_byteIfScrubbed_68 : decode cX4_byteIfScrubbed 68 = .ok (.getfield 9, 3) := by decide +kernel
theorem dX4_byteIfScrubbed_71 : decode cX4_byteIfScrubbed 71 = .ok (.getfield 54, 3) := by decide +kernel
theorem dX4_byteIfScrubbed_74 : decode cX4_byteIfScrubbed 74 = .ok (.iload_n 2, 1) := by decide +kernel
theorem dX4_byteIfScrubbed_75 : decode cX4_byteIfScrubbed 75 = .ok (.invokevirtual 123, 3) := by decide +kernel
theorem dX4_byteIfScrubbed_78 : decode cX4_byteIfScrubbed 78 = .ok (.aload_n 0, 1) := by decide +kernel
theorem dX4_byteIfScrubbed_79 : decode cX4_byteIfScrubbed 79 = .ok (.getfield 9, 3) := by decide +kernel
theorem dX4_byteIfScrubbed_82 : decode cX4_byteIfScrubbed 82 = .ok (.getfield 54, 3) := by decide +kernel
theorem dX4_byteIfScrubbed_85 : decode cX4_byteIfScrubbed 85 = .ok (.iload_n 2, 1) := by decide +kernel
theorem dX4_byteIfScrubbed_86 : decode cX4_byteIfScrubbed 86 = .ok (.invokevirtual 68, 3) := by decide +kernel
theorem dX4_byteIfScrubbed_89 : decode cX4_byteIfScrubbed 89 = .ok (.ireturn, 1) := by decide +kernel
theorem dX4_sameAs_0 : decode cX4_sameAs 0 = .ok (.iconst 0, 1) := by decide +kernel
theorem dX4_sameAs_1 : decode cX4_sameAs 1 = .ok (.istore_n 2, 1) := by decide +kernel
theorem dX4_sameAs_2 : decode cX4_sameAs 2 = .ok (.iconst 0, 1) := by decide +kernel
theorem dX4_sameAs_3 : decode cX4_sameAs 3 = .ok (.istore_n 3, 1) := by decide +kernel
theorem dX4_sameAs_4 : decode cX4_sameAs 4 = .ok (.iload_n 3, 1) := by decide +kernel
theorem dX4_sameAs_5 : decode cX4_sameAs 5 = .ok (.aload_n 0, 1) := by decide +kernel
theorem dX4_sameAs_6 : decode cX4_sameAs 6 = .ok (.getfield 21, 3) := by decide +kernel
theorem dX4_sameAs_9 : decode cX4_sameAs 9 = .ok (.invokevirtual 127, 3) := by decide +kernel
theorem dX4_sameAs_12 : decode cX4_sameAs 12 = .ok (.if_icmp .ge 28, 3) := by decide +kernel
theorem dX4_sameAs_15 : decode cX4_sameAs 15 = .ok (.aload_n 0, 1) := by decide +kernel
theorem dX4_sameAs_16 : decode cX4_sameAs 16 = .ok (.getfield 9, 3) := by decide +kernel
theorem dX4_sameAs_19 : decode cX4_sameAs 19 = .ok (.iload_n 3, 1) := by decide +kernel
theorem dX4_sameAs_20 : decode cX4_sameAs 20 = .ok (.invokevirtual 120, 3) := by decide +kernel
theorem dX4_sameAs_23 : decode cX4_sameAs 23 = .ok (.aload_n 1, 1) := by decide +kernel
theorem dX4_sameAs_24 : decode cX4_sameAs 24 = .ok (.iload_n 3, 1) := by decide +kernel
theorem dX4_sameAs_25 : decode cX4_sameAs 25 = .ok (.invokevirtual 120, 3) := by decide +kernel
theorem dX4_sameAs_28 : decode cX4_sameAs 28 = .ok (.if_icmp .ne 6, 3) := by decide +kernel
theorem dX4_sameAs_31 : decode cX4_sameAs 31 = .ok (.iinc 2 1, 3) := by decide +kernel
theorem dX4_sameAs_34 : decode cX4_sameAs 34 = .ok (.iinc 3 1, 3) := by decide +kernel
theorem dX4_sameAs_37 : decode cX4_sameAs 37 = .ok (.goto (-33), 3) := by decide +kernel
theorem dX4_sameAs_40 : decode cX4_sameAs 40 = .ok (.iload_n 2, 1) := by decide +kernel
theorem dX4_sameAs_41 : decode cX4_sameAs 41 = .ok (.ireturn, 1) := by decide +kernel
theorem dX4_longestHidden_0 : decode cX4_longestHidden 0 = .ok (.iconst 0, 1) := by decide +kernel
theorem dX4_longestHidden_1 : decode cX4_longestHidden 1 = .ok (.istore_n 2, 1) := by decide +kernel
theorem dX4_longestHidden_2 : decode cX4_longestHidden 2 = .ok (.iconst (-1), 1) := by decide +kernel
theorem dX4_longestHidden_3 : decode cX4_longestHidden 3 = .ok (.istore_n 3, 1) := by decide +kernel
theorem dX4_longestHidden_4 : decode cX4_longestHidden 4 = .ok (.iconst 0, 1) := by decide +kernel
theorem dX4_longestHidden_5 : decode cX4_longestHidden 5 = .ok (.istore 4, 2) := by decide +kernel
theorem dX4_longestHidden_7 : decode cX4_longestHidden 7 = .ok (.iconst 0, 1) := by decide +kernel
theorem dX4_longestHidden_8 : decode cX4_longestHidden 8 = .ok (.istore 5, 2) := by decide +kernel
theorem dX4_longestHidden_10 : decode cX4_longestHidden 10 = .ok (.iload 5, 2) := by decide +kernel
theorem dX4_longestHidden_12 : decode cX4_longestHidden 12 = .ok (.aload_n 0, 1) := by decide +kernel
theorem dX4_longestHidden_13 : decode cX4_longestHidden 13 = .ok (.getfield 21, 3) := by decide +kernel
theorem dX4_longestHidden_16 : decode cX4_longestHidden 16 = .ok (.invokevirtual 127, 3) := by decide +kernel
theorem dX4_longestHidden_19 : decode cX4_longestHidden 19 = .ok (.if_icmp .ge 81, 3) := by decide +kernel
theorem dX4_longestHidden_22 : decode cX4_longestHidden 22 = .ok (.aload_n 0, 1) := by decide +kernel
theorem dX4_longestHidden_23 : decode cX4_longestHidden 23 = .ok (.getfield 21, 3) := by decide +kernel
theorem dX4_longestHidden_26 : decode cX4_longestHidden 26 = .ok (.iload 5, 2) := by decide +kernel
theorem dX4_longestHidden_28 : decode cX4_longestHidden 28 = .ok (.invokevirtual 28, 3) := by decide +kernel
theorem dX4_longestHidden_31 : decode cX4_longestHidden 31 = .ok (.istore 6, 2) := by decide +kernel
theorem dX4_longestHidden_33 : decode cX4_longestHidden 33 = .ok (.aload_n 0, 1) := by decide +kernel
theorem dX4_longestHidden_34 : decode cX4_longestHidden 34 = .ok (.getfield 9, 3) := by decide +kernel
theorem dX4_longestHidden_37 : decode cX4_longestHidden 37 = .ok (.aload_n 0, 1) := by decide +kernel
theorem dX4_longestHidden_38 : decode cX4_longestHidden 38 = .ok (.getfield 21, 3) := by decide +kernel
theorem dX4_longestHidden_41 : decode cX4_longestHidden 41 = .ok (.aload_n 0, 1) := by decide +kernel
theorem dX4_longestHidden_42 : decode cX4_longestHidden 42 = .ok (.getfield 21, 3) := by decide +kernel
theorem dX4_longestHidden_45 : decode cX4_longestHidden 45 = .ok (.iload 5, 2) := by decide +kernel
theorem dX4_longestHidden_47 : decode cX4_longestHidden 47 = .ok (.invokevirtual 22, 3) := by decide +kernel
theorem dX4_longestHidden_50 : decode cX4_longestHidden 50 = .ok (.iload 6, 2) := by decide +kernel
theorem dX4_longestHidden_52 : decode cX4_longestHidden 52 = .ok (.invokevirtual 82, 3) := by decide +kernel
theorem dX4_longestHidden_55 : decode cX4_longestHidden 55 = .ok (.iload 6, 2) := by decide +kernel
theorem dX4_longestHidden_57 : decode cX4_longestHidden 57 = .ok (.invokevirtual 111, 3) := by decide +kernel
theorem dX4_longestHidden_60 : decode cX4_longestHidden 60 = .ok (.istore 7, 2) := by decide +kernel
theorem dX4_longestHidden_62 : decode cX4_longestHidden 62 = .ok (.iload 7, 2) := by decide +kernel
theorem dX4_longestHidden_64 : decode cX4_longestHidden 64 = .ok (.ifCond .eq 7, 3) := by decide +kernel
theorem dX4_longestHidden_67 : decode cX4_longestHidden 67 = .ok (.iconst 0, 1) := by decide +kernel
theorem dX4_longestHidden_68 : decode cX4_longestHidden 68 = .ok (.goto 7, 3) := by decide +kernel
theorem dX4_longestHidden_71 : decode cX4_longestHidden 71 = .ok (.iload 4, 2) := by decide +kernel
theorem dX4_longestHidden_73 : decode cX4_longestHidden 73 = .ok (.iconst 1, 1) := by decide +kernel
theorem dX4_longestHidden_74 : decode cX4_longestHidden 74 = .ok (.iadd, 1) := by decide +kernel
theorem dX4_longestHidden_75 : decode cX4_longestHidden 75 = .ok (.istore 4, 2) := by decide +kernel
theorem dX4_longestHidden_77 : decode cX4_longestHidden 77 = .ok (.iload 4, 2) := by decide +kernel
theorem dX4_longestHidden_79 : decode cX4_longestHidden 79 = .ok (.iload_n 2, 1) := by decide +kernel
theorem dX4_longestHidden_80 : decode cX4_longestHidden 80 = .ok (.if_icmp .le 14, 3) := by decide +kernel
theorem dX4_longestHidden_83 : decode cX4_longestHidden 83 = .ok (.iload 4, 2) := by decide +kernel
theorem dX4_longestHidden_85 : decode cX4_longestHidden 85 = .ok (.istore_n 2, 1) := by decide +kernel
theorem dX4_longestHidden_86 : decode cX4_longestHidden 86 = .ok (.iload 5, 2) := by decide +kernel
theorem dX4_longestHidden_88 : decode cX4_longestHidden 88 = .ok (.iload 4, 2) := by decide +kernel
theorem dX4_longestHidden_90 : decode cX4_longestHidden 90 = .ok (.isub, 1) := by decide +kernel
theorem dX4_longestHidden_91 : decode cX4_longestHidden 91 = .ok (.iconst 1, 1) := by decide +kernel
theorem dX4_longestHidden_92 : decode cX4_longestHidden 92 = .ok (.iadd, 1) := by decide +kernel
theorem dX4_longestHidden_93 : decode cX4_longestHidden 93 = .ok (.istore_n 3, 1) := by decide +kernel
theorem dX4_longestHidden_94 : decode cX4_longestHidden 94 = .ok (.iinc 5 1, 3) := by decide +kernel
theorem dX4_longestHidden_97 : decode cX4_longestHidden 97 = .ok (.goto (-87), 3) := by decide +kernel
theorem dX4_longestHidden_100 : decode cX4_longestHidden 100 = .ok (.iload_n 1, 1) := by decide +kernel
theorem dX4_longestHidden_101 : decode cX4_longestHidden 101 = .ok (.ifCond .ne 7, 3) := by decide +kernel
theorem dX4_longestHidden_104 : decode cX4_longestHidden 104 = .ok (.iload_n 2, 1) := by decide +kernel
theorem dX4_longestHidden_105 : decode cX4_longestHidden 105 = .ok (.goto 4, 3) := by decide +kernel
theorem dX4_longestHidden_108 : decode cX4_longestHidden 108 = .ok (.iload_n 3, 1) := by decide +kernel
theorem dX4_longestHidden_109 : decode cX4_longestHidden 109 = .ok (.ireturn, 1) := by decide +kernel
theorem dX4_votesFor_0 : decode cX4_votesFor 0 = .ok (.aload_n 0, 1) := by decide +kernel
theorem dX4_votesFor_1 : decode cX4_votesFor 1 = .ok (.getfield 21, 3) := by decide +kernel
theorem dX4_votesFor_4 : decode cX4_votesFor 4 = .ok (.iload_n 1, 1) := by decide +kernel
theorem dX4_votesFor_5 : decode cX4_votesFor 5 = .ok (.invokevirtual 22, 3) := by decide +kernel
theorem dX4_votesFor_8 : decode cX4_votesFor 8 = .ok (.istore_n 3, 1) := by decide +kernel
theorem dX4_votesFor_9 : decode cX4_votesFor 9 = .ok (.aload_n 0, 1) := by decide +kernel
theorem dX4_votesFor_10 : decode cX4_votesFor 10 = .ok (.getfield 21, 3) := by decide +kernel
theorem dX4_votesFor_13 : decode cX4_votesFor 13 = .ok (.iload_n 1, 1) := by decide +kernel
theorem dX4_votesFor_14 : decode cX4_votesFor 14 = .ok (.invokevirtual 28, 3) := by decide +kernel
theorem dX4_votesFor_17 : decode cX4_votesFor 17 = .ok (.istore 4, 2) := by decide +kernel
theorem dX4_votesFor_19 : decode cX4_votesFor 19 = .ok (.aload_n 0, 1) := by decide +kernel
theorem dX4_votesFor_20 : decode cX4_votesFor 20 = .ok (.getfield 9, 3) := by decide +kernel
theorem dX4_votesFor_23 : decode cX4_votesFor 23 = .ok (.iload 4, 2) := by decide +kernel
theorem dX4_votesFor_25 : decode cX4_votesFor 25 = .ok (.invokevirtual 31, 3) := by decide +kernel
theorem dX4_votesFor_28 : decode cX4_votesFor 28 = .ok (.istore 5, 2) := by decide +kernel
theorem dX4_votesFor_30 : decode cX4_votesFor 30 = .ok (.iconst 0, 1) := by decide +kernel
theorem dX4_votesFor_31 : decode cX4_votesFor 31 = .ok (.istore 6, 2) := by decide +kernel
theorem dX4_votesFor_33 : decode cX4_votesFor 33 = .ok (.iconst 0, 1) := by decide +kernel
theorem dX4_votesFor_34 : decode cX4_votesFor 34 = .ok (.istore 7, 2) := by decide +kernel
theorem dX4_votesFor_36 : decode cX4_votesFor 36 = .ok (.iload 7, 2) := by decide +kernel
theorem dX4_votesFor_38 : decode cX4_votesFor 38 = .ok (.aload_n 0, 1) := by decide +kernel
theorem dX4_votesFor_39 : decode cX4_votesFor 39 = .ok (.getfield 21, 3) := by decide +kernel
theorem dX4_votesFor_42 : decode cX4_votesFor 42 = .ok (.getfield 85, 3) := by decide +kernel
theorem dX4_votesFor_45 : decode cX4_votesFor 45 = .ok (.if_icmp .ge 108, 3) := by decide +kernel
theorem dX4_votesFor_48 : decode cX4_votesFor 48 = .ok (.iload 7, 2) := by decide +kernel
theorem dX4_votesFor_50 : decode cX4_votesFor 50 = .ok (.iconst 1, 1) := by decide +kernel
theorem dX4_votesFor_51 : decode cX4_votesFor 51 = .ok (.iadd, 1) := by decide +kernel
theorem dX4_votesFor_52 : decode cX4_votesFor 52 = .ok (.istore 8, 2) := by decide +kernel
theorem dX4_votesFor_54 : decode cX4_votesFor 54 = .ok (.iload 8, 2) := by decide +kernel
theorem dX4_votesFor_56 : decode cX4_votesFor 56 = .ok (.aload_n 0, 1) := by decide +kernel
theorem dX4_votesFor_57 : decode cX4_votesFor 57 = .ok (.getfield 21, 3) := by decide +kernel
theorem dX4_votesFor_60 : decode cX4_votesFor 60 = .ok (.getfield 85, 3) := by decide +kernel
theorem dX4_votesFor_63 : decode cX4_votesFor 63 = .ok (.if_icmp .ge 84, 3) := by decide +kernel
theorem dX4_votesFor_66 : decode cX4_votesFor 66 = .ok (.iconst 1, 1) := by decide +kernel
theorem dX4_votesFor_67 : decode cX4_votesFor 67 = .ok (.iload 7, 2) := by decide +kernel
theorem dX4_votesFor_69 : decode cX4_votesFor 69 = .ok (.ishl, 1) := by decide +kernel
theorem dX4_votesFor_70 : decode cX4_votesFor 70 = .ok (.iconst 1, 1) := by decide +kernel
theorem dX4_votesFor_71 : decode cX4_votesFor 71 = .ok (.iload 8, 2) := by decide +kernel
theorem dX4_votesFor_73 : decode cX4_votesFor 73 = .ok (.ishl, 1) := by decide +kernel
theorem dX4_votesFor_74 : decode cX4_votesFor 74 = .ok (.ior, 1) := by decide +kernel
theorem dX4_votesFor_75 : decode cX4_votesFor 75 = .ok (.istore 9, 2) := by decide +kernel
theorem dX4_votesFor_77 : decode cX4_votesFor 77 = .ok (.iload 5, 2) := by decide +kernel
theorem dX4_votesFor_79 : decode cX4_votesFor 79 = .ok (.iload 9, 2) := by decide +kernel
theorem dX4_votesFor_81 : decode cX4_votesFor 81 = .ok (.iconst (-1), 1) := by decide +kernel
theorem dX4_votesFor_82 : decode cX4_votesFor 82 = .ok (.ixor, 1) := by decide +kernel
theorem dX4_votesFor_83 : decode cX4_votesFor 83 = .ok (.iand, 1) := by decide +kernel
theorem dX4_votesFor_84 : decode cX4_votesFor 84 = .ok (.ifCond .ne 57, 3) := by decide +kernel
theorem dX4_votesFor_87 : decode cX4_votesFor 87 = .ok (.aload_n 0, 1) := by decide +kernel
theorem dX4_votesFor_88 : decode cX4_votesFor 88 = .ok (.getfield 9, 3) := by decide +kernel
theorem dX4_votesFor_91 : decode cX4_votesFor 91 = .ok (.getfield 54, 3) := by decide +kernel
theorem dX4_votesFor_94 : decode cX4_votesFor 94 = .ok (.aload_n 0, 1) := by decide +kernel
theorem dX4_votesFor_95 : decode cX4_votesFor 95 = .ok (.getfield 9, 3) := by decide +kernel
theorem dX4_votesFor_98 : decode cX4_votesFor 98 = .ok (.getfield 58, 3) := by decide +kernel
theorem dX4_votesFor_101 : decode cX4_votesFor 101 = .ok (.iload 4, 2) := by decide +kernel
theorem dX4_votesFor_103 : decode cX4_votesFor 103 = .ok (.aload_n 0, 1) := by decide +kernel
theorem dX4_votesFor_104 : decode cX4_votesFor 104 = .ok (.getfield 21, 3) := by decide +kernel
theorem dX4_votesFor_107 : decode cX4_votesFor 107 = .ok (.iload_n 1, 1) := by decide +kernel
theorem dX4_votesFor_108 : decode cX4_votesFor 108 = .ok (.invokevirtual 130, 3) := by decide +kernel
theorem dX4_votesFor_111 : decode cX4_votesFor 111 = .ok (.iload 9, 2) := by decide +kernel
theorem dX4_votesFor_113 : decode cX4_votesFor 113 = .ok (.invokevirtual 62, 3) := by decide +kernel
theorem dX4_votesFor_116 : decode cX4_votesFor 116 = .ok (.iload 6, 2) := by decide +kernel
theorem dX4_votesFor_118 : decode cX4_votesFor 118 = .ok (.aload_n 0, 1) := by decide +kernel
theorem dX4_votesFor_119 : decode cX4_votesFor 119 = .ok (.getfield 9, 3) := by decide +kernel
theorem dX4_votesFor_122 : decode cX4_votesFor 122 = .ok (.getfield 54, 3) := by decide +kernel
theorem dX4_votesFor_125 : decode cX4_votesFor 125 = .ok (.iload_n 3, 1) := by decide +kernel
theorem dX4_votesFor_126 : decode cX4_votesFor 126 = .ok (.invokevirtual 68, 3) := by decide +kernel
theorem dX4_votesFor_129 : decode cX4_votesFor 129 = .ok (.iload_n 2, 1) := by decide +kernel
theorem dX4_votesFor_130 : decode cX4_votesFor 130 = .ok (.if_icmp .ne 7, 3) := by decide +kernel
theorem dX4_votesFor_133 : decode cX4_votesFor 133 = .ok (.iconst 1, 1) := by decide +kernel
theorem dX4_votesFor_134 : decode cX4_votesFor 134 = .ok (.goto 4, 3) := by decide +kernel
theorem dX4_votesFor_137 : decode cX4_votesFor 137 = .ok (.iconst 0, 1) := by decide +kernel
theorem dX4_votesFor_138 : decode cX4_votesFor 138 = .ok (.iadd, 1) := by decide +kernel
theorem dX4_votesFor_139 : decode cX4_votesFor 139 = .ok (.istore 6, 2) := by decide +kernel
theorem dX4_votesFor_141 : decode cX4_votesFor 141 = .ok (.iinc 8 1, 3) := by decide +kernel
theorem dX4_votesFor_144 : decode cX4_votesFor 144 = .ok (.goto (-90), 3) := by decide +kernel
theorem dX4_votesFor_147 : decode cX4_votesFor 147 = .ok (.iinc 7 1, 3) := by decide +kernel
theorem dX4_votesFor_150 : decode cX4_votesFor 150 = .ok (.goto (-114), 3) := by decide +kernel
theorem dX4_votesFor_153 : decode cX4_votesFor 153 = .ok (.iload 6, 2) := by decide +kernel
theorem dX4_votesFor_155 : decode cX4_votesFor 155 = .ok (.ireturn, 1) := by decide +kernel
theorem dX8_countReads_0 : decode cX8_countReads 0 = .ok (.iconst 0, 1) := by decide +kernel
theorem dX8_countReads_1 : decode cX8_countReads 1 = .ok (.istore_n 3, 1) := by decide +kernel
theorem dX8_countReads_2 : decode cX8_countReads 2 = .ok (.iload_n 3, 1) := by decide +kernel
theorem dX8_countReads_3 : decode cX8_countReads 3 = .ok (.aload_n 0, 1) := by decide +kernel
theorem dX8_countReads_4 : decode cX8_countReads 4 = .ok (.getfield 18, 3) := by decide +kernel
theorem dX8_countReads_7 : decode cX8_countReads 7 = .ok (.getfield 35, 3) := by decide +kernel
theorem dX8_countReads_10 : decode cX8_countReads 10 = .ok (.if_icmp .ge 37, 3) := by decide +kernel
theorem dX8_countReads_13 : decode cX8_countReads 13 = .ok (.iload_n 2, 1) := by decide +kernel
theorem dX8_countReads_14 : decode cX8_countReads 14 = .ok (.iload_n 3, 1) := by decide +kernel
theorem dX8_countReads_15 : decode cX8_countReads 15 = .ok (.ishr, 1) := by decide +kernel
theorem dX8_countReads_16 : decode cX8_countReads 16 = .ok (.iconst 1, 1) := by decide +kernel
theorem dX8_countReads_17 : decode cX8_countReads 17 = .ok (.iand, 1) := by decide +kernel
theorem dX8_countReads_18 : decode cX8_countReads 18 = .ok (.ifCond .eq 23, 3) := by decide +kernel
theorem dX8_countReads_21 : decode cX8_countReads 21 = .ok (.aload_n 0, 1) := by decide +kernel
theorem dX8_countReads_22 : decode cX8_countReads 22 = .ok (.getfield 12, 3) := by decide +kernel
theorem dX8_countReads_25 : decode cX8_countReads 25 = .ok (.bipush 112, 2) := by decide +kernel
theorem dX8_countReads_27 : decode cX8_countReads 27 = .ok (.aload_n 0, 1) := by decide +kernel
theorem dX8_countReads_28 : decode cX8_countReads 28 = .ok (.getfield 18, 3) := by decide +kernel
theorem dX8_countReads_31 : decode cX8_countReads 31 = .ok (.iload_n 3, 1) := by decide +kernel
theorem dX8_countReads_32 : decode cX8_countReads 32 = .ok (.iload_n 1, 1) := by decide +kernel
theorem dX8_countReads_33 : decode cX8_countReads 33 = .ok (.invokevirtual 41, 3) := by decide +kernel
theorem dX8_countReads_36 : decode cX8_countReads 36 = .ok (.iadd, 1) := by decide +kernel
theorem dX8_countReads_37 : decode cX8_countReads 37 = .ok (.iconst 1, 1) := by decide +kernel
theorem dX8_countReads_38 : decode cX8_countReads 38 = .ok (.invokevirtual 97, 3) := by decide +kernel
theorem dX8_countReads_41 : decode cX8_countReads 41 = .ok (.iinc 3 1, 3) := by decide +kernel
theorem dX8_countReads_44 : decode cX8_countReads 44 = .ok (.goto (-42), 3) := by decide +kernel
theorem dX8_countReads_47 : decode cX8_countReads 47 = .ok (.return_, 1) := by decide +kernel
theorem dX8_store_0 : decode cX8_store 0 = .ok (.iconst 0, 1) := by decide +kernel
theorem dX8_store_1 : decode cX8_store 1 = .ok (.istore 4, 2) := by decide +kernel
theorem dX8_store_3 : decode cX8_store 3 = .ok (.iload 4, 2) := by decide +kernel
theorem dX8_store_5 : decode cX8_store 5 = .ok (.aload_n 0, 1) := by decide +kernel
theorem dX8_store_6 : decode cX8_store 6 = .ok (.getfield 18, 3) := by decide +kernel
theorem dX8_store_9 : decode cX8_store 9 = .ok (.getfield 35, 3) := by decide +kernel
theorem dX8_store_12 : decode cX8_store 12 = .ok (.if_icmp .ge 63, 3) := by decide +kernel
theorem dX8_store_15 : decode cX8_store 15 = .ok (.iload_n 3, 1) := by decide +kernel
theorem dX8_store_16 : decode cX8_store 16 = .ok (.iload 4, 2) := by decide +kernel
theorem dX8_store_18 : decode cX8_store 18 = .ok (.ishr, 1) := by decide +kernel
theorem dX8_store_19 : decode cX8_store 19 = .ok (.iconst 1, 1) := by decide +kernel
theorem dX8_store_20 : decode cX8_store 20 = .ok (.iand, 1) := by decide +kernel
theorem dX8_store_21 : decode cX8_store 21 = .ok (.ifCond .eq 48, 3) := by decide +kernel
theorem dX8_store_24 : decode cX8_store 24 = .ok (.aload_n 0, 1) := by decide +kernel
theorem dX8_store_25 : decode cX8_store 25 = .ok (.getfield 18, 3) := by decide +kernel
theorem dX8_store_28 : decode cX8_store 28 = .ok (.iload 4, 2) := by decide +kernel
theorem dX8_store_30 : decode cX8_store 30 = .ok (.iload_n 1, 1) := by decide +kernel
theorem dX8_store_31 : decode cX8_store 31 = .ok (.invokevirtual 41, 3) := by decide +kernel
theorem dX8_store_34 : decode cX8_store 34 = .ok (.istore 5, 2) := by decide +kernel
theorem dX8_store_36 : decode cX8_store 36 = .ok (.aload_n 0, 1) := by decide +kernel
theorem dX8_store_37 : decode cX8_store 37 = .ok (.getfield 12, 3) := by decide +kernel
theorem dX8_store_40 : decode cX8_store 40 = .ok (.iload 5, 2) := by decide +kernel
theorem dX8_store_42 : decode cX8_store 42 = .ok (.iload_n 1, 1) := by decide +kernel
theorem dX8_store_43 : decode cX8_store 43 = .ok (.iload_n 2, 1) := by decide +kernel
theorem dX8_store_44 : decode cX8_store 44 = .ok (.aload_n 0, 1) := by decide +kernel
theorem dX8_store_45 : decode cX8_store 45 = .ok (.getfield 27, 3) := by decide +kernel
theorem dX8_store_48 : decode cX8_store 48 = .ok (.iload 4, 2) := by decide +kernel
theorem dX8_store_50 : decode cX8_store 50 = .ok (.invokevirtual 77, 3) := by decide +kernel
theorem dX8_store_53 : decode cX8_store 53 = .ok (.invokevirtual 101, 3) := by decide +kernel
theorem dX8_store_56 : decode cX8_store 56 = .ok (.aload_n 0, 1) := by decide +kernel
theorem dX8_store_57 : decode cX8_store 57 = .ok (.getfield 12, 3) := by decide +kernel
theorem dX8_store_60 : decode cX8_store 60 = .ok (.bipush 120, 2) := by decide +kernel
theorem dX8_store_62 : decode cX8_store 62 = .ok (.iload 5, 2) := by decide +kernel
theorem dX8_store_64 : decode cX8_store 64 = .ok (.iadd, 1) := by decide +kernel
theorem dX8_store_65 : decode cX8_store 65 = .ok (.iconst 1, 1) := by decide +kernel
theorem dX8_store_66 : decode cX8_store 66 = .ok (.invokevirtual 97, 3) := by decide +kernel
theorem dX8_store_69 : decode cX8_store 69 = .ok (.iinc 4 1, 3) := by decide +kernel
theorem dX8_store_72 : decode cX8_store 72 = .ok (.goto (-69), 3) := by decide +kernel
theorem dX8_store_75 : decode cX8_store 75 = .ok (.return_, 1) := by decide +kernel
