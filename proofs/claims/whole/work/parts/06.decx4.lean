theorem dX8_doClean_0 : decode cX8_doClean 0 = .ok (.iconst 0, 1) := by decide +kernel
theorem dX8_doClean_1 : decode cX8_doClean 1 = .ok (.istore_n 1, 1) := by decide +kernel
theorem dX8_doClean_2 : decode cX8_doClean 2 = .ok (.iconst 0, 1) := by decide +kernel
theorem dX8_doClean_3 : decode cX8_doClean 3 = .ok (.istore_n 2, 1) := by decide +kernel
theorem dX8_doClean_4 : decode cX8_doClean 4 = .ok (.iload_n 2, 1) := by decide +kernel
theorem dX8_doClean_5 : decode cX8_doClean 5 = .ok (.aload_n 0, 1) := by decide +kernel
theorem dX8_doClean_6 : decode cX8_doClean 6 = .ok (.getfield 18, 3) := by decide +kernel
theorem dX8_doClean_9 : decode cX8_doClean 9 = .ok (.getfield 154, 3) := by decide +kernel
theorem dX8_doClean_12 : decode cX8_doClean 12 = .ok (.if_icmp .ge 33, 3) := by decide +kernel
theorem dX8_doClean_15 : decode cX8_doClean 15 = .ok (.aload_n 0, 1) := by decide +kernel
theorem dX8_doClean_16 : decode cX8_doClean 16 = .ok (.iload_n 2, 1) := by decide +kernel
theorem dX8_doClean_17 : decode cX8_doClean 17 = .ok (.invokevirtual 157, 3) := by decide +kernel
theorem dX8_doClean_20 : decode cX8_doClean 20 = .ok (.ifCond .eq 19, 3) := by decide +kernel
theorem dX8_doClean_23 : decode cX8_doClean 23 = .ok (.aload_n 0, 1) := by decide +kernel
theorem dX8_doClean_24 : decode cX8_doClean 24 = .ok (.iload_n 2, 1) := by decide +kernel
theorem dX8_doClean_25 : decode cX8_doClean 25 = .ok (.invokevirtual 67, 3) := by decide +kernel
theorem dX8_doClean_28 : decode cX8_doClean 28 = .ok (.ifCond .ne 11, 3) := by decide +kernel
theorem dX8_doClean_31 : decode cX8_doClean 31 = .ok (.aload_n 0, 1) := by decide +kernel
theorem dX8_doClean_32 : decode cX8_doClean 32 = .ok (.iload_n 2, 1) := by decide +kernel
theorem dX8_doClean_33 : decode cX8_doClean 33 = .ok (.invokevirtual 243, 3) := by decide +kernel
theorem dX8_doClean_36 : decode cX8_doClean 36 = .ok (.iinc 1 1, 3) := by decide +kernel
theorem dX8_doClean_39 : decode cX8_doClean 39 = .ok (.iinc 2 1, 3) := by decide +kernel
theorem dX8_doClean_42 : decode cX8_doClean 42 = .ok (.goto (-38), 3) := by decide +kernel
theorem dX8_doClean_45 : decode cX8_doClean 45 = .ok (.iload_n 1, 1) := by decide +kernel
theorem dX8_doClean_46 : decode cX8_doClean 46 = .ok (.ireturn, 1) := by decide +kernel
theorem dX8_doFull_0 : decode cX8_doFull 0 = .ok (.iconst 0, 1) := by decide +kernel
theorem dX8_doFull_1 : decode cX8_doFull 1 = .ok (.istore 5, 2) := by decide +kernel
theorem dX8_doFull_3 : decode cX8_doFull 3 = .ok (.iload 5, 2) := by decide +kernel
theorem dX8_doFull_5 : decode cX8_doFull 5 = .ok (.aload_n 0, 1) := by decide +kernel
theorem dX8_doFull_6 : decode cX8_doFull 6 = .ok (.getfield 18, 3) := by decide +kernel
theorem dX8_doFull_9 : decode cX8_doFull 9 = .ok (.getfield 246, 3) := by decide +kernel
theorem dX8_doFull_12 : decode cX8_doFull 12 = .ok (.if_icmp .ge 29, 3) := by decide +kernel
theorem dX8_doFull_15 : decode cX8_doFull 15 = .ok (.aload_n 0, 1) := by decide +kernel
theorem dX8_doFull_16 : decode cX8_doFull 16 = .ok (.getfield 27, 3) := by decide +kernel
theorem dX8_doFull_19 : decode cX8_doFull 19 = .ok (.iload 5, 2) := by decide +kernel
theorem dX8_doFull_21 : decode cX8_doFull 21 = .ok (.iload_n 3, 1) := by decide +kernel
theorem dX8_doFull_22 : decode cX8_doFull 22 = .ok (.iload 5, 2) := by decide +kernel
theorem dX8_doFull_24 : decode cX8_doFull 24 = .ok (.iload 4, 2) := by decide +kernel
theorem dX8_doFull_26 : decode cX8_doFull 26 = .ok (.imul, 1) := by decide +kernel
theorem dX8_doFull_27 : decode cX8_doFull 27 = .ok (.iadd, 1) := by decide +kernel
theorem dX8_doFull_28 : decode cX8_doFull 28 = .ok (.sipush 255, 3) := by decide +kernel
theorem dX8_doFull_31 : decode cX8_doFull 31 = .ok (.iand, 1) := by decide +kernel
theorem dX8_doFull_32 : decode cX8_doFull 32 = .ok (.invokevirtual 199, 3) := by decide +kernel
theorem dX8_doFull_35 : decode cX8_doFull 35 = .ok (.iinc 5 1, 3) := by decide +kernel
theorem dX8_doFull_38 : decode cX8_doFull 38 = .ok (.goto (-35), 3) := by decide +kernel
theorem dX8_doFull_41 : decode cX8_doFull 41 = .ok (.aload_n 0, 1) := by decide +kernel
theorem dX8_doFull_42 : decode cX8_doFull 42 = .ok (.getfield 27, 3) := by decide +kernel
theorem dX8_doFull_45 : decode cX8_doFull 45 = .ok (.invokevirtual 202, 3) := by decide +kernel
theorem dX8_doFull_48 : decode cX8_doFull 48 = .ok (.aload_n 0, 1) := by decide +kernel
theorem dX8_doFull_49 : decode cX8_doFull 49 = .ok (.getfield 18, 3) := by decide +kernel
theorem dX8_doFull_52 : decode cX8_doFull 52 = .ok (.getfield 88, 3) := by decide +kernel
theorem dX8_doFull_55 : decode cX8_doFull 55 = .ok (.aload_n 0, 1) := by decide +kernel
theorem dX8_doFull_56 : decode cX8_doFull 56 = .ok (.iload_n 1, 1) := by decide +kernel
theorem dX8_doFull_57 : decode cX8_doFull 57 = .ok (.invokevirtual 67, 3) := by decide +kernel
theorem dX8_doFull_60 : decode cX8_doFull 60 = .ok (.iconst (-1), 1) := by decide +kernel
theorem dX8_doFull_61 : decode cX8_doFull 61 = .ok (.ixor, 1) := by decide +kernel
theorem dX8_doFull_62 : decode cX8_doFull 62 = .ok (.iand, 1) := by decide +kernel
theorem dX8_doFull_63 : decode cX8_doFull 63 = .ok (.istore 5, 2) := by decide +kernel
theorem dX8_doFull_65 : decode cX8_doFull 65 = .ok (.aload_n 0, 1) := by decide +kernel
theorem dX8_doFull_66 : decode cX8_doFull 66 = .ok (.iload_n 1, 1) := by decide +kernel
theorem dX8_doFull_67 : decode cX8_doFull 67 = .ok (.iload_n 2, 1) := by decide +kernel
theorem dX8_doFull_68 : decode cX8_doFull 68 = .ok (.iload 5, 2) := by decide +kernel
theorem dX8_doFull_70 : decode cX8_doFull 70 = .ok (.invokevirtual 208, 3) := by decide +kernel
theorem dX8_doFull_73 : decode cX8_doFull 73 = .ok (.iload 5, 2) := by decide +kernel
theorem dX8_doFull_75 : decode cX8_doFull 75 = .ok (.invokestatic 56, 3) := by decide +kernel
theorem dX8_doFull_78 : decode cX8_doFull 78 = .ok (.ireturn, 1) := by decide +kernel
theorem dX8_carryOut_0 : decode cX8_carryOut 0 = .ok (.iload_n 1, 1) := by decide +kernel
theorem dX8_carryOut_1 : decode cX8_carryOut 1 = .ok (.tableswitch 119 0 8 #[51, 58, 64, 70, 77, 83, 94, 103, 108], 51) := by decide +kernel
theorem dX8_carryOut_52 : decode cX8_carryOut 52 = .ok (.aload_n 0, 1) := by decide +kernel
theorem dX8_carryOut_53 : decode cX8_carryOut 53 = .ok (.iload_n 2, 1) := by decide +kernel
theorem dX8_carryOut_54 : decode cX8_carryOut 54 = .ok (.iload_n 3, 1) := by decide +kernel
theorem dX8_carryOut_55 : decode cX8_carryOut 55 = .ok (.invokevirtual 166, 3) := by decide +kernel
theorem dX8_carryOut_58 : decode cX8_carryOut 58 = .ok (.ireturn, 1) := by decide +kernel
theorem dX8_carryOut_59 : decode cX8_carryOut 59 = .ok (.aload_n 0, 1) := by decide +kernel
theorem dX8_carryOut_60 : decode cX8_carryOut 60 = .ok (.iload_n 2, 1) := by decide +kernel
theorem dX8_carryOut_61 : decode cX8_carryOut 61 = .ok (.invokevirtual 169, 3) := by decide +kernel
theorem dX8_carryOut_64 : decode cX8_carryOut 64 = .ok (.ireturn, 1) := by decide +kernel
theorem dX8_carryOut_65 : decode cX8_carryOut 65 = .ok (.aload_n 0, 1) := by decide +kernel
theorem dX8_carryOut_66 : decode cX8_carryOut 66 = .ok (.iload_n 2, 1) := by decide +kernel
theorem dX8_carryOut_67 : decode cX8_carryOut 67 = .ok (.invokevirtual 172, 3) := by decide +kernel
theorem dX8_carryOut_70 : decode cX8_carryOut 70 = .ok (.ireturn, 1) := by decide +kernel
theorem dX8_carryOut_71 : decode cX8_carryOut 71 = .ok (.aload_n 0, 1) := by decide +kernel
theorem dX8_carryOut_72 : decode cX8_carryOut 72 = .ok (.iload_n 2, 1) := by decide +kernel
theorem dX8_carryOut_73 : decode cX8_carryOut 73 = .ok (.iload_n 3, 1) := by decide +kernel
theorem dX8_carryOut_74 : decode cX8_carryOut 74 = .ok (.invokevirtual 175, 3) := by decide +kernel
theorem dX8_carryOut_77 : decode cX8_carryOut 77 = .ok (.ireturn, 1) := by decide +kernel
theorem dX8_carryOut_78 : decode cX8_carryOut 78 = .ok (.aload_n 0, 1) := by decide +kernel
theorem dX8_carryOut_79 : decode cX8_carryOut 79 = .ok (.iload_n 2, 1) := by decide +kernel
theorem dX8_carryOut_80 : decode cX8_carryOut 80 = .ok (.invokevirtual 178, 3) := by decide +kernel
theorem dX8_carryOut_83 : decode cX8_carryOut 83 = .ok (.ireturn, 1) := by decide +kernel
theorem dX8_carryOut_84 : decode cX8_carryOut 84 = .ok (.aload_n 0, 1) := by decide +kernel
theorem dX8_carryOut_85 : decode cX8_carryOut 85 = .ok (.iload_n 2, 1) := by decide +kernel
theorem dX8_carryOut_86 : decode cX8_carryOut 86 = .ok (.iload_n 3, 1) := by decide +kernel
theorem dX8_carryOut_87 : decode cX8_carryOut 87 = .ok (.iload 4, 2) := by decide +kernel
theorem dX8_carryOut_89 : decode cX8_carryOut 89 = .ok (.iload 5, 2) := by decide +kernel
theorem dX8_carryOut_91 : decode cX8_carryOut 91 = .ok (.invokevirtual 181, 3) := by decide +kernel
theorem dX8_carryOut_94 : decode cX8_carryOut 94 = .ok (.ireturn, 1) := by decide +kernel
theorem dX8_carryOut_95 : decode cX8_carryOut 95 = .ok (.aload_n 0, 1) := by decide +kernel
theorem dX8_carryOut_96 : decode cX8_carryOut 96 = .ok (.iload_n 2, 1) := by decide +kernel
theorem dX8_carryOut_97 : decode cX8_carryOut 97 = .ok (.iload_n 3, 1) := by decide +kernel
theorem dX8_carryOut_98 : decode cX8_carryOut 98 = .ok (.iload 4, 2) := by decide +kernel
theorem dX8_carryOut_100 : decode cX8_carryOut 100 = .ok (.invokevirtual 184, 3) := by decide +kernel
theorem dX8_carryOut_103 : decode cX8_carryOut 103 = .ok (.ireturn, 1) := by decide +kernel
theorem dX8_carryOut_104 : decode cX8_carryOut 104 = .ok (.aload_n 0, 1) := by decide +kernel
theorem dX8_carryOut_105 : decode cX8_carryOut 105 = .ok (.invokevirtual 187, 3) := by decide +kernel
theorem dX8_carryOut_108 : decode cX8_carryOut 108 = .ok (.ireturn, 1) := by decide +kernel
theorem dX8_carryOut_109 : decode cX8_carryOut 109 = .ok (.aload_n 0, 1) := by decide +kernel
theorem dX8_carryOut_110 : decode cX8_carryOut 110 = .ok (.iload_n 2, 1) := by decide +kernel
theorem dX8_carryOut_111 : decode cX8_carryOut 111 = .ok (.iload_n 3, 1) := by decide +kernel
theorem dX8_carryOut_112 : decode cX8_carryOut 112 = .ok (.iload 4, 2) := by decide +kernel
theorem dX8_carryOut_114 : decode cX8_carryOut 114 = .ok (.iload 5, 2) := by decide +kernel
theorem dX8_carryOut_116 : decode cX8_carryOut 116 = .ok (.invokevirtual 190, 3) := by decide +kernel
theorem dX8_carryOut_119 : decode cX8_carryOut 119 = .ok (.ireturn, 1) := by decide +kernel
theorem dX8_carryOut_120 : decode cX8_carryOut 120 = .ok (.iconst (-1), 1) := by decide +kernel
theorem dX8_carryOut_121 : decode cX8_carryOut 121 = .ok (.ireturn, 1) := by decide +kernel
theorem dX8_doneOf_0 : decode cX8_doneOf 0 = .ok (.iconst 0, 1) := by decide +kernel
theorem dX8_doneOf_1 : decode cX8_doneOf 1 = .ok (.istore_n 2, 1) := by decide +kernel
theorem dX8_doneOf_2 : decode cX8_doneOf 2 = .ok (.iload_n 2, 1) := by decide +kernel
theorem dX8_doneOf_3 : decode cX8_doneOf 3 = .ok (.aload_n 1, 1) := by decide +kernel
theorem dX8_doneOf_4 : decode cX8_doneOf 4 = .ok (.invokevirtual 249, 3) := by decide +kernel
theorem dX8_doneOf_7 : decode cX8_doneOf 7 = .ok (.if_icmp .ge 79, 3) := by decide +kernel
theorem dX8_doneOf_10 : decode cX8_doneOf 10 = .ok (.aload_n 1, 1) := by decide +kernel
theorem dX8_doneOf_11 : decode cX8_doneOf 11 = .ok (.iload_n 2, 1) := by decide +kernel
theorem dX8_doneOf_12 : decode cX8_doneOf 12 = .ok (.iconst 0, 1) := by decide +kernel
theorem dX8_doneOf_13 : decode cX8_doneOf 13 = .ok (.invokevirtual 254, 3) := by decide +kernel
theorem dX8_doneOf_16 : decode cX8_doneOf 16 = .ok (.istore_n 3, 1) := by decide +kernel
theorem dX8_doneOf_17 : decode cX8_doneOf 17 = .ok (.aload_n 1, 1) := by decide +kernel
theorem dX8_doneOf_18 : decode cX8_doneOf 18 = .ok (.iload_n 2, 1) := by decide +kernel
theorem dX8_doneOf_19 : decode cX8_doneOf 19 = .ok (.iconst 1, 1) := by decide +kernel
theorem dX8_doneOf_20 : decode cX8_doneOf 20 = .ok (.invokevirtual 254, 3) := by decide +kernel
theorem dX8_doneOf_23 : decode cX8_doneOf 23 = .ok (.istore 4, 2) := by decide +kernel
theorem dX8_doneOf_25 : decode cX8_doneOf 25 = .ok (.aload_n 1, 1) := by decide +kernel
theorem dX8_doneOf_26 : decode cX8_doneOf 26 = .ok (.iload_n 2, 1) := by decide +kernel
theorem dX8_doneOf_27 : decode cX8_doneOf 27 = .ok (.iconst 2, 1) := by decide +kernel
theorem dX8_doneOf_28 : decode cX8_doneOf 28 = .ok (.invokevirtual 254, 3) := by decide +kernel
theorem dX8_doneOf_31 : decode cX8_doneOf 31 = .ok (.istore 5, 2) := by decide +kernel
theorem dX8_doneOf_33 : decode cX8_doneOf 33 = .ok (.aload_n 1, 1) := by decide +kernel
theorem dX8_doneOf_34 : decode cX8_doneOf 34 = .ok (.iload_n 2, 1) := by decide +kernel
theorem dX8_doneOf_35 : decode cX8_doneOf 35 = .ok (.iconst 3, 1) := by decide +kernel
theorem dX8_doneOf_36 : decode cX8_doneOf 36 = .ok (.invokevirtual 254, 3) := by decide +kernel
theorem dX8_doneOf_39 : decode cX8_doneOf 39 = .ok (.istore 6, 2) := by decide +kernel
theorem dX8_doneOf_41 : decode cX8_doneOf 41 = .ok (.aload_n 0, 1) := by decide +kernel
theorem dX8_doneOf_42 : decode cX8_doneOf 42 = .ok (.aload_n 1, 1) := by decide +kernel
theorem dX8_doneOf_43 : decode cX8_doneOf 43 = .ok (.iload_n 2, 1) := by decide +kernel
theorem dX8_doneOf_44 : decode cX8_doneOf 44 = .ok (.invokevirtual 257, 3) := by decide +kernel
theorem dX8_doneOf_47 : decode cX8_doneOf 47 = .ok (.iload_n 3, 1) := by decide +kernel
theorem dX8_doneOf_48 : decode cX8_doneOf 48 = .ok (.iload 4, 2) := by decide +kernel
theorem dX8_doneOf_50 : decode cX8_doneOf 50 = .ok (.iload 5, 2) := by decide +kernel
theorem dX8_doneOf_52 : decode cX8_doneOf 52 = .ok (.iload 6, 2) := by decide +kernel
theorem dX8_doneOf_54 : decode cX8_doneOf 54 = .ok (.invokevirtual 260, 3) := by decide +kernel
theorem dX8_doneOf_57 : decode cX8_doneOf 57 = .ok (.iconst (-1), 1) := by decide +kernel
theorem dX8_doneOf_58 : decode cX8_doneOf 58 = .ok (.if_icmp .eq 5, 3) := by decide +kernel
theorem dX8_doneOf_61 : decode cX8_doneOf 61 = .ok (.iload_n 2, 1) := by decide +kernel
theorem dX8_doneOf_62 : decode cX8_doneOf 62 = .ok (.ireturn, 1) := by decide +kernel
theorem dX8_doneOf_63 : decode cX8_doneOf 63 = .ok (.aload_n 0, 1) := by decide +kernel
theorem dX8_doneOf_64 : decode cX8_doneOf 64 = .ok (.aload_n 1, 1) := by decide +kernel
theorem dX8_doneOf_65 : decode cX8_doneOf 65 = .ok (.iload_n 2, 1) := by decide +kernel
theorem dX8_doneOf_66 : decode cX8_doneOf 66 = .ok (.invokevirtual 257, 3) := by decide +kernel
theorem dX8_doneOf_69 : decode cX8_doneOf 69 = .ok (.iload_n 3, 1) := by decide +kernel
theorem dX8_doneOf_70 : decode cX8_doneOf 70 = .ok (.iload 4, 2) := by decide +kernel
theorem dX8_doneOf_72 : decode cX8_doneOf 72 = .ok (.iload 5, 2) := by decide +kernel
theorem dX8_doneOf_74 : decode cX8_doneOf 74 = .ok (.iload 6, 2) := by decide +kernel
theorem dX8_doneOf_76 : decode cX8_doneOf 76 = .ok (.invokevirtual 264, 3) := by decide +kernel
theorem dX8_doneOf_79 : decode cX8_doneOf 79 = .ok (.pop, 1) := by decide +kernel
theorem dX8_doneOf_80 : decode cX8_doneOf 80 = .ok (.iinc 2 1, 3) := by decide +kernel
theorem dX8_doneOf_83 : decode cX8_doneOf 83 = .ok (.goto (-81), 3) := by decide +kernel
theorem dX8_doneOf_86 : decode cX8_doneOf 86 = .ok (.aload_n 1, 1) := by decide +kernel
theorem dX8_doneOf_87 : decode cX8_doneOf 87 = .ok (.invokevirtual 249, 3) := by decide +kernel
theorem dX8_doneOf_90 : decode cX8_doneOf 90 = .ok (.ireturn, 1) := by decide +kernel
theorem dX9_start_0 : decode cX9_start 0 = .ok (.iconst 0, 1) := by decide +kernel
theorem dX9_start_1 : decode cX9_start 1 = .ok (.istore_n 2, 1) := by decide +kernel
theorem dX9_start_2 : decode cX9_start 2 = .ok (.iload_n 2, 1) := by decide +kernel
theorem dX9_start_3 : decode cX9_start 3 = .ok (.sipush 144, 3) := by decide +kernel
theorem dX9_start_6 : decode cX9_start 6 = .ok (.if_icmp .ge 16, 3) := by decide +kernel
theorem dX9_start_9 : decode cX9_start 9 = .ok (.aload_n 0, 1) := by decide +kernel
theorem dX9_start_10 : decode cX9_start 10 = .ok (.getfield 11, 3) := by decide +kernel
theorem dX9_start_13 : decode cX9_start 13 = .ok (.iload_n 2, 1) := by decide +kernel
theorem dX9_start_14 : decode cX9_start 14 = .ok (.iconst 0, 1) := by decide +kernel
theorem dX9_start_15 : decode cX9_start 15 = .ok (.iastore, 1) := by decide +kernel
theorem dX9_start_16 : decode cX9_start 16 = .ok (.iinc 2 1, 3) := by decide +kernel
theorem dX9_start_19 : decode cX9_start 19 = .ok (.goto (-17), 3) := by decide +kernel
theorem dX9_start_22 : decode cX9_start 22 = .ok (.iconst 0, 1) := by decide +kernel
theorem dX9_start_23 : decode cX9_start 23 = .ok (.istore_n 2, 1) := by decide +kernel
theorem dX9_start_24 : decode cX9_start 24 = .ok (.iload_n 2, 1) := by decide +kernel
theorem dX9_start_25 : decode cX9_start 25 = .ok (.bipush 8, 2) := by decide +kernel
theorem dX9_start_27 : decode cX9_start 27 = .ok (.if_icmp .ge 22, 3) := by decide +kernel
theorem dX9_start_30 : decode cX9_start 30 = .ok (.aload_n 0, 1) := by decide +kernel
theorem dX9_start_31 : decode cX9_start 31 = .ok (.getfield 11, 3) := by decide +kernel
theorem dX9_start_34 : decode cX9_start 34 = .ok (.bipush 104, 2) := by decide +kernel
theorem dX9_start_36 : decode cX9_start 36 = .ok (.iload_n 2, 1) := by decide +kernel
theorem dX9_start_37 : decode cX9_start 37 = .ok (.iadd, 1) := by decide +kernel
theorem dX9_start_38 : decode cX9_start 38 = .ok (.aload_n 1, 1) := by decide +kernel
theorem dX9_start_39 : decode cX9_start 39 = .ok (.getfield 15, 3) := by decide +kernel
theorem dX9_start_42 : decode cX9_start 42 = .ok (.iastore, 1) := by decide +kernel
theorem dX9_start_43 : decode cX9_start 43 = .ok (.iinc 2 1, 3) := by decide +kernel
theorem dX9_start_46 : decode cX9_start 46 = .ok (.goto (-22), 3) := by decide +kernel
theorem dX9_start_49 : decode cX9_start 49 = .ok (.aload_n 0, 1) := by decide +kernel
theorem dX9_start_50 : decode cX9_start 50 = .ok (.getfield 11, 3) := by decide +kernel
theorem dX9_start_53 : decode cX9_start 53 = .ok (.sipush 136, 3) := by decide +kernel
theorem dX9_start_56 : decode cX9_start 56 = .ok (.aload_n 1, 1) := by decide +kernel
theorem dX9_start_57 : decode cX9_start 57 = .ok (.getfield 21, 3) := by decide +kernel
theorem dX9_start_60 : decode cX9_start 60 = .ok (.iastore, 1) := by decide +kernel
theorem dX9_start_61 : decode cX9_start 61 = .ok (.aload_n 0, 1) := by decide +kernel
theorem dX9_start_62 : decode cX9_start 62 = .ok (.getfield 11, 3) := by decide +kernel
theorem dX9_start_65 : decode cX9_start 65 = .ok (.sipush 141, 3) := by decide +kernel
theorem dX9_start_68 : decode cX9_start 68 = .ok (.iconst (-1), 1) := by decide +kernel
theorem dX9_start_69 : decode cX9_start 69 = .ok (.iastore, 1) := by decide +kernel
theorem dX9_start_70 : decode cX9_start 70 = .ok (.aload_n 0, 1) := by decide +kernel
theorem dX9_start_71 : decode cX9_start 71 = .ok (.getfield 11, 3) := by decide +kernel
theorem dX9_start_74 : decode cX9_start 74 = .ok (.sipush 142, 3) := by decide +kernel
theorem dX9_start_77 : decode cX9_start 77 = .ok (.iconst (-1), 1) := by decide +kernel
theorem dX9_start_78 : decode cX9_start 78 = .ok (.iastore, 1) := by decide +kernel
theorem dX9_start_79 : decode cX9_start 79 = .ok (.aload_n 0, 1) := by decide +kernel
theorem dX9_start_80 : decode cX9_start 80 = .ok (.getfield 11, 3) := by decide +kernel
theorem dX9_start_83 : decode cX9_start 83 = .ok (.sipush 143, 3) := by decide +kernel
theorem dX9_start_86 : decode cX9_start 86 = .ok (.iconst (-1), 1) := by decide +kernel
theorem dX9_start_87 : decode cX9_start 87 = .ok (.iastore, 1) := by decide +kernel
theorem dX9_start_88 : decode cX9_start 88 = .ok (.return_, 1) := by decide +kernel
theorem dX9_forgetCosts_0 : decode cX9_forgetCosts 0 = .ok (.iconst 0, 1) := by decide +kernel
theorem dX9_forgetCosts_1 : decode cX9_forgetCosts 1 = .ok (.istore_n 1, 1) := by decide +kernel
theorem dX9_forgetCosts_2 : decode cX9_forgetCosts 2 = .ok (.iload_n 1, 1) := by decide +kernel
theorem dX9_forgetCosts_3 : decode cX9_forgetCosts 3 = .ok (.bipush 8, 2) := by decide +kernel
theorem dX9_forgetCosts_5 : decode cX9_forgetCosts 5 = .ok (.if_icmp .ge 29, 3) := by decide +kernel
theorem dX9_forgetCosts_8 : decode cX9_forgetCosts 8 = .ok (.aload_n 0, 1) := by decide +kernel
theorem dX9_forgetCosts_9 : decode cX9_forgetCosts 9 = .ok (.getfield 11, 3) := by decide +kernel
theorem dX9_forgetCosts_12 : decode cX9_forgetCosts 12 = .ok (.bipush 112, 2) := by decide +kernel
theorem dX9_forgetCosts_14 : decode cX9_forgetCosts 14 = .ok (.iload_n 1, 1) := by decide +kernel
theorem dX9_forgetCosts_15 : decode cX9_forgetCosts 15 = .ok (.iadd, 1) := by decide +kernel
theorem dX9_forgetCosts_16 : decode cX9_forgetCosts 16 = .ok (.iconst 0, 1) := by decide +kernel
theorem dX9_forgetCosts_17 : decode cX9_forgetCosts 17 = .ok (.iastore, 1) := by decide +kernel
theorem dX9_forgetCosts_18 : decode cX9_forgetCosts 18 = .ok (.aload_n 0, 1) := by decide +kernel
theorem dX9_forgetCosts_19 : decode cX9_forgetCosts 19 = .ok (.getfield 11, 3) := by decide +kernel
theorem dX9_forgetCosts_22 : decode cX9_forgetCosts 22 = .ok (.bipush 120, 2) := by decide +kernel
theorem dX9_forgetCosts_24 : decode cX9_forgetCosts 24 = .ok (.iload_n 1, 1) := by decide +kernel
theorem dX9_forgetCosts_25 : decode cX9_forgetCosts 25 = .ok (.iadd, 1) := by decide +kernel
theorem dX9_forgetCosts_26 : decode cX9_forgetCosts 26 = .ok (.iconst 0, 1) := by decide +kernel
theorem dX9_forgetCosts_27 : decode cX9_forgetCosts 27 = .ok (.iastore, 1) := by decide +kernel
theorem dX9_forgetCosts_28 : decode cX9_forgetCosts 28 = .ok (.iinc 1 1, 3) := by decide +kernel
theorem dX9_forgetCosts_31 : decode cX9_forgetCosts 31 = .ok (.goto (-29), 3) := by decide +kernel
theorem dX9_forgetCosts_34 : decode cX9_forgetCosts 34 = .ok (.return_, 1) := by decide +kernel
theorem dX9_sumOfDisks_0 : decode cX9_sumOfDisks 0 = .ok (.iconst 0, 1) := by decide +kernel
theorem dX9_sumOfDisks_1 : decode cX9_sumOfDisks 1 = .ok (.istore_n 2, 1) := by decide +kernel
theorem dX9_sumOfDisks_2 : decode cX9_sumOfDisks 2 = .ok (.iconst 0, 1) := by decide +kernel
theorem dX9_sumOfDisks_3 : decode cX9_sumOfDisks 3 = .ok (.istore_n 3, 1) := by decide +kernel
theorem dX9_sumOfDisks_4 : decode cX9_sumOfDisks 4 = .ok (.iload_n 3, 1) := by decide +kernel
theorem dX9_sumOfDisks_5 : decode cX9_sumOfDisks 5 = .ok (.bipush 8, 2) := by decide +kernel
theorem dX9_sumOfDisks_7 : decode cX9_sumOfDisks 7 = .ok (.if_icmp .ge 19, 3) := by decide +kernel
theorem dX9_sumOfDisks_10 : decode cX9_sumOfDisks 10 = .ok (.iload_n 2, 1) := by decide +kernel
theorem dX9_sumOfDisks_11 : decode cX9_sumOfDisks 11 = .ok (.aload_n 0, 1) := by decide +kernel
theorem dX9_sumOfDisks_12 : decode cX9_sumOfDisks 12 = .ok (.iload_n 1, 1) := by decide +kernel
theorem dX9_sumOfDisks_13 : decode cX9_sumOfDisks 13 = .ok (.iload_n 3, 1) := by decide +kernel
theorem dX9_sumOfDisks_14 : decode cX9_sumOfDisks 14 = .ok (.iadd, 1) := by decide +kernel
theorem dX9_sumOfDisks_15 : decode cX9_sumOfDisks 15 = .ok (.invokevirtual 24, 3) := by decide +kernel
theorem dX9_sumOfDisks_18 : decode cX9_sumOfDisks 18 = .ok (.iadd, 1) := by decide +kernel
theorem dX9_sumOfDisks_19 : decode cX9_sumOfDisks 19 = .ok (.istore_n 2, 1) := by decide +kernel
theorem dX9_sumOfDisks_20 : decode cX9_sumOfDisks 20 = .ok (.iinc 3 1, 3) := by decide +kernel
theorem dX9_sumOfDisks_23 : decode cX9_sumOfDisks 23 = .ok (.goto (-19), 3) := by decide +kernel
theorem dX9_sumOfDisks_26 : decode cX9_sumOfDisks 26 = .ok (.iload_n 2, 1) := by decide +kernel
theorem dX9_sumOfDisks_27 : decode cX9_sumOfDisks 27 = .ok (.ireturn, 1) := by decide +kernel
theorem dX9_costEver_0 : decode cX9_costEver 0 = .ok (.aload_n 0, 1) := by decide +kernel
theorem dX9_costEver_1 : decode cX9_costEver 1 = .ok (.bipush 112, 2) := by decide +kernel
theorem dX9_costEver_3 : decode cX9_costEver 3 = .ok (.invokevirtual 28, 3) := by decide +kernel
theorem dX9_costEver_6 : decode cX9_costEver 6 = .ok (.aload_n 0, 1) := by decide +kernel
theorem dX9_costEver_7 : decode cX9_costEver 7 = .ok (.bipush 120, 2) := by decide +kernel
theorem dX9_costEver_9 : decode cX9_costEver 9 = .ok (.invokevirtual 28, 3) := by decide +kernel
theorem dX9_costEver_12 : decode cX9_costEver 12 = .ok (.iadd, 1) := by decide +kernel
theorem dX9_costEver_13 : decode cX9_costEver 13 = .ok (.ireturn, 1) := by decide +kernel
theorem dX9_copy_0 : decode cX9_copy 0 = .ok (.aload_n 1, 1) := by decide +kernel
theorem dX9_copy_1 : decode cX9_copy 1 = .ok (.getfield 11, 3) := by decide +kernel
theorem dX9_copy_4 : decode cX9_copy 4 = .ok (.iconst 0, 1) := by decide +kernel
theorem dX9_copy_5 : decode cX9_copy 5 = .ok (.aload_n 0, 1) := by decide +kernel
theorem dX9_copy_6 : decode cX9_copy 6 = .ok (.getfield 11, 3) := by decide +kernel
theorem dX9_copy_9 : decode cX9_copy 9 = .ok (.iconst 0, 1) := by decide +kernel
theorem dX9_copy_10 : decode cX9_copy 10 = .ok (.sipush 144, 3) := by decide +kernel
theorem dX9_copy_13 : decode cX9_copy 13 = .ok (.invokestatic 31, 3) := by decide +kernel
theorem dX9_copy_16 : decode cX9_copy 16 = .ok (.return_, 1) := by decide +kernel
theorem dX10_size_0 : decode cX10_size 0 = .ok (.aload_n 0, 1) := by decide +kernel
theorem dX10_size_1 : decode cX10_size 1 = .ok (.getfield 15, 3) := by decide +kernel
theorem dX10_size_4 : decode cX10_size 4 = .ok (.ireturn, 1) := by decide +kernel
theorem dX10_bytesIn_0 : decode cX10_bytesIn 0 = .ok (.iconst 0, 1) := by decide +kernel
theorem dX10_bytesIn_1 : decode cX10_bytesIn 1 = .ok (.istore_n 1, 1) := by decide +kernel
theorem dX10_bytesIn_2 : decode cX10_bytesIn 2 = .ok (.bipush 24, 2) := by decide +kernel
theorem dX10_bytesIn_4 : decode cX10_bytesIn 4 = .ok (.istore_n 2, 1) := by decide +kernel
theorem dX10_bytesIn_5 : decode cX10_bytesIn 5 = .ok (.iload_n 2, 1) := by decide +kernel
theorem dX10_bytesIn_6 : decode cX10_bytesIn 6 = .ok (.ifCond .lt 22, 3) := by decide +kernel
theorem dX10_bytesIn_9 : decode cX10_bytesIn 9 = .ok (.iload_n 0, 1) := by decide +kernel
theorem dX10_bytesIn_10 : decode cX10_bytesIn 10 = .ok (.iload_n 2, 1) := by decide +kernel
theorem dX10_bytesIn_11 : decode cX10_bytesIn 11 = .ok (.iushr, 1) := by decide +kernel
theorem dX10_bytesIn_12 : decode cX10_bytesIn 12 = .ok (.sipush 255, 3) := by decide +kernel
theorem dX10_bytesIn_15 : decode cX10_bytesIn 15 = .ok (.iand, 1) := by decide +kernel
theorem dX10_bytesIn_16 : decode cX10_bytesIn 16 = .ok (.ifCond .eq 6, 3) := by decide +kernel
theorem dX10_bytesIn_19 : decode cX10_bytesIn 19 = .ok (.iinc 1 1, 3) := by decide +kernel
theorem dX10_bytesIn_22 : decode cX10_bytesIn 22 = .ok (.iinc 2 (-8), 3) := by decide +kernel
theorem dX10_bytesIn_25 : decode cX10_bytesIn 25 = .ok (.goto (-20), 3) := by decide +kernel
theorem dX10_bytesIn_28 : decode cX10_bytesIn 28 = .ok (.iload_n 1, 1) := by decide +kernel
theorem dX10_bytesIn_29 : decode cX10_bytesIn 29 = .ok (.ireturn, 1) := by decide +kernel
theorem dX10_append_0 : decode cX10_append 0 = .ok (.bipush 24, 2) := by decide +kernel
theorem dX10_append_2 : decode cX10_append 2 = .ok (.istore_n 2, 1) := by decide +kernel
theorem dX10_append_3 : decode cX10_append 3 = .ok (.iload_n 2, 1) := by decide +kernel
theorem dX10_append_4 : decode cX10_append 4 = .ok (.ifCond .lt 58, 3) := by decide +kernel
theorem dX10_append_7 : decode cX10_append 7 = .ok (.iload_n 1, 1) := by decide +kernel
theorem dX10_append_8 : decode cX10_append 8 = .ok (.iload_n 2, 1) := by decide +kernel
theorem dX10_append_9 : decode cX10_append 9 = .ok (.iushr, 1) := by decide +kernel
theorem dX10_append_10 : decode cX10_append 10 = .ok (.sipush 255, 3) := by decide +kernel
theorem dX10_append_13 : decode cX10_append 13 = .ok (.iand, 1) := by decide +kernel
theorem dX10_append_14 : decode cX10_append 14 = .ok (.istore_n 3, 1) := by decide +kernel
theorem dX10_append_15 : decode cX10_append 15 = .ok (.iload_n 3, 1) := by decide +kernel
theorem dX10_append_16 : decode cX10_append 16 = .ok (.ifCond .eq 40, 3) := by decide +kernel
theorem dX10_append_19 : decode cX10_append 19 = .ok (.aload_n 0, 1) := by decide +kernel
theorem dX10_append_20 : decode cX10_append 20 = .ok (.getfield 15, 3) := by decide +kernel
theorem dX10_append_23 : decode cX10_append 23 = .ok (.ifCond .lt 33, 3) := by decide +kernel
theorem dX10_append_26 : decode cX10_append 26 = .ok (.aload_n 0, 1) := by decide +kernel
theorem dX10_append_27 : decode cX10_append 27 = .ok (.getfield 15, 3) := by decide +kernel
theorem dX10_append_30 : decode cX10_append 30 = .ok (.sipush 280, 3) := by decide +kernel
theorem dX10_append_33 : decode cX10_append 33 = .ok (.if_icmp .ge 23, 3) := by decide +kernel
theorem dX10_append_36 : decode cX10_append 36 = .ok (.aload_n 0, 1) := by decide +kernel
theorem dX10_append_37 : decode cX10_append 37 = .ok (.getfield 11, 3) := by decide +kernel
theorem dX10_append_40 : decode cX10_append 40 = .ok (.aload_n 0, 1) := by decide +kernel
theorem dX10_append_41 : decode cX10_append 41 = .ok (.getfield 15, 3) := by decide +kernel
theorem dX10_append_44 : decode cX10_append 44 = .ok (.iload_n 3, 1) := by decide +kernel
theorem dX10_append_45 : decode cX10_append 45 = .ok (.iastore, 1) := by decide +kernel
theorem dX10_append_46 : decode cX10_append 46 = .ok (.aload_n 0, 1) := by decide +kernel
theorem dX10_append_47 : decode cX10_append 47 = .ok (.dup, 1) := by decide +kernel
theorem dX10_append_48 : decode cX10_append 48 = .ok (.getfield 15, 3) := by decide +kernel
theorem dX10_append_51 : decode cX10_append 51 = .ok (.iconst 1, 1) := by decide +kernel
theorem dX10_append_52 : decode cX10_append 52 = .ok (.iadd, 1) := by decide +kernel
theorem dX10_append_53 : decode cX10_append 53 = .ok (.putfield 15, 3) := by decide +kernel
theorem dX10_append_56 : decode cX10_append 56 = .ok (.iinc 2 (-8), 3) := by decide +kernel
theorem dX10_append_59 : decode cX10_append 59 = .ok (.goto (-56), 3) := by decide +kernel
theorem dX10_append_62 : decode cX10_append 62 = .ok (.return_, 1) := by decide +kernel
theorem dX10_cut_0 : decode cX10_cut 0 = .ok (.iload_n 1, 1) := by decide +kernel
theorem dX10_cut_1 : decode cX10_cut 1 = .ok (.ifCond .lt 11, 3) := by decide +kernel
theorem dX10_cut_4 : decode cX10_cut 4 = .ok (.iload_n 1, 1) := by decide +kernel
theorem dX10_cut_5 : decode cX10_cut 5 = .ok (.aload_n 0, 1) := by decide +kernel
theorem dX10_cut_6 : decode cX10_cut 6 = .ok (.getfield 15, 3) := by decide +kernel
theorem dX10_cut_9 : decode cX10_cut 9 = .ok (.if_icmp .le 5, 3) := by decide +kernel
theorem dX10_cut_12 : decode cX10_cut 12 = .ok (.iconst 0, 1) := by decide +kernel
theorem dX10_cut_13 : decode cX10_cut 13 = .ok (.ireturn, 1) := by decide +kernel
theorem dX10_cut_14 : decode cX10_cut 14 = .ok (.aload_n 0, 1) := by decide +kernel
theorem dX10_cut_15 : decode cX10_cut 15 = .ok (.iload_n 1, 1) := by decide +kernel
theorem dX10_cut_16 : decode cX10_cut 16 = .ok (.putfield 15, 3) := by decide +kernel
theorem dX10_cut_19 : decode cX10_cut 19 = .ok (.iconst 1, 1) := by decide +kernel
theorem dX10_cut_20 : decode cX10_cut 20 = .ok (.ireturn, 1) := by decide +kernel
theorem dX10_byteCount_0 : decode cX10_byteCount 0 = .ok (.aload_n 0, 1) := by decide +kernel
theorem dX10_byteCount_1 : decode cX10_byteCount 1 = .ok (.getfield 34, 3) := by decide +kernel
theorem dX10_byteCount_4 : decode cX10_byteCount 4 = .ok (.ireturn, 1) := by decide +kernel
theorem dX10_byteAddress_0 : decode cX10_byteAddress 0 = .ok (.iload_n 1, 1) := by decide +kernel
theorem dX10_byteAddress_1 : decode cX10_byteAddress 1 = .ok (.ifCond .lt 28, 3) := by decide +kernel
theorem dX10_byteAddress_4 : decode cX10_byteAddress 4 = .ok (.iload_n 1, 1) := by decide +kernel
theorem dX10_byteAddress_5 : decode cX10_byteAddress 5 = .ok (.aload_n 0, 1) := by decide +kernel
theorem dX10_byteAddress_6 : decode cX10_byteAddress 6 = .ok (.getfield 34, 3) := by decide +kernel
theorem dX10_byteAddress_9 : decode cX10_byteAddress 9 = .ok (.if_icmp .ge 20, 3) := by decide +kernel
theorem dX10_byteAddress_12 : decode cX10_byteAddress 12 = .ok (.iload_n 1, 1) := by decide +kernel
theorem dX10_byteAddress_13 : decode cX10_byteAddress 13 = .ok (.bipush 16, 2) := by decide +kernel
theorem dX10_byteAddress_15 : decode cX10_byteAddress 15 = .ok (.if_icmp .ge 14, 3) := by decide +kernel
theorem dX10_byteAddress_18 : decode cX10_byteAddress 18 = .ok (.aload_n 0, 1) := by decide +kernel
theorem dX10_byteAddress_19 : decode cX10_byteAddress 19 = .ok (.getfield 31, 3) := by decide +kernel
theorem dX10_byteAddress_22 : decode cX10_byteAddress 22 = .ok (.iconst 2, 1) := by decide +kernel
theorem dX10_byteAddress_23 : decode cX10_byteAddress 23 = .ok (.iload_n 1, 1) := by decide +kernel
theorem dX10_byteAddress_24 : decode cX10_byteAddress 24 = .ok (.imul, 1) := by decide +kernel
theorem dX10_byteAddress_25 : decode cX10_byteAddress 25 = .ok (.iaload, 1) := by decide +kernel
theorem dX10_byteAddress_26 : decode cX10_byteAddress 26 = .ok (.goto 4, 3) := by decide +kernel
theorem dX10_byteAddress_29 : decode cX10_byteAddress 29 = .ok (.iconst (-1), 1) := by decide +kernel
theorem dX10_byteAddress_30 : decode cX10_byteAddress 30 = .ok (.ireturn, 1) := by decide +kernel
theorem dX10_byteValue_0 : decode cX10_byteValue 0 = .ok (.iload_n 1, 1) := by decide +kernel
theorem dX10_byteValue_1 : decode cX10_byteValue 1 = .ok (.ifCond .lt 30, 3) := by decide +kernel
theorem dX10_byteValue_4 : decode cX10_byteValue 4 = .ok (.iload_n 1, 1) := by decide +kernel
theorem dX10_byteValue_5 : decode cX10_byteValue 5 = .ok (.aload_n 0, 1) := by decide +kernel
theorem dX10_byteValue_6 : decode cX10_byteValue 6 = .ok (.getfield 34, 3) := by decide +kernel
theorem dX10_byteValue_9 : decode cX10_byteValue 9 = .ok (.if_icmp .ge 22, 3) := by decide +kernel
theorem dX10_byteValue_12 : decode cX10_byteValue 12 = .ok (.iload_n 1, 1) := by decide +kernel
theorem dX10_byteValue_13 : decode cX10_byteValue 13 = .ok (.bipush 16, 2) := by decide +kernel
theorem dX10_byteValue_15 : decode cX10_byteValue 15 = .ok (.if_icmp .ge 16, 3) := by decide +kernel
theorem dX10_byteValue_18 : decode cX10_byteValue 18 = .ok (.aload_n 0, 1) := by decide +kernel
theorem dX10_byteValue_19 : decode cX10_byteValue 19 = .ok (.getfield 31, 3) := by decide +kernel
theorem dX10_byteValue_22 : decode cX10_byteValue 22 = .ok (.iconst 2, 1) := by decide +kernel
theorem dX10_byteValue_23 : decode cX10_byteValue 23 = .ok (.iload_n 1, 1) := by decide +kernel
theorem dX10_byteValue_24 : decode cX10_byteValue 24 = .ok (.imul, 1) := by decide +kernel
theorem dX10_byteValue_25 : decode cX10_byteValue 25 = .ok (.iconst 1, 1) := by decide +kernel
theorem dX10_byteValue_26 : decode cX10_byteValue 26 = .ok (.iadd, 1) := by decide +kernel
theorem dX10_byteValue_27 : decode cX10_byteValue 27 = .ok (.iaload, 1) := by decide +kernel
theorem dX10_byteValue_28 : decode cX10_byteValue 28 = .ok (.goto 4, 3) := by decide +kernel
theorem dX10_byteValue_31 : decode cX10_byteValue 31 = .ok (.iconst 0, 1) := by decide +kernel
theorem dX10_byteValue_32 : decode cX10_byteValue 32 = .ok (.ireturn, 1) := by decide +kernel
theorem dX10_script_0 : decode cX10_script 0 = .ok (.aload_n 0, 1) := by decide +kernel
theorem dX10_script_1 : decode cX10_script 1 = .ok (.getfield 44, 3) := by decide +kernel
theorem dX10_script_4 : decode cX10_script 4 = .ok (.areturn, 1) := by decide +kernel
theorem dX10_useDefaults_0 : decode cX10_useDefaults 0 = .ok (.iload_n 1, 1) := by decide +kernel
theorem dX10_useDefaults_1 : decode cX10_useDefaults 1 = .ok (.iconst 0, 1) := by decide +kernel
theorem dX10_useDefaults_2 : decode cX10_useDefaults 2 = .ok (.invokestatic 71, 3) := by decide +kernel
theorem dX10_useDefaults_5 : decode cX10_useDefaults 5 = .ok (.istore_n 3, 1) := by decide +kernel
theorem dX10_useDefaults_6 : decode cX10_useDefaults 6 = .ok (.iload_n 3, 1) := by decide +kernel
theorem dX10_useDefaults_7 : decode cX10_useDefaults 7 = .ok (.iload_n 2, 1) := by decide +kernel
theorem dX10_useDefaults_8 : decode cX10_useDefaults 8 = .ok (.if_icmp .gt 26, 3) := by decide +kernel
theorem dX10_useDefaults_11 : decode cX10_useDefaults 11 = .ok (.iload_n 3, 1) := by decide +kernel
theorem dX10_useDefaults_12 : decode cX10_useDefaults 12 = .ok (.bipush 7, 2) := by decide +kernel
theorem dX10_useDefaults_14 : decode cX10_useDefaults 14 = .ok (.if_icmp .ge 20, 3) := by decide +kernel
theorem dX10_useDefaults_17 : decode cX10_useDefaults 17 = .ok (.aload_n 0, 1) := by decide +kernel
theorem dX10_useDefaults_18 : decode cX10_useDefaults 18 = .ok (.getfield 28, 3) := by decide +kernel
theorem dX10_useDefaults_21 : decode cX10_useDefaults 21 = .ok (.iload_n 3, 1) := by decide +kernel
theorem dX10_useDefaults_22 : decode cX10_useDefaults 22 = .ok (.getstatic 77, 3) := by decide +kernel
theorem dX10_useDefaults_25 : decode cX10_useDefaults 25 = .ok (.iload_n 3, 1) := by decide +kernel
theorem dX10_useDefaults_26 : decode cX10_useDefaults 26 = .ok (.iaload, 1) := by decide +kernel
theorem dX10_useDefaults_27 : decode cX10_useDefaults 27 = .ok (.iastore, 1) := by decide +kernel
theorem dX10_useDefaults_28 : decode cX10_useDefaults 28 = .ok (.iinc 3 1, 3) := by decide +kernel
theorem dX10_useDefaults_31 : decode cX10_useDefaults 31 = .ok (.goto (-25), 3) := by decide +kernel
theorem dX10_useDefaults_34 : decode cX10_useDefaults 34 = .ok (.return_, 1) := by decide +kernel
theorem dX10_skipBlanks_0 : decode cX10_skipBlanks 0 = .ok (.aload_n 0, 1) := by decide +kernel
theorem dX10_skipBlanks_1 : decode cX10_skipBlanks 1 = .ok (.getfield 19, 3) := by decide +kernel
theorem dX10_skipBlanks_4 : decode cX10_skipBlanks 4 = .ok (.ifCond .lt 51, 3) := by decide +kernel
theorem dX10_skipBlanks_7 : decode cX10_skipBlanks 7 = .ok (.aload_n 0, 1) := by decide +kernel
theorem dX10_skipBlanks_8 : decode cX10_skipBlanks 8 = .ok (.getfield 19, 3) := by decide +kernel
theorem dX10_skipBlanks_11 : decode cX10_skipBlanks 11 = .ok (.aload_n 0, 1) := by decide +kernel
theorem dX10_skipBlanks_12 : decode cX10_skipBlanks 12 = .ok (.getfield 15, 3) := by decide +kernel
theorem dX10_skipBlanks_15 : decode cX10_skipBlanks 15 = .ok (.if_icmp .ge 40, 3) := by decide +kernel
theorem dX10_skipBlanks_18 : decode cX10_skipBlanks 18 = .ok (.aload_n 0, 1) := by decide +kernel
theorem dX10_skipBlanks_19 : decode cX10_skipBlanks 19 = .ok (.getfield 19, 3) := by decide +kernel
theorem dX10_skipBlanks_22 : decode cX10_skipBlanks 22 = .ok (.sipush 280, 3) := by decide +kernel
theorem dX10_skipBlanks_25 : decode cX10_skipBlanks 25 = .ok (.if_icmp .ge 30, 3) := by decide +kernel
theorem dX10_skipBlanks_28 : decode cX10_skipBlanks 28 = .ok (.aload_n 0, 1) := by decide +kernel
theorem dX10_skipBlanks_29 : decode cX10_skipBlanks 29 = .ok (.getfield 11, 3) := by decide +kernel
theorem dX10_skipBlanks_32 : decode cX10_skipBlanks 32 = .ok (.aload_n 0, 1) := by decide +kernel
theorem dX10_skipBlanks_33 : decode cX10_skipBlanks 33 = .ok (.getfield 19, 3) := by decide +kernel
theorem dX10_skipBlanks_36 : decode cX10_skipBlanks 36 = .ok (.iaload, 1) := by decide +kernel
theorem dX10_skipBlanks_37 : decode cX10_skipBlanks 37 = .ok (.bipush 32, 2) := by decide +kernel
theorem dX10_skipBlanks_39 : decode cX10_skipBlanks 39 = .ok (.if_icmp .ne 16, 3) := by decide +kernel
theorem dX10_skipBlanks_42 : decode cX10_skipBlanks 42 = .ok (.aload_n 0, 1) := by decide +kernel
theorem dX10_skipBlanks_43 : decode cX10_skipBlanks 43 = .ok (.dup, 1) := by decide +kernel
theorem dX10_skipBlanks_44 : decode cX10_skipBlanks 44 = .ok (.getfield 19, 3) := by decide +kernel
theorem dX10_skipBlanks_47 : decode cX10_skipBlanks 47 = .ok (.iconst 1, 1) := by decide +kernel
theorem dX10_skipBlanks_48 : decode cX10_skipBlanks 48 = .ok (.iadd, 1) := by decide +kernel
theorem dX10_skipBlanks_49 : decode cX10_skipBlanks 49 = .ok (.putfield 19, 3) := by decide +kernel
theorem dX10_skipBlanks_52 : decode cX10_skipBlanks 52 = .ok (.goto (-52), 3) := by decide +kernel
theorem dX10_skipBlanks_55 : decode cX10_skipBlanks 55 = .ok (.return_, 1) := by decide +kernel
theorem dX10_sign_0 : decode cX10_sign 0 = .ok (.aload_n 0, 1) := by decide +kernel
theorem dX10_sign_1 : decode cX10_sign 1 = .ok (.getfield 19, 3) := by decide +kernel
theorem dX10_sign_4 : decode cX10_sign 4 = .ok (.ifCond .lt 36, 3) := by decide +kernel
theorem dX10_sign_7 : decode cX10_sign 7 = .ok (.aload_n 0, 1) := by decide +kernel
theorem dX10_sign_8 : decode cX10_sign 8 = .ok (.getfield 19, 3) := by decide +kernel
theorem dX10_sign_11 : decode cX10_sign 11 = .ok (.aload_n 0, 1) := by decide +kernel
theorem dX10_sign_12 : decode cX10_sign 12 = .ok (.getfield 15, 3) := by decide +kernel
theorem dX10_sign_15 : decode cX10_sign 15 = .ok (.if_icmp .ge 25, 3) := by decide +kernel
theorem dX10_sign_18 : decode cX10_sign 18 = .ok (.aload_n 0, 1) := by decide +kernel
theorem dX10_sign_19 : decode cX10_sign 19 = .ok (.getfield 19, 3) := by decide +kernel
theorem dX10_sign_22 : decode cX10_sign 22 = .ok (.sipush 280, 3) := by decide +kernel
theorem dX10_sign_25 : decode cX10_sign 25 = .ok (.if_icmp .ge 15, 3) := by decide +kernel
theorem dX10_sign_28 : decode cX10_sign 28 = .ok (.aload_n 0, 1) := by decide +kernel
theorem dX10_sign_29 : decode cX10_sign 29 = .ok (.getfield 11, 3) := by decide +kernel
theorem dX10_sign_32 : decode cX10_sign 32 = .ok (.aload_n 0, 1) := by decide +kernel
theorem dX10_sign_33 : decode cX10_sign 33 = .ok (.getfield 19, 3) := by decide +kernel
theorem dX10_sign_36 : decode cX10_sign 36 = .ok (.iaload, 1) := by decide +kernel
theorem dX10_sign_37 : decode cX10_sign 37 = .ok (.goto 4, 3) := by decide +kernel
theorem dX10_sign_40 : decode cX10_sign 40 = .ok (.iconst 0, 1) := by decide +kernel
theorem dX10_sign_41 : decode cX10_sign 41 = .ok (.ireturn, 1) := by decide +kernel
theorem dX10_wrong_0 : decode cX10_wrong 0 = .ok (.aload_n 0, 1) := by decide +kernel
theorem dX10_wrong_1 : decode cX10_wrong 1 = .ok (.iload_n 1, 1) := by decide +kernel
theorem dX10_wrong_2 : decode cX10_wrong 2 = .ok (.putfield 22, 3) := by decide +kernel
theorem dX10_wrong_5 : decode cX10_wrong 5 = .ok (.iconst 0, 1) := by decide +kernel
theorem dX10_wrong_6 : decode cX10_wrong 6 = .ok (.ireturn, 1) := by decide +kernel
theorem dX10_isDigit_0 : decode cX10_isDigit 0 = .ok (.iload_n 0, 1) := by decide +kernel
theorem dX10_isDigit_1 : decode cX10_isDigit 1 = .ok (.bipush 48, 2) := by decide +kernel
theorem dX10_isDigit_3 : decode cX10_isDigit 3 = .ok (.if_icmp .lt 13, 3) := by decide +kernel
theorem dX10_isDigit_6 : decode cX10_isDigit 6 = .ok (.iload_n 0, 1) := by decide +kernel
theorem dX10_isDigit_7 : decode cX10_isDigit 7 = .ok (.bipush 57, 2) := by decide +kernel
theorem dX10_isDigit_9 : decode cX10_isDigit 9 = .ok (.if_icmp .gt 7, 3) := by decide +kernel
theorem dX10_isDigit_12 : decode cX10_isDigit 12 = .ok (.iconst 1, 1) := by decide +kernel
theorem dX10_isDigit_13 : decode cX10_isDigit 13 = .ok (.goto 4, 3) := by decide +kernel
theorem dX10_isDigit_16 : decode cX10_isDigit 16 = .ok (.iconst 0, 1) := by decide +kernel
theorem dX10_isDigit_17 : decode cX10_isDigit 17 = .ok (.ireturn, 1) := by decide +kernel
theorem dX10_readNumber_0 : decode cX10_readNumber 0 = .ok (.aload_n 0, 1) := by decide +kernel
theorem dX10_readNumber_1 : decode cX10_readNumber 1 = .ok (.invokevirtual 60, 3) := by decide +kernel
theorem dX10_readNumber_4 : decode cX10_readNumber 4 = .ok (.iconst 0, 1) := by decide +kernel
theorem dX10_readNumber_5 : decode cX10_readNumber 5 = .ok (.istore_n 3, 1) := by decide +kernel
theorem dX10_readNumber_6 : decode cX10_readNumber 6 = .ok (.iconst 0, 1) := by decide +kernel
theorem dX10_readNumber_7 : decode cX10_readNumber 7 = .ok (.istore 4, 2) := by decide +kernel
theorem dX10_readNumber_9 : decode cX10_readNumber 9 = .ok (.iload 4, 2) := by decide +kernel
theorem dX10_readNumber_11 : decode cX10_readNumber 11 = .ok (.iconst 3, 1) := by decide +kernel
theorem dX10_readNumber_12 : decode cX10_readNumber 12 = .ok (.if_icmp .ge 42, 3) := by decide +kernel
theorem dX10_readNumber_15 : decode cX10_readNumber 15 = .ok (.aload_n 0, 1) := by decide +kernel
theorem dX10_readNumber_16 : decode cX10_readNumber 16 = .ok (.invokevirtual 56, 3) := by decide +kernel
theorem dX10_readNumber_19 : decode cX10_readNumber 19 = .ok (.invokestatic 119, 3) := by decide +kernel
theorem dX10_readNumber_22 : decode cX10_readNumber 22 = .ok (.ifCond .eq 32, 3) := by decide +kernel
theorem dX10_readNumber_25 : decode cX10_readNumber 25 = .ok (.bipush 10, 2) := by decide +kernel
theorem dX10_readNumber_27 : decode cX10_readNumber 27 = .ok (.iload_n 3, 1) := by decide +kernel
theorem dX10_readNumber_28 : decode cX10_readNumber 28 = .ok (.imul, 1) := by decide +kernel
theorem dX10_readNumber_29 : decode cX10_readNumber 29 = .ok (.aload_n 0, 1) := by decide +kernel
theorem dX10_readNumber_30 : decode cX10_readNumber 30 = .ok (.invokevirtual 56, 3) := by decide +kernel
theorem dX10_readNumber_33 : decode cX10_readNumber 33 = .ok (.iadd, 1) := by decide +kernel
theorem dX10_readNumber_34 : decode cX10_readNumber 34 = .ok (.bipush 48, 2) := by decide +kernel
theorem dX10_readNumber_36 : decode cX10_readNumber 36 = .ok (.isub, 1) := by decide +kernel
theorem dX10_readNumber_37 : decode cX10_readNumber 37 = .ok (.istore_n 3, 1) := by decide +kernel
theorem dX10_readNumber_38 : decode cX10_readNumber 38 = .ok (.iinc 4 1, 3) := by decide +kernel
theorem dX10_readNumber_41 : decode cX10_readNumber 41 = .ok (.aload_n 0, 1) := by decide +kernel
theorem dX10_readNumber_42 : decode cX10_readNumber 42 = .ok (.dup, 1) := by decide +kernel
theorem dX10_readNumber_43 : decode cX10_readNumber 43 = .ok (.getfield 19, 3) := by decide +kernel
theorem dX10_readNumber_46 : decode cX10_readNumber 46 = .ok (.iconst 1, 1) := by decide +kernel
theorem dX10_readNumber_47 : decode cX10_readNumber 47 = .ok (.iadd, 1) := by decide +kernel
theorem dX10_readNumber_48 : decode cX10_readNumber 48 = .ok (.putfield 19, 3) := by decide +kernel
theorem dX10_readNumber_51 : decode cX10_readNumber 51 = .ok (.goto (-42), 3) := by decide +kernel
theorem dX10_readNumber_54 : decode cX10_readNumber 54 = .ok (.iload 4, 2) := by decide +kernel
theorem dX10_readNumber_56 : decode cX10_readNumber 56 = .ok (.ifCond .eq 13, 3) := by decide +kernel
theorem dX10_readNumber_59 : decode cX10_readNumber 59 = .ok (.aload_n 0, 1) := by decide +kernel
theorem dX10_readNumber_60 : decode cX10_readNumber 60 = .ok (.invokevirtual 56, 3) := by decide +kernel
theorem dX10_readNumber_63 : decode cX10_readNumber 63 = .ok (.invokestatic 119, 3) := by decide +kernel
theorem dX10_readNumber_66 : decode cX10_readNumber 66 = .ok (.ifCond .eq 12, 3) := by decide +kernel
theorem dX10_readNumber_69 : decode cX10_readNumber 69 = .ok (.aload_n 0, 1) := by decide +kernel
theorem dX10_readNumber_70 : decode cX10_readNumber 70 = .ok (.aload_n 0, 1) := by decide +kernel
theorem dX10_readNumber_71 : decode cX10_readNumber 71 = .ok (.getfield 19, 3) := by decide +kernel
theorem dX10_readNumber_74 : decode cX10_readNumber 74 = .ok (.invokevirtual 67, 3) := by decide +kernel
theorem dX10_readNumber_77 : decode cX10_readNumber 77 = .ok (.ireturn, 1) := by decide +kernel
theorem dX10_readNumber_78 : decode cX10_readNumber 78 = .ok (.iload_n 3, 1) := by decide +kernel
theorem dX10_readNumber_79 : decode cX10_readNumber 79 = .ok (.iload_n 1, 1) := by decide +kernel
theorem dX10_readNumber_80 : decode cX10_readNumber 80 = .ok (.if_icmp .lt 8, 3) := by decide +kernel
theorem dX10_readNumber_83 : decode cX10_readNumber 83 = .ok (.iload_n 3, 1) := by decide +kernel
theorem dX10_readNumber_84 : decode cX10_readNumber 84 = .ok (.iload_n 2, 1) := by decide +kernel
theorem dX10_readNumber_85 : decode cX10_readNumber 85 = .ok (.if_icmp .le 14, 3) := by decide +kernel
theorem dX10_readNumber_88 : decode cX10_readNumber 88 = .ok (.aload_n 0, 1) := by decide +kernel
theorem dX10_readNumber_89 : decode cX10_readNumber 89 = .ok (.aload_n 0, 1) := by decide +kernel
theorem dX10_readNumber_90 : decode cX10_readNumber 90 = .ok (.getfield 19, 3) := by decide +kernel
theorem dX10_readNumber_93 : decode cX10_readNumber 93 = .ok (.iconst 1, 1) := by decide +kernel
theorem dX10_readNumber_94 : decode cX10_readNumber 94 = .ok (.isub, 1) := by decide +kernel
theorem dX10_readNumber_95 : decode cX10_readNumber 95 = .ok (.invokevirtual 67, 3) := by decide +kernel
theorem dX10_readNumber_98 : decode cX10_readNumber 98 = .ok (.ireturn, 1) := by decide +kernel
theorem dX10_readNumber_99 : decode cX10_readNumber 99 = .ok (.aload_n 0, 1) := by decide +kernel
theorem dX10_readNumber_100 : decode cX10_readNumber 100 = .ok (.iload_n 3, 1) := by decide +kernel
theorem dX10_readNumber_101 : decode cX10_readNumber 101 = .ok (.putfield 25, 3) := by decide +kernel
theorem dX10_readNumber_104 : decode cX10_readNumber 104 = .ok (.iconst 1, 1) := by decide +kernel
theorem dX10_readNumber_105 : decode cX10_readNumber 105 = .ok (.ireturn, 1) := by decide +kernel
theorem dX10_readItems_0 : decode cX10_readItems 0 = .ok (.iconst 0, 1) := by decide +kernel
theorem dX10_readItems_1 : decode cX10_readItems 1 = .ok (.istore_n 3, 1) := by decide +kernel
theorem dX10_readItems_2 : decode cX10_readItems 2 = .ok (.iconst 0, 1) := by decide +kernel
theorem dX10_readItems_3 : decode cX10_readItems 3 = .ok (.istore 4, 2) := by decide +kernel
theorem dX10_readItems_5 : decode cX10_readItems 5 = .ok (.iload 4, 2) := by decide +kernel
theorem dX10_readItems_7 : decode cX10_readItems 7 = .ok (.sipush 280, 3) := by decide +kernel
theorem dX10_readItems_10 : decode cX10_readItems 10 = .ok (.if_icmp .gt 134, 3) := by decide +kernel
theorem dX10_readItems_13 : decode cX10_readItems 13 = .ok (.aload_n 0, 1) := by decide +kernel
theorem dX10_readItems_14 : decode cX10_readItems 14 = .ok (.invokevirtual 60, 3) := by decide +kernel
theorem dX10_readItems_17 : decode cX10_readItems 17 = .ok (.aload_n 0, 1) := by decide +kernel
theorem dX10_readItems_18 : decode cX10_readItems 18 = .ok (.invokevirtual 56, 3) := by decide +kernel
theorem dX10_readItems_21 : decode cX10_readItems 21 = .ok (.ifCond .eq 12, 3) := by decide +kernel
theorem dX10_readItems_24 : decode cX10_readItems 24 = .ok (.aload_n 0, 1) := by decide +kernel
theorem dX10_readItems_25 : decode cX10_readItems 25 = .ok (.invokevirtual 56, 3) := by decide +kernel
theorem dX10_readItems_28 : decode cX10_readItems 28 = .ok (.bipush 59, 2) := by decide +kernel
theorem dX10_readItems_30 : decode cX10_readItems 30 = .ok (.if_icmp .ne 5, 3) := by decide +kernel
theorem dX10_readItems_33 : decode cX10_readItems 33 = .ok (.iconst 1, 1) := by decide +kernel
theorem dX10_readItems_34 : decode cX10_readItems 34 = .ok (.ireturn, 1) := by decide +kernel
theorem dX10_readItems_35 : decode cX10_readItems 35 = .ok (.ldc 80, 2) := by decide +kernel
theorem dX10_readItems_37 : decode cX10_readItems 37 = .ok (.aload_n 0, 1) := by decide +kernel
theorem dX10_readItems_38 : decode cX10_readItems 38 = .ok (.invokevirtual 56, 3) := by decide +kernel
theorem dX10_readItems_41 : decode cX10_readItems 41 = .ok (.i2c, 1) := by decide +kernel
theorem dX10_readItems_42 : decode cX10_readItems 42 = .ok (.invokevirtual 82, 3) := by decide +kernel
theorem dX10_readItems_45 : decode cX10_readItems 45 = .ok (.istore 5, 2) := by decide +kernel
theorem dX10_readItems_47 : decode cX10_readItems 47 = .ok (.iload 5, 2) := by decide +kernel
theorem dX10_readItems_49 : decode cX10_readItems 49 = .ok (.ifCond .lt 31, 3) := by decide +kernel
theorem dX10_readItems_52 : decode cX10_readItems 52 = .ok (.iload 5, 2) := by decide +kernel
theorem dX10_readItems_54 : decode cX10_readItems 54 = .ok (.iload_n 1, 1) := by decide +kernel
theorem dX10_readItems_55 : decode cX10_readItems 55 = .ok (.if_icmp .lt 25, 3) := by decide +kernel
theorem dX10_readItems_58 : decode cX10_readItems 58 = .ok (.iload 5, 2) := by decide +kernel
theorem dX10_readItems_60 : decode cX10_readItems 60 = .ok (.iload_n 2, 1) := by decide +kernel
theorem dX10_readItems_61 : decode cX10_readItems 61 = .ok (.if_icmp .gt 19, 3) := by decide +kernel
theorem dX10_readItems_64 : decode cX10_readItems 64 = .ok (.iload 5, 2) := by decide +kernel
theorem dX10_readItems_66 : decode cX10_readItems 66 = .ok (.bipush 7, 2) := by decide +kernel
theorem dX10_readItems_68 : decode cX10_readItems 68 = .ok (.if_icmp .ge 12, 3) := by decide +kernel
theorem dX10_readItems_71 : decode cX10_readItems 71 = .ok (.iload_n 3, 1) := by decide +kernel
theorem dX10_readItems_72 : decode cX10_readItems 72 = .ok (.iload 5, 2) := by decide +kernel
theorem dX10_readItems_74 : decode cX10_readItems 74 = .ok (.ishr, 1) := by decide +kernel
theorem dX10_readItems_75 : decode cX10_readItems 75 = .ok (.iconst 1, 1) := by decide +kernel
theorem dX10_readItems_76 : decode cX10_readItems 76 = .ok (.iand, 1) := by decide +kernel
theorem dX10_readItems_77 : decode cX10_readItems 77 = .ok (.ifCond .eq 12, 3) := by decide +kernel
theorem dX10_readItems_80 : decode cX10_readItems 80 = .ok (.aload_n 0, 1) := by decide +kernel
theorem dX10_readItems_81 : decode cX10_readItems 81 = .ok (.aload_n 0, 1) := by decide +kernel
theorem dX10_readItems_82 : decode cX10_readItems 82 = .ok (.getfield 19, 3) := by decide +kernel
theorem dX10_readItems_85 : decode cX10_readItems 85 = .ok (.invokevirtual 67, 3) := by decide +kernel
theorem dX10_readItems_88 : decode cX10_readItems 88 = .ok (.ireturn, 1) := by decide +kernel
theorem dX10_readItems_89 : decode cX10_readItems 89 = .ok (.iload_n 3, 1) := by decide +kernel
theorem dX10_readItems_90 : decode cX10_readItems 90 = .ok (.iconst 1, 1) := by decide +kernel
theorem dX10_readItems_91 : decode cX10_readItems 91 = .ok (.iload 5, 2) := by decide +kernel
theorem dX10_readItems_93 : decode cX10_readItems 93 = .ok (.ishl, 1) := by decide +kernel
theorem dX10_readItems_94 : decode cX10_readItems 94 = .ok (.ior, 1) := by decide +kernel
theorem dX10_readItems_95 : decode cX10_readItems 95 = .ok (.istore_n 3, 1) := by decide +kernel
theorem dX10_readItems_96 : decode cX10_readItems 96 = .ok (.aload_n 0, 1) := by decide +kernel
theorem dX10_readItems_97 : decode cX10_readItems 97 = .ok (.dup, 1) := by decide +kernel
theorem dX10_readItems_98 : decode cX10_readItems 98 = .ok (.getfield 19, 3) := by decide +kernel
theorem dX10_readItems_101 : decode cX10_readItems 101 = .ok (.iconst 1, 1) := by decide +kernel
theorem dX10_readItems_102 : decode cX10_readItems 102 = .ok (.iadd, 1) := by decide +kernel
theorem dX10_readItems_103 : decode cX10_readItems 103 = .ok (.putfield 19, 3) := by decide +kernel
theorem dX10_readItems_106 : decode cX10_readItems 106 = .ok (.aload_n 0, 1) := by decide +kernel
theorem dX10_readItems_107 : decode cX10_readItems 107 = .ok (.getstatic 88, 3) := by decide +kernel
theorem dX10_readItems_110 : decode cX10_readItems 110 = .ok (.iload 5, 2) := by decide +kernel
theorem dX10_readItems_112 : decode cX10_readItems 112 = .ok (.iaload, 1) := by decide +kernel
theorem dX10_readItems_113 : decode cX10_readItems 113 = .ok (.getstatic 91, 3) := by decide +kernel
theorem dX10_readItems_116 : decode cX10_readItems 116 = .ok (.iload 5, 2) := by decide +kernel
theorem dX10_readItems_118 : decode cX10_readItems 118 = .ok (.iaload, 1) := by decide +kernel
theorem dX10_readItems_119 : decode cX10_readItems 119 = .ok (.invokevirtual 94, 3) := by decide +kernel
theorem dX10_readItems_122 : decode cX10_readItems 122 = .ok (.ifCond .ne 5, 3) := by decide +kernel
theorem dX10_readItems_125 : decode cX10_readItems 125 = .ok (.iconst 0, 1) := by decide +kernel
theorem dX10_readItems_126 : decode cX10_readItems 126 = .ok (.ireturn, 1) := by decide +kernel
theorem dX10_readItems_127 : decode cX10_readItems 127 = .ok (.aload_n 0, 1) := by decide +kernel
theorem dX10_readItems_128 : decode cX10_readItems 128 = .ok (.getfield 28, 3) := by decide +kernel
theorem dX10_readItems_131 : decode cX10_readItems 131 = .ok (.iload 5, 2) := by decide +kernel
theorem dX10_readItems_133 : decode cX10_readItems 133 = .ok (.aload_n 0, 1) := by decide +kernel
theorem dX10_readItems_134 : decode cX10_readItems 134 = .ok (.getfield 25, 3) := by decide +kernel
theorem dX10_readItems_137 : decode cX10_readItems 137 = .ok (.iastore, 1) := by decide +kernel
theorem dX10_readItems_138 : decode cX10_readItems 138 = .ok (.iinc 4 1, 3) := by decide +kernel
theorem dX10_readItems_141 : decode cX10_readItems 141 = .ok (.goto (-136), 3) := by decide +kernel
theorem dX10_readItems_144 : decode cX10_readItems 144 = .ok (.aload_n 0, 1) := by decide +kernel
theorem dX10_readItems_145 : decode cX10_readItems 145 = .ok (.aload_n 0, 1) := by decide +kernel
theorem dX10_readItems_146 : decode cX10_readItems 146 = .ok (.getfield 19, 3) := by decide +kernel
theorem dX10_readItems_149 : decode cX10_readItems 149 = .ok (.invokevirtual 67, 3) := by decide +kernel
theorem dX10_readItems_152 : decode cX10_readItems 152 = .ok (.ireturn, 1) := by decide +kernel
theorem dX10_clause_0 : decode cX10_clause 0 = .ok (.aload_n 0, 1) := by decide +kernel
theorem dX10_clause_1 : decode cX10_clause 1 = .ok (.invokevirtual 60, 3) := by decide +kernel
theorem dX10_clause_4 : decode cX10_clause 4 = .ok (.aload_n 0, 1) := by decide +kernel
theorem dX10_clause_5 : decode cX10_clause 5 = .ok (.invokevirtual 56, 3) := by decide +kernel
theorem dX10_clause_8 : decode cX10_clause 8 = .ok (.bipush 115, 2) := by decide +kernel
theorem dX10_clause_10 : decode cX10_clause 10 = .ok (.if_icmp .ne 32, 3) := by decide +kernel
theorem dX10_clause_13 : decode cX10_clause 13 = .ok (.aload_n 0, 1) := by decide +kernel
theorem dX10_clause_14 : decode cX10_clause 14 = .ok (.getfield 37, 3) := by decide +kernel
theorem dX10_clause_17 : decode cX10_clause 17 = .ok (.ifCond .ne 25, 3) := by decide +kernel
theorem dX10_clause_20 : decode cX10_clause 20 = .ok (.aload_n 0, 1) := by decide +kernel
theorem dX10_clause_21 : decode cX10_clause 21 = .ok (.iconst 1, 1) := by decide +kernel
theorem dX10_clause_22 : decode cX10_clause 22 = .ok (.putfield 37, 3) := by decide +kernel
theorem dX10_clause_25 : decode cX10_clause 25 = .ok (.aload_n 0, 1) := by decide +kernel
theorem dX10_clause_26 : decode cX10_clause 26 = .ok (.dup, 1) := by decide +kernel
theorem dX10_clause_27 : decode cX10_clause 27 = .ok (.getfield 19, 3) := by decide +kernel
theorem dX10_clause_30 : decode cX10_clause 30 = .ok (.iconst 1, 1) := by decide +kernel
theorem dX10_clause_31 : decode cX10_clause 31 = .ok (.iadd, 1) := by decide +kernel
theorem dX10_clause_32 : decode cX10_clause 32 = .ok (.putfield 19, 3) := by decide +kernel
theorem dX10_clause_35 : decode cX10_clause 35 = .ok (.aload_n 0, 1) := by decide +kernel
theorem dX10_clause_36 : decode cX10_clause 36 = .ok (.iconst 0, 1) := by decide +kernel
theorem dX10_clause_37 : decode cX10_clause 37 = .ok (.iconst 4, 1) := by decide +kernel
theorem dX10_clause_38 : decode cX10_clause 38 = .ok (.invokevirtual 63, 3) := by decide +kernel
theorem dX10_clause_41 : decode cX10_clause 41 = .ok (.ireturn, 1) := by decide +kernel
theorem dX10_clause_42 : decode cX10_clause 42 = .ok (.aload_n 0, 1) := by decide +kernel
theorem dX10_clause_43 : decode cX10_clause 43 = .ok (.invokevirtual 56, 3) := by decide +kernel
theorem dX10_clause_46 : decode cX10_clause 46 = .ok (.bipush 118, 2) := by decide +kernel
theorem dX10_clause_48 : decode cX10_clause 48 = .ok (.if_icmp .ne 19, 3) := by decide +kernel
theorem dX10_clause_51 : decode cX10_clause 51 = .ok (.aload_n 0, 1) := by decide +kernel
theorem dX10_clause_52 : decode cX10_clause 52 = .ok (.getfield 34, 3) := by decide +kernel
theorem dX10_clause_55 : decode cX10_clause 55 = .ok (.ifCond .lt 12, 3) := by decide +kernel
theorem dX10_clause_58 : decode cX10_clause 58 = .ok (.aload_n 0, 1) := by decide +kernel
theorem dX10_clause_59 : decode cX10_clause 59 = .ok (.getfield 34, 3) := by decide +kernel
theorem dX10_clause_62 : decode cX10_clause 62 = .ok (.bipush 16, 2) := by decide +kernel
theorem dX10_clause_64 : decode cX10_clause 64 = .ok (.if_icmp .lt 12, 3) := by decide +kernel
theorem dX10_clause_67 : decode cX10_clause 67 = .ok (.aload_n 0, 1) := by decide +kernel
theorem dX10_clause_68 : decode cX10_clause 68 = .ok (.aload_n 0, 1) := by decide +kernel
theorem dX10_clause_69 : decode cX10_clause 69 = .ok (.getfield 19, 3) := by decide +kernel
theorem dX10_clause_72 : decode cX10_clause 72 = .ok (.invokevirtual 67, 3) := by decide +kernel
theorem dX10_clause_75 : decode cX10_clause 75 = .ok (.ireturn, 1) := by decide +kernel
theorem dX10_clause_76 : decode cX10_clause 76 = .ok (.aload_n 0, 1) := by decide +kernel
theorem dX10_clause_77 : decode cX10_clause 77 = .ok (.dup, 1) := by decide +kernel
theorem dX10_clause_78 : decode cX10_clause 78 = .ok (.getfield 19, 3) := by decide +kernel
theorem dX10_clause_81 : decode cX10_clause 81 = .ok (.iconst 1, 1) := by decide +kernel
theorem dX10_clause_82 : decode cX10_clause 82 = .ok (.iadd, 1) := by decide +kernel
theorem dX10_clause_83 : decode cX10_clause 83 = .ok (.putfield 19, 3) := by decide +kernel
theorem dX10_clause_86 : decode cX10_clause 86 = .ok (.aload_n 0, 1) := by decide +kernel
theorem dX10_clause_87 : decode cX10_clause 87 = .ok (.iconst 5, 1) := by decide +kernel
theorem dX10_clause_88 : decode cX10_clause 88 = .ok (.bipush 6, 2) := by decide +kernel
theorem dX10_clause_90 : decode cX10_clause 90 = .ok (.invokevirtual 48, 3) := by decide +kernel
theorem dX10_clause_93 : decode cX10_clause 93 = .ok (.aload_n 0, 1) := by decide +kernel
theorem dX10_clause_94 : decode cX10_clause 94 = .ok (.iconst 5, 1) := by decide +kernel
theorem dX10_clause_95 : decode cX10_clause 95 = .ok (.bipush 6, 2) := by decide +kernel
theorem dX10_clause_97 : decode cX10_clause 97 = .ok (.invokevirtual 63, 3) := by decide +kernel
theorem dX10_clause_100 : decode cX10_clause 100 = .ok (.ifCond .ne 5, 3) := by decide +kernel
theorem dX10_clause_103 : decode cX10_clause 103 = .ok (.iconst 0, 1) := by decide +kernel
theorem dX10_clause_104 : decode cX10_clause 104 = .ok (.ireturn, 1) := by decide +kernel
theorem dX10_clause_105 : decode cX10_clause 105 = .ok (.aload_n 0, 1) := by decide +kernel
theorem dX10_clause_106 : decode cX10_clause 106 = .ok (.getfield 31, 3) := by decide +kernel
theorem dX10_clause_109 : decode cX10_clause 109 = .ok (.iconst 2, 1) := by decide +kernel
theorem dX10_clause_110 : decode cX10_clause 110 = .ok (.aload_n 0, 1) := by decide +kernel
theorem dX10_clause_111 : decode cX10_clause 111 = .ok (.getfield 34, 3) := by decide +kernel
theorem dX10_clause_114 : decode cX10_clause 114 = .ok (.imul, 1) := by decide +kernel
theorem dX10_clause_115 : decode cX10_clause 115 = .ok (.aload_n 0, 1) := by decide +kernel
theorem dX10_clause_116 : decode cX10_clause 116 = .ok (.getfield 28, 3) := by decide +kernel
theorem dX10_clause_119 : decode cX10_clause 119 = .ok (.iconst 5, 1) := by decide +kernel
theorem dX10_clause_120 : decode cX10_clause 120 = .ok (.iaload, 1) := by decide +kernel
theorem dX10_clause_121 : decode cX10_clause 121 = .ok (.iastore, 1) := by decide +kernel
theorem dX10_clause_122 : decode cX10_clause 122 = .ok (.aload_n 0, 1) := by decide +kernel
theorem dX10_clause_123 : decode cX10_clause 123 = .ok (.getfield 31, 3) := by decide +kernel
theorem dX10_clause_126 : decode cX10_clause 126 = .ok (.iconst 2, 1) := by decide +kernel
theorem dX10_clause_127 : decode cX10_clause 127 = .ok (.aload_n 0, 1) := by decide +kernel
theorem dX10_clause_128 : decode cX10_clause 128 = .ok (.getfield 34, 3) := by decide +kernel
theorem dX10_clause_131 : decode cX10_clause 131 = .ok (.imul, 1) := by decide +kernel
theorem dX10_clause_132 : decode cX10_clause 132 = .ok (.iconst 1, 1) := by decide +kernel
theorem dX10_clause_133 : decode cX10_clause 133 = .ok (.iadd, 1) := by decide +kernel
theorem dX10_clause_134 : decode cX10_clause 134 = .ok (.aload_n 0, 1) := by decide +kernel
theorem dX10_clause_135 : decode cX10_clause 135 = .ok (.getfield 28, 3) := by decide +kernel
theorem dX10_clause_138 : decode cX10_clause 138 = .ok (.bipush 6, 2) := by decide +kernel
theorem dX10_clause_140 : decode cX10_clause 140 = .ok (.iaload, 1) := by decide +kernel
theorem dX10_clause_141 : decode cX10_clause 141 = .ok (.iastore, 1) := by decide +kernel
theorem dX10_clause_142 : decode cX10_clause 142 = .ok (.aload_n 0, 1) := by decide +kernel
theorem dX10_clause_143 : decode cX10_clause 143 = .ok (.dup, 1) := by decide +kernel
theorem dX10_clause_144 : decode cX10_clause 144 = .ok (.getfield 34, 3) := by decide +kernel
theorem dX10_clause_147 : decode cX10_clause 147 = .ok (.iconst 1, 1) := by decide +kernel
theorem dX10_clause_148 : decode cX10_clause 148 = .ok (.iadd, 1) := by decide +kernel
theorem dX10_clause_149 : decode cX10_clause 149 = .ok (.putfield 34, 3) := by decide +kernel
theorem dX10_clause_152 : decode cX10_clause 152 = .ok (.iconst 1, 1) := by decide +kernel
theorem dX10_clause_153 : decode cX10_clause 153 = .ok (.ireturn, 1) := by decide +kernel
theorem dX10_shelfFault_0 : decode cX10_shelfFault 0 = .ok (.aload_n 0, 1) := by decide +kernel
theorem dX10_shelfFault_1 : decode cX10_shelfFault 1 = .ok (.iconst 0, 1) := by decide +kernel
theorem dX10_shelfFault_2 : decode cX10_shelfFault 2 = .ok (.putfield 19, 3) := by decide +kernel
theorem dX10_shelfFault_5 : decode cX10_shelfFault 5 = .ok (.aload_n 0, 1) := by decide +kernel
theorem dX10_shelfFault_6 : decode cX10_shelfFault 6 = .ok (.iconst 0, 1) := by decide +kernel
theorem dX10_shelfFault_7 : decode cX10_shelfFault 7 = .ok (.putfield 34, 3) := by decide +kernel
theorem dX10_shelfFault_10 : decode cX10_shelfFault 10 = .ok (.aload_n 0, 1) := by decide +kernel
theorem dX10_shelfFault_11 : decode cX10_shelfFault 11 = .ok (.iconst 0, 1) := by decide +kernel
theorem dX10_shelfFault_12 : decode cX10_shelfFault 12 = .ok (.putfield 37, 3) := by decide +kernel
theorem dX10_shelfFault_15 : decode cX10_shelfFault 15 = .ok (.aload_n 0, 1) := by decide +kernel
theorem dX10_shelfFault_16 : decode cX10_shelfFault 16 = .ok (.iconst 0, 1) := by decide +kernel
theorem dX10_shelfFault_17 : decode cX10_shelfFault 17 = .ok (.bipush 6, 2) := by decide +kernel
theorem dX10_shelfFault_19 : decode cX10_shelfFault 19 = .ok (.invokevirtual 48, 3) := by decide +kernel
theorem dX10_shelfFault_22 : decode cX10_shelfFault 22 = .ok (.iconst 0, 1) := by decide +kernel
theorem dX10_shelfFault_23 : decode cX10_shelfFault 23 = .ok (.istore_n 1, 1) := by decide +kernel
theorem dX10_shelfFault_24 : decode cX10_shelfFault 24 = .ok (.iload_n 1, 1) := by decide +kernel
theorem dX10_shelfFault_25 : decode cX10_shelfFault 25 = .ok (.sipush 280, 3) := by decide +kernel
theorem dX10_shelfFault_28 : decode cX10_shelfFault 28 = .ok (.if_icmp .gt 40, 3) := by decide +kernel
theorem dX10_shelfFault_31 : decode cX10_shelfFault 31 = .ok (.aload_n 0, 1) := by decide +kernel
theorem dX10_shelfFault_32 : decode cX10_shelfFault 32 = .ok (.invokevirtual 52, 3) := by decide +kernel
theorem dX10_shelfFault_35 : decode cX10_shelfFault 35 = .ok (.ifCond .ne 8, 3) := by decide +kernel
theorem dX10_shelfFault_38 : decode cX10_shelfFault 38 = .ok (.aload_n 0, 1) := by decide +kernel
theorem dX10_shelfFault_39 : decode cX10_shelfFault 39 = .ok (.getfield 22, 3) := by decide +kernel
theorem dX10_shelfFault_42 : decode cX10_shelfFault 42 = .ok (.ireturn, 1) := by decide +kernel
theorem dX10_shelfFault_43 : decode cX10_shelfFault 43 = .ok (.aload_n 0, 1) := by decide +kernel
theorem dX10_shelfFault_44 : decode cX10_shelfFault 44 = .ok (.invokevirtual 56, 3) := by decide +kernel
theorem dX10_shelfFault_47 : decode cX10_shelfFault 47 = .ok (.ifCond .ne 5, 3) := by decide +kernel
theorem dX10_shelfFault_50 : decode cX10_shelfFault 50 = .ok (.iconst (-1), 1) := by decide +kernel
theorem dX10_shelfFault_51 : decode cX10_shelfFault 51 = .ok (.ireturn, 1) := by decide +kernel
theorem dX10_shelfFault_52 : decode cX10_shelfFault 52 = .ok (.aload_n 0, 1) := by decide +kernel
theorem dX10_shelfFault_53 : decode cX10_shelfFault 53 = .ok (.dup, 1) := by decide +kernel
theorem dX10_shelfFault_54 : decode cX10_shelfFault 54 = .ok (.getfield 19, 3) := by decide +kernel
theorem dX10_shelfFault_57 : decode cX10_shelfFault 57 = .ok (.iconst 1, 1) := by decide +kernel
theorem dX10_shelfFault_58 : decode cX10_shelfFault 58 = .ok (.iadd, 1) := by decide +kernel
theorem dX10_shelfFault_59 : decode cX10_shelfFault 59 = .ok (.putfield 19, 3) := by decide +kernel
theorem dX10_shelfFault_62 : decode cX10_shelfFault 62 = .ok (.iinc 1 1, 3) := by decide +kernel
theorem dX10_shelfFault_65 : decode cX10_shelfFault 65 = .ok (.goto (-41), 3) := by decide +kernel
theorem dX10_shelfFault_68 : decode cX10_shelfFault 68 = .ok (.aload_n 0, 1) := by decide +kernel
theorem dX10_shelfFault_69 : decode cX10_shelfFault 69 = .ok (.getfield 19, 3) := by decide +kernel
theorem dX10_shelfFault_72 : decode cX10_shelfFault 72 = .ok (.ireturn, 1) := by decide +kernel
theorem dX10_readComma_0 : decode cX10_readComma 0 = .ok (.aload_n 0, 1) := by decide +kernel
theorem dX10_readComma_1 : decode cX10_readComma 1 = .ok (.invokevirtual 60, 3) := by decide +kernel
theorem dX10_readComma_4 : decode cX10_readComma 4 = .ok (.aload_n 0, 1) := by decide +kernel
theorem dX10_readComma_5 : decode cX10_readComma 5 = .ok (.invokevirtual 56, 3) := by decide +kernel
theorem dX10_readComma_8 : decode cX10_readComma 8 = .ok (.bipush 44, 2) := by decide +kernel
theorem dX10_readComma_10 : decode cX10_readComma 10 = .ok (.if_icmp .eq 12, 3) := by decide +kernel
theorem dX10_readComma_13 : decode cX10_readComma 13 = .ok (.aload_n 0, 1) := by decide +kernel
theorem dX10_readComma_14 : decode cX10_readComma 14 = .ok (.aload_n 0, 1) := by decide +kernel
theorem dX10_readComma_15 : decode cX10_readComma 15 = .ok (.getfield 19, 3) := by decide +kernel
theorem dX10_readComma_18 : decode cX10_readComma 18 = .ok (.invokevirtual 67, 3) := by decide +kernel
theorem dX10_readComma_21 : decode cX10_readComma 21 = .ok (.ireturn, 1) := by decide +kernel
theorem dX10_readComma_22 : decode cX10_readComma 22 = .ok (.aload_n 0, 1) := by decide +kernel
theorem dX10_readComma_23 : decode cX10_readComma 23 = .ok (.dup, 1) := by decide +kernel
theorem dX10_readComma_24 : decode cX10_readComma 24 = .ok (.getfield 19, 3) := by decide +kernel
theorem dX10_readComma_27 : decode cX10_readComma 27 = .ok (.iconst 1, 1) := by decide +kernel
theorem dX10_readComma_28 : decode cX10_readComma 28 = .ok (.iadd, 1) := by decide +kernel
theorem dX10_readComma_29 : decode cX10_readComma 29 = .ok (.putfield 19, 3) := by decide +kernel
theorem dX10_readComma_32 : decode cX10_readComma 32 = .ok (.iconst 1, 1) := by decide +kernel
theorem dX10_readComma_33 : decode cX10_readComma 33 = .ok (.ireturn, 1) := by decide +kernel
theorem dX10_readStep_0 : decode cX10_readStep 0 = .ok (.aload_n 0, 1) := by decide +kernel
theorem dX10_readStep_1 : decode cX10_readStep 1 = .ok (.invokevirtual 60, 3) := by decide +kernel
theorem dX10_readStep_4 : decode cX10_readStep 4 = .ok (.aload_n 0, 1) := by decide +kernel
theorem dX10_readStep_5 : decode cX10_readStep 5 = .ok (.invokevirtual 56, 3) := by decide +kernel
theorem dX10_readStep_8 : decode cX10_readStep 8 = .ok (.ifCond .ne 7, 3) := by decide +kernel
theorem dX10_readStep_11 : decode cX10_readStep 11 = .ok (.iconst (-1), 1) := by decide +kernel
theorem dX10_readStep_12 : decode cX10_readStep 12 = .ok (.goto 13, 3) := by decide +kernel
theorem dX10_readStep_15 : decode cX10_readStep 15 = .ok (.ldc 103, 2) := by decide +kernel
theorem dX10_readStep_17 : decode cX10_readStep 17 = .ok (.aload_n 0, 1) := by decide +kernel
theorem dX10_readStep_18 : decode cX10_readStep 18 = .ok (.invokevirtual 56, 3) := by decide +kernel
theorem dX10_readStep_21 : decode cX10_readStep 21 = .ok (.i2c, 1) := by decide +kernel
theorem dX10_readStep_22 : decode cX10_readStep 22 = .ok (.invokevirtual 82, 3) := by decide +kernel
theorem dX10_readStep_25 : decode cX10_readStep 25 = .ok (.istore_n 2, 1) := by decide +kernel
theorem dX10_readStep_26 : decode cX10_readStep 26 = .ok (.iload_n 2, 1) := by decide +kernel
theorem dX10_readStep_27 : decode cX10_readStep 27 = .ok (.ifCond .ge 12, 3) := by decide +kernel
theorem dX10_readStep_30 : decode cX10_readStep 30 = .ok (.aload_n 0, 1) := by decide +kernel
theorem dX10_readStep_31 : decode cX10_readStep 31 = .ok (.aload_n 0, 1) := by decide +kernel
theorem dX10_readStep_32 : decode cX10_readStep 32 = .ok (.getfield 19, 3) := by decide +kernel
theorem dX10_readStep_35 : decode cX10_readStep 35 = .ok (.invokevirtual 67, 3) := by decide +kernel
theorem dX10_readStep_38 : decode cX10_readStep 38 = .ok (.ireturn, 1) := by decide +kernel
theorem dX10_readStep_39 : decode cX10_readStep 39 = .ok (.aload_n 0, 1) := by decide +kernel
theorem dX10_readStep_40 : decode cX10_readStep 40 = .ok (.dup, 1) := by decide +kernel
theorem dX10_readStep_41 : decode cX10_readStep 41 = .ok (.getfield 19, 3) := by decide +kernel
theorem dX10_readStep_44 : decode cX10_readStep 44 = .ok (.iconst 1, 1) := by decide +kernel
theorem dX10_readStep_45 : decode cX10_readStep 45 = .ok (.iadd, 1) := by decide +kernel
theorem dX10_readStep_46 : decode cX10_readStep 46 = .ok (.putfield 19, 3) := by decide +kernel
theorem dX10_readStep_49 : decode cX10_readStep 49 = .ok (.aload_n 0, 1) := by decide +kernel
theorem dX10_readStep_50 : decode cX10_readStep 50 = .ok (.getfield 44, 3) := by decide +kernel
theorem dX10_readStep_53 : decode cX10_readStep 53 = .ok (.iload_n 2, 1) := by decide +kernel
theorem dX10_readStep_54 : decode cX10_readStep 54 = .ok (.invokevirtual 105, 3) := by decide +kernel
theorem dX10_readStep_57 : decode cX10_readStep 57 = .ok (.iconst 0, 1) := by decide +kernel
theorem dX10_readStep_58 : decode cX10_readStep 58 = .ok (.istore_n 3, 1) := by decide +kernel
theorem dX10_readStep_59 : decode cX10_readStep 59 = .ok (.iload_n 3, 1) := by decide +kernel
theorem dX10_readStep_60 : decode cX10_readStep 60 = .ok (.iload_n 2, 1) := by decide +kernel
theorem dX10_readStep_61 : decode cX10_readStep 61 = .ok (.invokestatic 109, 3) := by decide +kernel
theorem dX10_readStep_64 : decode cX10_readStep 64 = .ok (.if_icmp .ge 48, 3) := by decide +kernel
theorem dX10_readStep_67 : decode cX10_readStep 67 = .ok (.iload_n 3, 1) := by decide +kernel
theorem dX10_readStep_68 : decode cX10_readStep 68 = .ok (.ifCond .le 12, 3) := by decide +kernel
theorem dX10_readStep_71 : decode cX10_readStep 71 = .ok (.aload_n 0, 1) := by decide +kernel
theorem dX10_readStep_72 : decode cX10_readStep 72 = .ok (.invokevirtual 112, 3) := by decide +kernel
theorem dX10_readStep_75 : decode cX10_readStep 75 = .ok (.ifCond .ne 5, 3) := by decide +kernel
theorem dX10_readStep_78 : decode cX10_readStep 78 = .ok (.iconst 0, 1) := by decide +kernel
theorem dX10_readStep_79 : decode cX10_readStep 79 = .ok (.ireturn, 1) := by decide +kernel
theorem dX10_readStep_80 : decode cX10_readStep 80 = .ok (.aload_n 0, 1) := by decide +kernel
theorem dX10_readStep_81 : decode cX10_readStep 81 = .ok (.iconst 0, 1) := by decide +kernel
theorem dX10_readStep_82 : decode cX10_readStep 82 = .ok (.sipush 999, 3) := by decide +kernel
theorem dX10_readStep_85 : decode cX10_readStep 85 = .ok (.invokevirtual 94, 3) := by decide +kernel
theorem dX10_readStep_88 : decode cX10_readStep 88 = .ok (.ifCond .ne 5, 3) := by decide +kernel
theorem dX10_readStep_91 : decode cX10_readStep 91 = .ok (.iconst 0, 1) := by decide +kernel
theorem dX10_readStep_92 : decode cX10_readStep 92 = .ok (.ireturn, 1) := by decide +kernel
theorem dX10_readStep_93 : decode cX10_readStep 93 = .ok (.aload_n 0, 1) := by decide +kernel
theorem dX10_readStep_94 : decode cX10_readStep 94 = .ok (.getfield 44, 3) := by decide +kernel
theorem dX10_readStep_97 : decode cX10_readStep 97 = .ok (.iload_n 1, 1) := by decide +kernel
theorem dX10_readStep_98 : decode cX10_readStep 98 = .ok (.iload_n 3, 1) := by decide +kernel
theorem dX10_readStep_99 : decode cX10_readStep 99 = .ok (.aload_n 0, 1) := by decide +kernel
theorem dX10_readStep_100 : decode cX10_readStep 100 = .ok (.getfield 25, 3) := by decide +kernel
theorem dX10_readStep_103 : decode cX10_readStep 103 = .ok (.invokevirtual 115, 3) := by decide +kernel
theorem dX10_readStep_106 : decode cX10_readStep 106 = .ok (.iinc 3 1, 3) := by decide +kernel
theorem dX10_readStep_109 : decode cX10_readStep 109 = .ok (.goto (-50), 3) := by decide +kernel
theorem dX10_readStep_112 : decode cX10_readStep 112 = .ok (.iconst 1, 1) := by decide +kernel
theorem dX10_readStep_113 : decode cX10_readStep 113 = .ok (.ireturn, 1) := by decide +kernel
theorem dX10_scriptFault_0 : decode cX10_scriptFault 0 = .ok (.aload_n 0, 1) := by decide +kernel
theorem dX10_scriptFault_1 : decode cX10_scriptFault 1 = .ok (.iconst 0, 1) := by decide +kernel
theorem dX10_scriptFault_2 : decode cX10_scriptFault 2 = .ok (.putfield 19, 3) := by decide +kernel
theorem dX10_scriptFault_5 : decode cX10_scriptFault 5 = .ok (.aload_n 0, 1) := by decide +kernel
theorem dX10_scriptFault_6 : decode cX10_scriptFault 6 = .ok (.getfield 44, 3) := by decide +kernel
theorem dX10_scriptFault_9 : decode cX10_scriptFault 9 = .ok (.invokevirtual 97, 3) := by decide +kernel
theorem dX10_scriptFault_12 : decode cX10_scriptFault 12 = .ok (.iconst 0, 1) := by decide +kernel
theorem dX10_scriptFault_13 : decode cX10_scriptFault 13 = .ok (.istore_n 1, 1) := by decide +kernel
theorem dX10_scriptFault_14 : decode cX10_scriptFault 14 = .ok (.iload_n 1, 1) := by decide +kernel
theorem dX10_scriptFault_15 : decode cX10_scriptFault 15 = .ok (.bipush 16, 2) := by decide +kernel
theorem dX10_scriptFault_17 : decode cX10_scriptFault 17 = .ok (.if_icmp .ge 59, 3) := by decide +kernel
theorem dX10_scriptFault_20 : decode cX10_scriptFault 20 = .ok (.aload_n 0, 1) := by decide +kernel
theorem dX10_scriptFault_21 : decode cX10_scriptFault 21 = .ok (.iload_n 1, 1) := by decide +kernel
theorem dX10_scriptFault_22 : decode cX10_scriptFault 22 = .ok (.invokevirtual 100, 3) := by decide +kernel
theorem dX10_scriptFault_25 : decode cX10_scriptFault 25 = .ok (.ifCond .ne 8, 3) := by decide +kernel
theorem dX10_scriptFault_28 : decode cX10_scriptFault 28 = .ok (.aload_n 0, 1) := by decide +kernel
theorem dX10_scriptFault_29 : decode cX10_scriptFault 29 = .ok (.getfield 22, 3) := by decide +kernel
theorem dX10_scriptFault_32 : decode cX10_scriptFault 32 = .ok (.ireturn, 1) := by decide +kernel
theorem dX10_scriptFault_33 : decode cX10_scriptFault 33 = .ok (.aload_n 0, 1) := by decide +kernel
theorem dX10_scriptFault_34 : decode cX10_scriptFault 34 = .ok (.invokevirtual 60, 3) := by decide +kernel
theorem dX10_scriptFault_37 : decode cX10_scriptFault 37 = .ok (.aload_n 0, 1) := by decide +kernel
theorem dX10_scriptFault_38 : decode cX10_scriptFault 38 = .ok (.invokevirtual 56, 3) := by decide +kernel
theorem dX10_scriptFault_41 : decode cX10_scriptFault 41 = .ok (.ifCond .ne 5, 3) := by decide +kernel
theorem dX10_scriptFault_44 : decode cX10_scriptFault 44 = .ok (.iconst (-1), 1) := by decide +kernel
theorem dX10_scriptFault_45 : decode cX10_scriptFault 45 = .ok (.ireturn, 1) := by decide +kernel
theorem dX10_scriptFault_46 : decode cX10_scriptFault 46 = .ok (.aload_n 0, 1) := by decide +kernel
theorem dX10_scriptFault_47 : decode cX10_scriptFault 47 = .ok (.invokevirtual 56, 3) := by decide +kernel
theorem dX10_scriptFault_50 : decode cX10_scriptFault 50 = .ok (.bipush 59, 2) := by decide +kernel
theorem dX10_scriptFault_52 : decode cX10_scriptFault 52 = .ok (.if_icmp .eq 8, 3) := by decide +kernel
theorem dX10_scriptFault_55 : decode cX10_scriptFault 55 = .ok (.aload_n 0, 1) := by decide +kernel
theorem dX10_scriptFault_56 : decode cX10_scriptFault 56 = .ok (.getfield 19, 3) := by decide +kernel
theorem dX10_scriptFault_59 : decode cX10_scriptFault 59 = .ok (.ireturn, 1) := by decide +kernel
theorem dX10_scriptFault_60 : decode cX10_scriptFault 60 = .ok (.aload_n 0, 1) := by decide +kernel
theorem dX10_scriptFault_61 : decode cX10_scriptFault 61 = .ok (.dup, 1) := by decide +kernel
theorem dX10_scriptFault_62 : decode cX10_scriptFault 62 = .ok (.getfield 19, 3) := by decide +kernel
theorem dX10_scriptFault_65 : decode cX10_scriptFault 65 = .ok (.iconst 1, 1) := by decide +kernel
theorem dX10_scriptFault_66 : decode cX10_scriptFault 66 = .ok (.iadd, 1) := by decide +kernel
theorem dX10_scriptFault_67 : decode cX10_scriptFault 67 = .ok (.putfield 19, 3) := by decide +kernel
theorem dX10_scriptFault_70 : decode cX10_scriptFault 70 = .ok (.iinc 1 1, 3) := by decide +kernel
theorem dX10_scriptFault_73 : decode cX10_scriptFault 73 = .ok (.goto (-59), 3) := by decide +kernel
theorem dX10_scriptFault_76 : decode cX10_scriptFault 76 = .ok (.aload_n 0, 1) := by decide +kernel
theorem dX10_scriptFault_77 : decode cX10_scriptFault 77 = .ok (.getfield 19, 3) := by decide +kernel
theorem dX10_scriptFault_80 : decode cX10_scriptFault 80 = .ok (.iconst 1, 1) := by decide +kernel
theorem dX10_scriptFault_81 : decode cX10_scriptFault 81 = .ok (.isub, 1) := by decide +kernel
theorem dX10_scriptFault_82 : decode cX10_scriptFault 82 = .ok (.ireturn, 1) := by decide +kernel
theorem dX11_feed_0 : decode cX11_feed 0 = .ok (.iload_n 1, 1) := by decide +kernel
theorem dX11_feed_1 : decode cX11_feed 1 = .ok (.invokestatic 100, 3) := by decide +kernel
theorem dX11_feed_4 : decode cX11_feed 4 = .ok (.iload_n 2, 1) := by decide +kernel
theorem dX11_feed_5 : decode cX11_feed 5 = .ok (.invokestatic 100, 3) := by decide +kernel
theorem dX11_feed_8 : decode cX11_feed 8 = .ok (.iadd, 1) := by decide +kernel
theorem dX11_feed_9 : decode cX11_feed 9 = .ok (.iload_n 3, 1) := by decide +kernel
theorem dX11_feed_10 : decode cX11_feed 10 = .ok (.invokestatic 100, 3) := by decide +kernel
theorem dX11_feed_13 : decode cX11_feed 13 = .ok (.iadd, 1) := by decide +kernel
theorem dX11_feed_14 : decode cX11_feed 14 = .ok (.iload 4, 2) := by decide +kernel
theorem dX11_feed_16 : decode cX11_feed 16 = .ok (.invokestatic 100, 3) := by decide +kernel
theorem dX11_feed_19 : decode cX11_feed 19 = .ok (.iadd, 1) := by decide +kernel
theorem dX11_feed_20 : decode cX11_feed 20 = .ok (.iload 5, 2) := by decide +kernel
theorem dX11_feed_22 : decode cX11_feed 22 = .ok (.invokestatic 100, 3) := by decide +kernel
theorem dX11_feed_25 : decode cX11_feed 25 = .ok (.iadd, 1) := by decide +kernel
theorem dX11_feed_26 : decode cX11_feed 26 = .ok (.istore 6, 2) := by decide +kernel
theorem dX11_feed_28 : decode cX11_feed 28 = .ok (.aload_n 0, 1) := by decide +kernel
theorem dX11_feed_29 : decode cX11_feed 29 = .ok (.getfield 10, 3) := by decide +kernel
theorem dX11_feed_32 : decode cX11_feed 32 = .ok (.invokevirtual 104, 3) := by decide +kernel
theorem dX11_feed_35 : decode cX11_feed 35 = .ok (.iload 6, 2) := by decide +kernel
theorem dX11_feed_37 : decode cX11_feed 37 = .ok (.iadd, 1) := by decide +kernel
theorem dX11_feed_38 : decode cX11_feed 38 = .ok (.sipush 280, 3) := by decide +kernel
theorem dX11_feed_41 : decode cX11_feed 41 = .ok (.if_icmp .le 5, 3) := by decide +kernel
theorem dX11_feed_44 : decode cX11_feed 44 = .ok (.iconst (-1), 1) := by decide +kernel
theorem dX11_feed_45 : decode cX11_feed 45 = .ok (.ireturn, 1) := by decide +kernel
theorem dX11_feed_46 : decode cX11_feed 46 = .ok (.aload_n 0, 1) := by decide +kernel
theorem dX11_feed_47 : decode cX11_feed 47 = .ok (.getfield 10, 3) := by decide +kernel
theorem dX11_feed_50 : decode cX11_feed 50 = .ok (.iload_n 1, 1) := by decide +kernel
theorem dX11_feed_51 : decode cX11_feed 51 = .ok (.invokevirtual 108, 3) := by decide +kernel
theorem dX11_feed_54 : decode cX11_feed 54 = .ok (.aload_n 0, 1) := by decide +kernel
theorem dX11_feed_55 : decode cX11_feed 55 = .ok (.getfield 10, 3) := by decide +kernel
theorem dX11_feed_58 : decode cX11_feed 58 = .ok (.iload_n 2, 1) := by decide +kernel
theorem dX11_feed_59 : decode cX11_feed 59 = .ok (.invokevirtual 108, 3) := by decide +kernel
theorem dX11_feed_62 : decode cX11_feed 62 = .ok (.aload_n 0, 1) := by decide +kernel
theorem dX11_feed_63 : decode cX11_feed 63 = .ok (.getfield 10, 3) := by decide +kernel
theorem dX11_feed_66 : decode cX11_feed 66 = .ok (.iload_n 3, 1) := by decide +kernel
theorem dX11_feed_67 : decode cX11_feed 67 = .ok (.invokevirtual 108, 3) := by decide +kernel
theorem dX11_feed_70 : decode cX11_feed 70 = .ok (.aload_n 0, 1) := by decide +kernel
theorem dX11_feed_71 : decode cX11_feed 71 = .ok (.getfield 10, 3) := by decide +kernel
theorem dX11_feed_74 : decode cX11_feed 74 = .ok (.iload 4, 2) := by decide +kernel
theorem dX11_feed_76 : decode cX11_feed 76 = .ok (.invokevirtual 108, 3) := by decide +kernel
theorem dX11_feed_79 : decode cX11_feed 79 = .ok (.aload_n 0, 1) := by decide +kernel
theorem dX11_feed_80 : decode cX11_feed 80 = .ok (.getfield 10, 3) := by decide +kernel
theorem dX11_feed_83 : decode cX11_feed 83 = .ok (.iload 5, 2) := by decide +kernel
theorem dX11_feed_85 : decode cX11_feed 85 = .ok (.invokevirtual 108, 3) := by decide +kernel
theorem dX11_feed_88 : decode cX11_feed 88 = .ok (.aload_n 0, 1) := by decide +kernel
theorem dX11_feed_89 : decode cX11_feed 89 = .ok (.getfield 10, 3) := by decide +kernel
theorem dX11_feed_92 : decode cX11_feed 92 = .ok (.invokevirtual 104, 3) := by decide +kernel
theorem dX11_feed_95 : decode cX11_feed 95 = .ok (.ireturn, 1) := by decide +kernel
theorem dX11_end_0 : decode cX11_end 0 = .ok (.aload_n 0, 1) := by decide +kernel
theorem dX11_end_1 : decode cX11_end 1 = .ok (.getfield 10, 3) := by decide +kernel
theorem dX11_end_4 : decode cX11_end 4 = .ok (.iload_n 1, 1) := by decide +kernel
theorem dX11_end_5 : decode cX11_end 5 = .ok (.invokevirtual 112, 3) := by decide +kernel
theorem dX11_end_8 : decode cX11_end 8 = .ok (.ireturn, 1) := by decide +kernel
theorem dX11_fault_0 : decode cX11_fault 0 = .ok (.iload_n 1, 1) := by decide +kernel
theorem dX11_fault_1 : decode cX11_fault 1 = .ok (.ifCond .ne 11, 3) := by decide +kernel
theorem dX11_fault_4 : decode cX11_fault 4 = .ok (.aload_n 0, 1) := by decide +kernel
theorem dX11_fault_5 : decode cX11_fault 5 = .ok (.getfield 10, 3) := by decide +kernel
theorem dX11_fault_8 : decode cX11_fault 8 = .ok (.invokevirtual 116, 3) := by decide +kernel
theorem dX11_fault_11 : decode cX11_fault 11 = .ok (.ireturn, 1) := by decide +kernel
theorem dX11_fault_12 : decode cX11_fault 12 = .ok (.iload_n 1, 1) := by decide +kernel
theorem dX11_fault_13 : decode cX11_fault 13 = .ok (.iconst 1, 1) := by decide +kernel
theorem dX11_fault_14 : decode cX11_fault 14 = .ok (.if_icmp .ne 13, 3) := by decide +kernel
theorem dX11_fault_17 : decode cX11_fault 17 = .ok (.aload_n 0, 1) := by decide +kernel
theorem dX11_fault_18 : decode cX11_fault 18 = .ok (.getfield 10, 3) := by decide +kernel
theorem dX11_fault_21 : decode cX11_fault 21 = .ok (.invokevirtual 119, 3) := by decide +kernel
theorem dX11_fault_24 : decode cX11_fault 24 = .ok (.goto 5, 3) := by decide +kernel
theorem dX11_fault_27 : decode cX11_fault 27 = .ok (.bipush (-2), 2) := by decide +kernel
theorem dX11_fault_29 : decode cX11_fault 29 = .ok (.ireturn, 1) := by decide +kernel
theorem dX11_takeShelf_0 : decode cX11_takeShelf 0 = .ok (.aload_n 0, 1) := by decide +kernel
theorem dX11_takeShelf_1 : decode cX11_takeShelf 1 = .ok (.getfield 10, 3) := by decide +kernel
theorem dX11_takeShelf_4 : decode cX11_takeShelf 4 = .ok (.invokevirtual 116, 3) := by decide +kernel
theorem dX11_takeShelf_7 : decode cX11_takeShelf 7 = .ok (.iconst (-1), 1) := by decide +kernel
theorem dX11_takeShelf_8 : decode cX11_takeShelf 8 = .ok (.if_icmp .eq 5, 3) := by decide +kernel
theorem dX11_takeShelf_11 : decode cX11_takeShelf 11 = .ok (.iconst (-1), 1) := by decide +kernel
theorem dX11_takeShelf_12 : decode cX11_takeShelf 12 = .ok (.ireturn, 1) := by decide +kernel
theorem dX11_takeShelf_13 : decode cX11_takeShelf 13 = .ok (.aload_n 0, 1) := by decide +kernel
theorem dX11_takeShelf_14 : decode cX11_takeShelf 14 = .ok (.getfield 19, 3) := by decide +kernel
theorem dX11_takeShelf_17 : decode cX11_takeShelf 17 = .ok (.aload_n 0, 1) := by decide +kernel
theorem dX11_takeShelf_18 : decode cX11_takeShelf 18 = .ok (.getfield 10, 3) := by decide +kernel
theorem dX11_takeShelf_21 : decode cX11_takeShelf 21 = .ok (.invokevirtual 128, 3) := by decide +kernel
theorem dX11_takeShelf_24 : decode cX11_takeShelf 24 = .ok (.aload_n 0, 1) := by decide +kernel
theorem dX11_takeShelf_25 : decode cX11_takeShelf 25 = .ok (.getfield 26, 3) := by decide +kernel
theorem dX11_takeShelf_28 : decode cX11_takeShelf 28 = .ok (.aload_n 0, 1) := by decide +kernel
theorem dX11_takeShelf_29 : decode cX11_takeShelf 29 = .ok (.getfield 19, 3) := by decide +kernel
theorem dX11_takeShelf_32 : decode cX11_takeShelf 32 = .ok (.getfield 132, 3) := by decide +kernel
theorem dX11_takeShelf_35 : decode cX11_takeShelf 35 = .ok (.invokevirtual 134, 3) := by decide +kernel
theorem dX11_takeShelf_38 : decode cX11_takeShelf 38 = .ok (.aload_n 0, 1) := by decide +kernel
theorem dX11_takeShelf_39 : decode cX11_takeShelf 39 = .ok (.getfield 35, 3) := by decide +kernel
theorem dX11_takeShelf_42 : decode cX11_takeShelf 42 = .ok (.getfield 137, 3) := by decide +kernel
theorem dX11_takeShelf_45 : decode cX11_takeShelf 45 = .ok (.aload_n 0, 1) := by decide +kernel
theorem dX11_takeShelf_46 : decode cX11_takeShelf 46 = .ok (.getfield 19, 3) := by decide +kernel
theorem dX11_takeShelf_49 : decode cX11_takeShelf 49 = .ok (.invokevirtual 141, 3) := by decide +kernel
theorem dX11_takeShelf_52 : decode cX11_takeShelf 52 = .ok (.iconst 0, 1) := by decide +kernel
theorem dX11_takeShelf_53 : decode cX11_takeShelf 53 = .ok (.istore_n 1, 1) := by decide +kernel
theorem dX11_takeShelf_54 : decode cX11_takeShelf 54 = .ok (.iload_n 1, 1) := by decide +kernel
theorem dX11_takeShelf_55 : decode cX11_takeShelf 55 = .ok (.aload_n 0, 1) := by decide +kernel
theorem dX11_takeShelf_56 : decode cX11_takeShelf 56 = .ok (.getfield 10, 3) := by decide +kernel
theorem dX11_takeShelf_59 : decode cX11_takeShelf 59 = .ok (.invokevirtual 147, 3) := by decide +kernel
theorem dX11_takeShelf_62 : decode cX11_takeShelf 62 = .ok (.if_icmp .ge 54, 3) := by decide +kernel
theorem dX11_takeShelf_65 : decode cX11_takeShelf 65 = .ok (.aload_n 0, 1) := by decide +kernel
theorem dX11_takeShelf_66 : decode cX11_takeShelf 66 = .ok (.getfield 19, 3) := by decide +kernel
theorem dX11_takeShelf_69 : decode cX11_takeShelf 69 = .ok (.aload_n 0, 1) := by decide +kernel
theorem dX11_takeShelf_70 : decode cX11_takeShelf 70 = .ok (.getfield 10, 3) := by decide +kernel
theorem dX11_takeShelf_73 : decode cX11_takeShelf 73 = .ok (.iload_n 1, 1) := by decide +kernel
theorem dX11_takeShelf_74 : decode cX11_takeShelf 74 = .ok (.invokevirtual 150, 3) := by decide +kernel
theorem dX11_takeShelf_77 : decode cX11_takeShelf 77 = .ok (.invokevirtual 153, 3) := by decide +kernel
theorem dX11_takeShelf_80 : decode cX11_takeShelf 80 = .ok (.ifCond .eq 30, 3) := by decide +kernel
theorem dX11_takeShelf_83 : decode cX11_takeShelf 83 = .ok (.aload_n 0, 1) := by decide +kernel
theorem dX11_takeShelf_84 : decode cX11_takeShelf 84 = .ok (.getfield 35, 3) := by decide +kernel
theorem dX11_takeShelf_87 : decode cX11_takeShelf 87 = .ok (.iconst 0, 1) := by decide +kernel
theorem dX11_takeShelf_88 : decode cX11_takeShelf 88 = .ok (.aload_n 0, 1) := by decide +kernel
theorem dX11_takeShelf_89 : decode cX11_takeShelf 89 = .ok (.getfield 10, 3) := by decide +kernel
theorem dX11_takeShelf_92 : decode cX11_takeShelf 92 = .ok (.iload_n 1, 1) := by decide +kernel
theorem dX11_takeShelf_93 : decode cX11_takeShelf 93 = .ok (.invokevirtual 150, 3) := by decide +kernel
theorem dX11_takeShelf_96 : decode cX11_takeShelf 96 = .ok (.aload_n 0, 1) := by decide +kernel
theorem dX11_takeShelf_97 : decode cX11_takeShelf 97 = .ok (.getfield 10, 3) := by decide +kernel
theorem dX11_takeShelf_100 : decode cX11_takeShelf 100 = .ok (.iload_n 1, 1) := by decide +kernel
theorem dX11_takeShelf_101 : decode cX11_takeShelf 101 = .ok (.invokevirtual 156, 3) := by decide +kernel
theorem dX11_takeShelf_104 : decode cX11_takeShelf 104 = .ok (.iconst 0, 1) := by decide +kernel
theorem dX11_takeShelf_105 : decode cX11_takeShelf 105 = .ok (.iconst 0, 1) := by decide +kernel
theorem dX11_takeShelf_106 : decode cX11_takeShelf 106 = .ok (.invokevirtual 159, 3) := by decide +kernel
theorem dX11_takeShelf_109 : decode cX11_takeShelf 109 = .ok (.pop, 1) := by decide +kernel
theorem dX11_takeShelf_110 : decode cX11_takeShelf 110 = .ok (.iinc 1 1, 3) := by decide +kernel
theorem dX11_takeShelf_113 : decode cX11_takeShelf 113 = .ok (.goto (-59), 3) := by decide +kernel
theorem dX11_takeShelf_116 : decode cX11_takeShelf 116 = .ok (.aload_n 0, 1) := by decide +kernel
theorem dX11_takeShelf_117 : decode cX11_takeShelf 117 = .ok (.getfield 35, 3) := by decide +kernel
theorem dX11_takeShelf_120 : decode cX11_takeShelf 120 = .ok (.getfield 137, 3) := by decide +kernel
theorem dX11_takeShelf_123 : decode cX11_takeShelf 123 = .ok (.invokevirtual 163, 3) := by decide +kernel
theorem dX11_takeShelf_126 : decode cX11_takeShelf 126 = .ok (.aload_n 0, 1) := by decide +kernel
theorem dX11_takeShelf_127 : decode cX11_takeShelf 127 = .ok (.getfield 67, 3) := by decide +kernel
theorem dX11_takeShelf_130 : decode cX11_takeShelf 130 = .ok (.invokevirtual 166, 3) := by decide +kernel
theorem dX11_takeShelf_133 : decode cX11_takeShelf 133 = .ok (.aload_n 0, 1) := by decide +kernel
theorem dX11_takeShelf_134 : decode cX11_takeShelf 134 = .ok (.getfield 57, 3) := by decide +kernel
theorem dX11_takeShelf_137 : decode cX11_takeShelf 137 = .ok (.invokevirtual 169, 3) := by decide +kernel
theorem dX11_takeShelf_140 : decode cX11_takeShelf 140 = .ok (.aload_n 0, 1) := by decide +kernel
theorem dX11_takeShelf_141 : decode cX11_takeShelf 141 = .ok (.iconst 0, 1) := by decide +kernel
theorem dX11_takeShelf_142 : decode cX11_takeShelf 142 = .ok (.putfield 95, 3) := by decide +kernel
theorem dX11_takeShelf_145 : decode cX11_takeShelf 145 = .ok (.aload_n 0, 1) := by decide +kernel
theorem dX11_takeShelf_146 : decode cX11_takeShelf 146 = .ok (.getfield 10, 3) := by decide +kernel
theorem dX11_takeShelf_149 : decode cX11_takeShelf 149 = .ok (.iconst 0, 1) := by decide +kernel
theorem dX11_takeShelf_150 : decode cX11_takeShelf 150 = .ok (.invokevirtual 112, 3) := by decide +kernel
theorem dX11_takeShelf_153 : decode cX11_takeShelf 153 = .ok (.pop, 1) := by decide +kernel
theorem dX11_takeShelf_154 : decode cX11_takeShelf 154 = .ok (.aload_n 0, 1) := by decide +kernel
theorem dX11_takeShelf_155 : decode cX11_takeShelf 155 = .ok (.getfield 19, 3) := by decide +kernel
theorem dX11_takeShelf_158 : decode cX11_takeShelf 158 = .ok (.invokevirtual 170, 3) := by decide +kernel
theorem dX11_takeShelf_161 : decode cX11_takeShelf 161 = .ok (.ireturn, 1) := by decide +kernel
theorem dX11_takeScript_0 : decode cX11_takeScript 0 = .ok (.aload_n 0, 1) := by decide +kernel
theorem dX11_takeScript_1 : decode cX11_takeScript 1 = .ok (.getfield 88, 3) := by decide +kernel
theorem dX11_takeScript_4 : decode cX11_takeScript 4 = .ok (.ifCond .lt 27, 3) := by decide +kernel
theorem dX11_takeScript_7 : decode cX11_takeScript 7 = .ok (.aload_n 0, 1) := by decide +kernel
theorem dX11_takeScript_8 : decode cX11_takeScript 8 = .ok (.getfield 88, 3) := by decide +kernel
theorem dX11_takeScript_11 : decode cX11_takeScript 11 = .ok (.aload_n 0, 1) := by decide +kernel
theorem dX11_takeScript_12 : decode cX11_takeScript 12 = .ok (.getfield 80, 3) := by decide +kernel
theorem dX11_takeScript_15 : decode cX11_takeScript 15 = .ok (.arraylength, 1) := by decide +kernel
theorem dX11_takeScript_16 : decode cX11_takeScript 16 = .ok (.if_icmp .ge 15, 3) := by decide +kernel
theorem dX11_takeScript_19 : decode cX11_takeScript 19 = .ok (.aload_n 0, 1) := by decide +kernel
theorem dX11_takeScript_20 : decode cX11_takeScript 20 = .ok (.getfield 80, 3) := by decide +kernel
theorem dX11_takeScript_23 : decode cX11_takeScript 23 = .ok (.aload_n 0, 1) := by decide +kernel
theorem dX11_takeScript_24 : decode cX11_takeScript 24 = .ok (.getfield 88, 3) := by decide +kernel
theorem dX11_takeScript_27 : decode cX11_takeScript 27 = .ok (.aaload, 1) := by decide +kernel
theorem dX11_takeScript_28 : decode cX11_takeScript 28 = .ok (.ifnonnull 5, 3) := by decide +kernel
theorem dX11_takeScript_31 : decode cX11_takeScript 31 = .ok (.iconst (-1), 1) := by decide +kernel
theorem dX11_takeScript_32 : decode cX11_takeScript 32 = .ok (.ireturn, 1) := by decide +kernel
theorem dX11_takeScript_33 : decode cX11_takeScript 33 = .ok (.aload_n 0, 1) := by decide +kernel
theorem dX11_takeScript_34 : decode cX11_takeScript 34 = .ok (.getfield 10, 3) := by decide +kernel
theorem dX11_takeScript_37 : decode cX11_takeScript 37 = .ok (.invokevirtual 119, 3) := by decide +kernel
theorem dX11_takeScript_40 : decode cX11_takeScript 40 = .ok (.iconst (-1), 1) := by decide +kernel
theorem dX11_takeScript_41 : decode cX11_takeScript 41 = .ok (.if_icmp .eq 5, 3) := by decide +kernel
theorem dX11_takeScript_44 : decode cX11_takeScript 44 = .ok (.iconst (-1), 1) := by decide +kernel
theorem dX11_takeScript_45 : decode cX11_takeScript 45 = .ok (.ireturn, 1) := by decide +kernel
theorem dX11_takeScript_46 : decode cX11_takeScript 46 = .ok (.aload_n 0, 1) := by decide +kernel
theorem dX11_takeScript_47 : decode cX11_takeScript 47 = .ok (.getfield 80, 3) := by decide +kernel
theorem dX11_takeScript_50 : decode cX11_takeScript 50 = .ok (.aload_n 0, 1) := by decide +kernel
theorem dX11_takeScript_51 : decode cX11_takeScript 51 = .ok (.getfield 88, 3) := by decide +kernel
theorem dX11_takeScript_54 : decode cX11_takeScript 54 = .ok (.aaload, 1) := by decide +kernel
theorem dX11_takeScript_55 : decode cX11_takeScript 55 = .ok (.aload_n 0, 1) := by decide +kernel
theorem dX11_takeScript_56 : decode cX11_takeScript 56 = .ok (.getfield 10, 3) := by decide +kernel
theorem dX11_takeScript_59 : decode cX11_takeScript 59 = .ok (.invokevirtual 173, 3) := by decide +kernel
theorem dX11_takeScript_62 : decode cX11_takeScript 62 = .ok (.invokevirtual 177, 3) := by decide +kernel
theorem dX11_takeScript_65 : decode cX11_takeScript 65 = .ok (.aload_n 0, 1) := by decide +kernel
theorem dX11_takeScript_66 : decode cX11_takeScript 66 = .ok (.getfield 10, 3) := by decide +kernel
theorem dX11_takeScript_69 : decode cX11_takeScript 69 = .ok (.iconst 0, 1) := by decide +kernel
theorem dX11_takeScript_70 : decode cX11_takeScript 70 = .ok (.invokevirtual 112, 3) := by decide +kernel
theorem dX11_takeScript_73 : decode cX11_takeScript 73 = .ok (.pop, 1) := by decide +kernel
theorem dX11_takeScript_74 : decode cX11_takeScript 74 = .ok (.aload_n 0, 1) := by decide +kernel
theorem dX11_takeScript_75 : decode cX11_takeScript 75 = .ok (.dup, 1) := by decide +kernel
theorem dX11_takeScript_76 : decode cX11_takeScript 76 = .ok (.getfield 88, 3) := by decide +kernel
theorem dX11_takeScript_79 : decode cX11_takeScript 79 = .ok (.iconst 1, 1) := by decide +kernel
theorem dX11_takeScript_80 : decode cX11_takeScript 80 = .ok (.iadd, 1) := by decide +kernel
theorem dX11_takeScript_81 : decode cX11_takeScript 81 = .ok (.putfield 88, 3) := by decide +kernel
theorem dX11_takeScript_84 : decode cX11_takeScript 84 = .ok (.aload_n 0, 1) := by decide +kernel
theorem dX11_takeScript_85 : decode cX11_takeScript 85 = .ok (.getfield 88, 3) := by decide +kernel
theorem dX11_takeScript_88 : decode cX11_takeScript 88 = .ok (.iconst 1, 1) := by decide +kernel
theorem dX11_takeScript_89 : decode cX11_takeScript 89 = .ok (.isub, 1) := by decide +kernel
theorem dX11_takeScript_90 : decode cX11_takeScript 90 = .ok (.ireturn, 1) := by decide +kernel
theorem dX11_text_0 : decode cX11_text 0 = .ok (.iload_n 1, 1) := by decide +kernel
theorem dX11_text_1 : decode cX11_text 1 = .ok (.ifCond .ne 8, 3) := by decide +kernel
theorem dX11_text_4 : decode cX11_text 4 = .ok (.aload_n 0, 1) := by decide +kernel
theorem dX11_text_5 : decode cX11_text 5 = .ok (.invokevirtual 122, 3) := by decide +kernel
theorem dX11_text_8 : decode cX11_text 8 = .ok (.ireturn, 1) := by decide +kernel
theorem dX11_text_9 : decode cX11_text 9 = .ok (.iload_n 1, 1) := by decide +kernel
theorem dX11_text_10 : decode cX11_text 10 = .ok (.iconst 1, 1) := by decide +kernel
theorem dX11_text_11 : decode cX11_text 11 = .ok (.if_icmp .ne 10, 3) := by decide +kernel
theorem dX11_text_14 : decode cX11_text 14 = .ok (.aload_n 0, 1) := by decide +kernel
theorem dX11_text_15 : decode cX11_text 15 = .ok (.invokevirtual 125, 3) := by decide +kernel
theorem dX11_text_18 : decode cX11_text 18 = .ok (.goto 4, 3) := by decide +kernel
theorem dX11_text_21 : decode cX11_text 21 = .ok (.iconst (-1), 1) := by decide +kernel
theorem dX11_text_22 : decode cX11_text 22 = .ok (.ireturn, 1) := by decide +kernel
