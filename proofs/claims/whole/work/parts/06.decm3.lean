theorem dX12_loses_0 : decode cX12_loses 0 = .ok (.aload_n 0, 1) := by decide +kernel
theorem dX12_loses_1 : decode cX12_loses 1 = .ok (.sipush 384, 3) := by decide +kernel
theorem dX12_loses_4 : decode cX12_loses 4 = .ok (.iload_n 1, 1) := by decide +kernel
theorem dX12_loses_5 : decode cX12_loses 5 = .ok (.iadd, 1) := by decide +kernel
theorem dX12_loses_6 : decode cX12_loses 6 = .ok (.iconst 1, 1) := by decide +kernel
theorem dX12_loses_7 : decode cX12_loses 7 = .ok (.iastore, 1) := by decide +kernel
theorem dX12_loses_8 : decode cX12_loses 8 = .ok (.aload_n 0, 1) := by decide +kernel
theorem dX12_loses_9 : decode cX12_loses 9 = .ok (.sipush 392, 3) := by decide +kernel
theorem dX12_loses_12 : decode cX12_loses 12 = .ok (.iload_n 1, 1) := by decide +kernel
theorem dX12_loses_13 : decode cX12_loses 13 = .ok (.iadd, 1) := by decide +kernel
theorem dX12_loses_14 : decode cX12_loses 14 = .ok (.iconst 0, 1) := by decide +kernel
theorem dX12_loses_15 : decode cX12_loses 15 = .ok (.iastore, 1) := by decide +kernel
theorem dX12_loses_16 : decode cX12_loses 16 = .ok (.iconst 0, 1) := by decide +kernel
theorem dX12_loses_17 : decode cX12_loses 17 = .ok (.istore_n 2, 1) := by decide +kernel
theorem dX12_loses_18 : decode cX12_loses 18 = .ok (.iload_n 2, 1) := by decide +kernel
theorem dX12_loses_19 : decode cX12_loses 19 = .ok (.bipush 48, 2) := by decide +kernel
theorem dX12_loses_21 : decode cX12_loses 21 = .ok (.if_icmp .ge 18, 3) := by decide +kernel
theorem dX12_loses_24 : decode cX12_loses 24 = .ok (.aload_n 0, 1) := by decide +kernel
theorem dX12_loses_25 : decode cX12_loses 25 = .ok (.bipush 48, 2) := by decide +kernel
theorem dX12_loses_27 : decode cX12_loses 27 = .ok (.iload_n 1, 1) := by decide +kernel
theorem dX12_loses_28 : decode cX12_loses 28 = .ok (.imul, 1) := by decide +kernel
theorem dX12_loses_29 : decode cX12_loses 29 = .ok (.iload_n 2, 1) := by decide +kernel
theorem dX12_loses_30 : decode cX12_loses 30 = .ok (.iadd, 1) := by decide +kernel
theorem dX12_loses_31 : decode cX12_loses 31 = .ok (.iconst 0, 1) := by decide +kernel
theorem dX12_loses_32 : decode cX12_loses 32 = .ok (.iastore, 1) := by decide +kernel
theorem dX12_loses_33 : decode cX12_loses 33 = .ok (.iinc 2 1, 3) := by decide +kernel
theorem dX12_loses_36 : decode cX12_loses 36 = .ok (.goto (-18), 3) := by decide +kernel
theorem dX12_loses_39 : decode cX12_loses 39 = .ok (.return_, 1) := by decide +kernel
theorem dX12_rebuilds_0 : decode cX12_rebuilds 0 = .ok (.aload_n 1, 1) := by decide +kernel
theorem dX12_rebuilds_1 : decode cX12_rebuilds 1 = .ok (.sipush 392, 3) := by decide +kernel
theorem dX12_rebuilds_4 : decode cX12_rebuilds 4 = .ok (.iload_n 2, 1) := by decide +kernel
theorem dX12_rebuilds_5 : decode cX12_rebuilds 5 = .ok (.iadd, 1) := by decide +kernel
theorem dX12_rebuilds_6 : decode cX12_rebuilds 6 = .ok (.iaload, 1) := by decide +kernel
theorem dX12_rebuilds_7 : decode cX12_rebuilds 7 = .ok (.istore_n 3, 1) := by decide +kernel
theorem dX12_rebuilds_8 : decode cX12_rebuilds 8 = .ok (.aload_n 0, 1) := by decide +kernel
theorem dX12_rebuilds_9 : decode cX12_rebuilds 9 = .ok (.iload_n 3, 1) := by decide +kernel
theorem dX12_rebuilds_10 : decode cX12_rebuilds 10 = .ok (.iload_n 2, 1) := by decide +kernel
theorem dX12_rebuilds_11 : decode cX12_rebuilds 11 = .ok (.invokevirtual 340, 3) := by decide +kernel
theorem dX12_rebuilds_14 : decode cX12_rebuilds 14 = .ok (.istore 4, 2) := by decide +kernel
theorem dX12_rebuilds_16 : decode cX12_rebuilds 16 = .ok (.iconst 0, 1) := by decide +kernel
theorem dX12_rebuilds_17 : decode cX12_rebuilds 17 = .ok (.istore 5, 2) := by decide +kernel
theorem dX12_rebuilds_19 : decode cX12_rebuilds 19 = .ok (.iload 5, 2) := by decide +kernel
theorem dX12_rebuilds_21 : decode cX12_rebuilds 21 = .ok (.aload_n 0, 1) := by decide +kernel
theorem dX12_rebuilds_22 : decode cX12_rebuilds 22 = .ok (.getfield 17, 3) := by decide +kernel
theorem dX12_rebuilds_25 : decode cX12_rebuilds 25 = .ok (.iconst 2, 1) := by decide +kernel
theorem dX12_rebuilds_26 : decode cX12_rebuilds 26 = .ok (.iaload, 1) := by decide +kernel
theorem dX12_rebuilds_27 : decode cX12_rebuilds 27 = .ok (.if_icmp .ge 77, 3) := by decide +kernel
theorem dX12_rebuilds_30 : decode cX12_rebuilds 30 = .ok (.aload_n 0, 1) := by decide +kernel
theorem dX12_rebuilds_31 : decode cX12_rebuilds 31 = .ok (.aload_n 1, 1) := by decide +kernel
theorem dX12_rebuilds_32 : decode cX12_rebuilds 32 = .ok (.iload_n 3, 1) := by decide +kernel
theorem dX12_rebuilds_33 : decode cX12_rebuilds 33 = .ok (.iload 5, 2) := by decide +kernel
theorem dX12_rebuilds_35 : decode cX12_rebuilds 35 = .ok (.iconst (-1), 1) := by decide +kernel
theorem dX12_rebuilds_36 : decode cX12_rebuilds 36 = .ok (.iconst (-1), 1) := by decide +kernel
theorem dX12_rebuilds_37 : decode cX12_rebuilds 37 = .ok (.invokevirtual 223, 3) := by decide +kernel
theorem dX12_rebuilds_40 : decode cX12_rebuilds 40 = .ok (.iconst 0, 1) := by decide +kernel
theorem dX12_rebuilds_41 : decode cX12_rebuilds 41 = .ok (.istore 6, 2) := by decide +kernel
theorem dX12_rebuilds_43 : decode cX12_rebuilds 43 = .ok (.iload 6, 2) := by decide +kernel
theorem dX12_rebuilds_45 : decode cX12_rebuilds 45 = .ok (.aload_n 0, 1) := by decide +kernel
theorem dX12_rebuilds_46 : decode cX12_rebuilds 46 = .ok (.getfield 171, 3) := by decide +kernel
theorem dX12_rebuilds_49 : decode cX12_rebuilds 49 = .ok (.if_icmp .ge 28, 3) := by decide +kernel
theorem dX12_rebuilds_52 : decode cX12_rebuilds 52 = .ok (.aload_n 0, 1) := by decide +kernel
theorem dX12_rebuilds_53 : decode cX12_rebuilds 53 = .ok (.getfield 53, 3) := by decide +kernel
theorem dX12_rebuilds_56 : decode cX12_rebuilds 56 = .ok (.iload 6, 2) := by decide +kernel
theorem dX12_rebuilds_58 : decode cX12_rebuilds 58 = .ok (.baload, 1) := by decide +kernel
theorem dX12_rebuilds_59 : decode cX12_rebuilds 59 = .ok (.ifCond .eq 12, 3) := by decide +kernel
theorem dX12_rebuilds_62 : decode cX12_rebuilds 62 = .ok (.aload_n 0, 1) := by decide +kernel
theorem dX12_rebuilds_63 : decode cX12_rebuilds 63 = .ok (.aload_n 1, 1) := by decide +kernel
theorem dX12_rebuilds_64 : decode cX12_rebuilds 64 = .ok (.iload_n 3, 1) := by decide +kernel
theorem dX12_rebuilds_65 : decode cX12_rebuilds 65 = .ok (.iload 6, 2) := by decide +kernel
theorem dX12_rebuilds_67 : decode cX12_rebuilds 67 = .ok (.iconst 0, 1) := by decide +kernel
theorem dX12_rebuilds_68 : decode cX12_rebuilds 68 = .ok (.invokevirtual 257, 3) := by decide +kernel
theorem dX12_rebuilds_71 : decode cX12_rebuilds 71 = .ok (.iinc 6 1, 3) := by decide +kernel
theorem dX12_rebuilds_74 : decode cX12_rebuilds 74 = .ok (.goto (-31), 3) := by decide +kernel
theorem dX12_rebuilds_77 : decode cX12_rebuilds 77 = .ok (.aload_n 0, 1) := by decide +kernel
theorem dX12_rebuilds_78 : decode cX12_rebuilds 78 = .ok (.invokevirtual 227, 3) := by decide +kernel
theorem dX12_rebuilds_81 : decode cX12_rebuilds 81 = .ok (.aload_n 0, 1) := by decide +kernel
theorem dX12_rebuilds_82 : decode cX12_rebuilds 82 = .ok (.aload_n 1, 1) := by decide +kernel
theorem dX12_rebuilds_83 : decode cX12_rebuilds 83 = .ok (.iload_n 3, 1) := by decide +kernel
theorem dX12_rebuilds_84 : decode cX12_rebuilds 84 = .ok (.iload 5, 2) := by decide +kernel
theorem dX12_rebuilds_86 : decode cX12_rebuilds 86 = .ok (.iload 4, 2) := by decide +kernel
theorem dX12_rebuilds_88 : decode cX12_rebuilds 88 = .ok (.aload_n 0, 1) := by decide +kernel
theorem dX12_rebuilds_89 : decode cX12_rebuilds 89 = .ok (.getfield 50, 3) := by decide +kernel
theorem dX12_rebuilds_92 : decode cX12_rebuilds 92 = .ok (.iload 4, 2) := by decide +kernel
theorem dX12_rebuilds_94 : decode cX12_rebuilds 94 = .ok (.iaload, 1) := by decide +kernel
theorem dX12_rebuilds_95 : decode cX12_rebuilds 95 = .ok (.invokevirtual 261, 3) := by decide +kernel
theorem dX12_rebuilds_98 : decode cX12_rebuilds 98 = .ok (.iinc 5 1, 3) := by decide +kernel
theorem dX12_rebuilds_101 : decode cX12_rebuilds 101 = .ok (.goto (-82), 3) := by decide +kernel
theorem dX12_rebuilds_104 : decode cX12_rebuilds 104 = .ok (.aload_n 1, 1) := by decide +kernel
theorem dX12_rebuilds_105 : decode cX12_rebuilds 105 = .ok (.sipush 392, 3) := by decide +kernel
theorem dX12_rebuilds_108 : decode cX12_rebuilds 108 = .ok (.iload_n 2, 1) := by decide +kernel
theorem dX12_rebuilds_109 : decode cX12_rebuilds 109 = .ok (.iadd, 1) := by decide +kernel
theorem dX12_rebuilds_110 : decode cX12_rebuilds 110 = .ok (.dup2, 1) := by decide +kernel
theorem dX12_rebuilds_111 : decode cX12_rebuilds 111 = .ok (.iaload, 1) := by decide +kernel
theorem dX12_rebuilds_112 : decode cX12_rebuilds 112 = .ok (.iconst 1, 1) := by decide +kernel
theorem dX12_rebuilds_113 : decode cX12_rebuilds 113 = .ok (.iadd, 1) := by decide +kernel
theorem dX12_rebuilds_114 : decode cX12_rebuilds 114 = .ok (.iastore, 1) := by decide +kernel
theorem dX12_rebuilds_115 : decode cX12_rebuilds 115 = .ok (.aload_n 1, 1) := by decide +kernel
theorem dX12_rebuilds_116 : decode cX12_rebuilds 116 = .ok (.sipush 392, 3) := by decide +kernel
theorem dX12_rebuilds_119 : decode cX12_rebuilds 119 = .ok (.iload_n 2, 1) := by decide +kernel
theorem dX12_rebuilds_120 : decode cX12_rebuilds 120 = .ok (.iadd, 1) := by decide +kernel
theorem dX12_rebuilds_121 : decode cX12_rebuilds 121 = .ok (.iaload, 1) := by decide +kernel
theorem dX12_rebuilds_122 : decode cX12_rebuilds 122 = .ok (.aload_n 0, 1) := by decide +kernel
theorem dX12_rebuilds_123 : decode cX12_rebuilds 123 = .ok (.getfield 17, 3) := by decide +kernel
theorem dX12_rebuilds_126 : decode cX12_rebuilds 126 = .ok (.iconst 1, 1) := by decide +kernel
theorem dX12_rebuilds_127 : decode cX12_rebuilds 127 = .ok (.iaload, 1) := by decide +kernel
theorem dX12_rebuilds_128 : decode cX12_rebuilds 128 = .ok (.if_icmp .ne 11, 3) := by decide +kernel
theorem dX12_rebuilds_131 : decode cX12_rebuilds 131 = .ok (.aload_n 1, 1) := by decide +kernel
theorem dX12_rebuilds_132 : decode cX12_rebuilds 132 = .ok (.sipush 384, 3) := by decide +kernel
theorem dX12_rebuilds_135 : decode cX12_rebuilds 135 = .ok (.iload_n 2, 1) := by decide +kernel
theorem dX12_rebuilds_136 : decode cX12_rebuilds 136 = .ok (.iadd, 1) := by decide +kernel
theorem dX12_rebuilds_137 : decode cX12_rebuilds 137 = .ok (.iconst 0, 1) := by decide +kernel
theorem dX12_rebuilds_138 : decode cX12_rebuilds 138 = .ok (.iastore, 1) := by decide +kernel
theorem dX12_rebuilds_139 : decode cX12_rebuilds 139 = .ok (.return_, 1) := by decide +kernel
theorem dX12_scrubsOn_0 : decode cX12_scrubsOn 0 = .ok (.iconst 0, 1) := by decide +kernel
theorem dX12_scrubsOn_1 : decode cX12_scrubsOn 1 = .ok (.istore_n 3, 1) := by decide +kernel
theorem dX12_scrubsOn_2 : decode cX12_scrubsOn 2 = .ok (.iconst 0, 1) := by decide +kernel
theorem dX12_scrubsOn_3 : decode cX12_scrubsOn 3 = .ok (.istore 4, 2) := by decide +kernel
theorem dX12_scrubsOn_5 : decode cX12_scrubsOn 5 = .ok (.iload 4, 2) := by decide +kernel
theorem dX12_scrubsOn_7 : decode cX12_scrubsOn 7 = .ok (.iload_n 2, 1) := by decide +kernel
theorem dX12_scrubsOn_8 : decode cX12_scrubsOn 8 = .ok (.if_icmp .ge 41, 3) := by decide +kernel
theorem dX12_scrubsOn_11 : decode cX12_scrubsOn 11 = .ok (.iload_n 3, 1) := by decide +kernel
theorem dX12_scrubsOn_12 : decode cX12_scrubsOn 12 = .ok (.aload_n 0, 1) := by decide +kernel
theorem dX12_scrubsOn_13 : decode cX12_scrubsOn 13 = .ok (.aload_n 1, 1) := by decide +kernel
theorem dX12_scrubsOn_14 : decode cX12_scrubsOn 14 = .ok (.aload_n 1, 1) := by decide +kernel
theorem dX12_scrubsOn_15 : decode cX12_scrubsOn 15 = .ok (.sipush 426, 3) := by decide +kernel
theorem dX12_scrubsOn_18 : decode cX12_scrubsOn 18 = .ok (.iaload, 1) := by decide +kernel
theorem dX12_scrubsOn_19 : decode cX12_scrubsOn 19 = .ok (.invokevirtual 343, 3) := by decide +kernel
theorem dX12_scrubsOn_22 : decode cX12_scrubsOn 22 = .ok (.iadd, 1) := by decide +kernel
theorem dX12_scrubsOn_23 : decode cX12_scrubsOn 23 = .ok (.istore_n 3, 1) := by decide +kernel
theorem dX12_scrubsOn_24 : decode cX12_scrubsOn 24 = .ok (.aload_n 1, 1) := by decide +kernel
theorem dX12_scrubsOn_25 : decode cX12_scrubsOn 25 = .ok (.sipush 426, 3) := by decide +kernel
theorem dX12_scrubsOn_28 : decode cX12_scrubsOn 28 = .ok (.aload_n 1, 1) := by decide +kernel
theorem dX12_scrubsOn_29 : decode cX12_scrubsOn 29 = .ok (.sipush 426, 3) := by decide +kernel
theorem dX12_scrubsOn_32 : decode cX12_scrubsOn 32 = .ok (.iaload, 1) := by decide +kernel
theorem dX12_scrubsOn_33 : decode cX12_scrubsOn 33 = .ok (.iconst 1, 1) := by decide +kernel
theorem dX12_scrubsOn_34 : decode cX12_scrubsOn 34 = .ok (.iadd, 1) := by decide +kernel
theorem dX12_scrubsOn_35 : decode cX12_scrubsOn 35 = .ok (.aload_n 0, 1) := by decide +kernel
theorem dX12_scrubsOn_36 : decode cX12_scrubsOn 36 = .ok (.getfield 17, 3) := by decide +kernel
theorem dX12_scrubsOn_39 : decode cX12_scrubsOn 39 = .ok (.iconst 1, 1) := by decide +kernel
theorem dX12_scrubsOn_40 : decode cX12_scrubsOn 40 = .ok (.iaload, 1) := by decide +kernel
theorem dX12_scrubsOn_41 : decode cX12_scrubsOn 41 = .ok (.irem, 1) := by decide +kernel
theorem dX12_scrubsOn_42 : decode cX12_scrubsOn 42 = .ok (.iastore, 1) := by decide +kernel
theorem dX12_scrubsOn_43 : decode cX12_scrubsOn 43 = .ok (.iinc 4 1, 3) := by decide +kernel
theorem dX12_scrubsOn_46 : decode cX12_scrubsOn 46 = .ok (.goto (-41), 3) := by decide +kernel
theorem dX12_scrubsOn_49 : decode cX12_scrubsOn 49 = .ok (.aload_n 0, 1) := by decide +kernel
theorem dX12_scrubsOn_50 : decode cX12_scrubsOn 50 = .ok (.iload_n 3, 1) := by decide +kernel
theorem dX12_scrubsOn_51 : decode cX12_scrubsOn 51 = .ok (.putfield 313, 3) := by decide +kernel
theorem dX12_scrubsOn_54 : decode cX12_scrubsOn 54 = .ok (.return_, 1) := by decide +kernel
theorem dX12_tears_0 : decode cX12_tears 0 = .ok (.aload_n 0, 1) := by decide +kernel
theorem dX12_tears_1 : decode cX12_tears 1 = .ok (.iload_n 2, 1) := by decide +kernel
theorem dX12_tears_2 : decode cX12_tears 2 = .ok (.invokevirtual 217, 3) := by decide +kernel
theorem dX12_tears_5 : decode cX12_tears 5 = .ok (.istore 5, 2) := by decide +kernel
theorem dX12_tears_7 : decode cX12_tears 7 = .ok (.aload_n 0, 1) := by decide +kernel
theorem dX12_tears_8 : decode cX12_tears 8 = .ok (.iload_n 2, 1) := by decide +kernel
theorem dX12_tears_9 : decode cX12_tears 9 = .ok (.invokevirtual 220, 3) := by decide +kernel
theorem dX12_tears_12 : decode cX12_tears 12 = .ok (.istore 6, 2) := by decide +kernel
theorem dX12_tears_14 : decode cX12_tears 14 = .ok (.aload_n 0, 1) := by decide +kernel
theorem dX12_tears_15 : decode cX12_tears 15 = .ok (.iload_n 2, 1) := by decide +kernel
theorem dX12_tears_16 : decode cX12_tears 16 = .ok (.invokevirtual 230, 3) := by decide +kernel
theorem dX12_tears_19 : decode cX12_tears 19 = .ok (.istore 7, 2) := by decide +kernel
theorem dX12_tears_21 : decode cX12_tears 21 = .ok (.aload_n 0, 1) := by decide +kernel
theorem dX12_tears_22 : decode cX12_tears 22 = .ok (.getfield 17, 3) := by decide +kernel
theorem dX12_tears_25 : decode cX12_tears 25 = .ok (.iconst 0, 1) := by decide +kernel
theorem dX12_tears_26 : decode cX12_tears 26 = .ok (.iaload, 1) := by decide +kernel
theorem dX12_tears_27 : decode cX12_tears 27 = .ok (.istore 8, 2) := by decide +kernel
theorem dX12_tears_29 : decode cX12_tears 29 = .ok (.aload_n 0, 1) := by decide +kernel
theorem dX12_tears_30 : decode cX12_tears 30 = .ok (.aload_n 1, 1) := by decide +kernel
theorem dX12_tears_31 : decode cX12_tears 31 = .ok (.iload 5, 2) := by decide +kernel
theorem dX12_tears_33 : decode cX12_tears 33 = .ok (.iload 6, 2) := by decide +kernel
theorem dX12_tears_35 : decode cX12_tears 35 = .ok (.iconst (-1), 1) := by decide +kernel
theorem dX12_tears_36 : decode cX12_tears 36 = .ok (.iconst (-1), 1) := by decide +kernel
theorem dX12_tears_37 : decode cX12_tears 37 = .ok (.invokevirtual 223, 3) := by decide +kernel
theorem dX12_tears_40 : decode cX12_tears 40 = .ok (.aload_n 0, 1) := by decide +kernel
theorem dX12_tears_41 : decode cX12_tears 41 = .ok (.aload_n 1, 1) := by decide +kernel
theorem dX12_tears_42 : decode cX12_tears 42 = .ok (.iload 5, 2) := by decide +kernel
theorem dX12_tears_44 : decode cX12_tears 44 = .ok (.iload 7, 2) := by decide +kernel
theorem dX12_tears_46 : decode cX12_tears 46 = .ok (.iconst 0, 1) := by decide +kernel
theorem dX12_tears_47 : decode cX12_tears 47 = .ok (.invokevirtual 257, 3) := by decide +kernel
theorem dX12_tears_50 : decode cX12_tears 50 = .ok (.aload_n 0, 1) := by decide +kernel
theorem dX12_tears_51 : decode cX12_tears 51 = .ok (.aload_n 1, 1) := by decide +kernel
theorem dX12_tears_52 : decode cX12_tears 52 = .ok (.iload 5, 2) := by decide +kernel
theorem dX12_tears_54 : decode cX12_tears 54 = .ok (.iload 8, 2) := by decide +kernel
theorem dX12_tears_56 : decode cX12_tears 56 = .ok (.iconst 0, 1) := by decide +kernel
theorem dX12_tears_57 : decode cX12_tears 57 = .ok (.invokevirtual 257, 3) := by decide +kernel
theorem dX12_tears_60 : decode cX12_tears 60 = .ok (.aload_n 0, 1) := by decide +kernel
theorem dX12_tears_61 : decode cX12_tears 61 = .ok (.aload_n 1, 1) := by decide +kernel
theorem dX12_tears_62 : decode cX12_tears 62 = .ok (.iload 5, 2) := by decide +kernel
theorem dX12_tears_64 : decode cX12_tears 64 = .ok (.iload 8, 2) := by decide +kernel
theorem dX12_tears_66 : decode cX12_tears 66 = .ok (.iconst 1, 1) := by decide +kernel
theorem dX12_tears_67 : decode cX12_tears 67 = .ok (.iadd, 1) := by decide +kernel
theorem dX12_tears_68 : decode cX12_tears 68 = .ok (.iconst 0, 1) := by decide +kernel
theorem dX12_tears_69 : decode cX12_tears 69 = .ok (.invokevirtual 257, 3) := by decide +kernel
theorem dX12_tears_72 : decode cX12_tears 72 = .ok (.iload 4, 2) := by decide +kernel
theorem dX12_tears_74 : decode cX12_tears 74 = .ok (.ifCond .le 15, 3) := by decide +kernel
theorem dX12_tears_77 : decode cX12_tears 77 = .ok (.aload_n 0, 1) := by decide +kernel
theorem dX12_tears_78 : decode cX12_tears 78 = .ok (.aload_n 1, 1) := by decide +kernel
theorem dX12_tears_79 : decode cX12_tears 79 = .ok (.iload 5, 2) := by decide +kernel
theorem dX12_tears_81 : decode cX12_tears 81 = .ok (.iload 6, 2) := by decide +kernel
theorem dX12_tears_83 : decode cX12_tears 83 = .ok (.iload 7, 2) := by decide +kernel
theorem dX12_tears_85 : decode cX12_tears 85 = .ok (.iload_n 3, 1) := by decide +kernel
theorem dX12_tears_86 : decode cX12_tears 86 = .ok (.invokevirtual 261, 3) := by decide +kernel
theorem dX12_tears_89 : decode cX12_tears 89 = .ok (.iload 4, 2) := by decide +kernel
theorem dX12_tears_91 : decode cX12_tears 91 = .ok (.iconst 1, 1) := by decide +kernel
theorem dX12_tears_92 : decode cX12_tears 92 = .ok (.if_icmp .le 31, 3) := by decide +kernel
theorem dX12_tears_95 : decode cX12_tears 95 = .ok (.aload_n 0, 1) := by decide +kernel
theorem dX12_tears_96 : decode cX12_tears 96 = .ok (.aload_n 1, 1) := by decide +kernel
theorem dX12_tears_97 : decode cX12_tears 97 = .ok (.iload 5, 2) := by decide +kernel
theorem dX12_tears_99 : decode cX12_tears 99 = .ok (.iload 6, 2) := by decide +kernel
theorem dX12_tears_101 : decode cX12_tears 101 = .ok (.iload 8, 2) := by decide +kernel
theorem dX12_tears_103 : decode cX12_tears 103 = .ok (.aload_n 0, 1) := by decide +kernel
theorem dX12_tears_104 : decode cX12_tears 104 = .ok (.getfield 50, 3) := by decide +kernel
theorem dX12_tears_107 : decode cX12_tears 107 = .ok (.iload 8, 2) := by decide +kernel
theorem dX12_tears_109 : decode cX12_tears 109 = .ok (.iaload, 1) := by decide +kernel
theorem dX12_tears_110 : decode cX12_tears 110 = .ok (.aload_n 0, 1) := by decide +kernel
theorem dX12_tears_111 : decode cX12_tears 111 = .ok (.getfield 50, 3) := by decide +kernel
theorem dX12_tears_114 : decode cX12_tears 114 = .ok (.iload 7, 2) := by decide +kernel
theorem dX12_tears_116 : decode cX12_tears 116 = .ok (.iaload, 1) := by decide +kernel
theorem dX12_tears_117 : decode cX12_tears 117 = .ok (.ixor, 1) := by decide +kernel
theorem dX12_tears_118 : decode cX12_tears 118 = .ok (.iload_n 3, 1) := by decide +kernel
theorem dX12_tears_119 : decode cX12_tears 119 = .ok (.ixor, 1) := by decide +kernel
theorem dX12_tears_120 : decode cX12_tears 120 = .ok (.invokevirtual 261, 3) := by decide +kernel
theorem dX12_tears_123 : decode cX12_tears 123 = .ok (.aload_n 1, 1) := by decide +kernel
theorem dX12_tears_124 : decode cX12_tears 124 = .ok (.sipush 425, 3) := by decide +kernel
theorem dX12_tears_127 : decode cX12_tears 127 = .ok (.dup2, 1) := by decide +kernel
theorem dX12_tears_128 : decode cX12_tears 128 = .ok (.iaload, 1) := by decide +kernel
theorem dX12_tears_129 : decode cX12_tears 129 = .ok (.iconst 1, 1) := by decide +kernel
theorem dX12_tears_130 : decode cX12_tears 130 = .ok (.iload 5, 2) := by decide +kernel
theorem dX12_tears_132 : decode cX12_tears 132 = .ok (.ishl, 1) := by decide +kernel
theorem dX12_tears_133 : decode cX12_tears 133 = .ok (.ior, 1) := by decide +kernel
theorem dX12_tears_134 : decode cX12_tears 134 = .ok (.iastore, 1) := by decide +kernel
theorem dX12_tears_135 : decode cX12_tears 135 = .ok (.return_, 1) := by decide +kernel
theorem dX12_cleans_0 : decode cX12_cleans 0 = .ok (.aload_n 0, 1) := by decide +kernel
theorem dX12_cleans_1 : decode cX12_cleans 1 = .ok (.aload_n 1, 1) := by decide +kernel
theorem dX12_cleans_2 : decode cX12_cleans 2 = .ok (.invokevirtual 299, 3) := by decide +kernel
theorem dX12_cleans_5 : decode cX12_cleans 5 = .ok (.istore_n 2, 1) := by decide +kernel
theorem dX12_cleans_6 : decode cX12_cleans 6 = .ok (.aload_n 0, 1) := by decide +kernel
theorem dX12_cleans_7 : decode cX12_cleans 7 = .ok (.getfield 17, 3) := by decide +kernel
theorem dX12_cleans_10 : decode cX12_cleans 10 = .ok (.iconst 0, 1) := by decide +kernel
theorem dX12_cleans_11 : decode cX12_cleans 11 = .ok (.iaload, 1) := by decide +kernel
theorem dX12_cleans_12 : decode cX12_cleans 12 = .ok (.istore_n 3, 1) := by decide +kernel
theorem dX12_cleans_13 : decode cX12_cleans 13 = .ok (.iconst 0, 1) := by decide +kernel
theorem dX12_cleans_14 : decode cX12_cleans 14 = .ok (.istore 4, 2) := by decide +kernel
theorem dX12_cleans_16 : decode cX12_cleans 16 = .ok (.iload 4, 2) := by decide +kernel
theorem dX12_cleans_18 : decode cX12_cleans 18 = .ok (.aload_n 0, 1) := by decide +kernel
theorem dX12_cleans_19 : decode cX12_cleans 19 = .ok (.getfield 17, 3) := by decide +kernel
theorem dX12_cleans_22 : decode cX12_cleans 22 = .ok (.iconst 1, 1) := by decide +kernel
theorem dX12_cleans_23 : decode cX12_cleans 23 = .ok (.iaload, 1) := by decide +kernel
theorem dX12_cleans_24 : decode cX12_cleans 24 = .ok (.if_icmp .ge 113, 3) := by decide +kernel
theorem dX12_cleans_27 : decode cX12_cleans 27 = .ok (.iload_n 2, 1) := by decide +kernel
theorem dX12_cleans_28 : decode cX12_cleans 28 = .ok (.iload 4, 2) := by decide +kernel
theorem dX12_cleans_30 : decode cX12_cleans 30 = .ok (.ishr, 1) := by decide +kernel
theorem dX12_cleans_31 : decode cX12_cleans 31 = .ok (.iconst 1, 1) := by decide +kernel
theorem dX12_cleans_32 : decode cX12_cleans 32 = .ok (.iand, 1) := by decide +kernel
theorem dX12_cleans_33 : decode cX12_cleans 33 = .ok (.ifCond .ne 6, 3) := by decide +kernel
theorem dX12_cleans_36 : decode cX12_cleans 36 = .ok (.goto 95, 3) := by decide +kernel
theorem dX12_cleans_39 : decode cX12_cleans 39 = .ok (.iconst 0, 1) := by decide +kernel
theorem dX12_cleans_40 : decode cX12_cleans 40 = .ok (.istore 5, 2) := by decide +kernel
theorem dX12_cleans_42 : decode cX12_cleans 42 = .ok (.iload 5, 2) := by decide +kernel
theorem dX12_cleans_44 : decode cX12_cleans 44 = .ok (.aload_n 0, 1) := by decide +kernel
theorem dX12_cleans_45 : decode cX12_cleans 45 = .ok (.getfield 17, 3) := by decide +kernel
theorem dX12_cleans_48 : decode cX12_cleans 48 = .ok (.iconst 2, 1) := by decide +kernel
theorem dX12_cleans_49 : decode cX12_cleans 49 = .ok (.iaload, 1) := by decide +kernel
theorem dX12_cleans_50 : decode cX12_cleans 50 = .ok (.if_icmp .ge 81, 3) := by decide +kernel
theorem dX12_cleans_53 : decode cX12_cleans 53 = .ok (.aload_n 0, 1) := by decide +kernel
theorem dX12_cleans_54 : decode cX12_cleans 54 = .ok (.aload_n 1, 1) := by decide +kernel
theorem dX12_cleans_55 : decode cX12_cleans 55 = .ok (.iload 4, 2) := by decide +kernel
theorem dX12_cleans_57 : decode cX12_cleans 57 = .ok (.iload 5, 2) := by decide +kernel
theorem dX12_cleans_59 : decode cX12_cleans 59 = .ok (.iconst (-1), 1) := by decide +kernel
theorem dX12_cleans_60 : decode cX12_cleans 60 = .ok (.iconst (-1), 1) := by decide +kernel
theorem dX12_cleans_61 : decode cX12_cleans 61 = .ok (.invokevirtual 223, 3) := by decide +kernel
theorem dX12_cleans_64 : decode cX12_cleans 64 = .ok (.iconst 0, 1) := by decide +kernel
theorem dX12_cleans_65 : decode cX12_cleans 65 = .ok (.istore 6, 2) := by decide +kernel
theorem dX12_cleans_67 : decode cX12_cleans 67 = .ok (.iload 6, 2) := by decide +kernel
theorem dX12_cleans_69 : decode cX12_cleans 69 = .ok (.iload_n 3, 1) := by decide +kernel
theorem dX12_cleans_70 : decode cX12_cleans 70 = .ok (.if_icmp .ge 19, 3) := by decide +kernel
theorem dX12_cleans_73 : decode cX12_cleans 73 = .ok (.aload_n 0, 1) := by decide +kernel
theorem dX12_cleans_74 : decode cX12_cleans 74 = .ok (.aload_n 1, 1) := by decide +kernel
theorem dX12_cleans_75 : decode cX12_cleans 75 = .ok (.iload 4, 2) := by decide +kernel
theorem dX12_cleans_77 : decode cX12_cleans 77 = .ok (.iload 6, 2) := by decide +kernel
theorem dX12_cleans_79 : decode cX12_cleans 79 = .ok (.iconst 0, 1) := by decide +kernel
theorem dX12_cleans_80 : decode cX12_cleans 80 = .ok (.invokevirtual 257, 3) := by decide +kernel
theorem dX12_cleans_83 : decode cX12_cleans 83 = .ok (.iinc 6 1, 3) := by decide +kernel
theorem dX12_cleans_86 : decode cX12_cleans 86 = .ok (.goto (-19), 3) := by decide +kernel
theorem dX12_cleans_89 : decode cX12_cleans 89 = .ok (.aload_n 0, 1) := by decide +kernel
theorem dX12_cleans_90 : decode cX12_cleans 90 = .ok (.aload_n 1, 1) := by decide +kernel
theorem dX12_cleans_91 : decode cX12_cleans 91 = .ok (.iload 4, 2) := by decide +kernel
theorem dX12_cleans_93 : decode cX12_cleans 93 = .ok (.iload 5, 2) := by decide +kernel
theorem dX12_cleans_95 : decode cX12_cleans 95 = .ok (.iload_n 3, 1) := by decide +kernel
theorem dX12_cleans_96 : decode cX12_cleans 96 = .ok (.aload_n 0, 1) := by decide +kernel
theorem dX12_cleans_97 : decode cX12_cleans 97 = .ok (.iconst 0, 1) := by decide +kernel
theorem dX12_cleans_98 : decode cX12_cleans 98 = .ok (.iconst (-1), 1) := by decide +kernel
theorem dX12_cleans_99 : decode cX12_cleans 99 = .ok (.iconst (-1), 1) := by decide +kernel
theorem dX12_cleans_100 : decode cX12_cleans 100 = .ok (.invokevirtual 213, 3) := by decide +kernel
theorem dX12_cleans_103 : decode cX12_cleans 103 = .ok (.invokevirtual 261, 3) := by decide +kernel
theorem dX12_cleans_106 : decode cX12_cleans 106 = .ok (.aload_n 0, 1) := by decide +kernel
theorem dX12_cleans_107 : decode cX12_cleans 107 = .ok (.aload_n 1, 1) := by decide +kernel
theorem dX12_cleans_108 : decode cX12_cleans 108 = .ok (.iload 4, 2) := by decide +kernel
theorem dX12_cleans_110 : decode cX12_cleans 110 = .ok (.iload 5, 2) := by decide +kernel
theorem dX12_cleans_112 : decode cX12_cleans 112 = .ok (.iload_n 3, 1) := by decide +kernel
theorem dX12_cleans_113 : decode cX12_cleans 113 = .ok (.iconst 1, 1) := by decide +kernel
theorem dX12_cleans_114 : decode cX12_cleans 114 = .ok (.iadd, 1) := by decide +kernel
theorem dX12_cleans_115 : decode cX12_cleans 115 = .ok (.aload_n 0, 1) := by decide +kernel
theorem dX12_cleans_116 : decode cX12_cleans 116 = .ok (.iconst 1, 1) := by decide +kernel
theorem dX12_cleans_117 : decode cX12_cleans 117 = .ok (.iconst (-1), 1) := by decide +kernel
theorem dX12_cleans_118 : decode cX12_cleans 118 = .ok (.iconst (-1), 1) := by decide +kernel
theorem dX12_cleans_119 : decode cX12_cleans 119 = .ok (.invokevirtual 213, 3) := by decide +kernel
theorem dX12_cleans_122 : decode cX12_cleans 122 = .ok (.invokevirtual 261, 3) := by decide +kernel
theorem dX12_cleans_125 : decode cX12_cleans 125 = .ok (.iinc 5 1, 3) := by decide +kernel
theorem dX12_cleans_128 : decode cX12_cleans 128 = .ok (.goto (-86), 3) := by decide +kernel
theorem dX12_cleans_131 : decode cX12_cleans 131 = .ok (.iinc 4 1, 3) := by decide +kernel
theorem dX12_cleans_134 : decode cX12_cleans 134 = .ok (.goto (-118), 3) := by decide +kernel
theorem dX12_cleans_137 : decode cX12_cleans 137 = .ok (.aload_n 1, 1) := by decide +kernel
theorem dX12_cleans_138 : decode cX12_cleans 138 = .ok (.sipush 425, 3) := by decide +kernel
theorem dX12_cleans_141 : decode cX12_cleans 141 = .ok (.dup2, 1) := by decide +kernel
theorem dX12_cleans_142 : decode cX12_cleans 142 = .ok (.iaload, 1) := by decide +kernel
theorem dX12_cleans_143 : decode cX12_cleans 143 = .ok (.iload_n 2, 1) := by decide +kernel
theorem dX12_cleans_144 : decode cX12_cleans 144 = .ok (.iconst (-1), 1) := by decide +kernel
theorem dX12_cleans_145 : decode cX12_cleans 145 = .ok (.ixor, 1) := by decide +kernel
theorem dX12_cleans_146 : decode cX12_cleans 146 = .ok (.iand, 1) := by decide +kernel
theorem dX12_cleans_147 : decode cX12_cleans 147 = .ok (.iastore, 1) := by decide +kernel
theorem dX12_cleans_148 : decode cX12_cleans 148 = .ok (.iload_n 2, 1) := by decide +kernel
theorem dX12_cleans_149 : decode cX12_cleans 149 = .ok (.invokestatic 330, 3) := by decide +kernel
theorem dX12_cleans_152 : decode cX12_cleans 152 = .ok (.ireturn, 1) := by decide +kernel
theorem dX12_fills_0 : decode cX12_fills 0 = .ok (.aload_n 0, 1) := by decide +kernel
theorem dX12_fills_1 : decode cX12_fills 1 = .ok (.aload_n 1, 1) := by decide +kernel
theorem dX12_fills_2 : decode cX12_fills 2 = .ok (.iload_n 2, 1) := by decide +kernel
theorem dX12_fills_3 : decode cX12_fills 3 = .ok (.iload_n 3, 1) := by decide +kernel
theorem dX12_fills_4 : decode cX12_fills 4 = .ok (.iconst (-1), 1) := by decide +kernel
theorem dX12_fills_5 : decode cX12_fills 5 = .ok (.iconst (-1), 1) := by decide +kernel
theorem dX12_fills_6 : decode cX12_fills 6 = .ok (.invokevirtual 223, 3) := by decide +kernel
theorem dX12_fills_9 : decode cX12_fills 9 = .ok (.iconst 0, 1) := by decide +kernel
theorem dX12_fills_10 : decode cX12_fills 10 = .ok (.istore 6, 2) := by decide +kernel
theorem dX12_fills_12 : decode cX12_fills 12 = .ok (.iload 6, 2) := by decide +kernel
theorem dX12_fills_14 : decode cX12_fills 14 = .ok (.aload_n 0, 1) := by decide +kernel
theorem dX12_fills_15 : decode cX12_fills 15 = .ok (.getfield 17, 3) := by decide +kernel
theorem dX12_fills_18 : decode cX12_fills 18 = .ok (.iconst 0, 1) := by decide +kernel
theorem dX12_fills_19 : decode cX12_fills 19 = .ok (.iaload, 1) := by decide +kernel
theorem dX12_fills_20 : decode cX12_fills 20 = .ok (.if_icmp .ge 28, 3) := by decide +kernel
theorem dX12_fills_23 : decode cX12_fills 23 = .ok (.aload_n 0, 1) := by decide +kernel
theorem dX12_fills_24 : decode cX12_fills 24 = .ok (.getfield 50, 3) := by decide +kernel
theorem dX12_fills_27 : decode cX12_fills 27 = .ok (.iload 6, 2) := by decide +kernel
theorem dX12_fills_29 : decode cX12_fills 29 = .ok (.iload 4, 2) := by decide +kernel
theorem dX12_fills_31 : decode cX12_fills 31 = .ok (.iload 6, 2) := by decide +kernel
theorem dX12_fills_33 : decode cX12_fills 33 = .ok (.iload 5, 2) := by decide +kernel
theorem dX12_fills_35 : decode cX12_fills 35 = .ok (.imul, 1) := by decide +kernel
theorem dX12_fills_36 : decode cX12_fills 36 = .ok (.iadd, 1) := by decide +kernel
theorem dX12_fills_37 : decode cX12_fills 37 = .ok (.sipush 256, 3) := by decide +kernel
theorem dX12_fills_40 : decode cX12_fills 40 = .ok (.irem, 1) := by decide +kernel
theorem dX12_fills_41 : decode cX12_fills 41 = .ok (.iastore, 1) := by decide +kernel
theorem dX12_fills_42 : decode cX12_fills 42 = .ok (.iinc 6 1, 3) := by decide +kernel
theorem dX12_fills_45 : decode cX12_fills 45 = .ok (.goto (-33), 3) := by decide +kernel
theorem dX12_fills_48 : decode cX12_fills 48 = .ok (.aload_n 0, 1) := by decide +kernel
theorem dX12_fills_49 : decode cX12_fills 49 = .ok (.getfield 50, 3) := by decide +kernel
theorem dX12_fills_52 : decode cX12_fills 52 = .ok (.aload_n 0, 1) := by decide +kernel
theorem dX12_fills_53 : decode cX12_fills 53 = .ok (.getfield 17, 3) := by decide +kernel
theorem dX12_fills_56 : decode cX12_fills 56 = .ok (.iconst 0, 1) := by decide +kernel
theorem dX12_fills_57 : decode cX12_fills 57 = .ok (.iaload, 1) := by decide +kernel
theorem dX12_fills_58 : decode cX12_fills 58 = .ok (.aload_n 0, 1) := by decide +kernel
theorem dX12_fills_59 : decode cX12_fills 59 = .ok (.iconst 0, 1) := by decide +kernel
theorem dX12_fills_60 : decode cX12_fills 60 = .ok (.iconst (-1), 1) := by decide +kernel
theorem dX12_fills_61 : decode cX12_fills 61 = .ok (.iconst (-1), 1) := by decide +kernel
theorem dX12_fills_62 : decode cX12_fills 62 = .ok (.invokevirtual 213, 3) := by decide +kernel
theorem dX12_fills_65 : decode cX12_fills 65 = .ok (.iastore, 1) := by decide +kernel
theorem dX12_fills_66 : decode cX12_fills 66 = .ok (.aload_n 0, 1) := by decide +kernel
theorem dX12_fills_67 : decode cX12_fills 67 = .ok (.getfield 50, 3) := by decide +kernel
theorem dX12_fills_70 : decode cX12_fills 70 = .ok (.aload_n 0, 1) := by decide +kernel
theorem dX12_fills_71 : decode cX12_fills 71 = .ok (.getfield 17, 3) := by decide +kernel
theorem dX12_fills_74 : decode cX12_fills 74 = .ok (.iconst 0, 1) := by decide +kernel
theorem dX12_fills_75 : decode cX12_fills 75 = .ok (.iaload, 1) := by decide +kernel
theorem dX12_fills_76 : decode cX12_fills 76 = .ok (.iconst 1, 1) := by decide +kernel
theorem dX12_fills_77 : decode cX12_fills 77 = .ok (.iadd, 1) := by decide +kernel
theorem dX12_fills_78 : decode cX12_fills 78 = .ok (.aload_n 0, 1) := by decide +kernel
theorem dX12_fills_79 : decode cX12_fills 79 = .ok (.iconst 1, 1) := by decide +kernel
theorem dX12_fills_80 : decode cX12_fills 80 = .ok (.iconst (-1), 1) := by decide +kernel
theorem dX12_fills_81 : decode cX12_fills 81 = .ok (.iconst (-1), 1) := by decide +kernel
theorem dX12_fills_82 : decode cX12_fills 82 = .ok (.invokevirtual 213, 3) := by decide +kernel
theorem dX12_fills_85 : decode cX12_fills 85 = .ok (.iastore, 1) := by decide +kernel
theorem dX12_fills_86 : decode cX12_fills 86 = .ok (.iconst 0, 1) := by decide +kernel
theorem dX12_fills_87 : decode cX12_fills 87 = .ok (.istore 6, 2) := by decide +kernel
theorem dX12_fills_89 : decode cX12_fills 89 = .ok (.iconst 0, 1) := by decide +kernel
theorem dX12_fills_90 : decode cX12_fills 90 = .ok (.istore 7, 2) := by decide +kernel
theorem dX12_fills_92 : decode cX12_fills 92 = .ok (.iload 7, 2) := by decide +kernel
theorem dX12_fills_94 : decode cX12_fills 94 = .ok (.aload_n 0, 1) := by decide +kernel
theorem dX12_fills_95 : decode cX12_fills 95 = .ok (.getfield 171, 3) := by decide +kernel
theorem dX12_fills_98 : decode cX12_fills 98 = .ok (.if_icmp .ge 41, 3) := by decide +kernel
theorem dX12_fills_101 : decode cX12_fills 101 = .ok (.aload_n 0, 1) := by decide +kernel
theorem dX12_fills_102 : decode cX12_fills 102 = .ok (.getfield 53, 3) := by decide +kernel
theorem dX12_fills_105 : decode cX12_fills 105 = .ok (.iload 7, 2) := by decide +kernel
theorem dX12_fills_107 : decode cX12_fills 107 = .ok (.baload, 1) := by decide +kernel
theorem dX12_fills_108 : decode cX12_fills 108 = .ok (.ifCond .ne 6, 3) := by decide +kernel
theorem dX12_fills_111 : decode cX12_fills 111 = .ok (.goto 22, 3) := by decide +kernel
theorem dX12_fills_114 : decode cX12_fills 114 = .ok (.aload_n 0, 1) := by decide +kernel
theorem dX12_fills_115 : decode cX12_fills 115 = .ok (.aload_n 1, 1) := by decide +kernel
theorem dX12_fills_116 : decode cX12_fills 116 = .ok (.iload_n 2, 1) := by decide +kernel
theorem dX12_fills_117 : decode cX12_fills 117 = .ok (.iload_n 3, 1) := by decide +kernel
theorem dX12_fills_118 : decode cX12_fills 118 = .ok (.iload 7, 2) := by decide +kernel
theorem dX12_fills_120 : decode cX12_fills 120 = .ok (.aload_n 0, 1) := by decide +kernel
theorem dX12_fills_121 : decode cX12_fills 121 = .ok (.getfield 50, 3) := by decide +kernel
theorem dX12_fills_124 : decode cX12_fills 124 = .ok (.iload 7, 2) := by decide +kernel
theorem dX12_fills_126 : decode cX12_fills 126 = .ok (.iaload, 1) := by decide +kernel
theorem dX12_fills_127 : decode cX12_fills 127 = .ok (.invokevirtual 261, 3) := by decide +kernel
theorem dX12_fills_130 : decode cX12_fills 130 = .ok (.iinc 6 1, 3) := by decide +kernel
theorem dX12_fills_133 : decode cX12_fills 133 = .ok (.iinc 7 1, 3) := by decide +kernel
theorem dX12_fills_136 : decode cX12_fills 136 = .ok (.goto (-44), 3) := by decide +kernel
theorem dX12_fills_139 : decode cX12_fills 139 = .ok (.iload 6, 2) := by decide +kernel
theorem dX12_fills_141 : decode cX12_fills 141 = .ok (.ireturn, 1) := by decide +kernel
theorem dX12_does_0 : decode cX12_does 0 = .ok (.aload_n 0, 1) := by decide +kernel
theorem dX12_does_1 : decode cX12_does 1 = .ok (.aload_n 1, 1) := by decide +kernel
theorem dX12_does_2 : decode cX12_does 2 = .ok (.iload_n 2, 1) := by decide +kernel
theorem dX12_does_3 : decode cX12_does 3 = .ok (.iload_n 3, 1) := by decide +kernel
theorem dX12_does_4 : decode cX12_does 4 = .ok (.iload 4, 2) := by decide +kernel
theorem dX12_does_6 : decode cX12_does 6 = .ok (.iload 5, 2) := by decide +kernel
theorem dX12_does_8 : decode cX12_does 8 = .ok (.iload 6, 2) := by decide +kernel
theorem dX12_does_10 : decode cX12_does 10 = .ok (.invokevirtual 302, 3) := by decide +kernel
theorem dX12_does_13 : decode cX12_does 13 = .ok (.istore 7, 2) := by decide +kernel
theorem dX12_does_15 : decode cX12_does 15 = .ok (.iload 7, 2) := by decide +kernel
theorem dX12_does_17 : decode cX12_does 17 = .ok (.iconst (-1), 1) := by decide +kernel
theorem dX12_does_18 : decode cX12_does 18 = .ok (.if_icmp .eq 6, 3) := by decide +kernel
theorem dX12_does_21 : decode cX12_does 21 = .ok (.iload 7, 2) := by decide +kernel
theorem dX12_does_23 : decode cX12_does 23 = .ok (.ireturn, 1) := by decide +kernel
theorem dX12_does_24 : decode cX12_does 24 = .ok (.aload_n 0, 1) := by decide +kernel
theorem dX12_does_25 : decode cX12_does 25 = .ok (.iload_n 3, 1) := by decide +kernel
theorem dX12_does_26 : decode cX12_does 26 = .ok (.putfield 306, 3) := by decide +kernel
theorem dX12_does_29 : decode cX12_does 29 = .ok (.iload_n 2, 1) := by decide +kernel
theorem dX12_does_30 : decode cX12_does 30 = .ok (.tableswitch 246 0 7 #[46, 66, 82, 118, 164, 172, 203, 227], 46) := by decide +kernel
theorem dX12_does_76 : decode cX12_does 76 = .ok (.aload_n 0, 1) := by decide +kernel
theorem dX12_does_77 : decode cX12_does 77 = .ok (.aload_n 0, 1) := by decide +kernel
theorem dX12_does_78 : decode cX12_does 78 = .ok (.aload_n 1, 1) := by decide +kernel
theorem dX12_does_79 : decode cX12_does 79 = .ok (.iload_n 3, 1) := by decide +kernel
theorem dX12_does_80 : decode cX12_does 80 = .ok (.invokevirtual 309, 3) := by decide +kernel
theorem dX12_does_83 : decode cX12_does 83 = .ok (.putfield 313, 3) := by decide +kernel
theorem dX12_does_86 : decode cX12_does 86 = .ok (.aload_n 0, 1) := by decide +kernel
theorem dX12_does_87 : decode cX12_does 87 = .ok (.aload_n 1, 1) := by decide +kernel
theorem dX12_does_88 : decode cX12_does 88 = .ok (.iload_n 3, 1) := by decide +kernel
theorem dX12_does_89 : decode cX12_does 89 = .ok (.iload 4, 2) := by decide +kernel
theorem dX12_does_91 : decode cX12_does 91 = .ok (.invokevirtual 177, 3) := by decide +kernel
theorem dX12_does_94 : decode cX12_does 94 = .ok (.iconst (-1), 1) := by decide +kernel
theorem dX12_does_95 : decode cX12_does 95 = .ok (.ireturn, 1) := by decide +kernel
theorem dX12_does_96 : decode cX12_does 96 = .ok (.aload_n 1, 1) := by decide +kernel
theorem dX12_does_97 : decode cX12_does 97 = .ok (.iload_n 3, 1) := by decide +kernel
theorem dX12_does_98 : decode cX12_does 98 = .ok (.invokestatic 316, 3) := by decide +kernel
theorem dX12_does_101 : decode cX12_does 101 = .ok (.aload_n 0, 1) := by decide +kernel
theorem dX12_does_102 : decode cX12_does 102 = .ok (.aload_n 0, 1) := by decide +kernel
theorem dX12_does_103 : decode cX12_does 103 = .ok (.aload_n 1, 1) := by decide +kernel
theorem dX12_does_104 : decode cX12_does 104 = .ok (.invokevirtual 284, 3) := by decide +kernel
theorem dX12_does_107 : decode cX12_does 107 = .ok (.putfield 313, 3) := by decide +kernel
theorem dX12_does_110 : decode cX12_does 110 = .ok (.iconst (-1), 1) := by decide +kernel
theorem dX12_does_111 : decode cX12_does 111 = .ok (.ireturn, 1) := by decide +kernel
theorem dX12_does_112 : decode cX12_does 112 = .ok (.aload_n 1, 1) := by decide +kernel
theorem dX12_does_113 : decode cX12_does 113 = .ok (.sipush 424, 3) := by decide +kernel
theorem dX12_does_116 : decode cX12_does 116 = .ok (.dup2, 1) := by decide +kernel
theorem dX12_does_117 : decode cX12_does 117 = .ok (.iaload, 1) := by decide +kernel
theorem dX12_does_118 : decode cX12_does 118 = .ok (.iconst 1, 1) := by decide +kernel
theorem dX12_does_119 : decode cX12_does 119 = .ok (.isub, 1) := by decide +kernel
theorem dX12_does_120 : decode cX12_does 120 = .ok (.iastore, 1) := by decide +kernel
theorem dX12_does_121 : decode cX12_does 121 = .ok (.aload_n 1, 1) := by decide +kernel
theorem dX12_does_122 : decode cX12_does 122 = .ok (.sipush 384, 3) := by decide +kernel
theorem dX12_does_125 : decode cX12_does 125 = .ok (.iload_n 3, 1) := by decide +kernel
theorem dX12_does_126 : decode cX12_does 126 = .ok (.iadd, 1) := by decide +kernel
theorem dX12_does_127 : decode cX12_does 127 = .ok (.iconst 2, 1) := by decide +kernel
theorem dX12_does_128 : decode cX12_does 128 = .ok (.iastore, 1) := by decide +kernel
theorem dX12_does_129 : decode cX12_does 129 = .ok (.aload_n 1, 1) := by decide +kernel
theorem dX12_does_130 : decode cX12_does 130 = .ok (.sipush 392, 3) := by decide +kernel
theorem dX12_does_133 : decode cX12_does 133 = .ok (.iload_n 3, 1) := by decide +kernel
theorem dX12_does_134 : decode cX12_does 134 = .ok (.iadd, 1) := by decide +kernel
theorem dX12_does_135 : decode cX12_does 135 = .ok (.iconst 0, 1) := by decide +kernel
theorem dX12_does_136 : decode cX12_does 136 = .ok (.iastore, 1) := by decide +kernel
theorem dX12_does_137 : decode cX12_does 137 = .ok (.aload_n 0, 1) := by decide +kernel
theorem dX12_does_138 : decode cX12_does 138 = .ok (.aload_n 1, 1) := by decide +kernel
theorem dX12_does_139 : decode cX12_does 139 = .ok (.sipush 424, 3) := by decide +kernel
theorem dX12_does_142 : decode cX12_does 142 = .ok (.iaload, 1) := by decide +kernel
theorem dX12_does_143 : decode cX12_does 143 = .ok (.putfield 313, 3) := by decide +kernel
theorem dX12_does_146 : decode cX12_does 146 = .ok (.iconst (-1), 1) := by decide +kernel
theorem dX12_does_147 : decode cX12_does 147 = .ok (.ireturn, 1) := by decide +kernel
theorem dX12_does_148 : decode cX12_does 148 = .ok (.iconst 0, 1) := by decide +kernel
theorem dX12_does_149 : decode cX12_does 149 = .ok (.istore 8, 2) := by decide +kernel
theorem dX12_does_151 : decode cX12_does 151 = .ok (.iload 8, 2) := by decide +kernel
theorem dX12_does_153 : decode cX12_does 153 = .ok (.iload 4, 2) := by decide +kernel
theorem dX12_does_155 : decode cX12_does 155 = .ok (.if_icmp .ge 26, 3) := by decide +kernel
theorem dX12_does_158 : decode cX12_does 158 = .ok (.aload_n 1, 1) := by decide +kernel
theorem dX12_does_159 : decode cX12_does 159 = .ok (.sipush 384, 3) := by decide +kernel
theorem dX12_does_162 : decode cX12_does 162 = .ok (.iload_n 3, 1) := by decide +kernel
theorem dX12_does_163 : decode cX12_does 163 = .ok (.iadd, 1) := by decide +kernel
theorem dX12_does_164 : decode cX12_does 164 = .ok (.iaload, 1) := by decide +kernel
theorem dX12_does_165 : decode cX12_does 165 = .ok (.iconst 2, 1) := by decide +kernel
theorem dX12_does_166 : decode cX12_does 166 = .ok (.if_icmp .ne 15, 3) := by decide +kernel
theorem dX12_does_169 : decode cX12_does 169 = .ok (.aload_n 0, 1) := by decide +kernel
theorem dX12_does_170 : decode cX12_does 170 = .ok (.aload_n 1, 1) := by decide +kernel
theorem dX12_does_171 : decode cX12_does 171 = .ok (.iload_n 3, 1) := by decide +kernel
theorem dX12_does_172 : decode cX12_does 172 = .ok (.invokevirtual 320, 3) := by decide +kernel
theorem dX12_does_175 : decode cX12_does 175 = .ok (.iinc 8 1, 3) := by decide +kernel
theorem dX12_does_178 : decode cX12_does 178 = .ok (.goto (-27), 3) := by decide +kernel
theorem dX12_does_181 : decode cX12_does 181 = .ok (.aload_n 0, 1) := by decide +kernel
theorem dX12_does_182 : decode cX12_does 182 = .ok (.aload_n 1, 1) := by decide +kernel
theorem dX12_does_183 : decode cX12_does 183 = .ok (.sipush 392, 3) := by decide +kernel
theorem dX12_does_186 : decode cX12_does 186 = .ok (.iload_n 3, 1) := by decide +kernel
theorem dX12_does_187 : decode cX12_does 187 = .ok (.iadd, 1) := by decide +kernel
theorem dX12_does_188 : decode cX12_does 188 = .ok (.iaload, 1) := by decide +kernel
theorem dX12_does_189 : decode cX12_does 189 = .ok (.putfield 313, 3) := by decide +kernel
theorem dX12_does_192 : decode cX12_does 192 = .ok (.iconst (-1), 1) := by decide +kernel
theorem dX12_does_193 : decode cX12_does 193 = .ok (.ireturn, 1) := by decide +kernel
theorem dX12_does_194 : decode cX12_does 194 = .ok (.aload_n 0, 1) := by decide +kernel
theorem dX12_does_195 : decode cX12_does 195 = .ok (.aload_n 1, 1) := by decide +kernel
theorem dX12_does_196 : decode cX12_does 196 = .ok (.iload_n 3, 1) := by decide +kernel
theorem dX12_does_197 : decode cX12_does 197 = .ok (.invokevirtual 323, 3) := by decide +kernel
theorem dX12_does_200 : decode cX12_does 200 = .ok (.iconst (-1), 1) := by decide +kernel
theorem dX12_does_201 : decode cX12_does 201 = .ok (.ireturn, 1) := by decide +kernel
theorem dX12_does_202 : decode cX12_does 202 = .ok (.aload_n 1, 1) := by decide +kernel
theorem dX12_does_203 : decode cX12_does 203 = .ok (.iload_n 3, 1) := by decide +kernel
theorem dX12_does_204 : decode cX12_does 204 = .ok (.iload 4, 2) := by decide +kernel
theorem dX12_does_206 : decode cX12_does 206 = .ok (.iload 5, 2) := by decide +kernel
theorem dX12_does_208 : decode cX12_does 208 = .ok (.invokestatic 206, 3) := by decide +kernel
theorem dX12_does_211 : decode cX12_does 211 = .ok (.dup2, 1) := by decide +kernel
theorem dX12_does_212 : decode cX12_does 212 = .ok (.iaload, 1) := by decide +kernel
theorem dX12_does_213 : decode cX12_does 213 = .ok (.iload 6, 2) := by decide +kernel
theorem dX12_does_215 : decode cX12_does 215 = .ok (.ixor, 1) := by decide +kernel
theorem dX12_does_216 : decode cX12_does 216 = .ok (.iastore, 1) := by decide +kernel
theorem dX12_does_217 : decode cX12_does 217 = .ok (.aload_n 0, 1) := by decide +kernel
theorem dX12_does_218 : decode cX12_does 218 = .ok (.aload_n 1, 1) := by decide +kernel
theorem dX12_does_219 : decode cX12_does 219 = .ok (.iload_n 3, 1) := by decide +kernel
theorem dX12_does_220 : decode cX12_does 220 = .ok (.iload 4, 2) := by decide +kernel
theorem dX12_does_222 : decode cX12_does 222 = .ok (.iload 5, 2) := by decide +kernel
theorem dX12_does_224 : decode cX12_does 224 = .ok (.invokestatic 206, 3) := by decide +kernel
theorem dX12_does_227 : decode cX12_does 227 = .ok (.iaload, 1) := by decide +kernel
theorem dX12_does_228 : decode cX12_does 228 = .ok (.putfield 313, 3) := by decide +kernel
theorem dX12_does_231 : decode cX12_does 231 = .ok (.iconst (-1), 1) := by decide +kernel
theorem dX12_does_232 : decode cX12_does 232 = .ok (.ireturn, 1) := by decide +kernel
theorem dX12_does_233 : decode cX12_does 233 = .ok (.aload_n 0, 1) := by decide +kernel
theorem dX12_does_234 : decode cX12_does 234 = .ok (.aload_n 1, 1) := by decide +kernel
theorem dX12_does_235 : decode cX12_does 235 = .ok (.iload_n 3, 1) := by decide +kernel
theorem dX12_does_236 : decode cX12_does 236 = .ok (.iload 4, 2) := by decide +kernel
theorem dX12_does_238 : decode cX12_does 238 = .ok (.iload 5, 2) := by decide +kernel
theorem dX12_does_240 : decode cX12_does 240 = .ok (.invokevirtual 326, 3) := by decide +kernel
theorem dX12_does_243 : decode cX12_does 243 = .ok (.aload_n 0, 1) := by decide +kernel
theorem dX12_does_244 : decode cX12_does 244 = .ok (.aload_n 1, 1) := by decide +kernel
theorem dX12_does_245 : decode cX12_does 245 = .ok (.sipush 425, 3) := by decide +kernel
theorem dX12_does_248 : decode cX12_does 248 = .ok (.iaload, 1) := by decide +kernel
theorem dX12_does_249 : decode cX12_does 249 = .ok (.invokestatic 330, 3) := by decide +kernel
theorem dX12_does_252 : decode cX12_does 252 = .ok (.putfield 313, 3) := by decide +kernel
theorem dX12_does_255 : decode cX12_does 255 = .ok (.iconst (-1), 1) := by decide +kernel
theorem dX12_does_256 : decode cX12_does 256 = .ok (.ireturn, 1) := by decide +kernel
theorem dX12_does_257 : decode cX12_does 257 = .ok (.aload_n 0, 1) := by decide +kernel
theorem dX12_does_258 : decode cX12_does 258 = .ok (.aload_n 0, 1) := by decide +kernel
theorem dX12_does_259 : decode cX12_does 259 = .ok (.aload_n 1, 1) := by decide +kernel
theorem dX12_does_260 : decode cX12_does 260 = .ok (.invokevirtual 333, 3) := by decide +kernel
theorem dX12_does_263 : decode cX12_does 263 = .ok (.putfield 313, 3) := by decide +kernel
theorem dX12_does_266 : decode cX12_does 266 = .ok (.aload_n 0, 1) := by decide +kernel
theorem dX12_does_267 : decode cX12_does 267 = .ok (.aload_n 0, 1) := by decide +kernel
theorem dX12_does_268 : decode cX12_does 268 = .ok (.getfield 313, 3) := by decide +kernel
theorem dX12_does_271 : decode cX12_does 271 = .ok (.putfield 306, 3) := by decide +kernel
theorem dX12_does_274 : decode cX12_does 274 = .ok (.iconst (-1), 1) := by decide +kernel
theorem dX12_does_275 : decode cX12_does 275 = .ok (.ireturn, 1) := by decide +kernel
theorem dX12_does_276 : decode cX12_does 276 = .ok (.aload_n 0, 1) := by decide +kernel
theorem dX12_does_277 : decode cX12_does 277 = .ok (.aload_n 0, 1) := by decide +kernel
theorem dX12_does_278 : decode cX12_does 278 = .ok (.aload_n 1, 1) := by decide +kernel
theorem dX12_does_279 : decode cX12_does 279 = .ok (.iload_n 3, 1) := by decide +kernel
theorem dX12_does_280 : decode cX12_does 280 = .ok (.iload 4, 2) := by decide +kernel
theorem dX12_does_282 : decode cX12_does 282 = .ok (.iload 5, 2) := by decide +kernel
theorem dX12_does_284 : decode cX12_does 284 = .ok (.iload 6, 2) := by decide +kernel
theorem dX12_does_286 : decode cX12_does 286 = .ok (.invokevirtual 336, 3) := by decide +kernel
theorem dX12_does_289 : decode cX12_does 289 = .ok (.putfield 313, 3) := by decide +kernel
theorem dX12_does_292 : decode cX12_does 292 = .ok (.iconst (-1), 1) := by decide +kernel
theorem dX12_does_293 : decode cX12_does 293 = .ok (.ireturn, 1) := by decide +kernel
theorem dX12_costs_0 : decode cX12_costs 0 = .ok (.aload_n 0, 1) := by decide +kernel
theorem dX12_costs_1 : decode cX12_costs 1 = .ok (.sipush 427, 3) := by decide +kernel
theorem dX12_costs_4 : decode cX12_costs 4 = .ok (.iaload, 1) := by decide +kernel
theorem dX12_costs_5 : decode cX12_costs 5 = .ok (.aload_n 0, 1) := by decide +kernel
theorem dX12_costs_6 : decode cX12_costs 6 = .ok (.sipush 428, 3) := by decide +kernel
theorem dX12_costs_9 : decode cX12_costs 9 = .ok (.iaload, 1) := by decide +kernel
theorem dX12_costs_10 : decode cX12_costs 10 = .ok (.iadd, 1) := by decide +kernel
theorem dX12_costs_11 : decode cX12_costs 11 = .ok (.ireturn, 1) := by decide +kernel
theorem dX12_remember_0 : decode cX12_remember 0 = .ok (.aload_n 0, 1) := by decide +kernel
theorem dX12_remember_1 : decode cX12_remember 1 = .ok (.getfield 181, 3) := by decide +kernel
theorem dX12_remember_4 : decode cX12_remember 4 = .ok (.bipush 40, 2) := by decide +kernel
theorem dX12_remember_6 : decode cX12_remember 6 = .ok (.if_icmp .ne 19, 3) := by decide +kernel
theorem dX12_remember_9 : decode cX12_remember 9 = .ok (.aload_n 0, 1) := by decide +kernel
theorem dX12_remember_10 : decode cX12_remember 10 = .ok (.aload_n 0, 1) := by decide +kernel
theorem dX12_remember_11 : decode cX12_remember 11 = .ok (.getfield 346, 3) := by decide +kernel
theorem dX12_remember_14 : decode cX12_remember 14 = .ok (.iconst 1, 1) := by decide +kernel
theorem dX12_remember_15 : decode cX12_remember 15 = .ok (.iadd, 1) := by decide +kernel
theorem dX12_remember_16 : decode cX12_remember 16 = .ok (.bipush 40, 2) := by decide +kernel
theorem dX12_remember_18 : decode cX12_remember 18 = .ok (.irem, 1) := by decide +kernel
theorem dX12_remember_19 : decode cX12_remember 19 = .ok (.putfield 346, 3) := by decide +kernel
theorem dX12_remember_22 : decode cX12_remember 22 = .ok (.goto 13, 3) := by decide +kernel
theorem dX12_remember_25 : decode cX12_remember 25 = .ok (.aload_n 0, 1) := by decide +kernel
theorem dX12_remember_26 : decode cX12_remember 26 = .ok (.dup, 1) := by decide +kernel
theorem dX12_remember_27 : decode cX12_remember 27 = .ok (.getfield 181, 3) := by decide +kernel
theorem dX12_remember_30 : decode cX12_remember 30 = .ok (.iconst 1, 1) := by decide +kernel
theorem dX12_remember_31 : decode cX12_remember 31 = .ok (.iadd, 1) := by decide +kernel
theorem dX12_remember_32 : decode cX12_remember 32 = .ok (.putfield 181, 3) := by decide +kernel
theorem dX12_remember_35 : decode cX12_remember 35 = .ok (.aload_n 0, 1) := by decide +kernel
theorem dX12_remember_36 : decode cX12_remember 36 = .ok (.getfield 41, 3) := by decide +kernel
theorem dX12_remember_39 : decode cX12_remember 39 = .ok (.iconst 0, 1) := by decide +kernel
theorem dX12_remember_40 : decode cX12_remember 40 = .ok (.aload_n 0, 1) := by decide +kernel
theorem dX12_remember_41 : decode cX12_remember 41 = .ok (.getfield 47, 3) := by decide +kernel
theorem dX12_remember_44 : decode cX12_remember 44 = .ok (.sipush 616, 3) := by decide +kernel
theorem dX12_remember_47 : decode cX12_remember 47 = .ok (.aload_n 0, 1) := by decide +kernel
theorem dX12_remember_48 : decode cX12_remember 48 = .ok (.getfield 346, 3) := by decide +kernel
theorem dX12_remember_51 : decode cX12_remember 51 = .ok (.aload_n 0, 1) := by decide +kernel
theorem dX12_remember_52 : decode cX12_remember 52 = .ok (.getfield 181, 3) := by decide +kernel
theorem dX12_remember_55 : decode cX12_remember 55 = .ok (.iadd, 1) := by decide +kernel
theorem dX12_remember_56 : decode cX12_remember 56 = .ok (.iconst 1, 1) := by decide +kernel
theorem dX12_remember_57 : decode cX12_remember 57 = .ok (.isub, 1) := by decide +kernel
theorem dX12_remember_58 : decode cX12_remember 58 = .ok (.bipush 40, 2) := by decide +kernel
theorem dX12_remember_60 : decode cX12_remember 60 = .ok (.irem, 1) := by decide +kernel
theorem dX12_remember_61 : decode cX12_remember 61 = .ok (.imul, 1) := by decide +kernel
theorem dX12_remember_62 : decode cX12_remember 62 = .ok (.invokestatic 349, 3) := by decide +kernel
theorem dX12_remember_65 : decode cX12_remember 65 = .ok (.return_, 1) := by decide +kernel
theorem dX12_notes_0 : decode cX12_notes 0 = .ok (.aload_n 0, 1) := by decide +kernel
theorem dX12_notes_1 : decode cX12_notes 1 = .ok (.getfield 38, 3) := by decide +kernel
theorem dX12_notes_4 : decode cX12_notes 4 = .ok (.sipush 435, 3) := by decide +kernel
theorem dX12_notes_7 : decode cX12_notes 7 = .ok (.iaload, 1) := by decide +kernel
theorem dX12_notes_8 : decode cX12_notes 8 = .ok (.bipush 60, 2) := by decide +kernel
theorem dX12_notes_10 : decode cX12_notes 10 = .ok (.if_icmp .ne 52, 3) := by decide +kernel
theorem dX12_notes_13 : decode cX12_notes 13 = .ok (.iconst 1, 1) := by decide +kernel
theorem dX12_notes_14 : decode cX12_notes 14 = .ok (.istore_n 3, 1) := by decide +kernel
theorem dX12_notes_15 : decode cX12_notes 15 = .ok (.iload_n 3, 1) := by decide +kernel
theorem dX12_notes_16 : decode cX12_notes 16 = .ok (.sipush 177, 3) := by decide +kernel
theorem dX12_notes_19 : decode cX12_notes 19 = .ok (.if_icmp .gt 31, 3) := by decide +kernel
theorem dX12_notes_22 : decode cX12_notes 22 = .ok (.aload_n 0, 1) := by decide +kernel
theorem dX12_notes_23 : decode cX12_notes 23 = .ok (.getfield 38, 3) := by decide +kernel
theorem dX12_notes_26 : decode cX12_notes 26 = .ok (.sipush 435, 3) := by decide +kernel
theorem dX12_notes_29 : decode cX12_notes 29 = .ok (.iload_n 3, 1) := by decide +kernel
theorem dX12_notes_30 : decode cX12_notes 30 = .ok (.iadd, 1) := by decide +kernel
theorem dX12_notes_31 : decode cX12_notes 31 = .ok (.aload_n 0, 1) := by decide +kernel
theorem dX12_notes_32 : decode cX12_notes 32 = .ok (.getfield 38, 3) := by decide +kernel
theorem dX12_notes_35 : decode cX12_notes 35 = .ok (.sipush 435, 3) := by decide +kernel
theorem dX12_notes_38 : decode cX12_notes 38 = .ok (.iload_n 3, 1) := by decide +kernel
theorem dX12_notes_39 : decode cX12_notes 39 = .ok (.iadd, 1) := by decide +kernel
theorem dX12_notes_40 : decode cX12_notes 40 = .ok (.iconst 3, 1) := by decide +kernel
theorem dX12_notes_41 : decode cX12_notes 41 = .ok (.iadd, 1) := by decide +kernel
theorem dX12_notes_42 : decode cX12_notes 42 = .ok (.iaload, 1) := by decide +kernel
theorem dX12_notes_43 : decode cX12_notes 43 = .ok (.iastore, 1) := by decide +kernel
theorem dX12_notes_44 : decode cX12_notes 44 = .ok (.iinc 3 1, 3) := by decide +kernel
theorem dX12_notes_47 : decode cX12_notes 47 = .ok (.goto (-32), 3) := by decide +kernel
theorem dX12_notes_50 : decode cX12_notes 50 = .ok (.aload_n 0, 1) := by decide +kernel
theorem dX12_notes_51 : decode cX12_notes 51 = .ok (.getfield 38, 3) := by decide +kernel
theorem dX12_notes_54 : decode cX12_notes 54 = .ok (.sipush 435, 3) := by decide +kernel
theorem dX12_notes_57 : decode cX12_notes 57 = .ok (.dup2, 1) := by decide +kernel
theorem dX12_notes_58 : decode cX12_notes 58 = .ok (.iaload, 1) := by decide +kernel
theorem dX12_notes_59 : decode cX12_notes 59 = .ok (.iconst 1, 1) := by decide +kernel
theorem dX12_notes_60 : decode cX12_notes 60 = .ok (.isub, 1) := by decide +kernel
theorem dX12_notes_61 : decode cX12_notes 61 = .ok (.iastore, 1) := by decide +kernel
theorem dX12_notes_62 : decode cX12_notes 62 = .ok (.sipush 436, 3) := by decide +kernel
theorem dX12_notes_65 : decode cX12_notes 65 = .ok (.iconst 3, 1) := by decide +kernel
theorem dX12_notes_66 : decode cX12_notes 66 = .ok (.aload_n 0, 1) := by decide +kernel
theorem dX12_notes_67 : decode cX12_notes 67 = .ok (.getfield 38, 3) := by decide +kernel
theorem dX12_notes_70 : decode cX12_notes 70 = .ok (.sipush 435, 3) := by decide +kernel
theorem dX12_notes_73 : decode cX12_notes 73 = .ok (.iaload, 1) := by decide +kernel
theorem dX12_notes_74 : decode cX12_notes 74 = .ok (.imul, 1) := by decide +kernel
theorem dX12_notes_75 : decode cX12_notes 75 = .ok (.iadd, 1) := by decide +kernel
theorem dX12_notes_76 : decode cX12_notes 76 = .ok (.istore_n 3, 1) := by decide +kernel
theorem dX12_notes_77 : decode cX12_notes 77 = .ok (.aload_n 0, 1) := by decide +kernel
theorem dX12_notes_78 : decode cX12_notes 78 = .ok (.getfield 38, 3) := by decide +kernel
theorem dX12_notes_81 : decode cX12_notes 81 = .ok (.iload_n 3, 1) := by decide +kernel
theorem dX12_notes_82 : decode cX12_notes 82 = .ok (.iload_n 1, 1) := by decide +kernel
theorem dX12_notes_83 : decode cX12_notes 83 = .ok (.iastore, 1) := by decide +kernel
theorem dX12_notes_84 : decode cX12_notes 84 = .ok (.aload_n 0, 1) := by decide +kernel
theorem dX12_notes_85 : decode cX12_notes 85 = .ok (.getfield 38, 3) := by decide +kernel
theorem dX12_notes_88 : decode cX12_notes 88 = .ok (.iload_n 3, 1) := by decide +kernel
theorem dX12_notes_89 : decode cX12_notes 89 = .ok (.iconst 1, 1) := by decide +kernel
theorem dX12_notes_90 : decode cX12_notes 90 = .ok (.iadd, 1) := by decide +kernel
theorem dX12_notes_91 : decode cX12_notes 91 = .ok (.aload_n 0, 1) := by decide +kernel
theorem dX12_notes_92 : decode cX12_notes 92 = .ok (.getfield 306, 3) := by decide +kernel
theorem dX12_notes_95 : decode cX12_notes 95 = .ok (.iastore, 1) := by decide +kernel
theorem dX12_notes_96 : decode cX12_notes 96 = .ok (.aload_n 0, 1) := by decide +kernel
theorem dX12_notes_97 : decode cX12_notes 97 = .ok (.getfield 38, 3) := by decide +kernel
theorem dX12_notes_100 : decode cX12_notes 100 = .ok (.iload_n 3, 1) := by decide +kernel
theorem dX12_notes_101 : decode cX12_notes 101 = .ok (.iconst 2, 1) := by decide +kernel
theorem dX12_notes_102 : decode cX12_notes 102 = .ok (.iadd, 1) := by decide +kernel
theorem dX12_notes_103 : decode cX12_notes 103 = .ok (.iload_n 2, 1) := by decide +kernel
theorem dX12_notes_104 : decode cX12_notes 104 = .ok (.iastore, 1) := by decide +kernel
theorem dX12_notes_105 : decode cX12_notes 105 = .ok (.aload_n 0, 1) := by decide +kernel
theorem dX12_notes_106 : decode cX12_notes 106 = .ok (.getfield 38, 3) := by decide +kernel
theorem dX12_notes_109 : decode cX12_notes 109 = .ok (.sipush 435, 3) := by decide +kernel
theorem dX12_notes_112 : decode cX12_notes 112 = .ok (.dup2, 1) := by decide +kernel
theorem dX12_notes_113 : decode cX12_notes 113 = .ok (.iaload, 1) := by decide +kernel
theorem dX12_notes_114 : decode cX12_notes 114 = .ok (.iconst 1, 1) := by decide +kernel
theorem dX12_notes_115 : decode cX12_notes 115 = .ok (.iadd, 1) := by decide +kernel
theorem dX12_notes_116 : decode cX12_notes 116 = .ok (.iastore, 1) := by decide +kernel
theorem dX12_notes_117 : decode cX12_notes 117 = .ok (.return_, 1) := by decide +kernel
theorem dX12_tries__0 : decode cX12_tries_ 0 = .ok (.aload_n 0, 1) := by decide +kernel
theorem dX12_tries__1 : decode cX12_tries_ 1 = .ok (.getfield 153, 3) := by decide +kernel
theorem dX12_tries__4 : decode cX12_tries_ 4 = .ok (.ifCond .le 16, 3) := by decide +kernel
theorem dX12_tries__7 : decode cX12_tries_ 7 = .ok (.aload_n 0, 1) := by decide +kernel
theorem dX12_tries__8 : decode cX12_tries_ 8 = .ok (.getfield 38, 3) := by decide +kernel
theorem dX12_tries__11 : decode cX12_tries_ 11 = .ok (.iconst 0, 1) := by decide +kernel
theorem dX12_tries__12 : decode cX12_tries_ 12 = .ok (.aload_n 0, 1) := by decide +kernel
theorem dX12_tries__13 : decode cX12_tries_ 13 = .ok (.getfield 41, 3) := by decide +kernel
theorem dX12_tries__16 : decode cX12_tries_ 16 = .ok (.iconst 0, 1) := by decide +kernel
theorem dX12_tries__17 : decode cX12_tries_ 17 = .ok (.invokestatic 349, 3) := by decide +kernel
theorem dX12_tries__20 : decode cX12_tries_ 20 = .ok (.aload_n 0, 1) := by decide +kernel
theorem dX12_tries__21 : decode cX12_tries_ 21 = .ok (.aload_n 0, 1) := by decide +kernel
theorem dX12_tries__22 : decode cX12_tries_ 22 = .ok (.getfield 38, 3) := by decide +kernel
theorem dX12_tries__25 : decode cX12_tries_ 25 = .ok (.iload_n 1, 1) := by decide +kernel
theorem dX12_tries__26 : decode cX12_tries_ 26 = .ok (.iload_n 2, 1) := by decide +kernel
theorem dX12_tries__27 : decode cX12_tries_ 27 = .ok (.iload_n 3, 1) := by decide +kernel
theorem dX12_tries__28 : decode cX12_tries_ 28 = .ok (.iload 4, 2) := by decide +kernel
theorem dX12_tries__30 : decode cX12_tries_ 30 = .ok (.iload 5, 2) := by decide +kernel
theorem dX12_tries__32 : decode cX12_tries_ 32 = .ok (.invokevirtual 353, 3) := by decide +kernel
theorem dX12_tries__35 : decode cX12_tries_ 35 = .ok (.istore 6, 2) := by decide +kernel
theorem dX12_tries__37 : decode cX12_tries_ 37 = .ok (.iload 6, 2) := by decide +kernel
theorem dX12_tries__39 : decode cX12_tries_ 39 = .ok (.iconst (-1), 1) := by decide +kernel
theorem dX12_tries__40 : decode cX12_tries_ 40 = .ok (.if_icmp .eq 6, 3) := by decide +kernel
theorem dX12_tries__43 : decode cX12_tries_ 43 = .ok (.iload 6, 2) := by decide +kernel
theorem dX12_tries__45 : decode cX12_tries_ 45 = .ok (.ireturn, 1) := by decide +kernel
theorem dX12_tries__46 : decode cX12_tries_ 46 = .ok (.aload_n 0, 1) := by decide +kernel
theorem dX12_tries__47 : decode cX12_tries_ 47 = .ok (.invokevirtual 356, 3) := by decide +kernel
theorem dX12_tries__50 : decode cX12_tries_ 50 = .ok (.aload_n 0, 1) := by decide +kernel
theorem dX12_tries__51 : decode cX12_tries_ 51 = .ok (.iload_n 1, 1) := by decide +kernel
theorem dX12_tries__52 : decode cX12_tries_ 52 = .ok (.aload_n 0, 1) := by decide +kernel
theorem dX12_tries__53 : decode cX12_tries_ 53 = .ok (.getfield 38, 3) := by decide +kernel
theorem dX12_tries__56 : decode cX12_tries_ 56 = .ok (.invokestatic 359, 3) := by decide +kernel
theorem dX12_tries__59 : decode cX12_tries_ 59 = .ok (.aload_n 0, 1) := by decide +kernel
theorem dX12_tries__60 : decode cX12_tries_ 60 = .ok (.getfield 41, 3) := by decide +kernel
theorem dX12_tries__63 : decode cX12_tries_ 63 = .ok (.invokestatic 359, 3) := by decide +kernel
theorem dX12_tries__66 : decode cX12_tries_ 66 = .ok (.isub, 1) := by decide +kernel
theorem dX12_tries__67 : decode cX12_tries_ 67 = .ok (.invokevirtual 362, 3) := by decide +kernel
theorem dX12_tries__70 : decode cX12_tries_ 70 = .ok (.iconst (-1), 1) := by decide +kernel
theorem dX12_tries__71 : decode cX12_tries_ 71 = .ok (.ireturn, 1) := by decide +kernel
theorem dX12_act_0 : decode cX12_act 0 = .ok (.aload_n 0, 1) := by decide +kernel
theorem dX12_act_1 : decode cX12_act 1 = .ok (.iconst 0, 1) := by decide +kernel
theorem dX12_act_2 : decode cX12_act 2 = .ok (.putfield 57, 3) := by decide +kernel
theorem dX12_act_5 : decode cX12_act 5 = .ok (.aload_n 0, 1) := by decide +kernel
theorem dX12_act_6 : decode cX12_act 6 = .ok (.iload_n 1, 1) := by decide +kernel
theorem dX12_act_7 : decode cX12_act 7 = .ok (.iload_n 2, 1) := by decide +kernel
theorem dX12_act_8 : decode cX12_act 8 = .ok (.iload_n 3, 1) := by decide +kernel
theorem dX12_act_9 : decode cX12_act 9 = .ok (.iload 4, 2) := by decide +kernel
theorem dX12_act_11 : decode cX12_act 11 = .ok (.iload 5, 2) := by decide +kernel
theorem dX12_act_13 : decode cX12_act 13 = .ok (.invokevirtual 366, 3) := by decide +kernel
theorem dX12_act_16 : decode cX12_act 16 = .ok (.istore 6, 2) := by decide +kernel
theorem dX12_act_18 : decode cX12_act 18 = .ok (.iload 6, 2) := by decide +kernel
theorem dX12_act_20 : decode cX12_act 20 = .ok (.iconst (-1), 1) := by decide +kernel
theorem dX12_act_21 : decode cX12_act 21 = .ok (.if_icmp .ne 8, 3) := by decide +kernel
theorem dX12_act_24 : decode cX12_act 24 = .ok (.aload_n 0, 1) := by decide +kernel
theorem dX12_act_25 : decode cX12_act 25 = .ok (.getfield 313, 3) := by decide +kernel
theorem dX12_act_28 : decode cX12_act 28 = .ok (.ireturn, 1) := by decide +kernel
theorem dX12_act_29 : decode cX12_act 29 = .ok (.aload_n 0, 1) := by decide +kernel
theorem dX12_act_30 : decode cX12_act 30 = .ok (.getfield 23, 3) := by decide +kernel
theorem dX12_act_33 : decode cX12_act 33 = .ok (.iload 6, 2) := by decide +kernel
theorem dX12_act_35 : decode cX12_act 35 = .ok (.dup2, 1) := by decide +kernel
theorem dX12_act_36 : decode cX12_act 36 = .ok (.iaload, 1) := by decide +kernel
theorem dX12_act_37 : decode cX12_act 37 = .ok (.iconst 1, 1) := by decide +kernel
theorem dX12_act_38 : decode cX12_act 38 = .ok (.iadd, 1) := by decide +kernel
theorem dX12_act_39 : decode cX12_act 39 = .ok (.iastore, 1) := by decide +kernel
theorem dX12_act_40 : decode cX12_act 40 = .ok (.iconst (-1), 1) := by decide +kernel
theorem dX12_act_41 : decode cX12_act 41 = .ok (.ireturn, 1) := by decide +kernel
theorem dX12_write_0 : decode cX12_write 0 = .ok (.aload_n 0, 1) := by decide +kernel
theorem dX12_write_1 : decode cX12_write 1 = .ok (.iconst 0, 1) := by decide +kernel
theorem dX12_write_2 : decode cX12_write 2 = .ok (.iload_n 1, 1) := by decide +kernel
theorem dX12_write_3 : decode cX12_write 3 = .ok (.iload_n 2, 1) := by decide +kernel
theorem dX12_write_4 : decode cX12_write 4 = .ok (.iconst 0, 1) := by decide +kernel
theorem dX12_write_5 : decode cX12_write 5 = .ok (.iconst 0, 1) := by decide +kernel
theorem dX12_write_6 : decode cX12_write 6 = .ok (.invokevirtual 369, 3) := by decide +kernel
theorem dX12_write_9 : decode cX12_write 9 = .ok (.ireturn, 1) := by decide +kernel
theorem dX12_lose_0 : decode cX12_lose 0 = .ok (.aload_n 0, 1) := by decide +kernel
theorem dX12_lose_1 : decode cX12_lose 1 = .ok (.iconst 1, 1) := by decide +kernel
theorem dX12_lose_2 : decode cX12_lose 2 = .ok (.iload_n 1, 1) := by decide +kernel
theorem dX12_lose_3 : decode cX12_lose 3 = .ok (.iconst 0, 1) := by decide +kernel
theorem dX12_lose_4 : decode cX12_lose 4 = .ok (.iconst 0, 1) := by decide +kernel
theorem dX12_lose_5 : decode cX12_lose 5 = .ok (.iconst 0, 1) := by decide +kernel
theorem dX12_lose_6 : decode cX12_lose 6 = .ok (.invokevirtual 369, 3) := by decide +kernel
theorem dX12_lose_9 : decode cX12_lose 9 = .ok (.ireturn, 1) := by decide +kernel
theorem dX12_replace_0 : decode cX12_replace 0 = .ok (.aload_n 0, 1) := by decide +kernel
theorem dX12_replace_1 : decode cX12_replace 1 = .ok (.iconst 2, 1) := by decide +kernel
theorem dX12_replace_2 : decode cX12_replace 2 = .ok (.iload_n 1, 1) := by decide +kernel
theorem dX12_replace_3 : decode cX12_replace 3 = .ok (.iconst 0, 1) := by decide +kernel
theorem dX12_replace_4 : decode cX12_replace 4 = .ok (.iconst 0, 1) := by decide +kernel
theorem dX12_replace_5 : decode cX12_replace 5 = .ok (.iconst 0, 1) := by decide +kernel
theorem dX12_replace_6 : decode cX12_replace 6 = .ok (.invokevirtual 369, 3) := by decide +kernel
theorem dX12_replace_9 : decode cX12_replace 9 = .ok (.ireturn, 1) := by decide +kernel
theorem dX12_rebuild_0 : decode cX12_rebuild 0 = .ok (.aload_n 0, 1) := by decide +kernel
theorem dX12_rebuild_1 : decode cX12_rebuild 1 = .ok (.iconst 3, 1) := by decide +kernel
theorem dX12_rebuild_2 : decode cX12_rebuild 2 = .ok (.iload_n 1, 1) := by decide +kernel
theorem dX12_rebuild_3 : decode cX12_rebuild 3 = .ok (.iload_n 2, 1) := by decide +kernel
theorem dX12_rebuild_4 : decode cX12_rebuild 4 = .ok (.iconst 0, 1) := by decide +kernel
theorem dX12_rebuild_5 : decode cX12_rebuild 5 = .ok (.iconst 0, 1) := by decide +kernel
theorem dX12_rebuild_6 : decode cX12_rebuild 6 = .ok (.invokevirtual 369, 3) := by decide +kernel
theorem dX12_rebuild_9 : decode cX12_rebuild 9 = .ok (.ireturn, 1) := by decide +kernel
theorem dX12_scrub_0 : decode cX12_scrub 0 = .ok (.aload_n 0, 1) := by decide +kernel
theorem dX12_scrub_1 : decode cX12_scrub 1 = .ok (.iconst 4, 1) := by decide +kernel
theorem dX12_scrub_2 : decode cX12_scrub 2 = .ok (.iload_n 1, 1) := by decide +kernel
theorem dX12_scrub_3 : decode cX12_scrub 3 = .ok (.iconst 0, 1) := by decide +kernel
theorem dX12_scrub_4 : decode cX12_scrub 4 = .ok (.iconst 0, 1) := by decide +kernel
theorem dX12_scrub_5 : decode cX12_scrub 5 = .ok (.iconst 0, 1) := by decide +kernel
theorem dX12_scrub_6 : decode cX12_scrub 6 = .ok (.invokevirtual 369, 3) := by decide +kernel
theorem dX12_scrub_9 : decode cX12_scrub 9 = .ok (.ireturn, 1) := by decide +kernel
theorem dX12_spoil_0 : decode cX12_spoil 0 = .ok (.aload_n 0, 1) := by decide +kernel
theorem dX12_spoil_1 : decode cX12_spoil 1 = .ok (.iconst 5, 1) := by decide +kernel
theorem dX12_spoil_2 : decode cX12_spoil 2 = .ok (.iload_n 1, 1) := by decide +kernel
theorem dX12_spoil_3 : decode cX12_spoil 3 = .ok (.iload_n 2, 1) := by decide +kernel
theorem dX12_spoil_4 : decode cX12_spoil 4 = .ok (.iload_n 3, 1) := by decide +kernel
theorem dX12_spoil_5 : decode cX12_spoil 5 = .ok (.iload 4, 2) := by decide +kernel
theorem dX12_spoil_7 : decode cX12_spoil 7 = .ok (.invokevirtual 369, 3) := by decide +kernel
theorem dX12_spoil_10 : decode cX12_spoil 10 = .ok (.ireturn, 1) := by decide +kernel
theorem dX12_tear_0 : decode cX12_tear 0 = .ok (.aload_n 0, 1) := by decide +kernel
theorem dX12_tear_1 : decode cX12_tear 1 = .ok (.bipush 6, 2) := by decide +kernel
theorem dX12_tear_3 : decode cX12_tear 3 = .ok (.iload_n 1, 1) := by decide +kernel
theorem dX12_tear_4 : decode cX12_tear 4 = .ok (.iload_n 2, 1) := by decide +kernel
theorem dX12_tear_5 : decode cX12_tear 5 = .ok (.iload_n 3, 1) := by decide +kernel
theorem dX12_tear_6 : decode cX12_tear 6 = .ok (.iconst 0, 1) := by decide +kernel
theorem dX12_tear_7 : decode cX12_tear 7 = .ok (.invokevirtual 369, 3) := by decide +kernel
theorem dX12_tear_10 : decode cX12_tear 10 = .ok (.ireturn, 1) := by decide +kernel
theorem dX12_clean_0 : decode cX12_clean 0 = .ok (.aload_n 0, 1) := by decide +kernel
theorem dX12_clean_1 : decode cX12_clean 1 = .ok (.bipush 7, 2) := by decide +kernel
theorem dX12_clean_3 : decode cX12_clean 3 = .ok (.iconst 0, 1) := by decide +kernel
theorem dX12_clean_4 : decode cX12_clean 4 = .ok (.iconst 0, 1) := by decide +kernel
theorem dX12_clean_5 : decode cX12_clean 5 = .ok (.iconst 0, 1) := by decide +kernel
theorem dX12_clean_6 : decode cX12_clean 6 = .ok (.iconst 0, 1) := by decide +kernel
theorem dX12_clean_7 : decode cX12_clean 7 = .ok (.invokevirtual 369, 3) := by decide +kernel
theorem dX12_clean_10 : decode cX12_clean 10 = .ok (.ireturn, 1) := by decide +kernel
theorem dX12_full_0 : decode cX12_full 0 = .ok (.aload_n 0, 1) := by decide +kernel
theorem dX12_full_1 : decode cX12_full 1 = .ok (.bipush 8, 2) := by decide +kernel
theorem dX12_full_3 : decode cX12_full 3 = .ok (.iload_n 1, 1) := by decide +kernel
theorem dX12_full_4 : decode cX12_full 4 = .ok (.iload_n 2, 1) := by decide +kernel
theorem dX12_full_5 : decode cX12_full 5 = .ok (.iload_n 3, 1) := by decide +kernel
theorem dX12_full_6 : decode cX12_full 6 = .ok (.iload 4, 2) := by decide +kernel
theorem dX12_full_8 : decode cX12_full 8 = .ok (.invokevirtual 369, 3) := by decide +kernel
theorem dX12_full_11 : decode cX12_full 11 = .ok (.ireturn, 1) := by decide +kernel
theorem dX12_draw_0 : decode cX12_draw 0 = .ok (.aload_n 0, 1) := by decide +kernel
theorem dX12_draw_1 : decode cX12_draw 1 = .ok (.aload_n 0, 1) := by decide +kernel
theorem dX12_draw_2 : decode cX12_draw 2 = .ok (.getfield 372, 3) := by decide +kernel
theorem dX12_draw_5 : decode cX12_draw 5 = .ok (.ldc2_w 376, 3) := by decide +kernel
theorem dX12_draw_8 : decode cX12_draw 8 = .ok (.lmul, 1) := by decide +kernel
theorem dX12_draw_9 : decode cX12_draw 9 = .ok (.ldc2_w 378, 3) := by decide +kernel
theorem dX12_draw_12 : decode cX12_draw 12 = .ok (.ladd, 1) := by decide +kernel
theorem dX12_draw_13 : decode cX12_draw 13 = .ok (.putfield 372, 3) := by decide +kernel
theorem dX12_draw_16 : decode cX12_draw 16 = .ok (.aload_n 0, 1) := by decide +kernel
theorem dX12_draw_17 : decode cX12_draw 17 = .ok (.getfield 372, 3) := by decide +kernel
theorem dX12_draw_20 : decode cX12_draw 20 = .ok (.bipush 33, 2) := by decide +kernel
theorem dX12_draw_22 : decode cX12_draw 22 = .ok (.lushr, 1) := by decide +kernel
theorem dX12_draw_23 : decode cX12_draw 23 = .ok (.iload_n 1, 1) := by decide +kernel
theorem dX12_draw_24 : decode cX12_draw 24 = .ok (.i2l, 1) := by decide +kernel
theorem dX12_draw_25 : decode cX12_draw 25 = .ok (.lrem, 1) := by decide +kernel
theorem dX12_draw_26 : decode cX12_draw 26 = .ok (.l2i, 1) := by decide +kernel
theorem dX12_draw_27 : decode cX12_draw 27 = .ok (.ireturn, 1) := by decide +kernel
theorem dX12_happensTorn_0 : decode cX12_happensTorn 0 = .ok (.aload_n 0, 1) := by decide +kernel
theorem dX12_happensTorn_1 : decode cX12_happensTorn 1 = .ok (.aload_n 0, 1) := by decide +kernel
theorem dX12_happensTorn_2 : decode cX12_happensTorn 2 = .ok (.getfield 153, 3) := by decide +kernel
theorem dX12_happensTorn_5 : decode cX12_happensTorn 5 = .ok (.invokevirtual 380, 3) := by decide +kernel
theorem dX12_happensTorn_8 : decode cX12_happensTorn 8 = .ok (.istore_n 1, 1) := by decide +kernel
theorem dX12_happensTorn_9 : decode cX12_happensTorn 9 = .ok (.aload_n 0, 1) := by decide +kernel
theorem dX12_happensTorn_10 : decode cX12_happensTorn 10 = .ok (.sipush 256, 3) := by decide +kernel
theorem dX12_happensTorn_13 : decode cX12_happensTorn 13 = .ok (.invokevirtual 380, 3) := by decide +kernel
theorem dX12_happensTorn_16 : decode cX12_happensTorn 16 = .ok (.istore_n 2, 1) := by decide +kernel
theorem dX12_happensTorn_17 : decode cX12_happensTorn 17 = .ok (.aload_n 0, 1) := by decide +kernel
theorem dX12_happensTorn_18 : decode cX12_happensTorn 18 = .ok (.bipush 6, 2) := by decide +kernel
theorem dX12_happensTorn_20 : decode cX12_happensTorn 20 = .ok (.iload_n 1, 1) := by decide +kernel
theorem dX12_happensTorn_21 : decode cX12_happensTorn 21 = .ok (.iload_n 2, 1) := by decide +kernel
theorem dX12_happensTorn_22 : decode cX12_happensTorn 22 = .ok (.aload_n 0, 1) := by decide +kernel
theorem dX12_happensTorn_23 : decode cX12_happensTorn 23 = .ok (.iconst 3, 1) := by decide +kernel
theorem dX12_happensTorn_24 : decode cX12_happensTorn 24 = .ok (.invokevirtual 380, 3) := by decide +kernel
theorem dX12_happensTorn_27 : decode cX12_happensTorn 27 = .ok (.iconst 0, 1) := by decide +kernel
theorem dX12_happensTorn_28 : decode cX12_happensTorn 28 = .ok (.invokevirtual 366, 3) := by decide +kernel
theorem dX12_happensTorn_31 : decode cX12_happensTorn 31 = .ok (.istore_n 3, 1) := by decide +kernel
theorem dX12_happensTorn_32 : decode cX12_happensTorn 32 = .ok (.aload_n 0, 1) := by decide +kernel
theorem dX12_happensTorn_33 : decode cX12_happensTorn 33 = .ok (.bipush 7, 2) := by decide +kernel
theorem dX12_happensTorn_35 : decode cX12_happensTorn 35 = .ok (.iconst 0, 1) := by decide +kernel
theorem dX12_happensTorn_36 : decode cX12_happensTorn 36 = .ok (.iconst 0, 1) := by decide +kernel
theorem dX12_happensTorn_37 : decode cX12_happensTorn 37 = .ok (.iconst 0, 1) := by decide +kernel
theorem dX12_happensTorn_38 : decode cX12_happensTorn 38 = .ok (.iconst 0, 1) := by decide +kernel
theorem dX12_happensTorn_39 : decode cX12_happensTorn 39 = .ok (.invokevirtual 366, 3) := by decide +kernel
theorem dX12_happensTorn_42 : decode cX12_happensTorn 42 = .ok (.ireturn, 1) := by decide +kernel
theorem dX12_happens_0 : decode cX12_happens 0 = .ok (.aload_n 0, 1) := by decide +kernel
theorem dX12_happens_1 : decode cX12_happens 1 = .ok (.bipush 12, 2) := by decide +kernel
theorem dX12_happens_3 : decode cX12_happens 3 = .ok (.invokevirtual 380, 3) := by decide +kernel
theorem dX12_happens_6 : decode cX12_happens 6 = .ok (.istore_n 1, 1) := by decide +kernel
theorem dX12_happens_7 : decode cX12_happens 7 = .ok (.iload_n 1, 1) := by decide +kernel
theorem dX12_happens_8 : decode cX12_happens 8 = .ok (.iconst 5, 1) := by decide +kernel
theorem dX12_happens_9 : decode cX12_happens 9 = .ok (.if_icmp .ge 28, 3) := by decide +kernel
theorem dX12_happens_12 : decode cX12_happens 12 = .ok (.aload_n 0, 1) := by decide +kernel
theorem dX12_happens_13 : decode cX12_happens 13 = .ok (.aload_n 0, 1) := by decide +kernel
theorem dX12_happens_14 : decode cX12_happens 14 = .ok (.getfield 153, 3) := by decide +kernel
theorem dX12_happens_17 : decode cX12_happens 17 = .ok (.invokevirtual 380, 3) := by decide +kernel
theorem dX12_happens_20 : decode cX12_happens 20 = .ok (.istore_n 2, 1) := by decide +kernel
theorem dX12_happens_21 : decode cX12_happens 21 = .ok (.aload_n 0, 1) := by decide +kernel
theorem dX12_happens_22 : decode cX12_happens 22 = .ok (.iconst 0, 1) := by decide +kernel
theorem dX12_happens_23 : decode cX12_happens 23 = .ok (.iload_n 2, 1) := by decide +kernel
theorem dX12_happens_24 : decode cX12_happens 24 = .ok (.aload_n 0, 1) := by decide +kernel
theorem dX12_happens_25 : decode cX12_happens 25 = .ok (.sipush 256, 3) := by decide +kernel
theorem dX12_happens_28 : decode cX12_happens 28 = .ok (.invokevirtual 380, 3) := by decide +kernel
theorem dX12_happens_31 : decode cX12_happens 31 = .ok (.iconst 0, 1) := by decide +kernel
theorem dX12_happens_32 : decode cX12_happens 32 = .ok (.iconst 0, 1) := by decide +kernel
theorem dX12_happens_33 : decode cX12_happens 33 = .ok (.invokevirtual 366, 3) := by decide +kernel
theorem dX12_happens_36 : decode cX12_happens 36 = .ok (.ireturn, 1) := by decide +kernel
theorem dX12_happens_37 : decode cX12_happens 37 = .ok (.iload_n 1, 1) := by decide +kernel
theorem dX12_happens_38 : decode cX12_happens 38 = .ok (.bipush 9, 2) := by decide +kernel
theorem dX12_happens_40 : decode cX12_happens 40 = .ok (.if_icmp .ne 24, 3) := by decide +kernel
theorem dX12_happens_43 : decode cX12_happens 43 = .ok (.aload_n 0, 1) := by decide +kernel
theorem dX12_happens_44 : decode cX12_happens 44 = .ok (.iconst 4, 1) := by decide +kernel
theorem dX12_happens_45 : decode cX12_happens 45 = .ok (.aload_n 0, 1) := by decide +kernel
theorem dX12_happens_46 : decode cX12_happens 46 = .ok (.aload_n 0, 1) := by decide +kernel
theorem dX12_happens_47 : decode cX12_happens 47 = .ok (.getfield 17, 3) := by decide +kernel
theorem dX12_happens_50 : decode cX12_happens 50 = .ok (.iconst 1, 1) := by decide +kernel
theorem dX12_happens_51 : decode cX12_happens 51 = .ok (.iaload, 1) := by decide +kernel
theorem dX12_happens_52 : decode cX12_happens 52 = .ok (.invokevirtual 380, 3) := by decide +kernel
theorem dX12_happens_55 : decode cX12_happens 55 = .ok (.iconst 1, 1) := by decide +kernel
theorem dX12_happens_56 : decode cX12_happens 56 = .ok (.iadd, 1) := by decide +kernel
theorem dX12_happens_57 : decode cX12_happens 57 = .ok (.iconst 0, 1) := by decide +kernel
theorem dX12_happens_58 : decode cX12_happens 58 = .ok (.iconst 0, 1) := by decide +kernel
theorem dX12_happens_59 : decode cX12_happens 59 = .ok (.iconst 0, 1) := by decide +kernel
theorem dX12_happens_60 : decode cX12_happens 60 = .ok (.invokevirtual 366, 3) := by decide +kernel
theorem dX12_happens_63 : decode cX12_happens 63 = .ok (.ireturn, 1) := by decide +kernel
theorem dX12_happens_64 : decode cX12_happens 64 = .ok (.iload_n 1, 1) := by decide +kernel
theorem dX12_happens_65 : decode cX12_happens 65 = .ok (.bipush 11, 2) := by decide +kernel
theorem dX12_happens_67 : decode cX12_happens 67 = .ok (.if_icmp .ne 8, 3) := by decide +kernel
theorem dX12_happens_70 : decode cX12_happens 70 = .ok (.aload_n 0, 1) := by decide +kernel
theorem dX12_happens_71 : decode cX12_happens 71 = .ok (.invokevirtual 383, 3) := by decide +kernel
theorem dX12_happens_74 : decode cX12_happens 74 = .ok (.ireturn, 1) := by decide +kernel
theorem dX12_happens_75 : decode cX12_happens 75 = .ok (.aload_n 0, 1) := by decide +kernel
theorem dX12_happens_76 : decode cX12_happens 76 = .ok (.aload_n 0, 1) := by decide +kernel
theorem dX12_happens_77 : decode cX12_happens 77 = .ok (.getfield 171, 3) := by decide +kernel
theorem dX12_happens_80 : decode cX12_happens 80 = .ok (.invokevirtual 380, 3) := by decide +kernel
theorem dX12_happens_83 : decode cX12_happens 83 = .ok (.istore_n 2, 1) := by decide +kernel
theorem dX12_happens_84 : decode cX12_happens 84 = .ok (.iload_n 1, 1) := by decide +kernel
theorem dX12_happens_85 : decode cX12_happens 85 = .ok (.bipush 7, 2) := by decide +kernel
theorem dX12_happens_87 : decode cX12_happens 87 = .ok (.if_icmp .ge 15, 3) := by decide +kernel
theorem dX12_happens_90 : decode cX12_happens 90 = .ok (.aload_n 0, 1) := by decide +kernel
theorem dX12_happens_91 : decode cX12_happens 91 = .ok (.iload_n 1, 1) := by decide +kernel
theorem dX12_happens_92 : decode cX12_happens 92 = .ok (.iconst 4, 1) := by decide +kernel
theorem dX12_happens_93 : decode cX12_happens 93 = .ok (.isub, 1) := by decide +kernel
theorem dX12_happens_94 : decode cX12_happens 94 = .ok (.iload_n 2, 1) := by decide +kernel
theorem dX12_happens_95 : decode cX12_happens 95 = .ok (.iconst 0, 1) := by decide +kernel
theorem dX12_happens_96 : decode cX12_happens 96 = .ok (.iconst 0, 1) := by decide +kernel
theorem dX12_happens_97 : decode cX12_happens 97 = .ok (.iconst 0, 1) := by decide +kernel
theorem dX12_happens_98 : decode cX12_happens 98 = .ok (.invokevirtual 366, 3) := by decide +kernel
theorem dX12_happens_101 : decode cX12_happens 101 = .ok (.ireturn, 1) := by decide +kernel
theorem dX12_happens_102 : decode cX12_happens 102 = .ok (.aload_n 0, 1) := by decide +kernel
theorem dX12_happens_103 : decode cX12_happens 103 = .ok (.aload_n 0, 1) := by decide +kernel
theorem dX12_happens_104 : decode cX12_happens 104 = .ok (.getfield 17, 3) := by decide +kernel
theorem dX12_happens_107 : decode cX12_happens 107 = .ok (.iconst 1, 1) := by decide +kernel
theorem dX12_happens_108 : decode cX12_happens 108 = .ok (.iaload, 1) := by decide +kernel
theorem dX12_happens_109 : decode cX12_happens 109 = .ok (.invokevirtual 380, 3) := by decide +kernel
theorem dX12_happens_112 : decode cX12_happens 112 = .ok (.istore_n 3, 1) := by decide +kernel
theorem dX12_happens_113 : decode cX12_happens 113 = .ok (.iload_n 1, 1) := by decide +kernel
theorem dX12_happens_114 : decode cX12_happens 114 = .ok (.bipush 9, 2) := by decide +kernel
theorem dX12_happens_116 : decode cX12_happens 116 = .ok (.if_icmp .ge 15, 3) := by decide +kernel
theorem dX12_happens_119 : decode cX12_happens 119 = .ok (.aload_n 0, 1) := by decide +kernel
theorem dX12_happens_120 : decode cX12_happens 120 = .ok (.iconst 3, 1) := by decide +kernel
theorem dX12_happens_121 : decode cX12_happens 121 = .ok (.iload_n 2, 1) := by decide +kernel
theorem dX12_happens_122 : decode cX12_happens 122 = .ok (.iload_n 3, 1) := by decide +kernel
theorem dX12_happens_123 : decode cX12_happens 123 = .ok (.iconst 1, 1) := by decide +kernel
theorem dX12_happens_124 : decode cX12_happens 124 = .ok (.iadd, 1) := by decide +kernel
theorem dX12_happens_125 : decode cX12_happens 125 = .ok (.iconst 0, 1) := by decide +kernel
theorem dX12_happens_126 : decode cX12_happens 126 = .ok (.iconst 0, 1) := by decide +kernel
theorem dX12_happens_127 : decode cX12_happens 127 = .ok (.invokevirtual 366, 3) := by decide +kernel
theorem dX12_happens_130 : decode cX12_happens 130 = .ok (.ireturn, 1) := by decide +kernel
theorem dX12_happens_131 : decode cX12_happens 131 = .ok (.aload_n 0, 1) := by decide +kernel
theorem dX12_happens_132 : decode cX12_happens 132 = .ok (.aload_n 0, 1) := by decide +kernel
theorem dX12_happens_133 : decode cX12_happens 133 = .ok (.getfield 17, 3) := by decide +kernel
theorem dX12_happens_136 : decode cX12_happens 136 = .ok (.iconst 2, 1) := by decide +kernel
theorem dX12_happens_137 : decode cX12_happens 137 = .ok (.iaload, 1) := by decide +kernel
theorem dX12_happens_138 : decode cX12_happens 138 = .ok (.invokevirtual 380, 3) := by decide +kernel
theorem dX12_happens_141 : decode cX12_happens 141 = .ok (.istore 4, 2) := by decide +kernel
theorem dX12_happens_143 : decode cX12_happens 143 = .ok (.aload_n 0, 1) := by decide +kernel
theorem dX12_happens_144 : decode cX12_happens 144 = .ok (.iconst 5, 1) := by decide +kernel
theorem dX12_happens_145 : decode cX12_happens 145 = .ok (.iload_n 2, 1) := by decide +kernel
theorem dX12_happens_146 : decode cX12_happens 146 = .ok (.iload_n 3, 1) := by decide +kernel
theorem dX12_happens_147 : decode cX12_happens 147 = .ok (.iload 4, 2) := by decide +kernel
theorem dX12_happens_149 : decode cX12_happens 149 = .ok (.aload_n 0, 1) := by decide +kernel
theorem dX12_happens_150 : decode cX12_happens 150 = .ok (.sipush 255, 3) := by decide +kernel
theorem dX12_happens_153 : decode cX12_happens 153 = .ok (.invokevirtual 380, 3) := by decide +kernel
theorem dX12_happens_156 : decode cX12_happens 156 = .ok (.iconst 1, 1) := by decide +kernel
theorem dX12_happens_157 : decode cX12_happens 157 = .ok (.iadd, 1) := by decide +kernel
theorem dX12_happens_158 : decode cX12_happens 158 = .ok (.invokevirtual 366, 3) := by decide +kernel
theorem dX12_happens_161 : decode cX12_happens 161 = .ok (.ireturn, 1) := by decide +kernel
theorem dX12_years_0 : decode cX12_years 0 = .ok (.aload_n 0, 1) := by decide +kernel
theorem dX12_years_1 : decode cX12_years 1 = .ok (.iconst 0, 1) := by decide +kernel
theorem dX12_years_2 : decode cX12_years 2 = .ok (.putfield 57, 3) := by decide +kernel
theorem dX12_years_5 : decode cX12_years 5 = .ok (.aload_n 0, 1) := by decide +kernel
theorem dX12_years_6 : decode cX12_years 6 = .ok (.getfield 153, 3) := by decide +kernel
theorem dX12_years_9 : decode cX12_years 9 = .ok (.ifCond .eq 15, 3) := by decide +kernel
theorem dX12_years_12 : decode cX12_years 12 = .ok (.iload_n 1, 1) := by decide +kernel
theorem dX12_years_13 : decode cX12_years 13 = .ok (.i2l, 1) := by decide +kernel
theorem dX12_years_14 : decode cX12_years 14 = .ok (.lconst 1, 1) := by decide +kernel
theorem dX12_years_15 : decode cX12_years 15 = .ok (.ldc2_w 386, 3) := by decide +kernel
theorem dX12_years_18 : decode cX12_years 18 = .ok (.invokestatic 117, 3) := by decide +kernel
theorem dX12_years_21 : decode cX12_years 21 = .ok (.ifCond .ne 5, 3) := by decide +kernel
theorem dX12_years_24 : decode cX12_years 24 = .ok (.iconst (-1), 1) := by decide +kernel
theorem dX12_years_25 : decode cX12_years 25 = .ok (.ireturn, 1) := by decide +kernel
theorem dX12_years_26 : decode cX12_years 26 = .ok (.aload_n 0, 1) := by decide +kernel
theorem dX12_years_27 : decode cX12_years 27 = .ok (.lload_n 2, 1) := by decide +kernel
theorem dX12_years_28 : decode cX12_years 28 = .ok (.putfield 372, 3) := by decide +kernel
theorem dX12_years_31 : decode cX12_years 31 = .ok (.iconst 0, 1) := by decide +kernel
theorem dX12_years_32 : decode cX12_years 32 = .ok (.istore 4, 2) := by decide +kernel
theorem dX12_years_34 : decode cX12_years 34 = .ok (.iload 4, 2) := by decide +kernel
theorem dX12_years_36 : decode cX12_years 36 = .ok (.iload_n 1, 1) := by decide +kernel
theorem dX12_years_37 : decode cX12_years 37 = .ok (.if_icmp .ge 15, 3) := by decide +kernel
theorem dX12_years_40 : decode cX12_years 40 = .ok (.aload_n 0, 1) := by decide +kernel
theorem dX12_years_41 : decode cX12_years 41 = .ok (.invokevirtual 388, 3) := by decide +kernel
theorem dX12_years_44 : decode cX12_years 44 = .ok (.istore 5, 2) := by decide +kernel
theorem dX12_years_46 : decode cX12_years 46 = .ok (.iinc 4 1, 3) := by decide +kernel
theorem dX12_years_49 : decode cX12_years 49 = .ok (.goto (-15), 3) := by decide +kernel
theorem dX12_years_52 : decode cX12_years 52 = .ok (.aload_n 0, 1) := by decide +kernel
theorem dX12_years_53 : decode cX12_years 53 = .ok (.getfield 38, 3) := by decide +kernel
theorem dX12_years_56 : decode cX12_years 56 = .ok (.invokestatic 359, 3) := by decide +kernel
theorem dX12_years_59 : decode cX12_years 59 = .ok (.ireturn, 1) := by decide +kernel
theorem dX12_status_0 : decode cX12_status 0 = .ok (.aload_n 0, 1) := by decide +kernel
theorem dX12_status_1 : decode cX12_status 1 = .ok (.iconst 0, 1) := by decide +kernel
theorem dX12_status_2 : decode cX12_status 2 = .ok (.putfield 57, 3) := by decide +kernel
theorem dX12_status_5 : decode cX12_status 5 = .ok (.iload_n 1, 1) := by decide +kernel
theorem dX12_status_6 : decode cX12_status 6 = .ok (.i2l, 1) := by decide +kernel
theorem dX12_status_7 : decode cX12_status 7 = .ok (.lconst 0, 1) := by decide +kernel
theorem dX12_status_8 : decode cX12_status 8 = .ok (.ldc2_w 391, 3) := by decide +kernel
theorem dX12_status_11 : decode cX12_status 11 = .ok (.invokestatic 117, 3) := by decide +kernel
theorem dX12_status_14 : decode cX12_status 14 = .ok (.ifCond .eq 12, 3) := by decide +kernel
theorem dX12_status_17 : decode cX12_status 17 = .ok (.aload_n 0, 1) := by decide +kernel
theorem dX12_status_18 : decode cX12_status 18 = .ok (.getfield 23, 3) := by decide +kernel
theorem dX12_status_21 : decode cX12_status 21 = .ok (.iload_n 1, 1) := by decide +kernel
theorem dX12_status_22 : decode cX12_status 22 = .ok (.iaload, 1) := by decide +kernel
theorem dX12_status_23 : decode cX12_status 23 = .ok (.goto 4, 3) := by decide +kernel
theorem dX12_status_26 : decode cX12_status 26 = .ok (.iconst (-1), 1) := by decide +kernel
theorem dX12_status_27 : decode cX12_status 27 = .ok (.ireturn, 1) := by decide +kernel
theorem dX12_undo_0 : decode cX12_undo 0 = .ok (.aload_n 0, 1) := by decide +kernel
theorem dX12_undo_1 : decode cX12_undo 1 = .ok (.iconst 0, 1) := by decide +kernel
theorem dX12_undo_2 : decode cX12_undo 2 = .ok (.putfield 57, 3) := by decide +kernel
theorem dX12_undo_5 : decode cX12_undo 5 = .ok (.aload_n 0, 1) := by decide +kernel
theorem dX12_undo_6 : decode cX12_undo 6 = .ok (.getfield 181, 3) := by decide +kernel
theorem dX12_undo_9 : decode cX12_undo 9 = .ok (.ifCond .ne 5, 3) := by decide +kernel
theorem dX12_undo_12 : decode cX12_undo 12 = .ok (.iconst (-1), 1) := by decide +kernel
theorem dX12_undo_13 : decode cX12_undo 13 = .ok (.ireturn, 1) := by decide +kernel
theorem dX12_undo_14 : decode cX12_undo 14 = .ok (.aload_n 0, 1) := by decide +kernel
theorem dX12_undo_15 : decode cX12_undo 15 = .ok (.dup, 1) := by decide +kernel
theorem dX12_undo_16 : decode cX12_undo 16 = .ok (.getfield 181, 3) := by decide +kernel
theorem dX12_undo_19 : decode cX12_undo 19 = .ok (.iconst 1, 1) := by decide +kernel
theorem dX12_undo_20 : decode cX12_undo 20 = .ok (.isub, 1) := by decide +kernel
theorem dX12_undo_21 : decode cX12_undo 21 = .ok (.putfield 181, 3) := by decide +kernel
theorem dX12_undo_24 : decode cX12_undo 24 = .ok (.aload_n 0, 1) := by decide +kernel
theorem dX12_undo_25 : decode cX12_undo 25 = .ok (.getfield 47, 3) := by decide +kernel
theorem dX12_undo_28 : decode cX12_undo 28 = .ok (.sipush 616, 3) := by decide +kernel
theorem dX12_undo_31 : decode cX12_undo 31 = .ok (.aload_n 0, 1) := by decide +kernel
theorem dX12_undo_32 : decode cX12_undo 32 = .ok (.getfield 346, 3) := by decide +kernel
theorem dX12_undo_35 : decode cX12_undo 35 = .ok (.aload_n 0, 1) := by decide +kernel
theorem dX12_undo_36 : decode cX12_undo 36 = .ok (.getfield 181, 3) := by decide +kernel
theorem dX12_undo_39 : decode cX12_undo 39 = .ok (.iadd, 1) := by decide +kernel
theorem dX12_undo_40 : decode cX12_undo 40 = .ok (.bipush 40, 2) := by decide +kernel
theorem dX12_undo_42 : decode cX12_undo 42 = .ok (.irem, 1) := by decide +kernel
theorem dX12_undo_43 : decode cX12_undo 43 = .ok (.imul, 1) := by decide +kernel
theorem dX12_undo_44 : decode cX12_undo 44 = .ok (.aload_n 0, 1) := by decide +kernel
theorem dX12_undo_45 : decode cX12_undo 45 = .ok (.getfield 38, 3) := by decide +kernel
theorem dX12_undo_48 : decode cX12_undo 48 = .ok (.iconst 0, 1) := by decide +kernel
theorem dX12_undo_49 : decode cX12_undo 49 = .ok (.invokestatic 349, 3) := by decide +kernel
theorem dX12_undo_52 : decode cX12_undo 52 = .ok (.aload_n 0, 1) := by decide +kernel
theorem dX12_undo_53 : decode cX12_undo 53 = .ok (.getfield 181, 3) := by decide +kernel
theorem dX12_undo_56 : decode cX12_undo 56 = .ok (.ireturn, 1) := by decide +kernel
theorem dX12_log_0 : decode cX12_log 0 = .ok (.aload_n 0, 1) := by decide +kernel
theorem dX12_log_1 : decode cX12_log 1 = .ok (.iconst 0, 1) := by decide +kernel
theorem dX12_log_2 : decode cX12_log 2 = .ok (.putfield 57, 3) := by decide +kernel
theorem dX12_log_5 : decode cX12_log 5 = .ok (.iload_n 1, 1) := by decide +kernel
theorem dX12_log_6 : decode cX12_log 6 = .ok (.ifCond .lt 27, 3) := by decide +kernel
theorem dX12_log_9 : decode cX12_log 9 = .ok (.iload_n 1, 1) := by decide +kernel
theorem dX12_log_10 : decode cX12_log 10 = .ok (.aload_n 0, 1) := by decide +kernel
theorem dX12_log_11 : decode cX12_log 11 = .ok (.getfield 38, 3) := by decide +kernel
theorem dX12_log_14 : decode cX12_log 14 = .ok (.sipush 435, 3) := by decide +kernel
theorem dX12_log_17 : decode cX12_log 17 = .ok (.iaload, 1) := by decide +kernel
theorem dX12_log_18 : decode cX12_log 18 = .ok (.if_icmp .ge 15, 3) := by decide +kernel
theorem dX12_log_21 : decode cX12_log 21 = .ok (.iload_n 2, 1) := by decide +kernel
theorem dX12_log_22 : decode cX12_log 22 = .ok (.i2l, 1) := by decide +kernel
theorem dX12_log_23 : decode cX12_log 23 = .ok (.lconst 0, 1) := by decide +kernel
theorem dX12_log_24 : decode cX12_log 24 = .ok (.ldc2_w 294, 3) := by decide +kernel
theorem dX12_log_27 : decode cX12_log 27 = .ok (.invokestatic 117, 3) := by decide +kernel
theorem dX12_log_30 : decode cX12_log 30 = .ok (.ifCond .ne 7, 3) := by decide +kernel
theorem dX12_log_33 : decode cX12_log 33 = .ok (.ldc_w 393, 3) := by decide +kernel
theorem dX12_log_36 : decode cX12_log 36 = .ok (.ireturn, 1) := by decide +kernel
theorem dX12_log_37 : decode cX12_log 37 = .ok (.aload_n 0, 1) := by decide +kernel
theorem dX12_log_38 : decode cX12_log 38 = .ok (.getfield 38, 3) := by decide +kernel
theorem dX12_log_41 : decode cX12_log 41 = .ok (.sipush 436, 3) := by decide +kernel
theorem dX12_log_44 : decode cX12_log 44 = .ok (.iconst 3, 1) := by decide +kernel
theorem dX12_log_45 : decode cX12_log 45 = .ok (.aload_n 0, 1) := by decide +kernel
theorem dX12_log_46 : decode cX12_log 46 = .ok (.getfield 38, 3) := by decide +kernel
theorem dX12_log_49 : decode cX12_log 49 = .ok (.sipush 435, 3) := by decide +kernel
theorem dX12_log_52 : decode cX12_log 52 = .ok (.iaload, 1) := by decide +kernel
theorem dX12_log_53 : decode cX12_log 53 = .ok (.iconst 1, 1) := by decide +kernel
theorem dX12_log_54 : decode cX12_log 54 = .ok (.isub, 1) := by decide +kernel
theorem dX12_log_55 : decode cX12_log 55 = .ok (.iload_n 1, 1) := by decide +kernel
theorem dX12_log_56 : decode cX12_log 56 = .ok (.isub, 1) := by decide +kernel
theorem dX12_log_57 : decode cX12_log 57 = .ok (.imul, 1) := by decide +kernel
theorem dX12_log_58 : decode cX12_log 58 = .ok (.iadd, 1) := by decide +kernel
theorem dX12_log_59 : decode cX12_log 59 = .ok (.iload_n 2, 1) := by decide +kernel
theorem dX12_log_60 : decode cX12_log 60 = .ok (.iadd, 1) := by decide +kernel
theorem dX12_log_61 : decode cX12_log 61 = .ok (.iaload, 1) := by decide +kernel
theorem dX12_log_62 : decode cX12_log 62 = .ok (.ireturn, 1) := by decide +kernel
theorem dX12_image_0 : decode cX12_image 0 = .ok (.aload_n 0, 1) := by decide +kernel
theorem dX12_image_1 : decode cX12_image 1 = .ok (.iconst 0, 1) := by decide +kernel
theorem dX12_image_2 : decode cX12_image 2 = .ok (.putfield 57, 3) := by decide +kernel
theorem dX12_image_5 : decode cX12_image 5 = .ok (.aload_n 0, 1) := by decide +kernel
theorem dX12_image_6 : decode cX12_image 6 = .ok (.getfield 153, 3) := by decide +kernel
theorem dX12_image_9 : decode cX12_image 9 = .ok (.ifCond .ne 5, 3) := by decide +kernel
theorem dX12_image_12 : decode cX12_image 12 = .ok (.iconst (-1), 1) := by decide +kernel
theorem dX12_image_13 : decode cX12_image 13 = .ok (.ireturn, 1) := by decide +kernel
theorem dX12_image_14 : decode cX12_image 14 = .ok (.aload_n 0, 1) := by decide +kernel
theorem dX12_image_15 : decode cX12_image 15 = .ok (.getfield 38, 3) := by decide +kernel
theorem dX12_image_18 : decode cX12_image 18 = .ok (.iconst 0, 1) := by decide +kernel
theorem dX12_image_19 : decode cX12_image 19 = .ok (.aload_n 0, 1) := by decide +kernel
theorem dX12_image_20 : decode cX12_image 20 = .ok (.getfield 44, 3) := by decide +kernel
theorem dX12_image_23 : decode cX12_image 23 = .ok (.iconst 0, 1) := by decide +kernel
theorem dX12_image_24 : decode cX12_image 24 = .ok (.invokestatic 349, 3) := by decide +kernel
theorem dX12_image_27 : decode cX12_image 27 = .ok (.aload_n 0, 1) := by decide +kernel
theorem dX12_image_28 : decode cX12_image 28 = .ok (.iconst 1, 1) := by decide +kernel
theorem dX12_image_29 : decode cX12_image 29 = .ok (.putfield 184, 3) := by decide +kernel
theorem dX12_image_32 : decode cX12_image 32 = .ok (.aload_n 0, 1) := by decide +kernel
theorem dX12_image_33 : decode cX12_image 33 = .ok (.getfield 38, 3) := by decide +kernel
theorem dX12_image_36 : decode cX12_image 36 = .ok (.invokestatic 359, 3) := by decide +kernel
theorem dX12_image_39 : decode cX12_image 39 = .ok (.ireturn, 1) := by decide +kernel
theorem dX12_back_0 : decode cX12_back 0 = .ok (.aload_n 0, 1) := by decide +kernel
theorem dX12_back_1 : decode cX12_back 1 = .ok (.iconst 0, 1) := by decide +kernel
theorem dX12_back_2 : decode cX12_back 2 = .ok (.putfield 57, 3) := by decide +kernel
theorem dX12_back_5 : decode cX12_back 5 = .ok (.aload_n 0, 1) := by decide +kernel
theorem dX12_back_6 : decode cX12_back 6 = .ok (.getfield 184, 3) := by decide +kernel
theorem dX12_back_9 : decode cX12_back 9 = .ok (.ifCond .ne 5, 3) := by decide +kernel
theorem dX12_back_12 : decode cX12_back 12 = .ok (.iconst (-1), 1) := by decide +kernel
theorem dX12_back_13 : decode cX12_back 13 = .ok (.ireturn, 1) := by decide +kernel
theorem dX12_back_14 : decode cX12_back 14 = .ok (.aload_n 0, 1) := by decide +kernel
theorem dX12_back_15 : decode cX12_back 15 = .ok (.getfield 44, 3) := by decide +kernel
theorem dX12_back_18 : decode cX12_back 18 = .ok (.iconst 0, 1) := by decide +kernel
theorem dX12_back_19 : decode cX12_back 19 = .ok (.aload_n 0, 1) := by decide +kernel
theorem dX12_back_20 : decode cX12_back 20 = .ok (.getfield 38, 3) := by decide +kernel
theorem dX12_back_23 : decode cX12_back 23 = .ok (.iconst 0, 1) := by decide +kernel
theorem dX12_back_24 : decode cX12_back 24 = .ok (.invokestatic 349, 3) := by decide +kernel
theorem dX12_back_27 : decode cX12_back 27 = .ok (.aload_n 0, 1) := by decide +kernel
theorem dX12_back_28 : decode cX12_back 28 = .ok (.iconst 0, 1) := by decide +kernel
theorem dX12_back_29 : decode cX12_back 29 = .ok (.putfield 181, 3) := by decide +kernel
theorem dX12_back_32 : decode cX12_back 32 = .ok (.aload_n 0, 1) := by decide +kernel
theorem dX12_back_33 : decode cX12_back 33 = .ok (.getfield 38, 3) := by decide +kernel
theorem dX12_back_36 : decode cX12_back 36 = .ok (.invokestatic 359, 3) := by decide +kernel
theorem dX12_back_39 : decode cX12_back 39 = .ok (.ireturn, 1) := by decide +kernel
theorem dX12_rule_0 : decode cX12_rule 0 = .ok (.aload_n 0, 1) := by decide +kernel
theorem dX12_rule_1 : decode cX12_rule 1 = .ok (.iconst 0, 1) := by decide +kernel
theorem dX12_rule_2 : decode cX12_rule 2 = .ok (.putfield 57, 3) := by decide +kernel
theorem dX12_rule_5 : decode cX12_rule 5 = .ok (.aload_n 0, 1) := by decide +kernel
theorem dX12_rule_6 : decode cX12_rule 6 = .ok (.getfield 153, 3) := by decide +kernel
theorem dX12_rule_9 : decode cX12_rule 9 = .ok (.ifCond .ne 5, 3) := by decide +kernel
theorem dX12_rule_12 : decode cX12_rule 12 = .ok (.iconst (-1), 1) := by decide +kernel
theorem dX12_rule_13 : decode cX12_rule 13 = .ok (.ireturn, 1) := by decide +kernel
theorem dX12_rule_14 : decode cX12_rule 14 = .ok (.iload_n 1, 1) := by decide +kernel
theorem dX12_rule_15 : decode cX12_rule 15 = .ok (.tableswitch 67 0 6 #[41, 41, 41, 41, 48, 57, 62], 41) := by decide +kernel
theorem dX12_rule_56 : decode cX12_rule 56 = .ok (.aload_n 0, 1) := by decide +kernel
theorem dX12_rule_57 : decode cX12_rule 57 = .ok (.getfield 17, 3) := by decide +kernel
theorem dX12_rule_60 : decode cX12_rule 60 = .ok (.iload_n 1, 1) := by decide +kernel
theorem dX12_rule_61 : decode cX12_rule 61 = .ok (.iaload, 1) := by decide +kernel
theorem dX12_rule_62 : decode cX12_rule 62 = .ok (.ireturn, 1) := by decide +kernel
theorem dX12_rule_63 : decode cX12_rule 63 = .ok (.aload_n 0, 1) := by decide +kernel
theorem dX12_rule_64 : decode cX12_rule 64 = .ok (.getfield 38, 3) := by decide +kernel
theorem dX12_rule_67 : decode cX12_rule 67 = .ok (.sipush 424, 3) := by decide +kernel
theorem dX12_rule_70 : decode cX12_rule 70 = .ok (.iaload, 1) := by decide +kernel
theorem dX12_rule_71 : decode cX12_rule 71 = .ok (.ireturn, 1) := by decide +kernel
theorem dX12_rule_72 : decode cX12_rule 72 = .ok (.aload_n 0, 1) := by decide +kernel
theorem dX12_rule_73 : decode cX12_rule 73 = .ok (.getfield 171, 3) := by decide +kernel
theorem dX12_rule_76 : decode cX12_rule 76 = .ok (.ireturn, 1) := by decide +kernel
theorem dX12_rule_77 : decode cX12_rule 77 = .ok (.aload_n 0, 1) := by decide +kernel
theorem dX12_rule_78 : decode cX12_rule 78 = .ok (.getfield 153, 3) := by decide +kernel
theorem dX12_rule_81 : decode cX12_rule 81 = .ok (.ireturn, 1) := by decide +kernel
theorem dX12_rule_82 : decode cX12_rule 82 = .ok (.iconst (-1), 1) := by decide +kernel
theorem dX12_rule_83 : decode cX12_rule 83 = .ok (.ireturn, 1) := by decide +kernel
theorem dX12_place_0 : decode cX12_place 0 = .ok (.aload_n 0, 1) := by decide +kernel
theorem dX12_place_1 : decode cX12_place 1 = .ok (.iconst 0, 1) := by decide +kernel
theorem dX12_place_2 : decode cX12_place 2 = .ok (.putfield 57, 3) := by decide +kernel
theorem dX12_place_5 : decode cX12_place 5 = .ok (.aload_n 0, 1) := by decide +kernel
theorem dX12_place_6 : decode cX12_place 6 = .ok (.iload_n 1, 1) := by decide +kernel
theorem dX12_place_7 : decode cX12_place 7 = .ok (.invokevirtual 281, 3) := by decide +kernel
theorem dX12_place_10 : decode cX12_place 10 = .ok (.ifCond .ne 5, 3) := by decide +kernel
theorem dX12_place_13 : decode cX12_place 13 = .ok (.iconst (-1), 1) := by decide +kernel
theorem dX12_place_14 : decode cX12_place 14 = .ok (.ireturn, 1) := by decide +kernel
theorem dX12_place_15 : decode cX12_place 15 = .ok (.iload_n 2, 1) := by decide +kernel
theorem dX12_place_16 : decode cX12_place 16 = .ok (.tableswitch 65 0 3 #[32, 47, 53, 59], 32) := by decide +kernel
theorem dX12_place_48 : decode cX12_place 48 = .ok (.aload_n 0, 1) := by decide +kernel
theorem dX12_place_49 : decode cX12_place 49 = .ok (.aload_n 0, 1) := by decide +kernel
theorem dX12_place_50 : decode cX12_place 50 = .ok (.iload_n 1, 1) := by decide +kernel
theorem dX12_place_51 : decode cX12_place 51 = .ok (.invokevirtual 217, 3) := by decide +kernel
theorem dX12_place_54 : decode cX12_place 54 = .ok (.aload_n 0, 1) := by decide +kernel
theorem dX12_place_55 : decode cX12_place 55 = .ok (.iload_n 1, 1) := by decide +kernel
theorem dX12_place_56 : decode cX12_place 56 = .ok (.invokevirtual 230, 3) := by decide +kernel
theorem dX12_place_59 : decode cX12_place 59 = .ok (.invokevirtual 199, 3) := by decide +kernel
theorem dX12_place_62 : decode cX12_place 62 = .ok (.ireturn, 1) := by decide +kernel
theorem dX12_place_63 : decode cX12_place 63 = .ok (.aload_n 0, 1) := by decide +kernel
theorem dX12_place_64 : decode cX12_place 64 = .ok (.iload_n 1, 1) := by decide +kernel
theorem dX12_place_65 : decode cX12_place 65 = .ok (.invokevirtual 217, 3) := by decide +kernel
theorem dX12_place_68 : decode cX12_place 68 = .ok (.ireturn, 1) := by decide +kernel
theorem dX12_place_69 : decode cX12_place 69 = .ok (.aload_n 0, 1) := by decide +kernel
theorem dX12_place_70 : decode cX12_place 70 = .ok (.iload_n 1, 1) := by decide +kernel
theorem dX12_place_71 : decode cX12_place 71 = .ok (.invokevirtual 220, 3) := by decide +kernel
theorem dX12_place_74 : decode cX12_place 74 = .ok (.ireturn, 1) := by decide +kernel
theorem dX12_place_75 : decode cX12_place 75 = .ok (.aload_n 0, 1) := by decide +kernel
theorem dX12_place_76 : decode cX12_place 76 = .ok (.iload_n 1, 1) := by decide +kernel
theorem dX12_place_77 : decode cX12_place 77 = .ok (.invokevirtual 230, 3) := by decide +kernel
theorem dX12_place_80 : decode cX12_place 80 = .ok (.ireturn, 1) := by decide +kernel
theorem dX12_place_81 : decode cX12_place 81 = .ok (.iconst (-1), 1) := by decide +kernel
theorem dX12_place_82 : decode cX12_place 82 = .ok (.ireturn, 1) := by decide +kernel
theorem dX12_part_0 : decode cX12_part 0 = .ok (.aload_n 0, 1) := by decide +kernel
theorem dX12_part_1 : decode cX12_part 1 = .ok (.iconst 0, 1) := by decide +kernel
theorem dX12_part_2 : decode cX12_part 2 = .ok (.putfield 57, 3) := by decide +kernel
theorem dX12_part_5 : decode cX12_part 5 = .ok (.aload_n 0, 1) := by decide +kernel
theorem dX12_part_6 : decode cX12_part 6 = .ok (.iload_n 1, 1) := by decide +kernel
theorem dX12_part_7 : decode cX12_part 7 = .ok (.iload_n 2, 1) := by decide +kernel
theorem dX12_part_8 : decode cX12_part 8 = .ok (.iconst 0, 1) := by decide +kernel
theorem dX12_part_9 : decode cX12_part 9 = .ok (.invokevirtual 290, 3) := by decide +kernel
theorem dX12_part_12 : decode cX12_part 12 = .ok (.ifCond .eq 12, 3) := by decide +kernel
theorem dX12_part_15 : decode cX12_part 15 = .ok (.aload_n 0, 1) := by decide +kernel
theorem dX12_part_16 : decode cX12_part 16 = .ok (.iload_n 2, 1) := by decide +kernel
theorem dX12_part_17 : decode cX12_part 17 = .ok (.iload_n 1, 1) := by decide +kernel
theorem dX12_part_18 : decode cX12_part 18 = .ok (.invokevirtual 340, 3) := by decide +kernel
theorem dX12_part_21 : decode cX12_part 21 = .ok (.goto 4, 3) := by decide +kernel
theorem dX12_part_24 : decode cX12_part 24 = .ok (.iconst (-1), 1) := by decide +kernel
theorem dX12_part_25 : decode cX12_part 25 = .ok (.ireturn, 1) := by decide +kernel
theorem dX12_read_0 : decode cX12_read 0 = .ok (.aload_n 0, 1) := by decide +kernel
theorem dX12_read_1 : decode cX12_read 1 = .ok (.aload_n 0, 1) := by decide +kernel
theorem dX12_read_2 : decode cX12_read 2 = .ok (.iload_n 1, 1) := by decide +kernel
theorem dX12_read_3 : decode cX12_read 3 = .ok (.invokevirtual 281, 3) := by decide +kernel
theorem dX12_read_6 : decode cX12_read 6 = .ok (.ifCond .eq 7, 3) := by decide +kernel
theorem dX12_read_9 : decode cX12_read 9 = .ok (.iconst 0, 1) := by decide +kernel
theorem dX12_read_10 : decode cX12_read 10 = .ok (.goto 4, 3) := by decide +kernel
theorem dX12_read_13 : decode cX12_read 13 = .ok (.iconst 1, 1) := by decide +kernel
theorem dX12_read_14 : decode cX12_read 14 = .ok (.putfield 57, 3) := by decide +kernel
theorem dX12_read_17 : decode cX12_read 17 = .ok (.aload_n 0, 1) := by decide +kernel
theorem dX12_read_18 : decode cX12_read 18 = .ok (.getfield 57, 3) := by decide +kernel
theorem dX12_read_21 : decode cX12_read 21 = .ok (.ifCond .le 7, 3) := by decide +kernel
theorem dX12_read_24 : decode cX12_read 24 = .ok (.iconst 0, 1) := by decide +kernel
theorem dX12_read_25 : decode cX12_read 25 = .ok (.goto 12, 3) := by decide +kernel
theorem dX12_read_28 : decode cX12_read 28 = .ok (.aload_n 0, 1) := by decide +kernel
theorem dX12_read_29 : decode cX12_read 29 = .ok (.aload_n 0, 1) := by decide +kernel
theorem dX12_read_30 : decode cX12_read 30 = .ok (.getfield 38, 3) := by decide +kernel
theorem dX12_read_33 : decode cX12_read 33 = .ok (.iload_n 1, 1) := by decide +kernel
theorem dX12_read_34 : decode cX12_read 34 = .ok (.invokevirtual 309, 3) := by decide +kernel
theorem dX12_read_37 : decode cX12_read 37 = .ok (.ireturn, 1) := by decide +kernel
