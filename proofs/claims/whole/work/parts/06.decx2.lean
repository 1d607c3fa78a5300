theorem dX5_get_0 : decode cX5_get 0 = .ok (.iload_n 1, 1) := by decide +kernel
theorem dX5_get_1 : decode cX5_get 1 = .ok (.ifCond .lt 21, 3) := by decide +kernel
theorem dX5_get_4 : decode cX5_get 4 = .ok (.iload_n 1, 1) := by decide +kernel
theorem dX5_get_5 : decode cX5_get 5 = .ok (.aload_n 0, 1) := by decide +kernel
theorem dX5_get_6 : decode cX5_get 6 = .ok (.getfield 11, 3) := by decide +kernel
theorem dX5_get_9 : decode cX5_get 9 = .ok (.arraylength, 1) := by decide +kernel
theorem dX5_get_10 : decode cX5_get 10 = .ok (.if_icmp .ge 12, 3) := by decide +kernel
theorem dX5_get_13 : decode cX5_get 13 = .ok (.aload_n 0, 1) := by decide +kernel
theorem dX5_get_14 : decode cX5_get 14 = .ok (.getfield 11, 3) := by decide +kernel
theorem dX5_get_17 : decode cX5_get 17 = .ok (.iload_n 1, 1) := by decide +kernel
theorem dX5_get_18 : decode cX5_get 18 = .ok (.iaload, 1) := by decide +kernel
theorem dX5_get_19 : decode cX5_get 19 = .ok (.goto 4, 3) := by decide +kernel
theorem dX5_get_22 : decode cX5_get 22 = .ok (.iconst 0, 1) := by decide +kernel
theorem dX5_get_23 : decode cX5_get 23 = .ok (.ireturn, 1) := by decide +kernel
theorem dX5_set_0 : decode cX5_set 0 = .ok (.iload_n 1, 1) := by decide +kernel
theorem dX5_set_1 : decode cX5_set 1 = .ok (.ifCond .lt 23, 3) := by decide +kernel
theorem dX5_set_4 : decode cX5_set 4 = .ok (.iload_n 1, 1) := by decide +kernel
theorem dX5_set_5 : decode cX5_set 5 = .ok (.aload_n 0, 1) := by decide +kernel
theorem dX5_set_6 : decode cX5_set 6 = .ok (.getfield 11, 3) := by decide +kernel
theorem dX5_set_9 : decode cX5_set 9 = .ok (.arraylength, 1) := by decide +kernel
theorem dX5_set_10 : decode cX5_set 10 = .ok (.if_icmp .ge 14, 3) := by decide +kernel
theorem dX5_set_13 : decode cX5_set 13 = .ok (.aload_n 0, 1) := by decide +kernel
theorem dX5_set_14 : decode cX5_set 14 = .ok (.getfield 11, 3) := by decide +kernel
theorem dX5_set_17 : decode cX5_set 17 = .ok (.iload_n 1, 1) := by decide +kernel
theorem dX5_set_18 : decode cX5_set 18 = .ok (.iload_n 2, 1) := by decide +kernel
theorem dX5_set_19 : decode cX5_set 19 = .ok (.sipush 255, 3) := by decide +kernel
theorem dX5_set_22 : decode cX5_set 22 = .ok (.iand, 1) := by decide +kernel
theorem dX5_set_23 : decode cX5_set 23 = .ok (.iastore, 1) := by decide +kernel
theorem dX5_set_24 : decode cX5_set 24 = .ok (.return_, 1) := by decide +kernel
theorem dX5_solveParts_0 : decode cX5_solveParts 0 = .ok (.iload_n 1, 1) := by decide +kernel
theorem dX5_solveParts_1 : decode cX5_solveParts 1 = .ok (.invokestatic 73, 3) := by decide +kernel
theorem dX5_solveParts_4 : decode cX5_solveParts 4 = .ok (.istore_n 3, 1) := by decide +kernel
theorem dX5_solveParts_5 : decode cX5_solveParts 5 = .ok (.bipush 31, 2) := by decide +kernel
theorem dX5_solveParts_7 : decode cX5_solveParts 7 = .ok (.iload_n 1, 1) := by decide +kernel
theorem dX5_solveParts_8 : decode cX5_solveParts 8 = .ok (.invokestatic 79, 3) := by decide +kernel
theorem dX5_solveParts_11 : decode cX5_solveParts 11 = .ok (.isub, 1) := by decide +kernel
theorem dX5_solveParts_12 : decode cX5_solveParts 12 = .ok (.istore 4, 2) := by decide +kernel
theorem dX5_solveParts_14 : decode cX5_solveParts 14 = .ok (.aload_n 0, 1) := by decide +kernel
theorem dX5_solveParts_15 : decode cX5_solveParts 15 = .ok (.getfield 21, 3) := by decide +kernel
theorem dX5_solveParts_18 : decode cX5_solveParts 18 = .ok (.iload_n 3, 1) := by decide +kernel
theorem dX5_solveParts_19 : decode cX5_solveParts 19 = .ok (.invokevirtual 82, 3) := by decide +kernel
theorem dX5_solveParts_22 : decode cX5_solveParts 22 = .ok (.istore 5, 2) := by decide +kernel
theorem dX5_solveParts_24 : decode cX5_solveParts 24 = .ok (.aload_n 0, 1) := by decide +kernel
theorem dX5_solveParts_25 : decode cX5_solveParts 25 = .ok (.getfield 21, 3) := by decide +kernel
theorem dX5_solveParts_28 : decode cX5_solveParts 28 = .ok (.iload 4, 2) := by decide +kernel
theorem dX5_solveParts_30 : decode cX5_solveParts 30 = .ok (.invokevirtual 82, 3) := by decide +kernel
theorem dX5_solveParts_33 : decode cX5_solveParts 33 = .ok (.istore 6, 2) := by decide +kernel
theorem dX5_solveParts_35 : decode cX5_solveParts 35 = .ok (.aload_n 0, 1) := by decide +kernel
theorem dX5_solveParts_36 : decode cX5_solveParts 36 = .ok (.invokevirtual 53, 3) := by decide +kernel
theorem dX5_solveParts_39 : decode cX5_solveParts 39 = .ok (.aload_n 0, 1) := by decide +kernel
theorem dX5_solveParts_40 : decode cX5_solveParts 40 = .ok (.aload_n 0, 1) := by decide +kernel
theorem dX5_solveParts_41 : decode cX5_solveParts 41 = .ok (.getfield 17, 3) := by decide +kernel
theorem dX5_solveParts_44 : decode cX5_solveParts 44 = .ok (.getfield 46, 3) := by decide +kernel
theorem dX5_solveParts_47 : decode cX5_solveParts 47 = .ok (.invokevirtual 85, 3) := by decide +kernel
theorem dX5_solveParts_50 : decode cX5_solveParts 50 = .ok (.ixor, 1) := by decide +kernel
theorem dX5_solveParts_51 : decode cX5_solveParts 51 = .ok (.istore 7, 2) := by decide +kernel
theorem dX5_solveParts_53 : decode cX5_solveParts 53 = .ok (.aload_n 0, 1) := by decide +kernel
theorem dX5_solveParts_54 : decode cX5_solveParts 54 = .ok (.getfield 21, 3) := by decide +kernel
theorem dX5_solveParts_57 : decode cX5_solveParts 57 = .ok (.aload_n 0, 1) := by decide +kernel
theorem dX5_solveParts_58 : decode cX5_solveParts 58 = .ok (.getfield 11, 3) := by decide +kernel
theorem dX5_solveParts_61 : decode cX5_solveParts 61 = .ok (.aload_n 0, 1) := by decide +kernel
theorem dX5_solveParts_62 : decode cX5_solveParts 62 = .ok (.getfield 17, 3) := by decide +kernel
theorem dX5_solveParts_65 : decode cX5_solveParts 65 = .ok (.getfield 64, 3) := by decide +kernel
theorem dX5_solveParts_68 : decode cX5_solveParts 68 = .ok (.invokevirtual 67, 3) := by decide +kernel
theorem dX5_solveParts_71 : decode cX5_solveParts 71 = .ok (.aload_n 0, 1) := by decide +kernel
theorem dX5_solveParts_72 : decode cX5_solveParts 72 = .ok (.aload_n 0, 1) := by decide +kernel
theorem dX5_solveParts_73 : decode cX5_solveParts 73 = .ok (.getfield 17, 3) := by decide +kernel
theorem dX5_solveParts_76 : decode cX5_solveParts 76 = .ok (.getfield 61, 3) := by decide +kernel
theorem dX5_solveParts_79 : decode cX5_solveParts 79 = .ok (.invokevirtual 85, 3) := by decide +kernel
theorem dX5_solveParts_82 : decode cX5_solveParts 82 = .ok (.ixor, 1) := by decide +kernel
theorem dX5_solveParts_83 : decode cX5_solveParts 83 = .ok (.istore 8, 2) := by decide +kernel
theorem dX5_solveParts_85 : decode cX5_solveParts 85 = .ok (.iload_n 3, 1) := by decide +kernel
theorem dX5_solveParts_86 : decode cX5_solveParts 86 = .ok (.iload 4, 2) := by decide +kernel
theorem dX5_solveParts_88 : decode cX5_solveParts 88 = .ok (.if_icmp .ne 31, 3) := by decide +kernel
theorem dX5_solveParts_91 : decode cX5_solveParts 91 = .ok (.aload_n 0, 1) := by decide +kernel
theorem dX5_solveParts_92 : decode cX5_solveParts 92 = .ok (.iload_n 3, 1) := by decide +kernel
theorem dX5_solveParts_93 : decode cX5_solveParts 93 = .ok (.iload_n 2, 1) := by decide +kernel
theorem dX5_solveParts_94 : decode cX5_solveParts 94 = .ok (.ifCond .eq 8, 3) := by decide +kernel
theorem dX5_solveParts_97 : decode cX5_solveParts 97 = .ok (.iload 7, 2) := by decide +kernel
theorem dX5_solveParts_99 : decode cX5_solveParts 99 = .ok (.goto 14, 3) := by decide +kernel
theorem dX5_solveParts_102 : decode cX5_solveParts 102 = .ok (.aload_n 0, 1) := by decide +kernel
theorem dX5_solveParts_103 : decode cX5_solveParts 103 = .ok (.getfield 21, 3) := by decide +kernel
theorem dX5_solveParts_106 : decode cX5_solveParts 106 = .ok (.iload 8, 2) := by decide +kernel
theorem dX5_solveParts_108 : decode cX5_solveParts 108 = .ok (.iload 5, 2) := by decide +kernel
theorem dX5_solveParts_110 : decode cX5_solveParts 110 = .ok (.invokevirtual 88, 3) := by decide +kernel
theorem dX5_solveParts_113 : decode cX5_solveParts 113 = .ok (.invokevirtual 57, 3) := by decide +kernel
theorem dX5_solveParts_116 : decode cX5_solveParts 116 = .ok (.goto 48, 3) := by decide +kernel
theorem dX5_solveParts_119 : decode cX5_solveParts 119 = .ok (.aload_n 0, 1) := by decide +kernel
theorem dX5_solveParts_120 : decode cX5_solveParts 120 = .ok (.iload_n 3, 1) := by decide +kernel
theorem dX5_solveParts_121 : decode cX5_solveParts 121 = .ok (.aload_n 0, 1) := by decide +kernel
theorem dX5_solveParts_122 : decode cX5_solveParts 122 = .ok (.getfield 21, 3) := by decide +kernel
theorem dX5_solveParts_125 : decode cX5_solveParts 125 = .ok (.iload 8, 2) := by decide +kernel
theorem dX5_solveParts_127 : decode cX5_solveParts 127 = .ok (.aload_n 0, 1) := by decide +kernel
theorem dX5_solveParts_128 : decode cX5_solveParts 128 = .ok (.getfield 21, 3) := by decide +kernel
theorem dX5_solveParts_131 : decode cX5_solveParts 131 = .ok (.iload 7, 2) := by decide +kernel
theorem dX5_solveParts_133 : decode cX5_solveParts 133 = .ok (.iload 6, 2) := by decide +kernel
theorem dX5_solveParts_135 : decode cX5_solveParts 135 = .ok (.invokevirtual 91, 3) := by decide +kernel
theorem dX5_solveParts_138 : decode cX5_solveParts 138 = .ok (.ixor, 1) := by decide +kernel
theorem dX5_solveParts_139 : decode cX5_solveParts 139 = .ok (.iload 5, 2) := by decide +kernel
theorem dX5_solveParts_141 : decode cX5_solveParts 141 = .ok (.iload 6, 2) := by decide +kernel
theorem dX5_solveParts_143 : decode cX5_solveParts 143 = .ok (.ixor, 1) := by decide +kernel
theorem dX5_solveParts_144 : decode cX5_solveParts 144 = .ok (.invokevirtual 88, 3) := by decide +kernel
theorem dX5_solveParts_147 : decode cX5_solveParts 147 = .ok (.invokevirtual 57, 3) := by decide +kernel
theorem dX5_solveParts_150 : decode cX5_solveParts 150 = .ok (.aload_n 0, 1) := by decide +kernel
theorem dX5_solveParts_151 : decode cX5_solveParts 151 = .ok (.iload 4, 2) := by decide +kernel
theorem dX5_solveParts_153 : decode cX5_solveParts 153 = .ok (.iload 7, 2) := by decide +kernel
theorem dX5_solveParts_155 : decode cX5_solveParts 155 = .ok (.aload_n 0, 1) := by decide +kernel
theorem dX5_solveParts_156 : decode cX5_solveParts 156 = .ok (.iload_n 3, 1) := by decide +kernel
theorem dX5_solveParts_157 : decode cX5_solveParts 157 = .ok (.invokevirtual 85, 3) := by decide +kernel
theorem dX5_solveParts_160 : decode cX5_solveParts 160 = .ok (.ixor, 1) := by decide +kernel
theorem dX5_solveParts_161 : decode cX5_solveParts 161 = .ok (.invokevirtual 57, 3) := by decide +kernel
theorem dX5_solveParts_164 : decode cX5_solveParts 164 = .ok (.return_, 1) := by decide +kernel
theorem dX5_gather_0 : decode cX5_gather 0 = .ok (.aload_n 0, 1) := by decide +kernel
theorem dX5_gather_1 : decode cX5_gather 1 = .ok (.aload_n 1, 1) := by decide +kernel
theorem dX5_gather_2 : decode cX5_gather 2 = .ok (.iload_n 2, 1) := by decide +kernel
theorem dX5_gather_3 : decode cX5_gather 3 = .ok (.iload_n 3, 1) := by decide +kernel
theorem dX5_gather_4 : decode cX5_gather 4 = .ok (.iload 4, 2) := by decide +kernel
theorem dX5_gather_6 : decode cX5_gather 6 = .ok (.invokevirtual 39, 3) := by decide +kernel
theorem dX5_gather_9 : decode cX5_gather 9 = .ok (.iload 4, 2) := by decide +kernel
theorem dX5_gather_11 : decode cX5_gather 11 = .ok (.aload_n 0, 1) := by decide +kernel
theorem dX5_gather_12 : decode cX5_gather 12 = .ok (.getfield 17, 3) := by decide +kernel
theorem dX5_gather_15 : decode cX5_gather 15 = .ok (.getfield 43, 3) := by decide +kernel
theorem dX5_gather_18 : decode cX5_gather 18 = .ok (.iand, 1) := by decide +kernel
theorem dX5_gather_19 : decode cX5_gather 19 = .ok (.istore 5, 2) := by decide +kernel
theorem dX5_gather_21 : decode cX5_gather 21 = .ok (.iload 4, 2) := by decide +kernel
theorem dX5_gather_23 : decode cX5_gather 23 = .ok (.aload_n 0, 1) := by decide +kernel
theorem dX5_gather_24 : decode cX5_gather 24 = .ok (.getfield 17, 3) := by decide +kernel
theorem dX5_gather_27 : decode cX5_gather 27 = .ok (.getfield 46, 3) := by decide +kernel
theorem dX5_gather_30 : decode cX5_gather 30 = .ok (.ishr, 1) := by decide +kernel
theorem dX5_gather_31 : decode cX5_gather 31 = .ok (.iconst 1, 1) := by decide +kernel
theorem dX5_gather_32 : decode cX5_gather 32 = .ok (.iand, 1) := by decide +kernel
theorem dX5_gather_33 : decode cX5_gather 33 = .ok (.ifCond .ne 7, 3) := by decide +kernel
theorem dX5_gather_36 : decode cX5_gather 36 = .ok (.iconst 1, 1) := by decide +kernel
theorem dX5_gather_37 : decode cX5_gather 37 = .ok (.goto 4, 3) := by decide +kernel
theorem dX5_gather_40 : decode cX5_gather 40 = .ok (.iconst 0, 1) := by decide +kernel
theorem dX5_gather_41 : decode cX5_gather 41 = .ok (.istore 6, 2) := by decide +kernel
theorem dX5_gather_43 : decode cX5_gather 43 = .ok (.iload 5, 2) := by decide +kernel
theorem dX5_gather_45 : decode cX5_gather 45 = .ok (.ifCond .eq 11, 3) := by decide +kernel
theorem dX5_gather_48 : decode cX5_gather 48 = .ok (.aload_n 0, 1) := by decide +kernel
theorem dX5_gather_49 : decode cX5_gather 49 = .ok (.iload 5, 2) := by decide +kernel
theorem dX5_gather_51 : decode cX5_gather 51 = .ok (.iload 6, 2) := by decide +kernel
theorem dX5_gather_53 : decode cX5_gather 53 = .ok (.invokevirtual 49, 3) := by decide +kernel
theorem dX5_gather_56 : decode cX5_gather 56 = .ok (.iload 6, 2) := by decide +kernel
theorem dX5_gather_58 : decode cX5_gather 58 = .ok (.ifCond .ne 18, 3) := by decide +kernel
theorem dX5_gather_61 : decode cX5_gather 61 = .ok (.aload_n 0, 1) := by decide +kernel
theorem dX5_gather_62 : decode cX5_gather 62 = .ok (.aload_n 0, 1) := by decide +kernel
theorem dX5_gather_63 : decode cX5_gather 63 = .ok (.getfield 17, 3) := by decide +kernel
theorem dX5_gather_66 : decode cX5_gather 66 = .ok (.getfield 46, 3) := by decide +kernel
theorem dX5_gather_69 : decode cX5_gather 69 = .ok (.aload_n 0, 1) := by decide +kernel
theorem dX5_gather_70 : decode cX5_gather 70 = .ok (.invokevirtual 53, 3) := by decide +kernel
theorem dX5_gather_73 : decode cX5_gather 73 = .ok (.invokevirtual 57, 3) := by decide +kernel
theorem dX5_gather_76 : decode cX5_gather 76 = .ok (.iload 4, 2) := by decide +kernel
theorem dX5_gather_78 : decode cX5_gather 78 = .ok (.aload_n 0, 1) := by decide +kernel
theorem dX5_gather_79 : decode cX5_gather 79 = .ok (.getfield 17, 3) := by decide +kernel
theorem dX5_gather_82 : decode cX5_gather 82 = .ok (.getfield 61, 3) := by decide +kernel
theorem dX5_gather_85 : decode cX5_gather 85 = .ok (.ishr, 1) := by decide +kernel
theorem dX5_gather_86 : decode cX5_gather 86 = .ok (.iconst 1, 1) := by decide +kernel
theorem dX5_gather_87 : decode cX5_gather 87 = .ok (.iand, 1) := by decide +kernel
theorem dX5_gather_88 : decode cX5_gather 88 = .ok (.ifCond .eq 32, 3) := by decide +kernel
theorem dX5_gather_91 : decode cX5_gather 91 = .ok (.aload_n 0, 1) := by decide +kernel
theorem dX5_gather_92 : decode cX5_gather 92 = .ok (.aload_n 0, 1) := by decide +kernel
theorem dX5_gather_93 : decode cX5_gather 93 = .ok (.getfield 17, 3) := by decide +kernel
theorem dX5_gather_96 : decode cX5_gather 96 = .ok (.getfield 61, 3) := by decide +kernel
theorem dX5_gather_99 : decode cX5_gather 99 = .ok (.aload_n 0, 1) := by decide +kernel
theorem dX5_gather_100 : decode cX5_gather 100 = .ok (.getfield 21, 3) := by decide +kernel
theorem dX5_gather_103 : decode cX5_gather 103 = .ok (.aload_n 0, 1) := by decide +kernel
theorem dX5_gather_104 : decode cX5_gather 104 = .ok (.getfield 11, 3) := by decide +kernel
theorem dX5_gather_107 : decode cX5_gather 107 = .ok (.aload_n 0, 1) := by decide +kernel
theorem dX5_gather_108 : decode cX5_gather 108 = .ok (.getfield 17, 3) := by decide +kernel
theorem dX5_gather_111 : decode cX5_gather 111 = .ok (.getfield 64, 3) := by decide +kernel
theorem dX5_gather_114 : decode cX5_gather 114 = .ok (.invokevirtual 67, 3) := by decide +kernel
theorem dX5_gather_117 : decode cX5_gather 117 = .ok (.invokevirtual 57, 3) := by decide +kernel
theorem dX5_gather_120 : decode cX5_gather 120 = .ok (.return_, 1) := by decide +kernel
theorem dX4_toldOf_0 : decode cX4_toldOf 0 = .ok (.iconst 1, 1) := by decide +kernel
theorem dX4_toldOf_1 : decode cX4_toldOf 1 = .ok (.aload_n 0, 1) := by decide +kernel
theorem dX4_toldOf_2 : decode cX4_toldOf 2 = .ok (.getfield 21, 3) := by decide +kernel
theorem dX4_toldOf_5 : decode cX4_toldOf 5 = .ok (.iload 4, 2) := by decide +kernel
theorem dX4_toldOf_7 : decode cX4_toldOf 7 = .ok (.iload_n 2, 1) := by decide +kernel
theorem dX4_toldOf_8 : decode cX4_toldOf 8 = .ok (.invokevirtual 50, 3) := by decide +kernel
theorem dX4_toldOf_11 : decode cX4_toldOf 11 = .ok (.ishl, 1) := by decide +kernel
theorem dX4_toldOf_12 : decode cX4_toldOf 12 = .ok (.iconst 1, 1) := by decide +kernel
theorem dX4_toldOf_13 : decode cX4_toldOf 13 = .ok (.aload_n 0, 1) := by decide +kernel
theorem dX4_toldOf_14 : decode cX4_toldOf 14 = .ok (.getfield 21, 3) := by decide +kernel
theorem dX4_toldOf_17 : decode cX4_toldOf 17 = .ok (.iload 5, 2) := by decide +kernel
theorem dX4_toldOf_19 : decode cX4_toldOf 19 = .ok (.iload_n 2, 1) := by decide +kernel
theorem dX4_toldOf_20 : decode cX4_toldOf 20 = .ok (.invokevirtual 50, 3) := by decide +kernel
theorem dX4_toldOf_23 : decode cX4_toldOf 23 = .ok (.ishl, 1) := by decide +kernel
theorem dX4_toldOf_24 : decode cX4_toldOf 24 = .ok (.ior, 1) := by decide +kernel
theorem dX4_toldOf_25 : decode cX4_toldOf 25 = .ok (.istore 6, 2) := by decide +kernel
theorem dX4_toldOf_27 : decode cX4_toldOf 27 = .ok (.aload_n 0, 1) := by decide +kernel
theorem dX4_toldOf_28 : decode cX4_toldOf 28 = .ok (.getfield 9, 3) := by decide +kernel
theorem dX4_toldOf_31 : decode cX4_toldOf 31 = .ok (.iload_n 2, 1) := by decide +kernel
theorem dX4_toldOf_32 : decode cX4_toldOf 32 = .ok (.invokevirtual 31, 3) := by decide +kernel
theorem dX4_toldOf_35 : decode cX4_toldOf 35 = .ok (.iload 6, 2) := by decide +kernel
theorem dX4_toldOf_37 : decode cX4_toldOf 37 = .ok (.iconst (-1), 1) := by decide +kernel
theorem dX4_toldOf_38 : decode cX4_toldOf 38 = .ok (.ixor, 1) := by decide +kernel
theorem dX4_toldOf_39 : decode cX4_toldOf 39 = .ok (.iand, 1) := by decide +kernel
theorem dX4_toldOf_40 : decode cX4_toldOf 40 = .ok (.ifCond .eq 6, 3) := by decide +kernel
theorem dX4_toldOf_43 : decode cX4_toldOf 43 = .ok (.ldc 53, 2) := by decide +kernel
theorem dX4_toldOf_45 : decode cX4_toldOf 45 = .ok (.ireturn, 1) := by decide +kernel
theorem dX4_toldOf_46 : decode cX4_toldOf 46 = .ok (.aload_n 0, 1) := by decide +kernel
theorem dX4_toldOf_47 : decode cX4_toldOf 47 = .ok (.getfield 9, 3) := by decide +kernel
theorem dX4_toldOf_50 : decode cX4_toldOf 50 = .ok (.getfield 54, 3) := by decide +kernel
theorem dX4_toldOf_53 : decode cX4_toldOf 53 = .ok (.aload_n 0, 1) := by decide +kernel
theorem dX4_toldOf_54 : decode cX4_toldOf 54 = .ok (.getfield 9, 3) := by decide +kernel
theorem dX4_toldOf_57 : decode cX4_toldOf 57 = .ok (.getfield 58, 3) := by decide +kernel
theorem dX4_toldOf_60 : decode cX4_toldOf 60 = .ok (.iload_n 2, 1) := by decide +kernel
theorem dX4_toldOf_61 : decode cX4_toldOf 61 = .ok (.iload_n 3, 1) := by decide +kernel
theorem dX4_toldOf_62 : decode cX4_toldOf 62 = .ok (.iload 6, 2) := by decide +kernel
theorem dX4_toldOf_64 : decode cX4_toldOf 64 = .ok (.invokevirtual 62, 3) := by decide +kernel
theorem dX4_toldOf_67 : decode cX4_toldOf 67 = .ok (.aload_n 0, 1) := by decide +kernel
theorem dX4_toldOf_68 : decode cX4_toldOf 68 = .ok (.getfield 9, 3) := by decide +kernel
theorem dX4_toldOf_71 : decode cX4_toldOf 71 = .ok (.getfield 54, 3) := by decide +kernel
theorem dX4_toldOf_74 : decode cX4_toldOf 74 = .ok (.aload_n 0, 1) := by decide +kernel
theorem dX4_toldOf_75 : decode cX4_toldOf 75 = .ok (.getfield 21, 3) := by decide +kernel
theorem dX4_toldOf_78 : decode cX4_toldOf 78 = .ok (.iload_n 1, 1) := by decide +kernel
theorem dX4_toldOf_79 : decode cX4_toldOf 79 = .ok (.iload_n 2, 1) := by decide +kernel
theorem dX4_toldOf_80 : decode cX4_toldOf 80 = .ok (.invokevirtual 50, 3) := by decide +kernel
theorem dX4_toldOf_83 : decode cX4_toldOf 83 = .ok (.invokevirtual 68, 3) := by decide +kernel
theorem dX4_toldOf_86 : decode cX4_toldOf 86 = .ok (.ireturn, 1) := by decide +kernel
theorem dX8_isDirty_0 : decode cX8_isDirty 0 = .ok (.aload_n 0, 1) := by decide +kernel
theorem dX8_isDirty_1 : decode cX8_isDirty 1 = .ok (.getfield 12, 3) := by decide +kernel
theorem dX8_isDirty_4 : decode cX8_isDirty 4 = .ok (.sipush 140, 3) := by decide +kernel
theorem dX8_isDirty_7 : decode cX8_isDirty 7 = .ok (.invokevirtual 31, 3) := by decide +kernel
theorem dX8_isDirty_10 : decode cX8_isDirty 10 = .ok (.iload_n 1, 1) := by decide +kernel
theorem dX8_isDirty_11 : decode cX8_isDirty 11 = .ok (.ishr, 1) := by decide +kernel
theorem dX8_isDirty_12 : decode cX8_isDirty 12 = .ok (.iconst 1, 1) := by decide +kernel
theorem dX8_isDirty_13 : decode cX8_isDirty 13 = .ok (.iand, 1) := by decide +kernel
theorem dX8_isDirty_14 : decode cX8_isDirty 14 = .ok (.ifCond .eq 7, 3) := by decide +kernel
theorem dX8_isDirty_17 : decode cX8_isDirty 17 = .ok (.iconst 1, 1) := by decide +kernel
theorem dX8_isDirty_18 : decode cX8_isDirty 18 = .ok (.goto 4, 3) := by decide +kernel
theorem dX8_isDirty_21 : decode cX8_isDirty 21 = .ok (.iconst 0, 1) := by decide +kernel
theorem dX8_isDirty_22 : decode cX8_isDirty 22 = .ok (.ireturn, 1) := by decide +kernel
theorem dX5_wrongPart_0 : decode cX5_wrongPart 0 = .ok (.aload_n 0, 1) := by decide +kernel
theorem dX5_wrongPart_1 : decode cX5_wrongPart 1 = .ok (.invokevirtual 53, 3) := by decide +kernel
theorem dX5_wrongPart_4 : decode cX5_wrongPart 4 = .ok (.aload_n 0, 1) := by decide +kernel
theorem dX5_wrongPart_5 : decode cX5_wrongPart 5 = .ok (.aload_n 0, 1) := by decide +kernel
theorem dX5_wrongPart_6 : decode cX5_wrongPart 6 = .ok (.getfield 17, 3) := by decide +kernel
theorem dX5_wrongPart_9 : decode cX5_wrongPart 9 = .ok (.getfield 46, 3) := by decide +kernel
theorem dX5_wrongPart_12 : decode cX5_wrongPart 12 = .ok (.invokevirtual 85, 3) := by decide +kernel
theorem dX5_wrongPart_15 : decode cX5_wrongPart 15 = .ok (.ixor, 1) := by decide +kernel
theorem dX5_wrongPart_16 : decode cX5_wrongPart 16 = .ok (.istore_n 1, 1) := by decide +kernel
theorem dX5_wrongPart_17 : decode cX5_wrongPart 17 = .ok (.aload_n 0, 1) := by decide +kernel
theorem dX5_wrongPart_18 : decode cX5_wrongPart 18 = .ok (.getfield 21, 3) := by decide +kernel
theorem dX5_wrongPart_21 : decode cX5_wrongPart 21 = .ok (.aload_n 0, 1) := by decide +kernel
theorem dX5_wrongPart_22 : decode cX5_wrongPart 22 = .ok (.getfield 11, 3) := by decide +kernel
theorem dX5_wrongPart_25 : decode cX5_wrongPart 25 = .ok (.aload_n 0, 1) := by decide +kernel
theorem dX5_wrongPart_26 : decode cX5_wrongPart 26 = .ok (.getfield 17, 3) := by decide +kernel
theorem dX5_wrongPart_29 : decode cX5_wrongPart 29 = .ok (.getfield 64, 3) := by decide +kernel
theorem dX5_wrongPart_32 : decode cX5_wrongPart 32 = .ok (.invokevirtual 67, 3) := by decide +kernel
theorem dX5_wrongPart_35 : decode cX5_wrongPart 35 = .ok (.aload_n 0, 1) := by decide +kernel
theorem dX5_wrongPart_36 : decode cX5_wrongPart 36 = .ok (.aload_n 0, 1) := by decide +kernel
theorem dX5_wrongPart_37 : decode cX5_wrongPart 37 = .ok (.getfield 17, 3) := by decide +kernel
theorem dX5_wrongPart_40 : decode cX5_wrongPart 40 = .ok (.getfield 61, 3) := by decide +kernel
theorem dX5_wrongPart_43 : decode cX5_wrongPart 43 = .ok (.invokevirtual 85, 3) := by decide +kernel
theorem dX5_wrongPart_46 : decode cX5_wrongPart 46 = .ok (.ixor, 1) := by decide +kernel
theorem dX5_wrongPart_47 : decode cX5_wrongPart 47 = .ok (.istore_n 2, 1) := by decide +kernel
theorem dX5_wrongPart_48 : decode cX5_wrongPart 48 = .ok (.iload_n 1, 1) := by decide +kernel
theorem dX5_wrongPart_49 : decode cX5_wrongPart 49 = .ok (.ifCond .ne 9, 3) := by decide +kernel
theorem dX5_wrongPart_52 : decode cX5_wrongPart 52 = .ok (.iload_n 2, 1) := by decide +kernel
theorem dX5_wrongPart_53 : decode cX5_wrongPart 53 = .ok (.ifCond .ne 5, 3) := by decide +kernel
theorem dX5_wrongPart_56 : decode cX5_wrongPart 56 = .ok (.iconst (-1), 1) := by decide +kernel
theorem dX5_wrongPart_57 : decode cX5_wrongPart 57 = .ok (.ireturn, 1) := by decide +kernel
theorem dX5_wrongPart_58 : decode cX5_wrongPart 58 = .ok (.iload_n 2, 1) := by decide +kernel
theorem dX5_wrongPart_59 : decode cX5_wrongPart 59 = .ok (.ifCond .ne 11, 3) := by decide +kernel
theorem dX5_wrongPart_62 : decode cX5_wrongPart 62 = .ok (.aload_n 0, 1) := by decide +kernel
theorem dX5_wrongPart_63 : decode cX5_wrongPart 63 = .ok (.getfield 17, 3) := by decide +kernel
theorem dX5_wrongPart_66 : decode cX5_wrongPart 66 = .ok (.getfield 46, 3) := by decide +kernel
theorem dX5_wrongPart_69 : decode cX5_wrongPart 69 = .ok (.ireturn, 1) := by decide +kernel
theorem dX5_wrongPart_70 : decode cX5_wrongPart 70 = .ok (.iload_n 1, 1) := by decide +kernel
theorem dX5_wrongPart_71 : decode cX5_wrongPart 71 = .ok (.ifCond .ne 11, 3) := by decide +kernel
theorem dX5_wrongPart_74 : decode cX5_wrongPart 74 = .ok (.aload_n 0, 1) := by decide +kernel
theorem dX5_wrongPart_75 : decode cX5_wrongPart 75 = .ok (.getfield 17, 3) := by decide +kernel
theorem dX5_wrongPart_78 : decode cX5_wrongPart 78 = .ok (.getfield 61, 3) := by decide +kernel
theorem dX5_wrongPart_81 : decode cX5_wrongPart 81 = .ok (.ireturn, 1) := by decide +kernel
theorem dX5_wrongPart_82 : decode cX5_wrongPart 82 = .ok (.aload_n 0, 1) := by decide +kernel
theorem dX5_wrongPart_83 : decode cX5_wrongPart 83 = .ok (.getfield 21, 3) := by decide +kernel
theorem dX5_wrongPart_86 : decode cX5_wrongPart 86 = .ok (.aload_n 0, 1) := by decide +kernel
theorem dX5_wrongPart_87 : decode cX5_wrongPart 87 = .ok (.getfield 21, 3) := by decide +kernel
theorem dX5_wrongPart_90 : decode cX5_wrongPart 90 = .ok (.iload_n 2, 1) := by decide +kernel
theorem dX5_wrongPart_91 : decode cX5_wrongPart 91 = .ok (.iload_n 1, 1) := by decide +kernel
theorem dX5_wrongPart_92 : decode cX5_wrongPart 92 = .ok (.invokevirtual 88, 3) := by decide +kernel
theorem dX5_wrongPart_95 : decode cX5_wrongPart 95 = .ok (.invokevirtual 94, 3) := by decide +kernel
theorem dX5_wrongPart_98 : decode cX5_wrongPart 98 = .ok (.istore_n 3, 1) := by decide +kernel
theorem dX5_wrongPart_99 : decode cX5_wrongPart 99 = .ok (.iload_n 3, 1) := by decide +kernel
theorem dX5_wrongPart_100 : decode cX5_wrongPart 100 = .ok (.aload_n 0, 1) := by decide +kernel
theorem dX5_wrongPart_101 : decode cX5_wrongPart 101 = .ok (.getfield 17, 3) := by decide +kernel
theorem dX5_wrongPart_104 : decode cX5_wrongPart 104 = .ok (.getfield 64, 3) := by decide +kernel
theorem dX5_wrongPart_107 : decode cX5_wrongPart 107 = .ok (.if_icmp .ge 7, 3) := by decide +kernel
theorem dX5_wrongPart_110 : decode cX5_wrongPart 110 = .ok (.iload_n 3, 1) := by decide +kernel
theorem dX5_wrongPart_111 : decode cX5_wrongPart 111 = .ok (.goto 5, 3) := by decide +kernel
theorem dX5_wrongPart_114 : decode cX5_wrongPart 114 = .ok (.bipush (-2), 2) := by decide +kernel
theorem dX5_wrongPart_116 : decode cX5_wrongPart 116 = .ok (.ireturn, 1) := by decide +kernel
theorem dX4_wrongDisk_0 : decode cX4_wrongDisk 0 = .ok (.aload_n 0, 1) := by decide +kernel
theorem dX4_wrongDisk_1 : decode cX4_wrongDisk 1 = .ok (.getfield 9, 3) := by decide +kernel
theorem dX4_wrongDisk_4 : decode cX4_wrongDisk 4 = .ok (.iload_n 1, 1) := by decide +kernel
theorem dX4_wrongDisk_5 : decode cX4_wrongDisk 5 = .ok (.invokevirtual 31, 3) := by decide +kernel
theorem dX4_wrongDisk_8 : decode cX4_wrongDisk 8 = .ok (.ifCond .ne 14, 3) := by decide +kernel
theorem dX4_wrongDisk_11 : decode cX4_wrongDisk 11 = .ok (.aload_n 0, 1) := by decide +kernel
theorem dX4_wrongDisk_12 : decode cX4_wrongDisk 12 = .ok (.getfield 9, 3) := by decide +kernel
theorem dX4_wrongDisk_15 : decode cX4_wrongDisk 15 = .ok (.iload_n 1, 1) := by decide +kernel
theorem dX4_wrongDisk_16 : decode cX4_wrongDisk 16 = .ok (.invokevirtual 71, 3) := by decide +kernel
theorem dX4_wrongDisk_19 : decode cX4_wrongDisk 19 = .ok (.ifCond .eq 6, 3) := by decide +kernel
theorem dX4_wrongDisk_22 : decode cX4_wrongDisk 22 = .ok (.ldc 53, 2) := by decide +kernel
theorem dX4_wrongDisk_24 : decode cX4_wrongDisk 24 = .ok (.ireturn, 1) := by decide +kernel
theorem dX4_wrongDisk_25 : decode cX4_wrongDisk 25 = .ok (.aload_n 0, 1) := by decide +kernel
theorem dX4_wrongDisk_26 : decode cX4_wrongDisk 26 = .ok (.getfield 9, 3) := by decide +kernel
theorem dX4_wrongDisk_29 : decode cX4_wrongDisk 29 = .ok (.getfield 54, 3) := by decide +kernel
theorem dX4_wrongDisk_32 : decode cX4_wrongDisk 32 = .ok (.aload_n 0, 1) := by decide +kernel
theorem dX4_wrongDisk_33 : decode cX4_wrongDisk 33 = .ok (.getfield 9, 3) := by decide +kernel
theorem dX4_wrongDisk_36 : decode cX4_wrongDisk 36 = .ok (.getfield 58, 3) := by decide +kernel
theorem dX4_wrongDisk_39 : decode cX4_wrongDisk 39 = .ok (.iload_n 1, 1) := by decide +kernel
theorem dX4_wrongDisk_40 : decode cX4_wrongDisk 40 = .ok (.iload_n 2, 1) := by decide +kernel
theorem dX4_wrongDisk_41 : decode cX4_wrongDisk 41 = .ok (.iconst 0, 1) := by decide +kernel
theorem dX4_wrongDisk_42 : decode cX4_wrongDisk 42 = .ok (.invokevirtual 75, 3) := by decide +kernel
theorem dX4_wrongDisk_45 : decode cX4_wrongDisk 45 = .ok (.aload_n 0, 1) := by decide +kernel
theorem dX4_wrongDisk_46 : decode cX4_wrongDisk 46 = .ok (.getfield 9, 3) := by decide +kernel
theorem dX4_wrongDisk_49 : decode cX4_wrongDisk 49 = .ok (.getfield 54, 3) := by decide +kernel
theorem dX4_wrongDisk_52 : decode cX4_wrongDisk 52 = .ok (.invokevirtual 78, 3) := by decide +kernel
theorem dX4_wrongDisk_55 : decode cX4_wrongDisk 55 = .ok (.istore_n 3, 1) := by decide +kernel
theorem dX4_wrongDisk_56 : decode cX4_wrongDisk 56 = .ok (.iload_n 3, 1) := by decide +kernel
theorem dX4_wrongDisk_57 : decode cX4_wrongDisk 57 = .ok (.ifCond .ge 7, 3) := by decide +kernel
theorem dX4_wrongDisk_60 : decode cX4_wrongDisk 60 = .ok (.iload_n 3, 1) := by decide +kernel
theorem dX4_wrongDisk_61 : decode cX4_wrongDisk 61 = .ok (.goto 12, 3) := by decide +kernel
theorem dX4_wrongDisk_64 : decode cX4_wrongDisk 64 = .ok (.aload_n 0, 1) := by decide +kernel
theorem dX4_wrongDisk_65 : decode cX4_wrongDisk 65 = .ok (.getfield 21, 3) := by decide +kernel
theorem dX4_wrongDisk_68 : decode cX4_wrongDisk 68 = .ok (.iload_n 3, 1) := by decide +kernel
theorem dX4_wrongDisk_69 : decode cX4_wrongDisk 69 = .ok (.iload_n 1, 1) := by decide +kernel
theorem dX4_wrongDisk_70 : decode cX4_wrongDisk 70 = .ok (.invokevirtual 82, 3) := by decide +kernel
theorem dX4_wrongDisk_73 : decode cX4_wrongDisk 73 = .ok (.ireturn, 1) := by decide +kernel
theorem dX8_stands_0 : decode cX8_stands 0 = .ok (.aload_n 0, 1) := by decide +kernel
theorem dX8_stands_1 : decode cX8_stands 1 = .ok (.getfield 12, 3) := by decide +kernel
theorem dX8_stands_4 : decode cX8_stands 4 = .ok (.bipush 96, 2) := by decide +kernel
theorem dX8_stands_6 : decode cX8_stands 6 = .ok (.iload_n 1, 1) := by decide +kernel
theorem dX8_stands_7 : decode cX8_stands 7 = .ok (.iadd, 1) := by decide +kernel
theorem dX8_stands_8 : decode cX8_stands 8 = .ok (.invokevirtual 31, 3) := by decide +kernel
theorem dX8_stands_11 : decode cX8_stands 11 = .ok (.iload_n 2, 1) := by decide +kernel
theorem dX8_stands_12 : decode cX8_stands 12 = .ok (.if_icmp .ne 7, 3) := by decide +kernel
theorem dX8_stands_15 : decode cX8_stands 15 = .ok (.iconst 1, 1) := by decide +kernel
theorem dX8_stands_16 : decode cX8_stands 16 = .ok (.goto 4, 3) := by decide +kernel
theorem dX8_stands_19 : decode cX8_stands 19 = .ok (.iconst 0, 1) := by decide +kernel
theorem dX8_stands_20 : decode cX8_stands 20 = .ok (.ireturn, 1) := by decide +kernel
theorem dX8_notWhole_0 : decode cX8_notWhole 0 = .ok (.iconst 0, 1) := by decide +kernel
theorem dX8_notWhole_1 : decode cX8_notWhole 1 = .ok (.istore_n 1, 1) := by decide +kernel
theorem dX8_notWhole_2 : decode cX8_notWhole 2 = .ok (.iconst 0, 1) := by decide +kernel
theorem dX8_notWhole_3 : decode cX8_notWhole 3 = .ok (.istore_n 2, 1) := by decide +kernel
theorem dX8_notWhole_4 : decode cX8_notWhole 4 = .ok (.iload_n 2, 1) := by decide +kernel
theorem dX8_notWhole_5 : decode cX8_notWhole 5 = .ok (.aload_n 0, 1) := by decide +kernel
theorem dX8_notWhole_6 : decode cX8_notWhole 6 = .ok (.getfield 18, 3) := by decide +kernel
theorem dX8_notWhole_9 : decode cX8_notWhole 9 = .ok (.getfield 35, 3) := by decide +kernel
theorem dX8_notWhole_12 : decode cX8_notWhole 12 = .ok (.if_icmp .ge 29, 3) := by decide +kernel
theorem dX8_notWhole_15 : decode cX8_notWhole 15 = .ok (.aload_n 0, 1) := by decide +kernel
theorem dX8_notWhole_16 : decode cX8_notWhole 16 = .ok (.getfield 12, 3) := by decide +kernel
theorem dX8_notWhole_19 : decode cX8_notWhole 19 = .ok (.bipush 96, 2) := by decide +kernel
theorem dX8_notWhole_21 : decode cX8_notWhole 21 = .ok (.iload_n 2, 1) := by decide +kernel
theorem dX8_notWhole_22 : decode cX8_notWhole 22 = .ok (.iadd, 1) := by decide +kernel
theorem dX8_notWhole_23 : decode cX8_notWhole 23 = .ok (.invokevirtual 31, 3) := by decide +kernel
theorem dX8_notWhole_26 : decode cX8_notWhole 26 = .ok (.ifCond .eq 9, 3) := by decide +kernel
theorem dX8_notWhole_29 : decode cX8_notWhole 29 = .ok (.iload_n 1, 1) := by decide +kernel
theorem dX8_notWhole_30 : decode cX8_notWhole 30 = .ok (.iconst 1, 1) := by decide +kernel
theorem dX8_notWhole_31 : decode cX8_notWhole 31 = .ok (.iload_n 2, 1) := by decide +kernel
theorem dX8_notWhole_32 : decode cX8_notWhole 32 = .ok (.ishl, 1) := by decide +kernel
theorem dX8_notWhole_33 : decode cX8_notWhole 33 = .ok (.ior, 1) := by decide +kernel
theorem dX8_notWhole_34 : decode cX8_notWhole 34 = .ok (.istore_n 1, 1) := by decide +kernel
theorem dX8_notWhole_35 : decode cX8_notWhole 35 = .ok (.iinc 2 1, 3) := by decide +kernel
theorem dX8_notWhole_38 : decode cX8_notWhole 38 = .ok (.goto (-34), 3) := by decide +kernel
theorem dX8_notWhole_41 : decode cX8_notWhole 41 = .ok (.iload_n 1, 1) := by decide +kernel
theorem dX8_notWhole_42 : decode cX8_notWhole 42 = .ok (.ireturn, 1) := by decide +kernel
theorem dX8_canLose_0 : decode cX8_canLose 0 = .ok (.aload_n 0, 1) := by decide +kernel
theorem dX8_canLose_1 : decode cX8_canLose 1 = .ok (.iload_n 1, 1) := by decide +kernel
theorem dX8_canLose_2 : decode cX8_canLose 2 = .ok (.iconst 1, 1) := by decide +kernel
theorem dX8_canLose_3 : decode cX8_canLose 3 = .ok (.invokevirtual 49, 3) := by decide +kernel
theorem dX8_canLose_6 : decode cX8_canLose 6 = .ok (.ifCond .eq 5, 3) := by decide +kernel
theorem dX8_canLose_9 : decode cX8_canLose 9 = .ok (.iconst 0, 1) := by decide +kernel
theorem dX8_canLose_10 : decode cX8_canLose 10 = .ok (.ireturn, 1) := by decide +kernel
theorem dX8_canLose_11 : decode cX8_canLose 11 = .ok (.aload_n 0, 1) := by decide +kernel
theorem dX8_canLose_12 : decode cX8_canLose 12 = .ok (.iload_n 1, 1) := by decide +kernel
theorem dX8_canLose_13 : decode cX8_canLose 13 = .ok (.iconst 0, 1) := by decide +kernel
theorem dX8_canLose_14 : decode cX8_canLose 14 = .ok (.invokevirtual 49, 3) := by decide +kernel
theorem dX8_canLose_17 : decode cX8_canLose 17 = .ok (.ifCond .eq 14, 3) := by decide +kernel
theorem dX8_canLose_20 : decode cX8_canLose 20 = .ok (.aload_n 0, 1) := by decide +kernel
theorem dX8_canLose_21 : decode cX8_canLose 21 = .ok (.invokevirtual 52, 3) := by decide +kernel
theorem dX8_canLose_24 : decode cX8_canLose 24 = .ok (.invokestatic 56, 3) := by decide +kernel
theorem dX8_canLose_27 : decode cX8_canLose 27 = .ok (.iconst 2, 1) := by decide +kernel
theorem dX8_canLose_28 : decode cX8_canLose 28 = .ok (.if_icmp .ge 7, 3) := by decide +kernel
theorem dX8_canLose_31 : decode cX8_canLose 31 = .ok (.iconst 1, 1) := by decide +kernel
theorem dX8_canLose_32 : decode cX8_canLose 32 = .ok (.goto 4, 3) := by decide +kernel
theorem dX8_canLose_35 : decode cX8_canLose 35 = .ok (.iconst 0, 1) := by decide +kernel
theorem dX8_canLose_36 : decode cX8_canLose 36 = .ok (.ireturn, 1) := by decide +kernel
theorem dX4_losable_0 : decode cX4_losable 0 = .ok (.iconst 0, 1) := by decide +kernel
theorem dX4_losable_1 : decode cX4_losable 1 = .ok (.istore_n 1, 1) := by decide +kernel
theorem dX4_losable_2 : decode cX4_losable 2 = .ok (.iconst 0, 1) := by decide +kernel
theorem dX4_losable_3 : decode cX4_losable 3 = .ok (.istore_n 2, 1) := by decide +kernel
theorem dX4_losable_4 : decode cX4_losable 4 = .ok (.iload_n 2, 1) := by decide +kernel
theorem dX4_losable_5 : decode cX4_losable 5 = .ok (.aload_n 0, 1) := by decide +kernel
theorem dX4_losable_6 : decode cX4_losable 6 = .ok (.getfield 21, 3) := by decide +kernel
theorem dX4_losable_9 : decode cX4_losable 9 = .ok (.getfield 85, 3) := by decide +kernel
theorem dX4_losable_12 : decode cX4_losable 12 = .ok (.if_icmp .ge 26, 3) := by decide +kernel
theorem dX4_losable_15 : decode cX4_losable 15 = .ok (.aload_n 0, 1) := by decide +kernel
theorem dX4_losable_16 : decode cX4_losable 16 = .ok (.getfield 9, 3) := by decide +kernel
theorem dX4_losable_19 : decode cX4_losable 19 = .ok (.iload_n 2, 1) := by decide +kernel
theorem dX4_losable_20 : decode cX4_losable 20 = .ok (.invokevirtual 89, 3) := by decide +kernel
theorem dX4_losable_23 : decode cX4_losable 23 = .ok (.ifCond .eq 9, 3) := by decide +kernel
theorem dX4_losable_26 : decode cX4_losable 26 = .ok (.iload_n 1, 1) := by decide +kernel
theorem dX4_losable_27 : decode cX4_losable 27 = .ok (.iconst 1, 1) := by decide +kernel
theorem dX4_losable_28 : decode cX4_losable 28 = .ok (.iload_n 2, 1) := by decide +kernel
theorem dX4_losable_29 : decode cX4_losable 29 = .ok (.ishl, 1) := by decide +kernel
theorem dX4_losable_30 : decode cX4_losable 30 = .ok (.ior, 1) := by decide +kernel
theorem dX4_losable_31 : decode cX4_losable 31 = .ok (.istore_n 1, 1) := by decide +kernel
theorem dX4_losable_32 : decode cX4_losable 32 = .ok (.iinc 2 1, 3) := by decide +kernel
theorem dX4_losable_35 : decode cX4_losable 35 = .ok (.goto (-31), 3) := by decide +kernel
theorem dX4_losable_38 : decode cX4_losable 38 = .ok (.iload_n 1, 1) := by decide +kernel
theorem dX4_losable_39 : decode cX4_losable 39 = .ok (.ireturn, 1) := by decide +kernel
theorem dX4_losableCouples_0 : decode cX4_losableCouples 0 = .ok (.iconst 0, 1) := by decide +kernel
theorem dX4_losableCouples_1 : decode cX4_losableCouples 1 = .ok (.istore_n 1, 1) := by decide +kernel
theorem dX4_losableCouples_2 : decode cX4_losableCouples 2 = .ok (.aload_n 0, 1) := by decide +kernel
theorem dX4_losableCouples_3 : decode cX4_losableCouples 3 = .ok (.getfield 9, 3) := by decide +kernel
theorem dX4_losableCouples_6 : decode cX4_losableCouples 6 = .ok (.invokevirtual 92, 3) := by decide +kernel
theorem dX4_losableCouples_9 : decode cX4_losableCouples 9 = .ok (.istore_n 2, 1) := by decide +kernel
theorem dX4_losableCouples_10 : decode cX4_losableCouples 10 = .ok (.iconst 0, 1) := by decide +kernel
theorem dX4_losableCouples_11 : decode cX4_losableCouples 11 = .ok (.istore_n 3, 1) := by decide +kernel
theorem dX4_losableCouples_12 : decode cX4_losableCouples 12 = .ok (.iload_n 3, 1) := by decide +kernel
theorem dX4_losableCouples_13 : decode cX4_losableCouples 13 = .ok (.aload_n 0, 1) := by decide +kernel
theorem dX4_losableCouples_14 : decode cX4_losableCouples 14 = .ok (.getfield 21, 3) := by decide +kernel
theorem dX4_losableCouples_17 : decode cX4_losableCouples 17 = .ok (.getfield 85, 3) := by decide +kernel
theorem dX4_losableCouples_20 : decode cX4_losableCouples 20 = .ok (.if_icmp .ge 89, 3) := by decide +kernel
theorem dX4_losableCouples_23 : decode cX4_losableCouples 23 = .ok (.iload_n 3, 1) := by decide +kernel
theorem dX4_losableCouples_24 : decode cX4_losableCouples 24 = .ok (.iconst 1, 1) := by decide +kernel
theorem dX4_losableCouples_25 : decode cX4_losableCouples 25 = .ok (.iadd, 1) := by decide +kernel
theorem dX4_losableCouples_26 : decode cX4_losableCouples 26 = .ok (.istore 4, 2) := by decide +kernel
theorem dX4_losableCouples_28 : decode cX4_losableCouples 28 = .ok (.iload 4, 2) := by decide +kernel
theorem dX4_losableCouples_30 : decode cX4_losableCouples 30 = .ok (.aload_n 0, 1) := by decide +kernel
theorem dX4_losableCouples_31 : decode cX4_losableCouples 31 = .ok (.getfield 21, 3) := by decide +kernel
theorem dX4_losableCouples_34 : decode cX4_losableCouples 34 = .ok (.getfield 85, 3) := by decide +kernel
theorem dX4_losableCouples_37 : decode cX4_losableCouples 37 = .ok (.if_icmp .ge 66, 3) := by decide +kernel
theorem dX4_losableCouples_40 : decode cX4_losableCouples 40 = .ok (.aload_n 0, 1) := by decide +kernel
theorem dX4_losableCouples_41 : decode cX4_losableCouples 41 = .ok (.getfield 9, 3) := by decide +kernel
theorem dX4_losableCouples_44 : decode cX4_losableCouples 44 = .ok (.iload_n 3, 1) := by decide +kernel
theorem dX4_losableCouples_45 : decode cX4_losableCouples 45 = .ok (.iconst 1, 1) := by decide +kernel
theorem dX4_losableCouples_46 : decode cX4_losableCouples 46 = .ok (.invokevirtual 97, 3) := by decide +kernel
theorem dX4_losableCouples_49 : decode cX4_losableCouples 49 = .ok (.ifCond .ne 16, 3) := by decide +kernel
theorem dX4_losableCouples_52 : decode cX4_losableCouples 52 = .ok (.aload_n 0, 1) := by decide +kernel
theorem dX4_losableCouples_53 : decode cX4_losableCouples 53 = .ok (.getfield 9, 3) := by decide +kernel
theorem dX4_losableCouples_56 : decode cX4_losableCouples 56 = .ok (.iload 4, 2) := by decide +kernel
theorem dX4_losableCouples_58 : decode cX4_losableCouples 58 = .ok (.iconst 1, 1) := by decide +kernel
theorem dX4_losableCouples_59 : decode cX4_losableCouples 59 = .ok (.invokevirtual 97, 3) := by decide +kernel
theorem dX4_losableCouples_62 : decode cX4_losableCouples 62 = .ok (.ifCond .eq 7, 3) := by decide +kernel
theorem dX4_losableCouples_65 : decode cX4_losableCouples 65 = .ok (.iconst 1, 1) := by decide +kernel
theorem dX4_losableCouples_66 : decode cX4_losableCouples 66 = .ok (.goto 4, 3) := by decide +kernel
theorem dX4_losableCouples_69 : decode cX4_losableCouples 69 = .ok (.iconst 0, 1) := by decide +kernel
theorem dX4_losableCouples_70 : decode cX4_losableCouples 70 = .ok (.istore 5, 2) := by decide +kernel
theorem dX4_losableCouples_72 : decode cX4_losableCouples 72 = .ok (.iload 5, 2) := by decide +kernel
theorem dX4_losableCouples_74 : decode cX4_losableCouples 74 = .ok (.ifCond .ne 23, 3) := by decide +kernel
theorem dX4_losableCouples_77 : decode cX4_losableCouples 77 = .ok (.iload_n 2, 1) := by decide +kernel
theorem dX4_losableCouples_78 : decode cX4_losableCouples 78 = .ok (.iconst 1, 1) := by decide +kernel
theorem dX4_losableCouples_79 : decode cX4_losableCouples 79 = .ok (.iload_n 3, 1) := by decide +kernel
theorem dX4_losableCouples_80 : decode cX4_losableCouples 80 = .ok (.ishl, 1) := by decide +kernel
theorem dX4_losableCouples_81 : decode cX4_losableCouples 81 = .ok (.ior, 1) := by decide +kernel
theorem dX4_losableCouples_82 : decode cX4_losableCouples 82 = .ok (.iconst 1, 1) := by decide +kernel
theorem dX4_losableCouples_83 : decode cX4_losableCouples 83 = .ok (.iload 4, 2) := by decide +kernel
theorem dX4_losableCouples_85 : decode cX4_losableCouples 85 = .ok (.ishl, 1) := by decide +kernel
theorem dX4_losableCouples_86 : decode cX4_losableCouples 86 = .ok (.ior, 1) := by decide +kernel
theorem dX4_losableCouples_87 : decode cX4_losableCouples 87 = .ok (.invokestatic 42, 3) := by decide +kernel
theorem dX4_losableCouples_90 : decode cX4_losableCouples 90 = .ok (.iconst 2, 1) := by decide +kernel
theorem dX4_losableCouples_91 : decode cX4_losableCouples 91 = .ok (.if_icmp .gt 6, 3) := by decide +kernel
theorem dX4_losableCouples_94 : decode cX4_losableCouples 94 = .ok (.iinc 1 1, 3) := by decide +kernel
theorem dX4_losableCouples_97 : decode cX4_losableCouples 97 = .ok (.iinc 4 1, 3) := by decide +kernel
theorem dX4_losableCouples_100 : decode cX4_losableCouples 100 = .ok (.goto (-72), 3) := by decide +kernel
theorem dX4_losableCouples_103 : decode cX4_losableCouples 103 = .ok (.iinc 3 1, 3) := by decide +kernel
theorem dX4_losableCouples_106 : decode cX4_losableCouples 106 = .ok (.goto (-94), 3) := by decide +kernel
theorem dX4_losableCouples_109 : decode cX4_losableCouples 109 = .ok (.iload_n 1, 1) := by decide +kernel
theorem dX4_losableCouples_110 : decode cX4_losableCouples 110 = .ok (.ireturn, 1) := by decide +kernel
theorem dX4_stripesLeftOf_0 : decode cX4_stripesLeftOf 0 = .ok (.aload_n 0, 1) := by decide +kernel
theorem dX4_stripesLeftOf_1 : decode cX4_stripesLeftOf 1 = .ok (.getfield 21, 3) := by decide +kernel
theorem dX4_stripesLeftOf_4 : decode cX4_stripesLeftOf 4 = .ok (.getfield 101, 3) := by decide +kernel
theorem dX4_stripesLeftOf_7 : decode cX4_stripesLeftOf 7 = .ok (.aload_n 0, 1) := by decide +kernel
theorem dX4_stripesLeftOf_8 : decode cX4_stripesLeftOf 8 = .ok (.getfield 9, 3) := by decide +kernel
theorem dX4_stripesLeftOf_11 : decode cX4_stripesLeftOf 11 = .ok (.getfield 58, 3) := by decide +kernel
theorem dX4_stripesLeftOf_14 : decode cX4_stripesLeftOf 14 = .ok (.bipush 104, 2) := by decide +kernel
theorem dX4_stripesLeftOf_16 : decode cX4_stripesLeftOf 16 = .ok (.iload_n 1, 1) := by decide +kernel
theorem dX4_stripesLeftOf_17 : decode cX4_stripesLeftOf 17 = .ok (.iadd, 1) := by decide +kernel
theorem dX4_stripesLeftOf_18 : decode cX4_stripesLeftOf 18 = .ok (.invokevirtual 104, 3) := by decide +kernel
theorem dX4_stripesLeftOf_21 : decode cX4_stripesLeftOf 21 = .ok (.isub, 1) := by decide +kernel
theorem dX4_stripesLeftOf_22 : decode cX4_stripesLeftOf 22 = .ok (.ireturn, 1) := by decide +kernel
theorem dX4_stripesLeft_0 : decode cX4_stripesLeft 0 = .ok (.iconst 0, 1) := by decide +kernel
theorem dX4_stripesLeft_1 : decode cX4_stripesLeft 1 = .ok (.istore_n 1, 1) := by decide +kernel
theorem dX4_stripesLeft_2 : decode cX4_stripesLeft 2 = .ok (.iconst 0, 1) := by decide +kernel
theorem dX4_stripesLeft_3 : decode cX4_stripesLeft 3 = .ok (.istore_n 2, 1) := by decide +kernel
theorem dX4_stripesLeft_4 : decode cX4_stripesLeft 4 = .ok (.iload_n 2, 1) := by decide +kernel
theorem dX4_stripesLeft_5 : decode cX4_stripesLeft 5 = .ok (.aload_n 0, 1) := by decide +kernel
theorem dX4_stripesLeft_6 : decode cX4_stripesLeft 6 = .ok (.getfield 21, 3) := by decide +kernel
theorem dX4_stripesLeft_9 : decode cX4_stripesLeft 9 = .ok (.getfield 85, 3) := by decide +kernel
theorem dX4_stripesLeft_12 : decode cX4_stripesLeft 12 = .ok (.if_icmp .ge 29, 3) := by decide +kernel
theorem dX4_stripesLeft_15 : decode cX4_stripesLeft 15 = .ok (.aload_n 0, 1) := by decide +kernel
theorem dX4_stripesLeft_16 : decode cX4_stripesLeft 16 = .ok (.getfield 9, 3) := by decide +kernel
theorem dX4_stripesLeft_19 : decode cX4_stripesLeft 19 = .ok (.iload_n 2, 1) := by decide +kernel
theorem dX4_stripesLeft_20 : decode cX4_stripesLeft 20 = .ok (.iconst 2, 1) := by decide +kernel
theorem dX4_stripesLeft_21 : decode cX4_stripesLeft 21 = .ok (.invokevirtual 97, 3) := by decide +kernel
theorem dX4_stripesLeft_24 : decode cX4_stripesLeft 24 = .ok (.ifCond .eq 11, 3) := by decide +kernel
theorem dX4_stripesLeft_27 : decode cX4_stripesLeft 27 = .ok (.iload_n 1, 1) := by decide +kernel
theorem dX4_stripesLeft_28 : decode cX4_stripesLeft 28 = .ok (.aload_n 0, 1) := by decide +kernel
theorem dX4_stripesLeft_29 : decode cX4_stripesLeft 29 = .ok (.iload_n 2, 1) := by decide +kernel
theorem dX4_stripesLeft_30 : decode cX4_stripesLeft 30 = .ok (.invokevirtual 105, 3) := by decide +kernel
theorem dX4_stripesLeft_33 : decode cX4_stripesLeft 33 = .ok (.iadd, 1) := by decide +kernel
theorem dX4_stripesLeft_34 : decode cX4_stripesLeft 34 = .ok (.istore_n 1, 1) := by decide +kernel
theorem dX4_stripesLeft_35 : decode cX4_stripesLeft 35 = .ok (.iinc 2 1, 3) := by decide +kernel
theorem dX4_stripesLeft_38 : decode cX4_stripesLeft 38 = .ok (.goto (-34), 3) := by decide +kernel
theorem dX4_stripesLeft_41 : decode cX4_stripesLeft 41 = .ok (.iload_n 1, 1) := by decide +kernel
theorem dX4_stripesLeft_42 : decode cX4_stripesLeft 42 = .ok (.ireturn, 1) := by decide +kernel
theorem dX4_readsTillWhole_0 : decode cX4_readsTillWhole 0 = .ok (.iconst 0, 1) := by decide +kernel
theorem dX4_readsTillWhole_1 : decode cX4_readsTillWhole 1 = .ok (.istore_n 3, 1) := by decide +kernel
theorem dX4_readsTillWhole_2 : decode cX4_readsTillWhole 2 = .ok (.aload_n 0, 1) := by decide +kernel
theorem dX4_readsTillWhole_3 : decode cX4_readsTillWhole 3 = .ok (.getfield 9, 3) := by decide +kernel
theorem dX4_readsTillWhole_6 : decode cX4_readsTillWhole 6 = .ok (.getfield 58, 3) := by decide +kernel
theorem dX4_readsTillWhole_9 : decode cX4_readsTillWhole 9 = .ok (.bipush 104, 2) := by decide +kernel
theorem dX4_readsTillWhole_11 : decode cX4_readsTillWhole 11 = .ok (.iload_n 1, 1) := by decide +kernel
theorem dX4_readsTillWhole_12 : decode cX4_readsTillWhole 12 = .ok (.iadd, 1) := by decide +kernel
theorem dX4_readsTillWhole_13 : decode cX4_readsTillWhole 13 = .ok (.invokevirtual 104, 3) := by decide +kernel
theorem dX4_readsTillWhole_16 : decode cX4_readsTillWhole 16 = .ok (.istore 4, 2) := by decide +kernel
theorem dX4_readsTillWhole_18 : decode cX4_readsTillWhole 18 = .ok (.iload 4, 2) := by decide +kernel
theorem dX4_readsTillWhole_20 : decode cX4_readsTillWhole 20 = .ok (.aload_n 0, 1) := by decide +kernel
theorem dX4_readsTillWhole_21 : decode cX4_readsTillWhole 21 = .ok (.getfield 21, 3) := by decide +kernel
theorem dX4_readsTillWhole_24 : decode cX4_readsTillWhole 24 = .ok (.getfield 101, 3) := by decide +kernel
theorem dX4_readsTillWhole_27 : decode cX4_readsTillWhole 27 = .ok (.if_icmp .ge 56, 3) := by decide +kernel
theorem dX4_readsTillWhole_30 : decode cX4_readsTillWhole 30 = .ok (.iconst 0, 1) := by decide +kernel
theorem dX4_readsTillWhole_31 : decode cX4_readsTillWhole 31 = .ok (.istore 5, 2) := by decide +kernel
theorem dX4_readsTillWhole_33 : decode cX4_readsTillWhole 33 = .ok (.iload 5, 2) := by decide +kernel
theorem dX4_readsTillWhole_35 : decode cX4_readsTillWhole 35 = .ok (.aload_n 0, 1) := by decide +kernel
theorem dX4_readsTillWhole_36 : decode cX4_readsTillWhole 36 = .ok (.getfield 21, 3) := by decide +kernel
theorem dX4_readsTillWhole_39 : decode cX4_readsTillWhole 39 = .ok (.getfield 85, 3) := by decide +kernel
theorem dX4_readsTillWhole_42 : decode cX4_readsTillWhole 42 = .ok (.if_icmp .ge 35, 3) := by decide +kernel
theorem dX4_readsTillWhole_45 : decode cX4_readsTillWhole 45 = .ok (.aload_n 0, 1) := by decide +kernel
theorem dX4_readsTillWhole_46 : decode cX4_readsTillWhole 46 = .ok (.getfield 9, 3) := by decide +kernel
theorem dX4_readsTillWhole_49 : decode cX4_readsTillWhole 49 = .ok (.iload 5, 2) := by decide +kernel
theorem dX4_readsTillWhole_51 : decode cX4_readsTillWhole 51 = .ok (.iload 4, 2) := by decide +kernel
theorem dX4_readsTillWhole_53 : decode cX4_readsTillWhole 53 = .ok (.invokevirtual 111, 3) := by decide +kernel
theorem dX4_readsTillWhole_56 : decode cX4_readsTillWhole 56 = .ok (.ifCond .ne 12, 3) := by decide +kernel
theorem dX4_readsTillWhole_59 : decode cX4_readsTillWhole 59 = .ok (.iload_n 2, 1) := by decide +kernel
theorem dX4_readsTillWhole_60 : decode cX4_readsTillWhole 60 = .ok (.iload 5, 2) := by decide +kernel
theorem dX4_readsTillWhole_62 : decode cX4_readsTillWhole 62 = .ok (.ishr, 1) := by decide +kernel
theorem dX4_readsTillWhole_63 : decode cX4_readsTillWhole 63 = .ok (.iconst 1, 1) := by decide +kernel
theorem dX4_readsTillWhole_64 : decode cX4_readsTillWhole 64 = .ok (.iand, 1) := by decide +kernel
theorem dX4_readsTillWhole_65 : decode cX4_readsTillWhole 65 = .ok (.ifCond .eq 6, 3) := by decide +kernel
theorem dX4_readsTillWhole_68 : decode cX4_readsTillWhole 68 = .ok (.iinc 3 1, 3) := by decide +kernel
theorem dX4_readsTillWhole_71 : decode cX4_readsTillWhole 71 = .ok (.iinc 5 1, 3) := by decide +kernel
theorem dX4_readsTillWhole_74 : decode cX4_readsTillWhole 74 = .ok (.goto (-41), 3) := by decide +kernel
theorem dX4_readsTillWhole_77 : decode cX4_readsTillWhole 77 = .ok (.iinc 4 1, 3) := by decide +kernel
theorem dX4_readsTillWhole_80 : decode cX4_readsTillWhole 80 = .ok (.goto (-62), 3) := by decide +kernel
theorem dX4_readsTillWhole_83 : decode cX4_readsTillWhole 83 = .ok (.iload_n 3, 1) := by decide +kernel
theorem dX4_readsTillWhole_84 : decode cX4_readsTillWhole 84 = .ok (.aload_n 0, 1) := by decide +kernel
theorem dX4_readsTillWhole_85 : decode cX4_readsTillWhole 85 = .ok (.getfield 21, 3) := by decide +kernel
theorem dX4_readsTillWhole_88 : decode cX4_readsTillWhole 88 = .ok (.getfield 114, 3) := by decide +kernel
theorem dX4_readsTillWhole_91 : decode cX4_readsTillWhole 91 = .ok (.imul, 1) := by decide +kernel
theorem dX4_readsTillWhole_92 : decode cX4_readsTillWhole 92 = .ok (.ireturn, 1) := by decide +kernel
theorem dX4_readsLeft_0 : decode cX4_readsLeft 0 = .ok (.iconst 0, 1) := by decide +kernel
theorem dX4_readsLeft_1 : decode cX4_readsLeft 1 = .ok (.istore_n 1, 1) := by decide +kernel
theorem dX4_readsLeft_2 : decode cX4_readsLeft 2 = .ok (.iconst 0, 1) := by decide +kernel
theorem dX4_readsLeft_3 : decode cX4_readsLeft 3 = .ok (.istore_n 2, 1) := by decide +kernel
theorem dX4_readsLeft_4 : decode cX4_readsLeft 4 = .ok (.iconst 0, 1) := by decide +kernel
theorem dX4_readsLeft_5 : decode cX4_readsLeft 5 = .ok (.istore_n 3, 1) := by decide +kernel
theorem dX4_readsLeft_6 : decode cX4_readsLeft 6 = .ok (.iload_n 3, 1) := by decide +kernel
theorem dX4_readsLeft_7 : decode cX4_readsLeft 7 = .ok (.aload_n 0, 1) := by decide +kernel
theorem dX4_readsLeft_8 : decode cX4_readsLeft 8 = .ok (.getfield 21, 3) := by decide +kernel
theorem dX4_readsLeft_11 : decode cX4_readsLeft 11 = .ok (.getfield 85, 3) := by decide +kernel
theorem dX4_readsLeft_14 : decode cX4_readsLeft 14 = .ok (.if_icmp .ge 36, 3) := by decide +kernel
theorem dX4_readsLeft_17 : decode cX4_readsLeft 17 = .ok (.aload_n 0, 1) := by decide +kernel
theorem dX4_readsLeft_18 : decode cX4_readsLeft 18 = .ok (.getfield 9, 3) := by decide +kernel
theorem dX4_readsLeft_21 : decode cX4_readsLeft 21 = .ok (.iload_n 3, 1) := by decide +kernel
theorem dX4_readsLeft_22 : decode cX4_readsLeft 22 = .ok (.iconst 2, 1) := by decide +kernel
theorem dX4_readsLeft_23 : decode cX4_readsLeft 23 = .ok (.invokevirtual 97, 3) := by decide +kernel
theorem dX4_readsLeft_26 : decode cX4_readsLeft 26 = .ok (.ifCond .eq 18, 3) := by decide +kernel
theorem dX4_readsLeft_29 : decode cX4_readsLeft 29 = .ok (.iload_n 1, 1) := by decide +kernel
theorem dX4_readsLeft_30 : decode cX4_readsLeft 30 = .ok (.aload_n 0, 1) := by decide +kernel
theorem dX4_readsLeft_31 : decode cX4_readsLeft 31 = .ok (.iload_n 3, 1) := by decide +kernel
theorem dX4_readsLeft_32 : decode cX4_readsLeft 32 = .ok (.iload_n 2, 1) := by decide +kernel
theorem dX4_readsLeft_33 : decode cX4_readsLeft 33 = .ok (.invokevirtual 108, 3) := by decide +kernel
theorem dX4_readsLeft_36 : decode cX4_readsLeft 36 = .ok (.iadd, 1) := by decide +kernel
theorem dX4_readsLeft_37 : decode cX4_readsLeft 37 = .ok (.istore_n 1, 1) := by decide +kernel
theorem dX4_readsLeft_38 : decode cX4_readsLeft 38 = .ok (.iload_n 2, 1) := by decide +kernel
theorem dX4_readsLeft_39 : decode cX4_readsLeft 39 = .ok (.iconst 1, 1) := by decide +kernel
theorem dX4_readsLeft_40 : decode cX4_readsLeft 40 = .ok (.iload_n 3, 1) := by decide +kernel
theorem dX4_readsLeft_41 : decode cX4_readsLeft 41 = .ok (.ishl, 1) := by decide +kernel
theorem dX4_readsLeft_42 : decode cX4_readsLeft 42 = .ok (.ior, 1) := by decide +kernel
theorem dX4_readsLeft_43 : decode cX4_readsLeft 43 = .ok (.istore_n 2, 1) := by decide +kernel
theorem dX4_readsLeft_44 : decode cX4_readsLeft 44 = .ok (.iinc 3 1, 3) := by decide +kernel
theorem dX4_readsLeft_47 : decode cX4_readsLeft 47 = .ok (.goto (-41), 3) := by decide +kernel
theorem dX4_readsLeft_50 : decode cX4_readsLeft 50 = .ok (.iload_n 1, 1) := by decide +kernel
theorem dX4_readsLeft_51 : decode cX4_readsLeft 51 = .ok (.ireturn, 1) := by decide +kernel
theorem dX4_nearestWhole_0 : decode cX4_nearestWhole 0 = .ok (.iconst (-1), 1) := by decide +kernel
theorem dX4_nearestWhole_1 : decode cX4_nearestWhole 1 = .ok (.istore_n 2, 1) := by decide +kernel
theorem dX4_nearestWhole_2 : decode cX4_nearestWhole 2 = .ok (.iconst 0, 1) := by decide +kernel
theorem dX4_nearestWhole_3 : decode cX4_nearestWhole 3 = .ok (.istore_n 3, 1) := by decide +kernel
theorem dX4_nearestWhole_4 : decode cX4_nearestWhole 4 = .ok (.iload_n 3, 1) := by decide +kernel
theorem dX4_nearestWhole_5 : decode cX4_nearestWhole 5 = .ok (.aload_n 0, 1) := by decide +kernel
theorem dX4_nearestWhole_6 : decode cX4_nearestWhole 6 = .ok (.getfield 21, 3) := by decide +kernel
theorem dX4_nearestWhole_9 : decode cX4_nearestWhole 9 = .ok (.getfield 85, 3) := by decide +kernel
theorem dX4_nearestWhole_12 : decode cX4_nearestWhole 12 = .ok (.if_icmp .ge 53, 3) := by decide +kernel
theorem dX4_nearestWhole_15 : decode cX4_nearestWhole 15 = .ok (.iload_n 2, 1) := by decide +kernel
theorem dX4_nearestWhole_16 : decode cX4_nearestWhole 16 = .ok (.iconst (-1), 1) := by decide +kernel
theorem dX4_nearestWhole_17 : decode cX4_nearestWhole 17 = .ok (.if_icmp .eq 16, 3) := by decide +kernel
theorem dX4_nearestWhole_20 : decode cX4_nearestWhole 20 = .ok (.aload_n 0, 1) := by decide +kernel
theorem dX4_nearestWhole_21 : decode cX4_nearestWhole 21 = .ok (.iload_n 3, 1) := by decide +kernel
theorem dX4_nearestWhole_22 : decode cX4_nearestWhole 22 = .ok (.invokevirtual 105, 3) := by decide +kernel
theorem dX4_nearestWhole_25 : decode cX4_nearestWhole 25 = .ok (.aload_n 0, 1) := by decide +kernel
theorem dX4_nearestWhole_26 : decode cX4_nearestWhole 26 = .ok (.iload_n 2, 1) := by decide +kernel
theorem dX4_nearestWhole_27 : decode cX4_nearestWhole 27 = .ok (.invokevirtual 105, 3) := by decide +kernel
theorem dX4_nearestWhole_30 : decode cX4_nearestWhole 30 = .ok (.if_icmp .ge 7, 3) := by decide +kernel
theorem dX4_nearestWhole_33 : decode cX4_nearestWhole 33 = .ok (.iconst 1, 1) := by decide +kernel
theorem dX4_nearestWhole_34 : decode cX4_nearestWhole 34 = .ok (.goto 4, 3) := by decide +kernel
theorem dX4_nearestWhole_37 : decode cX4_nearestWhole 37 = .ok (.iconst 0, 1) := by decide +kernel
theorem dX4_nearestWhole_38 : decode cX4_nearestWhole 38 = .ok (.istore 4, 2) := by decide +kernel
theorem dX4_nearestWhole_40 : decode cX4_nearestWhole 40 = .ok (.aload_n 0, 1) := by decide +kernel
theorem dX4_nearestWhole_41 : decode cX4_nearestWhole 41 = .ok (.getfield 9, 3) := by decide +kernel
theorem dX4_nearestWhole_44 : decode cX4_nearestWhole 44 = .ok (.iload_n 3, 1) := by decide +kernel
theorem dX4_nearestWhole_45 : decode cX4_nearestWhole 45 = .ok (.iconst 2, 1) := by decide +kernel
theorem dX4_nearestWhole_46 : decode cX4_nearestWhole 46 = .ok (.invokevirtual 97, 3) := by decide +kernel
theorem dX4_nearestWhole_49 : decode cX4_nearestWhole 49 = .ok (.ifCond .eq 10, 3) := by decide +kernel
theorem dX4_nearestWhole_52 : decode cX4_nearestWhole 52 = .ok (.iload 4, 2) := by decide +kernel
theorem dX4_nearestWhole_54 : decode cX4_nearestWhole 54 = .ok (.ifCond .eq 5, 3) := by decide +kernel
theorem dX4_nearestWhole_57 : decode cX4_nearestWhole 57 = .ok (.iload_n 3, 1) := by decide +kernel
theorem dX4_nearestWhole_58 : decode cX4_nearestWhole 58 = .ok (.istore_n 2, 1) := by decide +kernel
theorem dX4_nearestWhole_59 : decode cX4_nearestWhole 59 = .ok (.iinc 3 1, 3) := by decide +kernel
theorem dX4_nearestWhole_62 : decode cX4_nearestWhole 62 = .ok (.goto (-58), 3) := by decide +kernel
theorem dX4_nearestWhole_65 : decode cX4_nearestWhole 65 = .ok (.iload_n 2, 1) := by decide +kernel
theorem dX4_nearestWhole_66 : decode cX4_nearestWhole 66 = .ok (.iconst (-1), 1) := by decide +kernel
theorem dX4_nearestWhole_67 : decode cX4_nearestWhole 67 = .ok (.if_icmp .eq 7, 3) := by decide +kernel
theorem dX4_nearestWhole_70 : decode cX4_nearestWhole 70 = .ok (.iload_n 1, 1) := by decide +kernel
theorem dX4_nearestWhole_71 : decode cX4_nearestWhole 71 = .ok (.ifCond .ne 5, 3) := by decide +kernel
theorem dX4_nearestWhole_74 : decode cX4_nearestWhole 74 = .ok (.iload_n 2, 1) := by decide +kernel
theorem dX4_nearestWhole_75 : decode cX4_nearestWhole 75 = .ok (.ireturn, 1) := by decide +kernel
theorem dX4_nearestWhole_76 : decode cX4_nearestWhole 76 = .ok (.iload_n 1, 1) := by decide +kernel
theorem dX4_nearestWhole_77 : decode cX4_nearestWhole 77 = .ok (.iconst 1, 1) := by decide +kernel
theorem dX4_nearestWhole_78 : decode cX4_nearestWhole 78 = .ok (.if_icmp .ne 9, 3) := by decide +kernel
theorem dX4_nearestWhole_81 : decode cX4_nearestWhole 81 = .ok (.aload_n 0, 1) := by decide +kernel
theorem dX4_nearestWhole_82 : decode cX4_nearestWhole 82 = .ok (.iload_n 2, 1) := by decide +kernel
theorem dX4_nearestWhole_83 : decode cX4_nearestWhole 83 = .ok (.invokevirtual 105, 3) := by decide +kernel
theorem dX4_nearestWhole_86 : decode cX4_nearestWhole 86 = .ok (.ireturn, 1) := by decide +kernel
theorem dX4_nearestWhole_87 : decode cX4_nearestWhole 87 = .ok (.iload_n 1, 1) := by decide +kernel
theorem dX4_nearestWhole_88 : decode cX4_nearestWhole 88 = .ok (.iconst 2, 1) := by decide +kernel
theorem dX4_nearestWhole_89 : decode cX4_nearestWhole 89 = .ok (.if_icmp .ne 12, 3) := by decide +kernel
theorem dX4_nearestWhole_92 : decode cX4_nearestWhole 92 = .ok (.aload_n 0, 1) := by decide +kernel
theorem dX4_nearestWhole_93 : decode cX4_nearestWhole 93 = .ok (.iload_n 2, 1) := by decide +kernel
theorem dX4_nearestWhole_94 : decode cX4_nearestWhole 94 = .ok (.iconst 0, 1) := by decide +kernel
theorem dX4_nearestWhole_95 : decode cX4_nearestWhole 95 = .ok (.invokevirtual 108, 3) := by decide +kernel
theorem dX4_nearestWhole_98 : decode cX4_nearestWhole 98 = .ok (.goto 4, 3) := by decide +kernel
theorem dX4_nearestWhole_101 : decode cX4_nearestWhole 101 = .ok (.iconst (-1), 1) := by decide +kernel
theorem dX4_nearestWhole_102 : decode cX4_nearestWhole 102 = .ok (.ireturn, 1) := by decide +kernel
theorem dX4_isRight_0 : decode cX4_isRight 0 = .ok (.iconst 0, 1) := by decide +kernel
theorem dX4_isRight_1 : decode cX4_isRight 1 = .ok (.istore_n 2, 1) := by decide +kernel
theorem dX4_isRight_2 : decode cX4_isRight 2 = .ok (.iload_n 2, 1) := by decide +kernel
theorem dX4_isRight_3 : decode cX4_isRight 3 = .ok (.aload_n 0, 1) := by decide +kernel
theorem dX4_isRight_4 : decode cX4_isRight 4 = .ok (.getfield 21, 3) := by decide +kernel
theorem dX4_isRight_7 : decode cX4_isRight 7 = .ok (.getfield 114, 3) := by decide +kernel
theorem dX4_isRight_10 : decode cX4_isRight 10 = .ok (.if_icmp .ge 45, 3) := by decide +kernel
theorem dX4_isRight_13 : decode cX4_isRight 13 = .ok (.aload_n 0, 1) := by decide +kernel
theorem dX4_isRight_14 : decode cX4_isRight 14 = .ok (.getfield 9, 3) := by decide +kernel
theorem dX4_isRight_17 : decode cX4_isRight 17 = .ok (.getfield 54, 3) := by decide +kernel
theorem dX4_isRight_20 : decode cX4_isRight 20 = .ok (.aload_n 0, 1) := by decide +kernel
theorem dX4_isRight_21 : decode cX4_isRight 21 = .ok (.getfield 9, 3) := by decide +kernel
theorem dX4_isRight_24 : decode cX4_isRight 24 = .ok (.getfield 58, 3) := by decide +kernel
theorem dX4_isRight_27 : decode cX4_isRight 27 = .ok (.iload_n 1, 1) := by decide +kernel
theorem dX4_isRight_28 : decode cX4_isRight 28 = .ok (.iload_n 2, 1) := by decide +kernel
theorem dX4_isRight_29 : decode cX4_isRight 29 = .ok (.iconst 0, 1) := by decide +kernel
theorem dX4_isRight_30 : decode cX4_isRight 30 = .ok (.invokevirtual 75, 3) := by decide +kernel
theorem dX4_isRight_33 : decode cX4_isRight 33 = .ok (.aload_n 0, 1) := by decide +kernel
theorem dX4_isRight_34 : decode cX4_isRight 34 = .ok (.getfield 9, 3) := by decide +kernel
theorem dX4_isRight_37 : decode cX4_isRight 37 = .ok (.getfield 54, 3) := by decide +kernel
theorem dX4_isRight_40 : decode cX4_isRight 40 = .ok (.invokevirtual 78, 3) := by decide +kernel
theorem dX4_isRight_43 : decode cX4_isRight 43 = .ok (.iconst (-1), 1) := by decide +kernel
theorem dX4_isRight_44 : decode cX4_isRight 44 = .ok (.if_icmp .eq 5, 3) := by decide +kernel
theorem dX4_isRight_47 : decode cX4_isRight 47 = .ok (.iconst 0, 1) := by decide +kernel
theorem dX4_isRight_48 : decode cX4_isRight 48 = .ok (.ireturn, 1) := by decide +kernel
theorem dX4_isRight_49 : decode cX4_isRight 49 = .ok (.iinc 2 1, 3) := by decide +kernel
theorem dX4_isRight_52 : decode cX4_isRight 52 = .ok (.goto (-50), 3) := by decide +kernel
theorem dX4_isRight_55 : decode cX4_isRight 55 = .ok (.iconst 1, 1) := by decide +kernel
theorem dX4_isRight_56 : decode cX4_isRight 56 = .ok (.ireturn, 1) := by decide +kernel
theorem dX4_fitStripes_0 : decode cX4_fitStripes 0 = .ok (.iconst 0, 1) := by decide +kernel
theorem dX4_fitStripes_1 : decode cX4_fitStripes 1 = .ok (.istore_n 1, 1) := by decide +kernel
theorem dX4_fitStripes_2 : decode cX4_fitStripes 2 = .ok (.iconst 0, 1) := by decide +kernel
theorem dX4_fitStripes_3 : decode cX4_fitStripes 3 = .ok (.istore_n 2, 1) := by decide +kernel
theorem dX4_fitStripes_4 : decode cX4_fitStripes 4 = .ok (.iload_n 2, 1) := by decide +kernel
theorem dX4_fitStripes_5 : decode cX4_fitStripes 5 = .ok (.aload_n 0, 1) := by decide +kernel
theorem dX4_fitStripes_6 : decode cX4_fitStripes 6 = .ok (.getfield 21, 3) := by decide +kernel
theorem dX4_fitStripes_9 : decode cX4_fitStripes 9 = .ok (.getfield 101, 3) := by decide +kernel
theorem dX4_fitStripes_12 : decode cX4_fitStripes 12 = .ok (.if_icmp .ge 34, 3) := by decide +kernel
theorem dX4_fitStripes_15 : decode cX4_fitStripes 15 = .ok (.aload_n 0, 1) := by decide +kernel
theorem dX4_fitStripes_16 : decode cX4_fitStripes 16 = .ok (.getfield 9, 3) := by decide +kernel
theorem dX4_fitStripes_19 : decode cX4_fitStripes 19 = .ok (.iload_n 2, 1) := by decide +kernel
theorem dX4_fitStripes_20 : decode cX4_fitStripes 20 = .ok (.invokevirtual 31, 3) := by decide +kernel
theorem dX4_fitStripes_23 : decode cX4_fitStripes 23 = .ok (.ifCond .ne 17, 3) := by decide +kernel
theorem dX4_fitStripes_26 : decode cX4_fitStripes 26 = .ok (.aload_n 0, 1) := by decide +kernel
theorem dX4_fitStripes_27 : decode cX4_fitStripes 27 = .ok (.iload_n 2, 1) := by decide +kernel
theorem dX4_fitStripes_28 : decode cX4_fitStripes 28 = .ok (.invokevirtual 117, 3) := by decide +kernel
theorem dX4_fitStripes_31 : decode cX4_fitStripes 31 = .ok (.ifCond .eq 9, 3) := by decide +kernel
theorem dX4_fitStripes_34 : decode cX4_fitStripes 34 = .ok (.iload_n 1, 1) := by decide +kernel
theorem dX4_fitStripes_35 : decode cX4_fitStripes 35 = .ok (.iconst 1, 1) := by decide +kernel
theorem dX4_fitStripes_36 : decode cX4_fitStripes 36 = .ok (.iload_n 2, 1) := by decide +kernel
theorem dX4_fitStripes_37 : decode cX4_fitStripes 37 = .ok (.ishl, 1) := by decide +kernel
theorem dX4_fitStripes_38 : decode cX4_fitStripes 38 = .ok (.ior, 1) := by decide +kernel
theorem dX4_fitStripes_39 : decode cX4_fitStripes 39 = .ok (.istore_n 1, 1) := by decide +kernel
theorem dX4_fitStripes_40 : decode cX4_fitStripes 40 = .ok (.iinc 2 1, 3) := by decide +kernel
theorem dX4_fitStripes_43 : decode cX4_fitStripes 43 = .ok (.goto (-39), 3) := by decide +kernel
theorem dX4_fitStripes_46 : decode cX4_fitStripes 46 = .ok (.iload_n 1, 1) := by decide +kernel
theorem dX4_fitStripes_47 : decode cX4_fitStripes 47 = .ok (.ireturn, 1) := by decide +kernel
theorem dX6_byteOf_0 : decode cX6_byteOf 0 = .ok (.aload_n 0, 1) := by decide +kernel
theorem dX6_byteOf_1 : decode cX6_byteOf 1 = .ok (.getfield 16, 3) := by decide +kernel
theorem dX6_byteOf_4 : decode cX6_byteOf 4 = .ok (.iconst 1, 1) := by decide +kernel
theorem dX6_byteOf_5 : decode cX6_byteOf 5 = .ok (.if_icmp .ge 7, 3) := by decide +kernel
theorem dX6_byteOf_8 : decode cX6_byteOf 8 = .ok (.iconst 0, 1) := by decide +kernel
theorem dX6_byteOf_9 : decode cX6_byteOf 9 = .ok (.goto 9, 3) := by decide +kernel
theorem dX6_byteOf_12 : decode cX6_byteOf 12 = .ok (.iload_n 1, 1) := by decide +kernel
theorem dX6_byteOf_13 : decode cX6_byteOf 13 = .ok (.aload_n 0, 1) := by decide +kernel
theorem dX6_byteOf_14 : decode cX6_byteOf 14 = .ok (.getfield 16, 3) := by decide +kernel
theorem dX6_byteOf_17 : decode cX6_byteOf 17 = .ok (.irem, 1) := by decide +kernel
theorem dX6_byteOf_18 : decode cX6_byteOf 18 = .ok (.ireturn, 1) := by decide +kernel
theorem dX8_byteRead_0 : decode cX8_byteRead 0 = .ok (.aload_n 0, 1) := by decide +kernel
theorem dX8_byteRead_1 : decode cX8_byteRead 1 = .ok (.getfield 18, 3) := by decide +kernel
theorem dX8_byteRead_4 : decode cX8_byteRead 4 = .ok (.iload_n 1, 1) := by decide +kernel
theorem dX8_byteRead_5 : decode cX8_byteRead 5 = .ok (.invokevirtual 61, 3) := by decide +kernel
theorem dX8_byteRead_8 : decode cX8_byteRead 8 = .ok (.istore_n 2, 1) := by decide +kernel
theorem dX8_byteRead_9 : decode cX8_byteRead 9 = .ok (.aload_n 0, 1) := by decide +kernel
theorem dX8_byteRead_10 : decode cX8_byteRead 10 = .ok (.getfield 27, 3) := by decide +kernel
theorem dX8_byteRead_13 : decode cX8_byteRead 13 = .ok (.aload_n 0, 1) := by decide +kernel
theorem dX8_byteRead_14 : decode cX8_byteRead 14 = .ok (.getfield 12, 3) := by decide +kernel
theorem dX8_byteRead_17 : decode cX8_byteRead 17 = .ok (.iload_n 2, 1) := by decide +kernel
theorem dX8_byteRead_18 : decode cX8_byteRead 18 = .ok (.aload_n 0, 1) := by decide +kernel
theorem dX8_byteRead_19 : decode cX8_byteRead 19 = .ok (.getfield 18, 3) := by decide +kernel
theorem dX8_byteRead_22 : decode cX8_byteRead 22 = .ok (.iload_n 1, 1) := by decide +kernel
theorem dX8_byteRead_23 : decode cX8_byteRead 23 = .ok (.invokevirtual 64, 3) := by decide +kernel
theorem dX8_byteRead_26 : decode cX8_byteRead 26 = .ok (.aload_n 0, 1) := by decide +kernel
theorem dX8_byteRead_27 : decode cX8_byteRead 27 = .ok (.iload_n 2, 1) := by decide +kernel
theorem dX8_byteRead_28 : decode cX8_byteRead 28 = .ok (.invokevirtual 67, 3) := by decide +kernel
theorem dX8_byteRead_31 : decode cX8_byteRead 31 = .ok (.invokevirtual 70, 3) := by decide +kernel
theorem dX8_byteRead_34 : decode cX8_byteRead 34 = .ok (.aload_n 0, 1) := by decide +kernel
theorem dX8_byteRead_35 : decode cX8_byteRead 35 = .ok (.getfield 27, 3) := by decide +kernel
theorem dX8_byteRead_38 : decode cX8_byteRead 38 = .ok (.aload_n 0, 1) := by decide +kernel
theorem dX8_byteRead_39 : decode cX8_byteRead 39 = .ok (.getfield 18, 3) := by decide +kernel
theorem dX8_byteRead_42 : decode cX8_byteRead 42 = .ok (.iload_n 1, 1) := by decide +kernel
theorem dX8_byteRead_43 : decode cX8_byteRead 43 = .ok (.invokevirtual 74, 3) := by decide +kernel
theorem dX8_byteRead_46 : decode cX8_byteRead 46 = .ok (.invokevirtual 77, 3) := by decide +kernel
theorem dX8_byteRead_49 : decode cX8_byteRead 49 = .ok (.ireturn, 1) := by decide +kernel
theorem dX5_mend_0 : decode cX5_mend 0 = .ok (.iload_n 1, 1) := by decide +kernel
theorem dX5_mend_1 : decode cX5_mend 1 = .ok (.aload_n 0, 1) := by decide +kernel
theorem dX5_mend_2 : decode cX5_mend 2 = .ok (.getfield 17, 3) := by decide +kernel
theorem dX5_mend_5 : decode cX5_mend 5 = .ok (.getfield 61, 3) := by decide +kernel
theorem dX5_mend_8 : decode cX5_mend 8 = .ok (.if_icmp .ne 24, 3) := by decide +kernel
theorem dX5_mend_11 : decode cX5_mend 11 = .ok (.aload_n 0, 1) := by decide +kernel
theorem dX5_mend_12 : decode cX5_mend 12 = .ok (.getfield 21, 3) := by decide +kernel
theorem dX5_mend_15 : decode cX5_mend 15 = .ok (.aload_n 0, 1) := by decide +kernel
theorem dX5_mend_16 : decode cX5_mend 16 = .ok (.getfield 11, 3) := by decide +kernel
theorem dX5_mend_19 : decode cX5_mend 19 = .ok (.aload_n 0, 1) := by decide +kernel
theorem dX5_mend_20 : decode cX5_mend 20 = .ok (.getfield 17, 3) := by decide +kernel
theorem dX5_mend_23 : decode cX5_mend 23 = .ok (.getfield 64, 3) := by decide +kernel
theorem dX5_mend_26 : decode cX5_mend 26 = .ok (.invokevirtual 67, 3) := by decide +kernel
theorem dX5_mend_29 : decode cX5_mend 29 = .ok (.goto 7, 3) := by decide +kernel
theorem dX5_mend_32 : decode cX5_mend 32 = .ok (.aload_n 0, 1) := by decide +kernel
theorem dX5_mend_33 : decode cX5_mend 33 = .ok (.invokevirtual 53, 3) := by decide +kernel
theorem dX5_mend_36 : decode cX5_mend 36 = .ok (.istore_n 2, 1) := by decide +kernel
theorem dX5_mend_37 : decode cX5_mend 37 = .ok (.iload_n 1, 1) := by decide +kernel
theorem dX5_mend_38 : decode cX5_mend 38 = .ok (.aload_n 0, 1) := by decide +kernel
theorem dX5_mend_39 : decode cX5_mend 39 = .ok (.getfield 17, 3) := by decide +kernel
theorem dX5_mend_42 : decode cX5_mend 42 = .ok (.getfield 61, 3) := by decide +kernel
theorem dX5_mend_45 : decode cX5_mend 45 = .ok (.if_icmp .ne 17, 3) := by decide +kernel
theorem dX5_mend_48 : decode cX5_mend 48 = .ok (.aload_n 0, 1) := by decide +kernel
theorem dX5_mend_49 : decode cX5_mend 49 = .ok (.aload_n 0, 1) := by decide +kernel
theorem dX5_mend_50 : decode cX5_mend 50 = .ok (.getfield 17, 3) := by decide +kernel
theorem dX5_mend_53 : decode cX5_mend 53 = .ok (.getfield 61, 3) := by decide +kernel
theorem dX5_mend_56 : decode cX5_mend 56 = .ok (.invokevirtual 85, 3) := by decide +kernel
theorem dX5_mend_59 : decode cX5_mend 59 = .ok (.goto 14, 3) := by decide +kernel
theorem dX5_mend_62 : decode cX5_mend 62 = .ok (.aload_n 0, 1) := by decide +kernel
theorem dX5_mend_63 : decode cX5_mend 63 = .ok (.aload_n 0, 1) := by decide +kernel
theorem dX5_mend_64 : decode cX5_mend 64 = .ok (.getfield 17, 3) := by decide +kernel
theorem dX5_mend_67 : decode cX5_mend 67 = .ok (.getfield 46, 3) := by decide +kernel
theorem dX5_mend_70 : decode cX5_mend 70 = .ok (.invokevirtual 85, 3) := by decide +kernel
theorem dX5_mend_73 : decode cX5_mend 73 = .ok (.istore_n 3, 1) := by decide +kernel
theorem dX5_mend_74 : decode cX5_mend 74 = .ok (.aload_n 0, 1) := by decide +kernel
theorem dX5_mend_75 : decode cX5_mend 75 = .ok (.iload_n 1, 1) := by decide +kernel
theorem dX5_mend_76 : decode cX5_mend 76 = .ok (.aload_n 0, 1) := by decide +kernel
theorem dX5_mend_77 : decode cX5_mend 77 = .ok (.iload_n 1, 1) := by decide +kernel
theorem dX5_mend_78 : decode cX5_mend 78 = .ok (.invokevirtual 85, 3) := by decide +kernel
theorem dX5_mend_81 : decode cX5_mend 81 = .ok (.iload_n 2, 1) := by decide +kernel
theorem dX5_mend_82 : decode cX5_mend 82 = .ok (.ixor, 1) := by decide +kernel
theorem dX5_mend_83 : decode cX5_mend 83 = .ok (.iload_n 3, 1) := by decide +kernel
theorem dX5_mend_84 : decode cX5_mend 84 = .ok (.ixor, 1) := by decide +kernel
theorem dX5_mend_85 : decode cX5_mend 85 = .ok (.invokevirtual 57, 3) := by decide +kernel
theorem dX5_mend_88 : decode cX5_mend 88 = .ok (.return_, 1) := by decide +kernel
theorem dX4_byteIfScrubbed_0 : decode cX4_byteIfScrubbed 0 = .ok (.aload_n 0, 1) := by decide +kernel
theorem dX4_byteIfScrubbed_1 : decode cX4_byteIfScrubbed 1 = .ok (.getfield 21, 3) := by decide +kernel
theorem dX4_byteIfScrubbed_4 : decode cX4_byteIfScrubbed 4 = .ok (.iload_n 1, 1) := by decide +kernel
theorem dX4_byteIfScrubbed_5 : decode cX4_byteIfScrubbed 5 = .ok (.invokevirtual 22, 3) := by decide +kernel
theorem dX4_byteIfScrubbed_8 : decode cX4_byteIfScrubbed 8 = .ok (.istore_n 2, 1) := by decide +kernel
theorem dX4_byteIfScrubbed_9 : decode cX4_byteIfScrubbed 9 = .ok (.aload_n 0, 1) := by decide +kernel
theorem dX4_byteIfScrubbed_10 : decode cX4_byteIfScrubbed 10 = .ok (.getfield 21, 3) := by decide +kernel
theorem dX4_byteIfScrubbed_13 : decode cX4_byteIfScrubbed 13 = .ok (.iload_n 1, 1) := by decide +kernel
theorem dX4_byteIfScrubbed_14 : decode cX4_byteIfScrubbed 14 = .ok (.invokevirtual 28, 3) := by decide +kernel
theorem dX4_byteIfScrubbed_17 : decode cX4_byteIfScrubbed 17 = .ok (.istore_n 3, 1) := by decide +kernel
theorem dX4_byteIfScrubbed_18 : decode cX4_byteIfScrubbed 18 = .ok (.aload_n 0, 1) := by decide +kernel
theorem dX4_byteIfScrubbed_19 : decode cX4_byteIfScrubbed 19 = .ok (.getfield 9, 3) := by decide +kernel
theorem dX4_byteIfScrubbed_22 : decode cX4_byteIfScrubbed 22 = .ok (.iload_n 1, 1) := by decide +kernel
theorem dX4_byteIfScrubbed_23 : decode cX4_byteIfScrubbed 23 = .ok (.invokevirtual 120, 3) := by decide +kernel
theorem dX4_byteIfScrubbed_26 : decode cX4_byteIfScrubbed 26 = .ok (.istore 4, 2) := by decide +kernel
theorem dX4_byteIfScrubbed_28 : decode cX4_byteIfScrubbed 28 = .ok (.aload_n 0, 1) := by decide +kernel
theorem dX4_byteIfScrubbed_29 : decode cX4_byteIfScrubbed 29 = .ok (.getfield 9, 3) := by decide +kernel
theorem dX4_byteIfScrubbed_32 : decode cX4_byteIfScrubbed 32 = .ok (.iload_n 3, 1) := by decide +kernel
theorem dX4_byteIfScrubbed_33 : decode cX4_byteIfScrubbed 33 = .ok (.invokevirtual 31, 3) := by decide +kernel
theorem dX4_byteIfScrubbed_36 : decode cX4_byteIfScrubbed 36 = .ok (.ifCond .ne 28, 3) := by decide +kernel
theorem dX4_byteIfScrubbed_39 : decode cX4_byteIfScrubbed 39 = .ok (.aload_n 0, 1) := by decide +kernel
theorem dX4_byteIfScrubbed_40 : decode cX4_byteIfScrubbed 40 = .ok (.getfield 9, 3) := by decide +kernel
theorem dX4_byteIfScrubbed_43 : decode cX4_byteIfScrubbed 43 = .ok (.iload_n 3, 1) := by decide +kernel
theorem dX4_byteIfScrubbed_44 : decode cX4_byteIfScrubbed 44 = .ok (.invokevirtual 71, 3) := by decide +kernel
theorem dX4_byteIfScrubbed_47 : decode cX4_byteIfScrubbed 47 = .ok (.ifCond .ne 17, 3) := by decide +kernel
theorem dX4_byteIfScrubbed_50 : decode cX4_byteIfScrubbed 50 = .ok (.aload_n 0, 1) := by decide +kernel
theorem dX4_byteIfScrubbed_51 : decode cX4_byteIfScrubbed 51 = .ok (.getfield 9, 3) := by decide +kernel
theorem dX4_byteIfScrubbed_54 : decode cX4_byteIfScrubbed 54 = .ok (.getfield 54, 3) := by decide +kernel
theorem dX4_byteIfScrubbed_57 : decode cX4_byteIfScrubbed 57 = .ok (.invokevirtual 78, 3) := by decide +kernel
theorem dX4_byteIfScrubbed_60 : decode cX4_byteIfScrubbed 60 = .ok (.iload_n 2, 1) := by decide +kernel
theorem dX4_byteIfScrubbed_61 : decode cX4_byteIfScrubbed 61 = .ok (.if_icmp .eq 6, 3) := by decide +kernel
theorem dX4_byteIfScrubbed_64 : decode cX4_byteIfScrubbed 64 = .ok (.iload 4, 2) := by decide +kernel
theorem dX4_byteIfScrubbed_66 : decode cX4_byteIfScrubbed 66 = .ok (.ireturn, 1) := by decide +kernel
theorem dX4_byteIfScrubbed_67 : decode cX4_byteIfScrubbed 67 = .ok (.aload_n 0, 1) := by decide +kernel
theorem dX4_byteIfScrubbed_68 : decode cX4_byteIfScrubbed 68 = .ok (.getfield 9, 3) := by decide +kernel
theorem dX4_byteIfScrubbed_71 : decode cX4_byteIfScrubbed 71 = .ok (.getfield 54, 3) := by decide +kernel
theorem dX4_byteIfScrubbed_74 : decode cX4_byteIfScrubbed 74 = .ok (.iload_n 2, 1) := by decide +kernel
theorem dX4_byteIfScrubbed_75 : decode cX4_byteIfScrubbed 75 = .ok (.invokevirtual 123, 3) := by decide +kernel
theorem dX4_byteIfScrubbed_78 : decode cX4_byteIfScrubbed 78 = .ok (.aload_n 0, 1) := by decide +kernel
theorem dX4_byteIfScrubbed_79 : decode cX4_byteIfScrubbed 79 = .ok (.getfield 9, 3) := by decide +kernel
theorem dX4_byteIfScrubbed_82 : decode cX4_byteIfScrubbed 82 = .ok (.getfield 54, 3) := by decide +kernel
theorem dX4_byteIfScrubbed_85 : decode cX4_byteIfScrubbed 85 = .ok (.iload_n 2, 1) := by decide +kernel
theorem dX4_byteIfScrubbed_86 : decode cX4_byteIfScrubbed 86 = .ok (.invokevirtual 68, 3) := by decide +kernel
theorem dX4_byteIfScrubbed_89 : decode cX4_byteIfScrubbed 89 = .ok (.ireturn, 1) := by decide +kernel
theorem dX4_sameAs_0 : decode cX4_sameAs 0 = .ok (.iconst 0, 1) := by decide +kernel
theorem dX4_sameAs_1 : decode cX4_sameAs 1 = .ok (.istore_n 2, 1) := by decide +kernel
theorem dX4_sameAs_2 : decode cX4_sameAs 2 = .ok (.iconst 0, 1) := by decide +kernel
theorem dX4_sameAs_3 : decode cX4_sameAs 3 = .ok (.istore_n 3, 1) := by decide +kernel
theorem dX4_sameAs_4 : decode cX4_sameAs 4 = .ok (.iload_n 3, 1) := by decide +kernel
theorem dX4_sameAs_5 : decode cX4_sameAs 5 = .ok (.aload_n 0, 1) := by decide +kernel
theorem dX4_sameAs_6 : decode cX4_sameAs 6 = .ok (.getfield 21, 3) := by decide +kernel
theorem dX4_sameAs_9 : decode cX4_sameAs 9 = .ok (.invokevirtual 127, 3) := by decide +kernel
theorem dX4_sameAs_12 : decode cX4_sameAs 12 = .ok (.if_icmp .ge 28, 3) := by decide +kernel
theorem dX4_sameAs_15 : decode cX4_sameAs 15 = .ok (.aload_n 0, 1) := by decide +kernel
theorem dX4_sameAs_16 : decode cX4_sameAs 16 = .ok (.getfield 9, 3) := by decide +kernel
theorem dX4_sameAs_19 : decode cX4_sameAs 19 = .ok (.iload_n 3, 1) := by decide +kernel
theorem dX4_sameAs_20 : decode cX4_sameAs 20 = .ok (.invokevirtual 120, 3) := by decide +kernel
theorem dX4_sameAs_23 : decode cX4_sameAs 23 = .ok (.aload_n 1, 1) := by decide +kernel
theorem dX4_sameAs_24 : decode cX4_sameAs 24 = .ok (.iload_n 3, 1) := by decide +kernel
theorem dX4_sameAs_25 : decode cX4_sameAs 25 = .ok (.invokevirtual 120, 3) := by decide +kernel
theorem dX4_sameAs_28 : decode cX4_sameAs 28 = .ok (.if_icmp .ne 6, 3) := by decide +kernel
theorem dX4_sameAs_31 : decode cX4_sameAs 31 = .ok (.iinc 2 1, 3) := by decide +kernel
theorem dX4_sameAs_34 : decode cX4_sameAs 34 = .ok (.iinc 3 1, 3) := by decide +kernel
theorem dX4_sameAs_37 : decode cX4_sameAs 37 = .ok (.goto (-33), 3) := by decide +kernel
theorem dX4_sameAs_40 : decode cX4_sameAs 40 = .ok (.iload_n 2, 1) := by decide +kernel
theorem dX4_sameAs_41 : decode cX4_sameAs 41 = .ok (.ireturn, 1) := by decide +kernel
theorem dX4_longestHidden_0 : decode cX4_longestHidden 0 = .ok (.iconst 0, 1) := by decide +kernel
theorem dX4_longestHidden_1 : decode cX4_longestHidden 1 = .ok (.istore_n 2, 1) := by decide +kernel
theorem dX4_longestHidden_2 : decode cX4_longestHidden 2 = .ok (.iconst (-1), 1) := by decide +kernel
theorem dX4_longestHidden_3 : decode cX4_longestHidden 3 = .ok (.istore_n 3, 1) := by decide +kernel
theorem dX4_longestHidden_4 : decode cX4_longestHidden 4 = .ok (.iconst 0, 1) := by decide +kernel
theorem dX4_longestHidden_5 : decode cX4_longestHidden 5 = .ok (.istore 4, 2) := by decide +kernel
theorem dX4_longestHidden_7 : decode cX4_longestHidden 7 = .ok (.iconst 0, 1) := by decide +kernel
theorem dX4_longestHidden_8 : decode cX4_longestHidden 8 = .ok (.istore 5, 2) := by decide +kernel
theorem dX4_longestHidden_10 : decode cX4_longestHidden 10 = .ok (.iload 5, 2) := by decide +kernel
theorem dX4_longestHidden_12 : decode cX4_longestHidden 12 = .ok (.aload_n 0, 1) := by decide +kernel
theorem dX4_longestHidden_13 : decode cX4_longestHidden 13 = .ok (.getfield 21, 3) := by decide +kernel
theorem dX4_longestHidden_16 : decode cX4_longestHidden 16 = .ok (.invokevirtual 127, 3) := by decide +kernel
theorem dX4_longestHidden_19 : decode cX4_longestHidden 19 = .ok (.if_icmp .ge 81, 3) := by decide +kernel
theorem dX4_longestHidden_22 : decode cX4_longestHidden 22 = .ok (.aload_n 0, 1) := by decide +kernel
theorem dX4_longestHidden_23 : decode cX4_longestHidden 23 = .ok (.getfield 21, 3) := by decide +kernel
theorem dX4_longestHidden_26 : decode cX4_longestHidden 26 = .ok (.iload 5, 2) := by decide +kernel
theorem dX4_longestHidden_28 : decode cX4_longestHidden 28 = .ok (.invokevirtual 28, 3) := by decide +kernel
theorem dX4_longestHidden_31 : decode cX4_longestHidden 31 = .ok (.istore 6, 2) := by decide +kernel
theorem dX4_longestHidden_33 : decode cX4_longestHidden 33 = .ok (.aload_n 0, 1) := by decide +kernel
theorem dX4_longestHidden_34 : decode cX4_longestHidden 34 = .ok (.getfield 9, 3) := by decide +kernel
theorem dX4_longestHidden_37 : decode cX4_longestHidden 37 = .ok (.aload_n 0, 1) := by decide +kernel
theorem dX4_longestHidden_38 : decode cX4_longestHidden 38 = .ok (.getfield 21, 3) := by decide +kernel
theorem dX4_longestHidden_41 : decode cX4_longestHidden 41 = .ok (.aload_n 0, 1) := by decide +kernel
theorem dX4_longestHidden_42 : decode cX4_longestHidden 42 = .ok (.getfield 21, 3) := by decide +kernel
theorem dX4_longestHidden_45 : decode cX4_longestHidden 45 = .ok (.iload 5, 2) := by decide +kernel
theorem dX4_longestHidden_47 : decode cX4_longestHidden 47 = .ok (.invokevirtual 22, 3) := by decide +kernel
theorem dX4_longestHidden_50 : decode cX4_longestHidden 50 = .ok (.iload 6, 2) := by decide +kernel
theorem dX4_longestHidden_52 : decode cX4_longestHidden 52 = .ok (.invokevirtual 82, 3) := by decide +kernel
theorem dX4_longestHidden_55 : decode cX4_longestHidden 55 = .ok (.iload 6, 2) := by decide +kernel
theorem dX4_longestHidden_57 : decode cX4_longestHidden 57 = .ok (.invokevirtual 111, 3) := by decide +kernel
theorem dX4_longestHidden_60 : decode cX4_longestHidden 60 = .ok (.istore 7, 2) := by decide +kernel
theorem dX4_longestHidden_62 : decode cX4_longestHidden 62 = .ok (.iload 7, 2) := by decide +kernel
theorem dX4_longestHidden_64 : decode cX4_longestHidden 64 = .ok (.ifCond .eq 7, 3) := by decide +kernel
theorem dX4_longestHidden_67 : decode cX4_longestHidden 67 = .ok (.iconst 0, 1) := by decide +kernel
theorem dX4_longestHidden_68 : decode cX4_longestHidden 68 = .ok (.goto 7, 3) := by decide +kernel
theorem dX4_longestHidden_71 : decode cX4_longestHidden 71 = .ok (.iload 4, 2) := by decide +kernel
theorem dX4_longestHidden_73 : decode cX4_longestHidden 73 = .ok (.iconst 1, 1) := by decide +kernel
theorem dX4_longestHidden_74 : decode cX4_longestHidden 74 = .ok (.iadd, 1) := by decide +kernel
theorem dX4_longestHidden_75 : decode cX4_longestHidden 75 = .ok (.istore 4, 2) := by decide +kernel
theorem dX4_longestHidden_77 : decode cX4_longestHidden 77 = .ok (.iload 4, 2) := by decide +kernel
theorem dX4_longestHidden_79 : decode cX4_longestHidden 79 = .ok (.iload_n 2, 1) := by decide +kernel
theorem dX4_longestHidden_80 : decode cX4_longestHidden 80 = .ok (.if_icmp .le 14, 3) := by decide +kernel
theorem dX4_longestHidden_83 : decode cX4_longestHidden 83 = .ok (.iload 4, 2) := by decide +kernel
theorem dX4_longestHidden_85 : decode cX4_longestHidden 85 = .ok (.istore_n 2, 1) := by decide +kernel
theorem dX4_longestHidden_86 : decode cX4_longestHidden 86 = .ok (.iload 5, 2) := by decide +kernel
theorem dX4_longestHidden_88 : decode cX4_longestHidden 88 = .ok (.iload 4, 2) := by decide +kernel
theorem dX4_longestHidden_90 : decode cX4_longestHidden 90 = .ok (.isub, 1) := by decide +kernel
theorem dX4_longestHidden_91 : decode cX4_longestHidden 91 = .ok (.iconst 1, 1) := by decide +kernel
theorem dX4_longestHidden_92 : decode cX4_longestHidden 92 = .ok (.iadd, 1) := by decide +kernel
theorem dX4_longestHidden_93 : decode cX4_longestHidden 93 = .ok (.istore_n 3, 1) := by decide +kernel
theorem dX4_longestHidden_94 : decode cX4_longestHidden 94 = .ok (.iinc 5 1, 3) := by decide +kernel
theorem dX4_longestHidden_97 : decode cX4_longestHidden 97 = .ok (.goto (-87), 3) := by decide +kernel
theorem dX4_longestHidden_100 : decode cX4_longestHidden 100 = .ok (.iload_n 1, 1) := by decide +kernel
theorem dX4_longestHidden_101 : decode cX4_longestHidden 101 = .ok (.ifCond .ne 7, 3) := by decide +kernel
theorem dX4_longestHidden_104 : decode cX4_longestHidden 104 = .ok (.iload_n 2, 1) := by decide +kernel
theorem dX4_longestHidden_105 : decode cX4_longestHidden 105 = .ok (.goto 4, 3) := by decide +kernel
theorem dX4_longestHidden_108 : decode cX4_longestHidden 108 = .ok (.iload_n 3, 1) := by decide +kernel
theorem dX4_longestHidden_109 : decode cX4_longestHidden 109 = .ok (.ireturn, 1) := by decide +kernel
theorem dX4_votesFor_0 : decode cX4_votesFor 0 = .ok (.aload_n 0, 1) := by decide +kernel
theorem dX4_votesFor_1 : decode cX4_votesFor 1 = .ok (.getfield 21, 3) := by decide +kernel
theorem dX4_votesFor_4 : decode cX4_votesFor 4 = .ok (.iload_n 1, 1) := by decide +kernel
theorem dX4_votesFor_5 : decode cX4_votesFor 5 = .ok (.invokevirtual 22, 3) := by decide +kernel
theorem dX4_votesFor_8 : decode cX4_votesFor 8 = .ok (.istore_n 3, 1) := by decide +kernel
theorem dX4_votesFor_9 : decode cX4_votesFor 9 = .ok (.aload_n 0, 1) := by decide +kernel
theorem dX4_votesFor_10 : decode cX4_votesFor 10 = .ok (.getfield 21, 3) := by decide +kernel
theorem dX4_votesFor_13 : decode cX4_votesFor 13 = .ok (.iload_n 1, 1) := by decide +kernel
theorem dX4_votesFor_14 : decode cX4_votesFor 14 = .ok (.invokevirtual 28, 3) := by decide +kernel
theorem dX4_votesFor_17 : decode cX4_votesFor 17 = .ok (.istore 4, 2) := by decide +kernel
theorem dX4_votesFor_19 : decode cX4_votesFor 19 = .ok (.aload_n 0, 1) := by decide +kernel
theorem dX4_votesFor_20 : decode cX4_votesFor 20 = .ok (.getfield 9, 3) := by decide +kernel
theorem dX4_votesFor_23 : decode cX4_votesFor 23 = .ok (.iload 4, 2) := by decide +kernel
theorem dX4_votesFor_25 : decode cX4_votesFor 25 = .ok (.invokevirtual 31, 3) := by decide +kernel
theorem dX4_votesFor_28 : decode cX4_votesFor 28 = .ok (.istore 5, 2) := by decide +kernel
theorem dX4_votesFor_30 : decode cX4_votesFor 30 = .ok (.iconst 0, 1) := by decide +kernel
theorem dX4_votesFor_31 : decode cX4_votesFor 31 = .ok (.istore 6, 2) := by decide +kernel
theorem dX4_votesFor_33 : decode cX4_votesFor 33 = .ok (.iconst 0, 1) := by decide +kernel
theorem dX4_votesFor_34 : decode cX4_votesFor 34 = .ok (.istore 7, 2) := by decide +kernel
theorem dX4_votesFor_36 : decode cX4_votesFor 36 = .ok (.iload 7, 2) := by decide +kernel
theorem dX4_votesFor_38 : decode cX4_votesFor 38 = .ok (.aload_n 0, 1) := by decide +kernel
theorem dX4_votesFor_39 : decode cX4_votesFor 39 = .ok (.getfield 21, 3) := by decide +kernel
theorem dX4_votesFor_42 : decode cX4_votesFor 42 = .ok (.getfield 85, 3) := by decide +kernel
theorem dX4_votesFor_45 : decode cX4_votesFor 45 = .ok (.if_icmp .ge 108, 3) := by decide +kernel
theorem dX4_votesFor_48 : decode cX4_votesFor 48 = .ok (.iload 7, 2) := by decide +kernel
theorem dX4_votesFor_50 : decode cX4_votesFor 50 = .ok (.iconst 1, 1) := by decide +kernel
theorem dX4_votesFor_51 : decode cX4_votesFor 51 = .ok (.iadd, 1) := by decide +kernel
theorem dX4_votesFor_52 : decode cX4_votesFor 52 = .ok (.istore 8, 2) := by decide +kernel
theorem dX4_votesFor_54 : decode cX4_votesFor 54 = .ok (.iload 8, 2) := by decide +kernel
theorem dX4_votesFor_56 : decode cX4_votesFor 56 = .ok (.aload_n 0, 1) := by decide +kernel
theorem dX4_votesFor_57 : decode cX4_votesFor 57 = .ok (.getfield 21, 3) := by decide +kernel
theorem dX4_votesFor_60 : decode cX4_votesFor 60 = .ok (.getfield 85, 3) := by decide +kernel
theorem dX4_votesFor_63 : decode cX4_votesFor 63 = .ok (.if_icmp .ge 84, 3) := by decide +kernel
theorem dX4_votesFor_66 : decode cX4_votesFor 66 = .ok (.iconst 1, 1) := by decide +kernel
theorem dX4_votesFor_67 : decode cX4_votesFor 67 = .ok (.iload 7, 2) := by decide +kernel
theorem dX4_votesFor_69 : decode cX4_votesFor 69 = .ok (.ishl, 1) := by decide +kernel
theorem dX4_votesFor_70 : decode cX4_votesFor 70 = .ok (.iconst 1, 1) := by decide +kernel
theorem dX4_votesFor_71 : decode cX4_votesFor 71 = .ok (.iload 8, 2) := by decide +kernel
theorem dX4_votesFor_73 : decode cX4_votesFor 73 = .ok (.ishl, 1) := by decide +kernel
theorem dX4_votesFor_74 : decode cX4_votesFor 74 = .ok (.ior, 1) := by decide +kernel
theorem dX4_votesFor_75 : decode cX4_votesFor 75 = .ok (.istore 9, 2) := by decide +kernel
theorem dX4_votesFor_77 : decode cX4_votesFor 77 = .ok (.iload 5, 2) := by decide +kernel
theorem dX4_votesFor_79 : decode cX4_votesFor 79 = .ok (.iload 9, 2) := by decide +kernel
theorem dX4_votesFor_81 : decode cX4_votesFor 81 = .ok (.iconst (-1), 1) := by decide +kernel
theorem dX4_votesFor_82 : decode cX4_votesFor 82 = .ok (.ixor, 1) := by decide +kernel
theorem dX4_votesFor_83 : decode cX4_votesFor 83 = .ok (.iand, 1) := by decide +kernel
theorem dX4_votesFor_84 : decode cX4_votesFor 84 = .ok (.ifCond .ne 57, 3) := by decide +kernel
theorem dX4_votesFor_87 : decode cX4_votesFor 87 = .ok (.aload_n 0, 1) := by decide +kernel
theorem dX4_votesFor_88 : decode cX4_votesFor 88 = .ok (.getfield 9, 3) := by decide +kernel
theorem dX4_votesFor_91 : decode cX4_votesFor 91 = .ok (.getfield 54, 3) := by decide +kernel
theorem dX4_votesFor_94 : decode cX4_votesFor 94 = .ok (.aload_n 0, 1) := by decide +kernel
theorem dX4_votesFor_95 : decode cX4_votesFor 95 = .ok (.getfield 9, 3) := by decide +kernel
theorem dX4_votesFor_98 : decode cX4_votesFor 98 = .ok (.getfield 58, 3) := by decide +kernel
theorem dX4_votesFor_101 : decode cX4_votesFor 101 = .ok (.iload 4, 2) := by decide +kernel
theorem dX4_votesFor_103 : decode cX4_votesFor 103 = .ok (.aload_n 0, 1) := by decide +kernel
theorem dX4_votesFor_104 : decode cX4_votesFor 104 = .ok (.getfield 21, 3) := by decide +kernel
theorem dX4_votesFor_107 : decode cX4_votesFor 107 = .ok (.iload_n 1, 1) := by decide +kernel
theorem dX4_votesFor_108 : decode cX4_votesFor 108 = .ok (.invokevirtual 130, 3) := by decide +kernel
theorem dX4_votesFor_111 : decode cX4_votesFor 111 = .ok (.iload 9, 2) := by decide +kernel
theorem dX4_votesFor_113 : decode cX4_votesFor 113 = .ok (.invokevirtual 62, 3) := by decide +kernel
theorem dX4_votesFor_116 : decode cX4_votesFor 116 = .ok (.iload 6, 2) := by decide +kernel
theorem dX4_votesFor_118 : decode cX4_votesFor 118 = .ok (.aload_n 0, 1) := by decide +kernel
theorem dX4_votesFor_119 : decode cX4_votesFor 119 = .ok (.getfield 9, 3) := by decide +kernel
theorem dX4_votesFor_122 : decode cX4_votesFor 122 = .ok (.getfield 54, 3) := by decide +kernel
theorem dX4_votesFor_125 : decode cX4_votesFor 125 = .ok (.iload_n 3, 1) := by decide +kernel
theorem dX4_votesFor_126 : decode cX4_votesFor 126 = .ok (.invokevirtual 68, 3) := by decide +kernel
theorem dX4_votesFor_129 : decode cX4_votesFor 129 = .ok (.iload_n 2, 1) := by decide +kernel
theorem dX4_votesFor_130 : decode cX4_votesFor 130 = .ok (.if_icmp .ne 7, 3) := by decide +kernel
theorem dX4_votesFor_133 : decode cX4_votesFor 133 = .ok (.iconst 1, 1) := by decide +kernel
theorem dX4_votesFor_134 : decode cX4_votesFor 134 = .ok (.goto 4, 3) := by decide +kernel
theorem dX4_votesFor_137 : decode cX4_votesFor 137 = .ok (.iconst 0, 1) := by decide +kernel
theorem dX4_votesFor_138 : decode cX4_votesFor 138 = .ok (.iadd, 1) := by decide +kernel
theorem dX4_votesFor_139 : decode cX4_votesFor 139 = .ok (.istore 6, 2) := by decide +kernel
theorem dX4_votesFor_141 : decode cX4_votesFor 141 = .ok (.iinc 8 1, 3) := by decide +kernel
theorem dX4_votesFor_144 : decode cX4_votesFor 144 = .ok (.goto (-90), 3) := by decide +kernel
theorem dX4_votesFor_147 : decode cX4_votesFor 147 = .ok (.iinc 7 1, 3) := by decide +kernel
theorem dX4_votesFor_150 : decode cX4_votesFor 150 = .ok (.goto (-114), 3) := by decide +kernel
theorem dX4_votesFor_153 : decode cX4_votesFor 153 = .ok (.iload 6, 2) := by decide +kernel
theorem dX4_votesFor_155 : decode cX4_votesFor 155 = .ok (.ireturn, 1) := by decide +kernel
theorem dX5_reckonSums_0 : decode cX5_reckonSums 0 = .ok (.aload_n 0, 1) := by decide +kernel
theorem dX5_reckonSums_1 : decode cX5_reckonSums 1 = .ok (.aload_n 0, 1) := by decide +kernel
theorem dX5_reckonSums_2 : decode cX5_reckonSums 2 = .ok (.getfield 17, 3) := by decide +kernel
theorem dX5_reckonSums_5 : decode cX5_reckonSums 5 = .ok (.getfield 46, 3) := by decide +kernel
theorem dX5_reckonSums_8 : decode cX5_reckonSums 8 = .ok (.aload_n 0, 1) := by decide +kernel
theorem dX5_reckonSums_9 : decode cX5_reckonSums 9 = .ok (.invokevirtual 53, 3) := by decide +kernel
theorem dX5_reckonSums_12 : decode cX5_reckonSums 12 = .ok (.invokevirtual 57, 3) := by decide +kernel
theorem dX5_reckonSums_15 : decode cX5_reckonSums 15 = .ok (.aload_n 0, 1) := by decide +kernel
theorem dX5_reckonSums_16 : decode cX5_reckonSums 16 = .ok (.aload_n 0, 1) := by decide +kernel
theorem dX5_reckonSums_17 : decode cX5_reckonSums 17 = .ok (.getfield 17, 3) := by decide +kernel
theorem dX5_reckonSums_20 : decode cX5_reckonSums 20 = .ok (.getfield 61, 3) := by decide +kernel
theorem dX5_reckonSums_23 : decode cX5_reckonSums 23 = .ok (.aload_n 0, 1) := by decide +kernel
theorem dX5_reckonSums_24 : decode cX5_reckonSums 24 = .ok (.getfield 21, 3) := by decide +kernel
theorem dX5_reckonSums_27 : decode cX5_reckonSums 27 = .ok (.aload_n 0, 1) := by decide +kernel
theorem dX5_reckonSums_28 : decode cX5_reckonSums 28 = .ok (.getfield 11, 3) := by decide +kernel
theorem dX5_reckonSums_31 : decode cX5_reckonSums 31 = .ok (.aload_n 0, 1) := by decide +kernel
theorem dX5_reckonSums_32 : decode cX5_reckonSums 32 = .ok (.getfield 17, 3) := by decide +kernel
theorem dX5_reckonSums_35 : decode cX5_reckonSums 35 = .ok (.getfield 64, 3) := by decide +kernel
theorem dX5_reckonSums_38 : decode cX5_reckonSums 38 = .ok (.invokevirtual 67, 3) := by decide +kernel
theorem dX5_reckonSums_41 : decode cX5_reckonSums 41 = .ok (.invokevirtual 57, 3) := by decide +kernel
theorem dX5_reckonSums_44 : decode cX5_reckonSums 44 = .ok (.return_, 1) := by decide +kernel
theorem dX5_change_0 : decode cX5_change 0 = .ok (.aload_n 0, 1) := by decide +kernel
theorem dX5_change_1 : decode cX5_change 1 = .ok (.iload_n 1, 1) := by decide +kernel
theorem dX5_change_2 : decode cX5_change 2 = .ok (.invokevirtual 85, 3) := by decide +kernel
theorem dX5_change_5 : decode cX5_change 5 = .ok (.iload_n 2, 1) := by decide +kernel
theorem dX5_change_6 : decode cX5_change 6 = .ok (.ixor, 1) := by decide +kernel
theorem dX5_change_7 : decode cX5_change 7 = .ok (.istore_n 3, 1) := by decide +kernel
theorem dX5_change_8 : decode cX5_change 8 = .ok (.aload_n 0, 1) := by decide +kernel
theorem dX5_change_9 : decode cX5_change 9 = .ok (.iload_n 1, 1) := by decide +kernel
theorem dX5_change_10 : decode cX5_change 10 = .ok (.iload_n 2, 1) := by decide +kernel
theorem dX5_change_11 : decode cX5_change 11 = .ok (.invokevirtual 57, 3) := by decide +kernel
theorem dX5_change_14 : decode cX5_change 14 = .ok (.aload_n 0, 1) := by decide +kernel
theorem dX5_change_15 : decode cX5_change 15 = .ok (.aload_n 0, 1) := by decide +kernel
theorem dX5_change_16 : decode cX5_change 16 = .ok (.getfield 17, 3) := by decide +kernel
theorem dX5_change_19 : decode cX5_change 19 = .ok (.getfield 46, 3) := by decide +kernel
theorem dX5_change_22 : decode cX5_change 22 = .ok (.aload_n 0, 1) := by decide +kernel
theorem dX5_change_23 : decode cX5_change 23 = .ok (.aload_n 0, 1) := by decide +kernel
theorem dX5_change_24 : decode cX5_change 24 = .ok (.getfield 17, 3) := by decide +kernel
theorem dX5_change_27 : decode cX5_change 27 = .ok (.getfield 46, 3) := by decide +kernel
theorem dX5_change_30 : decode cX5_change 30 = .ok (.invokevirtual 85, 3) := by decide +kernel
theorem dX5_change_33 : decode cX5_change 33 = .ok (.iload_n 3, 1) := by decide +kernel
theorem dX5_change_34 : decode cX5_change 34 = .ok (.ixor, 1) := by decide +kernel
theorem dX5_change_35 : decode cX5_change 35 = .ok (.invokevirtual 57, 3) := by decide +kernel
theorem dX5_change_38 : decode cX5_change 38 = .ok (.aload_n 0, 1) := by decide +kernel
theorem dX5_change_39 : decode cX5_change 39 = .ok (.aload_n 0, 1) := by decide +kernel
theorem dX5_change_40 : decode cX5_change 40 = .ok (.getfield 17, 3) := by decide +kernel
theorem dX5_change_43 : decode cX5_change 43 = .ok (.getfield 61, 3) := by decide +kernel
theorem dX5_change_46 : decode cX5_change 46 = .ok (.aload_n 0, 1) := by decide +kernel
theorem dX5_change_47 : decode cX5_change 47 = .ok (.aload_n 0, 1) := by decide +kernel
theorem dX5_change_48 : decode cX5_change 48 = .ok (.getfield 17, 3) := by decide +kernel
theorem dX5_change_51 : decode cX5_change 51 = .ok (.getfield 61, 3) := by decide +kernel
theorem dX5_change_54 : decode cX5_change 54 = .ok (.invokevirtual 85, 3) := by decide +kernel
theorem dX5_change_57 : decode cX5_change 57 = .ok (.aload_n 0, 1) := by decide +kernel
theorem dX5_change_58 : decode cX5_change 58 = .ok (.getfield 21, 3) := by decide +kernel
theorem dX5_change_61 : decode cX5_change 61 = .ok (.iload_n 3, 1) := by decide +kernel
theorem dX5_change_62 : decode cX5_change 62 = .ok (.aload_n 0, 1) := by decide +kernel
theorem dX5_change_63 : decode cX5_change 63 = .ok (.getfield 21, 3) := by decide +kernel
theorem dX5_change_66 : decode cX5_change 66 = .ok (.iload_n 1, 1) := by decide +kernel
theorem dX5_change_67 : decode cX5_change 67 = .ok (.invokevirtual 82, 3) := by decide +kernel
theorem dX5_change_70 : decode cX5_change 70 = .ok (.invokevirtual 91, 3) := by decide +kernel
theorem dX5_change_73 : decode cX5_change 73 = .ok (.ixor, 1) := by decide +kernel
theorem dX5_change_74 : decode cX5_change 74 = .ok (.invokevirtual 57, 3) := by decide +kernel
theorem dX5_change_77 : decode cX5_change 77 = .ok (.return_, 1) := by decide +kernel
theorem dX10_item_0 : decode cX10_item 0 = .ok (.iload_n 1, 1) := by decide +kernel
theorem dX10_item_1 : decode cX10_item 1 = .ok (.ifCond .lt 18, 3) := by decide +kernel
theorem dX10_item_4 : decode cX10_item 4 = .ok (.iload_n 1, 1) := by decide +kernel
theorem dX10_item_5 : decode cX10_item 5 = .ok (.bipush 7, 2) := by decide +kernel
theorem dX10_item_7 : decode cX10_item 7 = .ok (.if_icmp .ge 12, 3) := by decide +kernel
theorem dX10_item_10 : decode cX10_item 10 = .ok (.aload_n 0, 1) := by decide +kernel
theorem dX10_item_11 : decode cX10_item 11 = .ok (.getfield 28, 3) := by decide +kernel
theorem dX10_item_14 : decode cX10_item 14 = .ok (.iload_n 1, 1) := by decide +kernel
theorem dX10_item_15 : decode cX10_item 15 = .ok (.iaload, 1) := by decide +kernel
theorem dX10_item_16 : decode cX10_item 16 = .ok (.goto 4, 3) := by decide +kernel
theorem dX10_item_19 : decode cX10_item 19 = .ok (.iconst 0, 1) := by decide +kernel
theorem dX10_item_20 : decode cX10_item 20 = .ok (.ireturn, 1) := by decide +kernel
theorem dX6_take_0 : decode cX6_take 0 = .ok (.aload_n 0, 1) := by decide +kernel
theorem dX6_take_1 : decode cX6_take 1 = .ok (.aload_n 1, 1) := by decide +kernel
theorem dX6_take_2 : decode cX6_take 2 = .ok (.iconst 0, 1) := by decide +kernel
theorem dX6_take_3 : decode cX6_take 3 = .ok (.invokevirtual 40, 3) := by decide +kernel
theorem dX6_take_6 : decode cX6_take 6 = .ok (.putfield 7, 3) := by decide +kernel
theorem dX6_take_9 : decode cX6_take 9 = .ok (.aload_n 0, 1) := by decide +kernel
theorem dX6_take_10 : decode cX6_take 10 = .ok (.aload_n 1, 1) := by decide +kernel
theorem dX6_take_11 : decode cX6_take 11 = .ok (.iconst 1, 1) := by decide +kernel
theorem dX6_take_12 : decode cX6_take 12 = .ok (.invokevirtual 40, 3) := by decide +kernel
theorem dX6_take_15 : decode cX6_take 15 = .ok (.putfield 13, 3) := by decide +kernel
theorem dX6_take_18 : decode cX6_take 18 = .ok (.aload_n 0, 1) := by decide +kernel
theorem dX6_take_19 : decode cX6_take 19 = .ok (.aload_n 1, 1) := by decide +kernel
theorem dX6_take_20 : decode cX6_take 20 = .ok (.iconst 2, 1) := by decide +kernel
theorem dX6_take_21 : decode cX6_take 21 = .ok (.invokevirtual 40, 3) := by decide +kernel
theorem dX6_take_24 : decode cX6_take 24 = .ok (.putfield 16, 3) := by decide +kernel
theorem dX6_take_27 : decode cX6_take 27 = .ok (.aload_n 0, 1) := by decide +kernel
theorem dX6_take_28 : decode cX6_take 28 = .ok (.aload_n 1, 1) := by decide +kernel
theorem dX6_take_29 : decode cX6_take 29 = .ok (.iconst 3, 1) := by decide +kernel
theorem dX6_take_30 : decode cX6_take 30 = .ok (.invokevirtual 40, 3) := by decide +kernel
theorem dX6_take_33 : decode cX6_take 33 = .ok (.putfield 19, 3) := by decide +kernel
theorem dX6_take_36 : decode cX6_take 36 = .ok (.aload_n 0, 1) := by decide +kernel
theorem dX6_take_37 : decode cX6_take 37 = .ok (.aload_n 1, 1) := by decide +kernel
theorem dX6_take_38 : decode cX6_take 38 = .ok (.iconst 4, 1) := by decide +kernel
theorem dX6_take_39 : decode cX6_take 39 = .ok (.invokevirtual 40, 3) := by decide +kernel
theorem dX6_take_42 : decode cX6_take 42 = .ok (.putfield 22, 3) := by decide +kernel
theorem dX6_take_45 : decode cX6_take 45 = .ok (.aload_n 0, 1) := by decide +kernel
theorem dX6_take_46 : decode cX6_take 46 = .ok (.aload_n 0, 1) := by decide +kernel
theorem dX6_take_47 : decode cX6_take 47 = .ok (.getfield 7, 3) := by decide +kernel
theorem dX6_take_50 : decode cX6_take 50 = .ok (.iconst 2, 1) := by decide +kernel
theorem dX6_take_51 : decode cX6_take 51 = .ok (.iadd, 1) := by decide +kernel
theorem dX6_take_52 : decode cX6_take 52 = .ok (.putfield 25, 3) := by decide +kernel
theorem dX6_take_55 : decode cX6_take 55 = .ok (.aload_n 0, 1) := by decide +kernel
theorem dX6_take_56 : decode cX6_take 56 = .ok (.aload_n 0, 1) := by decide +kernel
theorem dX6_take_57 : decode cX6_take 57 = .ok (.getfield 7, 3) := by decide +kernel
theorem dX6_take_60 : decode cX6_take 60 = .ok (.putfield 28, 3) := by decide +kernel
theorem dX6_take_63 : decode cX6_take 63 = .ok (.aload_n 0, 1) := by decide +kernel
theorem dX6_take_64 : decode cX6_take 64 = .ok (.aload_n 0, 1) := by decide +kernel
theorem dX6_take_65 : decode cX6_take 65 = .ok (.getfield 7, 3) := by decide +kernel
theorem dX6_take_68 : decode cX6_take 68 = .ok (.iconst 1, 1) := by decide +kernel
theorem dX6_take_69 : decode cX6_take 69 = .ok (.iadd, 1) := by decide +kernel
theorem dX6_take_70 : decode cX6_take 70 = .ok (.putfield 31, 3) := by decide +kernel
theorem dX6_take_73 : decode cX6_take 73 = .ok (.aload_n 0, 1) := by decide +kernel
theorem dX6_take_74 : decode cX6_take 74 = .ok (.iconst 1, 1) := by decide +kernel
theorem dX6_take_75 : decode cX6_take 75 = .ok (.aload_n 0, 1) := by decide +kernel
theorem dX6_take_76 : decode cX6_take 76 = .ok (.getfield 7, 3) := by decide +kernel
theorem dX6_take_79 : decode cX6_take 79 = .ok (.ishl, 1) := by decide +kernel
theorem dX6_take_80 : decode cX6_take 80 = .ok (.iconst 1, 1) := by decide +kernel
theorem dX6_take_81 : decode cX6_take 81 = .ok (.isub, 1) := by decide +kernel
theorem dX6_take_82 : decode cX6_take 82 = .ok (.putfield 34, 3) := by decide +kernel
theorem dX6_take_85 : decode cX6_take 85 = .ok (.aload_n 0, 1) := by decide +kernel
theorem dX6_take_86 : decode cX6_take 86 = .ok (.iconst 1, 1) := by decide +kernel
theorem dX6_take_87 : decode cX6_take 87 = .ok (.aload_n 0, 1) := by decide +kernel
theorem dX6_take_88 : decode cX6_take 88 = .ok (.getfield 25, 3) := by decide +kernel
theorem dX6_take_91 : decode cX6_take 91 = .ok (.ishl, 1) := by decide +kernel
theorem dX6_take_92 : decode cX6_take 92 = .ok (.iconst 1, 1) := by decide +kernel
theorem dX6_take_93 : decode cX6_take 93 = .ok (.isub, 1) := by decide +kernel
theorem dX6_take_94 : decode cX6_take 94 = .ok (.putfield 37, 3) := by decide +kernel
theorem dX6_take_97 : decode cX6_take 97 = .ok (.return_, 1) := by decide +kernel
