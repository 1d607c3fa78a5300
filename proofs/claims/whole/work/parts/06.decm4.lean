theorem dX12_cell_0 : decode cX12_cell 0 = .ok (.aload_n 0, 1) := by decide +kernel
theorem dX12_cell_1 : decode cX12_cell 1 = .ok (.iconst 0, 1) := by decide +kernel
theorem dX12_cell_2 : decode cX12_cell 2 = .ok (.putfield 57, 3) := by decide +kernel
theorem dX12_cell_5 : decode cX12_cell 5 = .ok (.aload_n 0, 1) := by decide +kernel
theorem dX12_cell_6 : decode cX12_cell 6 = .ok (.iload_n 1, 1) := by decide +kernel
theorem dX12_cell_7 : decode cX12_cell 7 = .ok (.iload_n 2, 1) := by decide +kernel
theorem dX12_cell_8 : decode cX12_cell 8 = .ok (.iload_n 3, 1) := by decide +kernel
theorem dX12_cell_9 : decode cX12_cell 9 = .ok (.invokevirtual 290, 3) := by decide +kernel
theorem dX12_cell_12 : decode cX12_cell 12 = .ok (.ifCond .ne 5, 3) := by decide +kernel
theorem dX12_cell_15 : decode cX12_cell 15 = .ok (.iconst (-1), 1) := by decide +kernel
theorem dX12_cell_16 : decode cX12_cell 16 = .ok (.ireturn, 1) := by decide +kernel
theorem dX12_cell_17 : decode cX12_cell 17 = .ok (.aload_n 0, 1) := by decide +kernel
theorem dX12_cell_18 : decode cX12_cell 18 = .ok (.getfield 38, 3) := by decide +kernel
theorem dX12_cell_21 : decode cX12_cell 21 = .ok (.iload_n 1, 1) := by decide +kernel
theorem dX12_cell_22 : decode cX12_cell 22 = .ok (.iload_n 2, 1) := by decide +kernel
theorem dX12_cell_23 : decode cX12_cell 23 = .ok (.invokestatic 202, 3) := by decide +kernel
theorem dX12_cell_26 : decode cX12_cell 26 = .ok (.ifCond .eq 17, 3) := by decide +kernel
theorem dX12_cell_29 : decode cX12_cell 29 = .ok (.aload_n 0, 1) := by decide +kernel
theorem dX12_cell_30 : decode cX12_cell 30 = .ok (.getfield 38, 3) := by decide +kernel
theorem dX12_cell_33 : decode cX12_cell 33 = .ok (.iload_n 1, 1) := by decide +kernel
theorem dX12_cell_34 : decode cX12_cell 34 = .ok (.iload_n 2, 1) := by decide +kernel
theorem dX12_cell_35 : decode cX12_cell 35 = .ok (.iload_n 3, 1) := by decide +kernel
theorem dX12_cell_36 : decode cX12_cell 36 = .ok (.invokestatic 206, 3) := by decide +kernel
theorem dX12_cell_39 : decode cX12_cell 39 = .ok (.iaload, 1) := by decide +kernel
theorem dX12_cell_40 : decode cX12_cell 40 = .ok (.goto 6, 3) := by decide +kernel
theorem dX12_cell_43 : decode cX12_cell 43 = .ok (.ldc_w 393, 3) := by decide +kernel
theorem dX12_cell_46 : decode cX12_cell 46 = .ok (.ireturn, 1) := by decide +kernel
theorem dX12_disk_0 : decode cX12_disk 0 = .ok (.aload_n 0, 1) := by decide +kernel
theorem dX12_disk_1 : decode cX12_disk 1 = .ok (.iconst 0, 1) := by decide +kernel
theorem dX12_disk_2 : decode cX12_disk 2 = .ok (.putfield 57, 3) := by decide +kernel
theorem dX12_disk_5 : decode cX12_disk 5 = .ok (.aload_n 0, 1) := by decide +kernel
theorem dX12_disk_6 : decode cX12_disk 6 = .ok (.iload_n 1, 1) := by decide +kernel
theorem dX12_disk_7 : decode cX12_disk 7 = .ok (.invokevirtual 278, 3) := by decide +kernel
theorem dX12_disk_10 : decode cX12_disk 10 = .ok (.ifCond .ne 5, 3) := by decide +kernel
theorem dX12_disk_13 : decode cX12_disk 13 = .ok (.iconst (-1), 1) := by decide +kernel
theorem dX12_disk_14 : decode cX12_disk 14 = .ok (.ireturn, 1) := by decide +kernel
theorem dX12_disk_15 : decode cX12_disk 15 = .ok (.iload_n 2, 1) := by decide +kernel
theorem dX12_disk_16 : decode cX12_disk 16 = .ok (.tableswitch 113 0 4 #[36, 47, 80, 91, 102], 36) := by decide +kernel
theorem dX12_disk_52 : decode cX12_disk 52 = .ok (.aload_n 0, 1) := by decide +kernel
theorem dX12_disk_53 : decode cX12_disk 53 = .ok (.getfield 38, 3) := by decide +kernel
theorem dX12_disk_56 : decode cX12_disk 56 = .ok (.sipush 384, 3) := by decide +kernel
theorem dX12_disk_59 : decode cX12_disk 59 = .ok (.iload_n 1, 1) := by decide +kernel
theorem dX12_disk_60 : decode cX12_disk 60 = .ok (.iadd, 1) := by decide +kernel
theorem dX12_disk_61 : decode cX12_disk 61 = .ok (.iaload, 1) := by decide +kernel
theorem dX12_disk_62 : decode cX12_disk 62 = .ok (.ireturn, 1) := by decide +kernel
theorem dX12_disk_63 : decode cX12_disk 63 = .ok (.aload_n 0, 1) := by decide +kernel
theorem dX12_disk_64 : decode cX12_disk 64 = .ok (.getfield 38, 3) := by decide +kernel
theorem dX12_disk_67 : decode cX12_disk 67 = .ok (.sipush 384, 3) := by decide +kernel
theorem dX12_disk_70 : decode cX12_disk 70 = .ok (.iload_n 1, 1) := by decide +kernel
theorem dX12_disk_71 : decode cX12_disk 71 = .ok (.iadd, 1) := by decide +kernel
theorem dX12_disk_72 : decode cX12_disk 72 = .ok (.iaload, 1) := by decide +kernel
theorem dX12_disk_73 : decode cX12_disk 73 = .ok (.ifCond .ne 12, 3) := by decide +kernel
theorem dX12_disk_76 : decode cX12_disk 76 = .ok (.aload_n 0, 1) := by decide +kernel
theorem dX12_disk_77 : decode cX12_disk 77 = .ok (.getfield 17, 3) := by decide +kernel
theorem dX12_disk_80 : decode cX12_disk 80 = .ok (.iconst 1, 1) := by decide +kernel
theorem dX12_disk_81 : decode cX12_disk 81 = .ok (.iaload, 1) := by decide +kernel
theorem dX12_disk_82 : decode cX12_disk 82 = .ok (.goto 13, 3) := by decide +kernel
theorem dX12_disk_85 : decode cX12_disk 85 = .ok (.aload_n 0, 1) := by decide +kernel
theorem dX12_disk_86 : decode cX12_disk 86 = .ok (.getfield 38, 3) := by decide +kernel
theorem dX12_disk_89 : decode cX12_disk 89 = .ok (.sipush 392, 3) := by decide +kernel
theorem dX12_disk_92 : decode cX12_disk 92 = .ok (.iload_n 1, 1) := by decide +kernel
theorem dX12_disk_93 : decode cX12_disk 93 = .ok (.iadd, 1) := by decide +kernel
theorem dX12_disk_94 : decode cX12_disk 94 = .ok (.iaload, 1) := by decide +kernel
theorem dX12_disk_95 : decode cX12_disk 95 = .ok (.ireturn, 1) := by decide +kernel
theorem dX12_disk_96 : decode cX12_disk 96 = .ok (.aload_n 0, 1) := by decide +kernel
theorem dX12_disk_97 : decode cX12_disk 97 = .ok (.getfield 38, 3) := by decide +kernel
theorem dX12_disk_100 : decode cX12_disk 100 = .ok (.sipush 400, 3) := by decide +kernel
theorem dX12_disk_103 : decode cX12_disk 103 = .ok (.iload_n 1, 1) := by decide +kernel
theorem dX12_disk_104 : decode cX12_disk 104 = .ok (.iadd, 1) := by decide +kernel
theorem dX12_disk_105 : decode cX12_disk 105 = .ok (.iaload, 1) := by decide +kernel
theorem dX12_disk_106 : decode cX12_disk 106 = .ok (.ireturn, 1) := by decide +kernel
theorem dX12_disk_107 : decode cX12_disk 107 = .ok (.aload_n 0, 1) := by decide +kernel
theorem dX12_disk_108 : decode cX12_disk 108 = .ok (.getfield 38, 3) := by decide +kernel
theorem dX12_disk_111 : decode cX12_disk 111 = .ok (.sipush 408, 3) := by decide +kernel
theorem dX12_disk_114 : decode cX12_disk 114 = .ok (.iload_n 1, 1) := by decide +kernel
theorem dX12_disk_115 : decode cX12_disk 115 = .ok (.iadd, 1) := by decide +kernel
theorem dX12_disk_116 : decode cX12_disk 116 = .ok (.iaload, 1) := by decide +kernel
theorem dX12_disk_117 : decode cX12_disk 117 = .ok (.ireturn, 1) := by decide +kernel
theorem dX12_disk_118 : decode cX12_disk 118 = .ok (.aload_n 0, 1) := by decide +kernel
theorem dX12_disk_119 : decode cX12_disk 119 = .ok (.getfield 38, 3) := by decide +kernel
theorem dX12_disk_122 : decode cX12_disk 122 = .ok (.sipush 416, 3) := by decide +kernel
theorem dX12_disk_125 : decode cX12_disk 125 = .ok (.iload_n 1, 1) := by decide +kernel
theorem dX12_disk_126 : decode cX12_disk 126 = .ok (.iadd, 1) := by decide +kernel
theorem dX12_disk_127 : decode cX12_disk 127 = .ok (.iaload, 1) := by decide +kernel
theorem dX12_disk_128 : decode cX12_disk 128 = .ok (.ireturn, 1) := by decide +kernel
theorem dX12_disk_129 : decode cX12_disk 129 = .ok (.iconst (-1), 1) := by decide +kernel
theorem dX12_disk_130 : decode cX12_disk 130 = .ok (.ireturn, 1) := by decide +kernel
theorem dX12_cost_0 : decode cX12_cost 0 = .ok (.aload_n 0, 1) := by decide +kernel
theorem dX12_cost_1 : decode cX12_cost 1 = .ok (.iconst 0, 1) := by decide +kernel
theorem dX12_cost_2 : decode cX12_cost 2 = .ok (.putfield 57, 3) := by decide +kernel
theorem dX12_cost_5 : decode cX12_cost 5 = .ok (.aload_n 0, 1) := by decide +kernel
theorem dX12_cost_6 : decode cX12_cost 6 = .ok (.iload_n 1, 1) := by decide +kernel
theorem dX12_cost_7 : decode cX12_cost 7 = .ok (.invokevirtual 281, 3) := by decide +kernel
theorem dX12_cost_10 : decode cX12_cost 10 = .ok (.ifCond .eq 15, 3) := by decide +kernel
theorem dX12_cost_13 : decode cX12_cost 13 = .ok (.iload_n 2, 1) := by decide +kernel
theorem dX12_cost_14 : decode cX12_cost 14 = .ok (.i2l, 1) := by decide +kernel
theorem dX12_cost_15 : decode cX12_cost 15 = .ok (.lconst 0, 1) := by decide +kernel
theorem dX12_cost_16 : decode cX12_cost 16 = .ok (.ldc2_w 294, 3) := by decide +kernel
theorem dX12_cost_19 : decode cX12_cost 19 = .ok (.invokestatic 117, 3) := by decide +kernel
theorem dX12_cost_22 : decode cX12_cost 22 = .ok (.ifCond .ne 5, 3) := by decide +kernel
theorem dX12_cost_25 : decode cX12_cost 25 = .ok (.iconst (-1), 1) := by decide +kernel
theorem dX12_cost_26 : decode cX12_cost 26 = .ok (.ireturn, 1) := by decide +kernel
theorem dX12_cost_27 : decode cX12_cost 27 = .ok (.aload_n 0, 1) := by decide +kernel
theorem dX12_cost_28 : decode cX12_cost 28 = .ok (.aload_n 0, 1) := by decide +kernel
theorem dX12_cost_29 : decode cX12_cost 29 = .ok (.getfield 38, 3) := by decide +kernel
theorem dX12_cost_32 : decode cX12_cost 32 = .ok (.aload_n 0, 1) := by decide +kernel
theorem dX12_cost_33 : decode cX12_cost 33 = .ok (.iload_n 1, 1) := by decide +kernel
theorem dX12_cost_34 : decode cX12_cost 34 = .ok (.invokevirtual 217, 3) := by decide +kernel
theorem dX12_cost_37 : decode cX12_cost 37 = .ok (.aload_n 0, 1) := by decide +kernel
theorem dX12_cost_38 : decode cX12_cost 38 = .ok (.iload_n 1, 1) := by decide +kernel
theorem dX12_cost_39 : decode cX12_cost 39 = .ok (.invokevirtual 220, 3) := by decide +kernel
theorem dX12_cost_42 : decode cX12_cost 42 = .ok (.iconst (-1), 1) := by decide +kernel
theorem dX12_cost_43 : decode cX12_cost 43 = .ok (.iconst (-1), 1) := by decide +kernel
theorem dX12_cost_44 : decode cX12_cost 44 = .ok (.invokevirtual 223, 3) := by decide +kernel
theorem dX12_cost_47 : decode cX12_cost 47 = .ok (.aload_n 0, 1) := by decide +kernel
theorem dX12_cost_48 : decode cX12_cost 48 = .ok (.aload_n 0, 1) := by decide +kernel
theorem dX12_cost_49 : decode cX12_cost 49 = .ok (.iload_n 1, 1) := by decide +kernel
theorem dX12_cost_50 : decode cX12_cost 50 = .ok (.invokevirtual 230, 3) := by decide +kernel
theorem dX12_cost_53 : decode cX12_cost 53 = .ok (.invokevirtual 250, 3) := by decide +kernel
theorem dX12_cost_56 : decode cX12_cost 56 = .ok (.iload_n 2, 1) := by decide +kernel
theorem dX12_cost_57 : decode cX12_cost 57 = .ok (.ifCond .ne 10, 3) := by decide +kernel
theorem dX12_cost_60 : decode cX12_cost 60 = .ok (.aload_n 0, 1) := by decide +kernel
theorem dX12_cost_61 : decode cX12_cost 61 = .ok (.getfield 240, 3) := by decide +kernel
theorem dX12_cost_64 : decode cX12_cost 64 = .ok (.goto 19, 3) := by decide +kernel
theorem dX12_cost_67 : decode cX12_cost 67 = .ok (.iload_n 2, 1) := by decide +kernel
theorem dX12_cost_68 : decode cX12_cost 68 = .ok (.iconst 1, 1) := by decide +kernel
theorem dX12_cost_69 : decode cX12_cost 69 = .ok (.if_icmp .ne 10, 3) := by decide +kernel
theorem dX12_cost_72 : decode cX12_cost 72 = .ok (.aload_n 0, 1) := by decide +kernel
theorem dX12_cost_73 : decode cX12_cost 73 = .ok (.getfield 243, 3) := by decide +kernel
theorem dX12_cost_76 : decode cX12_cost 76 = .ok (.goto 7, 3) := by decide +kernel
theorem dX12_cost_79 : decode cX12_cost 79 = .ok (.aload_n 0, 1) := by decide +kernel
theorem dX12_cost_80 : decode cX12_cost 80 = .ok (.getfield 237, 3) := by decide +kernel
theorem dX12_cost_83 : decode cX12_cost 83 = .ok (.ireturn, 1) := by decide +kernel
theorem dX12_told_0 : decode cX12_told 0 = .ok (.aload_n 0, 1) := by decide +kernel
theorem dX12_told_1 : decode cX12_told 1 = .ok (.iconst 0, 1) := by decide +kernel
theorem dX12_told_2 : decode cX12_told 2 = .ok (.putfield 57, 3) := by decide +kernel
theorem dX12_told_5 : decode cX12_told 5 = .ok (.aload_n 0, 1) := by decide +kernel
theorem dX12_told_6 : decode cX12_told 6 = .ok (.iload_n 1, 1) := by decide +kernel
theorem dX12_told_7 : decode cX12_told 7 = .ok (.iload_n 2, 1) := by decide +kernel
theorem dX12_told_8 : decode cX12_told 8 = .ok (.iload_n 3, 1) := by decide +kernel
theorem dX12_told_9 : decode cX12_told 9 = .ok (.invokevirtual 290, 3) := by decide +kernel
theorem dX12_told_12 : decode cX12_told 12 = .ok (.ifCond .eq 33, 3) := by decide +kernel
theorem dX12_told_15 : decode cX12_told 15 = .ok (.aload_n 0, 1) := by decide +kernel
theorem dX12_told_16 : decode cX12_told 16 = .ok (.iload 4, 2) := by decide +kernel
theorem dX12_told_18 : decode cX12_told 18 = .ok (.invokevirtual 278, 3) := by decide +kernel
theorem dX12_told_21 : decode cX12_told 21 = .ok (.ifCond .eq 24, 3) := by decide +kernel
theorem dX12_told_24 : decode cX12_told 24 = .ok (.aload_n 0, 1) := by decide +kernel
theorem dX12_told_25 : decode cX12_told 25 = .ok (.iload 5, 2) := by decide +kernel
theorem dX12_told_27 : decode cX12_told 27 = .ok (.invokevirtual 278, 3) := by decide +kernel
theorem dX12_told_30 : decode cX12_told 30 = .ok (.ifCond .eq 15, 3) := by decide +kernel
theorem dX12_told_33 : decode cX12_told 33 = .ok (.iload_n 1, 1) := by decide +kernel
theorem dX12_told_34 : decode cX12_told 34 = .ok (.iload 4, 2) := by decide +kernel
theorem dX12_told_36 : decode cX12_told 36 = .ok (.if_icmp .eq 11, 3) := by decide +kernel
theorem dX12_told_39 : decode cX12_told 39 = .ok (.iload_n 1, 1) := by decide +kernel
theorem dX12_told_40 : decode cX12_told 40 = .ok (.iload 5, 2) := by decide +kernel
theorem dX12_told_42 : decode cX12_told 42 = .ok (.if_icmp .eq 5, 3) := by decide +kernel
theorem dX12_told_45 : decode cX12_told 45 = .ok (.iconst (-1), 1) := by decide +kernel
theorem dX12_told_46 : decode cX12_told 46 = .ok (.ireturn, 1) := by decide +kernel
theorem dX12_told_47 : decode cX12_told 47 = .ok (.iconst 0, 1) := by decide +kernel
theorem dX12_told_48 : decode cX12_told 48 = .ok (.istore 6, 2) := by decide +kernel
theorem dX12_told_50 : decode cX12_told 50 = .ok (.iload 6, 2) := by decide +kernel
theorem dX12_told_52 : decode cX12_told 52 = .ok (.aload_n 0, 1) := by decide +kernel
theorem dX12_told_53 : decode cX12_told 53 = .ok (.getfield 171, 3) := by decide +kernel
theorem dX12_told_56 : decode cX12_told 56 = .ok (.if_icmp .ge 40, 3) := by decide +kernel
theorem dX12_told_59 : decode cX12_told 59 = .ok (.iload 6, 2) := by decide +kernel
theorem dX12_told_61 : decode cX12_told 61 = .ok (.iload 4, 2) := by decide +kernel
theorem dX12_told_63 : decode cX12_told 63 = .ok (.if_icmp .eq 27, 3) := by decide +kernel
theorem dX12_told_66 : decode cX12_told 66 = .ok (.iload 6, 2) := by decide +kernel
theorem dX12_told_68 : decode cX12_told 68 = .ok (.iload 5, 2) := by decide +kernel
theorem dX12_told_70 : decode cX12_told 70 = .ok (.if_icmp .eq 20, 3) := by decide +kernel
theorem dX12_told_73 : decode cX12_told 73 = .ok (.aload_n 0, 1) := by decide +kernel
theorem dX12_told_74 : decode cX12_told 74 = .ok (.getfield 38, 3) := by decide +kernel
theorem dX12_told_77 : decode cX12_told 77 = .ok (.iload 6, 2) := by decide +kernel
theorem dX12_told_79 : decode cX12_told 79 = .ok (.iload_n 2, 1) := by decide +kernel
theorem dX12_told_80 : decode cX12_told 80 = .ok (.invokestatic 202, 3) := by decide +kernel
theorem dX12_told_83 : decode cX12_told 83 = .ok (.ifCond .ne 7, 3) := by decide +kernel
theorem dX12_told_86 : decode cX12_told 86 = .ok (.ldc_w 393, 3) := by decide +kernel
theorem dX12_told_89 : decode cX12_told 89 = .ok (.ireturn, 1) := by decide +kernel
theorem dX12_told_90 : decode cX12_told 90 = .ok (.iinc 6 1, 3) := by decide +kernel
theorem dX12_told_93 : decode cX12_told 93 = .ok (.goto (-43), 3) := by decide +kernel
theorem dX12_told_96 : decode cX12_told 96 = .ok (.aload_n 0, 1) := by decide +kernel
theorem dX12_told_97 : decode cX12_told 97 = .ok (.aload_n 0, 1) := by decide +kernel
theorem dX12_told_98 : decode cX12_told 98 = .ok (.getfield 38, 3) := by decide +kernel
theorem dX12_told_101 : decode cX12_told 101 = .ok (.iload_n 2, 1) := by decide +kernel
theorem dX12_told_102 : decode cX12_told 102 = .ok (.iload_n 3, 1) := by decide +kernel
theorem dX12_told_103 : decode cX12_told 103 = .ok (.iload 4, 2) := by decide +kernel
theorem dX12_told_105 : decode cX12_told 105 = .ok (.iload 5, 2) := by decide +kernel
theorem dX12_told_107 : decode cX12_told 107 = .ok (.invokevirtual 223, 3) := by decide +kernel
theorem dX12_told_110 : decode cX12_told 110 = .ok (.aload_n 0, 1) := by decide +kernel
theorem dX12_told_111 : decode cX12_told 111 = .ok (.invokevirtual 227, 3) := by decide +kernel
theorem dX12_told_114 : decode cX12_told 114 = .ok (.aload_n 0, 1) := by decide +kernel
theorem dX12_told_115 : decode cX12_told 115 = .ok (.getfield 50, 3) := by decide +kernel
theorem dX12_told_118 : decode cX12_told 118 = .ok (.aload_n 0, 1) := by decide +kernel
theorem dX12_told_119 : decode cX12_told 119 = .ok (.iload_n 2, 1) := by decide +kernel
theorem dX12_told_120 : decode cX12_told 120 = .ok (.iload_n 1, 1) := by decide +kernel
theorem dX12_told_121 : decode cX12_told 121 = .ok (.invokevirtual 340, 3) := by decide +kernel
theorem dX12_told_124 : decode cX12_told 124 = .ok (.iaload, 1) := by decide +kernel
theorem dX12_told_125 : decode cX12_told 125 = .ok (.ireturn, 1) := by decide +kernel
theorem dX12_who_0 : decode cX12_who 0 = .ok (.aload_n 0, 1) := by decide +kernel
theorem dX12_who_1 : decode cX12_who 1 = .ok (.iconst 0, 1) := by decide +kernel
theorem dX12_who_2 : decode cX12_who 2 = .ok (.putfield 57, 3) := by decide +kernel
theorem dX12_who_5 : decode cX12_who 5 = .ok (.aload_n 0, 1) := by decide +kernel
theorem dX12_who_6 : decode cX12_who 6 = .ok (.iconst 0, 1) := by decide +kernel
theorem dX12_who_7 : decode cX12_who 7 = .ok (.iload_n 1, 1) := by decide +kernel
theorem dX12_who_8 : decode cX12_who 8 = .ok (.iload_n 2, 1) := by decide +kernel
theorem dX12_who_9 : decode cX12_who 9 = .ok (.invokevirtual 290, 3) := by decide +kernel
theorem dX12_who_12 : decode cX12_who 12 = .ok (.ifCond .eq 26, 3) := by decide +kernel
theorem dX12_who_15 : decode cX12_who 15 = .ok (.aload_n 0, 1) := by decide +kernel
theorem dX12_who_16 : decode cX12_who 16 = .ok (.aload_n 0, 1) := by decide +kernel
theorem dX12_who_17 : decode cX12_who 17 = .ok (.getfield 38, 3) := by decide +kernel
theorem dX12_who_20 : decode cX12_who 20 = .ok (.iload_n 1, 1) := by decide +kernel
theorem dX12_who_21 : decode cX12_who 21 = .ok (.invokevirtual 267, 3) := by decide +kernel
theorem dX12_who_24 : decode cX12_who 24 = .ok (.ifCond .eq 14, 3) := by decide +kernel
theorem dX12_who_27 : decode cX12_who 27 = .ok (.aload_n 0, 1) := by decide +kernel
theorem dX12_who_28 : decode cX12_who 28 = .ok (.getfield 38, 3) := by decide +kernel
theorem dX12_who_31 : decode cX12_who 31 = .ok (.iload_n 1, 1) := by decide +kernel
theorem dX12_who_32 : decode cX12_who 32 = .ok (.invokestatic 271, 3) := by decide +kernel
theorem dX12_who_35 : decode cX12_who 35 = .ok (.ifCond .eq 7, 3) := by decide +kernel
theorem dX12_who_38 : decode cX12_who 38 = .ok (.ldc_w 393, 3) := by decide +kernel
theorem dX12_who_41 : decode cX12_who 41 = .ok (.ireturn, 1) := by decide +kernel
theorem dX12_who_42 : decode cX12_who 42 = .ok (.aload_n 0, 1) := by decide +kernel
theorem dX12_who_43 : decode cX12_who 43 = .ok (.aload_n 0, 1) := by decide +kernel
theorem dX12_who_44 : decode cX12_who 44 = .ok (.getfield 38, 3) := by decide +kernel
theorem dX12_who_47 : decode cX12_who 47 = .ok (.iload_n 1, 1) := by decide +kernel
theorem dX12_who_48 : decode cX12_who 48 = .ok (.iload_n 2, 1) := by decide +kernel
theorem dX12_who_49 : decode cX12_who 49 = .ok (.iconst (-1), 1) := by decide +kernel
theorem dX12_who_50 : decode cX12_who 50 = .ok (.iconst (-1), 1) := by decide +kernel
theorem dX12_who_51 : decode cX12_who 51 = .ok (.invokevirtual 223, 3) := by decide +kernel
theorem dX12_who_54 : decode cX12_who 54 = .ok (.aload_n 0, 1) := by decide +kernel
theorem dX12_who_55 : decode cX12_who 55 = .ok (.invokevirtual 264, 3) := by decide +kernel
theorem dX12_who_58 : decode cX12_who 58 = .ok (.istore_n 3, 1) := by decide +kernel
theorem dX12_who_59 : decode cX12_who 59 = .ok (.iload_n 3, 1) := by decide +kernel
theorem dX12_who_60 : decode cX12_who 60 = .ok (.ifCond .ge 7, 3) := by decide +kernel
theorem dX12_who_63 : decode cX12_who 63 = .ok (.iload_n 3, 1) := by decide +kernel
theorem dX12_who_64 : decode cX12_who 64 = .ok (.goto 9, 3) := by decide +kernel
theorem dX12_who_67 : decode cX12_who 67 = .ok (.aload_n 0, 1) := by decide +kernel
theorem dX12_who_68 : decode cX12_who 68 = .ok (.iload_n 1, 1) := by decide +kernel
theorem dX12_who_69 : decode cX12_who 69 = .ok (.iload_n 3, 1) := by decide +kernel
theorem dX12_who_70 : decode cX12_who 70 = .ok (.invokevirtual 199, 3) := by decide +kernel
theorem dX12_who_73 : decode cX12_who 73 = .ok (.ireturn, 1) := by decide +kernel
theorem dX12_more_0 : decode cX12_more 0 = .ok (.aload_n 0, 1) := by decide +kernel
theorem dX12_more_1 : decode cX12_more 1 = .ok (.iconst 0, 1) := by decide +kernel
theorem dX12_more_2 : decode cX12_more 2 = .ok (.putfield 57, 3) := by decide +kernel
theorem dX12_more_5 : decode cX12_more 5 = .ok (.aload_n 0, 1) := by decide +kernel
theorem dX12_more_6 : decode cX12_more 6 = .ok (.getfield 153, 3) := by decide +kernel
theorem dX12_more_9 : decode cX12_more 9 = .ok (.ifCond .ne 5, 3) := by decide +kernel
theorem dX12_more_12 : decode cX12_more 12 = .ok (.iconst (-1), 1) := by decide +kernel
theorem dX12_more_13 : decode cX12_more 13 = .ok (.ireturn, 1) := by decide +kernel
theorem dX12_more_14 : decode cX12_more 14 = .ok (.iconst 0, 1) := by decide +kernel
theorem dX12_more_15 : decode cX12_more 15 = .ok (.istore_n 1, 1) := by decide +kernel
theorem dX12_more_16 : decode cX12_more 16 = .ok (.iconst 0, 1) := by decide +kernel
theorem dX12_more_17 : decode cX12_more 17 = .ok (.istore_n 2, 1) := by decide +kernel
theorem dX12_more_18 : decode cX12_more 18 = .ok (.iload_n 2, 1) := by decide +kernel
theorem dX12_more_19 : decode cX12_more 19 = .ok (.aload_n 0, 1) := by decide +kernel
theorem dX12_more_20 : decode cX12_more 20 = .ok (.getfield 171, 3) := by decide +kernel
theorem dX12_more_23 : decode cX12_more 23 = .ok (.if_icmp .ge 36, 3) := by decide +kernel
theorem dX12_more_26 : decode cX12_more 26 = .ok (.iload_n 1, 1) := by decide +kernel
theorem dX12_more_27 : decode cX12_more 27 = .ok (.aload_n 0, 1) := by decide +kernel
theorem dX12_more_28 : decode cX12_more 28 = .ok (.aload_n 0, 1) := by decide +kernel
theorem dX12_more_29 : decode cX12_more 29 = .ok (.getfield 38, 3) := by decide +kernel
theorem dX12_more_32 : decode cX12_more 32 = .ok (.iconst 1, 1) := by decide +kernel
theorem dX12_more_33 : decode cX12_more 33 = .ok (.iload_n 2, 1) := by decide +kernel
theorem dX12_more_34 : decode cX12_more 34 = .ok (.iconst 0, 1) := by decide +kernel
theorem dX12_more_35 : decode cX12_more 35 = .ok (.iconst 0, 1) := by decide +kernel
theorem dX12_more_36 : decode cX12_more 36 = .ok (.iconst 0, 1) := by decide +kernel
theorem dX12_more_37 : decode cX12_more 37 = .ok (.invokevirtual 302, 3) := by decide +kernel
theorem dX12_more_40 : decode cX12_more 40 = .ok (.iconst (-1), 1) := by decide +kernel
theorem dX12_more_41 : decode cX12_more 41 = .ok (.if_icmp .ne 9, 3) := by decide +kernel
theorem dX12_more_44 : decode cX12_more 44 = .ok (.iconst 1, 1) := by decide +kernel
theorem dX12_more_45 : decode cX12_more 45 = .ok (.iload_n 2, 1) := by decide +kernel
theorem dX12_more_46 : decode cX12_more 46 = .ok (.ishl, 1) := by decide +kernel
theorem dX12_more_47 : decode cX12_more 47 = .ok (.goto 4, 3) := by decide +kernel
theorem dX12_more_50 : decode cX12_more 50 = .ok (.iconst 0, 1) := by decide +kernel
theorem dX12_more_51 : decode cX12_more 51 = .ok (.ior, 1) := by decide +kernel
theorem dX12_more_52 : decode cX12_more 52 = .ok (.istore_n 1, 1) := by decide +kernel
theorem dX12_more_53 : decode cX12_more 53 = .ok (.iinc 2 1, 3) := by decide +kernel
theorem dX12_more_56 : decode cX12_more 56 = .ok (.goto (-38), 3) := by decide +kernel
theorem dX12_more_59 : decode cX12_more 59 = .ok (.iload_n 1, 1) := by decide +kernel
theorem dX12_more_60 : decode cX12_more 60 = .ok (.ireturn, 1) := by decide +kernel
theorem dX12_left_0 : decode cX12_left 0 = .ok (.aload_n 0, 1) := by decide +kernel
theorem dX12_left_1 : decode cX12_left 1 = .ok (.iconst 0, 1) := by decide +kernel
theorem dX12_left_2 : decode cX12_left 2 = .ok (.putfield 57, 3) := by decide +kernel
theorem dX12_left_5 : decode cX12_left 5 = .ok (.aload_n 0, 1) := by decide +kernel
theorem dX12_left_6 : decode cX12_left 6 = .ok (.getfield 153, 3) := by decide +kernel
theorem dX12_left_9 : decode cX12_left 9 = .ok (.ifCond .eq 13, 3) := by decide +kernel
theorem dX12_left_12 : decode cX12_left 12 = .ok (.iload_n 1, 1) := by decide +kernel
theorem dX12_left_13 : decode cX12_left 13 = .ok (.i2l, 1) := by decide +kernel
theorem dX12_left_14 : decode cX12_left 14 = .ok (.lconst 0, 1) := by decide +kernel
theorem dX12_left_15 : decode cX12_left 15 = .ok (.lconst 1, 1) := by decide +kernel
theorem dX12_left_16 : decode cX12_left 16 = .ok (.invokestatic 117, 3) := by decide +kernel
theorem dX12_left_19 : decode cX12_left 19 = .ok (.ifCond .ne 5, 3) := by decide +kernel
theorem dX12_left_22 : decode cX12_left 22 = .ok (.iconst (-1), 1) := by decide +kernel
theorem dX12_left_23 : decode cX12_left 23 = .ok (.ireturn, 1) := by decide +kernel
theorem dX12_left_24 : decode cX12_left 24 = .ok (.aload_n 0, 1) := by decide +kernel
theorem dX12_left_25 : decode cX12_left 25 = .ok (.getfield 38, 3) := by decide +kernel
theorem dX12_left_28 : decode cX12_left 28 = .ok (.iconst 0, 1) := by decide +kernel
theorem dX12_left_29 : decode cX12_left 29 = .ok (.aload_n 0, 1) := by decide +kernel
theorem dX12_left_30 : decode cX12_left 30 = .ok (.getfield 41, 3) := by decide +kernel
theorem dX12_left_33 : decode cX12_left 33 = .ok (.iconst 0, 1) := by decide +kernel
theorem dX12_left_34 : decode cX12_left 34 = .ok (.invokestatic 349, 3) := by decide +kernel
theorem dX12_left_37 : decode cX12_left 37 = .ok (.iconst 0, 1) := by decide +kernel
theorem dX12_left_38 : decode cX12_left 38 = .ok (.istore_n 2, 1) := by decide +kernel
theorem dX12_left_39 : decode cX12_left 39 = .ok (.iconst 0, 1) := by decide +kernel
theorem dX12_left_40 : decode cX12_left 40 = .ok (.istore_n 3, 1) := by decide +kernel
theorem dX12_left_41 : decode cX12_left 41 = .ok (.iload_n 3, 1) := by decide +kernel
theorem dX12_left_42 : decode cX12_left 42 = .ok (.aload_n 0, 1) := by decide +kernel
theorem dX12_left_43 : decode cX12_left 43 = .ok (.getfield 171, 3) := by decide +kernel
theorem dX12_left_46 : decode cX12_left 46 = .ok (.if_icmp .ge 38, 3) := by decide +kernel
theorem dX12_left_49 : decode cX12_left 49 = .ok (.aload_n 0, 1) := by decide +kernel
theorem dX12_left_50 : decode cX12_left 50 = .ok (.getfield 41, 3) := by decide +kernel
theorem dX12_left_53 : decode cX12_left 53 = .ok (.sipush 384, 3) := by decide +kernel
theorem dX12_left_56 : decode cX12_left 56 = .ok (.iload_n 3, 1) := by decide +kernel
theorem dX12_left_57 : decode cX12_left 57 = .ok (.iadd, 1) := by decide +kernel
theorem dX12_left_58 : decode cX12_left 58 = .ok (.iaload, 1) := by decide +kernel
theorem dX12_left_59 : decode cX12_left 59 = .ok (.iconst 2, 1) := by decide +kernel
theorem dX12_left_60 : decode cX12_left 60 = .ok (.if_icmp .ne 18, 3) := by decide +kernel
theorem dX12_left_63 : decode cX12_left 63 = .ok (.aload_n 0, 1) := by decide +kernel
theorem dX12_left_64 : decode cX12_left 64 = .ok (.aload_n 0, 1) := by decide +kernel
theorem dX12_left_65 : decode cX12_left 65 = .ok (.getfield 41, 3) := by decide +kernel
theorem dX12_left_68 : decode cX12_left 68 = .ok (.iload_n 3, 1) := by decide +kernel
theorem dX12_left_69 : decode cX12_left 69 = .ok (.invokevirtual 320, 3) := by decide +kernel
theorem dX12_left_72 : decode cX12_left 72 = .ok (.iinc 2 1, 3) := by decide +kernel
theorem dX12_left_75 : decode cX12_left 75 = .ok (.goto (-26), 3) := by decide +kernel
theorem dX12_left_78 : decode cX12_left 78 = .ok (.iinc 3 1, 3) := by decide +kernel
theorem dX12_left_81 : decode cX12_left 81 = .ok (.goto (-40), 3) := by decide +kernel
theorem dX12_left_84 : decode cX12_left 84 = .ok (.iload_n 1, 1) := by decide +kernel
theorem dX12_left_85 : decode cX12_left 85 = .ok (.ifCond .ne 7, 3) := by decide +kernel
theorem dX12_left_88 : decode cX12_left 88 = .ok (.iload_n 2, 1) := by decide +kernel
theorem dX12_left_89 : decode cX12_left 89 = .ok (.goto 20, 3) := by decide +kernel
theorem dX12_left_92 : decode cX12_left 92 = .ok (.aload_n 0, 1) := by decide +kernel
theorem dX12_left_93 : decode cX12_left 93 = .ok (.getfield 41, 3) := by decide +kernel
theorem dX12_left_96 : decode cX12_left 96 = .ok (.sipush 427, 3) := by decide +kernel
theorem dX12_left_99 : decode cX12_left 99 = .ok (.iaload, 1) := by decide +kernel
theorem dX12_left_100 : decode cX12_left 100 = .ok (.aload_n 0, 1) := by decide +kernel
theorem dX12_left_101 : decode cX12_left 101 = .ok (.getfield 38, 3) := by decide +kernel
theorem dX12_left_104 : decode cX12_left 104 = .ok (.sipush 427, 3) := by decide +kernel
theorem dX12_left_107 : decode cX12_left 107 = .ok (.iaload, 1) := by decide +kernel
theorem dX12_left_108 : decode cX12_left 108 = .ok (.isub, 1) := by decide +kernel
theorem dX12_left_109 : decode cX12_left 109 = .ok (.ireturn, 1) := by decide +kernel
theorem dX12_lostBits_0 : decode cX12_lostBits 0 = .ok (.iconst 0, 1) := by decide +kernel
theorem dX12_lostBits_1 : decode cX12_lostBits 1 = .ok (.istore_n 1, 1) := by decide +kernel
theorem dX12_lostBits_2 : decode cX12_lostBits 2 = .ok (.iconst 0, 1) := by decide +kernel
theorem dX12_lostBits_3 : decode cX12_lostBits 3 = .ok (.istore_n 2, 1) := by decide +kernel
theorem dX12_lostBits_4 : decode cX12_lostBits 4 = .ok (.iload_n 2, 1) := by decide +kernel
theorem dX12_lostBits_5 : decode cX12_lostBits 5 = .ok (.aload_n 0, 1) := by decide +kernel
theorem dX12_lostBits_6 : decode cX12_lostBits 6 = .ok (.getfield 171, 3) := by decide +kernel
theorem dX12_lostBits_9 : decode cX12_lostBits 9 = .ok (.if_icmp .ge 32, 3) := by decide +kernel
theorem dX12_lostBits_12 : decode cX12_lostBits 12 = .ok (.iload_n 1, 1) := by decide +kernel
theorem dX12_lostBits_13 : decode cX12_lostBits 13 = .ok (.aload_n 0, 1) := by decide +kernel
theorem dX12_lostBits_14 : decode cX12_lostBits 14 = .ok (.getfield 38, 3) := by decide +kernel
theorem dX12_lostBits_17 : decode cX12_lostBits 17 = .ok (.sipush 384, 3) := by decide +kernel
theorem dX12_lostBits_20 : decode cX12_lostBits 20 = .ok (.iload_n 2, 1) := by decide +kernel
theorem dX12_lostBits_21 : decode cX12_lostBits 21 = .ok (.iadd, 1) := by decide +kernel
theorem dX12_lostBits_22 : decode cX12_lostBits 22 = .ok (.iaload, 1) := by decide +kernel
theorem dX12_lostBits_23 : decode cX12_lostBits 23 = .ok (.ifCond .ne 7, 3) := by decide +kernel
theorem dX12_lostBits_26 : decode cX12_lostBits 26 = .ok (.iconst 0, 1) := by decide +kernel
theorem dX12_lostBits_27 : decode cX12_lostBits 27 = .ok (.goto 6, 3) := by decide +kernel
theorem dX12_lostBits_30 : decode cX12_lostBits 30 = .ok (.iconst 1, 1) := by decide +kernel
theorem dX12_lostBits_31 : decode cX12_lostBits 31 = .ok (.iload_n 2, 1) := by decide +kernel
theorem dX12_lostBits_32 : decode cX12_lostBits 32 = .ok (.ishl, 1) := by decide +kernel
theorem dX12_lostBits_33 : decode cX12_lostBits 33 = .ok (.ior, 1) := by decide +kernel
theorem dX12_lostBits_34 : decode cX12_lostBits 34 = .ok (.istore_n 1, 1) := by decide +kernel
theorem dX12_lostBits_35 : decode cX12_lostBits 35 = .ok (.iinc 2 1, 3) := by decide +kernel
theorem dX12_lostBits_38 : decode cX12_lostBits 38 = .ok (.goto (-34), 3) := by decide +kernel
theorem dX12_lostBits_41 : decode cX12_lostBits 41 = .ok (.iload_n 1, 1) := by decide +kernel
theorem dX12_lostBits_42 : decode cX12_lostBits 42 = .ok (.ireturn, 1) := by decide +kernel
theorem dX12_risk_0 : decode cX12_risk 0 = .ok (.aload_n 0, 1) := by decide +kernel
theorem dX12_risk_1 : decode cX12_risk 1 = .ok (.iconst 0, 1) := by decide +kernel
theorem dX12_risk_2 : decode cX12_risk 2 = .ok (.putfield 57, 3) := by decide +kernel
theorem dX12_risk_5 : decode cX12_risk 5 = .ok (.aload_n 0, 1) := by decide +kernel
theorem dX12_risk_6 : decode cX12_risk 6 = .ok (.getfield 153, 3) := by decide +kernel
theorem dX12_risk_9 : decode cX12_risk 9 = .ok (.ifCond .ne 5, 3) := by decide +kernel
theorem dX12_risk_12 : decode cX12_risk 12 = .ok (.iconst (-1), 1) := by decide +kernel
theorem dX12_risk_13 : decode cX12_risk 13 = .ok (.ireturn, 1) := by decide +kernel
theorem dX12_risk_14 : decode cX12_risk 14 = .ok (.iconst 0, 1) := by decide +kernel
theorem dX12_risk_15 : decode cX12_risk 15 = .ok (.istore_n 1, 1) := by decide +kernel
theorem dX12_risk_16 : decode cX12_risk 16 = .ok (.iconst 0, 1) := by decide +kernel
theorem dX12_risk_17 : decode cX12_risk 17 = .ok (.istore_n 2, 1) := by decide +kernel
theorem dX12_risk_18 : decode cX12_risk 18 = .ok (.iload_n 2, 1) := by decide +kernel
theorem dX12_risk_19 : decode cX12_risk 19 = .ok (.aload_n 0, 1) := by decide +kernel
theorem dX12_risk_20 : decode cX12_risk 20 = .ok (.getfield 171, 3) := by decide +kernel
theorem dX12_risk_23 : decode cX12_risk 23 = .ok (.if_icmp .ge 77, 3) := by decide +kernel
theorem dX12_risk_26 : decode cX12_risk 26 = .ok (.iload_n 2, 1) := by decide +kernel
theorem dX12_risk_27 : decode cX12_risk 27 = .ok (.iconst 1, 1) := by decide +kernel
theorem dX12_risk_28 : decode cX12_risk 28 = .ok (.iadd, 1) := by decide +kernel
theorem dX12_risk_29 : decode cX12_risk 29 = .ok (.istore_n 3, 1) := by decide +kernel
theorem dX12_risk_30 : decode cX12_risk 30 = .ok (.iload_n 3, 1) := by decide +kernel
theorem dX12_risk_31 : decode cX12_risk 31 = .ok (.aload_n 0, 1) := by decide +kernel
theorem dX12_risk_32 : decode cX12_risk 32 = .ok (.getfield 171, 3) := by decide +kernel
theorem dX12_risk_35 : decode cX12_risk 35 = .ok (.if_icmp .ge 59, 3) := by decide +kernel
theorem dX12_risk_38 : decode cX12_risk 38 = .ok (.aload_n 0, 1) := by decide +kernel
theorem dX12_risk_39 : decode cX12_risk 39 = .ok (.getfield 38, 3) := by decide +kernel
theorem dX12_risk_42 : decode cX12_risk 42 = .ok (.sipush 384, 3) := by decide +kernel
theorem dX12_risk_45 : decode cX12_risk 45 = .ok (.iload_n 2, 1) := by decide +kernel
theorem dX12_risk_46 : decode cX12_risk 46 = .ok (.iadd, 1) := by decide +kernel
theorem dX12_risk_47 : decode cX12_risk 47 = .ok (.iaload, 1) := by decide +kernel
theorem dX12_risk_48 : decode cX12_risk 48 = .ok (.iconst 1, 1) := by decide +kernel
theorem dX12_risk_49 : decode cX12_risk 49 = .ok (.if_icmp .eq 39, 3) := by decide +kernel
theorem dX12_risk_52 : decode cX12_risk 52 = .ok (.aload_n 0, 1) := by decide +kernel
theorem dX12_risk_53 : decode cX12_risk 53 = .ok (.getfield 38, 3) := by decide +kernel
theorem dX12_risk_56 : decode cX12_risk 56 = .ok (.sipush 384, 3) := by decide +kernel
theorem dX12_risk_59 : decode cX12_risk 59 = .ok (.iload_n 3, 1) := by decide +kernel
theorem dX12_risk_60 : decode cX12_risk 60 = .ok (.iadd, 1) := by decide +kernel
theorem dX12_risk_61 : decode cX12_risk 61 = .ok (.iaload, 1) := by decide +kernel
theorem dX12_risk_62 : decode cX12_risk 62 = .ok (.iconst 1, 1) := by decide +kernel
theorem dX12_risk_63 : decode cX12_risk 63 = .ok (.if_icmp .eq 25, 3) := by decide +kernel
theorem dX12_risk_66 : decode cX12_risk 66 = .ok (.aload_n 0, 1) := by decide +kernel
theorem dX12_risk_67 : decode cX12_risk 67 = .ok (.invokevirtual 394, 3) := by decide +kernel
theorem dX12_risk_70 : decode cX12_risk 70 = .ok (.iconst 1, 1) := by decide +kernel
theorem dX12_risk_71 : decode cX12_risk 71 = .ok (.iload_n 2, 1) := by decide +kernel
theorem dX12_risk_72 : decode cX12_risk 72 = .ok (.ishl, 1) := by decide +kernel
theorem dX12_risk_73 : decode cX12_risk 73 = .ok (.ior, 1) := by decide +kernel
theorem dX12_risk_74 : decode cX12_risk 74 = .ok (.iconst 1, 1) := by decide +kernel
theorem dX12_risk_75 : decode cX12_risk 75 = .ok (.iload_n 3, 1) := by decide +kernel
theorem dX12_risk_76 : decode cX12_risk 76 = .ok (.ishl, 1) := by decide +kernel
theorem dX12_risk_77 : decode cX12_risk 77 = .ok (.ior, 1) := by decide +kernel
theorem dX12_risk_78 : decode cX12_risk 78 = .ok (.invokestatic 330, 3) := by decide +kernel
theorem dX12_risk_81 : decode cX12_risk 81 = .ok (.iconst 2, 1) := by decide +kernel
theorem dX12_risk_82 : decode cX12_risk 82 = .ok (.if_icmp .gt 6, 3) := by decide +kernel
theorem dX12_risk_85 : decode cX12_risk 85 = .ok (.iinc 1 1, 3) := by decide +kernel
theorem dX12_risk_88 : decode cX12_risk 88 = .ok (.iinc 3 1, 3) := by decide +kernel
theorem dX12_risk_91 : decode cX12_risk 91 = .ok (.goto (-61), 3) := by decide +kernel
theorem dX12_risk_94 : decode cX12_risk 94 = .ok (.iinc 2 1, 3) := by decide +kernel
theorem dX12_risk_97 : decode cX12_risk 97 = .ok (.goto (-79), 3) := by decide +kernel
theorem dX12_risk_100 : decode cX12_risk 100 = .ok (.iload_n 1, 1) := by decide +kernel
theorem dX12_risk_101 : decode cX12_risk 101 = .ok (.ireturn, 1) := by decide +kernel
theorem dX12_first_0 : decode cX12_first 0 = .ok (.aload_n 0, 1) := by decide +kernel
theorem dX12_first_1 : decode cX12_first 1 = .ok (.iconst 0, 1) := by decide +kernel
theorem dX12_first_2 : decode cX12_first 2 = .ok (.putfield 57, 3) := by decide +kernel
theorem dX12_first_5 : decode cX12_first 5 = .ok (.aload_n 0, 1) := by decide +kernel
theorem dX12_first_6 : decode cX12_first 6 = .ok (.getfield 153, 3) := by decide +kernel
theorem dX12_first_9 : decode cX12_first 9 = .ok (.ifCond .eq 15, 3) := by decide +kernel
theorem dX12_first_12 : decode cX12_first 12 = .ok (.iload_n 1, 1) := by decide +kernel
theorem dX12_first_13 : decode cX12_first 13 = .ok (.i2l, 1) := by decide +kernel
theorem dX12_first_14 : decode cX12_first 14 = .ok (.lconst 0, 1) := by decide +kernel
theorem dX12_first_15 : decode cX12_first 15 = .ok (.ldc2_w 294, 3) := by decide +kernel
theorem dX12_first_18 : decode cX12_first 18 = .ok (.invokestatic 117, 3) := by decide +kernel
theorem dX12_first_21 : decode cX12_first 21 = .ok (.ifCond .ne 5, 3) := by decide +kernel
theorem dX12_first_24 : decode cX12_first 24 = .ok (.iconst (-1), 1) := by decide +kernel
theorem dX12_first_25 : decode cX12_first 25 = .ok (.ireturn, 1) := by decide +kernel
theorem dX12_first_26 : decode cX12_first 26 = .ok (.iconst (-1), 1) := by decide +kernel
theorem dX12_first_27 : decode cX12_first 27 = .ok (.istore_n 2, 1) := by decide +kernel
theorem dX12_first_28 : decode cX12_first 28 = .ok (.iconst 0, 1) := by decide +kernel
theorem dX12_first_29 : decode cX12_first 29 = .ok (.istore_n 3, 1) := by decide +kernel
theorem dX12_first_30 : decode cX12_first 30 = .ok (.iload_n 3, 1) := by decide +kernel
theorem dX12_first_31 : decode cX12_first 31 = .ok (.aload_n 0, 1) := by decide +kernel
theorem dX12_first_32 : decode cX12_first 32 = .ok (.getfield 171, 3) := by decide +kernel
theorem dX12_first_35 : decode cX12_first 35 = .ok (.if_icmp .ge 53, 3) := by decide +kernel
theorem dX12_first_38 : decode cX12_first 38 = .ok (.aload_n 0, 1) := by decide +kernel
theorem dX12_first_39 : decode cX12_first 39 = .ok (.getfield 38, 3) := by decide +kernel
theorem dX12_first_42 : decode cX12_first 42 = .ok (.sipush 384, 3) := by decide +kernel
theorem dX12_first_45 : decode cX12_first 45 = .ok (.iload_n 3, 1) := by decide +kernel
theorem dX12_first_46 : decode cX12_first 46 = .ok (.iadd, 1) := by decide +kernel
theorem dX12_first_47 : decode cX12_first 47 = .ok (.iaload, 1) := by decide +kernel
theorem dX12_first_48 : decode cX12_first 48 = .ok (.iconst 2, 1) := by decide +kernel
theorem dX12_first_49 : decode cX12_first 49 = .ok (.if_icmp .ne 33, 3) := by decide +kernel
theorem dX12_first_52 : decode cX12_first 52 = .ok (.iload_n 2, 1) := by decide +kernel
theorem dX12_first_53 : decode cX12_first 53 = .ok (.iconst (-1), 1) := by decide +kernel
theorem dX12_first_54 : decode cX12_first 54 = .ok (.if_icmp .eq 26, 3) := by decide +kernel
theorem dX12_first_57 : decode cX12_first 57 = .ok (.aload_n 0, 1) := by decide +kernel
theorem dX12_first_58 : decode cX12_first 58 = .ok (.getfield 38, 3) := by decide +kernel
theorem dX12_first_61 : decode cX12_first 61 = .ok (.sipush 392, 3) := by decide +kernel
theorem dX12_first_64 : decode cX12_first 64 = .ok (.iload_n 3, 1) := by decide +kernel
theorem dX12_first_65 : decode cX12_first 65 = .ok (.iadd, 1) := by decide +kernel
theorem dX12_first_66 : decode cX12_first 66 = .ok (.iaload, 1) := by decide +kernel
theorem dX12_first_67 : decode cX12_first 67 = .ok (.aload_n 0, 1) := by decide +kernel
theorem dX12_first_68 : decode cX12_first 68 = .ok (.getfield 38, 3) := by decide +kernel
theorem dX12_first_71 : decode cX12_first 71 = .ok (.sipush 392, 3) := by decide +kernel
theorem dX12_first_74 : decode cX12_first 74 = .ok (.iload_n 2, 1) := by decide +kernel
theorem dX12_first_75 : decode cX12_first 75 = .ok (.iadd, 1) := by decide +kernel
theorem dX12_first_76 : decode cX12_first 76 = .ok (.iaload, 1) := by decide +kernel
theorem dX12_first_77 : decode cX12_first 77 = .ok (.if_icmp .le 5, 3) := by decide +kernel
theorem dX12_first_80 : decode cX12_first 80 = .ok (.iload_n 3, 1) := by decide +kernel
theorem dX12_first_81 : decode cX12_first 81 = .ok (.istore_n 2, 1) := by decide +kernel
theorem dX12_first_82 : decode cX12_first 82 = .ok (.iinc 3 1, 3) := by decide +kernel
theorem dX12_first_85 : decode cX12_first 85 = .ok (.goto (-55), 3) := by decide +kernel
theorem dX12_first_88 : decode cX12_first 88 = .ok (.iload_n 2, 1) := by decide +kernel
theorem dX12_first_89 : decode cX12_first 89 = .ok (.iconst (-1), 1) := by decide +kernel
theorem dX12_first_90 : decode cX12_first 90 = .ok (.if_icmp .eq 7, 3) := by decide +kernel
theorem dX12_first_93 : decode cX12_first 93 = .ok (.iload_n 1, 1) := by decide +kernel
theorem dX12_first_94 : decode cX12_first 94 = .ok (.ifCond .ne 5, 3) := by decide +kernel
theorem dX12_first_97 : decode cX12_first 97 = .ok (.iload_n 2, 1) := by decide +kernel
theorem dX12_first_98 : decode cX12_first 98 = .ok (.ireturn, 1) := by decide +kernel
theorem dX12_first_99 : decode cX12_first 99 = .ok (.iload_n 1, 1) := by decide +kernel
theorem dX12_first_100 : decode cX12_first 100 = .ok (.iconst 1, 1) := by decide +kernel
theorem dX12_first_101 : decode cX12_first 101 = .ok (.if_icmp .ne 21, 3) := by decide +kernel
theorem dX12_first_104 : decode cX12_first 104 = .ok (.aload_n 0, 1) := by decide +kernel
theorem dX12_first_105 : decode cX12_first 105 = .ok (.getfield 17, 3) := by decide +kernel
theorem dX12_first_108 : decode cX12_first 108 = .ok (.iconst 1, 1) := by decide +kernel
theorem dX12_first_109 : decode cX12_first 109 = .ok (.iaload, 1) := by decide +kernel
theorem dX12_first_110 : decode cX12_first 110 = .ok (.aload_n 0, 1) := by decide +kernel
theorem dX12_first_111 : decode cX12_first 111 = .ok (.getfield 38, 3) := by decide +kernel
theorem dX12_first_114 : decode cX12_first 114 = .ok (.sipush 392, 3) := by decide +kernel
theorem dX12_first_117 : decode cX12_first 117 = .ok (.iload_n 2, 1) := by decide +kernel
theorem dX12_first_118 : decode cX12_first 118 = .ok (.iadd, 1) := by decide +kernel
theorem dX12_first_119 : decode cX12_first 119 = .ok (.iaload, 1) := by decide +kernel
theorem dX12_first_120 : decode cX12_first 120 = .ok (.isub, 1) := by decide +kernel
theorem dX12_first_121 : decode cX12_first 121 = .ok (.ireturn, 1) := by decide +kernel
theorem dX12_first_122 : decode cX12_first 122 = .ok (.aload_n 0, 1) := by decide +kernel
theorem dX12_first_123 : decode cX12_first 123 = .ok (.getfield 38, 3) := by decide +kernel
theorem dX12_first_126 : decode cX12_first 126 = .ok (.iconst 0, 1) := by decide +kernel
theorem dX12_first_127 : decode cX12_first 127 = .ok (.aload_n 0, 1) := by decide +kernel
theorem dX12_first_128 : decode cX12_first 128 = .ok (.getfield 41, 3) := by decide +kernel
theorem dX12_first_131 : decode cX12_first 131 = .ok (.iconst 0, 1) := by decide +kernel
theorem dX12_first_132 : decode cX12_first 132 = .ok (.invokestatic 349, 3) := by decide +kernel
theorem dX12_first_135 : decode cX12_first 135 = .ok (.aload_n 0, 1) := by decide +kernel
theorem dX12_first_136 : decode cX12_first 136 = .ok (.getfield 41, 3) := by decide +kernel
theorem dX12_first_139 : decode cX12_first 139 = .ok (.sipush 384, 3) := by decide +kernel
theorem dX12_first_142 : decode cX12_first 142 = .ok (.iload_n 2, 1) := by decide +kernel
theorem dX12_first_143 : decode cX12_first 143 = .ok (.iadd, 1) := by decide +kernel
theorem dX12_first_144 : decode cX12_first 144 = .ok (.iaload, 1) := by decide +kernel
theorem dX12_first_145 : decode cX12_first 145 = .ok (.iconst 2, 1) := by decide +kernel
theorem dX12_first_146 : decode cX12_first 146 = .ok (.if_icmp .ne 15, 3) := by decide +kernel
theorem dX12_first_149 : decode cX12_first 149 = .ok (.aload_n 0, 1) := by decide +kernel
theorem dX12_first_150 : decode cX12_first 150 = .ok (.aload_n 0, 1) := by decide +kernel
theorem dX12_first_151 : decode cX12_first 151 = .ok (.getfield 41, 3) := by decide +kernel
theorem dX12_first_154 : decode cX12_first 154 = .ok (.iload_n 2, 1) := by decide +kernel
theorem dX12_first_155 : decode cX12_first 155 = .ok (.invokevirtual 320, 3) := by decide +kernel
theorem dX12_first_158 : decode cX12_first 158 = .ok (.goto (-23), 3) := by decide +kernel
theorem dX12_first_161 : decode cX12_first 161 = .ok (.aload_n 0, 1) := by decide +kernel
theorem dX12_first_162 : decode cX12_first 162 = .ok (.getfield 41, 3) := by decide +kernel
theorem dX12_first_165 : decode cX12_first 165 = .ok (.sipush 427, 3) := by decide +kernel
theorem dX12_first_168 : decode cX12_first 168 = .ok (.iaload, 1) := by decide +kernel
theorem dX12_first_169 : decode cX12_first 169 = .ok (.aload_n 0, 1) := by decide +kernel
theorem dX12_first_170 : decode cX12_first 170 = .ok (.getfield 38, 3) := by decide +kernel
theorem dX12_first_173 : decode cX12_first 173 = .ok (.sipush 427, 3) := by decide +kernel
theorem dX12_first_176 : decode cX12_first 176 = .ok (.iaload, 1) := by decide +kernel
theorem dX12_first_177 : decode cX12_first 177 = .ok (.isub, 1) := by decide +kernel
theorem dX12_first_178 : decode cX12_first 178 = .ok (.ireturn, 1) := by decide +kernel
theorem dX12_areThere_0 : decode cX12_areThere 0 = .ok (.iconst 0, 1) := by decide +kernel
theorem dX12_areThere_1 : decode cX12_areThere 1 = .ok (.istore 4, 2) := by decide +kernel
theorem dX12_areThere_3 : decode cX12_areThere 3 = .ok (.iload 4, 2) := by decide +kernel
theorem dX12_areThere_5 : decode cX12_areThere 5 = .ok (.aload_n 0, 1) := by decide +kernel
theorem dX12_areThere_6 : decode cX12_areThere 6 = .ok (.getfield 171, 3) := by decide +kernel
theorem dX12_areThere_9 : decode cX12_areThere 9 = .ok (.if_icmp .ge 36, 3) := by decide +kernel
theorem dX12_areThere_12 : decode cX12_areThere 12 = .ok (.iload 4, 2) := by decide +kernel
theorem dX12_areThere_14 : decode cX12_areThere 14 = .ok (.iload_n 2, 1) := by decide +kernel
theorem dX12_areThere_15 : decode cX12_areThere 15 = .ok (.if_icmp .eq 24, 3) := by decide +kernel
theorem dX12_areThere_18 : decode cX12_areThere 18 = .ok (.iload 4, 2) := by decide +kernel
theorem dX12_areThere_20 : decode cX12_areThere 20 = .ok (.iload_n 3, 1) := by decide +kernel
theorem dX12_areThere_21 : decode cX12_areThere 21 = .ok (.if_icmp .eq 18, 3) := by decide +kernel
theorem dX12_areThere_24 : decode cX12_areThere 24 = .ok (.aload_n 0, 1) := by decide +kernel
theorem dX12_areThere_25 : decode cX12_areThere 25 = .ok (.getfield 38, 3) := by decide +kernel
theorem dX12_areThere_28 : decode cX12_areThere 28 = .ok (.iload 4, 2) := by decide +kernel
theorem dX12_areThere_30 : decode cX12_areThere 30 = .ok (.iload_n 1, 1) := by decide +kernel
theorem dX12_areThere_31 : decode cX12_areThere 31 = .ok (.invokestatic 202, 3) := by decide +kernel
theorem dX12_areThere_34 : decode cX12_areThere 34 = .ok (.ifCond .ne 5, 3) := by decide +kernel
theorem dX12_areThere_37 : decode cX12_areThere 37 = .ok (.iconst 0, 1) := by decide +kernel
theorem dX12_areThere_38 : decode cX12_areThere 38 = .ok (.ireturn, 1) := by decide +kernel
theorem dX12_areThere_39 : decode cX12_areThere 39 = .ok (.iinc 4 1, 3) := by decide +kernel
theorem dX12_areThere_42 : decode cX12_areThere 42 = .ok (.goto (-39), 3) := by decide +kernel
theorem dX12_areThere_45 : decode cX12_areThere 45 = .ok (.iconst 1, 1) := by decide +kernel
theorem dX12_areThere_46 : decode cX12_areThere 46 = .ok (.ireturn, 1) := by decide +kernel
theorem dX12_votes_0 : decode cX12_votes 0 = .ok (.aload_n 0, 1) := by decide +kernel
theorem dX12_votes_1 : decode cX12_votes 1 = .ok (.iconst 0, 1) := by decide +kernel
theorem dX12_votes_2 : decode cX12_votes 2 = .ok (.putfield 57, 3) := by decide +kernel
theorem dX12_votes_5 : decode cX12_votes 5 = .ok (.aload_n 0, 1) := by decide +kernel
theorem dX12_votes_6 : decode cX12_votes 6 = .ok (.iload_n 1, 1) := by decide +kernel
theorem dX12_votes_7 : decode cX12_votes 7 = .ok (.invokevirtual 281, 3) := by decide +kernel
theorem dX12_votes_10 : decode cX12_votes 10 = .ok (.ifCond .eq 10, 3) := by decide +kernel
theorem dX12_votes_13 : decode cX12_votes 13 = .ok (.iload_n 2, 1) := by decide +kernel
theorem dX12_votes_14 : decode cX12_votes 14 = .ok (.invokestatic 156, 3) := by decide +kernel
theorem dX12_votes_17 : decode cX12_votes 17 = .ok (.ifCond .ne 5, 3) := by decide +kernel
theorem dX12_votes_20 : decode cX12_votes 20 = .ok (.iconst (-1), 1) := by decide +kernel
theorem dX12_votes_21 : decode cX12_votes 21 = .ok (.ireturn, 1) := by decide +kernel
theorem dX12_votes_22 : decode cX12_votes 22 = .ok (.aload_n 0, 1) := by decide +kernel
theorem dX12_votes_23 : decode cX12_votes 23 = .ok (.iload_n 1, 1) := by decide +kernel
theorem dX12_votes_24 : decode cX12_votes 24 = .ok (.invokevirtual 217, 3) := by decide +kernel
theorem dX12_votes_27 : decode cX12_votes 27 = .ok (.istore_n 3, 1) := by decide +kernel
theorem dX12_votes_28 : decode cX12_votes 28 = .ok (.iconst 0, 1) := by decide +kernel
theorem dX12_votes_29 : decode cX12_votes 29 = .ok (.istore 4, 2) := by decide +kernel
theorem dX12_votes_31 : decode cX12_votes 31 = .ok (.iconst 0, 1) := by decide +kernel
theorem dX12_votes_32 : decode cX12_votes 32 = .ok (.istore 5, 2) := by decide +kernel
theorem dX12_votes_34 : decode cX12_votes 34 = .ok (.iload 5, 2) := by decide +kernel
theorem dX12_votes_36 : decode cX12_votes 36 = .ok (.aload_n 0, 1) := by decide +kernel
theorem dX12_votes_37 : decode cX12_votes 37 = .ok (.getfield 171, 3) := by decide +kernel
theorem dX12_votes_40 : decode cX12_votes 40 = .ok (.if_icmp .ge 91, 3) := by decide +kernel
theorem dX12_votes_43 : decode cX12_votes 43 = .ok (.iload 5, 2) := by decide +kernel
theorem dX12_votes_45 : decode cX12_votes 45 = .ok (.iconst 1, 1) := by decide +kernel
theorem dX12_votes_46 : decode cX12_votes 46 = .ok (.iadd, 1) := by decide +kernel
theorem dX12_votes_47 : decode cX12_votes 47 = .ok (.istore 6, 2) := by decide +kernel
theorem dX12_votes_49 : decode cX12_votes 49 = .ok (.iload 6, 2) := by decide +kernel
theorem dX12_votes_51 : decode cX12_votes 51 = .ok (.aload_n 0, 1) := by decide +kernel
theorem dX12_votes_52 : decode cX12_votes 52 = .ok (.getfield 171, 3) := by decide +kernel
theorem dX12_votes_55 : decode cX12_votes 55 = .ok (.if_icmp .ge 70, 3) := by decide +kernel
theorem dX12_votes_58 : decode cX12_votes 58 = .ok (.aload_n 0, 1) := by decide +kernel
theorem dX12_votes_59 : decode cX12_votes 59 = .ok (.iload_n 3, 1) := by decide +kernel
theorem dX12_votes_60 : decode cX12_votes 60 = .ok (.iload 5, 2) := by decide +kernel
theorem dX12_votes_62 : decode cX12_votes 62 = .ok (.iload 6, 2) := by decide +kernel
theorem dX12_votes_64 : decode cX12_votes 64 = .ok (.invokevirtual 397, 3) := by decide +kernel
theorem dX12_votes_67 : decode cX12_votes 67 = .ok (.ifCond .ne 6, 3) := by decide +kernel
theorem dX12_votes_70 : decode cX12_votes 70 = .ok (.goto 49, 3) := by decide +kernel
theorem dX12_votes_73 : decode cX12_votes 73 = .ok (.aload_n 0, 1) := by decide +kernel
theorem dX12_votes_74 : decode cX12_votes 74 = .ok (.aload_n 0, 1) := by decide +kernel
theorem dX12_votes_75 : decode cX12_votes 75 = .ok (.getfield 38, 3) := by decide +kernel
theorem dX12_votes_78 : decode cX12_votes 78 = .ok (.iload_n 3, 1) := by decide +kernel
theorem dX12_votes_79 : decode cX12_votes 79 = .ok (.aload_n 0, 1) := by decide +kernel
theorem dX12_votes_80 : decode cX12_votes 80 = .ok (.iload_n 1, 1) := by decide +kernel
theorem dX12_votes_81 : decode cX12_votes 81 = .ok (.invokevirtual 220, 3) := by decide +kernel
theorem dX12_votes_84 : decode cX12_votes 84 = .ok (.iload 5, 2) := by decide +kernel
theorem dX12_votes_86 : decode cX12_votes 86 = .ok (.iload 6, 2) := by decide +kernel
theorem dX12_votes_88 : decode cX12_votes 88 = .ok (.invokevirtual 223, 3) := by decide +kernel
theorem dX12_votes_91 : decode cX12_votes 91 = .ok (.aload_n 0, 1) := by decide +kernel
theorem dX12_votes_92 : decode cX12_votes 92 = .ok (.invokevirtual 227, 3) := by decide +kernel
theorem dX12_votes_95 : decode cX12_votes 95 = .ok (.iload 4, 2) := by decide +kernel
theorem dX12_votes_97 : decode cX12_votes 97 = .ok (.aload_n 0, 1) := by decide +kernel
theorem dX12_votes_98 : decode cX12_votes 98 = .ok (.getfield 50, 3) := by decide +kernel
theorem dX12_votes_101 : decode cX12_votes 101 = .ok (.aload_n 0, 1) := by decide +kernel
theorem dX12_votes_102 : decode cX12_votes 102 = .ok (.iload_n 1, 1) := by decide +kernel
theorem dX12_votes_103 : decode cX12_votes 103 = .ok (.invokevirtual 230, 3) := by decide +kernel
theorem dX12_votes_106 : decode cX12_votes 106 = .ok (.iaload, 1) := by decide +kernel
theorem dX12_votes_107 : decode cX12_votes 107 = .ok (.iload_n 2, 1) := by decide +kernel
theorem dX12_votes_108 : decode cX12_votes 108 = .ok (.if_icmp .ne 7, 3) := by decide +kernel
theorem dX12_votes_111 : decode cX12_votes 111 = .ok (.iconst 1, 1) := by decide +kernel
theorem dX12_votes_112 : decode cX12_votes 112 = .ok (.goto 4, 3) := by decide +kernel
theorem dX12_votes_115 : decode cX12_votes 115 = .ok (.iconst 0, 1) := by decide +kernel
theorem dX12_votes_116 : decode cX12_votes 116 = .ok (.iadd, 1) := by decide +kernel
theorem dX12_votes_117 : decode cX12_votes 117 = .ok (.istore 4, 2) := by decide +kernel
theorem dX12_votes_119 : decode cX12_votes 119 = .ok (.iinc 6 1, 3) := by decide +kernel
theorem dX12_votes_122 : decode cX12_votes 122 = .ok (.goto (-73), 3) := by decide +kernel
theorem dX12_votes_125 : decode cX12_votes 125 = .ok (.iinc 5 1, 3) := by decide +kernel
theorem dX12_votes_128 : decode cX12_votes 128 = .ok (.goto (-94), 3) := by decide +kernel
theorem dX12_votes_131 : decode cX12_votes 131 = .ok (.iload 4, 2) := by decide +kernel
theorem dX12_votes_133 : decode cX12_votes 133 = .ok (.ireturn, 1) := by decide +kernel
theorem dX12_isFit_0 : decode cX12_isFit 0 = .ok (.aload_n 0, 1) := by decide +kernel
theorem dX12_isFit_1 : decode cX12_isFit 1 = .ok (.aload_n 0, 1) := by decide +kernel
theorem dX12_isFit_2 : decode cX12_isFit 2 = .ok (.getfield 38, 3) := by decide +kernel
theorem dX12_isFit_5 : decode cX12_isFit 5 = .ok (.iload_n 1, 1) := by decide +kernel
theorem dX12_isFit_6 : decode cX12_isFit 6 = .ok (.invokevirtual 267, 3) := by decide +kernel
theorem dX12_isFit_9 : decode cX12_isFit 9 = .ok (.ifCond .ne 5, 3) := by decide +kernel
theorem dX12_isFit_12 : decode cX12_isFit 12 = .ok (.iconst 0, 1) := by decide +kernel
theorem dX12_isFit_13 : decode cX12_isFit 13 = .ok (.ireturn, 1) := by decide +kernel
theorem dX12_isFit_14 : decode cX12_isFit 14 = .ok (.iconst 0, 1) := by decide +kernel
theorem dX12_isFit_15 : decode cX12_isFit 15 = .ok (.istore_n 2, 1) := by decide +kernel
theorem dX12_isFit_16 : decode cX12_isFit 16 = .ok (.iload_n 2, 1) := by decide +kernel
theorem dX12_isFit_17 : decode cX12_isFit 17 = .ok (.aload_n 0, 1) := by decide +kernel
theorem dX12_isFit_18 : decode cX12_isFit 18 = .ok (.getfield 17, 3) := by decide +kernel
theorem dX12_isFit_21 : decode cX12_isFit 21 = .ok (.iconst 2, 1) := by decide +kernel
theorem dX12_isFit_22 : decode cX12_isFit 22 = .ok (.iaload, 1) := by decide +kernel
theorem dX12_isFit_23 : decode cX12_isFit 23 = .ok (.if_icmp .ge 31, 3) := by decide +kernel
theorem dX12_isFit_26 : decode cX12_isFit 26 = .ok (.aload_n 0, 1) := by decide +kernel
theorem dX12_isFit_27 : decode cX12_isFit 27 = .ok (.aload_n 0, 1) := by decide +kernel
theorem dX12_isFit_28 : decode cX12_isFit 28 = .ok (.getfield 38, 3) := by decide +kernel
theorem dX12_isFit_31 : decode cX12_isFit 31 = .ok (.iload_n 1, 1) := by decide +kernel
theorem dX12_isFit_32 : decode cX12_isFit 32 = .ok (.iload_n 2, 1) := by decide +kernel
theorem dX12_isFit_33 : decode cX12_isFit 33 = .ok (.iconst (-1), 1) := by decide +kernel
theorem dX12_isFit_34 : decode cX12_isFit 34 = .ok (.iconst (-1), 1) := by decide +kernel
theorem dX12_isFit_35 : decode cX12_isFit 35 = .ok (.invokevirtual 223, 3) := by decide +kernel
theorem dX12_isFit_38 : decode cX12_isFit 38 = .ok (.aload_n 0, 1) := by decide +kernel
theorem dX12_isFit_39 : decode cX12_isFit 39 = .ok (.invokevirtual 264, 3) := by decide +kernel
theorem dX12_isFit_42 : decode cX12_isFit 42 = .ok (.iconst (-1), 1) := by decide +kernel
theorem dX12_isFit_43 : decode cX12_isFit 43 = .ok (.if_icmp .eq 5, 3) := by decide +kernel
theorem dX12_isFit_46 : decode cX12_isFit 46 = .ok (.iconst 0, 1) := by decide +kernel
theorem dX12_isFit_47 : decode cX12_isFit 47 = .ok (.ireturn, 1) := by decide +kernel
theorem dX12_isFit_48 : decode cX12_isFit 48 = .ok (.iinc 2 1, 3) := by decide +kernel
theorem dX12_isFit_51 : decode cX12_isFit 51 = .ok (.goto (-35), 3) := by decide +kernel
theorem dX12_isFit_54 : decode cX12_isFit 54 = .ok (.iconst 1, 1) := by decide +kernel
theorem dX12_isFit_55 : decode cX12_isFit 55 = .ok (.ireturn, 1) := by decide +kernel
theorem dX12_fit_0 : decode cX12_fit 0 = .ok (.aload_n 0, 1) := by decide +kernel
theorem dX12_fit_1 : decode cX12_fit 1 = .ok (.iconst 0, 1) := by decide +kernel
theorem dX12_fit_2 : decode cX12_fit 2 = .ok (.putfield 57, 3) := by decide +kernel
theorem dX12_fit_5 : decode cX12_fit 5 = .ok (.aload_n 0, 1) := by decide +kernel
theorem dX12_fit_6 : decode cX12_fit 6 = .ok (.getfield 153, 3) := by decide +kernel
theorem dX12_fit_9 : decode cX12_fit 9 = .ok (.ifCond .ne 5, 3) := by decide +kernel
theorem dX12_fit_12 : decode cX12_fit 12 = .ok (.iconst (-1), 1) := by decide +kernel
theorem dX12_fit_13 : decode cX12_fit 13 = .ok (.ireturn, 1) := by decide +kernel
theorem dX12_fit_14 : decode cX12_fit 14 = .ok (.iconst 0, 1) := by decide +kernel
theorem dX12_fit_15 : decode cX12_fit 15 = .ok (.istore_n 1, 1) := by decide +kernel
theorem dX12_fit_16 : decode cX12_fit 16 = .ok (.iconst 0, 1) := by decide +kernel
theorem dX12_fit_17 : decode cX12_fit 17 = .ok (.istore_n 2, 1) := by decide +kernel
theorem dX12_fit_18 : decode cX12_fit 18 = .ok (.iload_n 2, 1) := by decide +kernel
theorem dX12_fit_19 : decode cX12_fit 19 = .ok (.aload_n 0, 1) := by decide +kernel
theorem dX12_fit_20 : decode cX12_fit 20 = .ok (.getfield 17, 3) := by decide +kernel
theorem dX12_fit_23 : decode cX12_fit 23 = .ok (.iconst 1, 1) := by decide +kernel
theorem dX12_fit_24 : decode cX12_fit 24 = .ok (.iaload, 1) := by decide +kernel
theorem dX12_fit_25 : decode cX12_fit 25 = .ok (.if_icmp .ge 27, 3) := by decide +kernel
theorem dX12_fit_28 : decode cX12_fit 28 = .ok (.iload_n 1, 1) := by decide +kernel
theorem dX12_fit_29 : decode cX12_fit 29 = .ok (.aload_n 0, 1) := by decide +kernel
theorem dX12_fit_30 : decode cX12_fit 30 = .ok (.iload_n 2, 1) := by decide +kernel
theorem dX12_fit_31 : decode cX12_fit 31 = .ok (.invokevirtual 400, 3) := by decide +kernel
theorem dX12_fit_34 : decode cX12_fit 34 = .ok (.ifCond .eq 9, 3) := by decide +kernel
theorem dX12_fit_37 : decode cX12_fit 37 = .ok (.iconst 1, 1) := by decide +kernel
theorem dX12_fit_38 : decode cX12_fit 38 = .ok (.iload_n 2, 1) := by decide +kernel
theorem dX12_fit_39 : decode cX12_fit 39 = .ok (.ishl, 1) := by decide +kernel
theorem dX12_fit_40 : decode cX12_fit 40 = .ok (.goto 4, 3) := by decide +kernel
theorem dX12_fit_43 : decode cX12_fit 43 = .ok (.iconst 0, 1) := by decide +kernel
theorem dX12_fit_44 : decode cX12_fit 44 = .ok (.ior, 1) := by decide +kernel
theorem dX12_fit_45 : decode cX12_fit 45 = .ok (.istore_n 1, 1) := by decide +kernel
theorem dX12_fit_46 : decode cX12_fit 46 = .ok (.iinc 2 1, 3) := by decide +kernel
theorem dX12_fit_49 : decode cX12_fit 49 = .ok (.goto (-31), 3) := by decide +kernel
theorem dX12_fit_52 : decode cX12_fit 52 = .ok (.iload_n 1, 1) := by decide +kernel
theorem dX12_fit_53 : decode cX12_fit 53 = .ok (.ireturn, 1) := by decide +kernel
theorem dX12_checked_0 : decode cX12_checked 0 = .ok (.aload_n 0, 1) := by decide +kernel
theorem dX12_checked_1 : decode cX12_checked 1 = .ok (.iconst 0, 1) := by decide +kernel
theorem dX12_checked_2 : decode cX12_checked 2 = .ok (.putfield 57, 3) := by decide +kernel
theorem dX12_checked_5 : decode cX12_checked 5 = .ok (.aload_n 0, 1) := by decide +kernel
theorem dX12_checked_6 : decode cX12_checked 6 = .ok (.iload_n 1, 1) := by decide +kernel
theorem dX12_checked_7 : decode cX12_checked 7 = .ok (.invokevirtual 281, 3) := by decide +kernel
theorem dX12_checked_10 : decode cX12_checked 10 = .ok (.ifCond .ne 5, 3) := by decide +kernel
theorem dX12_checked_13 : decode cX12_checked 13 = .ok (.iconst (-1), 1) := by decide +kernel
theorem dX12_checked_14 : decode cX12_checked 14 = .ok (.ireturn, 1) := by decide +kernel
theorem dX12_checked_15 : decode cX12_checked 15 = .ok (.aload_n 0, 1) := by decide +kernel
theorem dX12_checked_16 : decode cX12_checked 16 = .ok (.getfield 38, 3) := by decide +kernel
theorem dX12_checked_19 : decode cX12_checked 19 = .ok (.iconst 0, 1) := by decide +kernel
theorem dX12_checked_20 : decode cX12_checked 20 = .ok (.aload_n 0, 1) := by decide +kernel
theorem dX12_checked_21 : decode cX12_checked 21 = .ok (.getfield 41, 3) := by decide +kernel
theorem dX12_checked_24 : decode cX12_checked 24 = .ok (.iconst 0, 1) := by decide +kernel
theorem dX12_checked_25 : decode cX12_checked 25 = .ok (.invokestatic 349, 3) := by decide +kernel
theorem dX12_checked_28 : decode cX12_checked 28 = .ok (.aload_n 0, 1) := by decide +kernel
theorem dX12_checked_29 : decode cX12_checked 29 = .ok (.aload_n 0, 1) := by decide +kernel
theorem dX12_checked_30 : decode cX12_checked 30 = .ok (.getfield 41, 3) := by decide +kernel
theorem dX12_checked_33 : decode cX12_checked 33 = .ok (.aload_n 0, 1) := by decide +kernel
theorem dX12_checked_34 : decode cX12_checked 34 = .ok (.iload_n 1, 1) := by decide +kernel
theorem dX12_checked_35 : decode cX12_checked 35 = .ok (.invokevirtual 217, 3) := by decide +kernel
theorem dX12_checked_38 : decode cX12_checked 38 = .ok (.invokevirtual 343, 3) := by decide +kernel
theorem dX12_checked_41 : decode cX12_checked 41 = .ok (.istore_n 2, 1) := by decide +kernel
theorem dX12_checked_42 : decode cX12_checked 42 = .ok (.aload_n 0, 1) := by decide +kernel
theorem dX12_checked_43 : decode cX12_checked 43 = .ok (.aload_n 0, 1) := by decide +kernel
theorem dX12_checked_44 : decode cX12_checked 44 = .ok (.getfield 41, 3) := by decide +kernel
theorem dX12_checked_47 : decode cX12_checked 47 = .ok (.iload_n 1, 1) := by decide +kernel
theorem dX12_checked_48 : decode cX12_checked 48 = .ok (.invokevirtual 309, 3) := by decide +kernel
theorem dX12_checked_51 : decode cX12_checked 51 = .ok (.ireturn, 1) := by decide +kernel
theorem dX12_equal_0 : decode cX12_equal 0 = .ok (.aload_n 0, 1) := by decide +kernel
theorem dX12_equal_1 : decode cX12_equal 1 = .ok (.iconst 0, 1) := by decide +kernel
theorem dX12_equal_2 : decode cX12_equal 2 = .ok (.putfield 57, 3) := by decide +kernel
theorem dX12_equal_5 : decode cX12_equal 5 = .ok (.aload_n 0, 1) := by decide +kernel
theorem dX12_equal_6 : decode cX12_equal 6 = .ok (.getfield 184, 3) := by decide +kernel
theorem dX12_equal_9 : decode cX12_equal 9 = .ok (.ifCond .ne 5, 3) := by decide +kernel
theorem dX12_equal_12 : decode cX12_equal 12 = .ok (.iconst (-1), 1) := by decide +kernel
theorem dX12_equal_13 : decode cX12_equal 13 = .ok (.ireturn, 1) := by decide +kernel
theorem dX12_equal_14 : decode cX12_equal 14 = .ok (.iconst 0, 1) := by decide +kernel
theorem dX12_equal_15 : decode cX12_equal 15 = .ok (.istore_n 1, 1) := by decide +kernel
theorem dX12_equal_16 : decode cX12_equal 16 = .ok (.iconst 0, 1) := by decide +kernel
theorem dX12_equal_17 : decode cX12_equal 17 = .ok (.istore_n 2, 1) := by decide +kernel
theorem dX12_equal_18 : decode cX12_equal 18 = .ok (.iload_n 2, 1) := by decide +kernel
theorem dX12_equal_19 : decode cX12_equal 19 = .ok (.aload_n 0, 1) := by decide +kernel
theorem dX12_equal_20 : decode cX12_equal 20 = .ok (.getfield 153, 3) := by decide +kernel
theorem dX12_equal_23 : decode cX12_equal 23 = .ok (.if_icmp .ge 40, 3) := by decide +kernel
theorem dX12_equal_26 : decode cX12_equal 26 = .ok (.aload_n 0, 1) := by decide +kernel
theorem dX12_equal_27 : decode cX12_equal 27 = .ok (.aload_n 0, 1) := by decide +kernel
theorem dX12_equal_28 : decode cX12_equal 28 = .ok (.getfield 38, 3) := by decide +kernel
theorem dX12_equal_31 : decode cX12_equal 31 = .ok (.iload_n 2, 1) := by decide +kernel
theorem dX12_equal_32 : decode cX12_equal 32 = .ok (.invokevirtual 309, 3) := by decide +kernel
theorem dX12_equal_35 : decode cX12_equal 35 = .ok (.istore_n 3, 1) := by decide +kernel
theorem dX12_equal_36 : decode cX12_equal 36 = .ok (.iload_n 1, 1) := by decide +kernel
theorem dX12_equal_37 : decode cX12_equal 37 = .ok (.aload_n 0, 1) := by decide +kernel
theorem dX12_equal_38 : decode cX12_equal 38 = .ok (.aload_n 0, 1) := by decide +kernel
theorem dX12_equal_39 : decode cX12_equal 39 = .ok (.getfield 44, 3) := by decide +kernel
theorem dX12_equal_42 : decode cX12_equal 42 = .ok (.iload_n 2, 1) := by decide +kernel
theorem dX12_equal_43 : decode cX12_equal 43 = .ok (.invokevirtual 309, 3) := by decide +kernel
theorem dX12_equal_46 : decode cX12_equal 46 = .ok (.iload_n 3, 1) := by decide +kernel
theorem dX12_equal_47 : decode cX12_equal 47 = .ok (.if_icmp .ne 7, 3) := by decide +kernel
theorem dX12_equal_50 : decode cX12_equal 50 = .ok (.iconst 1, 1) := by decide +kernel
theorem dX12_equal_51 : decode cX12_equal 51 = .ok (.goto 4, 3) := by decide +kernel
theorem dX12_equal_54 : decode cX12_equal 54 = .ok (.iconst 0, 1) := by decide +kernel
theorem dX12_equal_55 : decode cX12_equal 55 = .ok (.iadd, 1) := by decide +kernel
theorem dX12_equal_56 : decode cX12_equal 56 = .ok (.istore_n 1, 1) := by decide +kernel
theorem dX12_equal_57 : decode cX12_equal 57 = .ok (.iinc 2 1, 3) := by decide +kernel
theorem dX12_equal_60 : decode cX12_equal 60 = .ok (.goto (-42), 3) := by decide +kernel
theorem dX12_equal_63 : decode cX12_equal 63 = .ok (.iload_n 1, 1) := by decide +kernel
theorem dX12_equal_64 : decode cX12_equal 64 = .ok (.ireturn, 1) := by decide +kernel
theorem dX12_span_0 : decode cX12_span 0 = .ok (.aload_n 0, 1) := by decide +kernel
theorem dX12_span_1 : decode cX12_span 1 = .ok (.iconst 0, 1) := by decide +kernel
theorem dX12_span_2 : decode cX12_span 2 = .ok (.putfield 57, 3) := by decide +kernel
theorem dX12_span_5 : decode cX12_span 5 = .ok (.aload_n 0, 1) := by decide +kernel
theorem dX12_span_6 : decode cX12_span 6 = .ok (.getfield 153, 3) := by decide +kernel
theorem dX12_span_9 : decode cX12_span 9 = .ok (.ifCond .eq 13, 3) := by decide +kernel
theorem dX12_span_12 : decode cX12_span 12 = .ok (.iload_n 1, 1) := by decide +kernel
theorem dX12_span_13 : decode cX12_span 13 = .ok (.i2l, 1) := by decide +kernel
theorem dX12_span_14 : decode cX12_span 14 = .ok (.lconst 0, 1) := by decide +kernel
theorem dX12_span_15 : decode cX12_span 15 = .ok (.lconst 1, 1) := by decide +kernel
theorem dX12_span_16 : decode cX12_span 16 = .ok (.invokestatic 117, 3) := by decide +kernel
theorem dX12_span_19 : decode cX12_span 19 = .ok (.ifCond .ne 5, 3) := by decide +kernel
theorem dX12_span_22 : decode cX12_span 22 = .ok (.iconst (-1), 1) := by decide +kernel
theorem dX12_span_23 : decode cX12_span 23 = .ok (.ireturn, 1) := by decide +kernel
theorem dX12_span_24 : decode cX12_span 24 = .ok (.iconst 0, 1) := by decide +kernel
theorem dX12_span_25 : decode cX12_span 25 = .ok (.istore_n 2, 1) := by decide +kernel
theorem dX12_span_26 : decode cX12_span 26 = .ok (.iconst (-1), 1) := by decide +kernel
theorem dX12_span_27 : decode cX12_span 27 = .ok (.istore_n 3, 1) := by decide +kernel
theorem dX12_span_28 : decode cX12_span 28 = .ok (.iconst 0, 1) := by decide +kernel
theorem dX12_span_29 : decode cX12_span 29 = .ok (.istore 4, 2) := by decide +kernel
theorem dX12_span_31 : decode cX12_span 31 = .ok (.iconst 0, 1) := by decide +kernel
theorem dX12_span_32 : decode cX12_span 32 = .ok (.istore 5, 2) := by decide +kernel
theorem dX12_span_34 : decode cX12_span 34 = .ok (.iload 5, 2) := by decide +kernel
theorem dX12_span_36 : decode cX12_span 36 = .ok (.aload_n 0, 1) := by decide +kernel
theorem dX12_span_37 : decode cX12_span 37 = .ok (.getfield 153, 3) := by decide +kernel
theorem dX12_span_40 : decode cX12_span 40 = .ok (.if_icmp .ge 71, 3) := by decide +kernel
theorem dX12_span_43 : decode cX12_span 43 = .ok (.aload_n 0, 1) := by decide +kernel
theorem dX12_span_44 : decode cX12_span 44 = .ok (.getfield 38, 3) := by decide +kernel
theorem dX12_span_47 : decode cX12_span 47 = .ok (.aload_n 0, 1) := by decide +kernel
theorem dX12_span_48 : decode cX12_span 48 = .ok (.aload_n 0, 1) := by decide +kernel
theorem dX12_span_49 : decode cX12_span 49 = .ok (.iload 5, 2) := by decide +kernel
theorem dX12_span_51 : decode cX12_span 51 = .ok (.invokevirtual 217, 3) := by decide +kernel
theorem dX12_span_54 : decode cX12_span 54 = .ok (.aload_n 0, 1) := by decide +kernel
theorem dX12_span_55 : decode cX12_span 55 = .ok (.iload 5, 2) := by decide +kernel
theorem dX12_span_57 : decode cX12_span 57 = .ok (.invokevirtual 230, 3) := by decide +kernel
theorem dX12_span_60 : decode cX12_span 60 = .ok (.invokevirtual 199, 3) := by decide +kernel
theorem dX12_span_63 : decode cX12_span 63 = .ok (.aload_n 0, 1) := by decide +kernel
theorem dX12_span_64 : decode cX12_span 64 = .ok (.iload 5, 2) := by decide +kernel
theorem dX12_span_66 : decode cX12_span 66 = .ok (.invokevirtual 217, 3) := by decide +kernel
theorem dX12_span_69 : decode cX12_span 69 = .ok (.invokestatic 202, 3) := by decide +kernel
theorem dX12_span_72 : decode cX12_span 72 = .ok (.ifCond .eq 7, 3) := by decide +kernel
theorem dX12_span_75 : decode cX12_span 75 = .ok (.iconst 0, 1) := by decide +kernel
theorem dX12_span_76 : decode cX12_span 76 = .ok (.goto 7, 3) := by decide +kernel
theorem dX12_span_79 : decode cX12_span 79 = .ok (.iload 4, 2) := by decide +kernel
theorem dX12_span_81 : decode cX12_span 81 = .ok (.iconst 1, 1) := by decide +kernel
theorem dX12_span_82 : decode cX12_span 82 = .ok (.iadd, 1) := by decide +kernel
theorem dX12_span_83 : decode cX12_span 83 = .ok (.istore 4, 2) := by decide +kernel
theorem dX12_span_85 : decode cX12_span 85 = .ok (.iload 4, 2) := by decide +kernel
theorem dX12_span_87 : decode cX12_span 87 = .ok (.iload_n 2, 1) := by decide +kernel
theorem dX12_span_88 : decode cX12_span 88 = .ok (.if_icmp .gt 6, 3) := by decide +kernel
theorem dX12_span_91 : decode cX12_span 91 = .ok (.goto 14, 3) := by decide +kernel
theorem dX12_span_94 : decode cX12_span 94 = .ok (.iload 4, 2) := by decide +kernel
theorem dX12_span_96 : decode cX12_span 96 = .ok (.istore_n 2, 1) := by decide +kernel
theorem dX12_span_97 : decode cX12_span 97 = .ok (.iload 5, 2) := by decide +kernel
theorem dX12_span_99 : decode cX12_span 99 = .ok (.iload 4, 2) := by decide +kernel
theorem dX12_span_101 : decode cX12_span 101 = .ok (.isub, 1) := by decide +kernel
theorem dX12_span_102 : decode cX12_span 102 = .ok (.iconst 1, 1) := by decide +kernel
theorem dX12_span_103 : decode cX12_span 103 = .ok (.iadd, 1) := by decide +kernel
theorem dX12_span_104 : decode cX12_span 104 = .ok (.istore_n 3, 1) := by decide +kernel
theorem dX12_span_105 : decode cX12_span 105 = .ok (.iinc 5 1, 3) := by decide +kernel
theorem dX12_span_108 : decode cX12_span 108 = .ok (.goto (-74), 3) := by decide +kernel
theorem dX12_span_111 : decode cX12_span 111 = .ok (.iload_n 1, 1) := by decide +kernel
theorem dX12_span_112 : decode cX12_span 112 = .ok (.ifCond .ne 7, 3) := by decide +kernel
theorem dX12_span_115 : decode cX12_span 115 = .ok (.iload_n 2, 1) := by decide +kernel
theorem dX12_span_116 : decode cX12_span 116 = .ok (.goto 4, 3) := by decide +kernel
theorem dX12_span_119 : decode cX12_span 119 = .ok (.iload_n 3, 1) := by decide +kernel
theorem dX12_span_120 : decode cX12_span 120 = .ok (.ireturn, 1) := by decide +kernel
theorem dX12_isScript_0 : decode cX12_isScript 0 = .ok (.iload_n 1, 1) := by decide +kernel
theorem dX12_isScript_1 : decode cX12_isScript 1 = .ok (.i2l, 1) := by decide +kernel
theorem dX12_isScript_2 : decode cX12_isScript 2 = .ok (.lconst 0, 1) := by decide +kernel
theorem dX12_isScript_3 : decode cX12_isScript 3 = .ok (.aload_n 0, 1) := by decide +kernel
theorem dX12_isScript_4 : decode cX12_isScript 4 = .ok (.getfield 188, 3) := by decide +kernel
theorem dX12_isScript_7 : decode cX12_isScript 7 = .ok (.iconst 1, 1) := by decide +kernel
theorem dX12_isScript_8 : decode cX12_isScript 8 = .ok (.isub, 1) := by decide +kernel
theorem dX12_isScript_9 : decode cX12_isScript 9 = .ok (.i2l, 1) := by decide +kernel
theorem dX12_isScript_10 : decode cX12_isScript 10 = .ok (.invokestatic 117, 3) := by decide +kernel
theorem dX12_isScript_13 : decode cX12_isScript 13 = .ok (.ireturn, 1) := by decide +kernel
theorem dX12_step_0 : decode cX12_step 0 = .ok (.aload_n 0, 1) := by decide +kernel
theorem dX12_step_1 : decode cX12_step 1 = .ok (.iconst 0, 1) := by decide +kernel
theorem dX12_step_2 : decode cX12_step 2 = .ok (.putfield 57, 3) := by decide +kernel
theorem dX12_step_5 : decode cX12_step 5 = .ok (.aload_n 0, 1) := by decide +kernel
theorem dX12_step_6 : decode cX12_step 6 = .ok (.iload_n 1, 1) := by decide +kernel
theorem dX12_step_7 : decode cX12_step 7 = .ok (.invokevirtual 403, 3) := by decide +kernel
theorem dX12_step_10 : decode cX12_step 10 = .ok (.ifCond .eq 33, 3) := by decide +kernel
theorem dX12_step_13 : decode cX12_step 13 = .ok (.iload_n 2, 1) := by decide +kernel
theorem dX12_step_14 : decode cX12_step 14 = .ok (.i2l, 1) := by decide +kernel
theorem dX12_step_15 : decode cX12_step 15 = .ok (.lconst 0, 1) := by decide +kernel
theorem dX12_step_16 : decode cX12_step 16 = .ok (.aload_n 0, 1) := by decide +kernel
theorem dX12_step_17 : decode cX12_step 17 = .ok (.getfield 29, 3) := by decide +kernel
theorem dX12_step_20 : decode cX12_step 20 = .ok (.iload_n 1, 1) := by decide +kernel
theorem dX12_step_21 : decode cX12_step 21 = .ok (.iaload, 1) := by decide +kernel
theorem dX12_step_22 : decode cX12_step 22 = .ok (.iconst 1, 1) := by decide +kernel
theorem dX12_step_23 : decode cX12_step 23 = .ok (.isub, 1) := by decide +kernel
theorem dX12_step_24 : decode cX12_step 24 = .ok (.i2l, 1) := by decide +kernel
theorem dX12_step_25 : decode cX12_step 25 = .ok (.invokestatic 117, 3) := by decide +kernel
theorem dX12_step_28 : decode cX12_step 28 = .ok (.ifCond .eq 15, 3) := by decide +kernel
theorem dX12_step_31 : decode cX12_step 31 = .ok (.iload_n 3, 1) := by decide +kernel
theorem dX12_step_32 : decode cX12_step 32 = .ok (.i2l, 1) := by decide +kernel
theorem dX12_step_33 : decode cX12_step 33 = .ok (.lconst 0, 1) := by decide +kernel
theorem dX12_step_34 : decode cX12_step 34 = .ok (.ldc2_w 406, 3) := by decide +kernel
theorem dX12_step_37 : decode cX12_step 37 = .ok (.invokestatic 117, 3) := by decide +kernel
theorem dX12_step_40 : decode cX12_step 40 = .ok (.ifCond .ne 7, 3) := by decide +kernel
theorem dX12_step_43 : decode cX12_step 43 = .ok (.ldc_w 393, 3) := by decide +kernel
theorem dX12_step_46 : decode cX12_step 46 = .ok (.ireturn, 1) := by decide +kernel
theorem dX12_step_47 : decode cX12_step 47 = .ok (.aload_n 0, 1) := by decide +kernel
theorem dX12_step_48 : decode cX12_step 48 = .ok (.getfield 26, 3) := by decide +kernel
theorem dX12_step_51 : decode cX12_step 51 = .ok (.iconst 5, 1) := by decide +kernel
theorem dX12_step_52 : decode cX12_step 52 = .ok (.bipush 16, 2) := by decide +kernel
theorem dX12_step_54 : decode cX12_step 54 = .ok (.iload_n 1, 1) := by decide +kernel
theorem dX12_step_55 : decode cX12_step 55 = .ok (.imul, 1) := by decide +kernel
theorem dX12_step_56 : decode cX12_step 56 = .ok (.iload_n 2, 1) := by decide +kernel
theorem dX12_step_57 : decode cX12_step 57 = .ok (.iadd, 1) := by decide +kernel
theorem dX12_step_58 : decode cX12_step 58 = .ok (.imul, 1) := by decide +kernel
theorem dX12_step_59 : decode cX12_step 59 = .ok (.iload_n 3, 1) := by decide +kernel
theorem dX12_step_60 : decode cX12_step 60 = .ok (.iadd, 1) := by decide +kernel
theorem dX12_step_61 : decode cX12_step 61 = .ok (.iaload, 1) := by decide +kernel
theorem dX12_step_62 : decode cX12_step 62 = .ok (.ireturn, 1) := by decide +kernel
theorem dX12_run_0 : decode cX12_run 0 = .ok (.aload_n 0, 1) := by decide +kernel
theorem dX12_run_1 : decode cX12_run 1 = .ok (.iconst 0, 1) := by decide +kernel
theorem dX12_run_2 : decode cX12_run 2 = .ok (.putfield 57, 3) := by decide +kernel
theorem dX12_run_5 : decode cX12_run 5 = .ok (.aload_n 0, 1) := by decide +kernel
theorem dX12_run_6 : decode cX12_run 6 = .ok (.iload_n 1, 1) := by decide +kernel
theorem dX12_run_7 : decode cX12_run 7 = .ok (.invokevirtual 403, 3) := by decide +kernel
theorem dX12_run_10 : decode cX12_run 10 = .ok (.ifCond .eq 20, 3) := by decide +kernel
theorem dX12_run_13 : decode cX12_run 13 = .ok (.aload_n 0, 1) := by decide +kernel
theorem dX12_run_14 : decode cX12_run 14 = .ok (.getfield 153, 3) := by decide +kernel
theorem dX12_run_17 : decode cX12_run 17 = .ok (.ifCond .eq 13, 3) := by decide +kernel
theorem dX12_run_20 : decode cX12_run 20 = .ok (.iload_n 2, 1) := by decide +kernel
theorem dX12_run_21 : decode cX12_run 21 = .ok (.i2l, 1) := by decide +kernel
theorem dX12_run_22 : decode cX12_run 22 = .ok (.lconst 0, 1) := by decide +kernel
theorem dX12_run_23 : decode cX12_run 23 = .ok (.lconst 1, 1) := by decide +kernel
theorem dX12_run_24 : decode cX12_run 24 = .ok (.invokestatic 117, 3) := by decide +kernel
theorem dX12_run_27 : decode cX12_run 27 = .ok (.ifCond .ne 7, 3) := by decide +kernel
theorem dX12_run_30 : decode cX12_run 30 = .ok (.ldc_w 393, 3) := by decide +kernel
theorem dX12_run_33 : decode cX12_run 33 = .ok (.ireturn, 1) := by decide +kernel
theorem dX12_run_34 : decode cX12_run 34 = .ok (.aload_n 0, 1) := by decide +kernel
theorem dX12_run_35 : decode cX12_run 35 = .ok (.getfield 38, 3) := by decide +kernel
theorem dX12_run_38 : decode cX12_run 38 = .ok (.iconst 0, 1) := by decide +kernel
theorem dX12_run_39 : decode cX12_run 39 = .ok (.aload_n 0, 1) := by decide +kernel
theorem dX12_run_40 : decode cX12_run 40 = .ok (.getfield 41, 3) := by decide +kernel
theorem dX12_run_43 : decode cX12_run 43 = .ok (.iconst 0, 1) := by decide +kernel
theorem dX12_run_44 : decode cX12_run 44 = .ok (.invokestatic 349, 3) := by decide +kernel
theorem dX12_run_47 : decode cX12_run 47 = .ok (.iconst 0, 1) := by decide +kernel
theorem dX12_run_48 : decode cX12_run 48 = .ok (.istore_n 3, 1) := by decide +kernel
theorem dX12_run_49 : decode cX12_run 49 = .ok (.iconst 1, 1) := by decide +kernel
theorem dX12_run_50 : decode cX12_run 50 = .ok (.istore 4, 2) := by decide +kernel
theorem dX12_run_52 : decode cX12_run 52 = .ok (.iload 4, 2) := by decide +kernel
theorem dX12_run_54 : decode cX12_run 54 = .ok (.ifCond .eq 96, 3) := by decide +kernel
theorem dX12_run_57 : decode cX12_run 57 = .ok (.iload_n 3, 1) := by decide +kernel
theorem dX12_run_58 : decode cX12_run 58 = .ok (.aload_n 0, 1) := by decide +kernel
theorem dX12_run_59 : decode cX12_run 59 = .ok (.getfield 29, 3) := by decide +kernel
theorem dX12_run_62 : decode cX12_run 62 = .ok (.iload_n 1, 1) := by decide +kernel
theorem dX12_run_63 : decode cX12_run 63 = .ok (.iaload, 1) := by decide +kernel
theorem dX12_run_64 : decode cX12_run 64 = .ok (.if_icmp .ge 86, 3) := by decide +kernel
theorem dX12_run_67 : decode cX12_run 67 = .ok (.iconst 5, 1) := by decide +kernel
theorem dX12_run_68 : decode cX12_run 68 = .ok (.bipush 16, 2) := by decide +kernel
theorem dX12_run_70 : decode cX12_run 70 = .ok (.iload_n 1, 1) := by decide +kernel
theorem dX12_run_71 : decode cX12_run 71 = .ok (.imul, 1) := by decide +kernel
theorem dX12_run_72 : decode cX12_run 72 = .ok (.iload_n 3, 1) := by decide +kernel
theorem dX12_run_73 : decode cX12_run 73 = .ok (.iadd, 1) := by decide +kernel
theorem dX12_run_74 : decode cX12_run 74 = .ok (.imul, 1) := by decide +kernel
theorem dX12_run_75 : decode cX12_run 75 = .ok (.istore 5, 2) := by decide +kernel
theorem dX12_run_77 : decode cX12_run 77 = .ok (.aload_n 0, 1) := by decide +kernel
theorem dX12_run_78 : decode cX12_run 78 = .ok (.aload_n 0, 1) := by decide +kernel
theorem dX12_run_79 : decode cX12_run 79 = .ok (.getfield 41, 3) := by decide +kernel
theorem dX12_run_82 : decode cX12_run 82 = .ok (.aload_n 0, 1) := by decide +kernel
theorem dX12_run_83 : decode cX12_run 83 = .ok (.getfield 26, 3) := by decide +kernel
theorem dX12_run_86 : decode cX12_run 86 = .ok (.iload 5, 2) := by decide +kernel
theorem dX12_run_88 : decode cX12_run 88 = .ok (.iaload, 1) := by decide +kernel
theorem dX12_run_89 : decode cX12_run 89 = .ok (.aload_n 0, 1) := by decide +kernel
theorem dX12_run_90 : decode cX12_run 90 = .ok (.getfield 26, 3) := by decide +kernel
theorem dX12_run_93 : decode cX12_run 93 = .ok (.iload 5, 2) := by decide +kernel
theorem dX12_run_95 : decode cX12_run 95 = .ok (.iconst 1, 1) := by decide +kernel
theorem dX12_run_96 : decode cX12_run 96 = .ok (.iadd, 1) := by decide +kernel
theorem dX12_run_97 : decode cX12_run 97 = .ok (.iaload, 1) := by decide +kernel
theorem dX12_run_98 : decode cX12_run 98 = .ok (.aload_n 0, 1) := by decide +kernel
theorem dX12_run_99 : decode cX12_run 99 = .ok (.getfield 26, 3) := by decide +kernel
theorem dX12_run_102 : decode cX12_run 102 = .ok (.iload 5, 2) := by decide +kernel
theorem dX12_run_104 : decode cX12_run 104 = .ok (.iconst 2, 1) := by decide +kernel
theorem dX12_run_105 : decode cX12_run 105 = .ok (.iadd, 1) := by decide +kernel
theorem dX12_run_106 : decode cX12_run 106 = .ok (.iaload, 1) := by decide +kernel
theorem dX12_run_107 : decode cX12_run 107 = .ok (.aload_n 0, 1) := by decide +kernel
theorem dX12_run_108 : decode cX12_run 108 = .ok (.getfield 26, 3) := by decide +kernel
theorem dX12_run_111 : decode cX12_run 111 = .ok (.iload 5, 2) := by decide +kernel
theorem dX12_run_113 : decode cX12_run 113 = .ok (.iconst 3, 1) := by decide +kernel
theorem dX12_run_114 : decode cX12_run 114 = .ok (.iadd, 1) := by decide +kernel
theorem dX12_run_115 : decode cX12_run 115 = .ok (.iaload, 1) := by decide +kernel
theorem dX12_run_116 : decode cX12_run 116 = .ok (.aload_n 0, 1) := by decide +kernel
theorem dX12_run_117 : decode cX12_run 117 = .ok (.getfield 26, 3) := by decide +kernel
theorem dX12_run_120 : decode cX12_run 120 = .ok (.iload 5, 2) := by decide +kernel
theorem dX12_run_122 : decode cX12_run 122 = .ok (.iconst 4, 1) := by decide +kernel
theorem dX12_run_123 : decode cX12_run 123 = .ok (.iadd, 1) := by decide +kernel
theorem dX12_run_124 : decode cX12_run 124 = .ok (.iaload, 1) := by decide +kernel
theorem dX12_run_125 : decode cX12_run 125 = .ok (.invokevirtual 353, 3) := by decide +kernel
theorem dX12_run_128 : decode cX12_run 128 = .ok (.iconst (-1), 1) := by decide +kernel
theorem dX12_run_129 : decode cX12_run 129 = .ok (.if_icmp .ne 7, 3) := by decide +kernel
theorem dX12_run_132 : decode cX12_run 132 = .ok (.iconst 1, 1) := by decide +kernel
theorem dX12_run_133 : decode cX12_run 133 = .ok (.goto 4, 3) := by decide +kernel
theorem dX12_run_136 : decode cX12_run 136 = .ok (.iconst 0, 1) := by decide +kernel
theorem dX12_run_137 : decode cX12_run 137 = .ok (.istore 4, 2) := by decide +kernel
theorem dX12_run_139 : decode cX12_run 139 = .ok (.iload 4, 2) := by decide +kernel
theorem dX12_run_141 : decode cX12_run 141 = .ok (.ifCond .eq 6, 3) := by decide +kernel
theorem dX12_run_144 : decode cX12_run 144 = .ok (.iinc 3 1, 3) := by decide +kernel
theorem dX12_run_147 : decode cX12_run 147 = .ok (.goto (-95), 3) := by decide +kernel
theorem dX12_run_150 : decode cX12_run 150 = .ok (.iload_n 2, 1) := by decide +kernel
theorem dX12_run_151 : decode cX12_run 151 = .ok (.iconst 1, 1) := by decide +kernel
theorem dX12_run_152 : decode cX12_run 152 = .ok (.if_icmp .ne 21, 3) := by decide +kernel
theorem dX12_run_155 : decode cX12_run 155 = .ok (.aload_n 0, 1) := by decide +kernel
theorem dX12_run_156 : decode cX12_run 156 = .ok (.getfield 41, 3) := by decide +kernel
theorem dX12_run_159 : decode cX12_run 159 = .ok (.invokestatic 359, 3) := by decide +kernel
theorem dX12_run_162 : decode cX12_run 162 = .ok (.aload_n 0, 1) := by decide +kernel
theorem dX12_run_163 : decode cX12_run 163 = .ok (.getfield 38, 3) := by decide +kernel
theorem dX12_run_166 : decode cX12_run 166 = .ok (.invokestatic 359, 3) := by decide +kernel
theorem dX12_run_169 : decode cX12_run 169 = .ok (.isub, 1) := by decide +kernel
theorem dX12_run_170 : decode cX12_run 170 = .ok (.goto 18, 3) := by decide +kernel
theorem dX12_run_173 : decode cX12_run 173 = .ok (.iload_n 3, 1) := by decide +kernel
theorem dX12_run_174 : decode cX12_run 174 = .ok (.aload_n 0, 1) := by decide +kernel
theorem dX12_run_175 : decode cX12_run 175 = .ok (.getfield 29, 3) := by decide +kernel
theorem dX12_run_178 : decode cX12_run 178 = .ok (.iload_n 1, 1) := by decide +kernel
theorem dX12_run_179 : decode cX12_run 179 = .ok (.iaload, 1) := by decide +kernel
theorem dX12_run_180 : decode cX12_run 180 = .ok (.if_icmp .ne 7, 3) := by decide +kernel
theorem dX12_run_183 : decode cX12_run 183 = .ok (.iconst (-1), 1) := by decide +kernel
theorem dX12_run_184 : decode cX12_run 184 = .ok (.goto 4, 3) := by decide +kernel
theorem dX12_run_187 : decode cX12_run 187 = .ok (.iload_n 3, 1) := by decide +kernel
theorem dX12_run_188 : decode cX12_run 188 = .ok (.ireturn, 1) := by decide +kernel
theorem dX12_perform_0 : decode cX12_perform 0 = .ok (.aload_n 0, 1) := by decide +kernel
theorem dX12_perform_1 : decode cX12_perform 1 = .ok (.iconst 0, 1) := by decide +kernel
theorem dX12_perform_2 : decode cX12_perform 2 = .ok (.putfield 57, 3) := by decide +kernel
theorem dX12_perform_5 : decode cX12_perform 5 = .ok (.aload_n 0, 1) := by decide +kernel
theorem dX12_perform_6 : decode cX12_perform 6 = .ok (.iload_n 1, 1) := by decide +kernel
theorem dX12_perform_7 : decode cX12_perform 7 = .ok (.invokevirtual 403, 3) := by decide +kernel
theorem dX12_perform_10 : decode cX12_perform 10 = .ok (.ifCond .eq 10, 3) := by decide +kernel
theorem dX12_perform_13 : decode cX12_perform 13 = .ok (.aload_n 0, 1) := by decide +kernel
theorem dX12_perform_14 : decode cX12_perform 14 = .ok (.getfield 153, 3) := by decide +kernel
theorem dX12_perform_17 : decode cX12_perform 17 = .ok (.ifCond .ne 5, 3) := by decide +kernel
theorem dX12_perform_20 : decode cX12_perform 20 = .ok (.iconst (-1), 1) := by decide +kernel
theorem dX12_perform_21 : decode cX12_perform 21 = .ok (.ireturn, 1) := by decide +kernel
theorem dX12_perform_22 : decode cX12_perform 22 = .ok (.iconst 0, 1) := by decide +kernel
theorem dX12_perform_23 : decode cX12_perform 23 = .ok (.istore_n 2, 1) := by decide +kernel
theorem dX12_perform_24 : decode cX12_perform 24 = .ok (.iconst 1, 1) := by decide +kernel
theorem dX12_perform_25 : decode cX12_perform 25 = .ok (.istore_n 3, 1) := by decide +kernel
theorem dX12_perform_26 : decode cX12_perform 26 = .ok (.iload_n 3, 1) := by decide +kernel
theorem dX12_perform_27 : decode cX12_perform 27 = .ok (.ifCond .eq 90, 3) := by decide +kernel
theorem dX12_perform_30 : decode cX12_perform 30 = .ok (.iload_n 2, 1) := by decide +kernel
theorem dX12_perform_31 : decode cX12_perform 31 = .ok (.aload_n 0, 1) := by decide +kernel
theorem dX12_perform_32 : decode cX12_perform 32 = .ok (.getfield 29, 3) := by decide +kernel
theorem dX12_perform_35 : decode cX12_perform 35 = .ok (.iload_n 1, 1) := by decide +kernel
theorem dX12_perform_36 : decode cX12_perform 36 = .ok (.iaload, 1) := by decide +kernel
theorem dX12_perform_37 : decode cX12_perform 37 = .ok (.if_icmp .ge 80, 3) := by decide +kernel
theorem dX12_perform_40 : decode cX12_perform 40 = .ok (.iconst 5, 1) := by decide +kernel
theorem dX12_perform_41 : decode cX12_perform 41 = .ok (.bipush 16, 2) := by decide +kernel
theorem dX12_perform_43 : decode cX12_perform 43 = .ok (.iload_n 1, 1) := by decide +kernel
theorem dX12_perform_44 : decode cX12_perform 44 = .ok (.imul, 1) := by decide +kernel
theorem dX12_perform_45 : decode cX12_perform 45 = .ok (.iload_n 2, 1) := by decide +kernel
theorem dX12_perform_46 : decode cX12_perform 46 = .ok (.iadd, 1) := by decide +kernel
theorem dX12_perform_47 : decode cX12_perform 47 = .ok (.imul, 1) := by decide +kernel
theorem dX12_perform_48 : decode cX12_perform 48 = .ok (.istore 4, 2) := by decide +kernel
theorem dX12_perform_50 : decode cX12_perform 50 = .ok (.aload_n 0, 1) := by decide +kernel
theorem dX12_perform_51 : decode cX12_perform 51 = .ok (.aload_n 0, 1) := by decide +kernel
theorem dX12_perform_52 : decode cX12_perform 52 = .ok (.getfield 26, 3) := by decide +kernel
theorem dX12_perform_55 : decode cX12_perform 55 = .ok (.iload 4, 2) := by decide +kernel
theorem dX12_perform_57 : decode cX12_perform 57 = .ok (.iaload, 1) := by decide +kernel
theorem dX12_perform_58 : decode cX12_perform 58 = .ok (.aload_n 0, 1) := by decide +kernel
theorem dX12_perform_59 : decode cX12_perform 59 = .ok (.getfield 26, 3) := by decide +kernel
theorem dX12_perform_62 : decode cX12_perform 62 = .ok (.iload 4, 2) := by decide +kernel
theorem dX12_perform_64 : decode cX12_perform 64 = .ok (.iconst 1, 1) := by decide +kernel
theorem dX12_perform_65 : decode cX12_perform 65 = .ok (.iadd, 1) := by decide +kernel
theorem dX12_perform_66 : decode cX12_perform 66 = .ok (.iaload, 1) := by decide +kernel
theorem dX12_perform_67 : decode cX12_perform 67 = .ok (.aload_n 0, 1) := by decide +kernel
theorem dX12_perform_68 : decode cX12_perform 68 = .ok (.getfield 26, 3) := by decide +kernel
theorem dX12_perform_71 : decode cX12_perform 71 = .ok (.iload 4, 2) := by decide +kernel
theorem dX12_perform_73 : decode cX12_perform 73 = .ok (.iconst 2, 1) := by decide +kernel
theorem dX12_perform_74 : decode cX12_perform 74 = .ok (.iadd, 1) := by decide +kernel
theorem dX12_perform_75 : decode cX12_perform 75 = .ok (.iaload, 1) := by decide +kernel
theorem dX12_perform_76 : decode cX12_perform 76 = .ok (.aload_n 0, 1) := by decide +kernel
theorem dX12_perform_77 : decode cX12_perform 77 = .ok (.getfield 26, 3) := by decide +kernel
theorem dX12_perform_80 : decode cX12_perform 80 = .ok (.iload 4, 2) := by decide +kernel
theorem dX12_perform_82 : decode cX12_perform 82 = .ok (.iconst 3, 1) := by decide +kernel
theorem dX12_perform_83 : decode cX12_perform 83 = .ok (.iadd, 1) := by decide +kernel
theorem dX12_perform_84 : decode cX12_perform 84 = .ok (.iaload, 1) := by decide +kernel
theorem dX12_perform_85 : decode cX12_perform 85 = .ok (.aload_n 0, 1) := by decide +kernel
theorem dX12_perform_86 : decode cX12_perform 86 = .ok (.getfield 26, 3) := by decide +kernel
theorem dX12_perform_89 : decode cX12_perform 89 = .ok (.iload 4, 2) := by decide +kernel
theorem dX12_perform_91 : decode cX12_perform 91 = .ok (.iconst 4, 1) := by decide +kernel
theorem dX12_perform_92 : decode cX12_perform 92 = .ok (.iadd, 1) := by decide +kernel
theorem dX12_perform_93 : decode cX12_perform 93 = .ok (.iaload, 1) := by decide +kernel
theorem dX12_perform_94 : decode cX12_perform 94 = .ok (.invokevirtual 366, 3) := by decide +kernel
theorem dX12_perform_97 : decode cX12_perform 97 = .ok (.iconst (-1), 1) := by decide +kernel
theorem dX12_perform_98 : decode cX12_perform 98 = .ok (.if_icmp .ne 7, 3) := by decide +kernel
theorem dX12_perform_101 : decode cX12_perform 101 = .ok (.iconst 1, 1) := by decide +kernel
theorem dX12_perform_102 : decode cX12_perform 102 = .ok (.goto 4, 3) := by decide +kernel
theorem dX12_perform_105 : decode cX12_perform 105 = .ok (.iconst 0, 1) := by decide +kernel
theorem dX12_perform_106 : decode cX12_perform 106 = .ok (.istore_n 3, 1) := by decide +kernel
theorem dX12_perform_107 : decode cX12_perform 107 = .ok (.iload_n 3, 1) := by decide +kernel
theorem dX12_perform_108 : decode cX12_perform 108 = .ok (.ifCond .eq 6, 3) := by decide +kernel
theorem dX12_perform_111 : decode cX12_perform 111 = .ok (.iinc 2 1, 3) := by decide +kernel
theorem dX12_perform_114 : decode cX12_perform 114 = .ok (.goto (-88), 3) := by decide +kernel
theorem dX12_perform_117 : decode cX12_perform 117 = .ok (.iload_n 2, 1) := by decide +kernel
theorem dX12_perform_118 : decode cX12_perform 118 = .ok (.ireturn, 1) := by decide +kernel
theorem dX12_most_0 : decode cX12_most 0 = .ok (.aload_n 0, 1) := by decide +kernel
theorem dX12_most_1 : decode cX12_most 1 = .ok (.iconst 0, 1) := by decide +kernel
theorem dX12_most_2 : decode cX12_most 2 = .ok (.putfield 57, 3) := by decide +kernel
theorem dX12_most_5 : decode cX12_most 5 = .ok (.aload_n 0, 1) := by decide +kernel
theorem dX12_most_6 : decode cX12_most 6 = .ok (.getfield 153, 3) := by decide +kernel
theorem dX12_most_9 : decode cX12_most 9 = .ok (.ifCond .ne 7, 3) := by decide +kernel
theorem dX12_most_12 : decode cX12_most 12 = .ok (.ldc_w 393, 3) := by decide +kernel
theorem dX12_most_15 : decode cX12_most 15 = .ok (.ireturn, 1) := by decide +kernel
theorem dX12_most_16 : decode cX12_most 16 = .ok (.iload_n 1, 1) := by decide +kernel
theorem dX12_most_17 : decode cX12_most 17 = .ok (.tableswitch 141 0 10 #[59, 68, 77, 86, 95, 104, 113, 122, 127, 127, 127], 59) := by decide +kernel
theorem dX12_most_76 : decode cX12_most 76 = .ok (.aload_n 0, 1) := by decide +kernel
theorem dX12_most_77 : decode cX12_most 77 = .ok (.getfield 38, 3) := by decide +kernel
theorem dX12_most_80 : decode cX12_most 80 = .ok (.sipush 427, 3) := by decide +kernel
theorem dX12_most_83 : decode cX12_most 83 = .ok (.iaload, 1) := by decide +kernel
theorem dX12_most_84 : decode cX12_most 84 = .ok (.ireturn, 1) := by decide +kernel
theorem dX12_most_85 : decode cX12_most 85 = .ok (.aload_n 0, 1) := by decide +kernel
theorem dX12_most_86 : decode cX12_most 86 = .ok (.getfield 38, 3) := by decide +kernel
theorem dX12_most_89 : decode cX12_most 89 = .ok (.sipush 428, 3) := by decide +kernel
theorem dX12_most_92 : decode cX12_most 92 = .ok (.iaload, 1) := by decide +kernel
theorem dX12_most_93 : decode cX12_most 93 = .ok (.ireturn, 1) := by decide +kernel
theorem dX12_most_94 : decode cX12_most 94 = .ok (.aload_n 0, 1) := by decide +kernel
theorem dX12_most_95 : decode cX12_most 95 = .ok (.getfield 38, 3) := by decide +kernel
theorem dX12_most_98 : decode cX12_most 98 = .ok (.sipush 429, 3) := by decide +kernel
theorem dX12_most_101 : decode cX12_most 101 = .ok (.iaload, 1) := by decide +kernel
theorem dX12_most_102 : decode cX12_most 102 = .ok (.ireturn, 1) := by decide +kernel
theorem dX12_most_103 : decode cX12_most 103 = .ok (.aload_n 0, 1) := by decide +kernel
theorem dX12_most_104 : decode cX12_most 104 = .ok (.getfield 38, 3) := by decide +kernel
theorem dX12_most_107 : decode cX12_most 107 = .ok (.sipush 430, 3) := by decide +kernel
theorem dX12_most_110 : decode cX12_most 110 = .ok (.iaload, 1) := by decide +kernel
theorem dX12_most_111 : decode cX12_most 111 = .ok (.ireturn, 1) := by decide +kernel
theorem dX12_most_112 : decode cX12_most 112 = .ok (.aload_n 0, 1) := by decide +kernel
theorem dX12_most_113 : decode cX12_most 113 = .ok (.getfield 38, 3) := by decide +kernel
theorem dX12_most_116 : decode cX12_most 116 = .ok (.sipush 431, 3) := by decide +kernel
theorem dX12_most_119 : decode cX12_most 119 = .ok (.iaload, 1) := by decide +kernel
theorem dX12_most_120 : decode cX12_most 120 = .ok (.ireturn, 1) := by decide +kernel
theorem dX12_most_121 : decode cX12_most 121 = .ok (.aload_n 0, 1) := by decide +kernel
theorem dX12_most_122 : decode cX12_most 122 = .ok (.getfield 38, 3) := by decide +kernel
theorem dX12_most_125 : decode cX12_most 125 = .ok (.sipush 426, 3) := by decide +kernel
theorem dX12_most_128 : decode cX12_most 128 = .ok (.iaload, 1) := by decide +kernel
theorem dX12_most_129 : decode cX12_most 129 = .ok (.ireturn, 1) := by decide +kernel
theorem dX12_most_130 : decode cX12_most 130 = .ok (.aload_n 0, 1) := by decide +kernel
theorem dX12_most_131 : decode cX12_most 131 = .ok (.getfield 38, 3) := by decide +kernel
theorem dX12_most_134 : decode cX12_most 134 = .ok (.sipush 425, 3) := by decide +kernel
theorem dX12_most_137 : decode cX12_most 137 = .ok (.iaload, 1) := by decide +kernel
theorem dX12_most_138 : decode cX12_most 138 = .ok (.ireturn, 1) := by decide +kernel
theorem dX12_most_139 : decode cX12_most 139 = .ok (.aload_n 0, 1) := by decide +kernel
theorem dX12_most_140 : decode cX12_most 140 = .ok (.invokevirtual 394, 3) := by decide +kernel
theorem dX12_most_143 : decode cX12_most 143 = .ok (.ireturn, 1) := by decide +kernel
theorem dX12_most_144 : decode cX12_most 144 = .ok (.aload_n 0, 1) := by decide +kernel
theorem dX12_most_145 : decode cX12_most 145 = .ok (.getfield 38, 3) := by decide +kernel
theorem dX12_most_148 : decode cX12_most 148 = .ok (.sipush 432, 3) := by decide +kernel
theorem dX12_most_151 : decode cX12_most 151 = .ok (.iload_n 1, 1) := by decide +kernel
theorem dX12_most_152 : decode cX12_most 152 = .ok (.iadd, 1) := by decide +kernel
theorem dX12_most_153 : decode cX12_most 153 = .ok (.bipush 8, 2) := by decide +kernel
theorem dX12_most_155 : decode cX12_most 155 = .ok (.isub, 1) := by decide +kernel
theorem dX12_most_156 : decode cX12_most 156 = .ok (.iaload, 1) := by decide +kernel
theorem dX12_most_157 : decode cX12_most 157 = .ok (.ireturn, 1) := by decide +kernel
theorem dX12_most_158 : decode cX12_most 158 = .ok (.ldc_w 393, 3) := by decide +kernel
theorem dX12_most_161 : decode cX12_most 161 = .ok (.ireturn, 1) := by decide +kernel
theorem dX12_count_0 : decode cX12_count 0 = .ok (.aload_n 0, 1) := by decide +kernel
theorem dX12_count_1 : decode cX12_count 1 = .ok (.iconst 0, 1) := by decide +kernel
theorem dX12_count_2 : decode cX12_count 2 = .ok (.putfield 57, 3) := by decide +kernel
theorem dX12_count_5 : decode cX12_count 5 = .ok (.iload_n 1, 1) := by decide +kernel
theorem dX12_count_6 : decode cX12_count 6 = .ok (.tableswitch 63 0 4 #[34, 39, 44, 49, 58], 34) := by decide +kernel
theorem dX12_count_40 : decode cX12_count 40 = .ok (.aload_n 0, 1) := by decide +kernel
theorem dX12_count_41 : decode cX12_count 41 = .ok (.getfield 153, 3) := by decide +kernel
theorem dX12_count_44 : decode cX12_count 44 = .ok (.ireturn, 1) := by decide +kernel
theorem dX12_count_45 : decode cX12_count 45 = .ok (.aload_n 0, 1) := by decide +kernel
theorem dX12_count_46 : decode cX12_count 46 = .ok (.getfield 188, 3) := by decide +kernel
theorem dX12_count_49 : decode cX12_count 49 = .ok (.ireturn, 1) := by decide +kernel
theorem dX12_count_50 : decode cX12_count 50 = .ok (.aload_n 0, 1) := by decide +kernel
theorem dX12_count_51 : decode cX12_count 51 = .ok (.getfield 61, 3) := by decide +kernel
theorem dX12_count_54 : decode cX12_count 54 = .ok (.ireturn, 1) := by decide +kernel
theorem dX12_count_55 : decode cX12_count 55 = .ok (.aload_n 0, 1) := by decide +kernel
theorem dX12_count_56 : decode cX12_count 56 = .ok (.getfield 38, 3) := by decide +kernel
theorem dX12_count_59 : decode cX12_count 59 = .ok (.sipush 435, 3) := by decide +kernel
theorem dX12_count_62 : decode cX12_count 62 = .ok (.iaload, 1) := by decide +kernel
theorem dX12_count_63 : decode cX12_count 63 = .ok (.ireturn, 1) := by decide +kernel
theorem dX12_count_64 : decode cX12_count 64 = .ok (.aload_n 0, 1) := by decide +kernel
theorem dX12_count_65 : decode cX12_count 65 = .ok (.getfield 181, 3) := by decide +kernel
theorem dX12_count_68 : decode cX12_count 68 = .ok (.ireturn, 1) := by decide +kernel
theorem dX12_count_69 : decode cX12_count 69 = .ok (.ldc_w 393, 3) := by decide +kernel
theorem dX12_count_72 : decode cX12_count 72 = .ok (.ireturn, 1) := by decide +kernel
