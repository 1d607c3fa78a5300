theorem dX11_rule_0 : decode cX11_rule 0 = .ok (.aload_n 0, 1) := by decide +kernel
theorem dX11_rule_1 : decode cX11_rule 1 = .ok (.getfield 19, 3) := by decide +kernel
theorem dX11_rule_4 : decode cX11_rule 4 = .ok (.invokevirtual 181, 3) := by decide +kernel
theorem dX11_rule_7 : decode cX11_rule 7 = .ok (.ifCond .ne 5, 3) := by decide +kernel
theorem dX11_rule_10 : decode cX11_rule 10 = .ok (.iconst (-1), 1) := by decide +kernel
theorem dX11_rule_11 : decode cX11_rule 11 = .ok (.ireturn, 1) := by decide +kernel
theorem dX11_rule_12 : decode cX11_rule 12 = .ok (.iload_n 1, 1) := by decide +kernel
theorem dX11_rule_13 : decode cX11_rule 13 = .ok (.tableswitch 105 0 6 #[43, 51, 59, 67, 75, 89, 97], 43) := by decide +kernel
theorem dX11_rule_56 : decode cX11_rule 56 = .ok (.aload_n 0, 1) := by decide +kernel
theorem dX11_rule_57 : decode cX11_rule 57 = .ok (.getfield 19, 3) := by decide +kernel
theorem dX11_rule_60 : decode cX11_rule 60 = .ok (.getfield 185, 3) := by decide +kernel
theorem dX11_rule_63 : decode cX11_rule 63 = .ok (.ireturn, 1) := by decide +kernel
theorem dX11_rule_64 : decode cX11_rule 64 = .ok (.aload_n 0, 1) := by decide +kernel
theorem dX11_rule_65 : decode cX11_rule 65 = .ok (.getfield 19, 3) := by decide +kernel
theorem dX11_rule_68 : decode cX11_rule 68 = .ok (.getfield 188, 3) := by decide +kernel
theorem dX11_rule_71 : decode cX11_rule 71 = .ok (.ireturn, 1) := by decide +kernel
theorem dX11_rule_72 : decode cX11_rule 72 = .ok (.aload_n 0, 1) := by decide +kernel
theorem dX11_rule_73 : decode cX11_rule 73 = .ok (.getfield 19, 3) := by decide +kernel
theorem dX11_rule_76 : decode cX11_rule 76 = .ok (.getfield 191, 3) := by decide +kernel
theorem dX11_rule_79 : decode cX11_rule 79 = .ok (.ireturn, 1) := by decide +kernel
theorem dX11_rule_80 : decode cX11_rule 80 = .ok (.aload_n 0, 1) := by decide +kernel
theorem dX11_rule_81 : decode cX11_rule 81 = .ok (.getfield 19, 3) := by decide +kernel
theorem dX11_rule_84 : decode cX11_rule 84 = .ok (.getfield 132, 3) := by decide +kernel
theorem dX11_rule_87 : decode cX11_rule 87 = .ok (.ireturn, 1) := by decide +kernel
theorem dX11_rule_88 : decode cX11_rule 88 = .ok (.aload_n 0, 1) := by decide +kernel
theorem dX11_rule_89 : decode cX11_rule 89 = .ok (.getfield 35, 3) := by decide +kernel
theorem dX11_rule_92 : decode cX11_rule 92 = .ok (.getfield 137, 3) := by decide +kernel
theorem dX11_rule_95 : decode cX11_rule 95 = .ok (.sipush 136, 3) := by decide +kernel
theorem dX11_rule_98 : decode cX11_rule 98 = .ok (.invokevirtual 194, 3) := by decide +kernel
theorem dX11_rule_101 : decode cX11_rule 101 = .ok (.ireturn, 1) := by decide +kernel
theorem dX11_rule_102 : decode cX11_rule 102 = .ok (.aload_n 0, 1) := by decide +kernel
theorem dX11_rule_103 : decode cX11_rule 103 = .ok (.getfield 19, 3) := by decide +kernel
theorem dX11_rule_106 : decode cX11_rule 106 = .ok (.getfield 197, 3) := by decide +kernel
theorem dX11_rule_109 : decode cX11_rule 109 = .ok (.ireturn, 1) := by decide +kernel
theorem dX11_rule_110 : decode cX11_rule 110 = .ok (.aload_n 0, 1) := by decide +kernel
theorem dX11_rule_111 : decode cX11_rule 111 = .ok (.getfield 19, 3) := by decide +kernel
theorem dX11_rule_114 : decode cX11_rule 114 = .ok (.invokevirtual 170, 3) := by decide +kernel
theorem dX11_rule_117 : decode cX11_rule 117 = .ok (.ireturn, 1) := by decide +kernel
theorem dX11_rule_118 : decode cX11_rule 118 = .ok (.iconst (-1), 1) := by decide +kernel
theorem dX11_rule_119 : decode cX11_rule 119 = .ok (.ireturn, 1) := by decide +kernel
theorem dX11_times_0 : decode cX11_times 0 = .ok (.aload_n 0, 1) := by decide +kernel
theorem dX11_times_1 : decode cX11_times 1 = .ok (.getfield 19, 3) := by decide +kernel
theorem dX11_times_4 : decode cX11_times 4 = .ok (.invokevirtual 181, 3) := by decide +kernel
theorem dX11_times_7 : decode cX11_times 7 = .ok (.ifCond .eq 29, 3) := by decide +kernel
theorem dX11_times_10 : decode cX11_times 10 = .ok (.iload_n 1, 1) := by decide +kernel
theorem dX11_times_11 : decode cX11_times 11 = .ok (.invokestatic 200, 3) := by decide +kernel
theorem dX11_times_14 : decode cX11_times 14 = .ok (.ifCond .eq 22, 3) := by decide +kernel
theorem dX11_times_17 : decode cX11_times 17 = .ok (.iload_n 2, 1) := by decide +kernel
theorem dX11_times_18 : decode cX11_times 18 = .ok (.invokestatic 200, 3) := by decide +kernel
theorem dX11_times_21 : decode cX11_times 21 = .ok (.ifCond .eq 15, 3) := by decide +kernel
theorem dX11_times_24 : decode cX11_times 24 = .ok (.aload_n 0, 1) := by decide +kernel
theorem dX11_times_25 : decode cX11_times 25 = .ok (.getfield 26, 3) := by decide +kernel
theorem dX11_times_28 : decode cX11_times 28 = .ok (.iload_n 1, 1) := by decide +kernel
theorem dX11_times_29 : decode cX11_times 29 = .ok (.iload_n 2, 1) := by decide +kernel
theorem dX11_times_30 : decode cX11_times 30 = .ok (.invokevirtual 203, 3) := by decide +kernel
theorem dX11_times_33 : decode cX11_times 33 = .ok (.goto 4, 3) := by decide +kernel
theorem dX11_times_36 : decode cX11_times 36 = .ok (.iconst (-1), 1) := by decide +kernel
theorem dX11_times_37 : decode cX11_times 37 = .ok (.ireturn, 1) := by decide +kernel
theorem dX11_over_0 : decode cX11_over 0 = .ok (.aload_n 0, 1) := by decide +kernel
theorem dX11_over_1 : decode cX11_over 1 = .ok (.getfield 19, 3) := by decide +kernel
theorem dX11_over_4 : decode cX11_over 4 = .ok (.invokevirtual 181, 3) := by decide +kernel
theorem dX11_over_7 : decode cX11_over 7 = .ok (.ifCond .eq 33, 3) := by decide +kernel
theorem dX11_over_10 : decode cX11_over 10 = .ok (.iload_n 1, 1) := by decide +kernel
theorem dX11_over_11 : decode cX11_over 11 = .ok (.invokestatic 200, 3) := by decide +kernel
theorem dX11_over_14 : decode cX11_over 14 = .ok (.ifCond .eq 26, 3) := by decide +kernel
theorem dX11_over_17 : decode cX11_over 17 = .ok (.iload_n 2, 1) := by decide +kernel
theorem dX11_over_18 : decode cX11_over 18 = .ok (.invokestatic 200, 3) := by decide +kernel
theorem dX11_over_21 : decode cX11_over 21 = .ok (.ifCond .eq 19, 3) := by decide +kernel
theorem dX11_over_24 : decode cX11_over 24 = .ok (.iload_n 2, 1) := by decide +kernel
theorem dX11_over_25 : decode cX11_over 25 = .ok (.ifCond .eq 15, 3) := by decide +kernel
theorem dX11_over_28 : decode cX11_over 28 = .ok (.aload_n 0, 1) := by decide +kernel
theorem dX11_over_29 : decode cX11_over 29 = .ok (.getfield 26, 3) := by decide +kernel
theorem dX11_over_32 : decode cX11_over 32 = .ok (.iload_n 1, 1) := by decide +kernel
theorem dX11_over_33 : decode cX11_over 33 = .ok (.iload_n 2, 1) := by decide +kernel
theorem dX11_over_34 : decode cX11_over 34 = .ok (.invokevirtual 207, 3) := by decide +kernel
theorem dX11_over_37 : decode cX11_over 37 = .ok (.goto 4, 3) := by decide +kernel
theorem dX11_over_40 : decode cX11_over 40 = .ok (.iconst (-1), 1) := by decide +kernel
theorem dX11_over_41 : decode cX11_over 41 = .ok (.ireturn, 1) := by decide +kernel
theorem dX11_power_0 : decode cX11_power 0 = .ok (.aload_n 0, 1) := by decide +kernel
theorem dX11_power_1 : decode cX11_power 1 = .ok (.getfield 19, 3) := by decide +kernel
theorem dX11_power_4 : decode cX11_power 4 = .ok (.invokevirtual 181, 3) := by decide +kernel
theorem dX11_power_7 : decode cX11_power 7 = .ok (.ifCond .eq 25, 3) := by decide +kernel
theorem dX11_power_10 : decode cX11_power 10 = .ok (.iload_n 1, 1) := by decide +kernel
theorem dX11_power_11 : decode cX11_power 11 = .ok (.ifCond .lt 21, 3) := by decide +kernel
theorem dX11_power_14 : decode cX11_power 14 = .ok (.iload_n 1, 1) := by decide +kernel
theorem dX11_power_15 : decode cX11_power 15 = .ok (.sipush 999, 3) := by decide +kernel
theorem dX11_power_18 : decode cX11_power 18 = .ok (.if_icmp .gt 14, 3) := by decide +kernel
theorem dX11_power_21 : decode cX11_power 21 = .ok (.aload_n 0, 1) := by decide +kernel
theorem dX11_power_22 : decode cX11_power 22 = .ok (.getfield 26, 3) := by decide +kernel
theorem dX11_power_25 : decode cX11_power 25 = .ok (.iload_n 1, 1) := by decide +kernel
theorem dX11_power_26 : decode cX11_power 26 = .ok (.invokevirtual 210, 3) := by decide +kernel
theorem dX11_power_29 : decode cX11_power 29 = .ok (.goto 4, 3) := by decide +kernel
theorem dX11_power_32 : decode cX11_power 32 = .ok (.iconst (-1), 1) := by decide +kernel
theorem dX11_power_33 : decode cX11_power 33 = .ok (.ireturn, 1) := by decide +kernel
theorem dX11_logOf_0 : decode cX11_logOf 0 = .ok (.aload_n 0, 1) := by decide +kernel
theorem dX11_logOf_1 : decode cX11_logOf 1 = .ok (.getfield 19, 3) := by decide +kernel
theorem dX11_logOf_4 : decode cX11_logOf 4 = .ok (.invokevirtual 181, 3) := by decide +kernel
theorem dX11_logOf_7 : decode cX11_logOf 7 = .ok (.ifCond .eq 25, 3) := by decide +kernel
theorem dX11_logOf_10 : decode cX11_logOf 10 = .ok (.iload_n 1, 1) := by decide +kernel
theorem dX11_logOf_11 : decode cX11_logOf 11 = .ok (.invokestatic 200, 3) := by decide +kernel
theorem dX11_logOf_14 : decode cX11_logOf 14 = .ok (.ifCond .eq 18, 3) := by decide +kernel
theorem dX11_logOf_17 : decode cX11_logOf 17 = .ok (.iload_n 1, 1) := by decide +kernel
theorem dX11_logOf_18 : decode cX11_logOf 18 = .ok (.ifCond .eq 14, 3) := by decide +kernel
theorem dX11_logOf_21 : decode cX11_logOf 21 = .ok (.aload_n 0, 1) := by decide +kernel
theorem dX11_logOf_22 : decode cX11_logOf 22 = .ok (.getfield 26, 3) := by decide +kernel
theorem dX11_logOf_25 : decode cX11_logOf 25 = .ok (.iload_n 1, 1) := by decide +kernel
theorem dX11_logOf_26 : decode cX11_logOf 26 = .ok (.invokevirtual 213, 3) := by decide +kernel
theorem dX11_logOf_29 : decode cX11_logOf 29 = .ok (.goto 4, 3) := by decide +kernel
theorem dX11_logOf_32 : decode cX11_logOf 32 = .ok (.iconst (-1), 1) := by decide +kernel
theorem dX11_logOf_33 : decode cX11_logOf 33 = .ok (.ireturn, 1) := by decide +kernel
theorem dX11_place_0 : decode cX11_place 0 = .ok (.aload_n 0, 1) := by decide +kernel
theorem dX11_place_1 : decode cX11_place 1 = .ok (.getfield 19, 3) := by decide +kernel
theorem dX11_place_4 : decode cX11_place 4 = .ok (.iload_n 1, 1) := by decide +kernel
theorem dX11_place_5 : decode cX11_place 5 = .ok (.invokevirtual 153, 3) := by decide +kernel
theorem dX11_place_8 : decode cX11_place 8 = .ok (.ifCond .ne 5, 3) := by decide +kernel
theorem dX11_place_11 : decode cX11_place 11 = .ok (.iconst (-1), 1) := by decide +kernel
theorem dX11_place_12 : decode cX11_place 12 = .ok (.ireturn, 1) := by decide +kernel
theorem dX11_place_13 : decode cX11_place 13 = .ok (.iload_n 2, 1) := by decide +kernel
theorem dX11_place_14 : decode cX11_place 14 = .ok (.tableswitch 81 0 3 #[30, 54, 63, 72], 30) := by decide +kernel
theorem dX11_place_44 : decode cX11_place 44 = .ok (.aload_n 0, 1) := by decide +kernel
theorem dX11_place_45 : decode cX11_place 45 = .ok (.getfield 19, 3) := by decide +kernel
theorem dX11_place_48 : decode cX11_place 48 = .ok (.aload_n 0, 1) := by decide +kernel
theorem dX11_place_49 : decode cX11_place 49 = .ok (.getfield 19, 3) := by decide +kernel
theorem dX11_place_52 : decode cX11_place 52 = .ok (.iload_n 1, 1) := by decide +kernel
theorem dX11_place_53 : decode cX11_place 53 = .ok (.invokevirtual 216, 3) := by decide +kernel
theorem dX11_place_56 : decode cX11_place 56 = .ok (.aload_n 0, 1) := by decide +kernel
theorem dX11_place_57 : decode cX11_place 57 = .ok (.getfield 19, 3) := by decide +kernel
theorem dX11_place_60 : decode cX11_place 60 = .ok (.iload_n 1, 1) := by decide +kernel
theorem dX11_place_61 : decode cX11_place 61 = .ok (.invokevirtual 219, 3) := by decide +kernel
theorem dX11_place_64 : decode cX11_place 64 = .ok (.invokevirtual 222, 3) := by decide +kernel
theorem dX11_place_67 : decode cX11_place 67 = .ok (.ireturn, 1) := by decide +kernel
theorem dX11_place_68 : decode cX11_place 68 = .ok (.aload_n 0, 1) := by decide +kernel
theorem dX11_place_69 : decode cX11_place 69 = .ok (.getfield 19, 3) := by decide +kernel
theorem dX11_place_72 : decode cX11_place 72 = .ok (.iload_n 1, 1) := by decide +kernel
theorem dX11_place_73 : decode cX11_place 73 = .ok (.invokevirtual 219, 3) := by decide +kernel
theorem dX11_place_76 : decode cX11_place 76 = .ok (.ireturn, 1) := by decide +kernel
theorem dX11_place_77 : decode cX11_place 77 = .ok (.aload_n 0, 1) := by decide +kernel
theorem dX11_place_78 : decode cX11_place 78 = .ok (.getfield 19, 3) := by decide +kernel
theorem dX11_place_81 : decode cX11_place 81 = .ok (.iload_n 1, 1) := by decide +kernel
theorem dX11_place_82 : decode cX11_place 82 = .ok (.invokevirtual 225, 3) := by decide +kernel
theorem dX11_place_85 : decode cX11_place 85 = .ok (.ireturn, 1) := by decide +kernel
theorem dX11_place_86 : decode cX11_place 86 = .ok (.aload_n 0, 1) := by decide +kernel
theorem dX11_place_87 : decode cX11_place 87 = .ok (.getfield 19, 3) := by decide +kernel
theorem dX11_place_90 : decode cX11_place 90 = .ok (.iload_n 1, 1) := by decide +kernel
theorem dX11_place_91 : decode cX11_place 91 = .ok (.invokevirtual 216, 3) := by decide +kernel
theorem dX11_place_94 : decode cX11_place 94 = .ok (.ireturn, 1) := by decide +kernel
theorem dX11_place_95 : decode cX11_place 95 = .ok (.iconst (-1), 1) := by decide +kernel
theorem dX11_place_96 : decode cX11_place 96 = .ok (.ireturn, 1) := by decide +kernel
theorem dX11_part_0 : decode cX11_part 0 = .ok (.aload_n 0, 1) := by decide +kernel
theorem dX11_part_1 : decode cX11_part 1 = .ok (.getfield 19, 3) := by decide +kernel
theorem dX11_part_4 : decode cX11_part 4 = .ok (.iload_n 1, 1) := by decide +kernel
theorem dX11_part_5 : decode cX11_part 5 = .ok (.invokevirtual 228, 3) := by decide +kernel
theorem dX11_part_8 : decode cX11_part 8 = .ok (.ifCond .eq 26, 3) := by decide +kernel
theorem dX11_part_11 : decode cX11_part 11 = .ok (.aload_n 0, 1) := by decide +kernel
theorem dX11_part_12 : decode cX11_part 12 = .ok (.getfield 19, 3) := by decide +kernel
theorem dX11_part_15 : decode cX11_part 15 = .ok (.iload_n 2, 1) := by decide +kernel
theorem dX11_part_16 : decode cX11_part 16 = .ok (.invokevirtual 231, 3) := by decide +kernel
theorem dX11_part_19 : decode cX11_part 19 = .ok (.ifCond .eq 15, 3) := by decide +kernel
theorem dX11_part_22 : decode cX11_part 22 = .ok (.aload_n 0, 1) := by decide +kernel
theorem dX11_part_23 : decode cX11_part 23 = .ok (.getfield 19, 3) := by decide +kernel
theorem dX11_part_26 : decode cX11_part 26 = .ok (.iload_n 1, 1) := by decide +kernel
theorem dX11_part_27 : decode cX11_part 27 = .ok (.iload_n 2, 1) := by decide +kernel
theorem dX11_part_28 : decode cX11_part 28 = .ok (.invokevirtual 234, 3) := by decide +kernel
theorem dX11_part_31 : decode cX11_part 31 = .ok (.goto 4, 3) := by decide +kernel
theorem dX11_part_34 : decode cX11_part 34 = .ok (.iconst (-1), 1) := by decide +kernel
theorem dX11_part_35 : decode cX11_part 35 = .ok (.ireturn, 1) := by decide +kernel
theorem dX11_read_0 : decode cX11_read 0 = .ok (.aload_n 0, 1) := by decide +kernel
theorem dX11_read_1 : decode cX11_read 1 = .ok (.getfield 19, 3) := by decide +kernel
theorem dX11_read_4 : decode cX11_read 4 = .ok (.iload_n 1, 1) := by decide +kernel
theorem dX11_read_5 : decode cX11_read 5 = .ok (.invokevirtual 153, 3) := by decide +kernel
theorem dX11_read_8 : decode cX11_read 8 = .ok (.ifCond .ne 13, 3) := by decide +kernel
theorem dX11_read_11 : decode cX11_read 11 = .ok (.new 237, 3) := by decide +kernel
theorem dX11_read_14 : decode cX11_read 14 = .ok (.dup, 1) := by decide +kernel
theorem dX11_read_15 : decode cX11_read 15 = .ok (.ldc 239, 2) := by decide +kernel
theorem dX11_read_17 : decode cX11_read 17 = .ok (.invokespecial 241, 3) := by decide +kernel
theorem dX11_read_20 : decode cX11_read 20 = .ok (.athrow, 1) := by decide +kernel
theorem dX11_read_21 : decode cX11_read 21 = .ok (.aload_n 0, 1) := by decide +kernel
theorem dX11_read_22 : decode cX11_read 22 = .ok (.getfield 35, 3) := by decide +kernel
theorem dX11_read_25 : decode cX11_read 25 = .ok (.iload_n 1, 1) := by decide +kernel
theorem dX11_read_26 : decode cX11_read 26 = .ok (.invokevirtual 244, 3) := by decide +kernel
theorem dX11_read_29 : decode cX11_read 29 = .ok (.ireturn, 1) := by decide +kernel
theorem dX11_cell_0 : decode cX11_cell 0 = .ok (.aload_n 0, 1) := by decide +kernel
theorem dX11_cell_1 : decode cX11_cell 1 = .ok (.getfield 19, 3) := by decide +kernel
theorem dX11_cell_4 : decode cX11_cell 4 = .ok (.iload_n 1, 1) := by decide +kernel
theorem dX11_cell_5 : decode cX11_cell 5 = .ok (.iload_n 2, 1) := by decide +kernel
theorem dX11_cell_6 : decode cX11_cell 6 = .ok (.iload_n 3, 1) := by decide +kernel
theorem dX11_cell_7 : decode cX11_cell 7 = .ok (.invokevirtual 247, 3) := by decide +kernel
theorem dX11_cell_10 : decode cX11_cell 10 = .ok (.ifCond .ne 5, 3) := by decide +kernel
theorem dX11_cell_13 : decode cX11_cell 13 = .ok (.iconst (-1), 1) := by decide +kernel
theorem dX11_cell_14 : decode cX11_cell 14 = .ok (.ireturn, 1) := by decide +kernel
theorem dX11_cell_15 : decode cX11_cell 15 = .ok (.aload_n 0, 1) := by decide +kernel
theorem dX11_cell_16 : decode cX11_cell 16 = .ok (.getfield 35, 3) := by decide +kernel
theorem dX11_cell_19 : decode cX11_cell 19 = .ok (.iload_n 1, 1) := by decide +kernel
theorem dX11_cell_20 : decode cX11_cell 20 = .ok (.iload_n 2, 1) := by decide +kernel
theorem dX11_cell_21 : decode cX11_cell 21 = .ok (.invokevirtual 251, 3) := by decide +kernel
theorem dX11_cell_24 : decode cX11_cell 24 = .ok (.ifCond .eq 19, 3) := by decide +kernel
theorem dX11_cell_27 : decode cX11_cell 27 = .ok (.aload_n 0, 1) := by decide +kernel
theorem dX11_cell_28 : decode cX11_cell 28 = .ok (.getfield 35, 3) := by decide +kernel
theorem dX11_cell_31 : decode cX11_cell 31 = .ok (.getfield 137, 3) := by decide +kernel
theorem dX11_cell_34 : decode cX11_cell 34 = .ok (.iload_n 1, 1) := by decide +kernel
theorem dX11_cell_35 : decode cX11_cell 35 = .ok (.iload_n 2, 1) := by decide +kernel
theorem dX11_cell_36 : decode cX11_cell 36 = .ok (.iload_n 3, 1) := by decide +kernel
theorem dX11_cell_37 : decode cX11_cell 37 = .ok (.invokevirtual 255, 3) := by decide +kernel
theorem dX11_cell_40 : decode cX11_cell 40 = .ok (.goto 6, 3) := by decide +kernel
theorem dX11_cell_43 : decode cX11_cell 43 = .ok (.ldc_w 259, 3) := by decide +kernel
theorem dX11_cell_46 : decode cX11_cell 46 = .ok (.ireturn, 1) := by decide +kernel
theorem dX11_disk_0 : decode cX11_disk 0 = .ok (.aload_n 0, 1) := by decide +kernel
theorem dX11_disk_1 : decode cX11_disk 1 = .ok (.getfield 19, 3) := by decide +kernel
theorem dX11_disk_4 : decode cX11_disk 4 = .ok (.iload_n 1, 1) := by decide +kernel
theorem dX11_disk_5 : decode cX11_disk 5 = .ok (.invokevirtual 228, 3) := by decide +kernel
theorem dX11_disk_8 : decode cX11_disk 8 = .ok (.ifCond .ne 5, 3) := by decide +kernel
theorem dX11_disk_11 : decode cX11_disk 11 = .ok (.iconst (-1), 1) := by decide +kernel
theorem dX11_disk_12 : decode cX11_disk 12 = .ok (.ireturn, 1) := by decide +kernel
theorem dX11_disk_13 : decode cX11_disk 13 = .ok (.iload_n 2, 1) := by decide +kernel
theorem dX11_disk_14 : decode cX11_disk 14 = .ok (.tableswitch 110 0 4 #[34, 49, 64, 79, 94], 34) := by decide +kernel
theorem dX11_disk_48 : decode cX11_disk 48 = .ok (.aload_n 0, 1) := by decide +kernel
theorem dX11_disk_49 : decode cX11_disk 49 = .ok (.getfield 35, 3) := by decide +kernel
theorem dX11_disk_52 : decode cX11_disk 52 = .ok (.getfield 137, 3) := by decide +kernel
theorem dX11_disk_55 : decode cX11_disk 55 = .ok (.bipush 96, 2) := by decide +kernel
theorem dX11_disk_57 : decode cX11_disk 57 = .ok (.iload_n 1, 1) := by decide +kernel
theorem dX11_disk_58 : decode cX11_disk 58 = .ok (.iadd, 1) := by decide +kernel
theorem dX11_disk_59 : decode cX11_disk 59 = .ok (.invokevirtual 194, 3) := by decide +kernel
theorem dX11_disk_62 : decode cX11_disk 62 = .ok (.ireturn, 1) := by decide +kernel
theorem dX11_disk_63 : decode cX11_disk 63 = .ok (.aload_n 0, 1) := by decide +kernel
theorem dX11_disk_64 : decode cX11_disk 64 = .ok (.getfield 35, 3) := by decide +kernel
theorem dX11_disk_67 : decode cX11_disk 67 = .ok (.getfield 137, 3) := by decide +kernel
theorem dX11_disk_70 : decode cX11_disk 70 = .ok (.bipush 104, 2) := by decide +kernel
theorem dX11_disk_72 : decode cX11_disk 72 = .ok (.iload_n 1, 1) := by decide +kernel
theorem dX11_disk_73 : decode cX11_disk 73 = .ok (.iadd, 1) := by decide +kernel
theorem dX11_disk_74 : decode cX11_disk 74 = .ok (.invokevirtual 194, 3) := by decide +kernel
theorem dX11_disk_77 : decode cX11_disk 77 = .ok (.ireturn, 1) := by decide +kernel
theorem dX11_disk_78 : decode cX11_disk 78 = .ok (.aload_n 0, 1) := by decide +kernel
theorem dX11_disk_79 : decode cX11_disk 79 = .ok (.getfield 35, 3) := by decide +kernel
theorem dX11_disk_82 : decode cX11_disk 82 = .ok (.getfield 137, 3) := by decide +kernel
theorem dX11_disk_85 : decode cX11_disk 85 = .ok (.bipush 112, 2) := by decide +kernel
theorem dX11_disk_87 : decode cX11_disk 87 = .ok (.iload_n 1, 1) := by decide +kernel
theorem dX11_disk_88 : decode cX11_disk 88 = .ok (.iadd, 1) := by decide +kernel
theorem dX11_disk_89 : decode cX11_disk 89 = .ok (.invokevirtual 194, 3) := by decide +kernel
theorem dX11_disk_92 : decode cX11_disk 92 = .ok (.ireturn, 1) := by decide +kernel
theorem dX11_disk_93 : decode cX11_disk 93 = .ok (.aload_n 0, 1) := by decide +kernel
theorem dX11_disk_94 : decode cX11_disk 94 = .ok (.getfield 35, 3) := by decide +kernel
theorem dX11_disk_97 : decode cX11_disk 97 = .ok (.getfield 137, 3) := by decide +kernel
theorem dX11_disk_100 : decode cX11_disk 100 = .ok (.bipush 120, 2) := by decide +kernel
theorem dX11_disk_102 : decode cX11_disk 102 = .ok (.iload_n 1, 1) := by decide +kernel
theorem dX11_disk_103 : decode cX11_disk 103 = .ok (.iadd, 1) := by decide +kernel
theorem dX11_disk_104 : decode cX11_disk 104 = .ok (.invokevirtual 194, 3) := by decide +kernel
theorem dX11_disk_107 : decode cX11_disk 107 = .ok (.ireturn, 1) := by decide +kernel
theorem dX11_disk_108 : decode cX11_disk 108 = .ok (.aload_n 0, 1) := by decide +kernel
theorem dX11_disk_109 : decode cX11_disk 109 = .ok (.getfield 35, 3) := by decide +kernel
theorem dX11_disk_112 : decode cX11_disk 112 = .ok (.getfield 137, 3) := by decide +kernel
theorem dX11_disk_115 : decode cX11_disk 115 = .ok (.sipush 128, 3) := by decide +kernel
theorem dX11_disk_118 : decode cX11_disk 118 = .ok (.iload_n 1, 1) := by decide +kernel
theorem dX11_disk_119 : decode cX11_disk 119 = .ok (.iadd, 1) := by decide +kernel
theorem dX11_disk_120 : decode cX11_disk 120 = .ok (.invokevirtual 194, 3) := by decide +kernel
theorem dX11_disk_123 : decode cX11_disk 123 = .ok (.ireturn, 1) := by decide +kernel
theorem dX11_disk_124 : decode cX11_disk 124 = .ok (.iconst (-1), 1) := by decide +kernel
theorem dX11_disk_125 : decode cX11_disk 125 = .ok (.ireturn, 1) := by decide +kernel
theorem dX11_attempt_0 : decode cX11_attempt 0 = .ok (.aload_n 0, 1) := by decide +kernel
theorem dX11_attempt_1 : decode cX11_attempt 1 = .ok (.aload_n 0, 1) := by decide +kernel
theorem dX11_attempt_2 : decode cX11_attempt 2 = .ok (.getfield 35, 3) := by decide +kernel
theorem dX11_attempt_5 : decode cX11_attempt 5 = .ok (.iload_n 1, 1) := by decide +kernel
theorem dX11_attempt_6 : decode cX11_attempt 6 = .ok (.iload_n 2, 1) := by decide +kernel
theorem dX11_attempt_7 : decode cX11_attempt 7 = .ok (.iload_n 3, 1) := by decide +kernel
theorem dX11_attempt_8 : decode cX11_attempt 8 = .ok (.iload 4, 2) := by decide +kernel
theorem dX11_attempt_10 : decode cX11_attempt 10 = .ok (.iload 5, 2) := by decide +kernel
theorem dX11_attempt_12 : decode cX11_attempt 12 = .ok (.invokevirtual 279, 3) := by decide +kernel
theorem dX11_attempt_15 : decode cX11_attempt 15 = .ok (.putfield 92, 3) := by decide +kernel
theorem dX11_attempt_18 : decode cX11_attempt 18 = .ok (.aload_n 0, 1) := by decide +kernel
theorem dX11_attempt_19 : decode cX11_attempt 19 = .ok (.getfield 92, 3) := by decide +kernel
theorem dX11_attempt_22 : decode cX11_attempt 22 = .ok (.iconst (-1), 1) := by decide +kernel
theorem dX11_attempt_23 : decode cX11_attempt 23 = .ok (.if_icmp .eq 5, 3) := by decide +kernel
theorem dX11_attempt_26 : decode cX11_attempt 26 = .ok (.iconst (-1), 1) := by decide +kernel
theorem dX11_attempt_27 : decode cX11_attempt 27 = .ok (.ireturn, 1) := by decide +kernel
theorem dX11_attempt_28 : decode cX11_attempt 28 = .ok (.aload_n 0, 1) := by decide +kernel
theorem dX11_attempt_29 : decode cX11_attempt 29 = .ok (.getfield 67, 3) := by decide +kernel
theorem dX11_attempt_32 : decode cX11_attempt 32 = .ok (.aload_n 0, 1) := by decide +kernel
theorem dX11_attempt_33 : decode cX11_attempt 33 = .ok (.getfield 35, 3) := by decide +kernel
theorem dX11_attempt_36 : decode cX11_attempt 36 = .ok (.getfield 137, 3) := by decide +kernel
theorem dX11_attempt_39 : decode cX11_attempt 39 = .ok (.invokevirtual 281, 3) := by decide +kernel
theorem dX11_attempt_42 : decode cX11_attempt 42 = .ok (.aload_n 0, 1) := by decide +kernel
theorem dX11_attempt_43 : decode cX11_attempt 43 = .ok (.getfield 35, 3) := by decide +kernel
theorem dX11_attempt_46 : decode cX11_attempt 46 = .ok (.getfield 137, 3) := by decide +kernel
theorem dX11_attempt_49 : decode cX11_attempt 49 = .ok (.invokevirtual 276, 3) := by decide +kernel
theorem dX11_attempt_52 : decode cX11_attempt 52 = .ok (.istore 6, 2) := by decide +kernel
theorem dX11_attempt_54 : decode cX11_attempt 54 = .ok (.aload_n 0, 1) := by decide +kernel
theorem dX11_attempt_55 : decode cX11_attempt 55 = .ok (.getfield 35, 3) := by decide +kernel
theorem dX11_attempt_58 : decode cX11_attempt 58 = .ok (.iload_n 1, 1) := by decide +kernel
theorem dX11_attempt_59 : decode cX11_attempt 59 = .ok (.iload_n 2, 1) := by decide +kernel
theorem dX11_attempt_60 : decode cX11_attempt 60 = .ok (.iload_n 3, 1) := by decide +kernel
theorem dX11_attempt_61 : decode cX11_attempt 61 = .ok (.iload 4, 2) := by decide +kernel
theorem dX11_attempt_63 : decode cX11_attempt 63 = .ok (.iload 5, 2) := by decide +kernel
theorem dX11_attempt_65 : decode cX11_attempt 65 = .ok (.invokevirtual 159, 3) := by decide +kernel
theorem dX11_attempt_68 : decode cX11_attempt 68 = .ok (.istore 7, 2) := by decide +kernel
theorem dX11_attempt_70 : decode cX11_attempt 70 = .ok (.aload_n 0, 1) := by decide +kernel
theorem dX11_attempt_71 : decode cX11_attempt 71 = .ok (.getfield 57, 3) := by decide +kernel
theorem dX11_attempt_74 : decode cX11_attempt 74 = .ok (.iload_n 1, 1) := by decide +kernel
theorem dX11_attempt_75 : decode cX11_attempt 75 = .ok (.iload_n 1, 1) := by decide +kernel
theorem dX11_attempt_76 : decode cX11_attempt 76 = .ok (.bipush 7, 2) := by decide +kernel
theorem dX11_attempt_78 : decode cX11_attempt 78 = .ok (.if_icmp .ne 8, 3) := by decide +kernel
theorem dX11_attempt_81 : decode cX11_attempt 81 = .ok (.iload 7, 2) := by decide +kernel
theorem dX11_attempt_83 : decode cX11_attempt 83 = .ok (.goto 4, 3) := by decide +kernel
theorem dX11_attempt_86 : decode cX11_attempt 86 = .ok (.iload_n 2, 1) := by decide +kernel
theorem dX11_attempt_87 : decode cX11_attempt 87 = .ok (.aload_n 0, 1) := by decide +kernel
theorem dX11_attempt_88 : decode cX11_attempt 88 = .ok (.getfield 35, 3) := by decide +kernel
theorem dX11_attempt_91 : decode cX11_attempt 91 = .ok (.getfield 137, 3) := by decide +kernel
theorem dX11_attempt_94 : decode cX11_attempt 94 = .ok (.invokevirtual 276, 3) := by decide +kernel
theorem dX11_attempt_97 : decode cX11_attempt 97 = .ok (.iload 6, 2) := by decide +kernel
theorem dX11_attempt_99 : decode cX11_attempt 99 = .ok (.isub, 1) := by decide +kernel
theorem dX11_attempt_100 : decode cX11_attempt 100 = .ok (.invokevirtual 285, 3) := by decide +kernel
theorem dX11_attempt_103 : decode cX11_attempt 103 = .ok (.iload 7, 2) := by decide +kernel
theorem dX11_attempt_105 : decode cX11_attempt 105 = .ok (.ireturn, 1) := by decide +kernel
theorem dX11_counted_0 : decode cX11_counted 0 = .ok (.aload_n 0, 1) := by decide +kernel
theorem dX11_counted_1 : decode cX11_counted 1 = .ok (.getfield 92, 3) := by decide +kernel
theorem dX11_counted_4 : decode cX11_counted 4 = .ok (.ifCond .lt 28, 3) := by decide +kernel
theorem dX11_counted_7 : decode cX11_counted 7 = .ok (.aload_n 0, 1) := by decide +kernel
theorem dX11_counted_8 : decode cX11_counted 8 = .ok (.getfield 92, 3) := by decide +kernel
theorem dX11_counted_11 : decode cX11_counted 11 = .ok (.aload_n 0, 1) := by decide +kernel
theorem dX11_counted_12 : decode cX11_counted 12 = .ok (.getfield 84, 3) := by decide +kernel
theorem dX11_counted_15 : decode cX11_counted 15 = .ok (.arraylength, 1) := by decide +kernel
theorem dX11_counted_16 : decode cX11_counted 16 = .ok (.if_icmp .ge 16, 3) := by decide +kernel
theorem dX11_counted_19 : decode cX11_counted 19 = .ok (.aload_n 0, 1) := by decide +kernel
theorem dX11_counted_20 : decode cX11_counted 20 = .ok (.getfield 84, 3) := by decide +kernel
theorem dX11_counted_23 : decode cX11_counted 23 = .ok (.aload_n 0, 1) := by decide +kernel
theorem dX11_counted_24 : decode cX11_counted 24 = .ok (.getfield 92, 3) := by decide +kernel
theorem dX11_counted_27 : decode cX11_counted 27 = .ok (.dup2, 1) := by decide +kernel
theorem dX11_counted_28 : decode cX11_counted 28 = .ok (.iaload, 1) := by decide +kernel
theorem dX11_counted_29 : decode cX11_counted 29 = .ok (.iconst 1, 1) := by decide +kernel
theorem dX11_counted_30 : decode cX11_counted 30 = .ok (.iadd, 1) := by decide +kernel
theorem dX11_counted_31 : decode cX11_counted 31 = .ok (.iastore, 1) := by decide +kernel
theorem dX11_counted_32 : decode cX11_counted 32 = .ok (.iload_n 1, 1) := by decide +kernel
theorem dX11_counted_33 : decode cX11_counted 33 = .ok (.ireturn, 1) := by decide +kernel
theorem dX11_write_0 : decode cX11_write 0 = .ok (.aload_n 0, 1) := by decide +kernel
theorem dX11_write_1 : decode cX11_write 1 = .ok (.aload_n 0, 1) := by decide +kernel
theorem dX11_write_2 : decode cX11_write 2 = .ok (.iconst 0, 1) := by decide +kernel
theorem dX11_write_3 : decode cX11_write 3 = .ok (.iload_n 1, 1) := by decide +kernel
theorem dX11_write_4 : decode cX11_write 4 = .ok (.iload_n 2, 1) := by decide +kernel
theorem dX11_write_5 : decode cX11_write 5 = .ok (.iconst 0, 1) := by decide +kernel
theorem dX11_write_6 : decode cX11_write 6 = .ok (.iconst 0, 1) := by decide +kernel
theorem dX11_write_7 : decode cX11_write 7 = .ok (.invokevirtual 260, 3) := by decide +kernel
theorem dX11_write_10 : decode cX11_write 10 = .ok (.invokevirtual 263, 3) := by decide +kernel
theorem dX11_write_13 : decode cX11_write 13 = .ok (.ireturn, 1) := by decide +kernel
theorem dX11_lose_0 : decode cX11_lose 0 = .ok (.aload_n 0, 1) := by decide +kernel
theorem dX11_lose_1 : decode cX11_lose 1 = .ok (.aload_n 0, 1) := by decide +kernel
theorem dX11_lose_2 : decode cX11_lose 2 = .ok (.iconst 1, 1) := by decide +kernel
theorem dX11_lose_3 : decode cX11_lose 3 = .ok (.iload_n 1, 1) := by decide +kernel
theorem dX11_lose_4 : decode cX11_lose 4 = .ok (.iconst 0, 1) := by decide +kernel
theorem dX11_lose_5 : decode cX11_lose 5 = .ok (.iconst 0, 1) := by decide +kernel
theorem dX11_lose_6 : decode cX11_lose 6 = .ok (.iconst 0, 1) := by decide +kernel
theorem dX11_lose_7 : decode cX11_lose 7 = .ok (.invokevirtual 260, 3) := by decide +kernel
theorem dX11_lose_10 : decode cX11_lose 10 = .ok (.invokevirtual 263, 3) := by decide +kernel
theorem dX11_lose_13 : decode cX11_lose 13 = .ok (.ireturn, 1) := by decide +kernel
theorem dX11_replace_0 : decode cX11_replace 0 = .ok (.aload_n 0, 1) := by decide +kernel
theorem dX11_replace_1 : decode cX11_replace 1 = .ok (.aload_n 0, 1) := by decide +kernel
theorem dX11_replace_2 : decode cX11_replace 2 = .ok (.iconst 2, 1) := by decide +kernel
theorem dX11_replace_3 : decode cX11_replace 3 = .ok (.iload_n 1, 1) := by decide +kernel
theorem dX11_replace_4 : decode cX11_replace 4 = .ok (.iconst 0, 1) := by decide +kernel
theorem dX11_replace_5 : decode cX11_replace 5 = .ok (.iconst 0, 1) := by decide +kernel
theorem dX11_replace_6 : decode cX11_replace 6 = .ok (.iconst 0, 1) := by decide +kernel
theorem dX11_replace_7 : decode cX11_replace 7 = .ok (.invokevirtual 260, 3) := by decide +kernel
theorem dX11_replace_10 : decode cX11_replace 10 = .ok (.invokevirtual 263, 3) := by decide +kernel
theorem dX11_replace_13 : decode cX11_replace 13 = .ok (.ireturn, 1) := by decide +kernel
theorem dX11_rebuild_0 : decode cX11_rebuild 0 = .ok (.aload_n 0, 1) := by decide +kernel
theorem dX11_rebuild_1 : decode cX11_rebuild 1 = .ok (.aload_n 0, 1) := by decide +kernel
theorem dX11_rebuild_2 : decode cX11_rebuild 2 = .ok (.iconst 3, 1) := by decide +kernel
theorem dX11_rebuild_3 : decode cX11_rebuild 3 = .ok (.iload_n 1, 1) := by decide +kernel
theorem dX11_rebuild_4 : decode cX11_rebuild 4 = .ok (.iload_n 2, 1) := by decide +kernel
theorem dX11_rebuild_5 : decode cX11_rebuild 5 = .ok (.iconst 0, 1) := by decide +kernel
theorem dX11_rebuild_6 : decode cX11_rebuild 6 = .ok (.iconst 0, 1) := by decide +kernel
theorem dX11_rebuild_7 : decode cX11_rebuild 7 = .ok (.invokevirtual 260, 3) := by decide +kernel
theorem dX11_rebuild_10 : decode cX11_rebuild 10 = .ok (.invokevirtual 263, 3) := by decide +kernel
theorem dX11_rebuild_13 : decode cX11_rebuild 13 = .ok (.ireturn, 1) := by decide +kernel
theorem dX11_scrub_0 : decode cX11_scrub 0 = .ok (.aload_n 0, 1) := by decide +kernel
theorem dX11_scrub_1 : decode cX11_scrub 1 = .ok (.aload_n 0, 1) := by decide +kernel
theorem dX11_scrub_2 : decode cX11_scrub 2 = .ok (.iconst 4, 1) := by decide +kernel
theorem dX11_scrub_3 : decode cX11_scrub 3 = .ok (.iload_n 1, 1) := by decide +kernel
theorem dX11_scrub_4 : decode cX11_scrub 4 = .ok (.iconst 0, 1) := by decide +kernel
theorem dX11_scrub_5 : decode cX11_scrub 5 = .ok (.iconst 0, 1) := by decide +kernel
theorem dX11_scrub_6 : decode cX11_scrub 6 = .ok (.iconst 0, 1) := by decide +kernel
theorem dX11_scrub_7 : decode cX11_scrub 7 = .ok (.invokevirtual 260, 3) := by decide +kernel
theorem dX11_scrub_10 : decode cX11_scrub 10 = .ok (.invokevirtual 263, 3) := by decide +kernel
theorem dX11_scrub_13 : decode cX11_scrub 13 = .ok (.ireturn, 1) := by decide +kernel
theorem dX11_spoil_0 : decode cX11_spoil 0 = .ok (.aload_n 0, 1) := by decide +kernel
theorem dX11_spoil_1 : decode cX11_spoil 1 = .ok (.aload_n 0, 1) := by decide +kernel
theorem dX11_spoil_2 : decode cX11_spoil 2 = .ok (.iconst 5, 1) := by decide +kernel
theorem dX11_spoil_3 : decode cX11_spoil 3 = .ok (.iload_n 1, 1) := by decide +kernel
theorem dX11_spoil_4 : decode cX11_spoil 4 = .ok (.iload_n 2, 1) := by decide +kernel
theorem dX11_spoil_5 : decode cX11_spoil 5 = .ok (.iload_n 3, 1) := by decide +kernel
theorem dX11_spoil_6 : decode cX11_spoil 6 = .ok (.iload 4, 2) := by decide +kernel
theorem dX11_spoil_8 : decode cX11_spoil 8 = .ok (.invokevirtual 260, 3) := by decide +kernel
theorem dX11_spoil_11 : decode cX11_spoil 11 = .ok (.invokevirtual 263, 3) := by decide +kernel
theorem dX11_spoil_14 : decode cX11_spoil 14 = .ok (.ireturn, 1) := by decide +kernel
theorem dX11_tear_0 : decode cX11_tear 0 = .ok (.aload_n 0, 1) := by decide +kernel
theorem dX11_tear_1 : decode cX11_tear 1 = .ok (.aload_n 0, 1) := by decide +kernel
theorem dX11_tear_2 : decode cX11_tear 2 = .ok (.bipush 6, 2) := by decide +kernel
theorem dX11_tear_4 : decode cX11_tear 4 = .ok (.iload_n 1, 1) := by decide +kernel
theorem dX11_tear_5 : decode cX11_tear 5 = .ok (.iload_n 2, 1) := by decide +kernel
theorem dX11_tear_6 : decode cX11_tear 6 = .ok (.iload_n 3, 1) := by decide +kernel
theorem dX11_tear_7 : decode cX11_tear 7 = .ok (.iconst 0, 1) := by decide +kernel
theorem dX11_tear_8 : decode cX11_tear 8 = .ok (.invokevirtual 260, 3) := by decide +kernel
theorem dX11_tear_11 : decode cX11_tear 11 = .ok (.invokevirtual 263, 3) := by decide +kernel
theorem dX11_tear_14 : decode cX11_tear 14 = .ok (.ireturn, 1) := by decide +kernel
theorem dX11_clean_0 : decode cX11_clean 0 = .ok (.aload_n 0, 1) := by decide +kernel
theorem dX11_clean_1 : decode cX11_clean 1 = .ok (.aload_n 0, 1) := by decide +kernel
theorem dX11_clean_2 : decode cX11_clean 2 = .ok (.bipush 7, 2) := by decide +kernel
theorem dX11_clean_4 : decode cX11_clean 4 = .ok (.iconst 0, 1) := by decide +kernel
theorem dX11_clean_5 : decode cX11_clean 5 = .ok (.iconst 0, 1) := by decide +kernel
theorem dX11_clean_6 : decode cX11_clean 6 = .ok (.iconst 0, 1) := by decide +kernel
theorem dX11_clean_7 : decode cX11_clean 7 = .ok (.iconst 0, 1) := by decide +kernel
theorem dX11_clean_8 : decode cX11_clean 8 = .ok (.invokevirtual 260, 3) := by decide +kernel
theorem dX11_clean_11 : decode cX11_clean 11 = .ok (.invokevirtual 263, 3) := by decide +kernel
theorem dX11_clean_14 : decode cX11_clean 14 = .ok (.ireturn, 1) := by decide +kernel
theorem dX11_full_0 : decode cX11_full 0 = .ok (.aload_n 0, 1) := by decide +kernel
theorem dX11_full_1 : decode cX11_full 1 = .ok (.aload_n 0, 1) := by decide +kernel
theorem dX11_full_2 : decode cX11_full 2 = .ok (.bipush 8, 2) := by decide +kernel
theorem dX11_full_4 : decode cX11_full 4 = .ok (.iload_n 1, 1) := by decide +kernel
theorem dX11_full_5 : decode cX11_full 5 = .ok (.iload_n 2, 1) := by decide +kernel
theorem dX11_full_6 : decode cX11_full 6 = .ok (.iload_n 3, 1) := by decide +kernel
theorem dX11_full_7 : decode cX11_full 7 = .ok (.iload 4, 2) := by decide +kernel
theorem dX11_full_9 : decode cX11_full 9 = .ok (.invokevirtual 260, 3) := by decide +kernel
theorem dX11_full_12 : decode cX11_full 12 = .ok (.invokevirtual 263, 3) := by decide +kernel
theorem dX11_full_15 : decode cX11_full 15 = .ok (.ireturn, 1) := by decide +kernel
theorem dX11_years_0 : decode cX11_years 0 = .ok (.aload_n 0, 1) := by decide +kernel
theorem dX11_years_1 : decode cX11_years 1 = .ok (.getfield 19, 3) := by decide +kernel
theorem dX11_years_4 : decode cX11_years 4 = .ok (.invokevirtual 181, 3) := by decide +kernel
theorem dX11_years_7 : decode cX11_years 7 = .ok (.ifCond .eq 14, 3) := by decide +kernel
theorem dX11_years_10 : decode cX11_years 10 = .ok (.iload_n 1, 1) := by decide +kernel
theorem dX11_years_11 : decode cX11_years 11 = .ok (.iconst 1, 1) := by decide +kernel
theorem dX11_years_12 : decode cX11_years 12 = .ok (.if_icmp .lt 9, 3) := by decide +kernel
theorem dX11_years_15 : decode cX11_years 15 = .ok (.iload_n 1, 1) := by decide +kernel
theorem dX11_years_16 : decode cX11_years 16 = .ok (.bipush 40, 2) := by decide +kernel
theorem dX11_years_18 : decode cX11_years 18 = .ok (.if_icmp .le 5, 3) := by decide +kernel
theorem dX11_years_21 : decode cX11_years 21 = .ok (.iconst (-1), 1) := by decide +kernel
theorem dX11_years_22 : decode cX11_years 22 = .ok (.ireturn, 1) := by decide +kernel
theorem dX11_years_23 : decode cX11_years 23 = .ok (.aload_n 0, 1) := by decide +kernel
theorem dX11_years_24 : decode cX11_years 24 = .ok (.getfield 74, 3) := by decide +kernel
theorem dX11_years_27 : decode cX11_years 27 = .ok (.lload_n 2, 1) := by decide +kernel
theorem dX11_years_28 : decode cX11_years 28 = .ok (.invokevirtual 266, 3) := by decide +kernel
theorem dX11_years_31 : decode cX11_years 31 = .ok (.iconst 0, 1) := by decide +kernel
theorem dX11_years_32 : decode cX11_years 32 = .ok (.istore 4, 2) := by decide +kernel
theorem dX11_years_34 : decode cX11_years 34 = .ok (.iload 4, 2) := by decide +kernel
theorem dX11_years_36 : decode cX11_years 36 = .ok (.iload_n 1, 1) := by decide +kernel
theorem dX11_years_37 : decode cX11_years 37 = .ok (.if_icmp .ge 79, 3) := by decide +kernel
theorem dX11_years_40 : decode cX11_years 40 = .ok (.aload_n 0, 1) := by decide +kernel
theorem dX11_years_41 : decode cX11_years 41 = .ok (.getfield 74, 3) := by decide +kernel
theorem dX11_years_44 : decode cX11_years 44 = .ok (.aload_n 0, 1) := by decide +kernel
theorem dX11_years_45 : decode cX11_years 45 = .ok (.getfield 19, 3) := by decide +kernel
theorem dX11_years_48 : decode cX11_years 48 = .ok (.invokevirtual 269, 3) := by decide +kernel
theorem dX11_years_51 : decode cX11_years 51 = .ok (.istore 5, 2) := by decide +kernel
theorem dX11_years_53 : decode cX11_years 53 = .ok (.aload_n 0, 1) := by decide +kernel
theorem dX11_years_54 : decode cX11_years 54 = .ok (.iload 5, 2) := by decide +kernel
theorem dX11_years_56 : decode cX11_years 56 = .ok (.aload_n 0, 1) := by decide +kernel
theorem dX11_years_57 : decode cX11_years 57 = .ok (.getfield 74, 3) := by decide +kernel
theorem dX11_years_60 : decode cX11_years 60 = .ok (.iconst 0, 1) := by decide +kernel
theorem dX11_years_61 : decode cX11_years 61 = .ok (.invokevirtual 273, 3) := by decide +kernel
theorem dX11_years_64 : decode cX11_years 64 = .ok (.aload_n 0, 1) := by decide +kernel
theorem dX11_years_65 : decode cX11_years 65 = .ok (.getfield 74, 3) := by decide +kernel
theorem dX11_years_68 : decode cX11_years 68 = .ok (.iconst 1, 1) := by decide +kernel
theorem dX11_years_69 : decode cX11_years 69 = .ok (.invokevirtual 273, 3) := by decide +kernel
theorem dX11_years_72 : decode cX11_years 72 = .ok (.aload_n 0, 1) := by decide +kernel
theorem dX11_years_73 : decode cX11_years 73 = .ok (.getfield 74, 3) := by decide +kernel
theorem dX11_years_76 : decode cX11_years 76 = .ok (.iconst 2, 1) := by decide +kernel
theorem dX11_years_77 : decode cX11_years 77 = .ok (.invokevirtual 273, 3) := by decide +kernel
theorem dX11_years_80 : decode cX11_years 80 = .ok (.aload_n 0, 1) := by decide +kernel
theorem dX11_years_81 : decode cX11_years 81 = .ok (.getfield 74, 3) := by decide +kernel
theorem dX11_years_84 : decode cX11_years 84 = .ok (.iconst 3, 1) := by decide +kernel
theorem dX11_years_85 : decode cX11_years 85 = .ok (.invokevirtual 273, 3) := by decide +kernel
theorem dX11_years_88 : decode cX11_years 88 = .ok (.invokevirtual 260, 3) := by decide +kernel
theorem dX11_years_91 : decode cX11_years 91 = .ok (.pop, 1) := by decide +kernel
theorem dX11_years_92 : decode cX11_years 92 = .ok (.iload 5, 2) := by decide +kernel
theorem dX11_years_94 : decode cX11_years 94 = .ok (.bipush 6, 2) := by decide +kernel
theorem dX11_years_96 : decode cX11_years 96 = .ok (.if_icmp .ne 14, 3) := by decide +kernel
theorem dX11_years_99 : decode cX11_years 99 = .ok (.aload_n 0, 1) := by decide +kernel
theorem dX11_years_100 : decode cX11_years 100 = .ok (.bipush 7, 2) := by decide +kernel
theorem dX11_years_102 : decode cX11_years 102 = .ok (.iconst 0, 1) := by decide +kernel
theorem dX11_years_103 : decode cX11_years 103 = .ok (.iconst 0, 1) := by decide +kernel
theorem dX11_years_104 : decode cX11_years 104 = .ok (.iconst 0, 1) := by decide +kernel
theorem dX11_years_105 : decode cX11_years 105 = .ok (.iconst 0, 1) := by decide +kernel
theorem dX11_years_106 : decode cX11_years 106 = .ok (.invokevirtual 260, 3) := by decide +kernel
theorem dX11_years_109 : decode cX11_years 109 = .ok (.pop, 1) := by decide +kernel
theorem dX11_years_110 : decode cX11_years 110 = .ok (.iinc 4 1, 3) := by decide +kernel
theorem dX11_years_113 : decode cX11_years 113 = .ok (.goto (-79), 3) := by decide +kernel
theorem dX11_years_116 : decode cX11_years 116 = .ok (.aload_n 0, 1) := by decide +kernel
theorem dX11_years_117 : decode cX11_years 117 = .ok (.getfield 35, 3) := by decide +kernel
theorem dX11_years_120 : decode cX11_years 120 = .ok (.getfield 137, 3) := by decide +kernel
theorem dX11_years_123 : decode cX11_years 123 = .ok (.invokevirtual 276, 3) := by decide +kernel
theorem dX11_years_126 : decode cX11_years 126 = .ok (.ireturn, 1) := by decide +kernel
theorem dX11_status_0 : decode cX11_status 0 = .ok (.iload_n 1, 1) := by decide +kernel
theorem dX11_status_1 : decode cX11_status 1 = .ok (.ifCond .lt 21, 3) := by decide +kernel
theorem dX11_status_4 : decode cX11_status 4 = .ok (.iload_n 1, 1) := by decide +kernel
theorem dX11_status_5 : decode cX11_status 5 = .ok (.aload_n 0, 1) := by decide +kernel
theorem dX11_status_6 : decode cX11_status 6 = .ok (.getfield 84, 3) := by decide +kernel
theorem dX11_status_9 : decode cX11_status 9 = .ok (.arraylength, 1) := by decide +kernel
theorem dX11_status_10 : decode cX11_status 10 = .ok (.if_icmp .ge 12, 3) := by decide +kernel
theorem dX11_status_13 : decode cX11_status 13 = .ok (.aload_n 0, 1) := by decide +kernel
theorem dX11_status_14 : decode cX11_status 14 = .ok (.getfield 84, 3) := by decide +kernel
theorem dX11_status_17 : decode cX11_status 17 = .ok (.iload_n 1, 1) := by decide +kernel
theorem dX11_status_18 : decode cX11_status 18 = .ok (.iaload, 1) := by decide +kernel
theorem dX11_status_19 : decode cX11_status 19 = .ok (.goto 4, 3) := by decide +kernel
theorem dX11_status_22 : decode cX11_status 22 = .ok (.iconst (-1), 1) := by decide +kernel
theorem dX11_status_23 : decode cX11_status 23 = .ok (.ireturn, 1) := by decide +kernel
theorem dX11_undo_0 : decode cX11_undo 0 = .ok (.aload_n 0, 1) := by decide +kernel
theorem dX11_undo_1 : decode cX11_undo 1 = .ok (.getfield 67, 3) := by decide +kernel
theorem dX11_undo_4 : decode cX11_undo 4 = .ok (.invokevirtual 289, 3) := by decide +kernel
theorem dX11_undo_7 : decode cX11_undo 7 = .ok (.ifCond .ne 5, 3) := by decide +kernel
theorem dX11_undo_10 : decode cX11_undo 10 = .ok (.iconst (-1), 1) := by decide +kernel
theorem dX11_undo_11 : decode cX11_undo 11 = .ok (.ireturn, 1) := by decide +kernel
theorem dX11_undo_12 : decode cX11_undo 12 = .ok (.aload_n 0, 1) := by decide +kernel
theorem dX11_undo_13 : decode cX11_undo 13 = .ok (.getfield 67, 3) := by decide +kernel
theorem dX11_undo_16 : decode cX11_undo 16 = .ok (.aload_n 0, 1) := by decide +kernel
theorem dX11_undo_17 : decode cX11_undo 17 = .ok (.getfield 35, 3) := by decide +kernel
theorem dX11_undo_20 : decode cX11_undo 20 = .ok (.getfield 137, 3) := by decide +kernel
theorem dX11_undo_23 : decode cX11_undo 23 = .ok (.invokevirtual 290, 3) := by decide +kernel
theorem dX11_undo_26 : decode cX11_undo 26 = .ok (.aload_n 0, 1) := by decide +kernel
theorem dX11_undo_27 : decode cX11_undo 27 = .ok (.getfield 57, 3) := by decide +kernel
theorem dX11_undo_30 : decode cX11_undo 30 = .ok (.invokevirtual 293, 3) := by decide +kernel
theorem dX11_undo_33 : decode cX11_undo 33 = .ok (.aload_n 0, 1) := by decide +kernel
theorem dX11_undo_34 : decode cX11_undo 34 = .ok (.getfield 67, 3) := by decide +kernel
theorem dX11_undo_37 : decode cX11_undo 37 = .ok (.invokevirtual 289, 3) := by decide +kernel
theorem dX11_undo_40 : decode cX11_undo 40 = .ok (.ireturn, 1) := by decide +kernel
theorem dX11_log_0 : decode cX11_log 0 = .ok (.aload_n 0, 1) := by decide +kernel
theorem dX11_log_1 : decode cX11_log 1 = .ok (.getfield 57, 3) := by decide +kernel
theorem dX11_log_4 : decode cX11_log 4 = .ok (.iload_n 1, 1) := by decide +kernel
theorem dX11_log_5 : decode cX11_log 5 = .ok (.iload_n 2, 1) := by decide +kernel
theorem dX11_log_6 : decode cX11_log 6 = .ok (.invokevirtual 296, 3) := by decide +kernel
theorem dX11_log_9 : decode cX11_log 9 = .ok (.ireturn, 1) := by decide +kernel
theorem dX11_cost_0 : decode cX11_cost 0 = .ok (.aload_n 0, 1) := by decide +kernel
theorem dX11_cost_1 : decode cX11_cost 1 = .ok (.getfield 19, 3) := by decide +kernel
theorem dX11_cost_4 : decode cX11_cost 4 = .ok (.iload_n 1, 1) := by decide +kernel
theorem dX11_cost_5 : decode cX11_cost 5 = .ok (.invokevirtual 153, 3) := by decide +kernel
theorem dX11_cost_8 : decode cX11_cost 8 = .ok (.ifCond .eq 15, 3) := by decide +kernel
theorem dX11_cost_11 : decode cX11_cost 11 = .ok (.aload_n 0, 1) := by decide +kernel
theorem dX11_cost_12 : decode cX11_cost 12 = .ok (.getfield 50, 3) := by decide +kernel
theorem dX11_cost_15 : decode cX11_cost 15 = .ok (.iload_n 1, 1) := by decide +kernel
theorem dX11_cost_16 : decode cX11_cost 16 = .ok (.iload_n 2, 1) := by decide +kernel
theorem dX11_cost_17 : decode cX11_cost 17 = .ok (.invokevirtual 299, 3) := by decide +kernel
theorem dX11_cost_20 : decode cX11_cost 20 = .ok (.goto 4, 3) := by decide +kernel
theorem dX11_cost_23 : decode cX11_cost 23 = .ok (.iconst (-1), 1) := by decide +kernel
theorem dX11_cost_24 : decode cX11_cost 24 = .ok (.ireturn, 1) := by decide +kernel
theorem dX11_told_0 : decode cX11_told 0 = .ok (.aload_n 0, 1) := by decide +kernel
theorem dX11_told_1 : decode cX11_told 1 = .ok (.getfield 19, 3) := by decide +kernel
theorem dX11_told_4 : decode cX11_told 4 = .ok (.iload_n 1, 1) := by decide +kernel
theorem dX11_told_5 : decode cX11_told 5 = .ok (.iload_n 2, 1) := by decide +kernel
theorem dX11_told_6 : decode cX11_told 6 = .ok (.iload_n 3, 1) := by decide +kernel
theorem dX11_told_7 : decode cX11_told 7 = .ok (.invokevirtual 247, 3) := by decide +kernel
theorem dX11_told_10 : decode cX11_told 10 = .ok (.ifCond .eq 27, 3) := by decide +kernel
theorem dX11_told_13 : decode cX11_told 13 = .ok (.aload_n 0, 1) := by decide +kernel
theorem dX11_told_14 : decode cX11_told 14 = .ok (.getfield 19, 3) := by decide +kernel
theorem dX11_told_17 : decode cX11_told 17 = .ok (.iload 4, 2) := by decide +kernel
theorem dX11_told_19 : decode cX11_told 19 = .ok (.invokevirtual 228, 3) := by decide +kernel
theorem dX11_told_22 : decode cX11_told 22 = .ok (.ifCond .eq 15, 3) := by decide +kernel
theorem dX11_told_25 : decode cX11_told 25 = .ok (.aload_n 0, 1) := by decide +kernel
theorem dX11_told_26 : decode cX11_told 26 = .ok (.getfield 19, 3) := by decide +kernel
theorem dX11_told_29 : decode cX11_told 29 = .ok (.iload 5, 2) := by decide +kernel
theorem dX11_told_31 : decode cX11_told 31 = .ok (.invokevirtual 228, 3) := by decide +kernel
theorem dX11_told_34 : decode cX11_told 34 = .ok (.ifCond .ne 5, 3) := by decide +kernel
theorem dX11_told_37 : decode cX11_told 37 = .ok (.iconst (-1), 1) := by decide +kernel
theorem dX11_told_38 : decode cX11_told 38 = .ok (.ireturn, 1) := by decide +kernel
theorem dX11_told_39 : decode cX11_told 39 = .ok (.iload 4, 2) := by decide +kernel
theorem dX11_told_41 : decode cX11_told 41 = .ok (.iload_n 1, 1) := by decide +kernel
theorem dX11_told_42 : decode cX11_told 42 = .ok (.if_icmp .eq 9, 3) := by decide +kernel
theorem dX11_told_45 : decode cX11_told 45 = .ok (.iload 5, 2) := by decide +kernel
theorem dX11_told_47 : decode cX11_told 47 = .ok (.iload_n 1, 1) := by decide +kernel
theorem dX11_told_48 : decode cX11_told 48 = .ok (.if_icmp .ne 20, 3) := by decide +kernel
theorem dX11_told_51 : decode cX11_told 51 = .ok (.aload_n 0, 1) := by decide +kernel
theorem dX11_told_52 : decode cX11_told 52 = .ok (.getfield 50, 3) := by decide +kernel
theorem dX11_told_55 : decode cX11_told 55 = .ok (.iload_n 1, 1) := by decide +kernel
theorem dX11_told_56 : decode cX11_told 56 = .ok (.iload_n 2, 1) := by decide +kernel
theorem dX11_told_57 : decode cX11_told 57 = .ok (.iload_n 3, 1) := by decide +kernel
theorem dX11_told_58 : decode cX11_told 58 = .ok (.iload 4, 2) := by decide +kernel
theorem dX11_told_60 : decode cX11_told 60 = .ok (.iload 5, 2) := by decide +kernel
theorem dX11_told_62 : decode cX11_told 62 = .ok (.invokevirtual 302, 3) := by decide +kernel
theorem dX11_told_65 : decode cX11_told 65 = .ok (.goto 4, 3) := by decide +kernel
theorem dX11_told_68 : decode cX11_told 68 = .ok (.iconst (-1), 1) := by decide +kernel
theorem dX11_told_69 : decode cX11_told 69 = .ok (.ireturn, 1) := by decide +kernel
theorem dX11_who_0 : decode cX11_who 0 = .ok (.aload_n 0, 1) := by decide +kernel
theorem dX11_who_1 : decode cX11_who 1 = .ok (.getfield 19, 3) := by decide +kernel
theorem dX11_who_4 : decode cX11_who 4 = .ok (.iload_n 1, 1) := by decide +kernel
theorem dX11_who_5 : decode cX11_who 5 = .ok (.invokevirtual 231, 3) := by decide +kernel
theorem dX11_who_8 : decode cX11_who 8 = .ok (.ifCond .eq 26, 3) := by decide +kernel
theorem dX11_who_11 : decode cX11_who 11 = .ok (.aload_n 0, 1) := by decide +kernel
theorem dX11_who_12 : decode cX11_who 12 = .ok (.getfield 19, 3) := by decide +kernel
theorem dX11_who_15 : decode cX11_who 15 = .ok (.iload_n 2, 1) := by decide +kernel
theorem dX11_who_16 : decode cX11_who 16 = .ok (.invokevirtual 305, 3) := by decide +kernel
theorem dX11_who_19 : decode cX11_who 19 = .ok (.ifCond .eq 15, 3) := by decide +kernel
theorem dX11_who_22 : decode cX11_who 22 = .ok (.aload_n 0, 1) := by decide +kernel
theorem dX11_who_23 : decode cX11_who 23 = .ok (.getfield 50, 3) := by decide +kernel
theorem dX11_who_26 : decode cX11_who 26 = .ok (.iload_n 1, 1) := by decide +kernel
theorem dX11_who_27 : decode cX11_who 27 = .ok (.iload_n 2, 1) := by decide +kernel
theorem dX11_who_28 : decode cX11_who 28 = .ok (.invokevirtual 308, 3) := by decide +kernel
theorem dX11_who_31 : decode cX11_who 31 = .ok (.goto 6, 3) := by decide +kernel
theorem dX11_who_34 : decode cX11_who 34 = .ok (.ldc_w 259, 3) := by decide +kernel
theorem dX11_who_37 : decode cX11_who 37 = .ok (.ireturn, 1) := by decide +kernel
theorem dX11_more_0 : decode cX11_more 0 = .ok (.aload_n 0, 1) := by decide +kernel
theorem dX11_more_1 : decode cX11_more 1 = .ok (.getfield 19, 3) := by decide +kernel
theorem dX11_more_4 : decode cX11_more 4 = .ok (.invokevirtual 181, 3) := by decide +kernel
theorem dX11_more_7 : decode cX11_more 7 = .ok (.ifCond .eq 13, 3) := by decide +kernel
theorem dX11_more_10 : decode cX11_more 10 = .ok (.aload_n 0, 1) := by decide +kernel
theorem dX11_more_11 : decode cX11_more 11 = .ok (.getfield 50, 3) := by decide +kernel
theorem dX11_more_14 : decode cX11_more 14 = .ok (.invokevirtual 311, 3) := by decide +kernel
theorem dX11_more_17 : decode cX11_more 17 = .ok (.goto 4, 3) := by decide +kernel
theorem dX11_more_20 : decode cX11_more 20 = .ok (.iconst (-1), 1) := by decide +kernel
theorem dX11_more_21 : decode cX11_more 21 = .ok (.ireturn, 1) := by decide +kernel
theorem dX11_left_0 : decode cX11_left 0 = .ok (.aload_n 0, 1) := by decide +kernel
theorem dX11_left_1 : decode cX11_left 1 = .ok (.getfield 19, 3) := by decide +kernel
theorem dX11_left_4 : decode cX11_left 4 = .ok (.invokevirtual 181, 3) := by decide +kernel
theorem dX11_left_7 : decode cX11_left 7 = .ok (.ifCond .ne 5, 3) := by decide +kernel
theorem dX11_left_10 : decode cX11_left 10 = .ok (.iconst (-1), 1) := by decide +kernel
theorem dX11_left_11 : decode cX11_left 11 = .ok (.ireturn, 1) := by decide +kernel
theorem dX11_left_12 : decode cX11_left 12 = .ok (.iload_n 1, 1) := by decide +kernel
theorem dX11_left_13 : decode cX11_left 13 = .ok (.ifCond .ne 11, 3) := by decide +kernel
theorem dX11_left_16 : decode cX11_left 16 = .ok (.aload_n 0, 1) := by decide +kernel
theorem dX11_left_17 : decode cX11_left 17 = .ok (.getfield 50, 3) := by decide +kernel
theorem dX11_left_20 : decode cX11_left 20 = .ok (.invokevirtual 314, 3) := by decide +kernel
theorem dX11_left_23 : decode cX11_left 23 = .ok (.ireturn, 1) := by decide +kernel
theorem dX11_left_24 : decode cX11_left 24 = .ok (.iload_n 1, 1) := by decide +kernel
theorem dX11_left_25 : decode cX11_left 25 = .ok (.iconst 1, 1) := by decide +kernel
theorem dX11_left_26 : decode cX11_left 26 = .ok (.if_icmp .ne 13, 3) := by decide +kernel
theorem dX11_left_29 : decode cX11_left 29 = .ok (.aload_n 0, 1) := by decide +kernel
theorem dX11_left_30 : decode cX11_left 30 = .ok (.getfield 50, 3) := by decide +kernel
theorem dX11_left_33 : decode cX11_left 33 = .ok (.invokevirtual 317, 3) := by decide +kernel
theorem dX11_left_36 : decode cX11_left 36 = .ok (.goto 4, 3) := by decide +kernel
theorem dX11_left_39 : decode cX11_left 39 = .ok (.iconst (-1), 1) := by decide +kernel
theorem dX11_left_40 : decode cX11_left 40 = .ok (.ireturn, 1) := by decide +kernel
theorem dX11_fit_0 : decode cX11_fit 0 = .ok (.aload_n 0, 1) := by decide +kernel
theorem dX11_fit_1 : decode cX11_fit 1 = .ok (.getfield 19, 3) := by decide +kernel
theorem dX11_fit_4 : decode cX11_fit 4 = .ok (.invokevirtual 181, 3) := by decide +kernel
theorem dX11_fit_7 : decode cX11_fit 7 = .ok (.ifCond .eq 13, 3) := by decide +kernel
theorem dX11_fit_10 : decode cX11_fit 10 = .ok (.aload_n 0, 1) := by decide +kernel
theorem dX11_fit_11 : decode cX11_fit 11 = .ok (.getfield 50, 3) := by decide +kernel
theorem dX11_fit_14 : decode cX11_fit 14 = .ok (.invokevirtual 320, 3) := by decide +kernel
theorem dX11_fit_17 : decode cX11_fit 17 = .ok (.goto 4, 3) := by decide +kernel
theorem dX11_fit_20 : decode cX11_fit 20 = .ok (.iconst (-1), 1) := by decide +kernel
theorem dX11_fit_21 : decode cX11_fit 21 = .ok (.ireturn, 1) := by decide +kernel
theorem dX11_checked_0 : decode cX11_checked 0 = .ok (.aload_n 0, 1) := by decide +kernel
theorem dX11_checked_1 : decode cX11_checked 1 = .ok (.getfield 19, 3) := by decide +kernel
theorem dX11_checked_4 : decode cX11_checked 4 = .ok (.iload_n 1, 1) := by decide +kernel
theorem dX11_checked_5 : decode cX11_checked 5 = .ok (.invokevirtual 153, 3) := by decide +kernel
theorem dX11_checked_8 : decode cX11_checked 8 = .ok (.ifCond .eq 14, 3) := by decide +kernel
theorem dX11_checked_11 : decode cX11_checked 11 = .ok (.aload_n 0, 1) := by decide +kernel
theorem dX11_checked_12 : decode cX11_checked 12 = .ok (.getfield 50, 3) := by decide +kernel
theorem dX11_checked_15 : decode cX11_checked 15 = .ok (.iload_n 1, 1) := by decide +kernel
theorem dX11_checked_16 : decode cX11_checked 16 = .ok (.invokevirtual 323, 3) := by decide +kernel
theorem dX11_checked_19 : decode cX11_checked 19 = .ok (.goto 4, 3) := by decide +kernel
theorem dX11_checked_22 : decode cX11_checked 22 = .ok (.iconst (-1), 1) := by decide +kernel
theorem dX11_checked_23 : decode cX11_checked 23 = .ok (.ireturn, 1) := by decide +kernel
theorem dX11_equal_0 : decode cX11_equal 0 = .ok (.aload_n 0, 1) := by decide +kernel
theorem dX11_equal_1 : decode cX11_equal 1 = .ok (.getfield 95, 3) := by decide +kernel
theorem dX11_equal_4 : decode cX11_equal 4 = .ok (.ifCond .eq 17, 3) := by decide +kernel
theorem dX11_equal_7 : decode cX11_equal 7 = .ok (.aload_n 0, 1) := by decide +kernel
theorem dX11_equal_8 : decode cX11_equal 8 = .ok (.getfield 50, 3) := by decide +kernel
theorem dX11_equal_11 : decode cX11_equal 11 = .ok (.aload_n 0, 1) := by decide +kernel
theorem dX11_equal_12 : decode cX11_equal 12 = .ok (.getfield 42, 3) := by decide +kernel
theorem dX11_equal_15 : decode cX11_equal 15 = .ok (.invokevirtual 326, 3) := by decide +kernel
theorem dX11_equal_18 : decode cX11_equal 18 = .ok (.goto 4, 3) := by decide +kernel
theorem dX11_equal_21 : decode cX11_equal 21 = .ok (.iconst (-1), 1) := by decide +kernel
theorem dX11_equal_22 : decode cX11_equal 22 = .ok (.ireturn, 1) := by decide +kernel
theorem dX11_span_0 : decode cX11_span 0 = .ok (.aload_n 0, 1) := by decide +kernel
theorem dX11_span_1 : decode cX11_span 1 = .ok (.getfield 19, 3) := by decide +kernel
theorem dX11_span_4 : decode cX11_span 4 = .ok (.invokevirtual 181, 3) := by decide +kernel
theorem dX11_span_7 : decode cX11_span 7 = .ok (.ifCond .eq 12, 3) := by decide +kernel
theorem dX11_span_10 : decode cX11_span 10 = .ok (.iload_n 1, 1) := by decide +kernel
theorem dX11_span_11 : decode cX11_span 11 = .ok (.ifCond .lt 8, 3) := by decide +kernel
theorem dX11_span_14 : decode cX11_span 14 = .ok (.iload_n 1, 1) := by decide +kernel
theorem dX11_span_15 : decode cX11_span 15 = .ok (.iconst 1, 1) := by decide +kernel
theorem dX11_span_16 : decode cX11_span 16 = .ok (.if_icmp .le 5, 3) := by decide +kernel
theorem dX11_span_19 : decode cX11_span 19 = .ok (.iconst (-1), 1) := by decide +kernel
theorem dX11_span_20 : decode cX11_span 20 = .ok (.ireturn, 1) := by decide +kernel
theorem dX11_span_21 : decode cX11_span 21 = .ok (.aload_n 0, 1) := by decide +kernel
theorem dX11_span_22 : decode cX11_span 22 = .ok (.getfield 50, 3) := by decide +kernel
theorem dX11_span_25 : decode cX11_span 25 = .ok (.iload_n 1, 1) := by decide +kernel
theorem dX11_span_26 : decode cX11_span 26 = .ok (.invokevirtual 330, 3) := by decide +kernel
theorem dX11_span_29 : decode cX11_span 29 = .ok (.ireturn, 1) := by decide +kernel
theorem dX11_risk_0 : decode cX11_risk 0 = .ok (.aload_n 0, 1) := by decide +kernel
theorem dX11_risk_1 : decode cX11_risk 1 = .ok (.getfield 19, 3) := by decide +kernel
theorem dX11_risk_4 : decode cX11_risk 4 = .ok (.invokevirtual 181, 3) := by decide +kernel
theorem dX11_risk_7 : decode cX11_risk 7 = .ok (.ifCond .eq 13, 3) := by decide +kernel
theorem dX11_risk_10 : decode cX11_risk 10 = .ok (.aload_n 0, 1) := by decide +kernel
theorem dX11_risk_11 : decode cX11_risk 11 = .ok (.getfield 50, 3) := by decide +kernel
theorem dX11_risk_14 : decode cX11_risk 14 = .ok (.invokevirtual 333, 3) := by decide +kernel
theorem dX11_risk_17 : decode cX11_risk 17 = .ok (.goto 4, 3) := by decide +kernel
theorem dX11_risk_20 : decode cX11_risk 20 = .ok (.iconst (-1), 1) := by decide +kernel
theorem dX11_risk_21 : decode cX11_risk 21 = .ok (.ireturn, 1) := by decide +kernel
theorem dX11_first_0 : decode cX11_first 0 = .ok (.aload_n 0, 1) := by decide +kernel
theorem dX11_first_1 : decode cX11_first 1 = .ok (.getfield 19, 3) := by decide +kernel
theorem dX11_first_4 : decode cX11_first 4 = .ok (.invokevirtual 181, 3) := by decide +kernel
theorem dX11_first_7 : decode cX11_first 7 = .ok (.ifCond .eq 14, 3) := by decide +kernel
theorem dX11_first_10 : decode cX11_first 10 = .ok (.aload_n 0, 1) := by decide +kernel
theorem dX11_first_11 : decode cX11_first 11 = .ok (.getfield 50, 3) := by decide +kernel
theorem dX11_first_14 : decode cX11_first 14 = .ok (.iload_n 1, 1) := by decide +kernel
theorem dX11_first_15 : decode cX11_first 15 = .ok (.invokevirtual 336, 3) := by decide +kernel
theorem dX11_first_18 : decode cX11_first 18 = .ok (.goto 4, 3) := by decide +kernel
theorem dX11_first_21 : decode cX11_first 21 = .ok (.iconst (-1), 1) := by decide +kernel
theorem dX11_first_22 : decode cX11_first 22 = .ok (.ireturn, 1) := by decide +kernel
theorem dX11_votes_0 : decode cX11_votes 0 = .ok (.aload_n 0, 1) := by decide +kernel
theorem dX11_votes_1 : decode cX11_votes 1 = .ok (.getfield 19, 3) := by decide +kernel
theorem dX11_votes_4 : decode cX11_votes 4 = .ok (.iload_n 1, 1) := by decide +kernel
theorem dX11_votes_5 : decode cX11_votes 5 = .ok (.invokevirtual 153, 3) := by decide +kernel
theorem dX11_votes_8 : decode cX11_votes 8 = .ok (.ifCond .eq 22, 3) := by decide +kernel
theorem dX11_votes_11 : decode cX11_votes 11 = .ok (.iload_n 2, 1) := by decide +kernel
theorem dX11_votes_12 : decode cX11_votes 12 = .ok (.invokestatic 200, 3) := by decide +kernel
theorem dX11_votes_15 : decode cX11_votes 15 = .ok (.ifCond .eq 15, 3) := by decide +kernel
theorem dX11_votes_18 : decode cX11_votes 18 = .ok (.aload_n 0, 1) := by decide +kernel
theorem dX11_votes_19 : decode cX11_votes 19 = .ok (.getfield 50, 3) := by decide +kernel
theorem dX11_votes_22 : decode cX11_votes 22 = .ok (.iload_n 1, 1) := by decide +kernel
theorem dX11_votes_23 : decode cX11_votes 23 = .ok (.iload_n 2, 1) := by decide +kernel
theorem dX11_votes_24 : decode cX11_votes 24 = .ok (.invokevirtual 339, 3) := by decide +kernel
theorem dX11_votes_27 : decode cX11_votes 27 = .ok (.goto 4, 3) := by decide +kernel
theorem dX11_votes_30 : decode cX11_votes 30 = .ok (.iconst (-1), 1) := by decide +kernel
theorem dX11_votes_31 : decode cX11_votes 31 = .ok (.ireturn, 1) := by decide +kernel
theorem dX11_isScript_0 : decode cX11_isScript 0 = .ok (.iload_n 1, 1) := by decide +kernel
theorem dX11_isScript_1 : decode cX11_isScript 1 = .ok (.ifCond .lt 33, 3) := by decide +kernel
theorem dX11_isScript_4 : decode cX11_isScript 4 = .ok (.iload_n 1, 1) := by decide +kernel
theorem dX11_isScript_5 : decode cX11_isScript 5 = .ok (.aload_n 0, 1) := by decide +kernel
theorem dX11_isScript_6 : decode cX11_isScript 6 = .ok (.getfield 88, 3) := by decide +kernel
theorem dX11_isScript_9 : decode cX11_isScript 9 = .ok (.if_icmp .ge 25, 3) := by decide +kernel
theorem dX11_isScript_12 : decode cX11_isScript 12 = .ok (.iload_n 1, 1) := by decide +kernel
theorem dX11_isScript_13 : decode cX11_isScript 13 = .ok (.aload_n 0, 1) := by decide +kernel
theorem dX11_isScript_14 : decode cX11_isScript 14 = .ok (.getfield 80, 3) := by decide +kernel
theorem dX11_isScript_17 : decode cX11_isScript 17 = .ok (.arraylength, 1) := by decide +kernel
theorem dX11_isScript_18 : decode cX11_isScript 18 = .ok (.if_icmp .ge 16, 3) := by decide +kernel
theorem dX11_isScript_21 : decode cX11_isScript 21 = .ok (.aload_n 0, 1) := by decide +kernel
theorem dX11_isScript_22 : decode cX11_isScript 22 = .ok (.getfield 80, 3) := by decide +kernel
theorem dX11_isScript_25 : decode cX11_isScript 25 = .ok (.iload_n 1, 1) := by decide +kernel
theorem dX11_isScript_26 : decode cX11_isScript 26 = .ok (.aaload, 1) := by decide +kernel
theorem dX11_isScript_27 : decode cX11_isScript 27 = .ok (.ifnull 7, 3) := by decide +kernel
theorem dX11_isScript_30 : decode cX11_isScript 30 = .ok (.iconst 1, 1) := by decide +kernel
theorem dX11_isScript_31 : decode cX11_isScript 31 = .ok (.goto 4, 3) := by decide +kernel
theorem dX11_isScript_34 : decode cX11_isScript 34 = .ok (.iconst 0, 1) := by decide +kernel
theorem dX11_isScript_35 : decode cX11_isScript 35 = .ok (.ireturn, 1) := by decide +kernel
theorem dX11_step_0 : decode cX11_step 0 = .ok (.aload_n 0, 1) := by decide +kernel
theorem dX11_step_1 : decode cX11_step 1 = .ok (.iload_n 1, 1) := by decide +kernel
theorem dX11_step_2 : decode cX11_step 2 = .ok (.invokevirtual 342, 3) := by decide +kernel
theorem dX11_step_5 : decode cX11_step 5 = .ok (.ifCond .eq 17, 3) := by decide +kernel
theorem dX11_step_8 : decode cX11_step 8 = .ok (.aload_n 0, 1) := by decide +kernel
theorem dX11_step_9 : decode cX11_step 9 = .ok (.getfield 80, 3) := by decide +kernel
theorem dX11_step_12 : decode cX11_step 12 = .ok (.iload_n 1, 1) := by decide +kernel
theorem dX11_step_13 : decode cX11_step 13 = .ok (.aaload, 1) := by decide +kernel
theorem dX11_step_14 : decode cX11_step 14 = .ok (.iload_n 2, 1) := by decide +kernel
theorem dX11_step_15 : decode cX11_step 15 = .ok (.iload_n 3, 1) := by decide +kernel
theorem dX11_step_16 : decode cX11_step 16 = .ok (.invokevirtual 345, 3) := by decide +kernel
theorem dX11_step_19 : decode cX11_step 19 = .ok (.goto 6, 3) := by decide +kernel
theorem dX11_step_22 : decode cX11_step 22 = .ok (.ldc_w 259, 3) := by decide +kernel
theorem dX11_step_25 : decode cX11_step 25 = .ok (.ireturn, 1) := by decide +kernel
theorem dX11_run_0 : decode cX11_run 0 = .ok (.aload_n 0, 1) := by decide +kernel
theorem dX11_run_1 : decode cX11_run 1 = .ok (.iload_n 1, 1) := by decide +kernel
theorem dX11_run_2 : decode cX11_run 2 = .ok (.invokevirtual 342, 3) := by decide +kernel
theorem dX11_run_5 : decode cX11_run 5 = .ok (.ifCond .eq 22, 3) := by decide +kernel
theorem dX11_run_8 : decode cX11_run 8 = .ok (.aload_n 0, 1) := by decide +kernel
theorem dX11_run_9 : decode cX11_run 9 = .ok (.getfield 19, 3) := by decide +kernel
theorem dX11_run_12 : decode cX11_run 12 = .ok (.invokevirtual 181, 3) := by decide +kernel
theorem dX11_run_15 : decode cX11_run 15 = .ok (.ifCond .eq 12, 3) := by decide +kernel
theorem dX11_run_18 : decode cX11_run 18 = .ok (.iload_n 2, 1) := by decide +kernel
theorem dX11_run_19 : decode cX11_run 19 = .ok (.ifCond .lt 8, 3) := by decide +kernel
theorem dX11_run_22 : decode cX11_run 22 = .ok (.iload_n 2, 1) := by decide +kernel
theorem dX11_run_23 : decode cX11_run 23 = .ok (.iconst 1, 1) := by decide +kernel
theorem dX11_run_24 : decode cX11_run 24 = .ok (.if_icmp .le 7, 3) := by decide +kernel
theorem dX11_run_27 : decode cX11_run 27 = .ok (.ldc_w 259, 3) := by decide +kernel
theorem dX11_run_30 : decode cX11_run 30 = .ok (.ireturn, 1) := by decide +kernel
theorem dX11_run_31 : decode cX11_run 31 = .ok (.aload_n 0, 1) := by decide +kernel
theorem dX11_run_32 : decode cX11_run 32 = .ok (.getfield 39, 3) := by decide +kernel
theorem dX11_run_35 : decode cX11_run 35 = .ok (.getfield 137, 3) := by decide +kernel
theorem dX11_run_38 : decode cX11_run 38 = .ok (.aload_n 0, 1) := by decide +kernel
theorem dX11_run_39 : decode cX11_run 39 = .ok (.getfield 35, 3) := by decide +kernel
theorem dX11_run_42 : decode cX11_run 42 = .ok (.getfield 137, 3) := by decide +kernel
theorem dX11_run_45 : decode cX11_run 45 = .ok (.invokevirtual 346, 3) := by decide +kernel
theorem dX11_run_48 : decode cX11_run 48 = .ok (.aload_n 0, 1) := by decide +kernel
theorem dX11_run_49 : decode cX11_run 49 = .ok (.getfield 39, 3) := by decide +kernel
theorem dX11_run_52 : decode cX11_run 52 = .ok (.aload_n 0, 1) := by decide +kernel
theorem dX11_run_53 : decode cX11_run 53 = .ok (.getfield 80, 3) := by decide +kernel
theorem dX11_run_56 : decode cX11_run 56 = .ok (.iload_n 1, 1) := by decide +kernel
theorem dX11_run_57 : decode cX11_run 57 = .ok (.aaload, 1) := by decide +kernel
theorem dX11_run_58 : decode cX11_run 58 = .ok (.invokevirtual 348, 3) := by decide +kernel
theorem dX11_run_61 : decode cX11_run 61 = .ok (.istore_n 3, 1) := by decide +kernel
theorem dX11_run_62 : decode cX11_run 62 = .ok (.iload_n 2, 1) := by decide +kernel
theorem dX11_run_63 : decode cX11_run 63 = .ok (.iconst 1, 1) := by decide +kernel
theorem dX11_run_64 : decode cX11_run 64 = .ok (.if_icmp .ne 25, 3) := by decide +kernel
theorem dX11_run_67 : decode cX11_run 67 = .ok (.aload_n 0, 1) := by decide +kernel
theorem dX11_run_68 : decode cX11_run 68 = .ok (.getfield 39, 3) := by decide +kernel
theorem dX11_run_71 : decode cX11_run 71 = .ok (.getfield 137, 3) := by decide +kernel
theorem dX11_run_74 : decode cX11_run 74 = .ok (.invokevirtual 276, 3) := by decide +kernel
theorem dX11_run_77 : decode cX11_run 77 = .ok (.aload_n 0, 1) := by decide +kernel
theorem dX11_run_78 : decode cX11_run 78 = .ok (.getfield 35, 3) := by decide +kernel
theorem dX11_run_81 : decode cX11_run 81 = .ok (.getfield 137, 3) := by decide +kernel
theorem dX11_run_84 : decode cX11_run 84 = .ok (.invokevirtual 276, 3) := by decide +kernel
theorem dX11_run_87 : decode cX11_run 87 = .ok (.isub, 1) := by decide +kernel
theorem dX11_run_88 : decode cX11_run 88 = .ok (.ireturn, 1) := by decide +kernel
theorem dX11_run_89 : decode cX11_run 89 = .ok (.iload_n 3, 1) := by decide +kernel
theorem dX11_run_90 : decode cX11_run 90 = .ok (.aload_n 0, 1) := by decide +kernel
theorem dX11_run_91 : decode cX11_run 91 = .ok (.getfield 80, 3) := by decide +kernel
theorem dX11_run_94 : decode cX11_run 94 = .ok (.iload_n 1, 1) := by decide +kernel
theorem dX11_run_95 : decode cX11_run 95 = .ok (.aaload, 1) := by decide +kernel
theorem dX11_run_96 : decode cX11_run 96 = .ok (.invokevirtual 352, 3) := by decide +kernel
theorem dX11_run_99 : decode cX11_run 99 = .ok (.if_icmp .ne 7, 3) := by decide +kernel
theorem dX11_run_102 : decode cX11_run 102 = .ok (.iconst (-1), 1) := by decide +kernel
theorem dX11_run_103 : decode cX11_run 103 = .ok (.goto 4, 3) := by decide +kernel
theorem dX11_run_106 : decode cX11_run 106 = .ok (.iload_n 3, 1) := by decide +kernel
theorem dX11_run_107 : decode cX11_run 107 = .ok (.ireturn, 1) := by decide +kernel
theorem dX11_perform_0 : decode cX11_perform 0 = .ok (.aload_n 0, 1) := by decide +kernel
theorem dX11_perform_1 : decode cX11_perform 1 = .ok (.iload_n 1, 1) := by decide +kernel
theorem dX11_perform_2 : decode cX11_perform 2 = .ok (.invokevirtual 342, 3) := by decide +kernel
theorem dX11_perform_5 : decode cX11_perform 5 = .ok (.ifCond .eq 13, 3) := by decide +kernel
theorem dX11_perform_8 : decode cX11_perform 8 = .ok (.aload_n 0, 1) := by decide +kernel
theorem dX11_perform_9 : decode cX11_perform 9 = .ok (.getfield 19, 3) := by decide +kernel
theorem dX11_perform_12 : decode cX11_perform 12 = .ok (.invokevirtual 181, 3) := by decide +kernel
theorem dX11_perform_15 : decode cX11_perform 15 = .ok (.ifCond .ne 5, 3) := by decide +kernel
theorem dX11_perform_18 : decode cX11_perform 18 = .ok (.iconst (-1), 1) := by decide +kernel
theorem dX11_perform_19 : decode cX11_perform 19 = .ok (.ireturn, 1) := by decide +kernel
theorem dX11_perform_20 : decode cX11_perform 20 = .ok (.aload_n 0, 1) := by decide +kernel
theorem dX11_perform_21 : decode cX11_perform 21 = .ok (.getfield 80, 3) := by decide +kernel
theorem dX11_perform_24 : decode cX11_perform 24 = .ok (.iload_n 1, 1) := by decide +kernel
theorem dX11_perform_25 : decode cX11_perform 25 = .ok (.aaload, 1) := by decide +kernel
theorem dX11_perform_26 : decode cX11_perform 26 = .ok (.astore_n 2, 1) := by decide +kernel
theorem dX11_perform_27 : decode cX11_perform 27 = .ok (.iconst 0, 1) := by decide +kernel
theorem dX11_perform_28 : decode cX11_perform 28 = .ok (.istore_n 3, 1) := by decide +kernel
theorem dX11_perform_29 : decode cX11_perform 29 = .ok (.iload_n 3, 1) := by decide +kernel
theorem dX11_perform_30 : decode cX11_perform 30 = .ok (.aload_n 2, 1) := by decide +kernel
theorem dX11_perform_31 : decode cX11_perform 31 = .ok (.invokevirtual 352, 3) := by decide +kernel
theorem dX11_perform_34 : decode cX11_perform 34 = .ok (.if_icmp .ge 53, 3) := by decide +kernel
theorem dX11_perform_37 : decode cX11_perform 37 = .ok (.aload_n 0, 1) := by decide +kernel
theorem dX11_perform_38 : decode cX11_perform 38 = .ok (.aload_n 2, 1) := by decide +kernel
theorem dX11_perform_39 : decode cX11_perform 39 = .ok (.iload_n 3, 1) := by decide +kernel
theorem dX11_perform_40 : decode cX11_perform 40 = .ok (.invokevirtual 353, 3) := by decide +kernel
theorem dX11_perform_43 : decode cX11_perform 43 = .ok (.aload_n 2, 1) := by decide +kernel
theorem dX11_perform_44 : decode cX11_perform 44 = .ok (.iload_n 3, 1) := by decide +kernel
theorem dX11_perform_45 : decode cX11_perform 45 = .ok (.iconst 0, 1) := by decide +kernel
theorem dX11_perform_46 : decode cX11_perform 46 = .ok (.invokevirtual 356, 3) := by decide +kernel
theorem dX11_perform_49 : decode cX11_perform 49 = .ok (.aload_n 2, 1) := by decide +kernel
theorem dX11_perform_50 : decode cX11_perform 50 = .ok (.iload_n 3, 1) := by decide +kernel
theorem dX11_perform_51 : decode cX11_perform 51 = .ok (.iconst 1, 1) := by decide +kernel
theorem dX11_perform_52 : decode cX11_perform 52 = .ok (.invokevirtual 356, 3) := by decide +kernel
theorem dX11_perform_55 : decode cX11_perform 55 = .ok (.aload_n 2, 1) := by decide +kernel
theorem dX11_perform_56 : decode cX11_perform 56 = .ok (.iload_n 3, 1) := by decide +kernel
theorem dX11_perform_57 : decode cX11_perform 57 = .ok (.iconst 2, 1) := by decide +kernel
theorem dX11_perform_58 : decode cX11_perform 58 = .ok (.invokevirtual 356, 3) := by decide +kernel
theorem dX11_perform_61 : decode cX11_perform 61 = .ok (.aload_n 2, 1) := by decide +kernel
theorem dX11_perform_62 : decode cX11_perform 62 = .ok (.iload_n 3, 1) := by decide +kernel
theorem dX11_perform_63 : decode cX11_perform 63 = .ok (.iconst 3, 1) := by decide +kernel
theorem dX11_perform_64 : decode cX11_perform 64 = .ok (.invokevirtual 356, 3) := by decide +kernel
theorem dX11_perform_67 : decode cX11_perform 67 = .ok (.invokevirtual 260, 3) := by decide +kernel
theorem dX11_perform_70 : decode cX11_perform 70 = .ok (.pop, 1) := by decide +kernel
theorem dX11_perform_71 : decode cX11_perform 71 = .ok (.aload_n 0, 1) := by decide +kernel
theorem dX11_perform_72 : decode cX11_perform 72 = .ok (.getfield 92, 3) := by decide +kernel
theorem dX11_perform_75 : decode cX11_perform 75 = .ok (.iconst (-1), 1) := by decide +kernel
theorem dX11_perform_76 : decode cX11_perform 76 = .ok (.if_icmp .eq 5, 3) := by decide +kernel
theorem dX11_perform_79 : decode cX11_perform 79 = .ok (.iload_n 3, 1) := by decide +kernel
theorem dX11_perform_80 : decode cX11_perform 80 = .ok (.ireturn, 1) := by decide +kernel
theorem dX11_perform_81 : decode cX11_perform 81 = .ok (.iinc 3 1, 3) := by decide +kernel
theorem dX11_perform_84 : decode cX11_perform 84 = .ok (.goto (-55), 3) := by decide +kernel
theorem dX11_perform_87 : decode cX11_perform 87 = .ok (.aload_n 2, 1) := by decide +kernel
theorem dX11_perform_88 : decode cX11_perform 88 = .ok (.invokevirtual 352, 3) := by decide +kernel
theorem dX11_perform_91 : decode cX11_perform 91 = .ok (.ireturn, 1) := by decide +kernel
theorem dX11_most_0 : decode cX11_most 0 = .ok (.aload_n 0, 1) := by decide +kernel
theorem dX11_most_1 : decode cX11_most 1 = .ok (.getfield 19, 3) := by decide +kernel
theorem dX11_most_4 : decode cX11_most 4 = .ok (.invokevirtual 181, 3) := by decide +kernel
theorem dX11_most_7 : decode cX11_most 7 = .ok (.ifCond .ne 7, 3) := by decide +kernel
theorem dX11_most_10 : decode cX11_most 10 = .ok (.ldc_w 259, 3) := by decide +kernel
theorem dX11_most_13 : decode cX11_most 13 = .ok (.ireturn, 1) := by decide +kernel
theorem dX11_most_14 : decode cX11_most 14 = .ok (.aload_n 0, 1) := by decide +kernel
theorem dX11_most_15 : decode cX11_most 15 = .ok (.getfield 35, 3) := by decide +kernel
theorem dX11_most_18 : decode cX11_most 18 = .ok (.getfield 137, 3) := by decide +kernel
theorem dX11_most_21 : decode cX11_most 21 = .ok (.astore_n 2, 1) := by decide +kernel
theorem dX11_most_22 : decode cX11_most 22 = .ok (.iload_n 1, 1) := by decide +kernel
theorem dX11_most_23 : decode cX11_most 23 = .ok (.tableswitch 143 0 10 #[57, 64, 71, 79, 87, 95, 103, 111, 119, 127, 135], 57) := by decide +kernel
theorem dX11_most_80 : decode cX11_most 80 = .ok (.aload_n 2, 1) := by decide +kernel
theorem dX11_most_81 : decode cX11_most 81 = .ok (.bipush 112, 2) := by decide +kernel
theorem dX11_most_83 : decode cX11_most 83 = .ok (.invokevirtual 358, 3) := by decide +kernel
theorem dX11_most_86 : decode cX11_most 86 = .ok (.ireturn, 1) := by decide +kernel
theorem dX11_most_87 : decode cX11_most 87 = .ok (.aload_n 2, 1) := by decide +kernel
theorem dX11_most_88 : decode cX11_most 88 = .ok (.bipush 120, 2) := by decide +kernel
theorem dX11_most_90 : decode cX11_most 90 = .ok (.invokevirtual 358, 3) := by decide +kernel
theorem dX11_most_93 : decode cX11_most 93 = .ok (.ireturn, 1) := by decide +kernel
theorem dX11_most_94 : decode cX11_most 94 = .ok (.aload_n 2, 1) := by decide +kernel
theorem dX11_most_95 : decode cX11_most 95 = .ok (.sipush 128, 3) := by decide +kernel
theorem dX11_most_98 : decode cX11_most 98 = .ok (.invokevirtual 358, 3) := by decide +kernel
theorem dX11_most_101 : decode cX11_most 101 = .ok (.ireturn, 1) := by decide +kernel
theorem dX11_most_102 : decode cX11_most 102 = .ok (.aload_n 2, 1) := by decide +kernel
theorem dX11_most_103 : decode cX11_most 103 = .ok (.sipush 137, 3) := by decide +kernel
theorem dX11_most_106 : decode cX11_most 106 = .ok (.invokevirtual 194, 3) := by decide +kernel
theorem dX11_most_109 : decode cX11_most 109 = .ok (.ireturn, 1) := by decide +kernel
theorem dX11_most_110 : decode cX11_most 110 = .ok (.aload_n 2, 1) := by decide +kernel
theorem dX11_most_111 : decode cX11_most 111 = .ok (.sipush 138, 3) := by decide +kernel
theorem dX11_most_114 : decode cX11_most 114 = .ok (.invokevirtual 194, 3) := by decide +kernel
theorem dX11_most_117 : decode cX11_most 117 = .ok (.ireturn, 1) := by decide +kernel
theorem dX11_most_118 : decode cX11_most 118 = .ok (.aload_n 2, 1) := by decide +kernel
theorem dX11_most_119 : decode cX11_most 119 = .ok (.sipush 139, 3) := by decide +kernel
theorem dX11_most_122 : decode cX11_most 122 = .ok (.invokevirtual 194, 3) := by decide +kernel
theorem dX11_most_125 : decode cX11_most 125 = .ok (.ireturn, 1) := by decide +kernel
theorem dX11_most_126 : decode cX11_most 126 = .ok (.aload_n 2, 1) := by decide +kernel
theorem dX11_most_127 : decode cX11_most 127 = .ok (.sipush 140, 3) := by decide +kernel
theorem dX11_most_130 : decode cX11_most 130 = .ok (.invokevirtual 194, 3) := by decide +kernel
theorem dX11_most_133 : decode cX11_most 133 = .ok (.ireturn, 1) := by decide +kernel
theorem dX11_most_134 : decode cX11_most 134 = .ok (.aload_n 0, 1) := by decide +kernel
theorem dX11_most_135 : decode cX11_most 135 = .ok (.getfield 35, 3) := by decide +kernel
theorem dX11_most_138 : decode cX11_most 138 = .ok (.invokevirtual 361, 3) := by decide +kernel
theorem dX11_most_141 : decode cX11_most 141 = .ok (.ireturn, 1) := by decide +kernel
theorem dX11_most_142 : decode cX11_most 142 = .ok (.aload_n 2, 1) := by decide +kernel
theorem dX11_most_143 : decode cX11_most 143 = .ok (.sipush 141, 3) := by decide +kernel
theorem dX11_most_146 : decode cX11_most 146 = .ok (.invokevirtual 194, 3) := by decide +kernel
theorem dX11_most_149 : decode cX11_most 149 = .ok (.ireturn, 1) := by decide +kernel
theorem dX11_most_150 : decode cX11_most 150 = .ok (.aload_n 2, 1) := by decide +kernel
theorem dX11_most_151 : decode cX11_most 151 = .ok (.sipush 142, 3) := by decide +kernel
theorem dX11_most_154 : decode cX11_most 154 = .ok (.invokevirtual 194, 3) := by decide +kernel
theorem dX11_most_157 : decode cX11_most 157 = .ok (.ireturn, 1) := by decide +kernel
theorem dX11_most_158 : decode cX11_most 158 = .ok (.aload_n 2, 1) := by decide +kernel
theorem dX11_most_159 : decode cX11_most 159 = .ok (.sipush 143, 3) := by decide +kernel
theorem dX11_most_162 : decode cX11_most 162 = .ok (.invokevirtual 194, 3) := by decide +kernel
theorem dX11_most_165 : decode cX11_most 165 = .ok (.ireturn, 1) := by decide +kernel
theorem dX11_most_166 : decode cX11_most 166 = .ok (.ldc_w 259, 3) := by decide +kernel
theorem dX11_most_169 : decode cX11_most 169 = .ok (.ireturn, 1) := by decide +kernel
theorem dX11_image_0 : decode cX11_image 0 = .ok (.aload_n 0, 1) := by decide +kernel
theorem dX11_image_1 : decode cX11_image 1 = .ok (.getfield 19, 3) := by decide +kernel
theorem dX11_image_4 : decode cX11_image 4 = .ok (.invokevirtual 181, 3) := by decide +kernel
theorem dX11_image_7 : decode cX11_image 7 = .ok (.ifCond .ne 5, 3) := by decide +kernel
theorem dX11_image_10 : decode cX11_image 10 = .ok (.iconst (-1), 1) := by decide +kernel
theorem dX11_image_11 : decode cX11_image 11 = .ok (.ireturn, 1) := by decide +kernel
theorem dX11_image_12 : decode cX11_image 12 = .ok (.aload_n 0, 1) := by decide +kernel
theorem dX11_image_13 : decode cX11_image 13 = .ok (.getfield 42, 3) := by decide +kernel
theorem dX11_image_16 : decode cX11_image 16 = .ok (.getfield 137, 3) := by decide +kernel
theorem dX11_image_19 : decode cX11_image 19 = .ok (.aload_n 0, 1) := by decide +kernel
theorem dX11_image_20 : decode cX11_image 20 = .ok (.getfield 35, 3) := by decide +kernel
theorem dX11_image_23 : decode cX11_image 23 = .ok (.getfield 137, 3) := by decide +kernel
theorem dX11_image_26 : decode cX11_image 26 = .ok (.invokevirtual 346, 3) := by decide +kernel
theorem dX11_image_29 : decode cX11_image 29 = .ok (.aload_n 0, 1) := by decide +kernel
theorem dX11_image_30 : decode cX11_image 30 = .ok (.getfield 61, 3) := by decide +kernel
theorem dX11_image_33 : decode cX11_image 33 = .ok (.aload_n 0, 1) := by decide +kernel
theorem dX11_image_34 : decode cX11_image 34 = .ok (.getfield 57, 3) := by decide +kernel
theorem dX11_image_37 : decode cX11_image 37 = .ok (.invokevirtual 364, 3) := by decide +kernel
theorem dX11_image_40 : decode cX11_image 40 = .ok (.aload_n 0, 1) := by decide +kernel
theorem dX11_image_41 : decode cX11_image 41 = .ok (.iconst 1, 1) := by decide +kernel
theorem dX11_image_42 : decode cX11_image 42 = .ok (.putfield 95, 3) := by decide +kernel
theorem dX11_image_45 : decode cX11_image 45 = .ok (.aload_n 0, 1) := by decide +kernel
theorem dX11_image_46 : decode cX11_image 46 = .ok (.getfield 35, 3) := by decide +kernel
theorem dX11_image_49 : decode cX11_image 49 = .ok (.getfield 137, 3) := by decide +kernel
theorem dX11_image_52 : decode cX11_image 52 = .ok (.invokevirtual 276, 3) := by decide +kernel
theorem dX11_image_55 : decode cX11_image 55 = .ok (.ireturn, 1) := by decide +kernel
theorem dX11_back_0 : decode cX11_back 0 = .ok (.aload_n 0, 1) := by decide +kernel
theorem dX11_back_1 : decode cX11_back 1 = .ok (.getfield 95, 3) := by decide +kernel
theorem dX11_back_4 : decode cX11_back 4 = .ok (.ifCond .ne 5, 3) := by decide +kernel
theorem dX11_back_7 : decode cX11_back 7 = .ok (.iconst (-1), 1) := by decide +kernel
theorem dX11_back_8 : decode cX11_back 8 = .ok (.ireturn, 1) := by decide +kernel
theorem dX11_back_9 : decode cX11_back 9 = .ok (.aload_n 0, 1) := by decide +kernel
theorem dX11_back_10 : decode cX11_back 10 = .ok (.getfield 35, 3) := by decide +kernel
theorem dX11_back_13 : decode cX11_back 13 = .ok (.getfield 137, 3) := by decide +kernel
theorem dX11_back_16 : decode cX11_back 16 = .ok (.aload_n 0, 1) := by decide +kernel
theorem dX11_back_17 : decode cX11_back 17 = .ok (.getfield 42, 3) := by decide +kernel
theorem dX11_back_20 : decode cX11_back 20 = .ok (.getfield 137, 3) := by decide +kernel
theorem dX11_back_23 : decode cX11_back 23 = .ok (.invokevirtual 346, 3) := by decide +kernel
theorem dX11_back_26 : decode cX11_back 26 = .ok (.aload_n 0, 1) := by decide +kernel
theorem dX11_back_27 : decode cX11_back 27 = .ok (.getfield 57, 3) := by decide +kernel
theorem dX11_back_30 : decode cX11_back 30 = .ok (.aload_n 0, 1) := by decide +kernel
theorem dX11_back_31 : decode cX11_back 31 = .ok (.getfield 61, 3) := by decide +kernel
theorem dX11_back_34 : decode cX11_back 34 = .ok (.invokevirtual 364, 3) := by decide +kernel
theorem dX11_back_37 : decode cX11_back 37 = .ok (.aload_n 0, 1) := by decide +kernel
theorem dX11_back_38 : decode cX11_back 38 = .ok (.getfield 67, 3) := by decide +kernel
theorem dX11_back_41 : decode cX11_back 41 = .ok (.invokevirtual 166, 3) := by decide +kernel
theorem dX11_back_44 : decode cX11_back 44 = .ok (.aload_n 0, 1) := by decide +kernel
theorem dX11_back_45 : decode cX11_back 45 = .ok (.getfield 35, 3) := by decide +kernel
theorem dX11_back_48 : decode cX11_back 48 = .ok (.getfield 137, 3) := by decide +kernel
theorem dX11_back_51 : decode cX11_back 51 = .ok (.invokevirtual 276, 3) := by decide +kernel
theorem dX11_back_54 : decode cX11_back 54 = .ok (.ireturn, 1) := by decide +kernel
theorem dX11_count_0 : decode cX11_count 0 = .ok (.iload_n 1, 1) := by decide +kernel
theorem dX11_count_1 : decode cX11_count 1 = .ok (.tableswitch 72 0 4 #[35, 43, 48, 56, 64], 35) := by decide +kernel
theorem dX11_count_36 : decode cX11_count 36 = .ok (.aload_n 0, 1) := by decide +kernel
theorem dX11_count_37 : decode cX11_count 37 = .ok (.getfield 19, 3) := by decide +kernel
theorem dX11_count_40 : decode cX11_count 40 = .ok (.invokevirtual 170, 3) := by decide +kernel
theorem dX11_count_43 : decode cX11_count 43 = .ok (.ireturn, 1) := by decide +kernel
theorem dX11_count_44 : decode cX11_count 44 = .ok (.aload_n 0, 1) := by decide +kernel
theorem dX11_count_45 : decode cX11_count 45 = .ok (.getfield 88, 3) := by decide +kernel
theorem dX11_count_48 : decode cX11_count 48 = .ok (.ireturn, 1) := by decide +kernel
theorem dX11_count_49 : decode cX11_count 49 = .ok (.aload_n 0, 1) := by decide +kernel
theorem dX11_count_50 : decode cX11_count 50 = .ok (.getfield 10, 3) := by decide +kernel
theorem dX11_count_53 : decode cX11_count 53 = .ok (.invokevirtual 104, 3) := by decide +kernel
theorem dX11_count_56 : decode cX11_count 56 = .ok (.ireturn, 1) := by decide +kernel
theorem dX11_count_57 : decode cX11_count 57 = .ok (.aload_n 0, 1) := by decide +kernel
theorem dX11_count_58 : decode cX11_count 58 = .ok (.getfield 57, 3) := by decide +kernel
theorem dX11_count_61 : decode cX11_count 61 = .ok (.invokevirtual 367, 3) := by decide +kernel
theorem dX11_count_64 : decode cX11_count 64 = .ok (.ireturn, 1) := by decide +kernel
theorem dX11_count_65 : decode cX11_count 65 = .ok (.aload_n 0, 1) := by decide +kernel
theorem dX11_count_66 : decode cX11_count 66 = .ok (.getfield 67, 3) := by decide +kernel
theorem dX11_count_69 : decode cX11_count 69 = .ok (.invokevirtual 289, 3) := by decide +kernel
theorem dX11_count_72 : decode cX11_count 72 = .ok (.ireturn, 1) := by decide +kernel
theorem dX11_count_73 : decode cX11_count 73 = .ok (.ldc_w 259, 3) := by decide +kernel
theorem dX11_count_76 : decode cX11_count 76 = .ok (.ireturn, 1) := by decide +kernel
