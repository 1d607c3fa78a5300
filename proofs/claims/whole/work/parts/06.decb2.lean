theorem dX8_refusalOfWrite_0 : decode cX8_refusalOfWrite 0 = .ok (.aload_n 0, 1) := by decide +kernel
theorem dX8_refusalOfWrite_1 : decode cX8_refusalOfWrite 1 = .ok (.getfield 18, 3) := by decide +kernel
theorem dX8_refusalOfWrite_4 : decode cX8_refusalOfWrite 4 = .ok (.iload_n 1, 1) := by decide +kernel
theorem dX8_refusalOfWrite_5 : decode cX8_refusalOfWrite 5 = .ok (.invokevirtual 133, 3) := by decide +kernel
theorem dX8_refusalOfWrite_8 : decode cX8_refusalOfWrite 8 = .ok (.ifCond .ne 5, 3) := by decide +kernel
theorem dX8_refusalOfWrite_11 : decode cX8_refusalOfWrite 11 = .ok (.iconst 0, 1) := by decide +kernel
theorem dX8_refusalOfWrite_12 : decode cX8_refusalOfWrite 12 = .ok (.ireturn, 1) := by decide +kernel
theorem dX8_refusalOfWrite_13 : decode cX8_refusalOfWrite 13 = .ok (.iload_n 2, 1) := by decide +kernel
theorem dX8_refusalOfWrite_14 : decode cX8_refusalOfWrite 14 = .ok (.invokestatic 137, 3) := by decide +kernel
theorem dX8_refusalOfWrite_17 : decode cX8_refusalOfWrite 17 = .ok (.ifCond .eq 7, 3) := by decide +kernel
theorem dX8_refusalOfWrite_20 : decode cX8_refusalOfWrite 20 = .ok (.iconst (-1), 1) := by decide +kernel
theorem dX8_refusalOfWrite_21 : decode cX8_refusalOfWrite 21 = .ok (.goto 4, 3) := by decide +kernel
theorem dX8_refusalOfWrite_24 : decode cX8_refusalOfWrite 24 = .ok (.iconst 1, 1) := by decide +kernel
theorem dX8_refusalOfWrite_25 : decode cX8_refusalOfWrite 25 = .ok (.ireturn, 1) := by decide +kernel
theorem dX8_refusalOfLoss_0 : decode cX8_refusalOfLoss 0 = .ok (.aload_n 0, 1) := by decide +kernel
theorem dX8_refusalOfLoss_1 : decode cX8_refusalOfLoss 1 = .ok (.getfield 18, 3) := by decide +kernel
theorem dX8_refusalOfLoss_4 : decode cX8_refusalOfLoss 4 = .ok (.iload_n 1, 1) := by decide +kernel
theorem dX8_refusalOfLoss_5 : decode cX8_refusalOfLoss 5 = .ok (.invokevirtual 140, 3) := by decide +kernel
theorem dX8_refusalOfLoss_8 : decode cX8_refusalOfLoss 8 = .ok (.ifCond .ne 5, 3) := by decide +kernel
theorem dX8_refusalOfLoss_11 : decode cX8_refusalOfLoss 11 = .ok (.iconst 0, 1) := by decide +kernel
theorem dX8_refusalOfLoss_12 : decode cX8_refusalOfLoss 12 = .ok (.ireturn, 1) := by decide +kernel
theorem dX8_refusalOfLoss_13 : decode cX8_refusalOfLoss 13 = .ok (.aload_n 0, 1) := by decide +kernel
theorem dX8_refusalOfLoss_14 : decode cX8_refusalOfLoss 14 = .ok (.iload_n 1, 1) := by decide +kernel
theorem dX8_refusalOfLoss_15 : decode cX8_refusalOfLoss 15 = .ok (.iconst 1, 1) := by decide +kernel
theorem dX8_refusalOfLoss_16 : decode cX8_refusalOfLoss 16 = .ok (.invokevirtual 49, 3) := by decide +kernel
theorem dX8_refusalOfLoss_19 : decode cX8_refusalOfLoss 19 = .ok (.ifCond .eq 5, 3) := by decide +kernel
theorem dX8_refusalOfLoss_22 : decode cX8_refusalOfLoss 22 = .ok (.iconst 2, 1) := by decide +kernel
theorem dX8_refusalOfLoss_23 : decode cX8_refusalOfLoss 23 = .ok (.ireturn, 1) := by decide +kernel
theorem dX8_refusalOfLoss_24 : decode cX8_refusalOfLoss 24 = .ok (.aload_n 0, 1) := by decide +kernel
theorem dX8_refusalOfLoss_25 : decode cX8_refusalOfLoss 25 = .ok (.iload_n 1, 1) := by decide +kernel
theorem dX8_refusalOfLoss_26 : decode cX8_refusalOfLoss 26 = .ok (.invokevirtual 143, 3) := by decide +kernel
theorem dX8_refusalOfLoss_29 : decode cX8_refusalOfLoss 29 = .ok (.ifCond .eq 7, 3) := by decide +kernel
theorem dX8_refusalOfLoss_32 : decode cX8_refusalOfLoss 32 = .ok (.iconst (-1), 1) := by decide +kernel
theorem dX8_refusalOfLoss_33 : decode cX8_refusalOfLoss 33 = .ok (.goto 4, 3) := by decide +kernel
theorem dX8_refusalOfLoss_36 : decode cX8_refusalOfLoss 36 = .ok (.iconst 3, 1) := by decide +kernel
theorem dX8_refusalOfLoss_37 : decode cX8_refusalOfLoss 37 = .ok (.ireturn, 1) := by decide +kernel
theorem dX8_refusalOfReplacing_0 : decode cX8_refusalOfReplacing 0 = .ok (.aload_n 0, 1) := by decide +kernel
theorem dX8_refusalOfReplacing_1 : decode cX8_refusalOfReplacing 1 = .ok (.getfield 18, 3) := by decide +kernel
theorem dX8_refusalOfReplacing_4 : decode cX8_refusalOfReplacing 4 = .ok (.iload_n 1, 1) := by decide +kernel
theorem dX8_refusalOfReplacing_5 : decode cX8_refusalOfReplacing 5 = .ok (.invokevirtual 140, 3) := by decide +kernel
theorem dX8_refusalOfReplacing_8 : decode cX8_refusalOfReplacing 8 = .ok (.ifCond .ne 5, 3) := by decide +kernel
theorem dX8_refusalOfReplacing_11 : decode cX8_refusalOfReplacing 11 = .ok (.iconst 0, 1) := by decide +kernel
theorem dX8_refusalOfReplacing_12 : decode cX8_refusalOfReplacing 12 = .ok (.ireturn, 1) := by decide +kernel
theorem dX8_refusalOfReplacing_13 : decode cX8_refusalOfReplacing 13 = .ok (.aload_n 0, 1) := by decide +kernel
theorem dX8_refusalOfReplacing_14 : decode cX8_refusalOfReplacing 14 = .ok (.iload_n 1, 1) := by decide +kernel
theorem dX8_refusalOfReplacing_15 : decode cX8_refusalOfReplacing 15 = .ok (.iconst 1, 1) := by decide +kernel
theorem dX8_refusalOfReplacing_16 : decode cX8_refusalOfReplacing 16 = .ok (.invokevirtual 49, 3) := by decide +kernel
theorem dX8_refusalOfReplacing_19 : decode cX8_refusalOfReplacing 19 = .ok (.ifCond .ne 5, 3) := by decide +kernel
theorem dX8_refusalOfReplacing_22 : decode cX8_refusalOfReplacing 22 = .ok (.iconst 2, 1) := by decide +kernel
theorem dX8_refusalOfReplacing_23 : decode cX8_refusalOfReplacing 23 = .ok (.ireturn, 1) := by decide +kernel
theorem dX8_refusalOfReplacing_24 : decode cX8_refusalOfReplacing 24 = .ok (.aload_n 0, 1) := by decide +kernel
theorem dX8_refusalOfReplacing_25 : decode cX8_refusalOfReplacing 25 = .ok (.getfield 12, 3) := by decide +kernel
theorem dX8_refusalOfReplacing_28 : decode cX8_refusalOfReplacing 28 = .ok (.sipush 136, 3) := by decide +kernel
theorem dX8_refusalOfReplacing_31 : decode cX8_refusalOfReplacing 31 = .ok (.invokevirtual 31, 3) := by decide +kernel
theorem dX8_refusalOfReplacing_34 : decode cX8_refusalOfReplacing 34 = .ok (.ifCond .le 7, 3) := by decide +kernel
theorem dX8_refusalOfReplacing_37 : decode cX8_refusalOfReplacing 37 = .ok (.iconst (-1), 1) := by decide +kernel
theorem dX8_refusalOfReplacing_38 : decode cX8_refusalOfReplacing 38 = .ok (.goto 4, 3) := by decide +kernel
theorem dX8_refusalOfReplacing_41 : decode cX8_refusalOfReplacing 41 = .ok (.iconst 3, 1) := by decide +kernel
theorem dX8_refusalOfReplacing_42 : decode cX8_refusalOfReplacing 42 = .ok (.ireturn, 1) := by decide +kernel
theorem dX8_refusalOfRebuilding_0 : decode cX8_refusalOfRebuilding 0 = .ok (.aload_n 0, 1) := by decide +kernel
theorem dX8_refusalOfRebuilding_1 : decode cX8_refusalOfRebuilding 1 = .ok (.getfield 18, 3) := by decide +kernel
theorem dX8_refusalOfRebuilding_4 : decode cX8_refusalOfRebuilding 4 = .ok (.iload_n 1, 1) := by decide +kernel
theorem dX8_refusalOfRebuilding_5 : decode cX8_refusalOfRebuilding 5 = .ok (.invokevirtual 140, 3) := by decide +kernel
theorem dX8_refusalOfRebuilding_8 : decode cX8_refusalOfRebuilding 8 = .ok (.ifCond .ne 5, 3) := by decide +kernel
theorem dX8_refusalOfRebuilding_11 : decode cX8_refusalOfRebuilding 11 = .ok (.iconst 0, 1) := by decide +kernel
theorem dX8_refusalOfRebuilding_12 : decode cX8_refusalOfRebuilding 12 = .ok (.ireturn, 1) := by decide +kernel
theorem dX8_refusalOfRebuilding_13 : decode cX8_refusalOfRebuilding 13 = .ok (.iload_n 2, 1) := by decide +kernel
theorem dX8_refusalOfRebuilding_14 : decode cX8_refusalOfRebuilding 14 = .ok (.iconst 1, 1) := by decide +kernel
theorem dX8_refusalOfRebuilding_15 : decode cX8_refusalOfRebuilding 15 = .ok (.if_icmp .lt 9, 3) := by decide +kernel
theorem dX8_refusalOfRebuilding_18 : decode cX8_refusalOfRebuilding 18 = .ok (.iload_n 2, 1) := by decide +kernel
theorem dX8_refusalOfRebuilding_19 : decode cX8_refusalOfRebuilding 19 = .ok (.bipush 12, 2) := by decide +kernel
theorem dX8_refusalOfRebuilding_21 : decode cX8_refusalOfRebuilding 21 = .ok (.if_icmp .le 5, 3) := by decide +kernel
theorem dX8_refusalOfRebuilding_24 : decode cX8_refusalOfRebuilding 24 = .ok (.iconst 1, 1) := by decide +kernel
theorem dX8_refusalOfRebuilding_25 : decode cX8_refusalOfRebuilding 25 = .ok (.ireturn, 1) := by decide +kernel
theorem dX8_refusalOfRebuilding_26 : decode cX8_refusalOfRebuilding 26 = .ok (.aload_n 0, 1) := by decide +kernel
theorem dX8_refusalOfRebuilding_27 : decode cX8_refusalOfRebuilding 27 = .ok (.iload_n 1, 1) := by decide +kernel
theorem dX8_refusalOfRebuilding_28 : decode cX8_refusalOfRebuilding 28 = .ok (.iconst 2, 1) := by decide +kernel
theorem dX8_refusalOfRebuilding_29 : decode cX8_refusalOfRebuilding 29 = .ok (.invokevirtual 49, 3) := by decide +kernel
theorem dX8_refusalOfRebuilding_32 : decode cX8_refusalOfRebuilding 32 = .ok (.ifCond .eq 7, 3) := by decide +kernel
theorem dX8_refusalOfRebuilding_35 : decode cX8_refusalOfRebuilding 35 = .ok (.iconst (-1), 1) := by decide +kernel
theorem dX8_refusalOfRebuilding_36 : decode cX8_refusalOfRebuilding 36 = .ok (.goto 4, 3) := by decide +kernel
theorem dX8_refusalOfRebuilding_39 : decode cX8_refusalOfRebuilding 39 = .ok (.iconst 2, 1) := by decide +kernel
theorem dX8_refusalOfRebuilding_40 : decode cX8_refusalOfRebuilding 40 = .ok (.ireturn, 1) := by decide +kernel
theorem dX8_refusalOfScrubbing_0 : decode cX8_refusalOfScrubbing 0 = .ok (.aload_n 0, 1) := by decide +kernel
theorem dX8_refusalOfScrubbing_1 : decode cX8_refusalOfScrubbing 1 = .ok (.getfield 18, 3) := by decide +kernel
theorem dX8_refusalOfScrubbing_4 : decode cX8_refusalOfScrubbing 4 = .ok (.invokevirtual 146, 3) := by decide +kernel
theorem dX8_refusalOfScrubbing_7 : decode cX8_refusalOfScrubbing 7 = .ok (.ifCond .ne 5, 3) := by decide +kernel
theorem dX8_refusalOfScrubbing_10 : decode cX8_refusalOfScrubbing 10 = .ok (.iconst 0, 1) := by decide +kernel
theorem dX8_refusalOfScrubbing_11 : decode cX8_refusalOfScrubbing 11 = .ok (.ireturn, 1) := by decide +kernel
theorem dX8_refusalOfScrubbing_12 : decode cX8_refusalOfScrubbing 12 = .ok (.iload_n 1, 1) := by decide +kernel
theorem dX8_refusalOfScrubbing_13 : decode cX8_refusalOfScrubbing 13 = .ok (.iconst 1, 1) := by decide +kernel
theorem dX8_refusalOfScrubbing_14 : decode cX8_refusalOfScrubbing 14 = .ok (.if_icmp .lt 9, 3) := by decide +kernel
theorem dX8_refusalOfScrubbing_17 : decode cX8_refusalOfScrubbing 17 = .ok (.iload_n 1, 1) := by decide +kernel
theorem dX8_refusalOfScrubbing_18 : decode cX8_refusalOfScrubbing 18 = .ok (.bipush 12, 2) := by decide +kernel
theorem dX8_refusalOfScrubbing_20 : decode cX8_refusalOfScrubbing 20 = .ok (.if_icmp .le 7, 3) := by decide +kernel
theorem dX8_refusalOfScrubbing_23 : decode cX8_refusalOfScrubbing 23 = .ok (.iconst 1, 1) := by decide +kernel
theorem dX8_refusalOfScrubbing_24 : decode cX8_refusalOfScrubbing 24 = .ok (.goto 4, 3) := by decide +kernel
theorem dX8_refusalOfScrubbing_27 : decode cX8_refusalOfScrubbing 27 = .ok (.iconst (-1), 1) := by decide +kernel
theorem dX8_refusalOfScrubbing_28 : decode cX8_refusalOfScrubbing 28 = .ok (.ireturn, 1) := by decide +kernel
theorem dX8_refusalOfSpoiling_0 : decode cX8_refusalOfSpoiling 0 = .ok (.aload_n 0, 1) := by decide +kernel
theorem dX8_refusalOfSpoiling_1 : decode cX8_refusalOfSpoiling 1 = .ok (.getfield 18, 3) := by decide +kernel
theorem dX8_refusalOfSpoiling_4 : decode cX8_refusalOfSpoiling 4 = .ok (.iload_n 1, 1) := by decide +kernel
theorem dX8_refusalOfSpoiling_5 : decode cX8_refusalOfSpoiling 5 = .ok (.iload_n 2, 1) := by decide +kernel
theorem dX8_refusalOfSpoiling_6 : decode cX8_refusalOfSpoiling 6 = .ok (.iload_n 3, 1) := by decide +kernel
theorem dX8_refusalOfSpoiling_7 : decode cX8_refusalOfSpoiling 7 = .ok (.invokevirtual 150, 3) := by decide +kernel
theorem dX8_refusalOfSpoiling_10 : decode cX8_refusalOfSpoiling 10 = .ok (.ifCond .ne 5, 3) := by decide +kernel
theorem dX8_refusalOfSpoiling_13 : decode cX8_refusalOfSpoiling 13 = .ok (.iconst 0, 1) := by decide +kernel
theorem dX8_refusalOfSpoiling_14 : decode cX8_refusalOfSpoiling 14 = .ok (.ireturn, 1) := by decide +kernel
theorem dX8_refusalOfSpoiling_15 : decode cX8_refusalOfSpoiling 15 = .ok (.iload 4, 2) := by decide +kernel
theorem dX8_refusalOfSpoiling_17 : decode cX8_refusalOfSpoiling 17 = .ok (.invokestatic 137, 3) := by decide +kernel
theorem dX8_refusalOfSpoiling_20 : decode cX8_refusalOfSpoiling 20 = .ok (.ifCond .eq 8, 3) := by decide +kernel
theorem dX8_refusalOfSpoiling_23 : decode cX8_refusalOfSpoiling 23 = .ok (.iload 4, 2) := by decide +kernel
theorem dX8_refusalOfSpoiling_25 : decode cX8_refusalOfSpoiling 25 = .ok (.ifCond .ne 5, 3) := by decide +kernel
theorem dX8_refusalOfSpoiling_28 : decode cX8_refusalOfSpoiling 28 = .ok (.iconst 1, 1) := by decide +kernel
theorem dX8_refusalOfSpoiling_29 : decode cX8_refusalOfSpoiling 29 = .ok (.ireturn, 1) := by decide +kernel
theorem dX8_refusalOfSpoiling_30 : decode cX8_refusalOfSpoiling 30 = .ok (.aload_n 0, 1) := by decide +kernel
theorem dX8_refusalOfSpoiling_31 : decode cX8_refusalOfSpoiling 31 = .ok (.iload_n 1, 1) := by decide +kernel
theorem dX8_refusalOfSpoiling_32 : decode cX8_refusalOfSpoiling 32 = .ok (.iload_n 2, 1) := by decide +kernel
theorem dX8_refusalOfSpoiling_33 : decode cX8_refusalOfSpoiling 33 = .ok (.invokevirtual 45, 3) := by decide +kernel
theorem dX8_refusalOfSpoiling_36 : decode cX8_refusalOfSpoiling 36 = .ok (.ifCond .eq 7, 3) := by decide +kernel
theorem dX8_refusalOfSpoiling_39 : decode cX8_refusalOfSpoiling 39 = .ok (.iconst (-1), 1) := by decide +kernel
theorem dX8_refusalOfSpoiling_40 : decode cX8_refusalOfSpoiling 40 = .ok (.goto 4, 3) := by decide +kernel
theorem dX8_refusalOfSpoiling_43 : decode cX8_refusalOfSpoiling 43 = .ok (.iconst 2, 1) := by decide +kernel
theorem dX8_refusalOfSpoiling_44 : decode cX8_refusalOfSpoiling 44 = .ok (.ireturn, 1) := by decide +kernel
theorem dX8_refusalOfTearing_0 : decode cX8_refusalOfTearing 0 = .ok (.aload_n 0, 1) := by decide +kernel
theorem dX8_refusalOfTearing_1 : decode cX8_refusalOfTearing 1 = .ok (.getfield 18, 3) := by decide +kernel
theorem dX8_refusalOfTearing_4 : decode cX8_refusalOfTearing 4 = .ok (.iload_n 1, 1) := by decide +kernel
theorem dX8_refusalOfTearing_5 : decode cX8_refusalOfTearing 5 = .ok (.invokevirtual 133, 3) := by decide +kernel
theorem dX8_refusalOfTearing_8 : decode cX8_refusalOfTearing 8 = .ok (.ifCond .ne 5, 3) := by decide +kernel
theorem dX8_refusalOfTearing_11 : decode cX8_refusalOfTearing 11 = .ok (.iconst 0, 1) := by decide +kernel
theorem dX8_refusalOfTearing_12 : decode cX8_refusalOfTearing 12 = .ok (.ireturn, 1) := by decide +kernel
theorem dX8_refusalOfTearing_13 : decode cX8_refusalOfTearing 13 = .ok (.iload_n 2, 1) := by decide +kernel
theorem dX8_refusalOfTearing_14 : decode cX8_refusalOfTearing 14 = .ok (.invokestatic 137, 3) := by decide +kernel
theorem dX8_refusalOfTearing_17 : decode cX8_refusalOfTearing 17 = .ok (.ifCond .eq 12, 3) := by decide +kernel
theorem dX8_refusalOfTearing_20 : decode cX8_refusalOfTearing 20 = .ok (.iload_n 3, 1) := by decide +kernel
theorem dX8_refusalOfTearing_21 : decode cX8_refusalOfTearing 21 = .ok (.ifCond .lt 8, 3) := by decide +kernel
theorem dX8_refusalOfTearing_24 : decode cX8_refusalOfTearing 24 = .ok (.iload_n 3, 1) := by decide +kernel
theorem dX8_refusalOfTearing_25 : decode cX8_refusalOfTearing 25 = .ok (.iconst 2, 1) := by decide +kernel
theorem dX8_refusalOfTearing_26 : decode cX8_refusalOfTearing 26 = .ok (.if_icmp .le 5, 3) := by decide +kernel
theorem dX8_refusalOfTearing_29 : decode cX8_refusalOfTearing 29 = .ok (.iconst 1, 1) := by decide +kernel
theorem dX8_refusalOfTearing_30 : decode cX8_refusalOfTearing 30 = .ok (.ireturn, 1) := by decide +kernel
theorem dX8_refusalOfTearing_31 : decode cX8_refusalOfTearing 31 = .ok (.aload_n 0, 1) := by decide +kernel
theorem dX8_refusalOfTearing_32 : decode cX8_refusalOfTearing 32 = .ok (.iconst 0, 1) := by decide +kernel
theorem dX8_refusalOfTearing_33 : decode cX8_refusalOfTearing 33 = .ok (.aload_n 0, 1) := by decide +kernel
theorem dX8_refusalOfTearing_34 : decode cX8_refusalOfTearing 34 = .ok (.getfield 18, 3) := by decide +kernel
theorem dX8_refusalOfTearing_37 : decode cX8_refusalOfTearing 37 = .ok (.iload_n 1, 1) := by decide +kernel
theorem dX8_refusalOfTearing_38 : decode cX8_refusalOfTearing 38 = .ok (.invokevirtual 74, 3) := by decide +kernel
theorem dX8_refusalOfTearing_41 : decode cX8_refusalOfTearing 41 = .ok (.invokevirtual 85, 3) := by decide +kernel
theorem dX8_refusalOfTearing_44 : decode cX8_refusalOfTearing 44 = .ok (.istore 4, 2) := by decide +kernel
theorem dX8_refusalOfTearing_46 : decode cX8_refusalOfTearing 46 = .ok (.aload_n 0, 1) := by decide +kernel
theorem dX8_refusalOfTearing_47 : decode cX8_refusalOfTearing 47 = .ok (.aload_n 0, 1) := by decide +kernel
theorem dX8_refusalOfTearing_48 : decode cX8_refusalOfTearing 48 = .ok (.getfield 18, 3) := by decide +kernel
theorem dX8_refusalOfTearing_51 : decode cX8_refusalOfTearing 51 = .ok (.iload_n 1, 1) := by decide +kernel
theorem dX8_refusalOfTearing_52 : decode cX8_refusalOfTearing 52 = .ok (.invokevirtual 61, 3) := by decide +kernel
theorem dX8_refusalOfTearing_55 : decode cX8_refusalOfTearing 55 = .ok (.invokevirtual 67, 3) := by decide +kernel
theorem dX8_refusalOfTearing_58 : decode cX8_refusalOfTearing 58 = .ok (.iload 4, 2) := by decide +kernel
theorem dX8_refusalOfTearing_60 : decode cX8_refusalOfTearing 60 = .ok (.iand, 1) := by decide +kernel
theorem dX8_refusalOfTearing_61 : decode cX8_refusalOfTearing 61 = .ok (.ifCond .ne 7, 3) := by decide +kernel
theorem dX8_refusalOfTearing_64 : decode cX8_refusalOfTearing 64 = .ok (.iconst (-1), 1) := by decide +kernel
theorem dX8_refusalOfTearing_65 : decode cX8_refusalOfTearing 65 = .ok (.goto 4, 3) := by decide +kernel
theorem dX8_refusalOfTearing_68 : decode cX8_refusalOfTearing 68 = .ok (.iconst 2, 1) := by decide +kernel
theorem dX8_refusalOfTearing_69 : decode cX8_refusalOfTearing 69 = .ok (.ireturn, 1) := by decide +kernel
theorem dX8_refusalOfCleaning_0 : decode cX8_refusalOfCleaning 0 = .ok (.aload_n 0, 1) := by decide +kernel
theorem dX8_refusalOfCleaning_1 : decode cX8_refusalOfCleaning 1 = .ok (.getfield 18, 3) := by decide +kernel
theorem dX8_refusalOfCleaning_4 : decode cX8_refusalOfCleaning 4 = .ok (.invokevirtual 146, 3) := by decide +kernel
theorem dX8_refusalOfCleaning_7 : decode cX8_refusalOfCleaning 7 = .ok (.ifCond .ne 5, 3) := by decide +kernel
theorem dX8_refusalOfCleaning_10 : decode cX8_refusalOfCleaning 10 = .ok (.iconst 0, 1) := by decide +kernel
theorem dX8_refusalOfCleaning_11 : decode cX8_refusalOfCleaning 11 = .ok (.ireturn, 1) := by decide +kernel
theorem dX8_refusalOfCleaning_12 : decode cX8_refusalOfCleaning 12 = .ok (.iconst 0, 1) := by decide +kernel
theorem dX8_refusalOfCleaning_13 : decode cX8_refusalOfCleaning 13 = .ok (.istore_n 1, 1) := by decide +kernel
theorem dX8_refusalOfCleaning_14 : decode cX8_refusalOfCleaning 14 = .ok (.iload_n 1, 1) := by decide +kernel
theorem dX8_refusalOfCleaning_15 : decode cX8_refusalOfCleaning 15 = .ok (.aload_n 0, 1) := by decide +kernel
theorem dX8_refusalOfCleaning_16 : decode cX8_refusalOfCleaning 16 = .ok (.getfield 18, 3) := by decide +kernel
theorem dX8_refusalOfCleaning_19 : decode cX8_refusalOfCleaning 19 = .ok (.getfield 154, 3) := by decide +kernel
theorem dX8_refusalOfCleaning_22 : decode cX8_refusalOfCleaning 22 = .ok (.if_icmp .ge 27, 3) := by decide +kernel
theorem dX8_refusalOfCleaning_25 : decode cX8_refusalOfCleaning 25 = .ok (.aload_n 0, 1) := by decide +kernel
theorem dX8_refusalOfCleaning_26 : decode cX8_refusalOfCleaning 26 = .ok (.iload_n 1, 1) := by decide +kernel
theorem dX8_refusalOfCleaning_27 : decode cX8_refusalOfCleaning 27 = .ok (.invokevirtual 157, 3) := by decide +kernel
theorem dX8_refusalOfCleaning_30 : decode cX8_refusalOfCleaning 30 = .ok (.ifCond .eq 13, 3) := by decide +kernel
theorem dX8_refusalOfCleaning_33 : decode cX8_refusalOfCleaning 33 = .ok (.aload_n 0, 1) := by decide +kernel
theorem dX8_refusalOfCleaning_34 : decode cX8_refusalOfCleaning 34 = .ok (.iload_n 1, 1) := by decide +kernel
theorem dX8_refusalOfCleaning_35 : decode cX8_refusalOfCleaning 35 = .ok (.invokevirtual 67, 3) := by decide +kernel
theorem dX8_refusalOfCleaning_38 : decode cX8_refusalOfCleaning 38 = .ok (.ifCond .ne 5, 3) := by decide +kernel
theorem dX8_refusalOfCleaning_41 : decode cX8_refusalOfCleaning 41 = .ok (.iconst (-1), 1) := by decide +kernel
theorem dX8_refusalOfCleaning_42 : decode cX8_refusalOfCleaning 42 = .ok (.ireturn, 1) := by decide +kernel
theorem dX8_refusalOfCleaning_43 : decode cX8_refusalOfCleaning 43 = .ok (.iinc 1 1, 3) := by decide +kernel
theorem dX8_refusalOfCleaning_46 : decode cX8_refusalOfCleaning 46 = .ok (.goto (-32), 3) := by decide +kernel
theorem dX8_refusalOfCleaning_49 : decode cX8_refusalOfCleaning 49 = .ok (.iconst 2, 1) := by decide +kernel
theorem dX8_refusalOfCleaning_50 : decode cX8_refusalOfCleaning 50 = .ok (.ireturn, 1) := by decide +kernel
theorem dX8_refusalOfFull_0 : decode cX8_refusalOfFull 0 = .ok (.aload_n 0, 1) := by decide +kernel
theorem dX8_refusalOfFull_1 : decode cX8_refusalOfFull 1 = .ok (.getfield 18, 3) := by decide +kernel
theorem dX8_refusalOfFull_4 : decode cX8_refusalOfFull 4 = .ok (.iload_n 1, 1) := by decide +kernel
theorem dX8_refusalOfFull_5 : decode cX8_refusalOfFull 5 = .ok (.invokevirtual 160, 3) := by decide +kernel
theorem dX8_refusalOfFull_8 : decode cX8_refusalOfFull 8 = .ok (.ifCond .eq 14, 3) := by decide +kernel
theorem dX8_refusalOfFull_11 : decode cX8_refusalOfFull 11 = .ok (.aload_n 0, 1) := by decide +kernel
theorem dX8_refusalOfFull_12 : decode cX8_refusalOfFull 12 = .ok (.getfield 18, 3) := by decide +kernel
theorem dX8_refusalOfFull_15 : decode cX8_refusalOfFull 15 = .ok (.iload_n 2, 1) := by decide +kernel
theorem dX8_refusalOfFull_16 : decode cX8_refusalOfFull 16 = .ok (.invokevirtual 163, 3) := by decide +kernel
theorem dX8_refusalOfFull_19 : decode cX8_refusalOfFull 19 = .ok (.ifCond .ne 5, 3) := by decide +kernel
theorem dX8_refusalOfFull_22 : decode cX8_refusalOfFull 22 = .ok (.iconst 0, 1) := by decide +kernel
theorem dX8_refusalOfFull_23 : decode cX8_refusalOfFull 23 = .ok (.ireturn, 1) := by decide +kernel
theorem dX8_refusalOfFull_24 : decode cX8_refusalOfFull 24 = .ok (.iload_n 3, 1) := by decide +kernel
theorem dX8_refusalOfFull_25 : decode cX8_refusalOfFull 25 = .ok (.invokestatic 137, 3) := by decide +kernel
theorem dX8_refusalOfFull_28 : decode cX8_refusalOfFull 28 = .ok (.ifCond .eq 15, 3) := by decide +kernel
theorem dX8_refusalOfFull_31 : decode cX8_refusalOfFull 31 = .ok (.iload 4, 2) := by decide +kernel
theorem dX8_refusalOfFull_33 : decode cX8_refusalOfFull 33 = .ok (.invokestatic 137, 3) := by decide +kernel
theorem dX8_refusalOfFull_36 : decode cX8_refusalOfFull 36 = .ok (.ifCond .eq 7, 3) := by decide +kernel
theorem dX8_refusalOfFull_39 : decode cX8_refusalOfFull 39 = .ok (.iconst (-1), 1) := by decide +kernel
theorem dX8_refusalOfFull_40 : decode cX8_refusalOfFull 40 = .ok (.goto 4, 3) := by decide +kernel
theorem dX8_refusalOfFull_43 : decode cX8_refusalOfFull 43 = .ok (.iconst 1, 1) := by decide +kernel
theorem dX8_refusalOfFull_44 : decode cX8_refusalOfFull 44 = .ok (.ireturn, 1) := by decide +kernel
theorem dX8_refusal_0 : decode cX8_refusal 0 = .ok (.iload_n 1, 1) := by decide +kernel
theorem dX8_refusal_1 : decode cX8_refusal 1 = .ok (.tableswitch 119 0 8 #[51, 58, 64, 70, 77, 83, 94, 103, 108], 51) := by decide +kernel
theorem dX8_refusal_52 : decode cX8_refusal 52 = .ok (.aload_n 0, 1) := by decide +kernel
theorem dX8_refusal_53 : decode cX8_refusal 53 = .ok (.iload_n 2, 1) := by decide +kernel
theorem dX8_refusal_54 : decode cX8_refusal 54 = .ok (.iload_n 3, 1) := by decide +kernel
theorem dX8_refusal_55 : decode cX8_refusal 55 = .ok (.invokevirtual 105, 3) := by decide +kernel
theorem dX8_refusal_58 : decode cX8_refusal 58 = .ok (.ireturn, 1) := by decide +kernel
theorem dX8_refusal_59 : decode cX8_refusal 59 = .ok (.aload_n 0, 1) := by decide +kernel
theorem dX8_refusal_60 : decode cX8_refusal 60 = .ok (.iload_n 2, 1) := by decide +kernel
theorem dX8_refusal_61 : decode cX8_refusal 61 = .ok (.invokevirtual 108, 3) := by decide +kernel
theorem dX8_refusal_64 : decode cX8_refusal 64 = .ok (.ireturn, 1) := by decide +kernel
theorem dX8_refusal_65 : decode cX8_refusal 65 = .ok (.aload_n 0, 1) := by decide +kernel
theorem dX8_refusal_66 : decode cX8_refusal 66 = .ok (.iload_n 2, 1) := by decide +kernel
theorem dX8_refusal_67 : decode cX8_refusal 67 = .ok (.invokevirtual 111, 3) := by decide +kernel
theorem dX8_refusal_70 : decode cX8_refusal 70 = .ok (.ireturn, 1) := by decide +kernel
theorem dX8_refusal_71 : decode cX8_refusal 71 = .ok (.aload_n 0, 1) := by decide +kernel
theorem dX8_refusal_72 : decode cX8_refusal 72 = .ok (.iload_n 2, 1) := by decide +kernel
theorem dX8_refusal_73 : decode cX8_refusal 73 = .ok (.iload_n 3, 1) := by decide +kernel
theorem dX8_refusal_74 : decode cX8_refusal 74 = .ok (.invokevirtual 114, 3) := by decide +kernel
theorem dX8_refusal_77 : decode cX8_refusal 77 = .ok (.ireturn, 1) := by decide +kernel
theorem dX8_refusal_78 : decode cX8_refusal 78 = .ok (.aload_n 0, 1) := by decide +kernel
theorem dX8_refusal_79 : decode cX8_refusal 79 = .ok (.iload_n 2, 1) := by decide +kernel
theorem dX8_refusal_80 : decode cX8_refusal 80 = .ok (.invokevirtual 117, 3) := by decide +kernel
theorem dX8_refusal_83 : decode cX8_refusal 83 = .ok (.ireturn, 1) := by decide +kernel
theorem dX8_refusal_84 : decode cX8_refusal 84 = .ok (.aload_n 0, 1) := by decide +kernel
theorem dX8_refusal_85 : decode cX8_refusal 85 = .ok (.iload_n 2, 1) := by decide +kernel
theorem dX8_refusal_86 : decode cX8_refusal 86 = .ok (.iload_n 3, 1) := by decide +kernel
theorem dX8_refusal_87 : decode cX8_refusal 87 = .ok (.iload 4, 2) := by decide +kernel
theorem dX8_refusal_89 : decode cX8_refusal 89 = .ok (.iload 5, 2) := by decide +kernel
theorem dX8_refusal_91 : decode cX8_refusal 91 = .ok (.invokevirtual 120, 3) := by decide +kernel
theorem dX8_refusal_94 : decode cX8_refusal 94 = .ok (.ireturn, 1) := by decide +kernel
theorem dX8_refusal_95 : decode cX8_refusal 95 = .ok (.aload_n 0, 1) := by decide +kernel
theorem dX8_refusal_96 : decode cX8_refusal 96 = .ok (.iload_n 2, 1) := by decide +kernel
theorem dX8_refusal_97 : decode cX8_refusal 97 = .ok (.iload_n 3, 1) := by decide +kernel
theorem dX8_refusal_98 : decode cX8_refusal 98 = .ok (.iload 4, 2) := by decide +kernel
theorem dX8_refusal_100 : decode cX8_refusal 100 = .ok (.invokevirtual 124, 3) := by decide +kernel
theorem dX8_refusal_103 : decode cX8_refusal 103 = .ok (.ireturn, 1) := by decide +kernel
theorem dX8_refusal_104 : decode cX8_refusal 104 = .ok (.aload_n 0, 1) := by decide +kernel
theorem dX8_refusal_105 : decode cX8_refusal 105 = .ok (.invokevirtual 127, 3) := by decide +kernel
theorem dX8_refusal_108 : decode cX8_refusal 108 = .ok (.ireturn, 1) := by decide +kernel
theorem dX8_refusal_109 : decode cX8_refusal 109 = .ok (.aload_n 0, 1) := by decide +kernel
theorem dX8_refusal_110 : decode cX8_refusal 110 = .ok (.iload_n 2, 1) := by decide +kernel
theorem dX8_refusal_111 : decode cX8_refusal 111 = .ok (.iload_n 3, 1) := by decide +kernel
theorem dX8_refusal_112 : decode cX8_refusal 112 = .ok (.iload 4, 2) := by decide +kernel
theorem dX8_refusal_114 : decode cX8_refusal 114 = .ok (.iload 5, 2) := by decide +kernel
theorem dX8_refusal_116 : decode cX8_refusal 116 = .ok (.invokevirtual 130, 3) := by decide +kernel
theorem dX8_refusal_119 : decode cX8_refusal 119 = .ok (.ireturn, 1) := by decide +kernel
theorem dX8_refusal_120 : decode cX8_refusal 120 = .ok (.iconst 0, 1) := by decide +kernel
theorem dX8_refusal_121 : decode cX8_refusal 121 = .ok (.ireturn, 1) := by decide +kernel
theorem dX8_doWrite_0 : decode cX8_doWrite 0 = .ok (.aload_n 0, 1) := by decide +kernel
theorem dX8_doWrite_1 : decode cX8_doWrite 1 = .ok (.getfield 18, 3) := by decide +kernel
theorem dX8_doWrite_4 : decode cX8_doWrite 4 = .ok (.iload_n 1, 1) := by decide +kernel
theorem dX8_doWrite_5 : decode cX8_doWrite 5 = .ok (.invokevirtual 61, 3) := by decide +kernel
theorem dX8_doWrite_8 : decode cX8_doWrite 8 = .ok (.istore_n 3, 1) := by decide +kernel
theorem dX8_doWrite_9 : decode cX8_doWrite 9 = .ok (.aload_n 0, 1) := by decide +kernel
theorem dX8_doWrite_10 : decode cX8_doWrite 10 = .ok (.getfield 18, 3) := by decide +kernel
theorem dX8_doWrite_13 : decode cX8_doWrite 13 = .ok (.iload_n 1, 1) := by decide +kernel
theorem dX8_doWrite_14 : decode cX8_doWrite 14 = .ok (.invokevirtual 74, 3) := by decide +kernel
theorem dX8_doWrite_17 : decode cX8_doWrite 17 = .ok (.istore 4, 2) := by decide +kernel
theorem dX8_doWrite_19 : decode cX8_doWrite 19 = .ok (.aload_n 0, 1) := by decide +kernel
theorem dX8_doWrite_20 : decode cX8_doWrite 20 = .ok (.getfield 18, 3) := by decide +kernel
theorem dX8_doWrite_23 : decode cX8_doWrite 23 = .ok (.iload_n 1, 1) := by decide +kernel
theorem dX8_doWrite_24 : decode cX8_doWrite 24 = .ok (.invokevirtual 64, 3) := by decide +kernel
theorem dX8_doWrite_27 : decode cX8_doWrite 27 = .ok (.istore 5, 2) := by decide +kernel
theorem dX8_doWrite_29 : decode cX8_doWrite 29 = .ok (.aload_n 0, 1) := by decide +kernel
theorem dX8_doWrite_30 : decode cX8_doWrite 30 = .ok (.iload_n 3, 1) := by decide +kernel
theorem dX8_doWrite_31 : decode cX8_doWrite 31 = .ok (.invokevirtual 67, 3) := by decide +kernel
theorem dX8_doWrite_34 : decode cX8_doWrite 34 = .ok (.istore 6, 2) := by decide +kernel
theorem dX8_doWrite_36 : decode cX8_doWrite 36 = .ok (.aload_n 0, 1) := by decide +kernel
theorem dX8_doWrite_37 : decode cX8_doWrite 37 = .ok (.iload 6, 2) := by decide +kernel
theorem dX8_doWrite_39 : decode cX8_doWrite 39 = .ok (.iload 4, 2) := by decide +kernel
theorem dX8_doWrite_41 : decode cX8_doWrite 41 = .ok (.invokevirtual 193, 3) := by decide +kernel
theorem dX8_doWrite_44 : decode cX8_doWrite 44 = .ok (.istore 7, 2) := by decide +kernel
theorem dX8_doWrite_46 : decode cX8_doWrite 46 = .ok (.aload_n 0, 1) := by decide +kernel
theorem dX8_doWrite_47 : decode cX8_doWrite 47 = .ok (.getfield 27, 3) := by decide +kernel
theorem dX8_doWrite_50 : decode cX8_doWrite 50 = .ok (.aload_n 0, 1) := by decide +kernel
theorem dX8_doWrite_51 : decode cX8_doWrite 51 = .ok (.getfield 12, 3) := by decide +kernel
theorem dX8_doWrite_54 : decode cX8_doWrite 54 = .ok (.iload_n 3, 1) := by decide +kernel
theorem dX8_doWrite_55 : decode cX8_doWrite 55 = .ok (.iload 5, 2) := by decide +kernel
theorem dX8_doWrite_57 : decode cX8_doWrite 57 = .ok (.iload 6, 2) := by decide +kernel
theorem dX8_doWrite_59 : decode cX8_doWrite 59 = .ok (.invokevirtual 70, 3) := by decide +kernel
theorem dX8_doWrite_62 : decode cX8_doWrite 62 = .ok (.aload_n 0, 1) := by decide +kernel
theorem dX8_doWrite_63 : decode cX8_doWrite 63 = .ok (.getfield 27, 3) := by decide +kernel
theorem dX8_doWrite_66 : decode cX8_doWrite 66 = .ok (.iload 4, 2) := by decide +kernel
theorem dX8_doWrite_68 : decode cX8_doWrite 68 = .ok (.invokevirtual 77, 3) := by decide +kernel
theorem dX8_doWrite_71 : decode cX8_doWrite 71 = .ok (.istore 8, 2) := by decide +kernel
theorem dX8_doWrite_73 : decode cX8_doWrite 73 = .ok (.iload 7, 2) := by decide +kernel
theorem dX8_doWrite_75 : decode cX8_doWrite 75 = .ok (.ifCond .ne 16, 3) := by decide +kernel
theorem dX8_doWrite_78 : decode cX8_doWrite 78 = .ok (.aload_n 0, 1) := by decide +kernel
theorem dX8_doWrite_79 : decode cX8_doWrite 79 = .ok (.getfield 27, 3) := by decide +kernel
theorem dX8_doWrite_82 : decode cX8_doWrite 82 = .ok (.iload 4, 2) := by decide +kernel
theorem dX8_doWrite_84 : decode cX8_doWrite 84 = .ok (.iload_n 2, 1) := by decide +kernel
theorem dX8_doWrite_85 : decode cX8_doWrite 85 = .ok (.invokevirtual 196, 3) := by decide +kernel
theorem dX8_doWrite_88 : decode cX8_doWrite 88 = .ok (.goto 20, 3) := by decide +kernel
theorem dX8_doWrite_91 : decode cX8_doWrite 91 = .ok (.aload_n 0, 1) := by decide +kernel
theorem dX8_doWrite_92 : decode cX8_doWrite 92 = .ok (.getfield 27, 3) := by decide +kernel
theorem dX8_doWrite_95 : decode cX8_doWrite 95 = .ok (.iload 4, 2) := by decide +kernel
theorem dX8_doWrite_97 : decode cX8_doWrite 97 = .ok (.iload_n 2, 1) := by decide +kernel
theorem dX8_doWrite_98 : decode cX8_doWrite 98 = .ok (.invokevirtual 199, 3) := by decide +kernel
theorem dX8_doWrite_101 : decode cX8_doWrite 101 = .ok (.aload_n 0, 1) := by decide +kernel
theorem dX8_doWrite_102 : decode cX8_doWrite 102 = .ok (.getfield 27, 3) := by decide +kernel
theorem dX8_doWrite_105 : decode cX8_doWrite 105 = .ok (.invokevirtual 202, 3) := by decide +kernel
theorem dX8_doWrite_108 : decode cX8_doWrite 108 = .ok (.aload_n 0, 1) := by decide +kernel
theorem dX8_doWrite_109 : decode cX8_doWrite 109 = .ok (.iload_n 3, 1) := by decide +kernel
theorem dX8_doWrite_110 : decode cX8_doWrite 110 = .ok (.aload_n 0, 1) := by decide +kernel
theorem dX8_doWrite_111 : decode cX8_doWrite 111 = .ok (.iload 7, 2) := by decide +kernel
theorem dX8_doWrite_113 : decode cX8_doWrite 113 = .ok (.iload 6, 2) := by decide +kernel
theorem dX8_doWrite_115 : decode cX8_doWrite 115 = .ok (.iload 4, 2) := by decide +kernel
theorem dX8_doWrite_117 : decode cX8_doWrite 117 = .ok (.invokevirtual 81, 3) := by decide +kernel
theorem dX8_doWrite_120 : decode cX8_doWrite 120 = .ok (.invokevirtual 205, 3) := by decide +kernel
theorem dX8_doWrite_123 : decode cX8_doWrite 123 = .ok (.aload_n 0, 1) := by decide +kernel
theorem dX8_doWrite_124 : decode cX8_doWrite 124 = .ok (.iload_n 3, 1) := by decide +kernel
theorem dX8_doWrite_125 : decode cX8_doWrite 125 = .ok (.iload 5, 2) := by decide +kernel
theorem dX8_doWrite_127 : decode cX8_doWrite 127 = .ok (.aload_n 0, 1) := by decide +kernel
theorem dX8_doWrite_128 : decode cX8_doWrite 128 = .ok (.iload 6, 2) := by decide +kernel
theorem dX8_doWrite_130 : decode cX8_doWrite 130 = .ok (.iload 4, 2) := by decide +kernel
theorem dX8_doWrite_132 : decode cX8_doWrite 132 = .ok (.invokevirtual 85, 3) := by decide +kernel
theorem dX8_doWrite_135 : decode cX8_doWrite 135 = .ok (.invokevirtual 208, 3) := by decide +kernel
theorem dX8_doWrite_138 : decode cX8_doWrite 138 = .ok (.iload 8, 2) := by decide +kernel
theorem dX8_doWrite_140 : decode cX8_doWrite 140 = .ok (.ireturn, 1) := by decide +kernel
theorem dX8_doLose_0 : decode cX8_doLose 0 = .ok (.aload_n 0, 1) := by decide +kernel
theorem dX8_doLose_1 : decode cX8_doLose 1 = .ok (.getfield 12, 3) := by decide +kernel
theorem dX8_doLose_4 : decode cX8_doLose 4 = .ok (.bipush 96, 2) := by decide +kernel
theorem dX8_doLose_6 : decode cX8_doLose 6 = .ok (.iload_n 1, 1) := by decide +kernel
theorem dX8_doLose_7 : decode cX8_doLose 7 = .ok (.iadd, 1) := by decide +kernel
theorem dX8_doLose_8 : decode cX8_doLose 8 = .ok (.iconst 1, 1) := by decide +kernel
theorem dX8_doLose_9 : decode cX8_doLose 9 = .ok (.invokevirtual 212, 3) := by decide +kernel
theorem dX8_doLose_12 : decode cX8_doLose 12 = .ok (.aload_n 0, 1) := by decide +kernel
theorem dX8_doLose_13 : decode cX8_doLose 13 = .ok (.getfield 12, 3) := by decide +kernel
theorem dX8_doLose_16 : decode cX8_doLose 16 = .ok (.bipush 104, 2) := by decide +kernel
theorem dX8_doLose_18 : decode cX8_doLose 18 = .ok (.iload_n 1, 1) := by decide +kernel
theorem dX8_doLose_19 : decode cX8_doLose 19 = .ok (.iadd, 1) := by decide +kernel
theorem dX8_doLose_20 : decode cX8_doLose 20 = .ok (.iconst 0, 1) := by decide +kernel
theorem dX8_doLose_21 : decode cX8_doLose 21 = .ok (.invokevirtual 212, 3) := by decide +kernel
theorem dX8_doLose_24 : decode cX8_doLose 24 = .ok (.aload_n 0, 1) := by decide +kernel
theorem dX8_doLose_25 : decode cX8_doLose 25 = .ok (.invokevirtual 52, 3) := by decide +kernel
theorem dX8_doLose_28 : decode cX8_doLose 28 = .ok (.invokestatic 56, 3) := by decide +kernel
theorem dX8_doLose_31 : decode cX8_doLose 31 = .ok (.ireturn, 1) := by decide +kernel
theorem dX8_doReplace_0 : decode cX8_doReplace 0 = .ok (.aload_n 0, 1) := by decide +kernel
theorem dX8_doReplace_1 : decode cX8_doReplace 1 = .ok (.getfield 12, 3) := by decide +kernel
theorem dX8_doReplace_4 : decode cX8_doReplace 4 = .ok (.bipush 96, 2) := by decide +kernel
theorem dX8_doReplace_6 : decode cX8_doReplace 6 = .ok (.iload_n 1, 1) := by decide +kernel
theorem dX8_doReplace_7 : decode cX8_doReplace 7 = .ok (.iadd, 1) := by decide +kernel
theorem dX8_doReplace_8 : decode cX8_doReplace 8 = .ok (.iconst 2, 1) := by decide +kernel
theorem dX8_doReplace_9 : decode cX8_doReplace 9 = .ok (.invokevirtual 212, 3) := by decide +kernel
theorem dX8_doReplace_12 : decode cX8_doReplace 12 = .ok (.aload_n 0, 1) := by decide +kernel
theorem dX8_doReplace_13 : decode cX8_doReplace 13 = .ok (.getfield 12, 3) := by decide +kernel
theorem dX8_doReplace_16 : decode cX8_doReplace 16 = .ok (.sipush 136, 3) := by decide +kernel
theorem dX8_doReplace_19 : decode cX8_doReplace 19 = .ok (.iconst (-1), 1) := by decide +kernel
theorem dX8_doReplace_20 : decode cX8_doReplace 20 = .ok (.invokevirtual 97, 3) := by decide +kernel
theorem dX8_doReplace_23 : decode cX8_doReplace 23 = .ok (.aload_n 0, 1) := by decide +kernel
theorem dX8_doReplace_24 : decode cX8_doReplace 24 = .ok (.getfield 12, 3) := by decide +kernel
theorem dX8_doReplace_27 : decode cX8_doReplace 27 = .ok (.sipush 136, 3) := by decide +kernel
theorem dX8_doReplace_30 : decode cX8_doReplace 30 = .ok (.invokevirtual 31, 3) := by decide +kernel
theorem dX8_doReplace_33 : decode cX8_doReplace 33 = .ok (.ireturn, 1) := by decide +kernel
theorem dX8_doRebuild_0 : decode cX8_doRebuild 0 = .ok (.aload_n 0, 1) := by decide +kernel
theorem dX8_doRebuild_1 : decode cX8_doRebuild 1 = .ok (.getfield 12, 3) := by decide +kernel
theorem dX8_doRebuild_4 : decode cX8_doRebuild 4 = .ok (.bipush 104, 2) := by decide +kernel
theorem dX8_doRebuild_6 : decode cX8_doRebuild 6 = .ok (.iload_n 1, 1) := by decide +kernel
theorem dX8_doRebuild_7 : decode cX8_doRebuild 7 = .ok (.iadd, 1) := by decide +kernel
theorem dX8_doRebuild_8 : decode cX8_doRebuild 8 = .ok (.invokevirtual 31, 3) := by decide +kernel
theorem dX8_doRebuild_11 : decode cX8_doRebuild 11 = .ok (.istore_n 3, 1) := by decide +kernel
theorem dX8_doRebuild_12 : decode cX8_doRebuild 12 = .ok (.iload_n 3, 1) := by decide +kernel
theorem dX8_doRebuild_13 : decode cX8_doRebuild 13 = .ok (.iload_n 2, 1) := by decide +kernel
theorem dX8_doRebuild_14 : decode cX8_doRebuild 14 = .ok (.iadd, 1) := by decide +kernel
theorem dX8_doRebuild_15 : decode cX8_doRebuild 15 = .ok (.aload_n 0, 1) := by decide +kernel
theorem dX8_doRebuild_16 : decode cX8_doRebuild 16 = .ok (.getfield 18, 3) := by decide +kernel
theorem dX8_doRebuild_19 : decode cX8_doRebuild 19 = .ok (.getfield 154, 3) := by decide +kernel
theorem dX8_doRebuild_22 : decode cX8_doRebuild 22 = .ok (.invokestatic 213, 3) := by decide +kernel
theorem dX8_doRebuild_25 : decode cX8_doRebuild 25 = .ok (.istore 4, 2) := by decide +kernel
theorem dX8_doRebuild_27 : decode cX8_doRebuild 27 = .ok (.iload_n 3, 1) := by decide +kernel
theorem dX8_doRebuild_28 : decode cX8_doRebuild 28 = .ok (.istore 5, 2) := by decide +kernel
theorem dX8_doRebuild_30 : decode cX8_doRebuild 30 = .ok (.iload 5, 2) := by decide +kernel
theorem dX8_doRebuild_32 : decode cX8_doRebuild 32 = .ok (.iload 4, 2) := by decide +kernel
theorem dX8_doRebuild_34 : decode cX8_doRebuild 34 = .ok (.if_icmp .ge 93, 3) := by decide +kernel
theorem dX8_doRebuild_37 : decode cX8_doRebuild 37 = .ok (.aload_n 0, 1) := by decide +kernel
theorem dX8_doRebuild_38 : decode cX8_doRebuild 38 = .ok (.iload 5, 2) := by decide +kernel
theorem dX8_doRebuild_40 : decode cX8_doRebuild 40 = .ok (.invokevirtual 67, 3) := by decide +kernel
theorem dX8_doRebuild_43 : decode cX8_doRebuild 43 = .ok (.istore 6, 2) := by decide +kernel
theorem dX8_doRebuild_45 : decode cX8_doRebuild 45 = .ok (.iconst 0, 1) := by decide +kernel
theorem dX8_doRebuild_46 : decode cX8_doRebuild 46 = .ok (.istore 7, 2) := by decide +kernel
theorem dX8_doRebuild_48 : decode cX8_doRebuild 48 = .ok (.iload 7, 2) := by decide +kernel
theorem dX8_doRebuild_50 : decode cX8_doRebuild 50 = .ok (.aload_n 0, 1) := by decide +kernel
theorem dX8_doRebuild_51 : decode cX8_doRebuild 51 = .ok (.getfield 18, 3) := by decide +kernel
theorem dX8_doRebuild_54 : decode cX8_doRebuild 54 = .ok (.getfield 218, 3) := by decide +kernel
theorem dX8_doRebuild_57 : decode cX8_doRebuild 57 = .ok (.if_icmp .ge 64, 3) := by decide +kernel
theorem dX8_doRebuild_60 : decode cX8_doRebuild 60 = .ok (.aload_n 0, 1) := by decide +kernel
theorem dX8_doRebuild_61 : decode cX8_doRebuild 61 = .ok (.getfield 27, 3) := by decide +kernel
theorem dX8_doRebuild_64 : decode cX8_doRebuild 64 = .ok (.aload_n 0, 1) := by decide +kernel
theorem dX8_doRebuild_65 : decode cX8_doRebuild 65 = .ok (.getfield 12, 3) := by decide +kernel
theorem dX8_doRebuild_68 : decode cX8_doRebuild 68 = .ok (.iload 5, 2) := by decide +kernel
theorem dX8_doRebuild_70 : decode cX8_doRebuild 70 = .ok (.iload 7, 2) := by decide +kernel
theorem dX8_doRebuild_72 : decode cX8_doRebuild 72 = .ok (.iload 6, 2) := by decide +kernel
theorem dX8_doRebuild_74 : decode cX8_doRebuild 74 = .ok (.invokevirtual 70, 3) := by decide +kernel
theorem dX8_doRebuild_77 : decode cX8_doRebuild 77 = .ok (.aload_n 0, 1) := by decide +kernel
theorem dX8_doRebuild_78 : decode cX8_doRebuild 78 = .ok (.iload 5, 2) := by decide +kernel
theorem dX8_doRebuild_80 : decode cX8_doRebuild 80 = .ok (.aload_n 0, 1) := by decide +kernel
theorem dX8_doRebuild_81 : decode cX8_doRebuild 81 = .ok (.getfield 18, 3) := by decide +kernel
theorem dX8_doRebuild_84 : decode cX8_doRebuild 84 = .ok (.getfield 88, 3) := by decide +kernel
theorem dX8_doRebuild_87 : decode cX8_doRebuild 87 = .ok (.iload 6, 2) := by decide +kernel
theorem dX8_doRebuild_89 : decode cX8_doRebuild 89 = .ok (.iconst (-1), 1) := by decide +kernel
theorem dX8_doRebuild_90 : decode cX8_doRebuild 90 = .ok (.ixor, 1) := by decide +kernel
theorem dX8_doRebuild_91 : decode cX8_doRebuild 91 = .ok (.iand, 1) := by decide +kernel
theorem dX8_doRebuild_92 : decode cX8_doRebuild 92 = .ok (.invokevirtual 205, 3) := by decide +kernel
theorem dX8_doRebuild_95 : decode cX8_doRebuild 95 = .ok (.aload_n 0, 1) := by decide +kernel
theorem dX8_doRebuild_96 : decode cX8_doRebuild 96 = .ok (.iload 5, 2) := by decide +kernel
theorem dX8_doRebuild_98 : decode cX8_doRebuild 98 = .ok (.iload 7, 2) := by decide +kernel
theorem dX8_doRebuild_100 : decode cX8_doRebuild 100 = .ok (.iconst 1, 1) := by decide +kernel
theorem dX8_doRebuild_101 : decode cX8_doRebuild 101 = .ok (.aload_n 0, 1) := by decide +kernel
theorem dX8_doRebuild_102 : decode cX8_doRebuild 102 = .ok (.getfield 18, 3) := by decide +kernel
theorem dX8_doRebuild_105 : decode cX8_doRebuild 105 = .ok (.iload_n 1, 1) := by decide +kernel
theorem dX8_doRebuild_106 : decode cX8_doRebuild 106 = .ok (.iload 5, 2) := by decide +kernel
theorem dX8_doRebuild_108 : decode cX8_doRebuild 108 = .ok (.invokevirtual 221, 3) := by decide +kernel
theorem dX8_doRebuild_111 : decode cX8_doRebuild 111 = .ok (.ishl, 1) := by decide +kernel
theorem dX8_doRebuild_112 : decode cX8_doRebuild 112 = .ok (.invokevirtual 208, 3) := by decide +kernel
theorem dX8_doRebuild_115 : decode cX8_doRebuild 115 = .ok (.iinc 7 1, 3) := by decide +kernel
theorem dX8_doRebuild_118 : decode cX8_doRebuild 118 = .ok (.goto (-70), 3) := by decide +kernel
theorem dX8_doRebuild_121 : decode cX8_doRebuild 121 = .ok (.iinc 5 1, 3) := by decide +kernel
theorem dX8_doRebuild_124 : decode cX8_doRebuild 124 = .ok (.goto (-94), 3) := by decide +kernel
theorem dX8_doRebuild_127 : decode cX8_doRebuild 127 = .ok (.aload_n 0, 1) := by decide +kernel
theorem dX8_doRebuild_128 : decode cX8_doRebuild 128 = .ok (.getfield 12, 3) := by decide +kernel
theorem dX8_doRebuild_131 : decode cX8_doRebuild 131 = .ok (.bipush 104, 2) := by decide +kernel
theorem dX8_doRebuild_133 : decode cX8_doRebuild 133 = .ok (.iload_n 1, 1) := by decide +kernel
theorem dX8_doRebuild_134 : decode cX8_doRebuild 134 = .ok (.iadd, 1) := by decide +kernel
theorem dX8_doRebuild_135 : decode cX8_doRebuild 135 = .ok (.iload 4, 2) := by decide +kernel
theorem dX8_doRebuild_137 : decode cX8_doRebuild 137 = .ok (.invokevirtual 212, 3) := by decide +kernel
theorem dX8_doRebuild_140 : decode cX8_doRebuild 140 = .ok (.iload 4, 2) := by decide +kernel
theorem dX8_doRebuild_142 : decode cX8_doRebuild 142 = .ok (.aload_n 0, 1) := by decide +kernel
theorem dX8_doRebuild_143 : decode cX8_doRebuild 143 = .ok (.getfield 18, 3) := by decide +kernel
theorem dX8_doRebuild_146 : decode cX8_doRebuild 146 = .ok (.getfield 154, 3) := by decide +kernel
theorem dX8_doRebuild_149 : decode cX8_doRebuild 149 = .ok (.if_icmp .ne 15, 3) := by decide +kernel
theorem dX8_doRebuild_152 : decode cX8_doRebuild 152 = .ok (.aload_n 0, 1) := by decide +kernel
theorem dX8_doRebuild_153 : decode cX8_doRebuild 153 = .ok (.getfield 12, 3) := by decide +kernel
theorem dX8_doRebuild_156 : decode cX8_doRebuild 156 = .ok (.bipush 96, 2) := by decide +kernel
theorem dX8_doRebuild_158 : decode cX8_doRebuild 158 = .ok (.iload_n 1, 1) := by decide +kernel
theorem dX8_doRebuild_159 : decode cX8_doRebuild 159 = .ok (.iadd, 1) := by decide +kernel
theorem dX8_doRebuild_160 : decode cX8_doRebuild 160 = .ok (.iconst 0, 1) := by decide +kernel
theorem dX8_doRebuild_161 : decode cX8_doRebuild 161 = .ok (.invokevirtual 212, 3) := by decide +kernel
theorem dX8_doRebuild_164 : decode cX8_doRebuild 164 = .ok (.iload 4, 2) := by decide +kernel
theorem dX8_doRebuild_166 : decode cX8_doRebuild 166 = .ok (.ireturn, 1) := by decide +kernel
theorem dX8_noteMended_0 : decode cX8_noteMended 0 = .ok (.aload_n 0, 1) := by decide +kernel
theorem dX8_noteMended_1 : decode cX8_noteMended 1 = .ok (.getfield 12, 3) := by decide +kernel
theorem dX8_noteMended_4 : decode cX8_noteMended 4 = .ok (.sipush 128, 3) := by decide +kernel
theorem dX8_noteMended_7 : decode cX8_noteMended 7 = .ok (.iload_n 1, 1) := by decide +kernel
theorem dX8_noteMended_8 : decode cX8_noteMended 8 = .ok (.iadd, 1) := by decide +kernel
theorem dX8_noteMended_9 : decode cX8_noteMended 9 = .ok (.iconst 1, 1) := by decide +kernel
theorem dX8_noteMended_10 : decode cX8_noteMended 10 = .ok (.invokevirtual 97, 3) := by decide +kernel
theorem dX8_noteMended_13 : decode cX8_noteMended 13 = .ok (.aload_n 0, 1) := by decide +kernel
theorem dX8_noteMended_14 : decode cX8_noteMended 14 = .ok (.getfield 12, 3) := by decide +kernel
theorem dX8_noteMended_17 : decode cX8_noteMended 17 = .ok (.sipush 141, 3) := by decide +kernel
theorem dX8_noteMended_20 : decode cX8_noteMended 20 = .ok (.iload_n 1, 1) := by decide +kernel
theorem dX8_noteMended_21 : decode cX8_noteMended 21 = .ok (.invokevirtual 212, 3) := by decide +kernel
theorem dX8_noteMended_24 : decode cX8_noteMended 24 = .ok (.aload_n 0, 1) := by decide +kernel
theorem dX8_noteMended_25 : decode cX8_noteMended 25 = .ok (.getfield 12, 3) := by decide +kernel
theorem dX8_noteMended_28 : decode cX8_noteMended 28 = .ok (.sipush 142, 3) := by decide +kernel
theorem dX8_noteMended_31 : decode cX8_noteMended 31 = .ok (.iload_n 2, 1) := by decide +kernel
theorem dX8_noteMended_32 : decode cX8_noteMended 32 = .ok (.invokevirtual 212, 3) := by decide +kernel
theorem dX8_noteMended_35 : decode cX8_noteMended 35 = .ok (.aload_n 0, 1) := by decide +kernel
theorem dX8_noteMended_36 : decode cX8_noteMended 36 = .ok (.getfield 12, 3) := by decide +kernel
theorem dX8_noteMended_39 : decode cX8_noteMended 39 = .ok (.sipush 143, 3) := by decide +kernel
theorem dX8_noteMended_42 : decode cX8_noteMended 42 = .ok (.iload_n 3, 1) := by decide +kernel
theorem dX8_noteMended_43 : decode cX8_noteMended 43 = .ok (.invokevirtual 212, 3) := by decide +kernel
theorem dX8_noteMended_46 : decode cX8_noteMended 46 = .ok (.return_, 1) := by decide +kernel
theorem dX8_scrubStripe_0 : decode cX8_scrubStripe 0 = .ok (.iconst 0, 1) := by decide +kernel
theorem dX8_scrubStripe_1 : decode cX8_scrubStripe 1 = .ok (.istore_n 2, 1) := by decide +kernel
theorem dX8_scrubStripe_2 : decode cX8_scrubStripe 2 = .ok (.iconst 0, 1) := by decide +kernel
theorem dX8_scrubStripe_3 : decode cX8_scrubStripe 3 = .ok (.istore_n 3, 1) := by decide +kernel
theorem dX8_scrubStripe_4 : decode cX8_scrubStripe 4 = .ok (.iload_n 3, 1) := by decide +kernel
theorem dX8_scrubStripe_5 : decode cX8_scrubStripe 5 = .ok (.aload_n 0, 1) := by decide +kernel
theorem dX8_scrubStripe_6 : decode cX8_scrubStripe 6 = .ok (.getfield 18, 3) := by decide +kernel
theorem dX8_scrubStripe_9 : decode cX8_scrubStripe 9 = .ok (.getfield 218, 3) := by decide +kernel
theorem dX8_scrubStripe_12 : decode cX8_scrubStripe 12 = .ok (.if_icmp .ge 109, 3) := by decide +kernel
theorem dX8_scrubStripe_15 : decode cX8_scrubStripe 15 = .ok (.aload_n 0, 1) := by decide +kernel
theorem dX8_scrubStripe_16 : decode cX8_scrubStripe 16 = .ok (.getfield 27, 3) := by decide +kernel
theorem dX8_scrubStripe_19 : decode cX8_scrubStripe 19 = .ok (.aload_n 0, 1) := by decide +kernel
theorem dX8_scrubStripe_20 : decode cX8_scrubStripe 20 = .ok (.getfield 12, 3) := by decide +kernel
theorem dX8_scrubStripe_23 : decode cX8_scrubStripe 23 = .ok (.iload_n 1, 1) := by decide +kernel
theorem dX8_scrubStripe_24 : decode cX8_scrubStripe 24 = .ok (.iload_n 3, 1) := by decide +kernel
theorem dX8_scrubStripe_25 : decode cX8_scrubStripe 25 = .ok (.iconst 0, 1) := by decide +kernel
theorem dX8_scrubStripe_26 : decode cX8_scrubStripe 26 = .ok (.invokevirtual 227, 3) := by decide +kernel
theorem dX8_scrubStripe_29 : decode cX8_scrubStripe 29 = .ok (.aload_n 0, 1) := by decide +kernel
theorem dX8_scrubStripe_30 : decode cX8_scrubStripe 30 = .ok (.iload_n 1, 1) := by decide +kernel
theorem dX8_scrubStripe_31 : decode cX8_scrubStripe 31 = .ok (.aload_n 0, 1) := by decide +kernel
theorem dX8_scrubStripe_32 : decode cX8_scrubStripe 32 = .ok (.getfield 18, 3) := by decide +kernel
theorem dX8_scrubStripe_35 : decode cX8_scrubStripe 35 = .ok (.getfield 88, 3) := by decide +kernel
theorem dX8_scrubStripe_38 : decode cX8_scrubStripe 38 = .ok (.invokevirtual 205, 3) := by decide +kernel
theorem dX8_scrubStripe_41 : decode cX8_scrubStripe 41 = .ok (.aload_n 0, 1) := by decide +kernel
theorem dX8_scrubStripe_42 : decode cX8_scrubStripe 42 = .ok (.getfield 27, 3) := by decide +kernel
theorem dX8_scrubStripe_45 : decode cX8_scrubStripe 45 = .ok (.invokevirtual 230, 3) := by decide +kernel
theorem dX8_scrubStripe_48 : decode cX8_scrubStripe 48 = .ok (.istore 4, 2) := by decide +kernel
theorem dX8_scrubStripe_50 : decode cX8_scrubStripe 50 = .ok (.iload 4, 2) := by decide +kernel
theorem dX8_scrubStripe_52 : decode cX8_scrubStripe 52 = .ok (.bipush (-2), 2) := by decide +kernel
theorem dX8_scrubStripe_54 : decode cX8_scrubStripe 54 = .ok (.if_icmp .ne 17, 3) := by decide +kernel
theorem dX8_scrubStripe_57 : decode cX8_scrubStripe 57 = .ok (.aload_n 0, 1) := by decide +kernel
theorem dX8_scrubStripe_58 : decode cX8_scrubStripe 58 = .ok (.getfield 12, 3) := by decide +kernel
theorem dX8_scrubStripe_61 : decode cX8_scrubStripe 61 = .ok (.sipush 137, 3) := by decide +kernel
theorem dX8_scrubStripe_64 : decode cX8_scrubStripe 64 = .ok (.iconst 1, 1) := by decide +kernel
theorem dX8_scrubStripe_65 : decode cX8_scrubStripe 65 = .ok (.invokevirtual 97, 3) := by decide +kernel
theorem dX8_scrubStripe_68 : decode cX8_scrubStripe 68 = .ok (.goto 47, 3) := by decide +kernel
theorem dX8_scrubStripe_71 : decode cX8_scrubStripe 71 = .ok (.iload 4, 2) := by decide +kernel
theorem dX8_scrubStripe_73 : decode cX8_scrubStripe 73 = .ok (.iconst (-1), 1) := by decide +kernel
theorem dX8_scrubStripe_74 : decode cX8_scrubStripe 74 = .ok (.if_icmp .eq 41, 3) := by decide +kernel
theorem dX8_scrubStripe_77 : decode cX8_scrubStripe 77 = .ok (.aload_n 0, 1) := by decide +kernel
theorem dX8_scrubStripe_78 : decode cX8_scrubStripe 78 = .ok (.getfield 27, 3) := by decide +kernel
theorem dX8_scrubStripe_81 : decode cX8_scrubStripe 81 = .ok (.iload 4, 2) := by decide +kernel
theorem dX8_scrubStripe_83 : decode cX8_scrubStripe 83 = .ok (.invokevirtual 233, 3) := by decide +kernel
theorem dX8_scrubStripe_86 : decode cX8_scrubStripe 86 = .ok (.aload_n 0, 1) := by decide +kernel
theorem dX8_scrubStripe_87 : decode cX8_scrubStripe 87 = .ok (.iload_n 1, 1) := by decide +kernel
theorem dX8_scrubStripe_88 : decode cX8_scrubStripe 88 = .ok (.iload_n 3, 1) := by decide +kernel
theorem dX8_scrubStripe_89 : decode cX8_scrubStripe 89 = .ok (.iconst 1, 1) := by decide +kernel
theorem dX8_scrubStripe_90 : decode cX8_scrubStripe 90 = .ok (.iload 4, 2) := by decide +kernel
theorem dX8_scrubStripe_92 : decode cX8_scrubStripe 92 = .ok (.ishl, 1) := by decide +kernel
theorem dX8_scrubStripe_93 : decode cX8_scrubStripe 93 = .ok (.invokevirtual 208, 3) := by decide +kernel
theorem dX8_scrubStripe_96 : decode cX8_scrubStripe 96 = .ok (.aload_n 0, 1) := by decide +kernel
theorem dX8_scrubStripe_97 : decode cX8_scrubStripe 97 = .ok (.aload_n 0, 1) := by decide +kernel
theorem dX8_scrubStripe_98 : decode cX8_scrubStripe 98 = .ok (.getfield 18, 3) := by decide +kernel
theorem dX8_scrubStripe_101 : decode cX8_scrubStripe 101 = .ok (.iload 4, 2) := by decide +kernel
theorem dX8_scrubStripe_103 : decode cX8_scrubStripe 103 = .ok (.iload_n 1, 1) := by decide +kernel
theorem dX8_scrubStripe_104 : decode cX8_scrubStripe 104 = .ok (.invokevirtual 41, 3) := by decide +kernel
theorem dX8_scrubStripe_107 : decode cX8_scrubStripe 107 = .ok (.iload_n 1, 1) := by decide +kernel
theorem dX8_scrubStripe_108 : decode cX8_scrubStripe 108 = .ok (.iload_n 3, 1) := by decide +kernel
theorem dX8_scrubStripe_109 : decode cX8_scrubStripe 109 = .ok (.invokevirtual 237, 3) := by decide +kernel
theorem dX8_scrubStripe_112 : decode cX8_scrubStripe 112 = .ok (.iinc 2 1, 3) := by decide +kernel
theorem dX8_scrubStripe_115 : decode cX8_scrubStripe 115 = .ok (.iinc 3 1, 3) := by decide +kernel
theorem dX8_scrubStripe_118 : decode cX8_scrubStripe 118 = .ok (.goto (-114), 3) := by decide +kernel
theorem dX8_scrubStripe_121 : decode cX8_scrubStripe 121 = .ok (.iload_n 2, 1) := by decide +kernel
theorem dX8_scrubStripe_122 : decode cX8_scrubStripe 122 = .ok (.ireturn, 1) := by decide +kernel
theorem dX8_doScrub_0 : decode cX8_doScrub 0 = .ok (.iconst 0, 1) := by decide +kernel
theorem dX8_doScrub_1 : decode cX8_doScrub 1 = .ok (.istore_n 2, 1) := by decide +kernel
theorem dX8_doScrub_2 : decode cX8_doScrub 2 = .ok (.iconst 0, 1) := by decide +kernel
theorem dX8_doScrub_3 : decode cX8_doScrub 3 = .ok (.istore_n 3, 1) := by decide +kernel
theorem dX8_doScrub_4 : decode cX8_doScrub 4 = .ok (.iload_n 3, 1) := by decide +kernel
theorem dX8_doScrub_5 : decode cX8_doScrub 5 = .ok (.iload_n 1, 1) := by decide +kernel
theorem dX8_doScrub_6 : decode cX8_doScrub 6 = .ok (.if_icmp .ge 94, 3) := by decide +kernel
theorem dX8_doScrub_9 : decode cX8_doScrub 9 = .ok (.aload_n 0, 1) := by decide +kernel
theorem dX8_doScrub_10 : decode cX8_doScrub 10 = .ok (.getfield 12, 3) := by decide +kernel
theorem dX8_doScrub_13 : decode cX8_doScrub 13 = .ok (.sipush 139, 3) := by decide +kernel
theorem dX8_doScrub_16 : decode cX8_doScrub 16 = .ok (.invokevirtual 31, 3) := by decide +kernel
theorem dX8_doScrub_19 : decode cX8_doScrub 19 = .ok (.istore 4, 2) := by decide +kernel
theorem dX8_doScrub_21 : decode cX8_doScrub 21 = .ok (.aload_n 0, 1) := by decide +kernel
theorem dX8_doScrub_22 : decode cX8_doScrub 22 = .ok (.getfield 12, 3) := by decide +kernel
theorem dX8_doScrub_25 : decode cX8_doScrub 25 = .ok (.sipush 139, 3) := by decide +kernel
theorem dX8_doScrub_28 : decode cX8_doScrub 28 = .ok (.iload 4, 2) := by decide +kernel
theorem dX8_doScrub_30 : decode cX8_doScrub 30 = .ok (.iconst 1, 1) := by decide +kernel
theorem dX8_doScrub_31 : decode cX8_doScrub 31 = .ok (.iadd, 1) := by decide +kernel
theorem dX8_doScrub_32 : decode cX8_doScrub 32 = .ok (.aload_n 0, 1) := by decide +kernel
theorem dX8_doScrub_33 : decode cX8_doScrub 33 = .ok (.getfield 18, 3) := by decide +kernel
theorem dX8_doScrub_36 : decode cX8_doScrub 36 = .ok (.getfield 154, 3) := by decide +kernel
theorem dX8_doScrub_39 : decode cX8_doScrub 39 = .ok (.if_icmp .ge 10, 3) := by decide +kernel
theorem dX8_doScrub_42 : decode cX8_doScrub 42 = .ok (.iload 4, 2) := by decide +kernel
theorem dX8_doScrub_44 : decode cX8_doScrub 44 = .ok (.iconst 1, 1) := by decide +kernel
theorem dX8_doScrub_45 : decode cX8_doScrub 45 = .ok (.iadd, 1) := by decide +kernel
theorem dX8_doScrub_46 : decode cX8_doScrub 46 = .ok (.goto 4, 3) := by decide +kernel
theorem dX8_doScrub_49 : decode cX8_doScrub 49 = .ok (.iconst 0, 1) := by decide +kernel
theorem dX8_doScrub_50 : decode cX8_doScrub 50 = .ok (.invokevirtual 212, 3) := by decide +kernel
theorem dX8_doScrub_53 : decode cX8_doScrub 53 = .ok (.aload_n 0, 1) := by decide +kernel
theorem dX8_doScrub_54 : decode cX8_doScrub 54 = .ok (.iload 4, 2) := by decide +kernel
theorem dX8_doScrub_56 : decode cX8_doScrub 56 = .ok (.invokevirtual 157, 3) := by decide +kernel
theorem dX8_doScrub_59 : decode cX8_doScrub 59 = .ok (.ifCond .ne 12, 3) := by decide +kernel
theorem dX8_doScrub_62 : decode cX8_doScrub 62 = .ok (.aload_n 0, 1) := by decide +kernel
theorem dX8_doScrub_63 : decode cX8_doScrub 63 = .ok (.iload 4, 2) := by decide +kernel
theorem dX8_doScrub_65 : decode cX8_doScrub 65 = .ok (.invokevirtual 67, 3) := by decide +kernel
theorem dX8_doScrub_68 : decode cX8_doScrub 68 = .ok (.ifCond .eq 17, 3) := by decide +kernel
theorem dX8_doScrub_71 : decode cX8_doScrub 71 = .ok (.aload_n 0, 1) := by decide +kernel
theorem dX8_doScrub_72 : decode cX8_doScrub 72 = .ok (.getfield 12, 3) := by decide +kernel
theorem dX8_doScrub_75 : decode cX8_doScrub 75 = .ok (.sipush 138, 3) := by decide +kernel
theorem dX8_doScrub_78 : decode cX8_doScrub 78 = .ok (.iconst 1, 1) := by decide +kernel
theorem dX8_doScrub_79 : decode cX8_doScrub 79 = .ok (.invokevirtual 97, 3) := by decide +kernel
theorem dX8_doScrub_82 : decode cX8_doScrub 82 = .ok (.goto 12, 3) := by decide +kernel
theorem dX8_doScrub_85 : decode cX8_doScrub 85 = .ok (.iload_n 2, 1) := by decide +kernel
theorem dX8_doScrub_86 : decode cX8_doScrub 86 = .ok (.aload_n 0, 1) := by decide +kernel
theorem dX8_doScrub_87 : decode cX8_doScrub 87 = .ok (.iload 4, 2) := by decide +kernel
theorem dX8_doScrub_89 : decode cX8_doScrub 89 = .ok (.invokevirtual 224, 3) := by decide +kernel
theorem dX8_doScrub_92 : decode cX8_doScrub 92 = .ok (.iadd, 1) := by decide +kernel
theorem dX8_doScrub_93 : decode cX8_doScrub 93 = .ok (.istore_n 2, 1) := by decide +kernel
theorem dX8_doScrub_94 : decode cX8_doScrub 94 = .ok (.iinc 3 1, 3) := by decide +kernel
theorem dX8_doScrub_97 : decode cX8_doScrub 97 = .ok (.goto (-93), 3) := by decide +kernel
theorem dX8_doScrub_100 : decode cX8_doScrub 100 = .ok (.iload_n 2, 1) := by decide +kernel
theorem dX8_doScrub_101 : decode cX8_doScrub 101 = .ok (.ireturn, 1) := by decide +kernel
theorem dX8_doSpoil_0 : decode cX8_doSpoil 0 = .ok (.aload_n 0, 1) := by decide +kernel
theorem dX8_doSpoil_1 : decode cX8_doSpoil 1 = .ok (.getfield 12, 3) := by decide +kernel
theorem dX8_doSpoil_4 : decode cX8_doSpoil 4 = .ok (.iload_n 1, 1) := by decide +kernel
theorem dX8_doSpoil_5 : decode cX8_doSpoil 5 = .ok (.iload_n 2, 1) := by decide +kernel
theorem dX8_doSpoil_6 : decode cX8_doSpoil 6 = .ok (.iload_n 3, 1) := by decide +kernel
theorem dX8_doSpoil_7 : decode cX8_doSpoil 7 = .ok (.invokevirtual 240, 3) := by decide +kernel
theorem dX8_doSpoil_10 : decode cX8_doSpoil 10 = .ok (.iload 4, 2) := by decide +kernel
theorem dX8_doSpoil_12 : decode cX8_doSpoil 12 = .ok (.ixor, 1) := by decide +kernel
theorem dX8_doSpoil_13 : decode cX8_doSpoil 13 = .ok (.istore 5, 2) := by decide +kernel
theorem dX8_doSpoil_15 : decode cX8_doSpoil 15 = .ok (.aload_n 0, 1) := by decide +kernel
theorem dX8_doSpoil_16 : decode cX8_doSpoil 16 = .ok (.getfield 12, 3) := by decide +kernel
theorem dX8_doSpoil_19 : decode cX8_doSpoil 19 = .ok (.iload_n 1, 1) := by decide +kernel
theorem dX8_doSpoil_20 : decode cX8_doSpoil 20 = .ok (.iload_n 2, 1) := by decide +kernel
theorem dX8_doSpoil_21 : decode cX8_doSpoil 21 = .ok (.iload_n 3, 1) := by decide +kernel
theorem dX8_doSpoil_22 : decode cX8_doSpoil 22 = .ok (.iload 5, 2) := by decide +kernel
theorem dX8_doSpoil_24 : decode cX8_doSpoil 24 = .ok (.invokevirtual 101, 3) := by decide +kernel
theorem dX8_doSpoil_27 : decode cX8_doSpoil 27 = .ok (.iload 5, 2) := by decide +kernel
theorem dX8_doSpoil_29 : decode cX8_doSpoil 29 = .ok (.ireturn, 1) := by decide +kernel
theorem dX8_doTear_0 : decode cX8_doTear 0 = .ok (.aload_n 0, 1) := by decide +kernel
theorem dX8_doTear_1 : decode cX8_doTear 1 = .ok (.getfield 18, 3) := by decide +kernel
theorem dX8_doTear_4 : decode cX8_doTear 4 = .ok (.iload_n 1, 1) := by decide +kernel
theorem dX8_doTear_5 : decode cX8_doTear 5 = .ok (.invokevirtual 61, 3) := by decide +kernel
theorem dX8_doTear_8 : decode cX8_doTear 8 = .ok (.istore 4, 2) := by decide +kernel
theorem dX8_doTear_10 : decode cX8_doTear 10 = .ok (.aload_n 0, 1) := by decide +kernel
theorem dX8_doTear_11 : decode cX8_doTear 11 = .ok (.getfield 18, 3) := by decide +kernel
theorem dX8_doTear_14 : decode cX8_doTear 14 = .ok (.iload_n 1, 1) := by decide +kernel
theorem dX8_doTear_15 : decode cX8_doTear 15 = .ok (.invokevirtual 74, 3) := by decide +kernel
theorem dX8_doTear_18 : decode cX8_doTear 18 = .ok (.istore 5, 2) := by decide +kernel
theorem dX8_doTear_20 : decode cX8_doTear 20 = .ok (.aload_n 0, 1) := by decide +kernel
theorem dX8_doTear_21 : decode cX8_doTear 21 = .ok (.getfield 18, 3) := by decide +kernel
theorem dX8_doTear_24 : decode cX8_doTear 24 = .ok (.iload_n 1, 1) := by decide +kernel
theorem dX8_doTear_25 : decode cX8_doTear 25 = .ok (.invokevirtual 64, 3) := by decide +kernel
theorem dX8_doTear_28 : decode cX8_doTear 28 = .ok (.istore 6, 2) := by decide +kernel
theorem dX8_doTear_30 : decode cX8_doTear 30 = .ok (.aload_n 0, 1) := by decide +kernel
theorem dX8_doTear_31 : decode cX8_doTear 31 = .ok (.iload 4, 2) := by decide +kernel
theorem dX8_doTear_33 : decode cX8_doTear 33 = .ok (.invokevirtual 67, 3) := by decide +kernel
theorem dX8_doTear_36 : decode cX8_doTear 36 = .ok (.istore 7, 2) := by decide +kernel
theorem dX8_doTear_38 : decode cX8_doTear 38 = .ok (.aload_n 0, 1) := by decide +kernel
theorem dX8_doTear_39 : decode cX8_doTear 39 = .ok (.getfield 27, 3) := by decide +kernel
theorem dX8_doTear_42 : decode cX8_doTear 42 = .ok (.aload_n 0, 1) := by decide +kernel
theorem dX8_doTear_43 : decode cX8_doTear 43 = .ok (.getfield 12, 3) := by decide +kernel
theorem dX8_doTear_46 : decode cX8_doTear 46 = .ok (.iload 4, 2) := by decide +kernel
theorem dX8_doTear_48 : decode cX8_doTear 48 = .ok (.iload 6, 2) := by decide +kernel
theorem dX8_doTear_50 : decode cX8_doTear 50 = .ok (.iload 7, 2) := by decide +kernel
theorem dX8_doTear_52 : decode cX8_doTear 52 = .ok (.invokevirtual 70, 3) := by decide +kernel
theorem dX8_doTear_55 : decode cX8_doTear 55 = .ok (.aload_n 0, 1) := by decide +kernel
theorem dX8_doTear_56 : decode cX8_doTear 56 = .ok (.getfield 27, 3) := by decide +kernel
theorem dX8_doTear_59 : decode cX8_doTear 59 = .ok (.iload 5, 2) := by decide +kernel
theorem dX8_doTear_61 : decode cX8_doTear 61 = .ok (.iload_n 2, 1) := by decide +kernel
theorem dX8_doTear_62 : decode cX8_doTear 62 = .ok (.invokevirtual 196, 3) := by decide +kernel
theorem dX8_doTear_65 : decode cX8_doTear 65 = .ok (.aload_n 0, 1) := by decide +kernel
theorem dX8_doTear_66 : decode cX8_doTear 66 = .ok (.iload 4, 2) := by decide +kernel
theorem dX8_doTear_68 : decode cX8_doTear 68 = .ok (.aload_n 0, 1) := by decide +kernel
theorem dX8_doTear_69 : decode cX8_doTear 69 = .ok (.iload 7, 2) := by decide +kernel
theorem dX8_doTear_71 : decode cX8_doTear 71 = .ok (.iload 5, 2) := by decide +kernel
theorem dX8_doTear_73 : decode cX8_doTear 73 = .ok (.invokevirtual 85, 3) := by decide +kernel
theorem dX8_doTear_76 : decode cX8_doTear 76 = .ok (.invokevirtual 205, 3) := by decide +kernel
theorem dX8_doTear_79 : decode cX8_doTear 79 = .ok (.iload_n 3, 1) := by decide +kernel
theorem dX8_doTear_80 : decode cX8_doTear 80 = .ok (.ifCond .le 37, 3) := by decide +kernel
theorem dX8_doTear_83 : decode cX8_doTear 83 = .ok (.aload_n 0, 1) := by decide +kernel
theorem dX8_doTear_84 : decode cX8_doTear 84 = .ok (.iload 4, 2) := by decide +kernel
theorem dX8_doTear_86 : decode cX8_doTear 86 = .ok (.iload 6, 2) := by decide +kernel
theorem dX8_doTear_88 : decode cX8_doTear 88 = .ok (.iload_n 3, 1) := by decide +kernel
theorem dX8_doTear_89 : decode cX8_doTear 89 = .ok (.iconst 1, 1) := by decide +kernel
theorem dX8_doTear_90 : decode cX8_doTear 90 = .ok (.if_icmp .ne 10, 3) := by decide +kernel
theorem dX8_doTear_93 : decode cX8_doTear 93 = .ok (.iconst 1, 1) := by decide +kernel
theorem dX8_doTear_94 : decode cX8_doTear 94 = .ok (.iload 5, 2) := by decide +kernel
theorem dX8_doTear_96 : decode cX8_doTear 96 = .ok (.ishl, 1) := by decide +kernel
theorem dX8_doTear_97 : decode cX8_doTear 97 = .ok (.goto 17, 3) := by decide +kernel
theorem dX8_doTear_100 : decode cX8_doTear 100 = .ok (.iconst 1, 1) := by decide +kernel
theorem dX8_doTear_101 : decode cX8_doTear 101 = .ok (.iload 5, 2) := by decide +kernel
theorem dX8_doTear_103 : decode cX8_doTear 103 = .ok (.ishl, 1) := by decide +kernel
theorem dX8_doTear_104 : decode cX8_doTear 104 = .ok (.iconst 1, 1) := by decide +kernel
theorem dX8_doTear_105 : decode cX8_doTear 105 = .ok (.aload_n 0, 1) := by decide +kernel
theorem dX8_doTear_106 : decode cX8_doTear 106 = .ok (.getfield 18, 3) := by decide +kernel
theorem dX8_doTear_109 : decode cX8_doTear 109 = .ok (.getfield 91, 3) := by decide +kernel
theorem dX8_doTear_112 : decode cX8_doTear 112 = .ok (.ishl, 1) := by decide +kernel
theorem dX8_doTear_113 : decode cX8_doTear 113 = .ok (.ior, 1) := by decide +kernel
theorem dX8_doTear_114 : decode cX8_doTear 114 = .ok (.invokevirtual 208, 3) := by decide +kernel
theorem dX8_doTear_117 : decode cX8_doTear 117 = .ok (.aload_n 0, 1) := by decide +kernel
theorem dX8_doTear_118 : decode cX8_doTear 118 = .ok (.getfield 12, 3) := by decide +kernel
theorem dX8_doTear_121 : decode cX8_doTear 121 = .ok (.sipush 140, 3) := by decide +kernel
theorem dX8_doTear_124 : decode cX8_doTear 124 = .ok (.aload_n 0, 1) := by decide +kernel
theorem dX8_doTear_125 : decode cX8_doTear 125 = .ok (.getfield 12, 3) := by decide +kernel
theorem dX8_doTear_128 : decode cX8_doTear 128 = .ok (.sipush 140, 3) := by decide +kernel
theorem dX8_doTear_131 : decode cX8_doTear 131 = .ok (.invokevirtual 31, 3) := by decide +kernel
theorem dX8_doTear_134 : decode cX8_doTear 134 = .ok (.iconst 1, 1) := by decide +kernel
theorem dX8_doTear_135 : decode cX8_doTear 135 = .ok (.iload 4, 2) := by decide +kernel
theorem dX8_doTear_137 : decode cX8_doTear 137 = .ok (.ishl, 1) := by decide +kernel
theorem dX8_doTear_138 : decode cX8_doTear 138 = .ok (.ior, 1) := by decide +kernel
theorem dX8_doTear_139 : decode cX8_doTear 139 = .ok (.invokevirtual 212, 3) := by decide +kernel
theorem dX8_doTear_142 : decode cX8_doTear 142 = .ok (.aload_n 0, 1) := by decide +kernel
theorem dX8_doTear_143 : decode cX8_doTear 143 = .ok (.getfield 12, 3) := by decide +kernel
theorem dX8_doTear_146 : decode cX8_doTear 146 = .ok (.sipush 140, 3) := by decide +kernel
theorem dX8_doTear_149 : decode cX8_doTear 149 = .ok (.invokevirtual 31, 3) := by decide +kernel
theorem dX8_doTear_152 : decode cX8_doTear 152 = .ok (.invokestatic 56, 3) := by decide +kernel
theorem dX8_doTear_155 : decode cX8_doTear 155 = .ok (.ireturn, 1) := by decide +kernel
theorem dX8_cleanStripe_0 : decode cX8_cleanStripe 0 = .ok (.iconst 0, 1) := by decide +kernel
theorem dX8_cleanStripe_1 : decode cX8_cleanStripe 1 = .ok (.istore_n 2, 1) := by decide +kernel
theorem dX8_cleanStripe_2 : decode cX8_cleanStripe 2 = .ok (.iload_n 2, 1) := by decide +kernel
theorem dX8_cleanStripe_3 : decode cX8_cleanStripe 3 = .ok (.aload_n 0, 1) := by decide +kernel
theorem dX8_cleanStripe_4 : decode cX8_cleanStripe 4 = .ok (.getfield 18, 3) := by decide +kernel
theorem dX8_cleanStripe_7 : decode cX8_cleanStripe 7 = .ok (.getfield 218, 3) := by decide +kernel
theorem dX8_cleanStripe_10 : decode cX8_cleanStripe 10 = .ok (.if_icmp .ge 67, 3) := by decide +kernel
theorem dX8_cleanStripe_13 : decode cX8_cleanStripe 13 = .ok (.aload_n 0, 1) := by decide +kernel
theorem dX8_cleanStripe_14 : decode cX8_cleanStripe 14 = .ok (.getfield 27, 3) := by decide +kernel
theorem dX8_cleanStripe_17 : decode cX8_cleanStripe 17 = .ok (.aload_n 0, 1) := by decide +kernel
theorem dX8_cleanStripe_18 : decode cX8_cleanStripe 18 = .ok (.getfield 12, 3) := by decide +kernel
theorem dX8_cleanStripe_21 : decode cX8_cleanStripe 21 = .ok (.iload_n 1, 1) := by decide +kernel
theorem dX8_cleanStripe_22 : decode cX8_cleanStripe 22 = .ok (.iload_n 2, 1) := by decide +kernel
theorem dX8_cleanStripe_23 : decode cX8_cleanStripe 23 = .ok (.iconst 0, 1) := by decide +kernel
theorem dX8_cleanStripe_24 : decode cX8_cleanStripe 24 = .ok (.invokevirtual 227, 3) := by decide +kernel
theorem dX8_cleanStripe_27 : decode cX8_cleanStripe 27 = .ok (.aload_n 0, 1) := by decide +kernel
theorem dX8_cleanStripe_28 : decode cX8_cleanStripe 28 = .ok (.getfield 27, 3) := by decide +kernel
theorem dX8_cleanStripe_31 : decode cX8_cleanStripe 31 = .ok (.invokevirtual 202, 3) := by decide +kernel
theorem dX8_cleanStripe_34 : decode cX8_cleanStripe 34 = .ok (.aload_n 0, 1) := by decide +kernel
theorem dX8_cleanStripe_35 : decode cX8_cleanStripe 35 = .ok (.iload_n 1, 1) := by decide +kernel
theorem dX8_cleanStripe_36 : decode cX8_cleanStripe 36 = .ok (.aload_n 0, 1) := by decide +kernel
theorem dX8_cleanStripe_37 : decode cX8_cleanStripe 37 = .ok (.getfield 18, 3) := by decide +kernel
theorem dX8_cleanStripe_40 : decode cX8_cleanStripe 40 = .ok (.getfield 78, 3) := by decide +kernel
theorem dX8_cleanStripe_43 : decode cX8_cleanStripe 43 = .ok (.invokevirtual 205, 3) := by decide +kernel
theorem dX8_cleanStripe_46 : decode cX8_cleanStripe 46 = .ok (.aload_n 0, 1) := by decide +kernel
theorem dX8_cleanStripe_47 : decode cX8_cleanStripe 47 = .ok (.iload_n 1, 1) := by decide +kernel
theorem dX8_cleanStripe_48 : decode cX8_cleanStripe 48 = .ok (.iload_n 2, 1) := by decide +kernel
theorem dX8_cleanStripe_49 : decode cX8_cleanStripe 49 = .ok (.iconst 1, 1) := by decide +kernel
theorem dX8_cleanStripe_50 : decode cX8_cleanStripe 50 = .ok (.aload_n 0, 1) := by decide +kernel
theorem dX8_cleanStripe_51 : decode cX8_cleanStripe 51 = .ok (.getfield 18, 3) := by decide +kernel
theorem dX8_cleanStripe_54 : decode cX8_cleanStripe 54 = .ok (.getfield 91, 3) := by decide +kernel
theorem dX8_cleanStripe_57 : decode cX8_cleanStripe 57 = .ok (.ishl, 1) := by decide +kernel
theorem dX8_cleanStripe_58 : decode cX8_cleanStripe 58 = .ok (.iconst 1, 1) := by decide +kernel
theorem dX8_cleanStripe_59 : decode cX8_cleanStripe 59 = .ok (.aload_n 0, 1) := by decide +kernel
theorem dX8_cleanStripe_60 : decode cX8_cleanStripe 60 = .ok (.getfield 18, 3) := by decide +kernel
theorem dX8_cleanStripe_63 : decode cX8_cleanStripe 63 = .ok (.getfield 94, 3) := by decide +kernel
theorem dX8_cleanStripe_66 : decode cX8_cleanStripe 66 = .ok (.ishl, 1) := by decide +kernel
theorem dX8_cleanStripe_67 : decode cX8_cleanStripe 67 = .ok (.ior, 1) := by decide +kernel
theorem dX8_cleanStripe_68 : decode cX8_cleanStripe 68 = .ok (.invokevirtual 208, 3) := by decide +kernel
theorem dX8_cleanStripe_71 : decode cX8_cleanStripe 71 = .ok (.iinc 2 1, 3) := by decide +kernel
theorem dX8_cleanStripe_74 : decode cX8_cleanStripe 74 = .ok (.goto (-72), 3) := by decide +kernel
theorem dX8_cleanStripe_77 : decode cX8_cleanStripe 77 = .ok (.aload_n 0, 1) := by decide +kernel
theorem dX8_cleanStripe_78 : decode cX8_cleanStripe 78 = .ok (.getfield 12, 3) := by decide +kernel
theorem dX8_cleanStripe_81 : decode cX8_cleanStripe 81 = .ok (.sipush 140, 3) := by decide +kernel
theorem dX8_cleanStripe_84 : decode cX8_cleanStripe 84 = .ok (.aload_n 0, 1) := by decide +kernel
theorem dX8_cleanStripe_85 : decode cX8_cleanStripe 85 = .ok (.getfield 12, 3) := by decide +kernel
theorem dX8_cleanStripe_88 : decode cX8_cleanStripe 88 = .ok (.sipush 140, 3) := by decide +kernel
theorem dX8_cleanStripe_91 : decode cX8_cleanStripe 91 = .ok (.invokevirtual 31, 3) := by decide +kernel
theorem dX8_cleanStripe_94 : decode cX8_cleanStripe 94 = .ok (.iconst 1, 1) := by decide +kernel
theorem dX8_cleanStripe_95 : decode cX8_cleanStripe 95 = .ok (.iload_n 1, 1) := by decide +kernel
theorem dX8_cleanStripe_96 : decode cX8_cleanStripe 96 = .ok (.ishl, 1) := by decide +kernel
theorem dX8_cleanStripe_97 : decode cX8_cleanStripe 97 = .ok (.iconst (-1), 1) := by decide +kernel
theorem dX8_cleanStripe_98 : decode cX8_cleanStripe 98 = .ok (.ixor, 1) := by decide +kernel
theorem dX8_cleanStripe_99 : decode cX8_cleanStripe 99 = .ok (.iand, 1) := by decide +kernel
theorem dX8_cleanStripe_100 : decode cX8_cleanStripe 100 = .ok (.invokevirtual 212, 3) := by decide +kernel
theorem dX8_cleanStripe_103 : decode cX8_cleanStripe 103 = .ok (.return_, 1) := by decide +kernel
theorem dX8_doClean_0 : decode cX8_doClean 0 = .ok (.iconst 0, 1) := by decide +kernel
theorem dX8_doClean_1 : decode cX8_doClean 1 = .ok (.istore_n 1, 1) := by decide +kernel
theorem dX8_doClean_2 : decode cX8_doClean 2 = .ok (.iconst 0, 1) := by decide +kernel
theorem dX8_doClean_3 : decode cX8_doClean 3 = .ok (.istore_n 2, 1) := by decide +kernel
theorem dX8_doClean_4 : decode cX8_doClean 4 = .ok (.iload_n 2, 1) := by decide +kernel
theorem dX8_doClean_5 : decode cX8_doClean 5 = .ok (.aload_n 0, 1) := by decide +kernel
theorem dX8_doClean_6 : decode cX8_doClean 6 = .ok (.getfield 18, 3) := by decide +kernel
theorem dX8_doClean_9 : decode cX8_doClean 9 = .ok (.getfield 154, 3) := by decide +kernel
theorem dX8_doClean_12 : decode cX8_doClean 12 = .ok (.if_icmp .ge 33, 3) := by decide +kernel
theorem dX8_doClean_15 : decode cX8_doClean 15 = .ok (.aload_n 0, 1) := by decide +kernel
theorem dX8_doClean_16 : decode cX8_doClean 16 = .ok (.iload_n 2, 1) := by decide +kernel
theorem dX8_doClean_17 : decode cX8_doClean 17 = .ok (.invokevirtual 157, 3) := by decide +kernel
theorem dX8_doClean_20 : decode cX8_doClean 20 = .ok (.ifCond .eq 19, 3) := by decide +kernel
theorem dX8_doClean_23 : decode cX8_doClean 23 = .ok (.aload_n 0, 1) := by decide +kernel
theorem dX8_doClean_24 : decode cX8_doClean 24 = .ok (.iload_n 2, 1) := by decide +kernel
theorem dX8_doClean_25 : decode cX8_doClean 25 = .ok (.invokevirtual 67, 3) := by decide +kernel
theorem dX8_doClean_28 : decode cX8_doClean 28 = .ok (.ifCond .ne 11, 3) := by decide +kernel
theorem dX8_doClean_31 : decode cX8_doClean 31 = .ok (.aload_n 0, 1) := by decide +kernel
theorem dX8_doClean_32 : decode cX8_doClean 32 = .ok (.iload_n 2, 1) := by decide +kernel
theorem dX8_doClean_33 : decode cX8_doClean 33 = .ok (.invokevirtual 243, 3) := by decide +kernel
theorem dX8_doClean_36 : decode cX8_doClean 36 = .ok (.iinc 1 1, 3) := by decide +kernel
theorem dX8_doClean_39 : decode cX8_doClean 39 = .ok (.iinc 2 1, 3) := by decide +kernel
theorem dX8_doClean_42 : decode cX8_doClean 42 = .ok (.goto (-38), 3) := by decide +kernel
theorem dX8_doClean_45 : decode cX8_doClean 45 = .ok (.iload_n 1, 1) := by decide +kernel
theorem dX8_doClean_46 : decode cX8_doClean 46 = .ok (.ireturn, 1) := by decide +kernel
theorem dX8_doFull_0 : decode cX8_doFull 0 = .ok (.iconst 0, 1) := by decide +kernel
theorem dX8_doFull_1 : decode cX8_doFull 1 = .ok (.istore 5, 2) := by decide +kernel
theorem dX8_doFull_3 : decode cX8_doFull 3 = .ok (.iload 5, 2) := by decide +kernel
theorem dX8_doFull_5 : decode cX8_doFull 5 = .ok (.aload_n 0, 1) := by decide +kernel
theorem dX8_doFull_6 : decode cX8_doFull 6 = .ok (.getfield 18, 3) := by decide +kernel
theorem dX8_doFull_9 : decode cX8_doFull 9 = .ok (.getfield 246, 3) := by decide +kernel
theorem dX8_doFull_12 : decode cX8_doFull 12 = .ok (.if_icmp .ge 29, 3) := by decide +kernel
theorem dX8_doFull_15 : decode cX8_doFull 15 = .ok (.aload_n 0, 1) := by decide +kernel
theorem dX8_doFull_16 : decode cX8_doFull 16 = .ok (.getfield 27, 3) := by decide +kernel
theorem dX8_doFull_19 : decode cX8_doFull 19 = .ok (.iload 5, 2) := by decide +kernel
theorem dX8_doFull_21 : decode cX8_doFull 21 = .ok (.iload_n 3, 1) := by decide +kernel
theorem dX8_doFull_22 : decode cX8_doFull 22 = .ok (.iload 5, 2) := by decide +kernel
theorem dX8_doFull_24 : decode cX8_doFull 24 = .ok (.iload 4, 2) := by decide +kernel
theorem dX8_doFull_26 : decode cX8_doFull 26 = .ok (.imul, 1) := by decide +kernel
theorem dX8_doFull_27 : decode cX8_doFull 27 = .ok (.iadd, 1) := by decide +kernel
theorem dX8_doFull_28 : decode cX8_doFull 28 = .ok (.sipush 255, 3) := by decide +kernel
theorem dX8_doFull_31 : decode cX8_doFull 31 = .ok (.iand, 1) := by decide +kernel
theorem dX8_doFull_32 : decode cX8_doFull 32 = .ok (.invokevirtual 199, 3) := by decide +kernel
theorem dX8_doFull_35 : decode cX8_doFull 35 = .ok (.iinc 5 1, 3) := by decide +kernel
theorem dX8_doFull_38 : decode cX8_doFull 38 = .ok (.goto (-35), 3) := by decide +kernel
theorem dX8_doFull_41 : decode cX8_doFull 41 = .ok (.aload_n 0, 1) := by decide +kernel
theorem dX8_doFull_42 : decode cX8_doFull 42 = .ok (.getfield 27, 3) := by decide +kernel
theorem dX8_doFull_45 : decode cX8_doFull 45 = .ok (.invokevirtual 202, 3) := by decide +kernel
theorem dX8_doFull_48 : decode cX8_doFull 48 = .ok (.aload_n 0, 1) := by decide +kernel
theorem dX8_doFull_49 : decode cX8_doFull 49 = .ok (.getfield 18, 3) := by decide +kernel
theorem dX8_doFull_52 : decode cX8_doFull 52 = .ok (.getfield 88, 3) := by decide +kernel
theorem dX8_doFull_55 : decode cX8_doFull 55 = .ok (.aload_n 0, 1) := by decide +kernel
theorem dX8_doFull_56 : decode cX8_doFull 56 = .ok (.iload_n 1, 1) := by decide +kernel
theorem dX8_doFull_57 : decode cX8_doFull 57 = .ok (.invokevirtual 67, 3) := by decide +kernel
theorem dX8_doFull_60 : decode cX8_doFull 60 = .ok (.iconst (-1), 1) := by decide +kernel
theorem dX8_doFull_61 : decode cX8_doFull 61 = .ok (.ixor, 1) := by decide +kernel
theorem dX8_doFull_62 : decode cX8_doFull 62 = .ok (.iand, 1) := by decide +kernel
theorem dX8_doFull_63 : decode cX8_doFull 63 = .ok (.istore 5, 2) := by decide +kernel
theorem dX8_doFull_65 : decode cX8_doFull 65 = .ok (.aload_n 0, 1) := by decide +kernel
theorem dX8_doFull_66 : decode cX8_doFull 66 = .ok (.iload_n 1, 1) := by decide +kernel
theorem dX8_doFull_67 : decode cX8_doFull 67 = .ok (.iload_n 2, 1) := by decide +kernel
theorem dX8_doFull_68 : decode cX8_doFull 68 = .ok (.iload 5, 2) := by decide +kernel
theorem dX8_doFull_70 : decode cX8_doFull 70 = .ok (.invokevirtual 208, 3) := by decide +kernel
theorem dX8_doFull_73 : decode cX8_doFull 73 = .ok (.iload 5, 2) := by decide +kernel
theorem dX8_doFull_75 : decode cX8_doFull 75 = .ok (.invokestatic 56, 3) := by decide +kernel
theorem dX8_doFull_78 : decode cX8_doFull 78 = .ok (.ireturn, 1) := by decide +kernel
theorem dX8_carryOut_0 : decode cX8_carryOut 0 = .ok (.iload_n 1, 1) := by decide +kernel
theorem dX8_carryOut_1 : decode cX8_carryOut 1 = .ok (.tableswitch 119 0 8 #[51, 58, 64, 70, 77, 83, 94, 103, 108], 51) := by decide +kernel
theorem dX8_carryOut_52 : decode cX8_carryOut 52 = .ok (.aload_n 0, 1) := by decide +kernel
theorem dX8_carryOut_53 : decode cX8_carryOut 53 = .ok (.iload_n 2, 1) := by decide +kernel
theorem dX8_carryOut_54 : decode cX8_carryOut 54 = .ok (.iload_n 3, 1) := by decide +kernel
theorem dX8_carryOut_55 : decode cX8_carryOut 55 = .ok (.invokevirtual 166, 3) := by decide +kernel
theorem dX8_carryOut_58 : decode cX8_carryOut 58 = .ok (.ireturn, 1) := by decide +kernel
theorem dX8_carryOut_59 : decode cX8_carryOut 59 = .ok (.aload_n 0, 1) := by decide +kernel
theorem dX8_carryOut_60 : decode cX8_carryOut 60 = .ok (.iload_n 2, 1) := by decide +kernel
theorem dX8_carryOut_61 : decode cX8_carryOut 61 = .ok (.invokevirtual 169, 3) := by decide +kernel
theorem dX8_carryOut_64 : decode cX8_carryOut 64 = .ok (.ireturn, 1) := by decide +kernel
theorem dX8_carryOut_65 : decode cX8_carryOut 65 = .ok (.aload_n 0, 1) := by decide +kernel
theorem dX8_carryOut_66 : decode cX8_carryOut 66 = .ok (.iload_n 2, 1) := by decide +kernel
theorem dX8_carryOut_67 : decode cX8_carryOut 67 = .ok (.invokevirtual 172, 3) := by decide +kernel
theorem dX8_carryOut_70 : decode cX8_carryOut 70 = .ok (.ireturn, 1) := by decide +kernel
theorem dX8_carryOut_71 : decode cX8_carryOut 71 = .ok (.aload_n 0, 1) := by decide +kernel
theorem dX8_carryOut_72 : decode cX8_carryOut 72 = .ok (.iload_n 2, 1) := by decide +kernel
theorem dX8_carryOut_73 : decode cX8_carryOut 73 = .ok (.iload_n 3, 1) := by decide +kernel
theorem dX8_carryOut_74 : decode cX8_carryOut 74 = .ok (.invokevirtual 175, 3) := by decide +kernel
theorem dX8_carryOut_77 : decode cX8_carryOut 77 = .ok (.ireturn, 1) := by decide +kernel
theorem dX8_carryOut_78 : decode cX8_carryOut 78 = .ok (.aload_n 0, 1) := by decide +kernel
theorem dX8_carryOut_79 : decode cX8_carryOut 79 = .ok (.iload_n 2, 1) := by decide +kernel
theorem dX8_carryOut_80 : decode cX8_carryOut 80 = .ok (.invokevirtual 178, 3) := by decide +kernel
theorem dX8_carryOut_83 : decode cX8_carryOut 83 = .ok (.ireturn, 1) := by decide +kernel
theorem dX8_carryOut_84 : decode cX8_carryOut 84 = .ok (.aload_n 0, 1) := by decide +kernel
theorem dX8_carryOut_85 : decode cX8_carryOut 85 = .ok (.iload_n 2, 1) := by decide +kernel
theorem dX8_carryOut_86 : decode cX8_carryOut 86 = .ok (.iload_n 3, 1) := by decide +kernel
theorem dX8_carryOut_87 : decode cX8_carryOut 87 = .ok (.iload 4, 2) := by decide +kernel
theorem dX8_carryOut_89 : decode cX8_carryOut 89 = .ok (.iload 5, 2) := by decide +kernel
theorem dX8_carryOut_91 : decode cX8_carryOut 91 = .ok (.invokevirtual 181, 3) := by decide +kernel
theorem dX8_carryOut_94 : decode cX8_carryOut 94 = .ok (.ireturn, 1) := by decide +kernel
theorem dX8_carryOut_95 : decode cX8_carryOut 95 = .ok (.aload_n 0, 1) := by decide +kernel
theorem dX8_carryOut_96 : decode cX8_carryOut 96 = .ok (.iload_n 2, 1) := by decide +kernel
theorem dX8_carryOut_97 : decode cX8_carryOut 97 = .ok (.iload_n 3, 1) := by decide +kernel
theorem dX8_carryOut_98 : decode cX8_carryOut 98 = .ok (.iload 4, 2) := by decide +kernel
theorem dX8_carryOut_100 : decode cX8_carryOut 100 = .ok (.invokevirtual 184, 3) := by decide +kernel
theorem dX8_carryOut_103 : decode cX8_carryOut 103 = .ok (.ireturn, 1) := by decide +kernel
theorem dX8_carryOut_104 : decode cX8_carryOut 104 = .ok (.aload_n 0, 1) := by decide +kernel
theorem dX8_carryOut_105 : decode cX8_carryOut 105 = .ok (.invokevirtual 187, 3) := by decide +kernel
theorem dX8_carryOut_108 : decode cX8_carryOut 108 = .ok (.ireturn, 1) := by decide +kernel
theorem dX8_carryOut_109 : decode cX8_carryOut 109 = .ok (.aload_n 0, 1) := by decide +kernel
theorem dX8_carryOut_110 : decode cX8_carryOut 110 = .ok (.iload_n 2, 1) := by decide +kernel
theorem dX8_carryOut_111 : decode cX8_carryOut 111 = .ok (.iload_n 3, 1) := by decide +kernel
theorem dX8_carryOut_112 : decode cX8_carryOut 112 = .ok (.iload 4, 2) := by decide +kernel
theorem dX8_carryOut_114 : decode cX8_carryOut 114 = .ok (.iload 5, 2) := by decide +kernel
theorem dX8_carryOut_116 : decode cX8_carryOut 116 = .ok (.invokevirtual 190, 3) := by decide +kernel
theorem dX8_carryOut_119 : decode cX8_carryOut 119 = .ok (.ireturn, 1) := by decide +kernel
theorem dX8_carryOut_120 : decode cX8_carryOut 120 = .ok (.iconst (-1), 1) := by decide +kernel
theorem dX8_carryOut_121 : decode cX8_carryOut 121 = .ok (.ireturn, 1) := by decide +kernel
theorem dX8_doneOf_0 : decode cX8_doneOf 0 = .ok (.iconst 0, 1) := by decide +kernel
theorem dX8_doneOf_1 : decode cX8_doneOf 1 = .ok (.istore_n 2, 1) := by decide +kernel
theorem dX8_doneOf_2 : decode cX8_doneOf 2 = .ok (.iload_n 2, 1) := by decide +kernel
theorem dX8_doneOf_3 : decode cX8_doneOf 3 = .ok (.aload_n 1, 1) := by decide +kernel
theorem dX8_doneOf_4 : decode cX8_doneOf 4 = .ok (.invokevirtual 249, 3) := by decide +kernel
theorem dX8_doneOf_7 : decode cX8_doneOf 7 = .ok (.if_icmp .ge 79, 3) := by decide +kernel
theorem dX8_doneOf_10 : decode cX8_doneOf 10 = .ok (.aload_n 1, 1) := by decide +kernel
theorem dX8_doneOf_11 : decode cX8_doneOf 11 = .ok (.iload_n 2, 1) := by decide +kernel
theorem dX8_doneOf_12 : decode cX8_doneOf 12 = .ok (.iconst 0, 1) := by decide +kernel
theorem dX8_doneOf_13 : decode cX8_doneOf 13 = .ok (.invokevirtual 254, 3) := by decide +kernel
theorem dX8_doneOf_16 : decode cX8_doneOf 16 = .ok (.istore_n 3, 1) := by decide +kernel
theorem dX8_doneOf_17 : decode cX8_doneOf 17 = .ok (.aload_n 1, 1) := by decide +kernel
theorem dX8_doneOf_18 : decode cX8_doneOf 18 = .ok (.iload_n 2, 1) := by decide +kernel
theorem dX8_doneOf_19 : decode cX8_doneOf 19 = .ok (.iconst 1, 1) := by decide +kernel
theorem dX8_doneOf_20 : decode cX8_doneOf 20 = .ok (.invokevirtual 254, 3) := by decide +kernel
theorem dX8_doneOf_23 : decode cX8_doneOf 23 = .ok (.istore 4, 2) := by decide +kernel
theorem dX8_doneOf_25 : decode cX8_doneOf 25 = .ok (.aload_n 1, 1) := by decide +kernel
theorem dX8_doneOf_26 : decode cX8_doneOf 26 = .ok (.iload_n 2, 1) := by decide +kernel
theorem dX8_doneOf_27 : decode cX8_doneOf 27 = .ok (.iconst 2, 1) := by decide +kernel
theorem dX8_doneOf_28 : decode cX8_doneOf 28 = .ok (.invokevirtual 254, 3) := by decide +kernel
theorem dX8_doneOf_31 : decode cX8_doneOf 31 = .ok (.istore 5, 2) := by decide +kernel
theorem dX8_doneOf_33 : decode cX8_doneOf 33 = .ok (.aload_n 1, 1) := by decide +kernel
theorem dX8_doneOf_34 : decode cX8_doneOf 34 = .ok (.iload_n 2, 1) := by decide +kernel
theorem dX8_doneOf_35 : decode cX8_doneOf 35 = .ok (.iconst 3, 1) := by decide +kernel
theorem dX8_doneOf_36 : decode cX8_doneOf 36 = .ok (.invokevirtual 254, 3) := by decide +kernel
theorem dX8_doneOf_39 : decode cX8_doneOf 39 = .ok (.istore 6, 2) := by decide +kernel
theorem dX8_doneOf_41 : decode cX8_doneOf 41 = .ok (.aload_n 0, 1) := by decide +kernel
theorem dX8_doneOf_42 : decode cX8_doneOf 42 = .ok (.aload_n 1, 1) := by decide +kernel
theorem dX8_doneOf_43 : decode cX8_doneOf 43 = .ok (.iload_n 2, 1) := by decide +kernel
theorem dX8_doneOf_44 : decode cX8_doneOf 44 = .ok (.invokevirtual 257, 3) := by decide +kernel
theorem dX8_doneOf_47 : decode cX8_doneOf 47 = .ok (.iload_n 3, 1) := by decide +kernel
theorem dX8_doneOf_48 : decode cX8_doneOf 48 = .ok (.iload 4, 2) := by decide +kernel
theorem dX8_doneOf_50 : decode cX8_doneOf 50 = .ok (.iload 5, 2) := by decide +kernel
theorem dX8_doneOf_52 : decode cX8_doneOf 52 = .ok (.iload 6, 2) := by decide +kernel
theorem dX8_doneOf_54 : decode cX8_doneOf 54 = .ok (.invokevirtual 260, 3) := by decide +kernel
theorem dX8_doneOf_57 : decode cX8_doneOf 57 = .ok (.iconst (-1), 1) := by decide +kernel
theorem dX8_doneOf_58 : decode cX8_doneOf 58 = .ok (.if_icmp .eq 5, 3) := by decide +kernel
theorem dX8_doneOf_61 : decode cX8_doneOf 61 = .ok (.iload_n 2, 1) := by decide +kernel
theorem dX8_doneOf_62 : decode cX8_doneOf 62 = .ok (.ireturn, 1) := by decide +kernel
theorem dX8_doneOf_63 : decode cX8_doneOf 63 = .ok (.aload_n 0, 1) := by decide +kernel
theorem dX8_doneOf_64 : decode cX8_doneOf 64 = .ok (.aload_n 1, 1) := by decide +kernel
theorem dX8_doneOf_65 : decode cX8_doneOf 65 = .ok (.iload_n 2, 1) := by decide +kernel
theorem dX8_doneOf_66 : decode cX8_doneOf 66 = .ok (.invokevirtual 257, 3) := by decide +kernel
theorem dX8_doneOf_69 : decode cX8_doneOf 69 = .ok (.iload_n 3, 1) := by decide +kernel
theorem dX8_doneOf_70 : decode cX8_doneOf 70 = .ok (.iload 4, 2) := by decide +kernel
theorem dX8_doneOf_72 : decode cX8_doneOf 72 = .ok (.iload 5, 2) := by decide +kernel
theorem dX8_doneOf_74 : decode cX8_doneOf 74 = .ok (.iload 6, 2) := by decide +kernel
theorem dX8_doneOf_76 : decode cX8_doneOf 76 = .ok (.invokevirtual 264, 3) := by decide +kernel
theorem dX8_doneOf_79 : decode cX8_doneOf 79 = .ok (.pop, 1) := by decide +kernel
theorem dX8_doneOf_80 : decode cX8_doneOf 80 = .ok (.iinc 2 1, 3) := by decide +kernel
theorem dX8_doneOf_83 : decode cX8_doneOf 83 = .ok (.goto (-81), 3) := by decide +kernel
theorem dX8_doneOf_86 : decode cX8_doneOf 86 = .ok (.aload_n 1, 1) := by decide +kernel
theorem dX8_doneOf_87 : decode cX8_doneOf 87 = .ok (.invokevirtual 249, 3) := by decide +kernel
theorem dX8_doneOf_90 : decode cX8_doneOf 90 = .ok (.ireturn, 1) := by decide +kernel
