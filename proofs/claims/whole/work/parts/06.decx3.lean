theorem dX6_present_0 : decode cX6_present 0 = .ok (.aload_n 0, 1) := by decide +kernel
theorem dX6_present_1 : decode cX6_present 1 = .ok (.getfield 25, 3) := by decide +kernel
theorem dX6_present_4 : decode cX6_present 4 = .ok (.ifCond .le 7, 3) := by decide +kernel
theorem dX6_present_7 : decode cX6_present 7 = .ok (.iconst 1, 1) := by decide +kernel
theorem dX6_present_8 : decode cX6_present 8 = .ok (.goto 4, 3) := by decide +kernel
theorem dX6_present_11 : decode cX6_present 11 = .ok (.iconst 0, 1) := by decide +kernel
theorem dX6_present_12 : decode cX6_present 12 = .ok (.ireturn, 1) := by decide +kernel
theorem dX6_isAddress_0 : decode cX6_isAddress 0 = .ok (.iload_n 1, 1) := by decide +kernel
theorem dX6_isAddress_1 : decode cX6_isAddress 1 = .ok (.ifCond .lt 15, 3) := by decide +kernel
theorem dX6_isAddress_4 : decode cX6_isAddress 4 = .ok (.iload_n 1, 1) := by decide +kernel
theorem dX6_isAddress_5 : decode cX6_isAddress 5 = .ok (.aload_n 0, 1) := by decide +kernel
theorem dX6_isAddress_6 : decode cX6_isAddress 6 = .ok (.invokevirtual 46, 3) := by decide +kernel
theorem dX6_isAddress_9 : decode cX6_isAddress 9 = .ok (.if_icmp .ge 7, 3) := by decide +kernel
theorem dX6_isAddress_12 : decode cX6_isAddress 12 = .ok (.iconst 1, 1) := by decide +kernel
theorem dX6_isAddress_13 : decode cX6_isAddress 13 = .ok (.goto 4, 3) := by decide +kernel
theorem dX6_isAddress_16 : decode cX6_isAddress 16 = .ok (.iconst 0, 1) := by decide +kernel
theorem dX6_isAddress_17 : decode cX6_isAddress 17 = .ok (.ireturn, 1) := by decide +kernel
theorem dX6_isDisk_0 : decode cX6_isDisk 0 = .ok (.iload_n 1, 1) := by decide +kernel
theorem dX6_isDisk_1 : decode cX6_isDisk 1 = .ok (.ifCond .lt 15, 3) := by decide +kernel
theorem dX6_isDisk_4 : decode cX6_isDisk 4 = .ok (.iload_n 1, 1) := by decide +kernel
theorem dX6_isDisk_5 : decode cX6_isDisk 5 = .ok (.aload_n 0, 1) := by decide +kernel
theorem dX6_isDisk_6 : decode cX6_isDisk 6 = .ok (.getfield 25, 3) := by decide +kernel
theorem dX6_isDisk_9 : decode cX6_isDisk 9 = .ok (.if_icmp .ge 7, 3) := by decide +kernel
theorem dX6_isDisk_12 : decode cX6_isDisk 12 = .ok (.iconst 1, 1) := by decide +kernel
theorem dX6_isDisk_13 : decode cX6_isDisk 13 = .ok (.goto 4, 3) := by decide +kernel
theorem dX6_isDisk_16 : decode cX6_isDisk 16 = .ok (.iconst 0, 1) := by decide +kernel
theorem dX6_isDisk_17 : decode cX6_isDisk 17 = .ok (.ireturn, 1) := by decide +kernel
theorem dX6_isStripe_0 : decode cX6_isStripe 0 = .ok (.iload_n 1, 1) := by decide +kernel
theorem dX6_isStripe_1 : decode cX6_isStripe 1 = .ok (.ifCond .lt 15, 3) := by decide +kernel
theorem dX6_isStripe_4 : decode cX6_isStripe 4 = .ok (.iload_n 1, 1) := by decide +kernel
theorem dX6_isStripe_5 : decode cX6_isStripe 5 = .ok (.aload_n 0, 1) := by decide +kernel
theorem dX6_isStripe_6 : decode cX6_isStripe 6 = .ok (.getfield 13, 3) := by decide +kernel
theorem dX6_isStripe_9 : decode cX6_isStripe 9 = .ok (.if_icmp .ge 7, 3) := by decide +kernel
theorem dX6_isStripe_12 : decode cX6_isStripe 12 = .ok (.iconst 1, 1) := by decide +kernel
theorem dX6_isStripe_13 : decode cX6_isStripe 13 = .ok (.goto 4, 3) := by decide +kernel
theorem dX6_isStripe_16 : decode cX6_isStripe 16 = .ok (.iconst 0, 1) := by decide +kernel
theorem dX6_isStripe_17 : decode cX6_isStripe 17 = .ok (.ireturn, 1) := by decide +kernel
theorem dX6_isByteOfChunk_0 : decode cX6_isByteOfChunk 0 = .ok (.iload_n 1, 1) := by decide +kernel
theorem dX6_isByteOfChunk_1 : decode cX6_isByteOfChunk 1 = .ok (.ifCond .lt 15, 3) := by decide +kernel
theorem dX6_isByteOfChunk_4 : decode cX6_isByteOfChunk 4 = .ok (.iload_n 1, 1) := by decide +kernel
theorem dX6_isByteOfChunk_5 : decode cX6_isByteOfChunk 5 = .ok (.aload_n 0, 1) := by decide +kernel
theorem dX6_isByteOfChunk_6 : decode cX6_isByteOfChunk 6 = .ok (.getfield 16, 3) := by decide +kernel
theorem dX6_isByteOfChunk_9 : decode cX6_isByteOfChunk 9 = .ok (.if_icmp .ge 7, 3) := by decide +kernel
theorem dX6_isByteOfChunk_12 : decode cX6_isByteOfChunk 12 = .ok (.iconst 1, 1) := by decide +kernel
theorem dX6_isByteOfChunk_13 : decode cX6_isByteOfChunk 13 = .ok (.goto 4, 3) := by decide +kernel
theorem dX6_isByteOfChunk_16 : decode cX6_isByteOfChunk 16 = .ok (.iconst 0, 1) := by decide +kernel
theorem dX6_isByteOfChunk_17 : decode cX6_isByteOfChunk 17 = .ok (.ireturn, 1) := by decide +kernel
theorem dX6_isCell_0 : decode cX6_isCell 0 = .ok (.aload_n 0, 1) := by decide +kernel
theorem dX6_isCell_1 : decode cX6_isCell 1 = .ok (.iload_n 1, 1) := by decide +kernel
theorem dX6_isCell_2 : decode cX6_isCell 2 = .ok (.invokevirtual 50, 3) := by decide +kernel
theorem dX6_isCell_5 : decode cX6_isCell 5 = .ok (.ifCond .eq 23, 3) := by decide +kernel
theorem dX6_isCell_8 : decode cX6_isCell 8 = .ok (.aload_n 0, 1) := by decide +kernel
theorem dX6_isCell_9 : decode cX6_isCell 9 = .ok (.iload_n 2, 1) := by decide +kernel
theorem dX6_isCell_10 : decode cX6_isCell 10 = .ok (.invokevirtual 54, 3) := by decide +kernel
theorem dX6_isCell_13 : decode cX6_isCell 13 = .ok (.ifCond .eq 15, 3) := by decide +kernel
theorem dX6_isCell_16 : decode cX6_isCell 16 = .ok (.aload_n 0, 1) := by decide +kernel
theorem dX6_isCell_17 : decode cX6_isCell 17 = .ok (.iload_n 3, 1) := by decide +kernel
theorem dX6_isCell_18 : decode cX6_isCell 18 = .ok (.invokevirtual 57, 3) := by decide +kernel
theorem dX6_isCell_21 : decode cX6_isCell 21 = .ok (.ifCond .eq 7, 3) := by decide +kernel
theorem dX6_isCell_24 : decode cX6_isCell 24 = .ok (.iconst 1, 1) := by decide +kernel
theorem dX6_isCell_25 : decode cX6_isCell 25 = .ok (.goto 4, 3) := by decide +kernel
theorem dX6_isCell_28 : decode cX6_isCell 28 = .ok (.iconst 0, 1) := by decide +kernel
theorem dX6_isCell_29 : decode cX6_isCell 29 = .ok (.ireturn, 1) := by decide +kernel
theorem dX7_numbersOf_0 : decode cX7_numbersOf 0 = .ok (.iload_n 0, 1) := by decide +kernel
theorem dX7_numbersOf_1 : decode cX7_numbersOf 1 = .ok (.ifCond .lt 19, 3) := by decide +kernel
theorem dX7_numbersOf_4 : decode cX7_numbersOf 4 = .ok (.iload_n 0, 1) := by decide +kernel
theorem dX7_numbersOf_5 : decode cX7_numbersOf 5 = .ok (.getstatic 22, 3) := by decide +kernel
theorem dX7_numbersOf_8 : decode cX7_numbersOf 8 = .ok (.arraylength, 1) := by decide +kernel
theorem dX7_numbersOf_9 : decode cX7_numbersOf 9 = .ok (.if_icmp .ge 11, 3) := by decide +kernel
theorem dX7_numbersOf_12 : decode cX7_numbersOf 12 = .ok (.getstatic 22, 3) := by decide +kernel
theorem dX7_numbersOf_15 : decode cX7_numbersOf 15 = .ok (.iload_n 0, 1) := by decide +kernel
theorem dX7_numbersOf_16 : decode cX7_numbersOf 16 = .ok (.iaload, 1) := by decide +kernel
theorem dX7_numbersOf_17 : decode cX7_numbersOf 17 = .ok (.goto 4, 3) := by decide +kernel
theorem dX7_numbersOf_20 : decode cX7_numbersOf 20 = .ok (.iconst 0, 1) := by decide +kernel
theorem dX7_numbersOf_21 : decode cX7_numbersOf 21 = .ok (.ireturn, 1) := by decide +kernel
theorem dX7_size_0 : decode cX7_size 0 = .ok (.aload_n 0, 1) := by decide +kernel
theorem dX7_size_1 : decode cX7_size 1 = .ok (.getfield 18, 3) := by decide +kernel
theorem dX7_size_4 : decode cX7_size 4 = .ok (.ireturn, 1) := by decide +kernel
theorem dX7_clear_0 : decode cX7_clear 0 = .ok (.aload_n 0, 1) := by decide +kernel
theorem dX7_clear_1 : decode cX7_clear 1 = .ok (.iconst 0, 1) := by decide +kernel
theorem dX7_clear_2 : decode cX7_clear 2 = .ok (.putfield 18, 3) := by decide +kernel
theorem dX7_clear_5 : decode cX7_clear 5 = .ok (.return_, 1) := by decide +kernel
theorem dX7_add_0 : decode cX7_add 0 = .ok (.aload_n 0, 1) := by decide +kernel
theorem dX7_add_1 : decode cX7_add 1 = .ok (.getfield 18, 3) := by decide +kernel
theorem dX7_add_4 : decode cX7_add 4 = .ok (.ifCond .lt 32, 3) := by decide +kernel
theorem dX7_add_7 : decode cX7_add 7 = .ok (.aload_n 0, 1) := by decide +kernel
theorem dX7_add_8 : decode cX7_add 8 = .ok (.getfield 18, 3) := by decide +kernel
theorem dX7_add_11 : decode cX7_add 11 = .ok (.bipush 16, 2) := by decide +kernel
theorem dX7_add_13 : decode cX7_add 13 = .ok (.if_icmp .ge 23, 3) := by decide +kernel
theorem dX7_add_16 : decode cX7_add 16 = .ok (.aload_n 0, 1) := by decide +kernel
theorem dX7_add_17 : decode cX7_add 17 = .ok (.getfield 11, 3) := by decide +kernel
theorem dX7_add_20 : decode cX7_add 20 = .ok (.aload_n 0, 1) := by decide +kernel
theorem dX7_add_21 : decode cX7_add 21 = .ok (.getfield 18, 3) := by decide +kernel
theorem dX7_add_24 : decode cX7_add 24 = .ok (.iload_n 1, 1) := by decide +kernel
theorem dX7_add_25 : decode cX7_add 25 = .ok (.iastore, 1) := by decide +kernel
theorem dX7_add_26 : decode cX7_add 26 = .ok (.aload_n 0, 1) := by decide +kernel
theorem dX7_add_27 : decode cX7_add 27 = .ok (.dup, 1) := by decide +kernel
theorem dX7_add_28 : decode cX7_add 28 = .ok (.getfield 18, 3) := by decide +kernel
theorem dX7_add_31 : decode cX7_add 31 = .ok (.iconst 1, 1) := by decide +kernel
theorem dX7_add_32 : decode cX7_add 32 = .ok (.iadd, 1) := by decide +kernel
theorem dX7_add_33 : decode cX7_add 33 = .ok (.putfield 18, 3) := by decide +kernel
theorem dX7_add_36 : decode cX7_add 36 = .ok (.return_, 1) := by decide +kernel
theorem dX7_isStep_0 : decode cX7_isStep 0 = .ok (.iload_n 1, 1) := by decide +kernel
theorem dX7_isStep_1 : decode cX7_isStep 1 = .ok (.ifCond .lt 21, 3) := by decide +kernel
theorem dX7_isStep_4 : decode cX7_isStep 4 = .ok (.iload_n 1, 1) := by decide +kernel
theorem dX7_isStep_5 : decode cX7_isStep 5 = .ok (.aload_n 0, 1) := by decide +kernel
theorem dX7_isStep_6 : decode cX7_isStep 6 = .ok (.getfield 18, 3) := by decide +kernel
theorem dX7_isStep_9 : decode cX7_isStep 9 = .ok (.if_icmp .ge 13, 3) := by decide +kernel
theorem dX7_isStep_12 : decode cX7_isStep 12 = .ok (.iload_n 1, 1) := by decide +kernel
theorem dX7_isStep_13 : decode cX7_isStep 13 = .ok (.bipush 16, 2) := by decide +kernel
theorem dX7_isStep_15 : decode cX7_isStep 15 = .ok (.if_icmp .ge 7, 3) := by decide +kernel
theorem dX7_isStep_18 : decode cX7_isStep 18 = .ok (.iconst 1, 1) := by decide +kernel
theorem dX7_isStep_19 : decode cX7_isStep 19 = .ok (.goto 4, 3) := by decide +kernel
theorem dX7_isStep_22 : decode cX7_isStep 22 = .ok (.iconst 0, 1) := by decide +kernel
theorem dX7_isStep_23 : decode cX7_isStep 23 = .ok (.ireturn, 1) := by decide +kernel
theorem dX7_put_0 : decode cX7_put 0 = .ok (.aload_n 0, 1) := by decide +kernel
theorem dX7_put_1 : decode cX7_put 1 = .ok (.iload_n 1, 1) := by decide +kernel
theorem dX7_put_2 : decode cX7_put 2 = .ok (.invokevirtual 25, 3) := by decide +kernel
theorem dX7_put_5 : decode cX7_put 5 = .ok (.ifCond .eq 23, 3) := by decide +kernel
theorem dX7_put_8 : decode cX7_put 8 = .ok (.iload_n 2, 1) := by decide +kernel
theorem dX7_put_9 : decode cX7_put 9 = .ok (.ifCond .lt 19, 3) := by decide +kernel
theorem dX7_put_12 : decode cX7_put 12 = .ok (.iload_n 2, 1) := by decide +kernel
theorem dX7_put_13 : decode cX7_put 13 = .ok (.iconst 4, 1) := by decide +kernel
theorem dX7_put_14 : decode cX7_put 14 = .ok (.if_icmp .ge 14, 3) := by decide +kernel
theorem dX7_put_17 : decode cX7_put 17 = .ok (.aload_n 0, 1) := by decide +kernel
theorem dX7_put_18 : decode cX7_put 18 = .ok (.getfield 15, 3) := by decide +kernel
theorem dX7_put_21 : decode cX7_put 21 = .ok (.iconst 4, 1) := by decide +kernel
theorem dX7_put_22 : decode cX7_put 22 = .ok (.iload_n 1, 1) := by decide +kernel
theorem dX7_put_23 : decode cX7_put 23 = .ok (.imul, 1) := by decide +kernel
theorem dX7_put_24 : decode cX7_put 24 = .ok (.iload_n 2, 1) := by decide +kernel
theorem dX7_put_25 : decode cX7_put 25 = .ok (.iadd, 1) := by decide +kernel
theorem dX7_put_26 : decode cX7_put 26 = .ok (.iload_n 3, 1) := by decide +kernel
theorem dX7_put_27 : decode cX7_put 27 = .ok (.iastore, 1) := by decide +kernel
theorem dX7_put_28 : decode cX7_put 28 = .ok (.return_, 1) := by decide +kernel
theorem dX7_sort_0 : decode cX7_sort 0 = .ok (.aload_n 0, 1) := by decide +kernel
theorem dX7_sort_1 : decode cX7_sort 1 = .ok (.iload_n 1, 1) := by decide +kernel
theorem dX7_sort_2 : decode cX7_sort 2 = .ok (.invokevirtual 25, 3) := by decide +kernel
theorem dX7_sort_5 : decode cX7_sort 5 = .ok (.ifCond .eq 12, 3) := by decide +kernel
theorem dX7_sort_8 : decode cX7_sort 8 = .ok (.aload_n 0, 1) := by decide +kernel
theorem dX7_sort_9 : decode cX7_sort 9 = .ok (.getfield 11, 3) := by decide +kernel
theorem dX7_sort_12 : decode cX7_sort 12 = .ok (.iload_n 1, 1) := by decide +kernel
theorem dX7_sort_13 : decode cX7_sort 13 = .ok (.iaload, 1) := by decide +kernel
theorem dX7_sort_14 : decode cX7_sort 14 = .ok (.goto 4, 3) := by decide +kernel
theorem dX7_sort_17 : decode cX7_sort 17 = .ok (.iconst (-1), 1) := by decide +kernel
theorem dX7_sort_18 : decode cX7_sort 18 = .ok (.ireturn, 1) := by decide +kernel
theorem dX7_number_0 : decode cX7_number 0 = .ok (.aload_n 0, 1) := by decide +kernel
theorem dX7_number_1 : decode cX7_number 1 = .ok (.iload_n 1, 1) := by decide +kernel
theorem dX7_number_2 : decode cX7_number 2 = .ok (.invokevirtual 25, 3) := by decide +kernel
theorem dX7_number_5 : decode cX7_number 5 = .ok (.ifCond .eq 25, 3) := by decide +kernel
theorem dX7_number_8 : decode cX7_number 8 = .ok (.iload_n 2, 1) := by decide +kernel
theorem dX7_number_9 : decode cX7_number 9 = .ok (.ifCond .lt 21, 3) := by decide +kernel
theorem dX7_number_12 : decode cX7_number 12 = .ok (.iload_n 2, 1) := by decide +kernel
theorem dX7_number_13 : decode cX7_number 13 = .ok (.iconst 4, 1) := by decide +kernel
theorem dX7_number_14 : decode cX7_number 14 = .ok (.if_icmp .ge 16, 3) := by decide +kernel
theorem dX7_number_17 : decode cX7_number 17 = .ok (.aload_n 0, 1) := by decide +kernel
theorem dX7_number_18 : decode cX7_number 18 = .ok (.getfield 15, 3) := by decide +kernel
theorem dX7_number_21 : decode cX7_number 21 = .ok (.iconst 4, 1) := by decide +kernel
theorem dX7_number_22 : decode cX7_number 22 = .ok (.iload_n 1, 1) := by decide +kernel
theorem dX7_number_23 : decode cX7_number 23 = .ok (.imul, 1) := by decide +kernel
theorem dX7_number_24 : decode cX7_number 24 = .ok (.iload_n 2, 1) := by decide +kernel
theorem dX7_number_25 : decode cX7_number 25 = .ok (.iadd, 1) := by decide +kernel
theorem dX7_number_26 : decode cX7_number 26 = .ok (.iaload, 1) := by decide +kernel
theorem dX7_number_27 : decode cX7_number 27 = .ok (.goto 4, 3) := by decide +kernel
theorem dX7_number_30 : decode cX7_number 30 = .ok (.iconst 0, 1) := by decide +kernel
theorem dX7_number_31 : decode cX7_number 31 = .ok (.ireturn, 1) := by decide +kernel
theorem dX7_tell_0 : decode cX7_tell 0 = .ok (.aload_n 0, 1) := by decide +kernel
theorem dX7_tell_1 : decode cX7_tell 1 = .ok (.iload_n 1, 1) := by decide +kernel
theorem dX7_tell_2 : decode cX7_tell 2 = .ok (.invokevirtual 25, 3) := by decide +kernel
theorem dX7_tell_5 : decode cX7_tell 5 = .ok (.ifCond .eq 12, 3) := by decide +kernel
theorem dX7_tell_8 : decode cX7_tell 8 = .ok (.iload_n 2, 1) := by decide +kernel
theorem dX7_tell_9 : decode cX7_tell 9 = .ok (.ifCond .lt 8, 3) := by decide +kernel
theorem dX7_tell_12 : decode cX7_tell 12 = .ok (.iload_n 2, 1) := by decide +kernel
theorem dX7_tell_13 : decode cX7_tell 13 = .ok (.iconst 4, 1) := by decide +kernel
theorem dX7_tell_14 : decode cX7_tell 14 = .ok (.if_icmp .le 6, 3) := by decide +kernel
theorem dX7_tell_17 : decode cX7_tell 17 = .ok (.ldc 29, 2) := by decide +kernel
theorem dX7_tell_19 : decode cX7_tell 19 = .ok (.ireturn, 1) := by decide +kernel
theorem dX7_tell_20 : decode cX7_tell 20 = .ok (.iload_n 2, 1) := by decide +kernel
theorem dX7_tell_21 : decode cX7_tell 21 = .ok (.ifCond .ne 10, 3) := by decide +kernel
theorem dX7_tell_24 : decode cX7_tell 24 = .ok (.aload_n 0, 1) := by decide +kernel
theorem dX7_tell_25 : decode cX7_tell 25 = .ok (.getfield 11, 3) := by decide +kernel
theorem dX7_tell_28 : decode cX7_tell 28 = .ok (.iload_n 1, 1) := by decide +kernel
theorem dX7_tell_29 : decode cX7_tell 29 = .ok (.iaload, 1) := by decide +kernel
theorem dX7_tell_30 : decode cX7_tell 30 = .ok (.ireturn, 1) := by decide +kernel
theorem dX7_tell_31 : decode cX7_tell 31 = .ok (.iload_n 2, 1) := by decide +kernel
theorem dX7_tell_32 : decode cX7_tell 32 = .ok (.aload_n 0, 1) := by decide +kernel
theorem dX7_tell_33 : decode cX7_tell 33 = .ok (.getfield 11, 3) := by decide +kernel
theorem dX7_tell_36 : decode cX7_tell 36 = .ok (.iload_n 1, 1) := by decide +kernel
theorem dX7_tell_37 : decode cX7_tell 37 = .ok (.iaload, 1) := by decide +kernel
theorem dX7_tell_38 : decode cX7_tell 38 = .ok (.invokestatic 30, 3) := by decide +kernel
theorem dX7_tell_41 : decode cX7_tell 41 = .ok (.if_icmp .gt 18, 3) := by decide +kernel
theorem dX7_tell_44 : decode cX7_tell 44 = .ok (.aload_n 0, 1) := by decide +kernel
theorem dX7_tell_45 : decode cX7_tell 45 = .ok (.getfield 15, 3) := by decide +kernel
theorem dX7_tell_48 : decode cX7_tell 48 = .ok (.iconst 4, 1) := by decide +kernel
theorem dX7_tell_49 : decode cX7_tell 49 = .ok (.iload_n 1, 1) := by decide +kernel
theorem dX7_tell_50 : decode cX7_tell 50 = .ok (.imul, 1) := by decide +kernel
theorem dX7_tell_51 : decode cX7_tell 51 = .ok (.iload_n 2, 1) := by decide +kernel
theorem dX7_tell_52 : decode cX7_tell 52 = .ok (.iadd, 1) := by decide +kernel
theorem dX7_tell_53 : decode cX7_tell 53 = .ok (.iconst 1, 1) := by decide +kernel
theorem dX7_tell_54 : decode cX7_tell 54 = .ok (.isub, 1) := by decide +kernel
theorem dX7_tell_55 : decode cX7_tell 55 = .ok (.iaload, 1) := by decide +kernel
theorem dX7_tell_56 : decode cX7_tell 56 = .ok (.goto 4, 3) := by decide +kernel
theorem dX7_tell_59 : decode cX7_tell 59 = .ok (.iconst (-1), 1) := by decide +kernel
theorem dX7_tell_60 : decode cX7_tell 60 = .ok (.ireturn, 1) := by decide +kernel
theorem dX7_copy_0 : decode cX7_copy 0 = .ok (.aload_n 1, 1) := by decide +kernel
theorem dX7_copy_1 : decode cX7_copy 1 = .ok (.getfield 11, 3) := by decide +kernel
theorem dX7_copy_4 : decode cX7_copy 4 = .ok (.iconst 0, 1) := by decide +kernel
theorem dX7_copy_5 : decode cX7_copy 5 = .ok (.aload_n 0, 1) := by decide +kernel
theorem dX7_copy_6 : decode cX7_copy 6 = .ok (.getfield 11, 3) := by decide +kernel
theorem dX7_copy_9 : decode cX7_copy 9 = .ok (.iconst 0, 1) := by decide +kernel
theorem dX7_copy_10 : decode cX7_copy 10 = .ok (.bipush 16, 2) := by decide +kernel
theorem dX7_copy_12 : decode cX7_copy 12 = .ok (.invokestatic 34, 3) := by decide +kernel
theorem dX7_copy_15 : decode cX7_copy 15 = .ok (.aload_n 1, 1) := by decide +kernel
theorem dX7_copy_16 : decode cX7_copy 16 = .ok (.getfield 15, 3) := by decide +kernel
theorem dX7_copy_19 : decode cX7_copy 19 = .ok (.iconst 0, 1) := by decide +kernel
theorem dX7_copy_20 : decode cX7_copy 20 = .ok (.aload_n 0, 1) := by decide +kernel
theorem dX7_copy_21 : decode cX7_copy 21 = .ok (.getfield 15, 3) := by decide +kernel
theorem dX7_copy_24 : decode cX7_copy 24 = .ok (.iconst 0, 1) := by decide +kernel
theorem dX7_copy_25 : decode cX7_copy 25 = .ok (.bipush 64, 2) := by decide +kernel
theorem dX7_copy_27 : decode cX7_copy 27 = .ok (.invokestatic 34, 3) := by decide +kernel
theorem dX7_copy_30 : decode cX7_copy 30 = .ok (.aload_n 0, 1) := by decide +kernel
theorem dX7_copy_31 : decode cX7_copy 31 = .ok (.aload_n 1, 1) := by decide +kernel
theorem dX7_copy_32 : decode cX7_copy 32 = .ok (.getfield 18, 3) := by decide +kernel
theorem dX7_copy_35 : decode cX7_copy 35 = .ok (.putfield 18, 3) := by decide +kernel
theorem dX7_copy_38 : decode cX7_copy 38 = .ok (.return_, 1) := by decide +kernel
theorem dX9_add_0 : decode cX9_add 0 = .ok (.iload_n 1, 1) := by decide +kernel
theorem dX9_add_1 : decode cX9_add 1 = .ok (.ifCond .lt 20, 3) := by decide +kernel
theorem dX9_add_4 : decode cX9_add 4 = .ok (.iload_n 1, 1) := by decide +kernel
theorem dX9_add_5 : decode cX9_add 5 = .ok (.sipush 144, 3) := by decide +kernel
theorem dX9_add_8 : decode cX9_add 8 = .ok (.if_icmp .ge 13, 3) := by decide +kernel
theorem dX9_add_11 : decode cX9_add 11 = .ok (.aload_n 0, 1) := by decide +kernel
theorem dX9_add_12 : decode cX9_add 12 = .ok (.getfield 11, 3) := by decide +kernel
theorem dX9_add_15 : decode cX9_add 15 = .ok (.iload_n 1, 1) := by decide +kernel
theorem dX9_add_16 : decode cX9_add 16 = .ok (.dup2, 1) := by decide +kernel
theorem dX9_add_17 : decode cX9_add 17 = .ok (.iaload, 1) := by decide +kernel
theorem dX9_add_18 : decode cX9_add 18 = .ok (.iload_n 2, 1) := by decide +kernel
theorem dX9_add_19 : decode cX9_add 19 = .ok (.iadd, 1) := by decide +kernel
theorem dX9_add_20 : decode cX9_add 20 = .ok (.iastore, 1) := by decide +kernel
theorem dX9_add_21 : decode cX9_add 21 = .ok (.return_, 1) := by decide +kernel
theorem dX8_countReads_0 : decode cX8_countReads 0 = .ok (.iconst 0, 1) := by decide +kernel
theorem dX8_countReads_1 : decode cX8_countReads 1 = .ok (.istore_n 3, 1) := by decide +kernel
theorem dX8_countReads_2 : decode cX8_countReads 2 = .ok (.iload_n 3, 1) := by decide +kernel
theorem dX8_countReads_3 : decode cX8_countReads 3 = .ok (.aload_n 0, 1) := by decide +kernel
theorem dX8_countReads_4 : decode cX8_countReads 4 = .ok (.getfield 18, 3) := by decide +kernel
theorem dX8_countReads_7 : decode cX8_countReads 7 = .ok (.getfield 35, 3) := by decide +kernel
theorem dX8_countReads_10 : decode cX8_countReads 10 = .ok (.if_icmp .ge 37, 3) := by decide +kernel
theorem dX8_countReads_13 : decode cX8_countReads 13 = .ok (.iload_n 2, 1) := by decide +kernel
theorem dX8_countReads_14 : decode cX8_countReads 14 = .ok (.iload_n 3, 1) := by decide +kernel
theorem dX8_countReads_15 : decode cX8_countReads 15 = .ok (.ishr, 1) := by decide +kernel
theorem dX8_countReads_16 : decode cX8_countReads 16 = .ok (.iconst 1, 1) := by decide +kernel
theorem dX8_countReads_17 : decode cX8_countReads 17 = .ok (.iand, 1) := by decide +kernel
theorem dX8_countReads_18 : decode cX8_countReads 18 = .ok (.ifCond .eq 23, 3) := by decide +kernel
theorem dX8_countReads_21 : decode cX8_countReads 21 = .ok (.aload_n 0, 1) := by decide +kernel
theorem dX8_countReads_22 : decode cX8_countReads 22 = .ok (.getfield 12, 3) := by decide +kernel
theorem dX8_countReads_25 : decode cX8_countReads 25 = .ok (.bipush 112, 2) := by decide +kernel
theorem dX8_countReads_27 : decode cX8_countReads 27 = .ok (.aload_n 0, 1) := by decide +kernel
theorem dX8_countReads_28 : decode cX8_countReads 28 = .ok (.getfield 18, 3) := by decide +kernel
theorem dX8_countReads_31 : decode cX8_countReads 31 = .ok (.iload_n 3, 1) := by decide +kernel
theorem dX8_countReads_32 : decode cX8_countReads 32 = .ok (.iload_n 1, 1) := by decide +kernel
theorem dX8_countReads_33 : decode cX8_countReads 33 = .ok (.invokevirtual 41, 3) := by decide +kernel
theorem dX8_countReads_36 : decode cX8_countReads 36 = .ok (.iadd, 1) := by decide +kernel
theorem dX8_countReads_37 : decode cX8_countReads 37 = .ok (.iconst 1, 1) := by decide +kernel
theorem dX8_countReads_38 : decode cX8_countReads 38 = .ok (.invokevirtual 97, 3) := by decide +kernel
theorem dX8_countReads_41 : decode cX8_countReads 41 = .ok (.iinc 3 1, 3) := by decide +kernel
theorem dX8_countReads_44 : decode cX8_countReads 44 = .ok (.goto (-42), 3) := by decide +kernel
theorem dX8_countReads_47 : decode cX8_countReads 47 = .ok (.return_, 1) := by decide +kernel
theorem dX9_putByte_0 : decode cX9_putByte 0 = .ok (.iload_n 1, 1) := by decide +kernel
theorem dX9_putByte_1 : decode cX9_putByte 1 = .ok (.bipush 12, 2) := by decide +kernel
theorem dX9_putByte_3 : decode cX9_putByte 3 = .ok (.imul, 1) := by decide +kernel
theorem dX9_putByte_4 : decode cX9_putByte 4 = .ok (.iload_n 2, 1) := by decide +kernel
theorem dX9_putByte_5 : decode cX9_putByte 5 = .ok (.iadd, 1) := by decide +kernel
theorem dX9_putByte_6 : decode cX9_putByte 6 = .ok (.istore 5, 2) := by decide +kernel
theorem dX9_putByte_8 : decode cX9_putByte 8 = .ok (.iload 5, 2) := by decide +kernel
theorem dX9_putByte_10 : decode cX9_putByte 10 = .ok (.ifCond .lt 56, 3) := by decide +kernel
theorem dX9_putByte_13 : decode cX9_putByte 13 = .ok (.iload 5, 2) := by decide +kernel
theorem dX9_putByte_15 : decode cX9_putByte 15 = .ok (.bipush 96, 2) := by decide +kernel
theorem dX9_putByte_17 : decode cX9_putByte 17 = .ok (.if_icmp .ge 49, 3) := by decide +kernel
theorem dX9_putByte_20 : decode cX9_putByte 20 = .ok (.iload_n 3, 1) := by decide +kernel
theorem dX9_putByte_21 : decode cX9_putByte 21 = .ok (.ifCond .lt 45, 3) := by decide +kernel
theorem dX9_putByte_24 : decode cX9_putByte 24 = .ok (.iload_n 3, 1) := by decide +kernel
theorem dX9_putByte_25 : decode cX9_putByte 25 = .ok (.iconst 4, 1) := by decide +kernel
theorem dX9_putByte_26 : decode cX9_putByte 26 = .ok (.if_icmp .ge 40, 3) := by decide +kernel
theorem dX9_putByte_29 : decode cX9_putByte 29 = .ok (.aload_n 0, 1) := by decide +kernel
theorem dX9_putByte_30 : decode cX9_putByte 30 = .ok (.getfield 11, 3) := by decide +kernel
theorem dX9_putByte_33 : decode cX9_putByte 33 = .ok (.iload 5, 2) := by decide +kernel
theorem dX9_putByte_35 : decode cX9_putByte 35 = .ok (.aload_n 0, 1) := by decide +kernel
theorem dX9_putByte_36 : decode cX9_putByte 36 = .ok (.getfield 11, 3) := by decide +kernel
theorem dX9_putByte_39 : decode cX9_putByte 39 = .ok (.iload 5, 2) := by decide +kernel
theorem dX9_putByte_41 : decode cX9_putByte 41 = .ok (.iaload, 1) := by decide +kernel
theorem dX9_putByte_42 : decode cX9_putByte 42 = .ok (.sipush 255, 3) := by decide +kernel
theorem dX9_putByte_45 : decode cX9_putByte 45 = .ok (.bipush 8, 2) := by decide +kernel
theorem dX9_putByte_47 : decode cX9_putByte 47 = .ok (.iload_n 3, 1) := by decide +kernel
theorem dX9_putByte_48 : decode cX9_putByte 48 = .ok (.imul, 1) := by decide +kernel
theorem dX9_putByte_49 : decode cX9_putByte 49 = .ok (.ishl, 1) := by decide +kernel
theorem dX9_putByte_50 : decode cX9_putByte 50 = .ok (.iconst (-1), 1) := by decide +kernel
theorem dX9_putByte_51 : decode cX9_putByte 51 = .ok (.ixor, 1) := by decide +kernel
theorem dX9_putByte_52 : decode cX9_putByte 52 = .ok (.iand, 1) := by decide +kernel
theorem dX9_putByte_53 : decode cX9_putByte 53 = .ok (.iload 4, 2) := by decide +kernel
theorem dX9_putByte_55 : decode cX9_putByte 55 = .ok (.sipush 255, 3) := by decide +kernel
theorem dX9_putByte_58 : decode cX9_putByte 58 = .ok (.iand, 1) := by decide +kernel
theorem dX9_putByte_59 : decode cX9_putByte 59 = .ok (.bipush 8, 2) := by decide +kernel
theorem dX9_putByte_61 : decode cX9_putByte 61 = .ok (.iload_n 3, 1) := by decide +kernel
theorem dX9_putByte_62 : decode cX9_putByte 62 = .ok (.imul, 1) := by decide +kernel
theorem dX9_putByte_63 : decode cX9_putByte 63 = .ok (.ishl, 1) := by decide +kernel
theorem dX9_putByte_64 : decode cX9_putByte 64 = .ok (.ior, 1) := by decide +kernel
theorem dX9_putByte_65 : decode cX9_putByte 65 = .ok (.iastore, 1) := by decide +kernel
theorem dX9_putByte_66 : decode cX9_putByte 66 = .ok (.return_, 1) := by decide +kernel
theorem dX8_store_0 : decode cX8_store 0 = .ok (.iconst 0, 1) := by decide +kernel
theorem dX8_store_1 : decode cX8_store 1 = .ok (.istore 4, 2) := by decide +kernel
theorem dX8_store_3 : decode cX8_store 3 = .ok (.iload 4, 2) := by decide +kernel
theorem dX8_store_5 : decode cX8_store 5 = .ok (.aload_n 0, 1) := by decide +kernel
theorem dX8_store_6 : decode cX8_store 6 = .ok (.getfield 18, 3) := by decide +kernel
theorem dX8_store_9 : decode cX8_store 9 = .ok (.getfield 35, 3) := by decide +kernel
theorem dX8_store_12 : decode cX8_store 12 = .ok (.if_icmp .ge 63, 3) := by decide +kernel
theorem dX8_store_15 : decode cX8_store 15 = .ok (.iload_n 3, 1) := by decide +kernel
theorem dX8_store_16 : decode cX8_store 16 = .ok (.iload 4, 2) := by decide +kernel
theorem dX8_store_18 : decode cX8_store 18 = .ok (.ishr, 1) := by decide +kernel
theorem dX8_store_19 : decode cX8_store 19 = .ok (.iconst 1, 1) := by decide +kernel
theorem dX8_store_20 : decode cX8_store 20 = .ok (.iand, 1) := by decide +kernel
theorem dX8_store_21 : decode cX8_store 21 = .ok (.ifCond .eq 48, 3) := by decide +kernel
theorem dX8_store_24 : decode cX8_store 24 = .ok (.aload_n 0, 1) := by decide +kernel
theorem dX8_store_25 : decode cX8_store 25 = .ok (.getfield 18, 3) := by decide +kernel
theorem dX8_store_28 : decode cX8_store 28 = .ok (.iload 4, 2) := by decide +kernel
theorem dX8_store_30 : decode cX8_store 30 = .ok (.iload_n 1, 1) := by decide +kernel
theorem dX8_store_31 : decode cX8_store 31 = .ok (.invokevirtual 41, 3) := by decide +kernel
theorem dX8_store_34 : decode cX8_store 34 = .ok (.istore 5, 2) := by decide +kernel
theorem dX8_store_36 : decode cX8_store 36 = .ok (.aload_n 0, 1) := by decide +kernel
theorem dX8_store_37 : decode cX8_store 37 = .ok (.getfield 12, 3) := by decide +kernel
theorem dX8_store_40 : decode cX8_store 40 = .ok (.iload 5, 2) := by decide +kernel
theorem dX8_store_42 : decode cX8_store 42 = .ok (.iload_n 1, 1) := by decide +kernel
theorem dX8_store_43 : decode cX8_store 43 = .ok (.iload_n 2, 1) := by decide +kernel
theorem dX8_store_44 : decode cX8_store 44 = .ok (.aload_n 0, 1) := by decide +kernel
theorem dX8_store_45 : decode cX8_store 45 = .ok (.getfield 27, 3) := by decide +kernel
theorem dX8_store_48 : decode cX8_store 48 = .ok (.iload 4, 2) := by decide +kernel
theorem dX8_store_50 : decode cX8_store 50 = .ok (.invokevirtual 77, 3) := by decide +kernel
theorem dX8_store_53 : decode cX8_store 53 = .ok (.invokevirtual 101, 3) := by decide +kernel
theorem dX8_store_56 : decode cX8_store 56 = .ok (.aload_n 0, 1) := by decide +kernel
theorem dX8_store_57 : decode cX8_store 57 = .ok (.getfield 12, 3) := by decide +kernel
theorem dX8_store_60 : decode cX8_store 60 = .ok (.bipush 120, 2) := by decide +kernel
theorem dX8_store_62 : decode cX8_store 62 = .ok (.iload 5, 2) := by decide +kernel
theorem dX8_store_64 : decode cX8_store 64 = .ok (.iadd, 1) := by decide +kernel
theorem dX8_store_65 : decode cX8_store 65 = .ok (.iconst 1, 1) := by decide +kernel
theorem dX8_store_66 : decode cX8_store 66 = .ok (.invokevirtual 97, 3) := by decide +kernel
theorem dX8_store_69 : decode cX8_store 69 = .ok (.iinc 4 1, 3) := by decide +kernel
theorem dX8_store_72 : decode cX8_store 72 = .ok (.goto (-69), 3) := by decide +kernel
theorem dX8_store_75 : decode cX8_store 75 = .ok (.return_, 1) := by decide +kernel
theorem dX11_isByte_0 : decode cX11_isByte 0 = .ok (.iload_n 0, 1) := by decide +kernel
theorem dX11_isByte_1 : decode cX11_isByte 1 = .ok (.ifCond .lt 14, 3) := by decide +kernel
theorem dX11_isByte_4 : decode cX11_isByte 4 = .ok (.iload_n 0, 1) := by decide +kernel
theorem dX11_isByte_5 : decode cX11_isByte 5 = .ok (.sipush 255, 3) := by decide +kernel
theorem dX11_isByte_8 : decode cX11_isByte 8 = .ok (.if_icmp .gt 7, 3) := by decide +kernel
theorem dX11_isByte_11 : decode cX11_isByte 11 = .ok (.iconst 1, 1) := by decide +kernel
theorem dX11_isByte_12 : decode cX11_isByte 12 = .ok (.goto 4, 3) := by decide +kernel
theorem dX11_isByte_15 : decode cX11_isByte 15 = .ok (.iconst 0, 1) := by decide +kernel
theorem dX11_isByte_16 : decode cX11_isByte 16 = .ok (.ireturn, 1) := by decide +kernel
theorem dX8_refusalOfWrite_0 : decode cX8_refusalOfWrite 0 = .ok (.aload_n 0, 1) := by decide +kernel
theorem dX8_refusalOfWrite_1 : decode cX8_refusalOfWrite 1 = .ok (.getfield 18, 3) := by decide +kernel
theorem dX8_refusalOfWrite_4 : decode cX8_refusalOfWrite 4 = .ok (.iload_n 1, 1) := by decide +kernel
theorem dX8_refusalOfWrite_5 : decode cX8_refusalOfWrite 5 = .ok (.invokevirtual 133, 3) := by decide +kernel
theorem dX8_refusalOfWrite_8 : decode cX8_refusalOfWrite 8 = .ok (.ifCond .ne 5, 3) := by decide +kernel
theorem dX8_refusalOfWrite_11 : decode cX8_refusalOfWrite 11 = .ok (.iconst 0, 1) := by decide +kernel
theorem dX8_refusalOfWrite_12 : decode cX8_refusalOfWrite 12 = .ok (.ireturn, 1) := by decide +kernel
theorem dX8_refusalOfWrite_13 : decode cX8_refusalOfWrite 13 = .ok (.iload_n 2, 1) := by decide +kernel
theorem dX8_refusalOfWrite_14 : decode cX8_refusalOfWrite 14 = .ok (.invokestatic 137, 3) := by decide +kernel
theorem dX8_refusalOfWrite_17 : decode cX8_refusalOfWrite 17 = .ok (.ifCond .eq 7, 3) := by decide +kernel
theorem dX8_refusalOfWrite_20 : decode cX8_refusalOfWrite 20 = .ok (.iconst (-1), 1) := by decide +kernel
theorem dX8_refusalOfWrite_21 : decode cX8_refusalOfWrite 21 = .ok (.goto 4, 3) := by decide +kernel
theorem dX8_refusalOfWrite_24 : decode cX8_refusalOfWrite 24 = .ok (.iconst 1, 1) := by decide +kernel
theorem dX8_refusalOfWrite_25 : decode cX8_refusalOfWrite 25 = .ok (.ireturn, 1) := by decide +kernel
theorem dX8_refusalOfLoss_0 : decode cX8_refusalOfLoss 0 = .ok (.aload_n 0, 1) := by decide +kernel
theorem dX8_refusalOfLoss_1 : decode cX8_refusalOfLoss 1 = .ok (.getfield 18, 3) := by decide +kernel
theorem dX8_refusalOfLoss_4 : decode cX8_refusalOfLoss 4 = .ok (.iload_n 1, 1) := by decide +kernel
theorem dX8_refusalOfLoss_5 : decode cX8_refusalOfLoss 5 = .ok (.invokevirtual 140, 3) := by decide +kernel
theorem dX8_refusalOfLoss_8 : decode cX8_refusalOfLoss 8 = .ok (.ifCond .ne 5, 3) := by decide +kernel
theorem dX8_refusalOfLoss_11 : decode cX8_refusalOfLoss 11 = .ok (.iconst 0, 1) := by decide +kernel
theorem dX8_refusalOfLoss_12 : decode cX8_refusalOfLoss 12 = .ok (.ireturn, 1) := by decide +kernel
theorem dX8_refusalOfLoss_13 : decode cX8_refusalOfLoss 13 = .ok (.aload_n 0, 1) := by decide +kernel
theorem dX8_refusalOfLoss_14 : decode cX8_refusalOfLoss 14 = .ok (.iload_n 1, 1) := by decide +kernel
theorem dX8_refusalOfLoss_15 : decode cX8_refusalOfLoss 15 = .ok (.iconst 1, 1) := by decide +kernel
theorem dX8_refusalOfLoss_16 : decode cX8_refusalOfLoss 16 = .ok (.invokevirtual 49, 3) := by decide +kernel
theorem dX8_refusalOfLoss_19 : decode cX8_refusalOfLoss 19 = .ok (.ifCond .eq 5, 3) := by decide +kernel
theorem dX8_refusalOfLoss_22 : decode cX8_refusalOfLoss 22 = .ok (.iconst 2, 1) := by decide +kernel
theorem dX8_refusalOfLoss_23 : decode cX8_refusalOfLoss 23 = .ok (.ireturn, 1) := by decide +kernel
theorem dX8_refusalOfLoss_24 : decode cX8_refusalOfLoss 24 = .ok (.aload_n 0, 1) := by decide +kernel
theorem dX8_refusalOfLoss_25 : decode cX8_refusalOfLoss 25 = .ok (.iload_n 1, 1) := by decide +kernel
theorem dX8_refusalOfLoss_26 : decode cX8_refusalOfLoss 26 = .ok (.invokevirtual 143, 3) := by decide +kernel
theorem dX8_refusalOfLoss_29 : decode cX8_refusalOfLoss 29 = .ok (.ifCond .eq 7, 3) := by decide +kernel
theorem dX8_refusalOfLoss_32 : decode cX8_refusalOfLoss 32 = .ok (.iconst (-1), 1) := by decide +kernel
theorem dX8_refusalOfLoss_33 : decode cX8_refusalOfLoss 33 = .ok (.goto 4, 3) := by decide +kernel
theorem dX8_refusalOfLoss_36 : decode cX8_refusalOfLoss 36 = .ok (.iconst 3, 1) := by decide +kernel
theorem dX8_refusalOfLoss_37 : decode cX8_refusalOfLoss 37 = .ok (.ireturn, 1) := by decide +kernel
theorem dX8_refusalOfReplacing_0 : decode cX8_refusalOfReplacing 0 = .ok (.aload_n 0, 1) := by decide +kernel
theorem dX8_refusalOfReplacing_1 : decode cX8_refusalOfReplacing 1 = .ok (.getfield 18, 3) := by decide +kernel
theorem dX8_refusalOfReplacing_4 : decode cX8_refusalOfReplacing 4 = .ok (.iload_n 1, 1) := by decide +kernel
theorem dX8_refusalOfReplacing_5 : decode cX8_refusalOfReplacing 5 = .ok (.invokevirtual 140, 3) := by decide +kernel
theorem dX8_refusalOfReplacing_8 : decode cX8_refusalOfReplacing 8 = .ok (.ifCond .ne 5, 3) := by decide +kernel
theorem dX8_refusalOfReplacing_11 : decode cX8_refusalOfReplacing 11 = .ok (.iconst 0, 1) := by decide +kernel
theorem dX8_refusalOfReplacing_12 : decode cX8_refusalOfReplacing 12 = .ok (.ireturn, 1) := by decide +kernel
theorem dX8_refusalOfReplacing_13 : decode cX8_refusalOfReplacing 13 = .ok (.aload_n 0, 1) := by decide +kernel
theorem dX8_refusalOfReplacing_14 : decode cX8_refusalOfReplacing 14 = .ok (.iload_n 1, 1) := by decide +kernel
theorem dX8_refusalOfReplacing_15 : decode cX8_refusalOfReplacing 15 = .ok (.iconst 1, 1) := by decide +kernel
theorem dX8_refusalOfReplacing_16 : decode cX8_refusalOfReplacing 16 = .ok (.invokevirtual 49, 3) := by decide +kernel
theorem dX8_refusalOfReplacing_19 : decode cX8_refusalOfReplacing 19 = .ok (.ifCond .ne 5, 3) := by decide +kernel
theorem dX8_refusalOfReplacing_22 : decode cX8_refusalOfReplacing 22 = .ok (.iconst 2, 1) := by decide +kernel
theorem dX8_refusalOfReplacing_23 : decode cX8_refusalOfReplacing 23 = .ok (.ireturn, 1) := by decide +kernel
theorem dX8_refusalOfReplacing_24 : decode cX8_refusalOfReplacing 24 = .ok (.aload_n 0, 1) := by decide +kernel
theorem dX8_refusalOfReplacing_25 : decode cX8_refusalOfReplacing 25 = .ok (.getfield 12, 3) := by decide +kernel
theorem dX8_refusalOfReplacing_28 : decode cX8_refusalOfReplacing 28 = .ok (.sipush 136, 3) := by decide +kernel
theorem dX8_refusalOfReplacing_31 : decode cX8_refusalOfReplacing 31 = .ok (.invokevirtual 31, 3) := by decide +kernel
theorem dX8_refusalOfReplacing_34 : decode cX8_refusalOfReplacing 34 = .ok (.ifCond .le 7, 3) := by decide +kernel
theorem dX8_refusalOfReplacing_37 : decode cX8_refusalOfReplacing 37 = .ok (.iconst (-1), 1) := by decide +kernel
theorem dX8_refusalOfReplacing_38 : decode cX8_refusalOfReplacing 38 = .ok (.goto 4, 3) := by decide +kernel
theorem dX8_refusalOfReplacing_41 : decode cX8_refusalOfReplacing 41 = .ok (.iconst 3, 1) := by decide +kernel
theorem dX8_refusalOfReplacing_42 : decode cX8_refusalOfReplacing 42 = .ok (.ireturn, 1) := by decide +kernel
theorem dX8_refusalOfRebuilding_0 : decode cX8_refusalOfRebuilding 0 = .ok (.aload_n 0, 1) := by decide +kernel
theorem dX8_refusalOfRebuilding_1 : decode cX8_refusalOfRebuilding 1 = .ok (.getfield 18, 3) := by decide +kernel
theorem dX8_refusalOfRebuilding_4 : decode cX8_refusalOfRebuilding 4 = .ok (.iload_n 1, 1) := by decide +kernel
theorem dX8_refusalOfRebuilding_5 : decode cX8_refusalOfRebuilding 5 = .ok (.invokevirtual 140, 3) := by decide +kernel
theorem dX8_refusalOfRebuilding_8 : decode cX8_refusalOfRebuilding 8 = .ok (.ifCond .ne 5, 3) := by decide +kernel
theorem dX8_refusalOfRebuilding_11 : decode cX8_refusalOfRebuilding 11 = .ok (.iconst 0, 1) := by decide +kernel
theorem dX8_refusalOfRebuilding_12 : decode cX8_refusalOfRebuilding 12 = .ok (.ireturn, 1) := by decide +kernel
theorem dX8_refusalOfRebuilding_13 : decode cX8_refusalOfRebuilding 13 = .ok (.iload_n 2, 1) := by decide +kernel
theorem dX8_refusalOfRebuilding_14 : decode cX8_refusalOfRebuilding 14 = .ok (.iconst 1, 1) := by decide +kernel
theorem dX8_refusalOfRebuilding_15 : decode cX8_refusalOfRebuilding 15 = .ok (.if_icmp .lt 9, 3) := by decide +kernel
theorem dX8_refusalOfRebuilding_18 : decode cX8_refusalOfRebuilding 18 = .ok (.iload_n 2, 1) := by decide +kernel
theorem dX8_refusalOfRebuilding_19 : decode cX8_refusalOfRebuilding 19 = .ok (.bipush 12, 2) := by decide +kernel
theorem dX8_refusalOfRebuilding_21 : decode cX8_refusalOfRebuilding 21 = .ok (.if_icmp .le 5, 3) := by decide +kernel
theorem dX8_refusalOfRebuilding_24 : decode cX8_refusalOfRebuilding 24 = .ok (.iconst 1, 1) := by decide +kernel
theorem dX8_refusalOfRebuilding_25 : decode cX8_refusalOfRebuilding 25 = .ok (.ireturn, 1) := by decide +kernel
theorem dX8_refusalOfRebuilding_26 : decode cX8_refusalOfRebuilding 26 = .ok (.aload_n 0, 1) := by decide +kernel
theorem dX8_refusalOfRebuilding_27 : decode cX8_refusalOfRebuilding 27 = .ok (.iload_n 1, 1) := by decide +kernel
theorem dX8_refusalOfRebuilding_28 : decode cX8_refusalOfRebuilding 28 = .ok (.iconst 2, 1) := by decide +kernel
theorem dX8_refusalOfRebuilding_29 : decode cX8_refusalOfRebuilding 29 = .ok (.invokevirtual 49, 3) := by decide +kernel
theorem dX8_refusalOfRebuilding_32 : decode cX8_refusalOfRebuilding 32 = .ok (.ifCond .eq 7, 3) := by decide +kernel
theorem dX8_refusalOfRebuilding_35 : decode cX8_refusalOfRebuilding 35 = .ok (.iconst (-1), 1) := by decide +kernel
theorem dX8_refusalOfRebuilding_36 : decode cX8_refusalOfRebuilding 36 = .ok (.goto 4, 3) := by decide +kernel
theorem dX8_refusalOfRebuilding_39 : decode cX8_refusalOfRebuilding 39 = .ok (.iconst 2, 1) := by decide +kernel
theorem dX8_refusalOfRebuilding_40 : decode cX8_refusalOfRebuilding 40 = .ok (.ireturn, 1) := by decide +kernel
theorem dX8_refusalOfScrubbing_0 : decode cX8_refusalOfScrubbing 0 = .ok (.aload_n 0, 1) := by decide +kernel
theorem dX8_refusalOfScrubbing_1 : decode cX8_refusalOfScrubbing 1 = .ok (.getfield 18, 3) := by decide +kernel
theorem dX8_refusalOfScrubbing_4 : decode cX8_refusalOfScrubbing 4 = .ok (.invokevirtual 146, 3) := by decide +kernel
theorem dX8_refusalOfScrubbing_7 : decode cX8_refusalOfScrubbing 7 = .ok (.ifCond .ne 5, 3) := by decide +kernel
theorem dX8_refusalOfScrubbing_10 : decode cX8_refusalOfScrubbing 10 = .ok (.iconst 0, 1) := by decide +kernel
theorem dX8_refusalOfScrubbing_11 : decode cX8_refusalOfScrubbing 11 = .ok (.ireturn, 1) := by decide +kernel
theorem dX8_refusalOfScrubbing_12 : decode cX8_refusalOfScrubbing 12 = .ok (.iload_n 1, 1) := by decide +kernel
theorem dX8_refusalOfScrubbing_13 : decode cX8_refusalOfScrubbing 13 = .ok (.iconst 1, 1) := by decide +kernel
theorem dX8_refusalOfScrubbing_14 : decode cX8_refusalOfScrubbing 14 = .ok (.if_icmp .lt 9, 3) := by decide +kernel
theorem dX8_refusalOfScrubbing_17 : decode cX8_refusalOfScrubbing 17 = .ok (.iload_n 1, 1) := by decide +kernel
theorem dX8_refusalOfScrubbing_18 : decode cX8_refusalOfScrubbing 18 = .ok (.bipush 12, 2) := by decide +kernel
theorem dX8_refusalOfScrubbing_20 : decode cX8_refusalOfScrubbing 20 = .ok (.if_icmp .le 7, 3) := by decide +kernel
theorem dX8_refusalOfScrubbing_23 : decode cX8_refusalOfScrubbing 23 = .ok (.iconst 1, 1) := by decide +kernel
theorem dX8_refusalOfScrubbing_24 : decode cX8_refusalOfScrubbing 24 = .ok (.goto 4, 3) := by decide +kernel
theorem dX8_refusalOfScrubbing_27 : decode cX8_refusalOfScrubbing 27 = .ok (.iconst (-1), 1) := by decide +kernel
theorem dX8_refusalOfScrubbing_28 : decode cX8_refusalOfScrubbing 28 = .ok (.ireturn, 1) := by decide +kernel
theorem dX8_refusalOfSpoiling_0 : decode cX8_refusalOfSpoiling 0 = .ok (.aload_n 0, 1) := by decide +kernel
theorem dX8_refusalOfSpoiling_1 : decode cX8_refusalOfSpoiling 1 = .ok (.getfield 18, 3) := by decide +kernel
theorem dX8_refusalOfSpoiling_4 : decode cX8_refusalOfSpoiling 4 = .ok (.iload_n 1, 1) := by decide +kernel
theorem dX8_refusalOfSpoiling_5 : decode cX8_refusalOfSpoiling 5 = .ok (.iload_n 2, 1) := by decide +kernel
theorem dX8_refusalOfSpoiling_6 : decode cX8_refusalOfSpoiling 6 = .ok (.iload_n 3, 1) := by decide +kernel
theorem dX8_refusalOfSpoiling_7 : decode cX8_refusalOfSpoiling 7 = .ok (.invokevirtual 150, 3) := by decide +kernel
theorem dX8_refusalOfSpoiling_10 : decode cX8_refusalOfSpoiling 10 = .ok (.ifCond .ne 5, 3) := by decide +kernel
theorem dX8_refusalOfSpoiling_13 : decode cX8_refusalOfSpoiling 13 = .ok (.iconst 0, 1) := by decide +kernel
theorem dX8_refusalOfSpoiling_14 : decode cX8_refusalOfSpoiling 14 = .ok (.ireturn, 1) := by decide +kernel
theorem dX8_refusalOfSpoiling_15 : decode cX8_refusalOfSpoiling 15 = .ok (.iload 4, 2) := by decide +kernel
theorem dX8_refusalOfSpoiling_17 : decode cX8_refusalOfSpoiling 17 = .ok (.invokestatic 137, 3) := by decide +kernel
theorem dX8_refusalOfSpoiling_20 : decode cX8_refusalOfSpoiling 20 = .ok (.ifCond .eq 8, 3) := by decide +kernel
theorem dX8_refusalOfSpoiling_23 : decode cX8_refusalOfSpoiling 23 = .ok (.iload 4, 2) := by decide +kernel
theorem dX8_refusalOfSpoiling_25 : decode cX8_refusalOfSpoiling 25 = .ok (.ifCond .ne 5, 3) := by decide +kernel
theorem dX8_refusalOfSpoiling_28 : decode cX8_refusalOfSpoiling 28 = .ok (.iconst 1, 1) := by decide +kernel
theorem dX8_refusalOfSpoiling_29 : decode cX8_refusalOfSpoiling 29 = .ok (.ireturn, 1) := by decide +kernel
theorem dX8_refusalOfSpoiling_30 : decode cX8_refusalOfSpoiling 30 = .ok (.aload_n 0, 1) := by decide +kernel
theorem dX8_refusalOfSpoiling_31 : decode cX8_refusalOfSpoiling 31 = .ok (.iload_n 1, 1) := by decide +kernel
theorem dX8_refusalOfSpoiling_32 : decode cX8_refusalOfSpoiling 32 = .ok (.iload_n 2, 1) := by decide +kernel
theorem dX8_refusalOfSpoiling_33 : decode cX8_refusalOfSpoiling 33 = .ok (.invokevirtual 45, 3) := by decide +kernel
theorem dX8_refusalOfSpoiling_36 : decode cX8_refusalOfSpoiling 36 = .ok (.ifCond .eq 7, 3) := by decide +kernel
theorem dX8_refusalOfSpoiling_39 : decode cX8_refusalOfSpoiling 39 = .ok (.iconst (-1), 1) := by decide +kernel
theorem dX8_refusalOfSpoiling_40 : decode cX8_refusalOfSpoiling 40 = .ok (.goto 4, 3) := by decide +kernel
theorem dX8_refusalOfSpoiling_43 : decode cX8_refusalOfSpoiling 43 = .ok (.iconst 2, 1) := by decide +kernel
theorem dX8_refusalOfSpoiling_44 : decode cX8_refusalOfSpoiling 44 = .ok (.ireturn, 1) := by decide +kernel
theorem dX8_refusalOfTearing_0 : decode cX8_refusalOfTearing 0 = .ok (.aload_n 0, 1) := by decide +kernel
theorem dX8_refusalOfTearing_1 : decode cX8_refusalOfTearing 1 = .ok (.getfield 18, 3) := by decide +kernel
theorem dX8_refusalOfTearing_4 : decode cX8_refusalOfTearing 4 = .ok (.iload_n 1, 1) := by decide +kernel
theorem dX8_refusalOfTearing_5 : decode cX8_refusalOfTearing 5 = .ok (.invokevirtual 133, 3) := by decide +kernel
theorem dX8_refusalOfTearing_8 : decode cX8_refusalOfTearing 8 = .ok (.ifCond .ne 5, 3) := by decide +kernel
theorem dX8_refusalOfTearing_11 : decode cX8_refusalOfTearing 11 = .ok (.iconst 0, 1) := by decide +kernel
theorem dX8_refusalOfTearing_12 : decode cX8_refusalOfTearing 12 = .ok (.ireturn, 1) := by decide +kernel
theorem dX8_refusalOfTearing_13 : decode cX8_refusalOfTearing 13 = .ok (.iload_n 2, 1) := by decide +kernel
theorem dX8_refusalOfTearing_14 : decode cX8_refusalOfTearing 14 = .ok (.invokestatic 137, 3) := by decide +kernel
theorem dX8_refusalOfTearing_17 : decode cX8_refusalOfTearing 17 = .ok (.ifCond .eq 12, 3) := by decide +kernel
theorem dX8_refusalOfTearing_20 : decode cX8_refusalOfTearing 20 = .ok (.iload_n 3, 1) := by decide +kernel
theorem dX8_refusalOfTearing_21 : decode cX8_refusalOfTearing 21 = .ok (.ifCond .lt 8, 3) := by decide +kernel
theorem dX8_refusalOfTearing_24 : decode cX8_refusalOfTearing 24 = .ok (.iload_n 3, 1) := by decide +kernel
theorem dX8_refusalOfTearing_25 : decode cX8_refusalOfTearing 25 = .ok (.iconst 2, 1) := by decide +kernel
theorem dX8_refusalOfTearing_26 : decode cX8_refusalOfTearing 26 = .ok (.if_icmp .le 5, 3) := by decide +kernel
theorem dX8_refusalOfTearing_29 : decode cX8_refusalOfTearing 29 = .ok (.iconst 1, 1) := by decide +kernel
theorem dX8_refusalOfTearing_30 : decode cX8_refusalOfTearing 30 = .ok (.ireturn, 1) := by decide +kernel
theorem dX8_refusalOfTearing_31 : decode cX8_refusalOfTearing 31 = .ok (.aload_n 0, 1) := by decide +kernel
theorem dX8_refusalOfTearing_32 : decode cX8_refusalOfTearing 32 = .ok (.iconst 0, 1) := by decide +kernel
theorem dX8_refusalOfTearing_33 : decode cX8_refusalOfTearing 33 = .ok (.aload_n 0, 1) := by decide +kernel
theorem dX8_refusalOfTearing_34 : decode cX8_refusalOfTearing 34 = .ok (.getfield 18, 3) := by decide +kernel
theorem dX8_refusalOfTearing_37 : decode cX8_refusalOfTearing 37 = .ok (.iload_n 1, 1) := by decide +kernel
theorem dX8_refusalOfTearing_38 : decode cX8_refusalOfTearing 38 = .ok (.invokevirtual 74, 3) := by decide +kernel
theorem dX8_refusalOfTearing_41 : decode cX8_refusalOfTearing 41 = .ok (.invokevirtual 85, 3) := by decide +kernel
theorem dX8_refusalOfTearing_44 : decode cX8_refusalOfTearing 44 = .ok (.istore 4, 2) := by decide +kernel
theorem dX8_refusalOfTearing_46 : decode cX8_refusalOfTearing 46 = .ok (.aload_n 0, 1) := by decide +kernel
theorem dX8_refusalOfTearing_47 : decode cX8_refusalOfTearing 47 = .ok (.aload_n 0, 1) := by decide +kernel
theorem dX8_refusalOfTearing_48 : decode cX8_refusalOfTearing 48 = .ok (.getfield 18, 3) := by decide +kernel
theorem dX8_refusalOfTearing_51 : decode cX8_refusalOfTearing 51 = .ok (.iload_n 1, 1) := by decide +kernel
theorem dX8_refusalOfTearing_52 : decode cX8_refusalOfTearing 52 = .ok (.invokevirtual 61, 3) := by decide +kernel
theorem dX8_refusalOfTearing_55 : decode cX8_refusalOfTearing 55 = .ok (.invokevirtual 67, 3) := by decide +kernel
theorem dX8_refusalOfTearing_58 : decode cX8_refusalOfTearing 58 = .ok (.iload 4, 2) := by decide +kernel
theorem dX8_refusalOfTearing_60 : decode cX8_refusalOfTearing 60 = .ok (.iand, 1) := by decide +kernel
theorem dX8_refusalOfTearing_61 : decode cX8_refusalOfTearing 61 = .ok (.ifCond .ne 7, 3) := by decide +kernel
theorem dX8_refusalOfTearing_64 : decode cX8_refusalOfTearing 64 = .ok (.iconst (-1), 1) := by decide +kernel
theorem dX8_refusalOfTearing_65 : decode cX8_refusalOfTearing 65 = .ok (.goto 4, 3) := by decide +kernel
theorem dX8_refusalOfTearing_68 : decode cX8_refusalOfTearing 68 = .ok (.iconst 2, 1) := by decide +kernel
theorem dX8_refusalOfTearing_69 : decode cX8_refusalOfTearing 69 = .ok (.ireturn, 1) := by decide +kernel
theorem dX8_refusalOfCleaning_0 : decode cX8_refusalOfCleaning 0 = .ok (.aload_n 0, 1) := by decide +kernel
theorem dX8_refusalOfCleaning_1 : decode cX8_refusalOfCleaning 1 = .ok (.getfield 18, 3) := by decide +kernel
theorem dX8_refusalOfCleaning_4 : decode cX8_refusalOfCleaning 4 = .ok (.invokevirtual 146, 3) := by decide +kernel
theorem dX8_refusalOfCleaning_7 : decode cX8_refusalOfCleaning 7 = .ok (.ifCond .ne 5, 3) := by decide +kernel
theorem dX8_refusalOfCleaning_10 : decode cX8_refusalOfCleaning 10 = .ok (.iconst 0, 1) := by decide +kernel
theorem dX8_refusalOfCleaning_11 : decode cX8_refusalOfCleaning 11 = .ok (.ireturn, 1) := by decide +kernel
theorem dX8_refusalOfCleaning_12 : decode cX8_refusalOfCleaning 12 = .ok (.iconst 0, 1) := by decide +kernel
theorem dX8_refusalOfCleaning_13 : decode cX8_refusalOfCleaning 13 = .ok (.istore_n 1, 1) := by decide +kernel
theorem dX8_refusalOfCleaning_14 : decode cX8_refusalOfCleaning 14 = .ok (.iload_n 1, 1) := by decide +kernel
theorem dX8_refusalOfCleaning_15 : decode cX8_refusalOfCleaning 15 = .ok (.aload_n 0, 1) := by decide +kernel
theorem dX8_refusalOfCleaning_16 : decode cX8_refusalOfCleaning 16 = .ok (.getfield 18, 3) := by decide +kernel
theorem dX8_refusalOfCleaning_19 : decode cX8_refusalOfCleaning 19 = .ok (.getfield 154, 3) := by decide +kernel
theorem dX8_refusalOfCleaning_22 : decode cX8_refusalOfCleaning 22 = .ok (.if_icmp .ge 27, 3) := by decide +kernel
theorem dX8_refusalOfCleaning_25 : decode cX8_refusalOfCleaning 25 = .ok (.aload_n 0, 1) := by decide +kernel
theorem dX8_refusalOfCleaning_26 : decode cX8_refusalOfCleaning 26 = .ok (.iload_n 1, 1) := by decide +kernel
theorem dX8_refusalOfCleaning_27 : decode cX8_refusalOfCleaning 27 = .ok (.invokevirtual 157, 3) := by decide +kernel
theorem dX8_refusalOfCleaning_30 : decode cX8_refusalOfCleaning 30 = .ok (.ifCond .eq 13, 3) := by decide +kernel
theorem dX8_refusalOfCleaning_33 : decode cX8_refusalOfCleaning 33 = .ok (.aload_n 0, 1) := by decide +kernel
theorem dX8_refusalOfCleaning_34 : decode cX8_refusalOfCleaning 34 = .ok (.iload_n 1, 1) := by decide +kernel
theorem dX8_refusalOfCleaning_35 : decode cX8_refusalOfCleaning 35 = .ok (.invokevirtual 67, 3) := by decide +kernel
theorem dX8_refusalOfCleaning_38 : decode cX8_refusalOfCleaning 38 = .ok (.ifCond .ne 5, 3) := by decide +kernel
theorem dX8_refusalOfCleaning_41 : decode cX8_refusalOfCleaning 41 = .ok (.iconst (-1), 1) := by decide +kernel
theorem dX8_refusalOfCleaning_42 : decode cX8_refusalOfCleaning 42 = .ok (.ireturn, 1) := by decide +kernel
theorem dX8_refusalOfCleaning_43 : decode cX8_refusalOfCleaning 43 = .ok (.iinc 1 1, 3) := by decide +kernel
theorem dX8_refusalOfCleaning_46 : decode cX8_refusalOfCleaning 46 = .ok (.goto (-32), 3) := by decide +kernel
theorem dX8_refusalOfCleaning_49 : decode cX8_refusalOfCleaning 49 = .ok (.iconst 2, 1) := by decide +kernel
theorem dX8_refusalOfCleaning_50 : decode cX8_refusalOfCleaning 50 = .ok (.ireturn, 1) := by decide +kernel
theorem dX8_refusalOfFull_0 : decode cX8_refusalOfFull 0 = .ok (.aload_n 0, 1) := by decide +kernel
theorem dX8_refusalOfFull_1 : decode cX8_refusalOfFull 1 = .ok (.getfield 18, 3) := by decide +kernel
theorem dX8_refusalOfFull_4 : decode cX8_refusalOfFull 4 = .ok (.iload_n 1, 1) := by decide +kernel
theorem dX8_refusalOfFull_5 : decode cX8_refusalOfFull 5 = .ok (.invokevirtual 160, 3) := by decide +kernel
theorem dX8_refusalOfFull_8 : decode cX8_refusalOfFull 8 = .ok (.ifCond .eq 14, 3) := by decide +kernel
theorem dX8_refusalOfFull_11 : decode cX8_refusalOfFull 11 = .ok (.aload_n 0, 1) := by decide +kernel
theorem dX8_refusalOfFull_12 : decode cX8_refusalOfFull 12 = .ok (.getfield 18, 3) := by decide +kernel
theorem dX8_refusalOfFull_15 : decode cX8_refusalOfFull 15 = .ok (.iload_n 2, 1) := by decide +kernel
theorem dX8_refusalOfFull_16 : decode cX8_refusalOfFull 16 = .ok (.invokevirtual 163, 3) := by decide +kernel
theorem dX8_refusalOfFull_19 : decode cX8_refusalOfFull 19 = .ok (.ifCond .ne 5, 3) := by decide +kernel
theorem dX8_refusalOfFull_22 : decode cX8_refusalOfFull 22 = .ok (.iconst 0, 1) := by decide +kernel
theorem dX8_refusalOfFull_23 : decode cX8_refusalOfFull 23 = .ok (.ireturn, 1) := by decide +kernel
theorem dX8_refusalOfFull_24 : decode cX8_refusalOfFull 24 = .ok (.iload_n 3, 1) := by decide +kernel
theorem dX8_refusalOfFull_25 : decode cX8_refusalOfFull 25 = .ok (.invokestatic 137, 3) := by decide +kernel
theorem dX8_refusalOfFull_28 : decode cX8_refusalOfFull 28 = .ok (.ifCond .eq 15, 3) := by decide +kernel
theorem dX8_refusalOfFull_31 : decode cX8_refusalOfFull 31 = .ok (.iload 4, 2) := by decide +kernel
theorem dX8_refusalOfFull_33 : decode cX8_refusalOfFull 33 = .ok (.invokestatic 137, 3) := by decide +kernel
theorem dX8_refusalOfFull_36 : decode cX8_refusalOfFull 36 = .ok (.ifCond .eq 7, 3) := by decide +kernel
theorem dX8_refusalOfFull_39 : decode cX8_refusalOfFull 39 = .ok (.iconst (-1), 1) := by decide +kernel
theorem dX8_refusalOfFull_40 : decode cX8_refusalOfFull 40 = .ok (.goto 4, 3) := by decide +kernel
theorem dX8_refusalOfFull_43 : decode cX8_refusalOfFull 43 = .ok (.iconst 1, 1) := by decide +kernel
theorem dX8_refusalOfFull_44 : decode cX8_refusalOfFull 44 = .ok (.ireturn, 1) := by decide +kernel
theorem dX8_refusal_0 : decode cX8_refusal 0 = .ok (.iload_n 1, 1) := by decide +kernel
theorem dX8_refusal_1 : decode cX8_refusal 1 = .ok (.tableswitch 119 0 8 #[51, 58, 64, 70, 77, 83, 94, 103, 108], 51) := by decide +kernel
theorem dX8_refusal_52 : decode cX8_refusal 52 = .ok (.aload_n 0, 1) := by decide +kernel
theorem dX8_refusal_53 : decode cX8_refusal 53 = .ok (.iload_n 2, 1) := by decide +kernel
theorem dX8_refusal_54 : decode cX8_refusal 54 = .ok (.iload_n 3, 1) := by decide +kernel
theorem dX8_refusal_55 : decode cX8_refusal 55 = .ok (.invokevirtual 105, 3) := by decide +kernel
theorem dX8_refusal_58 : decode cX8_refusal 58 = .ok (.ireturn, 1) := by decide +kernel
theorem dX8_refusal_59 : decode cX8_refusal 59 = .ok (.aload_n 0, 1) := by decide +kernel
theorem dX8_refusal_60 : decode cX8_refusal 60 = .ok (.iload_n 2, 1) := by decide +kernel
theorem dX8_refusal_61 : decode cX8_refusal 61 = .ok (.invokevirtual 108, 3) := by decide +kernel
theorem dX8_refusal_64 : decode cX8_refusal 64 = .ok (.ireturn, 1) := by decide +kernel
theorem dX8_refusal_65 : decode cX8_refusal 65 = .ok (.aload_n 0, 1) := by decide +kernel
theorem dX8_refusal_66 : decode cX8_refusal 66 = .ok (.iload_n 2, 1) := by decide +kernel
theorem dX8_refusal_67 : decode cX8_refusal 67 = .ok (.invokevirtual 111, 3) := by decide +kernel
theorem dX8_refusal_70 : decode cX8_refusal 70 = .ok (.ireturn, 1) := by decide +kernel
theorem dX8_refusal_71 : decode cX8_refusal 71 = .ok (.aload_n 0, 1) := by decide +kernel
theorem dX8_refusal_72 : decode cX8_refusal 72 = .ok (.iload_n 2, 1) := by decide +kernel
theorem dX8_refusal_73 : decode cX8_refusal 73 = .ok (.iload_n 3, 1) := by decide +kernel
theorem dX8_refusal_74 : decode cX8_refusal 74 = .ok (.invokevirtual 114, 3) := by decide +kernel
theorem dX8_refusal_77 : decode cX8_refusal 77 = .ok (.ireturn, 1) := by decide +kernel
theorem dX8_refusal_78 : decode cX8_refusal 78 = .ok (.aload_n 0, 1) := by decide +kernel
theorem dX8_refusal_79 : decode cX8_refusal 79 = .ok (.iload_n 2, 1) := by decide +kernel
theorem dX8_refusal_80 : decode cX8_refusal 80 = .ok (.invokevirtual 117, 3) := by decide +kernel
theorem dX8_refusal_83 : decode cX8_refusal 83 = .ok (.ireturn, 1) := by decide +kernel
theorem dX8_refusal_84 : decode cX8_refusal 84 = .ok (.aload_n 0, 1) := by decide +kernel
theorem dX8_refusal_85 : decode cX8_refusal 85 = .ok (.iload_n 2, 1) := by decide +kernel
theorem dX8_refusal_86 : decode cX8_refusal 86 = .ok (.iload_n 3, 1) := by decide +kernel
theorem dX8_refusal_87 : decode cX8_refusal 87 = .ok (.iload 4, 2) := by decide +kernel
theorem dX8_refusal_89 : decode cX8_refusal 89 = .ok (.iload 5, 2) := by decide +kernel
theorem dX8_refusal_91 : decode cX8_refusal 91 = .ok (.invokevirtual 120, 3) := by decide +kernel
theorem dX8_refusal_94 : decode cX8_refusal 94 = .ok (.ireturn, 1) := by decide +kernel
theorem dX8_refusal_95 : decode cX8_refusal 95 = .ok (.aload_n 0, 1) := by decide +kernel
theorem dX8_refusal_96 : decode cX8_refusal 96 = .ok (.iload_n 2, 1) := by decide +kernel
theorem dX8_refusal_97 : decode cX8_refusal 97 = .ok (.iload_n 3, 1) := by decide +kernel
theorem dX8_refusal_98 : decode cX8_refusal 98 = .ok (.iload 4, 2) := by decide +kernel
theorem dX8_refusal_100 : decode cX8_refusal 100 = .ok (.invokevirtual 124, 3) := by decide +kernel
theorem dX8_refusal_103 : decode cX8_refusal 103 = .ok (.ireturn, 1) := by decide +kernel
theorem dX8_refusal_104 : decode cX8_refusal 104 = .ok (.aload_n 0, 1) := by decide +kernel
theorem dX8_refusal_105 : decode cX8_refusal 105 = .ok (.invokevirtual 127, 3) := by decide +kernel
theorem dX8_refusal_108 : decode cX8_refusal 108 = .ok (.ireturn, 1) := by decide +kernel
theorem dX8_refusal_109 : decode cX8_refusal 109 = .ok (.aload_n 0, 1) := by decide +kernel
theorem dX8_refusal_110 : decode cX8_refusal 110 = .ok (.iload_n 2, 1) := by decide +kernel
theorem dX8_refusal_111 : decode cX8_refusal 111 = .ok (.iload_n 3, 1) := by decide +kernel
theorem dX8_refusal_112 : decode cX8_refusal 112 = .ok (.iload 4, 2) := by decide +kernel
theorem dX8_refusal_114 : decode cX8_refusal 114 = .ok (.iload 5, 2) := by decide +kernel
theorem dX8_refusal_116 : decode cX8_refusal 116 = .ok (.invokevirtual 130, 3) := by decide +kernel
theorem dX8_refusal_119 : decode cX8_refusal 119 = .ok (.ireturn, 1) := by decide +kernel
theorem dX8_refusal_120 : decode cX8_refusal 120 = .ok (.iconst 0, 1) := by decide +kernel
theorem dX8_refusal_121 : decode cX8_refusal 121 = .ok (.ireturn, 1) := by decide +kernel
theorem dX8_doWrite_0 : decode cX8_doWrite 0 = .ok (.aload_n 0, 1) := by decide +kernel
theorem dX8_doWrite_1 : decode cX8_doWrite 1 = .ok (.getfield 18, 3) := by decide +kernel
theorem dX8_doWrite_4 : decode cX8_doWrite 4 = .ok (.iload_n 1, 1) := by decide +kernel
theorem dX8_doWrite_5 : decode cX8_doWrite 5 = .ok (.invokevirtual 61, 3) := by decide +kernel
theorem dX8_doWrite_8 : decode cX8_doWrite 8 = .ok (.istore_n 3, 1) := by decide +kernel
theorem dX8_doWrite_9 : decode cX8_doWrite 9 = .ok (.aload_n 0, 1) := by decide +kernel
theorem dX8_doWrite_10 : decode cX8_doWrite 10 = .ok (.getfield 18, 3) := by decide +kernel
theorem dX8_doWrite_13 : decode cX8_doWrite 13 = .ok (.iload_n 1, 1) := by decide +kernel
theorem dX8_doWrite_14 : decode cX8_doWrite 14 = .ok (.invokevirtual 74, 3) := by decide +kernel
theorem dX8_doWrite_17 : decode cX8_doWrite 17 = .ok (.istore 4, 2) := by decide +kernel
theorem dX8_doWrite_19 : decode cX8_doWrite 19 = .ok (.aload_n 0, 1) := by decide +kernel
theorem dX8_doWrite_20 : decode cX8_doWrite 20 = .ok (.getfield 18, 3) := by decide +kernel
theorem dX8_doWrite_23 : decode cX8_doWrite 23 = .ok (.iload_n 1, 1) := by decide +kernel
theorem dX8_doWrite_24 : decode cX8_doWrite 24 = .ok (.invokevirtual 64, 3) := by decide +kernel
theorem dX8_doWrite_27 : decode cX8_doWrite 27 = .ok (.istore 5, 2) := by decide +kernel
theorem dX8_doWrite_29 : decode cX8_doWrite 29 = .ok (.aload_n 0, 1) := by decide +kernel
theorem dX8_doWrite_30 : decode cX8_doWrite 30 = .ok (.iload_n 3, 1) := by decide +kernel
theorem dX8_doWrite_31 : decode cX8_doWrite 31 = .ok (.invokevirtual 67, 3) := by decide +kernel
theorem dX8_doWrite_34 : decode cX8_doWrite 34 = .ok (.istore 6, 2) := by decide +kernel
theorem dX8_doWrite_36 : decode cX8_doWrite 36 = .ok (.aload_n 0, 1) := by decide +kernel
theorem dX8_doWrite_37 : decode cX8_doWrite 37 = .ok (.iload 6, 2) := by decide +kernel
theorem dX8_doWrite_39 : decode cX8_doWrite 39 = .ok (.iload 4, 2) := by decide +kernel
theorem dX8_doWrite_41 : decode cX8_doWrite 41 = .ok (.invokevirtual 193, 3) := by decide +kernel
theorem dX8_doWrite_44 : decode cX8_doWrite 44 = .ok (.istore 7, 2) := by decide +kernel
theorem dX8_doWrite_46 : decode cX8_doWrite 46 = .ok (.aload_n 0, 1) := by decide +kernel
theorem dX8_doWrite_47 : decode cX8_doWrite 47 = .ok (.getfield 27, 3) := by decide +kernel
theorem dX8_doWrite_50 : decode cX8_doWrite 50 = .ok (.aload_n 0, 1) := by decide +kernel
theorem dX8_doWrite_51 : decode cX8_doWrite 51 = .ok (.getfield 12, 3) := by decide +kernel
theorem dX8_doWrite_54 : decode cX8_doWrite 54 = .ok (.iload_n 3, 1) := by decide +kernel
theorem dX8_doWrite_55 : decode cX8_doWrite 55 = .ok (.iload 5, 2) := by decide +kernel
theorem dX8_doWrite_57 : decode cX8_doWrite 57 = .ok (.iload 6, 2) := by decide +kernel
theorem dX8_doWrite_59 : decode cX8_doWrite 59 = .ok (.invokevirtual 70, 3) := by decide +kernel
theorem dX8_doWrite_62 : decode cX8_doWrite 62 = .ok (.aload_n 0, 1) := by decide +kernel
theorem dX8_doWrite_63 : decode cX8_doWrite 63 = .ok (.getfield 27, 3) := by decide +kernel
theorem dX8_doWrite_66 : decode cX8_doWrite 66 = .ok (.iload 4, 2) := by decide +kernel
theorem dX8_doWrite_68 : decode cX8_doWrite 68 = .ok (.invokevirtual 77, 3) := by decide +kernel
theorem dX8_doWrite_71 : decode cX8_doWrite 71 = .ok (.istore 8, 2) := by decide +kernel
theorem dX8_doWrite_73 : decode cX8_doWrite 73 = .ok (.iload 7, 2) := by decide +kernel
theorem dX8_doWrite_75 : decode cX8_doWrite 75 = .ok (.ifCond .ne 16, 3) := by decide +kernel
theorem dX8_doWrite_78 : decode cX8_doWrite 78 = .ok (.aload_n 0, 1) := by decide +kernel
theorem dX8_doWrite_79 : decode cX8_doWrite 79 = .ok (.getfield 27, 3) := by decide +kernel
theorem dX8_doWrite_82 : decode cX8_doWrite 82 = .ok (.iload 4, 2) := by decide +kernel
theorem dX8_doWrite_84 : decode cX8_doWrite 84 = .ok (.iload_n 2, 1) := by decide +kernel
theorem dX8_doWrite_85 : decode cX8_doWrite 85 = .ok (.invokevirtual 196, 3) := by decide +kernel
theorem dX8_doWrite_88 : decode cX8_doWrite 88 = .ok (.goto 20, 3) := by decide +kernel
theorem dX8_doWrite_91 : decode cX8_doWrite 91 = .ok (.aload_n 0, 1) := by decide +kernel
theorem dX8_doWrite_92 : decode cX8_doWrite 92 = .ok (.getfield 27, 3) := by decide +kernel
theorem dX8_doWrite_95 : decode cX8_doWrite 95 = .ok (.iload 4, 2) := by decide +kernel
theorem dX8_doWrite_97 : decode cX8_doWrite 97 = .ok (.iload_n 2, 1) := by decide +kernel
theorem dX8_doWrite_98 : decode cX8_doWrite 98 = .ok (.invokevirtual 199, 3) := by decide +kernel
theorem dX8_doWrite_101 : decode cX8_doWrite 101 = .ok (.aload_n 0, 1) := by decide +kernel
theorem dX8_doWrite_102 : decode cX8_doWrite 102 = .ok (.getfield 27, 3) := by decide +kernel
theorem dX8_doWrite_105 : decode cX8_doWrite 105 = .ok (.invokevirtual 202, 3) := by decide +kernel
theorem dX8_doWrite_108 : decode cX8_doWrite 108 = .ok (.aload_n 0, 1) := by decide +kernel
theorem dX8_doWrite_109 : decode cX8_doWrite 109 = .ok (.iload_n 3, 1) := by decide +kernel
theorem dX8_doWrite_110 : decode cX8_doWrite 110 = .ok (.aload_n 0, 1) := by decide +kernel
theorem dX8_doWrite_111 : decode cX8_doWrite 111 = .ok (.iload 7, 2) := by decide +kernel
theorem dX8_doWrite_113 : decode cX8_doWrite 113 = .ok (.iload 6, 2) := by decide +kernel
theorem dX8_doWrite_115 : decode cX8_doWrite 115 = .ok (.iload 4, 2) := by decide +kernel
theorem dX8_doWrite_117 : decode cX8_doWrite 117 = .ok (.invokevirtual 81, 3) := by decide +kernel
theorem dX8_doWrite_120 : decode cX8_doWrite 120 = .ok (.invokevirtual 205, 3) := by decide +kernel
theorem dX8_doWrite_123 : decode cX8_doWrite 123 = .ok (.aload_n 0, 1) := by decide +kernel
theorem dX8_doWrite_124 : decode cX8_doWrite 124 = .ok (.iload_n 3, 1) := by decide +kernel
theorem dX8_doWrite_125 : decode cX8_doWrite 125 = .ok (.iload 5, 2) := by decide +kernel
theorem dX8_doWrite_127 : decode cX8_doWrite 127 = .ok (.aload_n 0, 1) := by decide +kernel
theorem dX8_doWrite_128 : decode cX8_doWrite 128 = .ok (.iload 6, 2) := by decide +kernel
theorem dX8_doWrite_130 : decode cX8_doWrite 130 = .ok (.iload 4, 2) := by decide +kernel
theorem dX8_doWrite_132 : decode cX8_doWrite 132 = .ok (.invokevirtual 85, 3) := by decide +kernel
theorem dX8_doWrite_135 : decode cX8_doWrite 135 = .ok (.invokevirtual 208, 3) := by decide +kernel
theorem dX8_doWrite_138 : decode cX8_doWrite 138 = .ok (.iload 8, 2) := by decide +kernel
theorem dX8_doWrite_140 : decode cX8_doWrite 140 = .ok (.ireturn, 1) := by decide +kernel
theorem dX9_set_0 : decode cX9_set 0 = .ok (.iload_n 1, 1) := by decide +kernel
theorem dX9_set_1 : decode cX9_set 1 = .ok (.ifCond .lt 17, 3) := by decide +kernel
theorem dX9_set_4 : decode cX9_set 4 = .ok (.iload_n 1, 1) := by decide +kernel
theorem dX9_set_5 : decode cX9_set 5 = .ok (.sipush 144, 3) := by decide +kernel
theorem dX9_set_8 : decode cX9_set 8 = .ok (.if_icmp .ge 10, 3) := by decide +kernel
theorem dX9_set_11 : decode cX9_set 11 = .ok (.aload_n 0, 1) := by decide +kernel
theorem dX9_set_12 : decode cX9_set 12 = .ok (.getfield 11, 3) := by decide +kernel
theorem dX9_set_15 : decode cX9_set 15 = .ok (.iload_n 1, 1) := by decide +kernel
theorem dX9_set_16 : decode cX9_set 16 = .ok (.iload_n 2, 1) := by decide +kernel
theorem dX9_set_17 : decode cX9_set 17 = .ok (.iastore, 1) := by decide +kernel
theorem dX9_set_18 : decode cX9_set 18 = .ok (.return_, 1) := by decide +kernel
theorem dX8_doLose_0 : decode cX8_doLose 0 = .ok (.aload_n 0, 1) := by decide +kernel
theorem dX8_doLose_1 : decode cX8_doLose 1 = .ok (.getfield 12, 3) := by decide +kernel
theorem dX8_doLose_4 : decode cX8_doLose 4 = .ok (.bipush 96, 2) := by decide +kernel
theorem dX8_doLose_6 : decode cX8_doLose 6 = .ok (.iload_n 1, 1) := by decide +kernel
theorem dX8_doLose_7 : decode cX8_doLose 7 = .ok (.iadd, 1) := by decide +kernel
theorem dX8_doLose_8 : decode cX8_doLose 8 = .ok (.iconst 1, 1) := by decide +kernel
theorem dX8_doLose_9 : decode cX8_doLose 9 = .ok (.invokevirtual 212, 3) := by decide +kernel
theorem dX8_doLose_12 : decode cX8_doLose 12 = .ok (.aload_n 0, 1) := by decide +kernel
theorem dX8_doLose_13 : decode cX8_doLose 13 = .ok (.getfield 12, 3) := by decide +kernel
theorem dX8_doLose_16 : decode cX8_doLose 16 = .ok (.bipush 104, 2) := by decide +kernel
theorem dX8_doLose_18 : decode cX8_doLose 18 = .ok (.iload_n 1, 1) := by decide +kernel
theorem dX8_doLose_19 : decode cX8_doLose 19 = .ok (.iadd, 1) := by decide +kernel
theorem dX8_doLose_20 : decode cX8_doLose 20 = .ok (.iconst 0, 1) := by decide +kernel
theorem dX8_doLose_21 : decode cX8_doLose 21 = .ok (.invokevirtual 212, 3) := by decide +kernel
theorem dX8_doLose_24 : decode cX8_doLose 24 = .ok (.aload_n 0, 1) := by decide +kernel
theorem dX8_doLose_25 : decode cX8_doLose 25 = .ok (.invokevirtual 52, 3) := by decide +kernel
theorem dX8_doLose_28 : decode cX8_doLose 28 = .ok (.invokestatic 56, 3) := by decide +kernel
theorem dX8_doLose_31 : decode cX8_doLose 31 = .ok (.ireturn, 1) := by decide +kernel
theorem dX8_doReplace_0 : decode cX8_doReplace 0 = .ok (.aload_n 0, 1) := by decide +kernel
theorem dX8_doReplace_1 : decode cX8_doReplace 1 = .ok (.getfield 12, 3) := by decide +kernel
theorem dX8_doReplace_4 : decode cX8_doReplace 4 = .ok (.bipush 96, 2) := by decide +kernel
theorem dX8_doReplace_6 : decode cX8_doReplace 6 = .ok (.iload_n 1, 1) := by decide +kernel
theorem dX8_doReplace_7 : decode cX8_doReplace 7 = .ok (.iadd, 1) := by decide +kernel
theorem dX8_doReplace_8 : decode cX8_doReplace 8 = .ok (.iconst 2, 1) := by decide +kernel
theorem dX8_doReplace_9 : decode cX8_doReplace 9 = .ok (.invokevirtual 212, 3) := by decide +kernel
theorem dX8_doReplace_12 : decode cX8_doReplace 12 = .ok (.aload_n 0, 1) := by decide +kernel
theorem dX8_doReplace_13 : decode cX8_doReplace 13 = .ok (.getfield 12, 3) := by decide +kernel
theorem dX8_doReplace_16 : decode cX8_doReplace 16 = .ok (.sipush 136, 3) := by decide +kernel
theorem dX8_doReplace_19 : decode cX8_doReplace 19 = .ok (.iconst (-1), 1) := by decide +kernel
theorem dX8_doReplace_20 : decode cX8_doReplace 20 = .ok (.invokevirtual 97, 3) := by decide +kernel
theorem dX8_doReplace_23 : decode cX8_doReplace 23 = .ok (.aload_n 0, 1) := by decide +kernel
theorem dX8_doReplace_24 : decode cX8_doReplace 24 = .ok (.getfield 12, 3) := by decide +kernel
theorem dX8_doReplace_27 : decode cX8_doReplace 27 = .ok (.sipush 136, 3) := by decide +kernel
theorem dX8_doReplace_30 : decode cX8_doReplace 30 = .ok (.invokevirtual 31, 3) := by decide +kernel
theorem dX8_doReplace_33 : decode cX8_doReplace 33 = .ok (.ireturn, 1) := by decide +kernel
theorem dX8_doRebuild_0 : decode cX8_doRebuild 0 = .ok (.aload_n 0, 1) := by decide +kernel
theorem dX8_doRebuild_1 : decode cX8_doRebuild 1 = .ok (.getfield 12, 3) := by decide +kernel
theorem dX8_doRebuild_4 : decode cX8_doRebuild 4 = .ok (.bipush 104, 2) := by decide +kernel
theorem dX8_doRebuild_6 : decode cX8_doRebuild 6 = .ok (.iload_n 1, 1) := by decide +kernel
theorem dX8_doRebuild_7 : decode cX8_doRebuild 7 = .ok (.iadd, 1) := by decide +kernel
theorem dX8_doRebuild_8 : decode cX8_doRebuild 8 = .ok (.invokevirtual 31, 3) := by decide +kernel
theorem dX8_doRebuild_11 : decode cX8_doRebuild 11 = .ok (.istore_n 3, 1) := by decide +kernel
theorem dX8_doRebuild_12 : decode cX8_doRebuild 12 = .ok (.iload_n 3, 1) := by decide +kernel
theorem dX8_doRebuild_13 : decode cX8_doRebuild 13 = .ok (.iload_n 2, 1) := by decide +kernel
theorem dX8_doRebuild_14 : decode cX8_doRebuild 14 = .ok (.iadd, 1) := by decide +kernel
theorem dX8_doRebuild_15 : decode cX8_doRebuild 15 = .ok (.aload_n 0, 1) := by decide +kernel
theorem dX8_doRebuild_16 : decode cX8_doRebuild 16 = .ok (.getfield 18, 3) := by decide +kernel
theorem dX8_doRebuild_19 : decode cX8_doRebuild 19 = .ok (.getfield 154, 3) := by decide +kernel
theorem dX8_doRebuild_22 : decode cX8_doRebuild 22 = .ok (.invokestatic 213, 3) := by decide +kernel
theorem dX8_doRebuild_25 : decode cX8_doRebuild 25 = .ok (.istore 4, 2) := by decide +kernel
theorem dX8_doRebuild_27 : decode cX8_doRebuild 27 = .ok (.iload_n 3, 1) := by decide +kernel
theorem dX8_doRebuild_28 : decode cX8_doRebuild 28 = .ok (.istore 5, 2) := by decide +kernel
theorem dX8_doRebuild_30 : decode cX8_doRebuild 30 = .ok (.iload 5, 2) := by decide +kernel
theorem dX8_doRebuild_32 : decode cX8_doRebuild 32 = .ok (.iload 4, 2) := by decide +kernel
theorem dX8_doRebuild_34 : decode cX8_doRebuild 34 = .ok (.if_icmp .ge 93, 3) := by decide +kernel
theorem dX8_doRebuild_37 : decode cX8_doRebuild 37 = .ok (.aload_n 0, 1) := by decide +kernel
theorem dX8_doRebuild_38 : decode cX8_doRebuild 38 = .ok (.iload 5, 2) := by decide +kernel
theorem dX8_doRebuild_40 : decode cX8_doRebuild 40 = .ok (.invokevirtual 67, 3) := by decide +kernel
theorem dX8_doRebuild_43 : decode cX8_doRebuild 43 = .ok (.istore 6, 2) := by decide +kernel
theorem dX8_doRebuild_45 : decode cX8_doRebuild 45 = .ok (.iconst 0, 1) := by decide +kernel
theorem dX8_doRebuild_46 : decode cX8_doRebuild 46 = .ok (.istore 7, 2) := by decide +kernel
theorem dX8_doRebuild_48 : decode cX8_doRebuild 48 = .ok (.iload 7, 2) := by decide +kernel
theorem dX8_doRebuild_50 : decode cX8_doRebuild 50 = .ok (.aload_n 0, 1) := by decide +kernel
theorem dX8_doRebuild_51 : decode cX8_doRebuild 51 = .ok (.getfield 18, 3) := by decide +kernel
theorem dX8_doRebuild_54 : decode cX8_doRebuild 54 = .ok (.getfield 218, 3) := by decide +kernel
theorem dX8_doRebuild_57 : decode cX8_doRebuild 57 = .ok (.if_icmp .ge 64, 3) := by decide +kernel
theorem dX8_doRebuild_60 : decode cX8_doRebuild 60 = .ok (.aload_n 0, 1) := by decide +kernel
theorem dX8_doRebuild_61 : decode cX8_doRebuild 61 = .ok (.getfield 27, 3) := by decide +kernel
theorem dX8_doRebuild_64 : decode cX8_doRebuild 64 = .ok (.aload_n 0, 1) := by decide +kernel
theorem dX8_doRebuild_65 : decode cX8_doRebuild 65 = .ok (.getfield 12, 3) := by decide +kernel
theorem dX8_doRebuild_68 : decode cX8_doRebuild 68 = .ok (.iload 5, 2) := by decide +kernel
theorem dX8_doRebuild_70 : decode cX8_doRebuild 70 = .ok (.iload 7, 2) := by decide +kernel
theorem dX8_doRebuild_72 : decode cX8_doRebuild 72 = .ok (.iload 6, 2) := by decide +kernel
theorem dX8_doRebuild_74 : decode cX8_doRebuild 74 = .ok (.invokevirtual 70, 3) := by decide +kernel
theorem dX8_doRebuild_77 : decode cX8_doRebuild 77 = .ok (.aload_n 0, 1) := by decide +kernel
theorem dX8_doRebuild_78 : decode cX8_doRebuild 78 = .ok (.iload 5, 2) := by decide +kernel
theorem dX8_doRebuild_80 : decode cX8_doRebuild 80 = .ok (.aload_n 0, 1) := by decide +kernel
theorem dX8_doRebuild_81 : decode cX8_doRebuild 81 = .ok (.getfield 18, 3) := by decide +kernel
theorem dX8_doRebuild_84 : decode cX8_doRebuild 84 = .ok (.getfield 88, 3) := by decide +kernel
theorem dX8_doRebuild_87 : decode cX8_doRebuild 87 = .ok (.iload 6, 2) := by decide +kernel
theorem dX8_doRebuild_89 : decode cX8_doRebuild 89 = .ok (.iconst (-1), 1) := by decide +kernel
theorem dX8_doRebuild_90 : decode cX8_doRebuild 90 = .ok (.ixor, 1) := by decide +kernel
theorem dX8_doRebuild_91 : decode cX8_doRebuild 91 = .ok (.iand, 1) := by decide +kernel
theorem dX8_doRebuild_92 : decode cX8_doRebuild 92 = .ok (.invokevirtual 205, 3) := by decide +kernel
theorem dX8_doRebuild_95 : decode cX8_doRebuild 95 = .ok (.aload_n 0, 1) := by decide +kernel
theorem dX8_doRebuild_96 : decode cX8_doRebuild 96 = .ok (.iload 5, 2) := by decide +kernel
theorem dX8_doRebuild_98 : decode cX8_doRebuild 98 = .ok (.iload 7, 2) := by decide +kernel
theorem dX8_doRebuild_100 : decode cX8_doRebuild 100 = .ok (.iconst 1, 1) := by decide +kernel
theorem dX8_doRebuild_101 : decode cX8_doRebuild 101 = .ok (.aload_n 0, 1) := by decide +kernel
theorem dX8_doRebuild_102 : decode cX8_doRebuild 102 = .ok (.getfield 18, 3) := by decide +kernel
theorem dX8_doRebuild_105 : decode cX8_doRebuild 105 = .ok (.iload_n 1, 1) := by decide +kernel
theorem dX8_doRebuild_106 : decode cX8_doRebuild 106 = .ok (.iload 5, 2) := by decide +kernel
theorem dX8_doRebuild_108 : decode cX8_doRebuild 108 = .ok (.invokevirtual 221, 3) := by decide +kernel
theorem dX8_doRebuild_111 : decode cX8_doRebuild 111 = .ok (.ishl, 1) := by decide +kernel
theorem dX8_doRebuild_112 : decode cX8_doRebuild 112 = .ok (.invokevirtual 208, 3) := by decide +kernel
theorem dX8_doRebuild_115 : decode cX8_doRebuild 115 = .ok (.iinc 7 1, 3) := by decide +kernel
theorem dX8_doRebuild_118 : decode cX8_doRebuild 118 = .ok (.goto (-70), 3) := by decide +kernel
theorem dX8_doRebuild_121 : decode cX8_doRebuild 121 = .ok (.iinc 5 1, 3) := by decide +kernel
theorem dX8_doRebuild_124 : decode cX8_doRebuild 124 = .ok (.goto (-94), 3) := by decide +kernel
theorem dX8_doRebuild_127 : decode cX8_doRebuild 127 = .ok (.aload_n 0, 1) := by decide +kernel
theorem dX8_doRebuild_128 : decode cX8_doRebuild 128 = .ok (.getfield 12, 3) := by decide +kernel
theorem dX8_doRebuild_131 : decode cX8_doRebuild 131 = .ok (.bipush 104, 2) := by decide +kernel
theorem dX8_doRebuild_133 : decode cX8_doRebuild 133 = .ok (.iload_n 1, 1) := by decide +kernel
theorem dX8_doRebuild_134 : decode cX8_doRebuild 134 = .ok (.iadd, 1) := by decide +kernel
theorem dX8_doRebuild_135 : decode cX8_doRebuild 135 = .ok (.iload 4, 2) := by decide +kernel
theorem dX8_doRebuild_137 : decode cX8_doRebuild 137 = .ok (.invokevirtual 212, 3) := by decide +kernel
theorem dX8_doRebuild_140 : decode cX8_doRebuild 140 = .ok (.iload 4, 2) := by decide +kernel
theorem dX8_doRebuild_142 : decode cX8_doRebuild 142 = .ok (.aload_n 0, 1) := by decide +kernel
theorem dX8_doRebuild_143 : decode cX8_doRebuild 143 = .ok (.getfield 18, 3) := by decide +kernel
theorem dX8_doRebuild_146 : decode cX8_doRebuild 146 = .ok (.getfield 154, 3) := by decide +kernel
theorem dX8_doRebuild_149 : decode cX8_doRebuild 149 = .ok (.if_icmp .ne 15, 3) := by decide +kernel
theorem dX8_doRebuild_152 : decode cX8_doRebuild 152 = .ok (.aload_n 0, 1) := by decide +kernel
theorem dX8_doRebuild_153 : decode cX8_doRebuild 153 = .ok (.getfield 12, 3) := by decide +kernel
theorem dX8_doRebuild_156 : decode cX8_doRebuild 156 = .ok (.bipush 96, 2) := by decide +kernel
theorem dX8_doRebuild_158 : decode cX8_doRebuild 158 = .ok (.iload_n 1, 1) := by decide +kernel
theorem dX8_doRebuild_159 : decode cX8_doRebuild 159 = .ok (.iadd, 1) := by decide +kernel
theorem dX8_doRebuild_160 : decode cX8_doRebuild 160 = .ok (.iconst 0, 1) := by decide +kernel
theorem dX8_doRebuild_161 : decode cX8_doRebuild 161 = .ok (.invokevirtual 212, 3) := by decide +kernel
theorem dX8_doRebuild_164 : decode cX8_doRebuild 164 = .ok (.iload 4, 2) := by decide +kernel
theorem dX8_doRebuild_166 : decode cX8_doRebuild 166 = .ok (.ireturn, 1) := by decide +kernel
theorem dX8_noteMended_0 : decode cX8_noteMended 0 = .ok (.aload_n 0, 1) := by decide +kernel
theorem dX8_noteMended_1 : decode cX8_noteMended 1 = .ok (.getfield 12, 3) := by decide +kernel
theorem dX8_noteMended_4 : decode cX8_noteMended 4 = .ok (.sipush 128, 3) := by decide +kernel
theorem dX8_noteMended_7 : decode cX8_noteMended 7 = .ok (.iload_n 1, 1) := by decide +kernel
theorem dX8_noteMended_8 : decode cX8_noteMended 8 = .ok (.iadd, 1) := by decide +kernel
theorem dX8_noteMended_9 : decode cX8_noteMended 9 = .ok (.iconst 1, 1) := by decide +kernel
theorem dX8_noteMended_10 : decode cX8_noteMended 10 = .ok (.invokevirtual 97, 3) := by decide +kernel
theorem dX8_noteMended_13 : decode cX8_noteMended 13 = .ok (.aload_n 0, 1) := by decide +kernel
theorem dX8_noteMended_14 : decode cX8_noteMended 14 = .ok (.getfield 12, 3) := by decide +kernel
theorem dX8_noteMended_17 : decode cX8_noteMended 17 = .ok (.sipush 141, 3) := by decide +kernel
theorem dX8_noteMended_20 : decode cX8_noteMended 20 = .ok (.iload_n 1, 1) := by decide +kernel
theorem dX8_noteMended_21 : decode cX8_noteMended 21 = .ok (.invokevirtual 212, 3) := by decide +kernel
theorem dX8_noteMended_24 : decode cX8_noteMended 24 = .ok (.aload_n 0, 1) := by decide +kernel
theorem dX8_noteMended_25 : decode cX8_noteMended 25 = .ok (.getfield 12, 3) := by decide +kernel
theorem dX8_noteMended_28 : decode cX8_noteMended 28 = .ok (.sipush 142, 3) := by decide +kernel
theorem dX8_noteMended_31 : decode cX8_noteMended 31 = .ok (.iload_n 2, 1) := by decide +kernel
theorem dX8_noteMended_32 : decode cX8_noteMended 32 = .ok (.invokevirtual 212, 3) := by decide +kernel
theorem dX8_noteMended_35 : decode cX8_noteMended 35 = .ok (.aload_n 0, 1) := by decide +kernel
theorem dX8_noteMended_36 : decode cX8_noteMended 36 = .ok (.getfield 12, 3) := by decide +kernel
theorem dX8_noteMended_39 : decode cX8_noteMended 39 = .ok (.sipush 143, 3) := by decide +kernel
theorem dX8_noteMended_42 : decode cX8_noteMended 42 = .ok (.iload_n 3, 1) := by decide +kernel
theorem dX8_noteMended_43 : decode cX8_noteMended 43 = .ok (.invokevirtual 212, 3) := by decide +kernel
theorem dX8_noteMended_46 : decode cX8_noteMended 46 = .ok (.return_, 1) := by decide +kernel
theorem dX8_scrubStripe_0 : decode cX8_scrubStripe 0 = .ok (.iconst 0, 1) := by decide +kernel
theorem dX8_scrubStripe_1 : decode cX8_scrubStripe 1 = .ok (.istore_n 2, 1) := by decide +kernel
theorem dX8_scrubStripe_2 : decode cX8_scrubStripe 2 = .ok (.iconst 0, 1) := by decide +kernel
theorem dX8_scrubStripe_3 : decode cX8_scrubStripe 3 = .ok (.istore_n 3, 1) := by decide +kernel
theorem dX8_scrubStripe_4 : decode cX8_scrubStripe 4 = .ok (.iload_n 3, 1) := by decide +kernel
theorem dX8_scrubStripe_5 : decode cX8_scrubStripe 5 = .ok (.aload_n 0, 1) := by decide +kernel
theorem dX8_scrubStripe_6 : decode cX8_scrubStripe 6 = .ok (.getfield 18, 3) := by decide +kernel
theorem dX8_scrubStripe_9 : decode cX8_scrubStripe 9 = .ok (.getfield 218, 3) := by decide +kernel
theorem dX8_scrubStripe_12 : decode cX8_scrubStripe 12 = .ok (.if_icmp .ge 109, 3) := by decide +kernel
theorem dX8_scrubStripe_15 : decode cX8_scrubStripe 15 = .ok (.aload_n 0, 1) := by decide +kernel
theorem dX8_scrubStripe_16 : decode cX8_scrubStripe 16 = .ok (.getfield 27, 3) := by decide +kernel
theorem dX8_scrubStripe_19 : decode cX8_scrubStripe 19 = .ok (.aload_n 0, 1) := by decide +kernel
theorem dX8_scrubStripe_20 : decode cX8_scrubStripe 20 = .ok (.getfield 12, 3) := by decide +kernel
theorem dX8_scrubStripe_23 : decode cX8_scrubStripe 23 = .ok (.iload_n 1, 1) := by decide +kernel
theorem dX8_scrubStripe_24 : decode cX8_scrubStripe 24 = .ok (.iload_n 3, 1) := by decide +kernel
theorem dX8_scrubStripe_25 : decode cX8_scrubStripe 25 = .ok (.iconst 0, 1) := by decide +kernel
theorem dX8_scrubStripe_26 : decode cX8_scrubStripe 26 = .ok (.invokevirtual 227, 3) := by decide +kernel
theorem dX8_scrubStripe_29 : decode cX8_scrubStripe 29 = .ok (.aload_n 0, 1) := by decide +kernel
theorem dX8_scrubStripe_30 : decode cX8_scrubStripe 30 = .ok (.iload_n 1, 1) := by decide +kernel
theorem dX8_scrubStripe_31 : decode cX8_scrubStripe 31 = .ok (.aload_n 0, 1) := by decide +kernel
theorem dX8_scrubStripe_32 : decode cX8_scrubStripe 32 = .ok (.getfield 18, 3) := by decide +kernel
theorem dX8_scrubStripe_35 : decode cX8_scrubStripe 35 = .ok (.getfield 88, 3) := by decide +kernel
theorem dX8_scrubStripe_38 : decode cX8_scrubStripe 38 = .ok (.invokevirtual 205, 3) := by decide +kernel
theorem dX8_scrubStripe_41 : decode cX8_scrubStripe 41 = .ok (.aload_n 0, 1) := by decide +kernel
theorem dX8_scrubStripe_42 : decode cX8_scrubStripe 42 = .ok (.getfield 27, 3) := by decide +kernel
theorem dX8_scrubStripe_45 : decode cX8_scrubStripe 45 = .ok (.invokevirtual 230, 3) := by decide +kernel
theorem dX8_scrubStripe_48 : decode cX8_scrubStripe 48 = .ok (.istore 4, 2) := by decide +kernel
theorem dX8_scrubStripe_50 : decode cX8_scrubStripe 50 = .ok (.iload 4, 2) := by decide +kernel
theorem dX8_scrubStripe_52 : decode cX8_scrubStripe 52 = .ok (.bipush (-2), 2) := by decide +kernel
theorem dX8_scrubStripe_54 : decode cX8_scrubStripe 54 = .ok (.if_icmp .ne 17, 3) := by decide +kernel
theorem dX8_scrubStripe_57 : decode cX8_scrubStripe 57 = .ok (.aload_n 0, 1) := by decide +kernel
theorem dX8_scrubStripe_58 : decode cX8_scrubStripe 58 = .ok (.getfield 12, 3) := by decide +kernel
theorem dX8_scrubStripe_61 : decode cX8_scrubStripe 61 = .ok (.sipush 137, 3) := by decide +kernel
theorem dX8_scrubStripe_64 : decode cX8_scrubStripe 64 = .ok (.iconst 1, 1) := by decide +kernel
theorem dX8_scrubStripe_65 : decode cX8_scrubStripe 65 = .ok (.invokevirtual 97, 3) := by decide +kernel
theorem dX8_scrubStripe_68 : decode cX8_scrubStripe 68 = .ok (.goto 47, 3) := by decide +kernel
theorem dX8_scrubStripe_71 : decode cX8_scrubStripe 71 = .ok (.iload 4, 2) := by decide +kernel
theorem dX8_scrubStripe_73 : decode cX8_scrubStripe 73 = .ok (.iconst (-1), 1) := by decide +kernel
theorem dX8_scrubStripe_74 : decode cX8_scrubStripe 74 = .ok (.if_icmp .eq 41, 3) := by decide +kernel
theorem dX8_scrubStripe_77 : decode cX8_scrubStripe 77 = .ok (.aload_n 0, 1) := by decide +kernel
theorem dX8_scrubStripe_78 : decode cX8_scrubStripe 78 = .ok (.getfield 27, 3) := by decide +kernel
theorem dX8_scrubStripe_81 : decode cX8_scrubStripe 81 = .ok (.iload 4, 2) := by decide +kernel
theorem dX8_scrubStripe_83 : decode cX8_scrubStripe 83 = .ok (.invokevirtual 233, 3) := by decide +kernel
theorem dX8_scrubStripe_86 : decode cX8_scrubStripe 86 = .ok (.aload_n 0, 1) := by decide +kernel
theorem dX8_scrubStripe_87 : decode cX8_scrubStripe 87 = .ok (.iload_n 1, 1) := by decide +kernel
theorem dX8_scrubStripe_88 : decode cX8_scrubStripe 88 = .ok (.iload_n 3, 1) := by decide +kernel
theorem dX8_scrubStripe_89 : decode cX8_scrubStripe 89 = .ok (.iconst 1, 1) := by decide +kernel
theorem dX8_scrubStripe_90 : decode cX8_scrubStripe 90 = .ok (.iload 4, 2) := by decide +kernel
theorem dX8_scrubStripe_92 : decode cX8_scrubStripe 92 = .ok (.ishl, 1) := by decide +kernel
theorem dX8_scrubStripe_93 : decode cX8_scrubStripe 93 = .ok (.invokevirtual 208, 3) := by decide +kernel
theorem dX8_scrubStripe_96 : decode cX8_scrubStripe 96 = .ok (.aload_n 0, 1) := by decide +kernel
theorem dX8_scrubStripe_97 : decode cX8_scrubStripe 97 = .ok (.aload_n 0, 1) := by decide +kernel
theorem dX8_scrubStripe_98 : decode cX8_scrubStripe 98 = .ok (.getfield 18, 3) := by decide +kernel
theorem dX8_scrubStripe_101 : decode cX8_scrubStripe 101 = .ok (.iload 4, 2) := by decide +kernel
theorem dX8_scrubStripe_103 : decode cX8_scrubStripe 103 = .ok (.iload_n 1, 1) := by decide +kernel
theorem dX8_scrubStripe_104 : decode cX8_scrubStripe 104 = .ok (.invokevirtual 41, 3) := by decide +kernel
theorem dX8_scrubStripe_107 : decode cX8_scrubStripe 107 = .ok (.iload_n 1, 1) := by decide +kernel
theorem dX8_scrubStripe_108 : decode cX8_scrubStripe 108 = .ok (.iload_n 3, 1) := by decide +kernel
theorem dX8_scrubStripe_109 : decode cX8_scrubStripe 109 = .ok (.invokevirtual 237, 3) := by decide +kernel
theorem dX8_scrubStripe_112 : decode cX8_scrubStripe 112 = .ok (.iinc 2 1, 3) := by decide +kernel
theorem dX8_scrubStripe_115 : decode cX8_scrubStripe 115 = .ok (.iinc 3 1, 3) := by decide +kernel
theorem dX8_scrubStripe_118 : decode cX8_scrubStripe 118 = .ok (.goto (-114), 3) := by decide +kernel
theorem dX8_scrubStripe_121 : decode cX8_scrubStripe 121 = .ok (.iload_n 2, 1) := by decide +kernel
theorem dX8_scrubStripe_122 : decode cX8_scrubStripe 122 = .ok (.ireturn, 1) := by decide +kernel
theorem dX8_doScrub_0 : decode cX8_doScrub 0 = .ok (.iconst 0, 1) := by decide +kernel
theorem dX8_doScrub_1 : decode cX8_doScrub 1 = .ok (.istore_n 2, 1) := by decide +kernel
theorem dX8_doScrub_2 : decode cX8_doScrub 2 = .ok (.iconst 0, 1) := by decide +kernel
theorem dX8_doScrub_3 : decode cX8_doScrub 3 = .ok (.istore_n 3, 1) := by decide +kernel
theorem dX8_doScrub_4 : decode cX8_doScrub 4 = .ok (.iload_n 3, 1) := by decide +kernel
theorem dX8_doScrub_5 : decode cX8_doScrub 5 = .ok (.iload_n 1, 1) := by decide +kernel
theorem dX8_doScrub_6 : decode cX8_doScrub 6 = .ok (.if_icmp .ge 94, 3) := by decide +kernel
theorem dX8_doScrub_9 : decode cX8_doScrub 9 = .ok (.aload_n 0, 1) := by decide +kernel
theorem dX8_doScrub_10 : decode cX8_doScrub 10 = .ok (.getfield 12, 3) := by decide +kernel
theorem dX8_doScrub_13 : decode cX8_doScrub 13 = .ok (.sipush 139, 3) := by decide +kernel
theorem dX8_doScrub_16 : decode cX8_doScrub 16 = .ok (.invokevirtual 31, 3) := by decide +kernel
theorem dX8_doScrub_19 : decode cX8_doScrub 19 = .ok (.istore 4, 2) := by decide +kernel
theorem dX8_doScrub_21 : decode cX8_doScrub 21 = .ok (.aload_n 0, 1) := by decide +kernel
theorem dX8_doScrub_22 : decode cX8_doScrub 22 = .ok (.getfield 12, 3) := by decide +kernel
theorem dX8_doScrub_25 : decode cX8_doScrub 25 = .ok (.sipush 139, 3) := by decide +kernel
theorem dX8_doScrub_28 : decode cX8_doScrub 28 = .ok (.iload 4, 2) := by decide +kernel
theorem dX8_doScrub_30 : decode cX8_doScrub 30 = .ok (.iconst 1, 1) := by decide +kernel
theorem dX8_doScrub_31 : decode cX8_doScrub 31 = .ok (.iadd, 1) := by decide +kernel
theorem dX8_doScrub_32 : decode cX8_doScrub 32 = .ok (.aload_n 0, 1) := by decide +kernel
theorem dX8_doScrub_33 : decode cX8_doScrub 33 = .ok (.getfield 18, 3) := by decide +kernel
theorem dX8_doScrub_36 : decode cX8_doScrub 36 = .ok (.getfield 154, 3) := by decide +kernel
theorem dX8_doScrub_39 : decode cX8_doScrub 39 = .ok (.if_icmp .ge 10, 3) := by decide +kernel
theorem dX8_doScrub_42 : decode cX8_doScrub 42 = .ok (.iload 4, 2) := by decide +kernel
theorem dX8_doScrub_44 : decode cX8_doScrub 44 = .ok (.iconst 1, 1) := by decide +kernel
theorem dX8_doScrub_45 : decode cX8_doScrub 45 = .ok (.iadd, 1) := by decide +kernel
theorem dX8_doScrub_46 : decode cX8_doScrub 46 = .ok (.goto 4, 3) := by decide +kernel
theorem dX8_doScrub_49 : decode cX8_doScrub 49 = .ok (.iconst 0, 1) := by decide +kernel
theorem dX8_doScrub_50 : decode cX8_doScrub 50 = .ok (.invokevirtual 212, 3) := by decide +kernel
theorem dX8_doScrub_53 : decode cX8_doScrub 53 = .ok (.aload_n 0, 1) := by decide +kernel
theorem dX8_doScrub_54 : decode cX8_doScrub 54 = .ok (.iload 4, 2) := by decide +kernel
theorem dX8_doScrub_56 : decode cX8_doScrub 56 = .ok (.invokevirtual 157, 3) := by decide +kernel
theorem dX8_doScrub_59 : decode cX8_doScrub 59 = .ok (.ifCond .ne 12, 3) := by decide +kernel
theorem dX8_doScrub_62 : decode cX8_doScrub 62 = .ok (.aload_n 0, 1) := by decide +kernel
theorem dX8_doScrub_63 : decode cX8_doScrub 63 = .ok (.iload 4, 2) := by decide +kernel
theorem dX8_doScrub_65 : decode cX8_doScrub 65 = .ok (.invokevirtual 67, 3) := by decide +kernel
theorem dX8_doScrub_68 : decode cX8_doScrub 68 = .ok (.ifCond .eq 17, 3) := by decide +kernel
theorem dX8_doScrub_71 : decode cX8_doScrub 71 = .ok (.aload_n 0, 1) := by decide +kernel
theorem dX8_doScrub_72 : decode cX8_doScrub 72 = .ok (.getfield 12, 3) := by decide +kernel
theorem dX8_doScrub_75 : decode cX8_doScrub 75 = .ok (.sipush 138, 3) := by decide +kernel
theorem dX8_doScrub_78 : decode cX8_doScrub 78 = .ok (.iconst 1, 1) := by decide +kernel
theorem dX8_doScrub_79 : decode cX8_doScrub 79 = .ok (.invokevirtual 97, 3) := by decide +kernel
theorem dX8_doScrub_82 : decode cX8_doScrub 82 = .ok (.goto 12, 3) := by decide +kernel
theorem dX8_doScrub_85 : decode cX8_doScrub 85 = .ok (.iload_n 2, 1) := by decide +kernel
theorem dX8_doScrub_86 : decode cX8_doScrub 86 = .ok (.aload_n 0, 1) := by decide +kernel
theorem dX8_doScrub_87 : decode cX8_doScrub 87 = .ok (.iload 4, 2) := by decide +kernel
theorem dX8_doScrub_89 : decode cX8_doScrub 89 = .ok (.invokevirtual 224, 3) := by decide +kernel
theorem dX8_doScrub_92 : decode cX8_doScrub 92 = .ok (.iadd, 1) := by decide +kernel
theorem dX8_doScrub_93 : decode cX8_doScrub 93 = .ok (.istore_n 2, 1) := by decide +kernel
theorem dX8_doScrub_94 : decode cX8_doScrub 94 = .ok (.iinc 3 1, 3) := by decide +kernel
theorem dX8_doScrub_97 : decode cX8_doScrub 97 = .ok (.goto (-93), 3) := by decide +kernel
theorem dX8_doScrub_100 : decode cX8_doScrub 100 = .ok (.iload_n 2, 1) := by decide +kernel
theorem dX8_doScrub_101 : decode cX8_doScrub 101 = .ok (.ireturn, 1) := by decide +kernel
theorem dX8_doSpoil_0 : decode cX8_doSpoil 0 = .ok (.aload_n 0, 1) := by decide +kernel
theorem dX8_doSpoil_1 : decode cX8_doSpoil 1 = .ok (.getfield 12, 3) := by decide +kernel
theorem dX8_doSpoil_4 : decode cX8_doSpoil 4 = .ok (.iload_n 1, 1) := by decide +kernel
theorem dX8_doSpoil_5 : decode cX8_doSpoil 5 = .ok (.iload_n 2, 1) := by decide +kernel
theorem dX8_doSpoil_6 : decode cX8_doSpoil 6 = .ok (.iload_n 3, 1) := by decide +kernel
theorem dX8_doSpoil_7 : decode cX8_doSpoil 7 = .ok (.invokevirtual 240, 3) := by decide +kernel
theorem dX8_doSpoil_10 : decode cX8_doSpoil 10 = .ok (.iload 4, 2) := by decide +kernel
theorem dX8_doSpoil_12 : decode cX8_doSpoil 12 = .ok (.ixor, 1) := by decide +kernel
theorem dX8_doSpoil_13 : decode cX8_doSpoil 13 = .ok (.istore 5, 2) := by decide +kernel
theorem dX8_doSpoil_15 : decode cX8_doSpoil 15 = .ok (.aload_n 0, 1) := by decide +kernel
theorem dX8_doSpoil_16 : decode cX8_doSpoil 16 = .ok (.getfield 12, 3) := by decide +kernel
theorem dX8_doSpoil_19 : decode cX8_doSpoil 19 = .ok (.iload_n 1, 1) := by decide +kernel
theorem dX8_doSpoil_20 : decode cX8_doSpoil 20 = .ok (.iload_n 2, 1) := by decide +kernel
theorem dX8_doSpoil_21 : decode cX8_doSpoil 21 = .ok (.iload_n 3, 1) := by decide +kernel
theorem dX8_doSpoil_22 : decode cX8_doSpoil 22 = .ok (.iload 5, 2) := by decide +kernel
theorem dX8_doSpoil_24 : decode cX8_doSpoil 24 = .ok (.invokevirtual 101, 3) := by decide +kernel
theorem dX8_doSpoil_27 : decode cX8_doSpoil 27 = .ok (.iload 5, 2) := by decide +kernel
theorem dX8_doSpoil_29 : decode cX8_doSpoil 29 = .ok (.ireturn, 1) := by decide +kernel
theorem dX8_doTear_0 : decode cX8_doTear 0 = .ok (.aload_n 0, 1) := by decide +kernel
theorem dX8_doTear_1 : decode cX8_doTear 1 = .ok (.getfield 18, 3) := by decide +kernel
theorem dX8_doTear_4 : decode cX8_doTear 4 = .ok (.iload_n 1, 1) := by decide +kernel
theorem dX8_doTear_5 : decode cX8_doTear 5 = .ok (.invokevirtual 61, 3) := by decide +kernel
theorem dX8_doTear_8 : decode cX8_doTear 8 = .ok (.istore 4, 2) := by decide +kernel
theorem dX8_doTear_10 : decode cX8_doTear 10 = .ok (.aload_n 0, 1) := by decide +kernel
theorem dX8_doTear_11 : decode cX8_doTear 11 = .ok (.getfield 18, 3) := by decide +kernel
theorem dX8_doTear_14 : decode cX8_doTear 14 = .ok (.iload_n 1, 1) := by decide +kernel
theorem dX8_doTear_15 : decode cX8_doTear 15 = .ok (.invokevirtual 74, 3) := by decide +kernel
theorem dX8_doTear_18 : decode cX8_doTear 18 = .ok (.istore 5, 2) := by decide +kernel
theorem dX8_doTear_20 : decode cX8_doTear 20 = .ok (.aload_n 0, 1) := by decide +kernel
theorem dX8_doTear_21 : decode cX8_doTear 21 = .ok (.getfield 18, 3) := by decide +kernel
theorem dX8_doTear_24 : decode cX8_doTear 24 = .ok (.iload_n 1, 1) := by decide +kernel
theorem dX8_doTear_25 : decode cX8_doTear 25 = .ok (.invokevirtual 64, 3) := by decide +kernel
theorem dX8_doTear_28 : decode cX8_doTear 28 = .ok (.istore 6, 2) := by decide +kernel
theorem dX8_doTear_30 : decode cX8_doTear 30 = .ok (.aload_n 0, 1) := by decide +kernel
theorem dX8_doTear_31 : decode cX8_doTear 31 = .ok (.iload 4, 2) := by decide +kernel
theorem dX8_doTear_33 : decode cX8_doTear 33 = .ok (.invokevirtual 67, 3) := by decide +kernel
theorem dX8_doTear_36 : decode cX8_doTear 36 = .ok (.istore 7, 2) := by decide +kernel
theorem dX8_doTear_38 : decode cX8_doTear 38 = .ok (.aload_n 0, 1) := by decide +kernel
theorem dX8_doTear_39 : decode cX8_doTear 39 = .ok (.getfield 27, 3) := by decide +kernel
theorem dX8_doTear_42 : decode cX8_doTear 42 = .ok (.aload_n 0, 1) := by decide +kernel
theorem dX8_doTear_43 : decode cX8_doTear 43 = .ok (.getfield 12, 3) := by decide +kernel
theorem dX8_doTear_46 : decode cX8_doTear 46 = .ok (.iload 4, 2) := by decide +kernel
theorem dX8_doTear_48 : decode cX8_doTear 48 = .ok (.iload 6, 2) := by decide +kernel
theorem dX8_doTear_50 : decode cX8_doTear 50 = .ok (.iload 7, 2) := by decide +kernel
theorem dX8_doTear_52 : decode cX8_doTear 52 = .ok (.invokevirtual 70, 3) := by decide +kernel
theorem dX8_doTear_55 : decode cX8_doTear 55 = .ok (.aload_n 0, 1) := by decide +kernel
theorem dX8_doTear_56 : decode cX8_doTear 56 = .ok (.getfield 27, 3) := by decide +kernel
theorem dX8_doTear_59 : decode cX8_doTear 59 = .ok (.iload 5, 2) := by decide +kernel
theorem dX8_doTear_61 : decode cX8_doTear 61 = .ok (.iload_n 2, 1) := by decide +kernel
theorem dX8_doTear_62 : decode cX8_doTear 62 = .ok (.invokevirtual 196, 3) := by decide +kernel
theorem dX8_doTear_65 : decode cX8_doTear 65 = .ok (.aload_n 0, 1) := by decide +kernel
theorem dX8_doTear_66 : decode cX8_doTear 66 = .ok (.iload 4, 2) := by decide +kernel
theorem dX8_doTear_68 : decode cX8_doTear 68 = .ok (.aload_n 0, 1) := by decide +kernel
theorem dX8_doTear_69 : decode cX8_doTear 69 = .ok (.iload 7, 2) := by decide +kernel
theorem dX8_doTear_71 : decode cX8_doTear 71 = .ok (.iload 5, 2) := by decide +kernel
theorem dX8_doTear_73 : decode cX8_doTear 73 = .ok (.invokevirtual 85, 3) := by decide +kernel
theorem dX8_doTear_76 : decode cX8_doTear 76 = .ok (.invokevirtual 205, 3) := by decide +kernel
theorem dX8_doTear_79 : decode cX8_doTear 79 = .ok (.iload_n 3, 1) := by decide +kernel
theorem dX8_doTear_80 : decode cX8_doTear 80 = .ok (.ifCond .le 37, 3) := by decide +kernel
theorem dX8_doTear_83 : decode cX8_doTear 83 = .ok (.aload_n 0, 1) := by decide +kernel
theorem dX8_doTear_84 : decode cX8_doTear 84 = .ok (.iload 4, 2) := by decide +kernel
theorem dX8_doTear_86 : decode cX8_doTear 86 = .ok (.iload 6, 2) := by decide +kernel
theorem dX8_doTear_88 : decode cX8_doTear 88 = .ok (.iload_n 3, 1) := by decide +kernel
theorem dX8_doTear_89 : decode cX8_doTear 89 = .ok (.iconst 1, 1) := by decide +kernel
theorem dX8_doTear_90 : decode cX8_doTear 90 = .ok (.if_icmp .ne 10, 3) := by decide +kernel
theorem dX8_doTear_93 : decode cX8_doTear 93 = .ok (.iconst 1, 1) := by decide +kernel
theorem dX8_doTear_94 : decode cX8_doTear 94 = .ok (.iload 5, 2) := by decide +kernel
theorem dX8_doTear_96 : decode cX8_doTear 96 = .ok (.ishl, 1) := by decide +kernel
theorem dX8_doTear_97 : decode cX8_doTear 97 = .ok (.goto 17, 3) := by decide +kernel
theorem dX8_doTear_100 : decode cX8_doTear 100 = .ok (.iconst 1, 1) := by decide +kernel
theorem dX8_doTear_101 : decode cX8_doTear 101 = .ok (.iload 5, 2) := by decide +kernel
theorem dX8_doTear_103 : decode cX8_doTear 103 = .ok (.ishl, 1) := by decide +kernel
theorem dX8_doTear_104 : decode cX8_doTear 104 = .ok (.iconst 1, 1) := by decide +kernel
theorem dX8_doTear_105 : decode cX8_doTear 105 = .ok (.aload_n 0, 1) := by decide +kernel
theorem dX8_doTear_106 : decode cX8_doTear 106 = .ok (.getfield 18, 3) := by decide +kernel
theorem dX8_doTear_109 : decode cX8_doTear 109 = .ok (.getfield 91, 3) := by decide +kernel
theorem dX8_doTear_112 : decode cX8_doTear 112 = .ok (.ishl, 1) := by decide +kernel
theorem dX8_doTear_113 : decode cX8_doTear 113 = .ok (.ior, 1) := by decide +kernel
theorem dX8_doTear_114 : decode cX8_doTear 114 = .ok (.invokevirtual 208, 3) := by decide +kernel
theorem dX8_doTear_117 : decode cX8_doTear 117 = .ok (.aload_n 0, 1) := by decide +kernel
theorem dX8_doTear_118 : decode cX8_doTear 118 = .ok (.getfield 12, 3) := by decide +kernel
theorem dX8_doTear_121 : decode cX8_doTear 121 = .ok (.sipush 140, 3) := by decide +kernel
theorem dX8_doTear_124 : decode cX8_doTear 124 = .ok (.aload_n 0, 1) := by decide +kernel
theorem dX8_doTear_125 : decode cX8_doTear 125 = .ok (.getfield 12, 3) := by decide +kernel
theorem dX8_doTear_128 : decode cX8_doTear 128 = .ok (.sipush 140, 3) := by decide +kernel
theorem dX8_doTear_131 : decode cX8_doTear 131 = .ok (.invokevirtual 31, 3) := by decide +kernel
theorem dX8_doTear_134 : decode cX8_doTear 134 = .ok (.iconst 1, 1) := by decide +kernel
theorem dX8_doTear_135 : decode cX8_doTear 135 = .ok (.iload 4, 2) := by decide +kernel
theorem dX8_doTear_137 : decode cX8_doTear 137 = .ok (.ishl, 1) := by decide +kernel
theorem dX8_doTear_138 : decode cX8_doTear 138 = .ok (.ior, 1) := by decide +kernel
theorem dX8_doTear_139 : decode cX8_doTear 139 = .ok (.invokevirtual 212, 3) := by decide +kernel
theorem dX8_doTear_142 : decode cX8_doTear 142 = .ok (.aload_n 0, 1) := by decide +kernel
theorem dX8_doTear_143 : decode cX8_doTear 143 = .ok (.getfield 12, 3) := by decide +kernel
theorem dX8_doTear_146 : decode cX8_doTear 146 = .ok (.sipush 140, 3) := by decide +kernel
theorem dX8_doTear_149 : decode cX8_doTear 149 = .ok (.invokevirtual 31, 3) := by decide +kernel
theorem dX8_doTear_152 : decode cX8_doTear 152 = .ok (.invokestatic 56, 3) := by decide +kernel
theorem dX8_doTear_155 : decode cX8_doTear 155 = .ok (.ireturn, 1) := by decide +kernel
theorem dX8_cleanStripe_0 : decode cX8_cleanStripe 0 = .ok (.iconst 0, 1) := by decide +kernel
theorem dX8_cleanStripe_1 : decode cX8_cleanStripe 1 = .ok (.istore_n 2, 1) := by decide +kernel
theorem dX8_cleanStripe_2 : decode cX8_cleanStripe 2 = .ok (.iload_n 2, 1) := by decide +kernel
theorem dX8_cleanStripe_3 : decode cX8_cleanStripe 3 = .ok (.aload_n 0, 1) := by decide +kernel
theorem dX8_cleanStripe_4 : decode cX8_cleanStripe 4 = .ok (.getfield 18, 3) := by decide +kernel
theorem dX8_cleanStripe_7 : decode cX8_cleanStripe 7 = .ok (.getfield 218, 3) := by decide +kernel
theorem dX8_cleanStripe_10 : decode cX8_cleanStripe 10 = .ok (.if_icmp .ge 67, 3) := by decide +kernel
theorem dX8_cleanStripe_13 : decode cX8_cleanStripe 13 = .ok (.aload_n 0, 1) := by decide +kernel
theorem dX8_cleanStripe_14 : decode cX8_cleanStripe 14 = .ok (.getfield 27, 3) := by decide +kernel
theorem dX8_cleanStripe_17 : decode cX8_cleanStripe 17 = .ok (.aload_n 0, 1) := by decide +kernel
theorem dX8_cleanStripe_18 : decode cX8_cleanStripe 18 = .ok (.getfield 12, 3) := by decide +kernel
theorem dX8_cleanStripe_21 : decode cX8_cleanStripe 21 = .ok (.iload_n 1, 1) := by decide +kernel
theorem dX8_cleanStripe_22 : decode cX8_cleanStripe 22 = .ok (.iload_n 2, 1) := by decide +kernel
theorem dX8_cleanStripe_23 : decode cX8_cleanStripe 23 = .ok (.iconst 0, 1) := by decide +kernel
theorem dX8_cleanStripe_24 : decode cX8_cleanStripe 24 = .ok (.invokevirtual 227, 3) := by decide +kernel
theorem dX8_cleanStripe_27 : decode cX8_cleanStripe 27 = .ok (.aload_n 0, 1) := by decide +kernel
theorem dX8_cleanStripe_28 : decode cX8_cleanStripe 28 = .ok (.getfield 27, 3) := by decide +kernel
theorem dX8_cleanStripe_31 : decode cX8_cleanStripe 31 = .ok (.invokevirtual 202, 3) := by decide +kernel
theorem dX8_cleanStripe_34 : decode cX8_cleanStripe 34 = .ok (.aload_n 0, 1) := by decide +kernel
theorem dX8_cleanStripe_35 : decode cX8_cleanStripe 35 = .ok (.iload_n 1, 1) := by decide +kernel
theorem dX8_cleanStripe_36 : decode cX8_cleanStripe 36 = .ok (.aload_n 0, 1) := by decide +kernel
theorem dX8_cleanStripe_37 : decode cX8_cleanStripe 37 = .ok (.getfield 18, 3) := by decide +kernel
theorem dX8_cleanStripe_40 : decode cX8_cleanStripe 40 = .ok (.getfield 78, 3) := by decide +kernel
theorem dX8_cleanStripe_43 : decode cX8_cleanStripe 43 = .ok (.invokevirtual 205, 3) := by decide +kernel
theorem dX8_cleanStripe_46 : decode cX8_cleanStripe 46 = .ok (.aload_n 0, 1) := by decide +kernel
theorem dX8_cleanStripe_47 : decode cX8_cleanStripe 47 = .ok (.iload_n 1, 1) := by decide +kernel
theorem dX8_cleanStripe_48 : decode cX8_cleanStripe 48 = .ok (.iload_n 2, 1) := by decide +kernel
theorem dX8_cleanStripe_49 : decode cX8_cleanStripe 49 = .ok (.iconst 1, 1) := by decide +kernel
theorem dX8_cleanStripe_50 : decode cX8_cleanStripe 50 = .ok (.aload_n 0, 1) := by decide +kernel
theorem dX8_cleanStripe_51 : decode cX8_cleanStripe 51 = .ok (.getfield 18, 3) := by decide +kernel
theorem dX8_cleanStripe_54 : decode cX8_cleanStripe 54 = .ok (.getfield 91, 3) := by decide +kernel
theorem dX8_cleanStripe_57 : decode cX8_cleanStripe 57 = .ok (.ishl, 1) := by decide +kernel
theorem dX8_cleanStripe_58 : decode cX8_cleanStripe 58 = .ok (.iconst 1, 1) := by decide +kernel
theorem dX8_cleanStripe_59 : decode cX8_cleanStripe 59 = .ok (.aload_n 0, 1) := by decide +kernel
theorem dX8_cleanStripe_60 : decode cX8_cleanStripe 60 = .ok (.getfield 18, 3) := by decide +kernel
theorem dX8_cleanStripe_63 : decode cX8_cleanStripe 63 = .ok (.getfield 94, 3) := by decide +kernel
theorem dX8_cleanStripe_66 : decode cX8_cleanStripe 66 = .ok (.ishl, 1) := by decide +kernel
theorem dX8_cleanStripe_67 : decode cX8_cleanStripe 67 = .ok (.ior, 1) := by decide +kernel
theorem dX8_cleanStripe_68 : decode cX8_cleanStripe 68 = .ok (.invokevirtual 208, 3) := by decide +kernel
theorem dX8_cleanStripe_71 : decode cX8_cleanStripe 71 = .ok (.iinc 2 1, 3) := by decide +kernel
theorem dX8_cleanStripe_74 : decode cX8_cleanStripe 74 = .ok (.goto (-72), 3) := by decide +kernel
theorem dX8_cleanStripe_77 : decode cX8_cleanStripe 77 = .ok (.aload_n 0, 1) := by decide +kernel
theorem dX8_cleanStripe_78 : decode cX8_cleanStripe 78 = .ok (.getfield 12, 3) := by decide +kernel
theorem dX8_cleanStripe_81 : decode cX8_cleanStripe 81 = .ok (.sipush 140, 3) := by decide +kernel
theorem dX8_cleanStripe_84 : decode cX8_cleanStripe 84 = .ok (.aload_n 0, 1) := by decide +kernel
theorem dX8_cleanStripe_85 : decode cX8_cleanStripe 85 = .ok (.getfield 12, 3) := by decide +kernel
theorem dX8_cleanStripe_88 : decode cX8_cleanStripe 88 = .ok (.sipush 140, 3) := by decide +kernel
theorem dX8_cleanStripe_91 : decode cX8_cleanStripe 91 = .ok (.invokevirtual 31, 3) := by decide +kernel
theorem dX8_cleanStripe_94 : decode cX8_cleanStripe 94 = .ok (.iconst 1, 1) := by decide +kernel
theorem dX8_cleanStripe_95 : decode cX8_cleanStripe 95 = .ok (.iload_n 1, 1) := by decide +kernel
theorem dX8_cleanStripe_96 : decode cX8_cleanStripe 96 = .ok (.ishl, 1) := by decide +kernel
theorem dX8_cleanStripe_97 : decode cX8_cleanStripe 97 = .ok (.iconst (-1), 1) := by decide +kernel
theorem dX8_cleanStripe_98 : decode cX8_cleanStripe 98 = .ok (.ixor, 1) := by decide +kernel
theorem dX8_cleanStripe_99 : decode cX8_cleanStripe 99 = .ok (.iand, 1) := by decide +kernel
theorem dX8_cleanStripe_100 : decode cX8_cleanStripe 100 = .ok (.invokevirtual 212, 3) := by decide +kernel
theorem dX8_cleanStripe_103 : decode cX8_cleanStripe 103 = .ok (.return_, 1) := by decide +kernel
