theorem dX12_thrown_0 : decode cX12_thrown 0 = .ok (.aload_n 0, 1) := by decide +kernel
theorem dX12_thrown_1 : decode cX12_thrown 1 = .ok (.getfield 57, 3) := by decide +kernel
theorem dX12_thrown_4 : decode cX12_thrown 4 = .ok (.ireturn, 1) := by decide +kernel
theorem dX12_isIn_0 : decode cX12_isIn 0 = .ok (.lload_n 0, 1) := by decide +kernel
theorem dX12_isIn_1 : decode cX12_isIn 1 = .ok (.lload_n 2, 1) := by decide +kernel
theorem dX12_isIn_2 : decode cX12_isIn 2 = .ok (.lcmp, 1) := by decide +kernel
theorem dX12_isIn_3 : decode cX12_isIn 3 = .ok (.ifCond .lt 14, 3) := by decide +kernel
theorem dX12_isIn_6 : decode cX12_isIn 6 = .ok (.lload_n 0, 1) := by decide +kernel
theorem dX12_isIn_7 : decode cX12_isIn 7 = .ok (.lload 4, 2) := by decide +kernel
theorem dX12_isIn_9 : decode cX12_isIn 9 = .ok (.lcmp, 1) := by decide +kernel
theorem dX12_isIn_10 : decode cX12_isIn 10 = .ok (.ifCond .gt 7, 3) := by decide +kernel
theorem dX12_isIn_13 : decode cX12_isIn 13 = .ok (.iconst 1, 1) := by decide +kernel
theorem dX12_isIn_14 : decode cX12_isIn 14 = .ok (.goto 4, 3) := by decide +kernel
theorem dX12_isIn_17 : decode cX12_isIn 17 = .ok (.iconst 0, 1) := by decide +kernel
theorem dX12_isIn_18 : decode cX12_isIn 18 = .ok (.ireturn, 1) := by decide +kernel
theorem dX12_bytesOf_0 : decode cX12_bytesOf 0 = .ok (.iconst 0, 1) := by decide +kernel
theorem dX12_bytesOf_1 : decode cX12_bytesOf 1 = .ok (.istore_n 1, 1) := by decide +kernel
theorem dX12_bytesOf_2 : decode cX12_bytesOf 2 = .ok (.iconst 0, 1) := by decide +kernel
theorem dX12_bytesOf_3 : decode cX12_bytesOf 3 = .ok (.istore_n 2, 1) := by decide +kernel
theorem dX12_bytesOf_4 : decode cX12_bytesOf 4 = .ok (.iload_n 2, 1) := by decide +kernel
theorem dX12_bytesOf_5 : decode cX12_bytesOf 5 = .ok (.iconst 4, 1) := by decide +kernel
theorem dX12_bytesOf_6 : decode cX12_bytesOf 6 = .ok (.if_icmp .ge 30, 3) := by decide +kernel
theorem dX12_bytesOf_9 : decode cX12_bytesOf 9 = .ok (.iload_n 1, 1) := by decide +kernel
theorem dX12_bytesOf_10 : decode cX12_bytesOf 10 = .ok (.iload_n 0, 1) := by decide +kernel
theorem dX12_bytesOf_11 : decode cX12_bytesOf 11 = .ok (.bipush 8, 2) := by decide +kernel
theorem dX12_bytesOf_13 : decode cX12_bytesOf 13 = .ok (.iload_n 2, 1) := by decide +kernel
theorem dX12_bytesOf_14 : decode cX12_bytesOf 14 = .ok (.imul, 1) := by decide +kernel
theorem dX12_bytesOf_15 : decode cX12_bytesOf 15 = .ok (.ishr, 1) := by decide +kernel
theorem dX12_bytesOf_16 : decode cX12_bytesOf 16 = .ok (.sipush 255, 3) := by decide +kernel
theorem dX12_bytesOf_19 : decode cX12_bytesOf 19 = .ok (.iand, 1) := by decide +kernel
theorem dX12_bytesOf_20 : decode cX12_bytesOf 20 = .ok (.ifCond .ne 7, 3) := by decide +kernel
theorem dX12_bytesOf_23 : decode cX12_bytesOf 23 = .ok (.iconst 0, 1) := by decide +kernel
theorem dX12_bytesOf_24 : decode cX12_bytesOf 24 = .ok (.goto 4, 3) := by decide +kernel
theorem dX12_bytesOf_27 : decode cX12_bytesOf 27 = .ok (.iconst 1, 1) := by decide +kernel
theorem dX12_bytesOf_28 : decode cX12_bytesOf 28 = .ok (.iadd, 1) := by decide +kernel
theorem dX12_bytesOf_29 : decode cX12_bytesOf 29 = .ok (.istore_n 1, 1) := by decide +kernel
theorem dX12_bytesOf_30 : decode cX12_bytesOf 30 = .ok (.iinc 2 1, 3) := by decide +kernel
theorem dX12_bytesOf_33 : decode cX12_bytesOf 33 = .ok (.goto (-29), 3) := by decide +kernel
theorem dX12_bytesOf_36 : decode cX12_bytesOf 36 = .ok (.iload_n 1, 1) := by decide +kernel
theorem dX12_bytesOf_37 : decode cX12_bytesOf 37 = .ok (.ireturn, 1) := by decide +kernel
theorem dX12_brings_0 : decode cX12_brings 0 = .ok (.bipush 24, 2) := by decide +kernel
theorem dX12_brings_2 : decode cX12_brings 2 = .ok (.istore_n 2, 1) := by decide +kernel
theorem dX12_brings_3 : decode cX12_brings 3 = .ok (.iload_n 2, 1) := by decide +kernel
theorem dX12_brings_4 : decode cX12_brings 4 = .ok (.ifCond .lt 45, 3) := by decide +kernel
theorem dX12_brings_7 : decode cX12_brings 7 = .ok (.iload_n 1, 1) := by decide +kernel
theorem dX12_brings_8 : decode cX12_brings 8 = .ok (.iload_n 2, 1) := by decide +kernel
theorem dX12_brings_9 : decode cX12_brings 9 = .ok (.ishr, 1) := by decide +kernel
theorem dX12_brings_10 : decode cX12_brings 10 = .ok (.sipush 255, 3) := by decide +kernel
theorem dX12_brings_13 : decode cX12_brings 13 = .ok (.iand, 1) := by decide +kernel
theorem dX12_brings_14 : decode cX12_brings 14 = .ok (.istore_n 3, 1) := by decide +kernel
theorem dX12_brings_15 : decode cX12_brings 15 = .ok (.iload_n 3, 1) := by decide +kernel
theorem dX12_brings_16 : decode cX12_brings 16 = .ok (.ifCond .ne 6, 3) := by decide +kernel
theorem dX12_brings_19 : decode cX12_brings 19 = .ok (.goto 24, 3) := by decide +kernel
theorem dX12_brings_22 : decode cX12_brings 22 = .ok (.aload_n 0, 1) := by decide +kernel
theorem dX12_brings_23 : decode cX12_brings 23 = .ok (.getfield 9, 3) := by decide +kernel
theorem dX12_brings_26 : decode cX12_brings 26 = .ok (.aload_n 0, 1) := by decide +kernel
theorem dX12_brings_27 : decode cX12_brings 27 = .ok (.getfield 61, 3) := by decide +kernel
theorem dX12_brings_30 : decode cX12_brings 30 = .ok (.iload_n 3, 1) := by decide +kernel
theorem dX12_brings_31 : decode cX12_brings 31 = .ok (.i2b, 1) := by decide +kernel
theorem dX12_brings_32 : decode cX12_brings 32 = .ok (.bastore, 1) := by decide +kernel
theorem dX12_brings_33 : decode cX12_brings 33 = .ok (.aload_n 0, 1) := by decide +kernel
theorem dX12_brings_34 : decode cX12_brings 34 = .ok (.dup, 1) := by decide +kernel
theorem dX12_brings_35 : decode cX12_brings 35 = .ok (.getfield 61, 3) := by decide +kernel
theorem dX12_brings_38 : decode cX12_brings 38 = .ok (.iconst 1, 1) := by decide +kernel
theorem dX12_brings_39 : decode cX12_brings 39 = .ok (.iadd, 1) := by decide +kernel
theorem dX12_brings_40 : decode cX12_brings 40 = .ok (.putfield 61, 3) := by decide +kernel
theorem dX12_brings_43 : decode cX12_brings 43 = .ok (.iinc 2 (-8), 3) := by decide +kernel
theorem dX12_brings_46 : decode cX12_brings 46 = .ok (.goto (-43), 3) := by decide +kernel
theorem dX12_brings_49 : decode cX12_brings 49 = .ok (.return_, 1) := by decide +kernel
theorem dX12_feed_0 : decode cX12_feed 0 = .ok (.aload_n 0, 1) := by decide +kernel
theorem dX12_feed_1 : decode cX12_feed 1 = .ok (.iconst 0, 1) := by decide +kernel
theorem dX12_feed_2 : decode cX12_feed 2 = .ok (.putfield 57, 3) := by decide +kernel
theorem dX12_feed_5 : decode cX12_feed 5 = .ok (.aload_n 0, 1) := by decide +kernel
theorem dX12_feed_6 : decode cX12_feed 6 = .ok (.getfield 61, 3) := by decide +kernel
theorem dX12_feed_9 : decode cX12_feed 9 = .ok (.iload_n 1, 1) := by decide +kernel
theorem dX12_feed_10 : decode cX12_feed 10 = .ok (.invokestatic 64, 3) := by decide +kernel
theorem dX12_feed_13 : decode cX12_feed 13 = .ok (.iadd, 1) := by decide +kernel
theorem dX12_feed_14 : decode cX12_feed 14 = .ok (.iload_n 2, 1) := by decide +kernel
theorem dX12_feed_15 : decode cX12_feed 15 = .ok (.invokestatic 64, 3) := by decide +kernel
theorem dX12_feed_18 : decode cX12_feed 18 = .ok (.iadd, 1) := by decide +kernel
theorem dX12_feed_19 : decode cX12_feed 19 = .ok (.iload_n 3, 1) := by decide +kernel
theorem dX12_feed_20 : decode cX12_feed 20 = .ok (.invokestatic 64, 3) := by decide +kernel
theorem dX12_feed_23 : decode cX12_feed 23 = .ok (.iadd, 1) := by decide +kernel
theorem dX12_feed_24 : decode cX12_feed 24 = .ok (.iload 4, 2) := by decide +kernel
theorem dX12_feed_26 : decode cX12_feed 26 = .ok (.invokestatic 64, 3) := by decide +kernel
theorem dX12_feed_29 : decode cX12_feed 29 = .ok (.iadd, 1) := by decide +kernel
theorem dX12_feed_30 : decode cX12_feed 30 = .ok (.iload 5, 2) := by decide +kernel
theorem dX12_feed_32 : decode cX12_feed 32 = .ok (.invokestatic 64, 3) := by decide +kernel
theorem dX12_feed_35 : decode cX12_feed 35 = .ok (.iadd, 1) := by decide +kernel
theorem dX12_feed_36 : decode cX12_feed 36 = .ok (.sipush 280, 3) := by decide +kernel
theorem dX12_feed_39 : decode cX12_feed 39 = .ok (.if_icmp .le 5, 3) := by decide +kernel
theorem dX12_feed_42 : decode cX12_feed 42 = .ok (.iconst (-1), 1) := by decide +kernel
theorem dX12_feed_43 : decode cX12_feed 43 = .ok (.ireturn, 1) := by decide +kernel
theorem dX12_feed_44 : decode cX12_feed 44 = .ok (.aload_n 0, 1) := by decide +kernel
theorem dX12_feed_45 : decode cX12_feed 45 = .ok (.iload_n 1, 1) := by decide +kernel
theorem dX12_feed_46 : decode cX12_feed 46 = .ok (.invokevirtual 68, 3) := by decide +kernel
theorem dX12_feed_49 : decode cX12_feed 49 = .ok (.aload_n 0, 1) := by decide +kernel
theorem dX12_feed_50 : decode cX12_feed 50 = .ok (.iload_n 2, 1) := by decide +kernel
theorem dX12_feed_51 : decode cX12_feed 51 = .ok (.invokevirtual 68, 3) := by decide +kernel
theorem dX12_feed_54 : decode cX12_feed 54 = .ok (.aload_n 0, 1) := by decide +kernel
theorem dX12_feed_55 : decode cX12_feed 55 = .ok (.iload_n 3, 1) := by decide +kernel
theorem dX12_feed_56 : decode cX12_feed 56 = .ok (.invokevirtual 68, 3) := by decide +kernel
theorem dX12_feed_59 : decode cX12_feed 59 = .ok (.aload_n 0, 1) := by decide +kernel
theorem dX12_feed_60 : decode cX12_feed 60 = .ok (.iload 4, 2) := by decide +kernel
theorem dX12_feed_62 : decode cX12_feed 62 = .ok (.invokevirtual 68, 3) := by decide +kernel
theorem dX12_feed_65 : decode cX12_feed 65 = .ok (.aload_n 0, 1) := by decide +kernel
theorem dX12_feed_66 : decode cX12_feed 66 = .ok (.iload 5, 2) := by decide +kernel
theorem dX12_feed_68 : decode cX12_feed 68 = .ok (.invokevirtual 68, 3) := by decide +kernel
theorem dX12_feed_71 : decode cX12_feed 71 = .ok (.aload_n 0, 1) := by decide +kernel
theorem dX12_feed_72 : decode cX12_feed 72 = .ok (.getfield 61, 3) := by decide +kernel
theorem dX12_feed_75 : decode cX12_feed 75 = .ok (.ireturn, 1) := by decide +kernel
theorem dX12_end_0 : decode cX12_end 0 = .ok (.aload_n 0, 1) := by decide +kernel
theorem dX12_end_1 : decode cX12_end 1 = .ok (.iconst 0, 1) := by decide +kernel
theorem dX12_end_2 : decode cX12_end 2 = .ok (.putfield 57, 3) := by decide +kernel
theorem dX12_end_5 : decode cX12_end 5 = .ok (.iload_n 1, 1) := by decide +kernel
theorem dX12_end_6 : decode cX12_end 6 = .ok (.ifCond .lt 11, 3) := by decide +kernel
theorem dX12_end_9 : decode cX12_end 9 = .ok (.iload_n 1, 1) := by decide +kernel
theorem dX12_end_10 : decode cX12_end 10 = .ok (.aload_n 0, 1) := by decide +kernel
theorem dX12_end_11 : decode cX12_end 11 = .ok (.getfield 61, 3) := by decide +kernel
theorem dX12_end_14 : decode cX12_end 14 = .ok (.if_icmp .le 5, 3) := by decide +kernel
theorem dX12_end_17 : decode cX12_end 17 = .ok (.iconst 0, 1) := by decide +kernel
theorem dX12_end_18 : decode cX12_end 18 = .ok (.ireturn, 1) := by decide +kernel
theorem dX12_end_19 : decode cX12_end 19 = .ok (.aload_n 0, 1) := by decide +kernel
theorem dX12_end_20 : decode cX12_end 20 = .ok (.iload_n 1, 1) := by decide +kernel
theorem dX12_end_21 : decode cX12_end 21 = .ok (.putfield 61, 3) := by decide +kernel
theorem dX12_end_24 : decode cX12_end 24 = .ok (.iconst 1, 1) := by decide +kernel
theorem dX12_end_25 : decode cX12_end 25 = .ok (.ireturn, 1) := by decide +kernel
theorem dX12_here_0 : decode cX12_here 0 = .ok (.aload_n 0, 1) := by decide +kernel
theorem dX12_here_1 : decode cX12_here 1 = .ok (.getfield 72, 3) := by decide +kernel
theorem dX12_here_4 : decode cX12_here 4 = .ok (.aload_n 0, 1) := by decide +kernel
theorem dX12_here_5 : decode cX12_here 5 = .ok (.getfield 61, 3) := by decide +kernel
theorem dX12_here_8 : decode cX12_here 8 = .ok (.if_icmp .ge 19, 3) := by decide +kernel
theorem dX12_here_11 : decode cX12_here 11 = .ok (.aload_n 0, 1) := by decide +kernel
theorem dX12_here_12 : decode cX12_here 12 = .ok (.getfield 9, 3) := by decide +kernel
theorem dX12_here_15 : decode cX12_here 15 = .ok (.aload_n 0, 1) := by decide +kernel
theorem dX12_here_16 : decode cX12_here 16 = .ok (.getfield 72, 3) := by decide +kernel
theorem dX12_here_19 : decode cX12_here 19 = .ok (.baload, 1) := by decide +kernel
theorem dX12_here_20 : decode cX12_here 20 = .ok (.sipush 255, 3) := by decide +kernel
theorem dX12_here_23 : decode cX12_here 23 = .ok (.iand, 1) := by decide +kernel
theorem dX12_here_24 : decode cX12_here 24 = .ok (.goto 4, 3) := by decide +kernel
theorem dX12_here_27 : decode cX12_here 27 = .ok (.iconst (-1), 1) := by decide +kernel
theorem dX12_here_28 : decode cX12_here 28 = .ok (.ireturn, 1) := by decide +kernel
theorem dX12_look_0 : decode cX12_look 0 = .ok (.aload_n 0, 1) := by decide +kernel
theorem dX12_look_1 : decode cX12_look 1 = .ok (.invokevirtual 75, 3) := by decide +kernel
theorem dX12_look_4 : decode cX12_look 4 = .ok (.bipush 32, 2) := by decide +kernel
theorem dX12_look_6 : decode cX12_look 6 = .ok (.if_icmp .ne 16, 3) := by decide +kernel
theorem dX12_look_9 : decode cX12_look 9 = .ok (.aload_n 0, 1) := by decide +kernel
theorem dX12_look_10 : decode cX12_look 10 = .ok (.dup, 1) := by decide +kernel
theorem dX12_look_11 : decode cX12_look 11 = .ok (.getfield 72, 3) := by decide +kernel
theorem dX12_look_14 : decode cX12_look 14 = .ok (.iconst 1, 1) := by decide +kernel
theorem dX12_look_15 : decode cX12_look 15 = .ok (.iadd, 1) := by decide +kernel
theorem dX12_look_16 : decode cX12_look 16 = .ok (.putfield 72, 3) := by decide +kernel
theorem dX12_look_19 : decode cX12_look 19 = .ok (.goto (-19), 3) := by decide +kernel
theorem dX12_look_22 : decode cX12_look 22 = .ok (.aload_n 0, 1) := by decide +kernel
theorem dX12_look_23 : decode cX12_look 23 = .ok (.invokevirtual 75, 3) := by decide +kernel
theorem dX12_look_26 : decode cX12_look 26 = .ok (.ireturn, 1) := by decide +kernel
theorem dX12_fails_0 : decode cX12_fails 0 = .ok (.aload_n 0, 1) := by decide +kernel
theorem dX12_fails_1 : decode cX12_fails 1 = .ok (.getfield 79, 3) := by decide +kernel
theorem dX12_fails_4 : decode cX12_fails 4 = .ok (.iconst (-1), 1) := by decide +kernel
theorem dX12_fails_5 : decode cX12_fails 5 = .ok (.if_icmp .ne 11, 3) := by decide +kernel
theorem dX12_fails_8 : decode cX12_fails 8 = .ok (.aload_n 0, 1) := by decide +kernel
theorem dX12_fails_9 : decode cX12_fails 9 = .ok (.aload_n 0, 1) := by decide +kernel
theorem dX12_fails_10 : decode cX12_fails 10 = .ok (.getfield 72, 3) := by decide +kernel
theorem dX12_fails_13 : decode cX12_fails 13 = .ok (.putfield 79, 3) := by decide +kernel
theorem dX12_fails_16 : decode cX12_fails 16 = .ok (.return_, 1) := by decide +kernel
theorem dX12_isDigit_0 : decode cX12_isDigit 0 = .ok (.aload_n 0, 1) := by decide +kernel
theorem dX12_isDigit_1 : decode cX12_isDigit 1 = .ok (.invokevirtual 75, 3) := by decide +kernel
theorem dX12_isDigit_4 : decode cX12_isDigit 4 = .ok (.bipush 48, 2) := by decide +kernel
theorem dX12_isDigit_6 : decode cX12_isDigit 6 = .ok (.if_icmp .lt 16, 3) := by decide +kernel
theorem dX12_isDigit_9 : decode cX12_isDigit 9 = .ok (.aload_n 0, 1) := by decide +kernel
theorem dX12_isDigit_10 : decode cX12_isDigit 10 = .ok (.invokevirtual 75, 3) := by decide +kernel
theorem dX12_isDigit_13 : decode cX12_isDigit 13 = .ok (.bipush 57, 2) := by decide +kernel
theorem dX12_isDigit_15 : decode cX12_isDigit 15 = .ok (.if_icmp .gt 7, 3) := by decide +kernel
theorem dX12_isDigit_18 : decode cX12_isDigit 18 = .ok (.iconst 1, 1) := by decide +kernel
theorem dX12_isDigit_19 : decode cX12_isDigit 19 = .ok (.goto 4, 3) := by decide +kernel
theorem dX12_isDigit_22 : decode cX12_isDigit 22 = .ok (.iconst 0, 1) := by decide +kernel
theorem dX12_isDigit_23 : decode cX12_isDigit 23 = .ok (.ireturn, 1) := by decide +kernel
theorem dX12_digit_0 : decode cX12_digit 0 = .ok (.aload_n 0, 1) := by decide +kernel
theorem dX12_digit_1 : decode cX12_digit 1 = .ok (.invokevirtual 82, 3) := by decide +kernel
theorem dX12_digit_4 : decode cX12_digit 4 = .ok (.istore_n 1, 1) := by decide +kernel
theorem dX12_digit_5 : decode cX12_digit 5 = .ok (.aload_n 0, 1) := by decide +kernel
theorem dX12_digit_6 : decode cX12_digit 6 = .ok (.getfield 79, 3) := by decide +kernel
theorem dX12_digit_9 : decode cX12_digit 9 = .ok (.iconst (-1), 1) := by decide +kernel
theorem dX12_digit_10 : decode cX12_digit 10 = .ok (.if_icmp .ne 10, 3) := by decide +kernel
theorem dX12_digit_13 : decode cX12_digit 13 = .ok (.aload_n 0, 1) := by decide +kernel
theorem dX12_digit_14 : decode cX12_digit 14 = .ok (.invokevirtual 85, 3) := by decide +kernel
theorem dX12_digit_17 : decode cX12_digit 17 = .ok (.ifCond .ne 9, 3) := by decide +kernel
theorem dX12_digit_20 : decode cX12_digit 20 = .ok (.aload_n 0, 1) := by decide +kernel
theorem dX12_digit_21 : decode cX12_digit 21 = .ok (.invokevirtual 89, 3) := by decide +kernel
theorem dX12_digit_24 : decode cX12_digit 24 = .ok (.iconst 0, 1) := by decide +kernel
theorem dX12_digit_25 : decode cX12_digit 25 = .ok (.ireturn, 1) := by decide +kernel
theorem dX12_digit_26 : decode cX12_digit 26 = .ok (.aload_n 0, 1) := by decide +kernel
theorem dX12_digit_27 : decode cX12_digit 27 = .ok (.dup, 1) := by decide +kernel
theorem dX12_digit_28 : decode cX12_digit 28 = .ok (.getfield 72, 3) := by decide +kernel
theorem dX12_digit_31 : decode cX12_digit 31 = .ok (.iconst 1, 1) := by decide +kernel
theorem dX12_digit_32 : decode cX12_digit 32 = .ok (.iadd, 1) := by decide +kernel
theorem dX12_digit_33 : decode cX12_digit 33 = .ok (.putfield 72, 3) := by decide +kernel
theorem dX12_digit_36 : decode cX12_digit 36 = .ok (.iload_n 1, 1) := by decide +kernel
theorem dX12_digit_37 : decode cX12_digit 37 = .ok (.bipush 48, 2) := by decide +kernel
theorem dX12_digit_39 : decode cX12_digit 39 = .ok (.isub, 1) := by decide +kernel
theorem dX12_digit_40 : decode cX12_digit 40 = .ok (.ireturn, 1) := by decide +kernel
theorem dX12_number_0 : decode cX12_number 0 = .ok (.aload_n 0, 1) := by decide +kernel
theorem dX12_number_1 : decode cX12_number 1 = .ok (.invokevirtual 92, 3) := by decide +kernel
theorem dX12_number_4 : decode cX12_number 4 = .ok (.istore_n 1, 1) := by decide +kernel
theorem dX12_number_5 : decode cX12_number 5 = .ok (.iconst 1, 1) := by decide +kernel
theorem dX12_number_6 : decode cX12_number 6 = .ok (.istore_n 2, 1) := by decide +kernel
theorem dX12_number_7 : decode cX12_number 7 = .ok (.iload_n 2, 1) := by decide +kernel
theorem dX12_number_8 : decode cX12_number 8 = .ok (.iconst 3, 1) := by decide +kernel
theorem dX12_number_9 : decode cX12_number 9 = .ok (.if_icmp .ge 34, 3) := by decide +kernel
theorem dX12_number_12 : decode cX12_number 12 = .ok (.aload_n 0, 1) := by decide +kernel
theorem dX12_number_13 : decode cX12_number 13 = .ok (.getfield 79, 3) := by decide +kernel
theorem dX12_number_16 : decode cX12_number 16 = .ok (.iconst (-1), 1) := by decide +kernel
theorem dX12_number_17 : decode cX12_number 17 = .ok (.if_icmp .ne 26, 3) := by decide +kernel
theorem dX12_number_20 : decode cX12_number 20 = .ok (.aload_n 0, 1) := by decide +kernel
theorem dX12_number_21 : decode cX12_number 21 = .ok (.invokevirtual 85, 3) := by decide +kernel
theorem dX12_number_24 : decode cX12_number 24 = .ok (.ifCond .eq 19, 3) := by decide +kernel
theorem dX12_number_27 : decode cX12_number 27 = .ok (.bipush 10, 2) := by decide +kernel
theorem dX12_number_29 : decode cX12_number 29 = .ok (.iload_n 1, 1) := by decide +kernel
theorem dX12_number_30 : decode cX12_number 30 = .ok (.imul, 1) := by decide +kernel
theorem dX12_number_31 : decode cX12_number 31 = .ok (.aload_n 0, 1) := by decide +kernel
theorem dX12_number_32 : decode cX12_number 32 = .ok (.invokevirtual 92, 3) := by decide +kernel
theorem dX12_number_35 : decode cX12_number 35 = .ok (.iadd, 1) := by decide +kernel
theorem dX12_number_36 : decode cX12_number 36 = .ok (.istore_n 1, 1) := by decide +kernel
theorem dX12_number_37 : decode cX12_number 37 = .ok (.iinc 2 1, 3) := by decide +kernel
theorem dX12_number_40 : decode cX12_number 40 = .ok (.goto (-33), 3) := by decide +kernel
theorem dX12_number_43 : decode cX12_number 43 = .ok (.aload_n 0, 1) := by decide +kernel
theorem dX12_number_44 : decode cX12_number 44 = .ok (.getfield 79, 3) := by decide +kernel
theorem dX12_number_47 : decode cX12_number 47 = .ok (.iconst (-1), 1) := by decide +kernel
theorem dX12_number_48 : decode cX12_number 48 = .ok (.if_icmp .ne 14, 3) := by decide +kernel
theorem dX12_number_51 : decode cX12_number 51 = .ok (.aload_n 0, 1) := by decide +kernel
theorem dX12_number_52 : decode cX12_number 52 = .ok (.invokevirtual 85, 3) := by decide +kernel
theorem dX12_number_55 : decode cX12_number 55 = .ok (.ifCond .eq 7, 3) := by decide +kernel
theorem dX12_number_58 : decode cX12_number 58 = .ok (.aload_n 0, 1) := by decide +kernel
theorem dX12_number_59 : decode cX12_number 59 = .ok (.invokevirtual 89, 3) := by decide +kernel
theorem dX12_number_62 : decode cX12_number 62 = .ok (.iload_n 1, 1) := by decide +kernel
theorem dX12_number_63 : decode cX12_number 63 = .ok (.ireturn, 1) := by decide +kernel
theorem dX12_spotOf_0 : decode cX12_spotOf 0 = .ok (.iconst 0, 1) := by decide +kernel
theorem dX12_spotOf_1 : decode cX12_spotOf 1 = .ok (.istore_n 2, 1) := by decide +kernel
theorem dX12_spotOf_2 : decode cX12_spotOf 2 = .ok (.iload_n 2, 1) := by decide +kernel
theorem dX12_spotOf_3 : decode cX12_spotOf 3 = .ok (.aload_n 0, 1) := by decide +kernel
theorem dX12_spotOf_4 : decode cX12_spotOf 4 = .ok (.invokevirtual 95, 3) := by decide +kernel
theorem dX12_spotOf_7 : decode cX12_spotOf 7 = .ok (.if_icmp .ge 20, 3) := by decide +kernel
theorem dX12_spotOf_10 : decode cX12_spotOf 10 = .ok (.aload_n 0, 1) := by decide +kernel
theorem dX12_spotOf_11 : decode cX12_spotOf 11 = .ok (.iload_n 2, 1) := by decide +kernel
theorem dX12_spotOf_12 : decode cX12_spotOf 12 = .ok (.invokevirtual 99, 3) := by decide +kernel
theorem dX12_spotOf_15 : decode cX12_spotOf 15 = .ok (.iload_n 1, 1) := by decide +kernel
theorem dX12_spotOf_16 : decode cX12_spotOf 16 = .ok (.if_icmp .ne 5, 3) := by decide +kernel
theorem dX12_spotOf_19 : decode cX12_spotOf 19 = .ok (.iload_n 2, 1) := by decide +kernel
theorem dX12_spotOf_20 : decode cX12_spotOf 20 = .ok (.ireturn, 1) := by decide +kernel
theorem dX12_spotOf_21 : decode cX12_spotOf 21 = .ok (.iinc 2 1, 3) := by decide +kernel
theorem dX12_spotOf_24 : decode cX12_spotOf 24 = .ok (.goto (-22), 3) := by decide +kernel
theorem dX12_spotOf_27 : decode cX12_spotOf 27 = .ok (.iconst (-1), 1) := by decide +kernel
theorem dX12_spotOf_28 : decode cX12_spotOf 28 = .ok (.ireturn, 1) := by decide +kernel
theorem dX12_leastOf_0 : decode cX12_leastOf 0 = .ok (.iload_n 0, 1) := by decide +kernel
theorem dX12_leastOf_1 : decode cX12_leastOf 1 = .ok (.ifCond .eq 20, 3) := by decide +kernel
theorem dX12_leastOf_4 : decode cX12_leastOf 4 = .ok (.iload_n 1, 1) := by decide +kernel
theorem dX12_leastOf_5 : decode cX12_leastOf 5 = .ok (.iconst 3, 1) := by decide +kernel
theorem dX12_leastOf_6 : decode cX12_leastOf 6 = .ok (.if_icmp .ge 15, 3) := by decide +kernel
theorem dX12_leastOf_9 : decode cX12_leastOf 9 = .ok (.iload_n 1, 1) := by decide +kernel
theorem dX12_leastOf_10 : decode cX12_leastOf 10 = .ok (.ifCond .ne 7, 3) := by decide +kernel
theorem dX12_leastOf_13 : decode cX12_leastOf 13 = .ok (.iconst 2, 1) := by decide +kernel
theorem dX12_leastOf_14 : decode cX12_leastOf 14 = .ok (.goto 8, 3) := by decide +kernel
theorem dX12_leastOf_17 : decode cX12_leastOf 17 = .ok (.iconst 1, 1) := by decide +kernel
theorem dX12_leastOf_18 : decode cX12_leastOf 18 = .ok (.goto 4, 3) := by decide +kernel
theorem dX12_leastOf_21 : decode cX12_leastOf 21 = .ok (.iconst 0, 1) := by decide +kernel
theorem dX12_leastOf_22 : decode cX12_leastOf 22 = .ok (.ireturn, 1) := by decide +kernel
theorem dX12_mostOf_0 : decode cX12_mostOf 0 = .ok (.iload_n 1, 1) := by decide +kernel
theorem dX12_mostOf_1 : decode cX12_mostOf 1 = .ok (.tableswitch 61 0 3 #[31, 44, 57, 59], 31) := by decide +kernel
theorem dX12_mostOf_32 : decode cX12_mostOf 32 = .ok (.iload_n 0, 1) := by decide +kernel
theorem dX12_mostOf_33 : decode cX12_mostOf 33 = .ok (.ifCond .eq 8, 3) := by decide +kernel
theorem dX12_mostOf_36 : decode cX12_mostOf 36 = .ok (.bipush 6, 2) := by decide +kernel
theorem dX12_mostOf_38 : decode cX12_mostOf 38 = .ok (.goto 6, 3) := by decide +kernel
theorem dX12_mostOf_41 : decode cX12_mostOf 41 = .ok (.sipush 287, 3) := by decide +kernel
theorem dX12_mostOf_44 : decode cX12_mostOf 44 = .ok (.ireturn, 1) := by decide +kernel
theorem dX12_mostOf_45 : decode cX12_mostOf 45 = .ok (.iload_n 0, 1) := by decide +kernel
theorem dX12_mostOf_46 : decode cX12_mostOf 46 = .ok (.ifCond .eq 8, 3) := by decide +kernel
theorem dX12_mostOf_49 : decode cX12_mostOf 49 = .ok (.bipush 12, 2) := by decide +kernel
theorem dX12_mostOf_51 : decode cX12_mostOf 51 = .ok (.goto 6, 3) := by decide +kernel
theorem dX12_mostOf_54 : decode cX12_mostOf 54 = .ok (.sipush 255, 3) := by decide +kernel
theorem dX12_mostOf_57 : decode cX12_mostOf 57 = .ok (.ireturn, 1) := by decide +kernel
theorem dX12_mostOf_58 : decode cX12_mostOf 58 = .ok (.iconst 4, 1) := by decide +kernel
theorem dX12_mostOf_59 : decode cX12_mostOf 59 = .ok (.ireturn, 1) := by decide +kernel
theorem dX12_mostOf_60 : decode cX12_mostOf 60 = .ok (.iconst 3, 1) := by decide +kernel
theorem dX12_mostOf_61 : decode cX12_mostOf 61 = .ok (.ireturn, 1) := by decide +kernel
theorem dX12_mostOf_62 : decode cX12_mostOf 62 = .ok (.bipush 9, 2) := by decide +kernel
theorem dX12_mostOf_64 : decode cX12_mostOf 64 = .ok (.ireturn, 1) := by decide +kernel
theorem dX12_items_0 : decode cX12_items 0 = .ok (.aload_n 3, 1) := by decide +kernel
theorem dX12_items_1 : decode cX12_items 1 = .ok (.invokevirtual 95, 3) := by decide +kernel
theorem dX12_items_4 : decode cX12_items 4 = .ok (.iconst 5, 1) := by decide +kernel
theorem dX12_items_5 : decode cX12_items 5 = .ok (.if_icmp .ne 7, 3) := by decide +kernel
theorem dX12_items_8 : decode cX12_items 8 = .ok (.iconst 1, 1) := by decide +kernel
theorem dX12_items_9 : decode cX12_items 9 = .ok (.goto 4, 3) := by decide +kernel
theorem dX12_items_12 : decode cX12_items 12 = .ok (.iconst 0, 1) := by decide +kernel
theorem dX12_items_13 : decode cX12_items 13 = .ok (.istore 4, 2) := by decide +kernel
theorem dX12_items_15 : decode cX12_items 15 = .ok (.iconst 0, 1) := by decide +kernel
theorem dX12_items_16 : decode cX12_items 16 = .ok (.istore 5, 2) := by decide +kernel
theorem dX12_items_18 : decode cX12_items 18 = .ok (.aload_n 3, 1) := by decide +kernel
theorem dX12_items_19 : decode cX12_items 19 = .ok (.aload_n 0, 1) := by decide +kernel
theorem dX12_items_20 : decode cX12_items 20 = .ok (.invokevirtual 82, 3) := by decide +kernel
theorem dX12_items_23 : decode cX12_items 23 = .ok (.invokestatic 103, 3) := by decide +kernel
theorem dX12_items_26 : decode cX12_items 26 = .ok (.istore 6, 2) := by decide +kernel
theorem dX12_items_28 : decode cX12_items 28 = .ok (.iload 6, 2) := by decide +kernel
theorem dX12_items_30 : decode cX12_items 30 = .ok (.iconst (-1), 1) := by decide +kernel
theorem dX12_items_31 : decode cX12_items 31 = .ok (.if_icmp .eq 114, 3) := by decide +kernel
theorem dX12_items_34 : decode cX12_items 34 = .ok (.iload 5, 2) := by decide +kernel
theorem dX12_items_36 : decode cX12_items 36 = .ok (.iload 6, 2) := by decide +kernel
theorem dX12_items_38 : decode cX12_items 38 = .ok (.ishr, 1) := by decide +kernel
theorem dX12_items_39 : decode cX12_items 39 = .ok (.iconst 1, 1) := by decide +kernel
theorem dX12_items_40 : decode cX12_items 40 = .ok (.iand, 1) := by decide +kernel
theorem dX12_items_41 : decode cX12_items 41 = .ok (.iconst 1, 1) := by decide +kernel
theorem dX12_items_42 : decode cX12_items 42 = .ok (.if_icmp .ne 8, 3) := by decide +kernel
theorem dX12_items_45 : decode cX12_items 45 = .ok (.aload_n 0, 1) := by decide +kernel
theorem dX12_items_46 : decode cX12_items 46 = .ok (.invokevirtual 89, 3) := by decide +kernel
theorem dX12_items_49 : decode cX12_items 49 = .ok (.return_, 1) := by decide +kernel
theorem dX12_items_50 : decode cX12_items 50 = .ok (.iload 5, 2) := by decide +kernel
theorem dX12_items_52 : decode cX12_items 52 = .ok (.iconst 1, 1) := by decide +kernel
theorem dX12_items_53 : decode cX12_items 53 = .ok (.iload 6, 2) := by decide +kernel
theorem dX12_items_55 : decode cX12_items 55 = .ok (.ishl, 1) := by decide +kernel
theorem dX12_items_56 : decode cX12_items 56 = .ok (.ior, 1) := by decide +kernel
theorem dX12_items_57 : decode cX12_items 57 = .ok (.istore 5, 2) := by decide +kernel
theorem dX12_items_59 : decode cX12_items 59 = .ok (.aload_n 0, 1) := by decide +kernel
theorem dX12_items_60 : decode cX12_items 60 = .ok (.dup, 1) := by decide +kernel
theorem dX12_items_61 : decode cX12_items 61 = .ok (.getfield 72, 3) := by decide +kernel
theorem dX12_items_64 : decode cX12_items 64 = .ok (.iconst 1, 1) := by decide +kernel
theorem dX12_items_65 : decode cX12_items 65 = .ok (.iadd, 1) := by decide +kernel
theorem dX12_items_66 : decode cX12_items 66 = .ok (.putfield 72, 3) := by decide +kernel
theorem dX12_items_69 : decode cX12_items 69 = .ok (.aload_n 1, 1) := by decide +kernel
theorem dX12_items_70 : decode cX12_items 70 = .ok (.iload_n 2, 1) := by decide +kernel
theorem dX12_items_71 : decode cX12_items 71 = .ok (.iload 6, 2) := by decide +kernel
theorem dX12_items_73 : decode cX12_items 73 = .ok (.iadd, 1) := by decide +kernel
theorem dX12_items_74 : decode cX12_items 74 = .ok (.aload_n 0, 1) := by decide +kernel
theorem dX12_items_75 : decode cX12_items 75 = .ok (.invokevirtual 107, 3) := by decide +kernel
theorem dX12_items_78 : decode cX12_items 78 = .ok (.iastore, 1) := by decide +kernel
theorem dX12_items_79 : decode cX12_items 79 = .ok (.aload_n 0, 1) := by decide +kernel
theorem dX12_items_80 : decode cX12_items 80 = .ok (.getfield 79, 3) := by decide +kernel
theorem dX12_items_83 : decode cX12_items 83 = .ok (.iconst (-1), 1) := by decide +kernel
theorem dX12_items_84 : decode cX12_items 84 = .ok (.if_icmp .eq 4, 3) := by decide +kernel
theorem dX12_items_87 : decode cX12_items 87 = .ok (.return_, 1) := by decide +kernel
theorem dX12_items_88 : decode cX12_items 88 = .ok (.aload_n 1, 1) := by decide +kernel
theorem dX12_items_89 : decode cX12_items 89 = .ok (.iload_n 2, 1) := by decide +kernel
theorem dX12_items_90 : decode cX12_items 90 = .ok (.iload 6, 2) := by decide +kernel
theorem dX12_items_92 : decode cX12_items 92 = .ok (.iadd, 1) := by decide +kernel
theorem dX12_items_93 : decode cX12_items 93 = .ok (.iaload, 1) := by decide +kernel
theorem dX12_items_94 : decode cX12_items 94 = .ok (.i2l, 1) := by decide +kernel
theorem dX12_items_95 : decode cX12_items 95 = .ok (.iload 4, 2) := by decide +kernel
theorem dX12_items_97 : decode cX12_items 97 = .ok (.iload 6, 2) := by decide +kernel
theorem dX12_items_99 : decode cX12_items 99 = .ok (.invokestatic 110, 3) := by decide +kernel
theorem dX12_items_102 : decode cX12_items 102 = .ok (.i2l, 1) := by decide +kernel
theorem dX12_items_103 : decode cX12_items 103 = .ok (.iload 4, 2) := by decide +kernel
theorem dX12_items_105 : decode cX12_items 105 = .ok (.iload 6, 2) := by decide +kernel
theorem dX12_items_107 : decode cX12_items 107 = .ok (.invokestatic 114, 3) := by decide +kernel
theorem dX12_items_110 : decode cX12_items 110 = .ok (.i2l, 1) := by decide +kernel
theorem dX12_items_111 : decode cX12_items 111 = .ok (.invokestatic 117, 3) := by decide +kernel
theorem dX12_items_114 : decode cX12_items 114 = .ok (.ifCond .ne 18, 3) := by decide +kernel
theorem dX12_items_117 : decode cX12_items 117 = .ok (.aload_n 0, 1) := by decide +kernel
theorem dX12_items_118 : decode cX12_items 118 = .ok (.dup, 1) := by decide +kernel
theorem dX12_items_119 : decode cX12_items 119 = .ok (.getfield 72, 3) := by decide +kernel
theorem dX12_items_122 : decode cX12_items 122 = .ok (.iconst 1, 1) := by decide +kernel
theorem dX12_items_123 : decode cX12_items 123 = .ok (.isub, 1) := by decide +kernel
theorem dX12_items_124 : decode cX12_items 124 = .ok (.putfield 72, 3) := by decide +kernel
theorem dX12_items_127 : decode cX12_items 127 = .ok (.aload_n 0, 1) := by decide +kernel
theorem dX12_items_128 : decode cX12_items 128 = .ok (.invokevirtual 89, 3) := by decide +kernel
theorem dX12_items_131 : decode cX12_items 131 = .ok (.return_, 1) := by decide +kernel
theorem dX12_items_132 : decode cX12_items 132 = .ok (.aload_n 3, 1) := by decide +kernel
theorem dX12_items_133 : decode cX12_items 133 = .ok (.aload_n 0, 1) := by decide +kernel
theorem dX12_items_134 : decode cX12_items 134 = .ok (.invokevirtual 82, 3) := by decide +kernel
theorem dX12_items_137 : decode cX12_items 137 = .ok (.invokestatic 103, 3) := by decide +kernel
theorem dX12_items_140 : decode cX12_items 140 = .ok (.istore 6, 2) := by decide +kernel
theorem dX12_items_142 : decode cX12_items 142 = .ok (.goto (-114), 3) := by decide +kernel
theorem dX12_items_145 : decode cX12_items 145 = .ok (.return_, 1) := by decide +kernel
theorem dX12_clause_0 : decode cX12_clause 0 = .ok (.aload_n 0, 1) := by decide +kernel
theorem dX12_clause_1 : decode cX12_clause 1 = .ok (.invokevirtual 82, 3) := by decide +kernel
theorem dX12_clause_4 : decode cX12_clause 4 = .ok (.bipush 115, 2) := by decide +kernel
theorem dX12_clause_6 : decode cX12_clause 6 = .ok (.if_icmp .ne 7, 3) := by decide +kernel
theorem dX12_clause_9 : decode cX12_clause 9 = .ok (.iconst 1, 1) := by decide +kernel
theorem dX12_clause_10 : decode cX12_clause 10 = .ok (.goto 4, 3) := by decide +kernel
theorem dX12_clause_13 : decode cX12_clause 13 = .ok (.iconst 0, 1) := by decide +kernel
theorem dX12_clause_14 : decode cX12_clause 14 = .ok (.istore_n 2, 1) := by decide +kernel
theorem dX12_clause_15 : decode cX12_clause 15 = .ok (.iload_n 2, 1) := by decide +kernel
theorem dX12_clause_16 : decode cX12_clause 16 = .ok (.ifCond .eq 10, 3) := by decide +kernel
theorem dX12_clause_19 : decode cX12_clause 19 = .ok (.iload_n 1, 1) := by decide +kernel
theorem dX12_clause_20 : decode cX12_clause 20 = .ok (.ifCond .eq 30, 3) := by decide +kernel
theorem dX12_clause_23 : decode cX12_clause 23 = .ok (.goto 21, 3) := by decide +kernel
theorem dX12_clause_26 : decode cX12_clause 26 = .ok (.aload_n 0, 1) := by decide +kernel
theorem dX12_clause_27 : decode cX12_clause 27 = .ok (.invokevirtual 82, 3) := by decide +kernel
theorem dX12_clause_30 : decode cX12_clause 30 = .ok (.bipush 118, 2) := by decide +kernel
theorem dX12_clause_32 : decode cX12_clause 32 = .ok (.if_icmp .ne 12, 3) := by decide +kernel
theorem dX12_clause_35 : decode cX12_clause 35 = .ok (.aload_n 0, 1) := by decide +kernel
theorem dX12_clause_36 : decode cX12_clause 36 = .ok (.getfield 121, 3) := by decide +kernel
theorem dX12_clause_39 : decode cX12_clause 39 = .ok (.bipush 16, 2) := by decide +kernel
theorem dX12_clause_41 : decode cX12_clause 41 = .ok (.if_icmp .ne 9, 3) := by decide +kernel
theorem dX12_clause_44 : decode cX12_clause 44 = .ok (.aload_n 0, 1) := by decide +kernel
theorem dX12_clause_45 : decode cX12_clause 45 = .ok (.invokevirtual 89, 3) := by decide +kernel
theorem dX12_clause_48 : decode cX12_clause 48 = .ok (.iload_n 1, 1) := by decide +kernel
theorem dX12_clause_49 : decode cX12_clause 49 = .ok (.ireturn, 1) := by decide +kernel
theorem dX12_clause_50 : decode cX12_clause 50 = .ok (.aload_n 0, 1) := by decide +kernel
theorem dX12_clause_51 : decode cX12_clause 51 = .ok (.dup, 1) := by decide +kernel
theorem dX12_clause_52 : decode cX12_clause 52 = .ok (.getfield 72, 3) := by decide +kernel
theorem dX12_clause_55 : decode cX12_clause 55 = .ok (.iconst 1, 1) := by decide +kernel
theorem dX12_clause_56 : decode cX12_clause 56 = .ok (.iadd, 1) := by decide +kernel
theorem dX12_clause_57 : decode cX12_clause 57 = .ok (.putfield 72, 3) := by decide +kernel
theorem dX12_clause_60 : decode cX12_clause 60 = .ok (.iload_n 2, 1) := by decide +kernel
theorem dX12_clause_61 : decode cX12_clause 61 = .ok (.ifCond .eq 16, 3) := by decide +kernel
theorem dX12_clause_64 : decode cX12_clause 64 = .ok (.aload_n 0, 1) := by decide +kernel
theorem dX12_clause_65 : decode cX12_clause 65 = .ok (.aload_n 0, 1) := by decide +kernel
theorem dX12_clause_66 : decode cX12_clause 66 = .ok (.getfield 13, 3) := by decide +kernel
theorem dX12_clause_69 : decode cX12_clause 69 = .ok (.iconst 0, 1) := by decide +kernel
theorem dX12_clause_70 : decode cX12_clause 70 = .ok (.ldc 124, 2) := by decide +kernel
theorem dX12_clause_72 : decode cX12_clause 72 = .ok (.invokevirtual 126, 3) := by decide +kernel
theorem dX12_clause_75 : decode cX12_clause 75 = .ok (.iconst 1, 1) := by decide +kernel
theorem dX12_clause_76 : decode cX12_clause 76 = .ok (.ireturn, 1) := by decide +kernel
theorem dX12_clause_77 : decode cX12_clause 77 = .ok (.aload_n 0, 1) := by decide +kernel
theorem dX12_clause_78 : decode cX12_clause 78 = .ok (.getfield 20, 3) := by decide +kernel
theorem dX12_clause_81 : decode cX12_clause 81 = .ok (.iconst 2, 1) := by decide +kernel
theorem dX12_clause_82 : decode cX12_clause 82 = .ok (.aload_n 0, 1) := by decide +kernel
theorem dX12_clause_83 : decode cX12_clause 83 = .ok (.getfield 121, 3) := by decide +kernel
theorem dX12_clause_86 : decode cX12_clause 86 = .ok (.imul, 1) := by decide +kernel
theorem dX12_clause_87 : decode cX12_clause 87 = .ok (.iconst 0, 1) := by decide +kernel
theorem dX12_clause_88 : decode cX12_clause 88 = .ok (.iastore, 1) := by decide +kernel
theorem dX12_clause_89 : decode cX12_clause 89 = .ok (.aload_n 0, 1) := by decide +kernel
theorem dX12_clause_90 : decode cX12_clause 90 = .ok (.getfield 20, 3) := by decide +kernel
theorem dX12_clause_93 : decode cX12_clause 93 = .ok (.iconst 2, 1) := by decide +kernel
theorem dX12_clause_94 : decode cX12_clause 94 = .ok (.aload_n 0, 1) := by decide +kernel
theorem dX12_clause_95 : decode cX12_clause 95 = .ok (.getfield 121, 3) := by decide +kernel
theorem dX12_clause_98 : decode cX12_clause 98 = .ok (.imul, 1) := by decide +kernel
theorem dX12_clause_99 : decode cX12_clause 99 = .ok (.iconst 1, 1) := by decide +kernel
theorem dX12_clause_100 : decode cX12_clause 100 = .ok (.iadd, 1) := by decide +kernel
theorem dX12_clause_101 : decode cX12_clause 101 = .ok (.iconst 1, 1) := by decide +kernel
theorem dX12_clause_102 : decode cX12_clause 102 = .ok (.iastore, 1) := by decide +kernel
theorem dX12_clause_103 : decode cX12_clause 103 = .ok (.aload_n 0, 1) := by decide +kernel
theorem dX12_clause_104 : decode cX12_clause 104 = .ok (.dup, 1) := by decide +kernel
theorem dX12_clause_105 : decode cX12_clause 105 = .ok (.getfield 121, 3) := by decide +kernel
theorem dX12_clause_108 : decode cX12_clause 108 = .ok (.iconst 1, 1) := by decide +kernel
theorem dX12_clause_109 : decode cX12_clause 109 = .ok (.iadd, 1) := by decide +kernel
theorem dX12_clause_110 : decode cX12_clause 110 = .ok (.putfield 121, 3) := by decide +kernel
theorem dX12_clause_113 : decode cX12_clause 113 = .ok (.aload_n 0, 1) := by decide +kernel
theorem dX12_clause_114 : decode cX12_clause 114 = .ok (.aload_n 0, 1) := by decide +kernel
theorem dX12_clause_115 : decode cX12_clause 115 = .ok (.getfield 20, 3) := by decide +kernel
theorem dX12_clause_118 : decode cX12_clause 118 = .ok (.iconst 2, 1) := by decide +kernel
theorem dX12_clause_119 : decode cX12_clause 119 = .ok (.aload_n 0, 1) := by decide +kernel
theorem dX12_clause_120 : decode cX12_clause 120 = .ok (.getfield 121, 3) := by decide +kernel
theorem dX12_clause_123 : decode cX12_clause 123 = .ok (.imul, 1) := by decide +kernel
theorem dX12_clause_124 : decode cX12_clause 124 = .ok (.iconst 2, 1) := by decide +kernel
theorem dX12_clause_125 : decode cX12_clause 125 = .ok (.isub, 1) := by decide +kernel
theorem dX12_clause_126 : decode cX12_clause 126 = .ok (.ldc 130, 2) := by decide +kernel
theorem dX12_clause_128 : decode cX12_clause 128 = .ok (.invokevirtual 126, 3) := by decide +kernel
theorem dX12_clause_131 : decode cX12_clause 131 = .ok (.iload_n 1, 1) := by decide +kernel
theorem dX12_clause_132 : decode cX12_clause 132 = .ok (.ireturn, 1) := by decide +kernel
theorem dX12_readShelf_0 : decode cX12_readShelf 0 = .ok (.aload_n 0, 1) := by decide +kernel
theorem dX12_readShelf_1 : decode cX12_readShelf 1 = .ok (.getfield 13, 3) := by decide +kernel
theorem dX12_readShelf_4 : decode cX12_readShelf 4 = .ok (.iconst 0, 1) := by decide +kernel
theorem dX12_readShelf_5 : decode cX12_readShelf 5 = .ok (.iconst 3, 1) := by decide +kernel
theorem dX12_readShelf_6 : decode cX12_readShelf 6 = .ok (.iastore, 1) := by decide +kernel
theorem dX12_readShelf_7 : decode cX12_readShelf 7 = .ok (.aload_n 0, 1) := by decide +kernel
theorem dX12_readShelf_8 : decode cX12_readShelf 8 = .ok (.getfield 13, 3) := by decide +kernel
theorem dX12_readShelf_11 : decode cX12_readShelf 11 = .ok (.iconst 1, 1) := by decide +kernel
theorem dX12_readShelf_12 : decode cX12_readShelf 12 = .ok (.iconst 4, 1) := by decide +kernel
theorem dX12_readShelf_13 : decode cX12_readShelf 13 = .ok (.iastore, 1) := by decide +kernel
theorem dX12_readShelf_14 : decode cX12_readShelf 14 = .ok (.aload_n 0, 1) := by decide +kernel
theorem dX12_readShelf_15 : decode cX12_readShelf 15 = .ok (.getfield 13, 3) := by decide +kernel
theorem dX12_readShelf_18 : decode cX12_readShelf 18 = .ok (.iconst 2, 1) := by decide +kernel
theorem dX12_readShelf_19 : decode cX12_readShelf 19 = .ok (.iconst 2, 1) := by decide +kernel
theorem dX12_readShelf_20 : decode cX12_readShelf 20 = .ok (.iastore, 1) := by decide +kernel
theorem dX12_readShelf_21 : decode cX12_readShelf 21 = .ok (.aload_n 0, 1) := by decide +kernel
theorem dX12_readShelf_22 : decode cX12_readShelf 22 = .ok (.getfield 13, 3) := by decide +kernel
theorem dX12_readShelf_25 : decode cX12_readShelf 25 = .ok (.iconst 3, 1) := by decide +kernel
theorem dX12_readShelf_26 : decode cX12_readShelf 26 = .ok (.iconst 0, 1) := by decide +kernel
theorem dX12_readShelf_27 : decode cX12_readShelf 27 = .ok (.iastore, 1) := by decide +kernel
theorem dX12_readShelf_28 : decode cX12_readShelf 28 = .ok (.aload_n 0, 1) := by decide +kernel
theorem dX12_readShelf_29 : decode cX12_readShelf 29 = .ok (.getfield 13, 3) := by decide +kernel
theorem dX12_readShelf_32 : decode cX12_readShelf 32 = .ok (.iconst 4, 1) := by decide +kernel
theorem dX12_readShelf_33 : decode cX12_readShelf 33 = .ok (.iconst 1, 1) := by decide +kernel
theorem dX12_readShelf_34 : decode cX12_readShelf 34 = .ok (.iastore, 1) := by decide +kernel
theorem dX12_readShelf_35 : decode cX12_readShelf 35 = .ok (.aload_n 0, 1) := by decide +kernel
theorem dX12_readShelf_36 : decode cX12_readShelf 36 = .ok (.iconst 0, 1) := by decide +kernel
theorem dX12_readShelf_37 : decode cX12_readShelf 37 = .ok (.putfield 121, 3) := by decide +kernel
theorem dX12_readShelf_40 : decode cX12_readShelf 40 = .ok (.aload_n 0, 1) := by decide +kernel
theorem dX12_readShelf_41 : decode cX12_readShelf 41 = .ok (.iconst 0, 1) := by decide +kernel
theorem dX12_readShelf_42 : decode cX12_readShelf 42 = .ok (.invokevirtual 132, 3) := by decide +kernel
theorem dX12_readShelf_45 : decode cX12_readShelf 45 = .ok (.istore_n 1, 1) := by decide +kernel
theorem dX12_readShelf_46 : decode cX12_readShelf 46 = .ok (.aload_n 0, 1) := by decide +kernel
theorem dX12_readShelf_47 : decode cX12_readShelf 47 = .ok (.getfield 79, 3) := by decide +kernel
theorem dX12_readShelf_50 : decode cX12_readShelf 50 = .ok (.iconst (-1), 1) := by decide +kernel
theorem dX12_readShelf_51 : decode cX12_readShelf 51 = .ok (.if_icmp .ne 31, 3) := by decide +kernel
theorem dX12_readShelf_54 : decode cX12_readShelf 54 = .ok (.aload_n 0, 1) := by decide +kernel
theorem dX12_readShelf_55 : decode cX12_readShelf 55 = .ok (.invokevirtual 82, 3) := by decide +kernel
theorem dX12_readShelf_58 : decode cX12_readShelf 58 = .ok (.bipush 59, 2) := by decide +kernel
theorem dX12_readShelf_60 : decode cX12_readShelf 60 = .ok (.if_icmp .ne 22, 3) := by decide +kernel
theorem dX12_readShelf_63 : decode cX12_readShelf 63 = .ok (.aload_n 0, 1) := by decide +kernel
theorem dX12_readShelf_64 : decode cX12_readShelf 64 = .ok (.dup, 1) := by decide +kernel
theorem dX12_readShelf_65 : decode cX12_readShelf 65 = .ok (.getfield 72, 3) := by decide +kernel
theorem dX12_readShelf_68 : decode cX12_readShelf 68 = .ok (.iconst 1, 1) := by decide +kernel
theorem dX12_readShelf_69 : decode cX12_readShelf 69 = .ok (.iadd, 1) := by decide +kernel
theorem dX12_readShelf_70 : decode cX12_readShelf 70 = .ok (.putfield 72, 3) := by decide +kernel
theorem dX12_readShelf_73 : decode cX12_readShelf 73 = .ok (.aload_n 0, 1) := by decide +kernel
theorem dX12_readShelf_74 : decode cX12_readShelf 74 = .ok (.iload_n 1, 1) := by decide +kernel
theorem dX12_readShelf_75 : decode cX12_readShelf 75 = .ok (.invokevirtual 132, 3) := by decide +kernel
theorem dX12_readShelf_78 : decode cX12_readShelf 78 = .ok (.istore_n 1, 1) := by decide +kernel
theorem dX12_readShelf_79 : decode cX12_readShelf 79 = .ok (.goto (-33), 3) := by decide +kernel
theorem dX12_readShelf_82 : decode cX12_readShelf 82 = .ok (.aload_n 0, 1) := by decide +kernel
theorem dX12_readShelf_83 : decode cX12_readShelf 83 = .ok (.getfield 79, 3) := by decide +kernel
theorem dX12_readShelf_86 : decode cX12_readShelf 86 = .ok (.iconst (-1), 1) := by decide +kernel
theorem dX12_readShelf_87 : decode cX12_readShelf 87 = .ok (.if_icmp .ne 15, 3) := by decide +kernel
theorem dX12_readShelf_90 : decode cX12_readShelf 90 = .ok (.aload_n 0, 1) := by decide +kernel
theorem dX12_readShelf_91 : decode cX12_readShelf 91 = .ok (.invokevirtual 82, 3) := by decide +kernel
theorem dX12_readShelf_94 : decode cX12_readShelf 94 = .ok (.iconst (-1), 1) := by decide +kernel
theorem dX12_readShelf_95 : decode cX12_readShelf 95 = .ok (.if_icmp .eq 7, 3) := by decide +kernel
theorem dX12_readShelf_98 : decode cX12_readShelf 98 = .ok (.aload_n 0, 1) := by decide +kernel
theorem dX12_readShelf_99 : decode cX12_readShelf 99 = .ok (.invokevirtual 89, 3) := by decide +kernel
theorem dX12_readShelf_102 : decode cX12_readShelf 102 = .ok (.return_, 1) := by decide +kernel
theorem dX12_numbersOf_0 : decode cX12_numbersOf 0 = .ok (.iload_n 0, 1) := by decide +kernel
theorem dX12_numbersOf_1 : decode cX12_numbersOf 1 = .ok (.tableswitch 59 0 8 #[51, 59, 59, 51, 59, 53, 55, 57, 53], 51) := by decide +kernel
theorem dX12_numbersOf_52 : decode cX12_numbersOf 52 = .ok (.iconst 2, 1) := by decide +kernel
theorem dX12_numbersOf_53 : decode cX12_numbersOf 53 = .ok (.ireturn, 1) := by decide +kernel
theorem dX12_numbersOf_54 : decode cX12_numbersOf 54 = .ok (.iconst 4, 1) := by decide +kernel
theorem dX12_numbersOf_55 : decode cX12_numbersOf 55 = .ok (.ireturn, 1) := by decide +kernel
theorem dX12_numbersOf_56 : decode cX12_numbersOf 56 = .ok (.iconst 3, 1) := by decide +kernel
theorem dX12_numbersOf_57 : decode cX12_numbersOf 57 = .ok (.ireturn, 1) := by decide +kernel
theorem dX12_numbersOf_58 : decode cX12_numbersOf 58 = .ok (.iconst 0, 1) := by decide +kernel
theorem dX12_numbersOf_59 : decode cX12_numbersOf 59 = .ok (.ireturn, 1) := by decide +kernel
theorem dX12_numbersOf_60 : decode cX12_numbersOf 60 = .ok (.iconst 1, 1) := by decide +kernel
theorem dX12_numbersOf_61 : decode cX12_numbersOf 61 = .ok (.ireturn, 1) := by decide +kernel
theorem dX12_readStep_0 : decode cX12_readStep 0 = .ok (.iconst 5, 1) := by decide +kernel
theorem dX12_readStep_1 : decode cX12_readStep 1 = .ok (.bipush 64, 2) := by decide +kernel
theorem dX12_readStep_3 : decode cX12_readStep 3 = .ok (.iload_n 1, 1) := by decide +kernel
theorem dX12_readStep_4 : decode cX12_readStep 4 = .ok (.iadd, 1) := by decide +kernel
theorem dX12_readStep_5 : decode cX12_readStep 5 = .ok (.imul, 1) := by decide +kernel
theorem dX12_readStep_6 : decode cX12_readStep 6 = .ok (.istore_n 2, 1) := by decide +kernel
theorem dX12_readStep_7 : decode cX12_readStep 7 = .ok (.ldc 136, 2) := by decide +kernel
theorem dX12_readStep_9 : decode cX12_readStep 9 = .ok (.aload_n 0, 1) := by decide +kernel
theorem dX12_readStep_10 : decode cX12_readStep 10 = .ok (.invokevirtual 82, 3) := by decide +kernel
theorem dX12_readStep_13 : decode cX12_readStep 13 = .ok (.invokestatic 103, 3) := by decide +kernel
theorem dX12_readStep_16 : decode cX12_readStep 16 = .ok (.istore_n 3, 1) := by decide +kernel
theorem dX12_readStep_17 : decode cX12_readStep 17 = .ok (.iload_n 3, 1) := by decide +kernel
theorem dX12_readStep_18 : decode cX12_readStep 18 = .ok (.iconst (-1), 1) := by decide +kernel
theorem dX12_readStep_19 : decode cX12_readStep 19 = .ok (.if_icmp .ne 8, 3) := by decide +kernel
theorem dX12_readStep_22 : decode cX12_readStep 22 = .ok (.aload_n 0, 1) := by decide +kernel
theorem dX12_readStep_23 : decode cX12_readStep 23 = .ok (.invokevirtual 89, 3) := by decide +kernel
theorem dX12_readStep_26 : decode cX12_readStep 26 = .ok (.return_, 1) := by decide +kernel
theorem dX12_readStep_27 : decode cX12_readStep 27 = .ok (.aload_n 0, 1) := by decide +kernel
theorem dX12_readStep_28 : decode cX12_readStep 28 = .ok (.dup, 1) := by decide +kernel
theorem dX12_readStep_29 : decode cX12_readStep 29 = .ok (.getfield 72, 3) := by decide +kernel
theorem dX12_readStep_32 : decode cX12_readStep 32 = .ok (.iconst 1, 1) := by decide +kernel
theorem dX12_readStep_33 : decode cX12_readStep 33 = .ok (.iadd, 1) := by decide +kernel
theorem dX12_readStep_34 : decode cX12_readStep 34 = .ok (.putfield 72, 3) := by decide +kernel
theorem dX12_readStep_37 : decode cX12_readStep 37 = .ok (.aload_n 0, 1) := by decide +kernel
theorem dX12_readStep_38 : decode cX12_readStep 38 = .ok (.getfield 26, 3) := by decide +kernel
theorem dX12_readStep_41 : decode cX12_readStep 41 = .ok (.iload_n 2, 1) := by decide +kernel
theorem dX12_readStep_42 : decode cX12_readStep 42 = .ok (.iload_n 3, 1) := by decide +kernel
theorem dX12_readStep_43 : decode cX12_readStep 43 = .ok (.iastore, 1) := by decide +kernel
theorem dX12_readStep_44 : decode cX12_readStep 44 = .ok (.iconst 0, 1) := by decide +kernel
theorem dX12_readStep_45 : decode cX12_readStep 45 = .ok (.istore 4, 2) := by decide +kernel
theorem dX12_readStep_47 : decode cX12_readStep 47 = .ok (.iload 4, 2) := by decide +kernel
theorem dX12_readStep_49 : decode cX12_readStep 49 = .ok (.iconst 4, 1) := by decide +kernel
theorem dX12_readStep_50 : decode cX12_readStep 50 = .ok (.if_icmp .ge 90, 3) := by decide +kernel
theorem dX12_readStep_53 : decode cX12_readStep 53 = .ok (.aload_n 0, 1) := by decide +kernel
theorem dX12_readStep_54 : decode cX12_readStep 54 = .ok (.getfield 26, 3) := by decide +kernel
theorem dX12_readStep_57 : decode cX12_readStep 57 = .ok (.iload_n 2, 1) := by decide +kernel
theorem dX12_readStep_58 : decode cX12_readStep 58 = .ok (.iconst 1, 1) := by decide +kernel
theorem dX12_readStep_59 : decode cX12_readStep 59 = .ok (.iadd, 1) := by decide +kernel
theorem dX12_readStep_60 : decode cX12_readStep 60 = .ok (.iload 4, 2) := by decide +kernel
theorem dX12_readStep_62 : decode cX12_readStep 62 = .ok (.iadd, 1) := by decide +kernel
theorem dX12_readStep_63 : decode cX12_readStep 63 = .ok (.iconst (-1), 1) := by decide +kernel
theorem dX12_readStep_64 : decode cX12_readStep 64 = .ok (.iastore, 1) := by decide +kernel
theorem dX12_readStep_65 : decode cX12_readStep 65 = .ok (.iload 4, 2) := by decide +kernel
theorem dX12_readStep_67 : decode cX12_readStep 67 = .ok (.iload_n 3, 1) := by decide +kernel
theorem dX12_readStep_68 : decode cX12_readStep 68 = .ok (.invokestatic 138, 3) := by decide +kernel
theorem dX12_readStep_71 : decode cX12_readStep 71 = .ok (.if_icmp .ge 63, 3) := by decide +kernel
theorem dX12_readStep_74 : decode cX12_readStep 74 = .ok (.aload_n 0, 1) := by decide +kernel
theorem dX12_readStep_75 : decode cX12_readStep 75 = .ok (.getfield 79, 3) := by decide +kernel
theorem dX12_readStep_78 : decode cX12_readStep 78 = .ok (.iconst (-1), 1) := by decide +kernel
theorem dX12_readStep_79 : decode cX12_readStep 79 = .ok (.if_icmp .eq 6, 3) := by decide +kernel
theorem dX12_readStep_82 : decode cX12_readStep 82 = .ok (.goto 52, 3) := by decide +kernel
theorem dX12_readStep_85 : decode cX12_readStep 85 = .ok (.iload 4, 2) := by decide +kernel
theorem dX12_readStep_87 : decode cX12_readStep 87 = .ok (.ifCond .le 17, 3) := by decide +kernel
theorem dX12_readStep_90 : decode cX12_readStep 90 = .ok (.aload_n 0, 1) := by decide +kernel
theorem dX12_readStep_91 : decode cX12_readStep 91 = .ok (.invokevirtual 82, 3) := by decide +kernel
theorem dX12_readStep_94 : decode cX12_readStep 94 = .ok (.bipush 44, 2) := by decide +kernel
theorem dX12_readStep_96 : decode cX12_readStep 96 = .ok (.if_icmp .eq 8, 3) := by decide +kernel
theorem dX12_readStep_99 : decode cX12_readStep 99 = .ok (.aload_n 0, 1) := by decide +kernel
theorem dX12_readStep_100 : decode cX12_readStep 100 = .ok (.invokevirtual 89, 3) := by decide +kernel
theorem dX12_readStep_103 : decode cX12_readStep 103 = .ok (.return_, 1) := by decide +kernel
theorem dX12_readStep_104 : decode cX12_readStep 104 = .ok (.iload 4, 2) := by decide +kernel
theorem dX12_readStep_106 : decode cX12_readStep 106 = .ok (.ifCond .le 13, 3) := by decide +kernel
theorem dX12_readStep_109 : decode cX12_readStep 109 = .ok (.aload_n 0, 1) := by decide +kernel
theorem dX12_readStep_110 : decode cX12_readStep 110 = .ok (.dup, 1) := by decide +kernel
theorem dX12_readStep_111 : decode cX12_readStep 111 = .ok (.getfield 72, 3) := by decide +kernel
theorem dX12_readStep_114 : decode cX12_readStep 114 = .ok (.iconst 1, 1) := by decide +kernel
theorem dX12_readStep_115 : decode cX12_readStep 115 = .ok (.iadd, 1) := by decide +kernel
theorem dX12_readStep_116 : decode cX12_readStep 116 = .ok (.putfield 72, 3) := by decide +kernel
theorem dX12_readStep_119 : decode cX12_readStep 119 = .ok (.aload_n 0, 1) := by decide +kernel
theorem dX12_readStep_120 : decode cX12_readStep 120 = .ok (.getfield 26, 3) := by decide +kernel
theorem dX12_readStep_123 : decode cX12_readStep 123 = .ok (.iload_n 2, 1) := by decide +kernel
theorem dX12_readStep_124 : decode cX12_readStep 124 = .ok (.iconst 1, 1) := by decide +kernel
theorem dX12_readStep_125 : decode cX12_readStep 125 = .ok (.iadd, 1) := by decide +kernel
theorem dX12_readStep_126 : decode cX12_readStep 126 = .ok (.iload 4, 2) := by decide +kernel
theorem dX12_readStep_128 : decode cX12_readStep 128 = .ok (.iadd, 1) := by decide +kernel
theorem dX12_readStep_129 : decode cX12_readStep 129 = .ok (.aload_n 0, 1) := by decide +kernel
theorem dX12_readStep_130 : decode cX12_readStep 130 = .ok (.invokevirtual 107, 3) := by decide +kernel
theorem dX12_readStep_133 : decode cX12_readStep 133 = .ok (.iastore, 1) := by decide +kernel
theorem dX12_readStep_134 : decode cX12_readStep 134 = .ok (.iinc 4 1, 3) := by decide +kernel
theorem dX12_readStep_137 : decode cX12_readStep 137 = .ok (.goto (-90), 3) := by decide +kernel
theorem dX12_readStep_140 : decode cX12_readStep 140 = .ok (.return_, 1) := by decide +kernel
theorem dX12_readScript_0 : decode cX12_readScript 0 = .ok (.iconst 0, 1) := by decide +kernel
theorem dX12_readScript_1 : decode cX12_readScript 1 = .ok (.istore_n 1, 1) := by decide +kernel
theorem dX12_readScript_2 : decode cX12_readScript 2 = .ok (.iconst 1, 1) := by decide +kernel
theorem dX12_readScript_3 : decode cX12_readScript 3 = .ok (.istore_n 2, 1) := by decide +kernel
theorem dX12_readScript_4 : decode cX12_readScript 4 = .ok (.iload_n 2, 1) := by decide +kernel
theorem dX12_readScript_5 : decode cX12_readScript 5 = .ok (.ifCond .eq 67, 3) := by decide +kernel
theorem dX12_readScript_8 : decode cX12_readScript 8 = .ok (.aload_n 0, 1) := by decide +kernel
theorem dX12_readScript_9 : decode cX12_readScript 9 = .ok (.iload_n 1, 1) := by decide +kernel
theorem dX12_readScript_10 : decode cX12_readScript 10 = .ok (.invokevirtual 141, 3) := by decide +kernel
theorem dX12_readScript_13 : decode cX12_readScript 13 = .ok (.aload_n 0, 1) := by decide +kernel
theorem dX12_readScript_14 : decode cX12_readScript 14 = .ok (.getfield 79, 3) := by decide +kernel
theorem dX12_readScript_17 : decode cX12_readScript 17 = .ok (.iconst (-1), 1) := by decide +kernel
theorem dX12_readScript_18 : decode cX12_readScript 18 = .ok (.if_icmp .eq 4, 3) := by decide +kernel
theorem dX12_readScript_21 : decode cX12_readScript 21 = .ok (.return_, 1) := by decide +kernel
theorem dX12_readScript_22 : decode cX12_readScript 22 = .ok (.iinc 1 1, 3) := by decide +kernel
theorem dX12_readScript_25 : decode cX12_readScript 25 = .ok (.aload_n 0, 1) := by decide +kernel
theorem dX12_readScript_26 : decode cX12_readScript 26 = .ok (.invokevirtual 82, 3) := by decide +kernel
theorem dX12_readScript_29 : decode cX12_readScript 29 = .ok (.bipush 59, 2) := by decide +kernel
theorem dX12_readScript_31 : decode cX12_readScript 31 = .ok (.if_icmp .ne 7, 3) := by decide +kernel
theorem dX12_readScript_34 : decode cX12_readScript 34 = .ok (.iconst 1, 1) := by decide +kernel
theorem dX12_readScript_35 : decode cX12_readScript 35 = .ok (.goto 4, 3) := by decide +kernel
theorem dX12_readScript_38 : decode cX12_readScript 38 = .ok (.iconst 0, 1) := by decide +kernel
theorem dX12_readScript_39 : decode cX12_readScript 39 = .ok (.istore_n 2, 1) := by decide +kernel
theorem dX12_readScript_40 : decode cX12_readScript 40 = .ok (.iload_n 2, 1) := by decide +kernel
theorem dX12_readScript_41 : decode cX12_readScript 41 = .ok (.ifCond .eq 14, 3) := by decide +kernel
theorem dX12_readScript_44 : decode cX12_readScript 44 = .ok (.iload_n 1, 1) := by decide +kernel
theorem dX12_readScript_45 : decode cX12_readScript 45 = .ok (.bipush 16, 2) := by decide +kernel
theorem dX12_readScript_47 : decode cX12_readScript 47 = .ok (.if_icmp .ne 8, 3) := by decide +kernel
theorem dX12_readScript_50 : decode cX12_readScript 50 = .ok (.aload_n 0, 1) := by decide +kernel
theorem dX12_readScript_51 : decode cX12_readScript 51 = .ok (.invokevirtual 89, 3) := by decide +kernel
theorem dX12_readScript_54 : decode cX12_readScript 54 = .ok (.return_, 1) := by decide +kernel
theorem dX12_readScript_55 : decode cX12_readScript 55 = .ok (.iload_n 2, 1) := by decide +kernel
theorem dX12_readScript_56 : decode cX12_readScript 56 = .ok (.ifCond .eq (-52), 3) := by decide +kernel
theorem dX12_readScript_59 : decode cX12_readScript 59 = .ok (.aload_n 0, 1) := by decide +kernel
theorem dX12_readScript_60 : decode cX12_readScript 60 = .ok (.dup, 1) := by decide +kernel
theorem dX12_readScript_61 : decode cX12_readScript 61 = .ok (.getfield 72, 3) := by decide +kernel
theorem dX12_readScript_64 : decode cX12_readScript 64 = .ok (.iconst 1, 1) := by decide +kernel
theorem dX12_readScript_65 : decode cX12_readScript 65 = .ok (.iadd, 1) := by decide +kernel
theorem dX12_readScript_66 : decode cX12_readScript 66 = .ok (.putfield 72, 3) := by decide +kernel
theorem dX12_readScript_69 : decode cX12_readScript 69 = .ok (.goto (-65), 3) := by decide +kernel
theorem dX12_readScript_72 : decode cX12_readScript 72 = .ok (.aload_n 0, 1) := by decide +kernel
theorem dX12_readScript_73 : decode cX12_readScript 73 = .ok (.getfield 29, 3) := by decide +kernel
theorem dX12_readScript_76 : decode cX12_readScript 76 = .ok (.iconst 4, 1) := by decide +kernel
theorem dX12_readScript_77 : decode cX12_readScript 77 = .ok (.iload_n 1, 1) := by decide +kernel
theorem dX12_readScript_78 : decode cX12_readScript 78 = .ok (.iastore, 1) := by decide +kernel
theorem dX12_readScript_79 : decode cX12_readScript 79 = .ok (.aload_n 0, 1) := by decide +kernel
theorem dX12_readScript_80 : decode cX12_readScript 80 = .ok (.invokevirtual 82, 3) := by decide +kernel
theorem dX12_readScript_83 : decode cX12_readScript 83 = .ok (.iconst (-1), 1) := by decide +kernel
theorem dX12_readScript_84 : decode cX12_readScript 84 = .ok (.if_icmp .eq 7, 3) := by decide +kernel
theorem dX12_readScript_87 : decode cX12_readScript 87 = .ok (.aload_n 0, 1) := by decide +kernel
theorem dX12_readScript_88 : decode cX12_readScript 88 = .ok (.invokevirtual 89, 3) := by decide +kernel
theorem dX12_readScript_91 : decode cX12_readScript 91 = .ok (.return_, 1) := by decide +kernel
theorem dX12_fault_0 : decode cX12_fault 0 = .ok (.aload_n 0, 1) := by decide +kernel
theorem dX12_fault_1 : decode cX12_fault 1 = .ok (.iconst 0, 1) := by decide +kernel
theorem dX12_fault_2 : decode cX12_fault 2 = .ok (.putfield 57, 3) := by decide +kernel
theorem dX12_fault_5 : decode cX12_fault 5 = .ok (.iload_n 1, 1) := by decide +kernel
theorem dX12_fault_6 : decode cX12_fault 6 = .ok (.i2l, 1) := by decide +kernel
theorem dX12_fault_7 : decode cX12_fault 7 = .ok (.lconst 0, 1) := by decide +kernel
theorem dX12_fault_8 : decode cX12_fault 8 = .ok (.lconst 1, 1) := by decide +kernel
theorem dX12_fault_9 : decode cX12_fault 9 = .ok (.invokestatic 117, 3) := by decide +kernel
theorem dX12_fault_12 : decode cX12_fault 12 = .ok (.ifCond .ne 6, 3) := by decide +kernel
theorem dX12_fault_15 : decode cX12_fault 15 = .ok (.bipush (-2), 2) := by decide +kernel
theorem dX12_fault_17 : decode cX12_fault 17 = .ok (.ireturn, 1) := by decide +kernel
theorem dX12_fault_18 : decode cX12_fault 18 = .ok (.aload_n 0, 1) := by decide +kernel
theorem dX12_fault_19 : decode cX12_fault 19 = .ok (.iconst 0, 1) := by decide +kernel
theorem dX12_fault_20 : decode cX12_fault 20 = .ok (.putfield 72, 3) := by decide +kernel
theorem dX12_fault_23 : decode cX12_fault 23 = .ok (.aload_n 0, 1) := by decide +kernel
theorem dX12_fault_24 : decode cX12_fault 24 = .ok (.iconst (-1), 1) := by decide +kernel
theorem dX12_fault_25 : decode cX12_fault 25 = .ok (.putfield 79, 3) := by decide +kernel
theorem dX12_fault_28 : decode cX12_fault 28 = .ok (.iload_n 1, 1) := by decide +kernel
theorem dX12_fault_29 : decode cX12_fault 29 = .ok (.ifCond .ne 10, 3) := by decide +kernel
theorem dX12_fault_32 : decode cX12_fault 32 = .ok (.aload_n 0, 1) := by decide +kernel
theorem dX12_fault_33 : decode cX12_fault 33 = .ok (.invokevirtual 144, 3) := by decide +kernel
theorem dX12_fault_36 : decode cX12_fault 36 = .ok (.goto 7, 3) := by decide +kernel
theorem dX12_fault_39 : decode cX12_fault 39 = .ok (.aload_n 0, 1) := by decide +kernel
theorem dX12_fault_40 : decode cX12_fault 40 = .ok (.invokevirtual 147, 3) := by decide +kernel
theorem dX12_fault_43 : decode cX12_fault 43 = .ok (.aload_n 0, 1) := by decide +kernel
theorem dX12_fault_44 : decode cX12_fault 44 = .ok (.getfield 79, 3) := by decide +kernel
theorem dX12_fault_47 : decode cX12_fault 47 = .ok (.ireturn, 1) := by decide +kernel
theorem dX12_modulusOf_0 : decode cX12_modulusOf 0 = .ok (.iload_n 0, 1) := by decide +kernel
theorem dX12_modulusOf_1 : decode cX12_modulusOf 1 = .ok (.ifCond .ne 9, 3) := by decide +kernel
theorem dX12_modulusOf_4 : decode cX12_modulusOf 4 = .ok (.sipush 285, 3) := by decide +kernel
theorem dX12_modulusOf_7 : decode cX12_modulusOf 7 = .ok (.goto 28, 3) := by decide +kernel
theorem dX12_modulusOf_10 : decode cX12_modulusOf 10 = .ok (.iload_n 0, 1) := by decide +kernel
theorem dX12_modulusOf_11 : decode cX12_modulusOf 11 = .ok (.iconst 1, 1) := by decide +kernel
theorem dX12_modulusOf_12 : decode cX12_modulusOf 12 = .ok (.if_icmp .ne 9, 3) := by decide +kernel
theorem dX12_modulusOf_15 : decode cX12_modulusOf 15 = .ok (.sipush 299, 3) := by decide +kernel
theorem dX12_modulusOf_18 : decode cX12_modulusOf 18 = .ok (.goto 17, 3) := by decide +kernel
theorem dX12_modulusOf_21 : decode cX12_modulusOf 21 = .ok (.iload_n 0, 1) := by decide +kernel
theorem dX12_modulusOf_22 : decode cX12_modulusOf 22 = .ok (.iconst 2, 1) := by decide +kernel
theorem dX12_modulusOf_23 : decode cX12_modulusOf 23 = .ok (.if_icmp .ne 9, 3) := by decide +kernel
theorem dX12_modulusOf_26 : decode cX12_modulusOf 26 = .ok (.sipush 301, 3) := by decide +kernel
theorem dX12_modulusOf_29 : decode cX12_modulusOf 29 = .ok (.goto 6, 3) := by decide +kernel
theorem dX12_modulusOf_32 : decode cX12_modulusOf 32 = .ok (.sipush 333, 3) := by decide +kernel
theorem dX12_modulusOf_35 : decode cX12_modulusOf 35 = .ok (.ireturn, 1) := by decide +kernel
theorem dX12_laysField_0 : decode cX12_laysField 0 = .ok (.iconst 1, 1) := by decide +kernel
theorem dX12_laysField_1 : decode cX12_laysField 1 = .ok (.istore_n 1, 1) := by decide +kernel
theorem dX12_laysField_2 : decode cX12_laysField 2 = .ok (.iconst 0, 1) := by decide +kernel
theorem dX12_laysField_3 : decode cX12_laysField 3 = .ok (.istore_n 2, 1) := by decide +kernel
theorem dX12_laysField_4 : decode cX12_laysField 4 = .ok (.iload_n 2, 1) := by decide +kernel
theorem dX12_laysField_5 : decode cX12_laysField 5 = .ok (.sipush 255, 3) := by decide +kernel
theorem dX12_laysField_8 : decode cX12_laysField 8 = .ok (.if_icmp .ge 46, 3) := by decide +kernel
theorem dX12_laysField_11 : decode cX12_laysField 11 = .ok (.aload_n 0, 1) := by decide +kernel
theorem dX12_laysField_12 : decode cX12_laysField 12 = .ok (.getfield 32, 3) := by decide +kernel
theorem dX12_laysField_15 : decode cX12_laysField 15 = .ok (.iload_n 2, 1) := by decide +kernel
theorem dX12_laysField_16 : decode cX12_laysField 16 = .ok (.iload_n 1, 1) := by decide +kernel
theorem dX12_laysField_17 : decode cX12_laysField 17 = .ok (.iastore, 1) := by decide +kernel
theorem dX12_laysField_18 : decode cX12_laysField 18 = .ok (.aload_n 0, 1) := by decide +kernel
theorem dX12_laysField_19 : decode cX12_laysField 19 = .ok (.getfield 35, 3) := by decide +kernel
theorem dX12_laysField_22 : decode cX12_laysField 22 = .ok (.iload_n 1, 1) := by decide +kernel
theorem dX12_laysField_23 : decode cX12_laysField 23 = .ok (.iload_n 2, 1) := by decide +kernel
theorem dX12_laysField_24 : decode cX12_laysField 24 = .ok (.iastore, 1) := by decide +kernel
theorem dX12_laysField_25 : decode cX12_laysField 25 = .ok (.iconst 2, 1) := by decide +kernel
theorem dX12_laysField_26 : decode cX12_laysField 26 = .ok (.iload_n 1, 1) := by decide +kernel
theorem dX12_laysField_27 : decode cX12_laysField 27 = .ok (.imul, 1) := by decide +kernel
theorem dX12_laysField_28 : decode cX12_laysField 28 = .ok (.istore_n 1, 1) := by decide +kernel
theorem dX12_laysField_29 : decode cX12_laysField 29 = .ok (.iload_n 1, 1) := by decide +kernel
theorem dX12_laysField_30 : decode cX12_laysField 30 = .ok (.sipush 255, 3) := by decide +kernel
theorem dX12_laysField_33 : decode cX12_laysField 33 = .ok (.if_icmp .le 15, 3) := by decide +kernel
theorem dX12_laysField_36 : decode cX12_laysField 36 = .ok (.iload_n 1, 1) := by decide +kernel
theorem dX12_laysField_37 : decode cX12_laysField 37 = .ok (.aload_n 0, 1) := by decide +kernel
theorem dX12_laysField_38 : decode cX12_laysField 38 = .ok (.getfield 17, 3) := by decide +kernel
theorem dX12_laysField_41 : decode cX12_laysField 41 = .ok (.iconst 3, 1) := by decide +kernel
theorem dX12_laysField_42 : decode cX12_laysField 42 = .ok (.iaload, 1) := by decide +kernel
theorem dX12_laysField_43 : decode cX12_laysField 43 = .ok (.invokestatic 150, 3) := by decide +kernel
theorem dX12_laysField_46 : decode cX12_laysField 46 = .ok (.ixor, 1) := by decide +kernel
theorem dX12_laysField_47 : decode cX12_laysField 47 = .ok (.istore_n 1, 1) := by decide +kernel
theorem dX12_laysField_48 : decode cX12_laysField 48 = .ok (.iinc 2 1, 3) := by decide +kernel
theorem dX12_laysField_51 : decode cX12_laysField 51 = .ok (.goto (-47), 3) := by decide +kernel
theorem dX12_laysField_54 : decode cX12_laysField 54 = .ok (.return_, 1) := by decide +kernel
theorem dX12_product_0 : decode cX12_product 0 = .ok (.iload_n 1, 1) := by decide +kernel
theorem dX12_product_1 : decode cX12_product 1 = .ok (.ifCond .eq 7, 3) := by decide +kernel
theorem dX12_product_4 : decode cX12_product 4 = .ok (.iload_n 2, 1) := by decide +kernel
theorem dX12_product_5 : decode cX12_product 5 = .ok (.ifCond .ne 7, 3) := by decide +kernel
theorem dX12_product_8 : decode cX12_product 8 = .ok (.iconst 0, 1) := by decide +kernel
theorem dX12_product_9 : decode cX12_product 9 = .ok (.goto 25, 3) := by decide +kernel
theorem dX12_product_12 : decode cX12_product 12 = .ok (.aload_n 0, 1) := by decide +kernel
theorem dX12_product_13 : decode cX12_product 13 = .ok (.getfield 32, 3) := by decide +kernel
theorem dX12_product_16 : decode cX12_product 16 = .ok (.aload_n 0, 1) := by decide +kernel
theorem dX12_product_17 : decode cX12_product 17 = .ok (.getfield 35, 3) := by decide +kernel
theorem dX12_product_20 : decode cX12_product 20 = .ok (.iload_n 1, 1) := by decide +kernel
theorem dX12_product_21 : decode cX12_product 21 = .ok (.iaload, 1) := by decide +kernel
theorem dX12_product_22 : decode cX12_product 22 = .ok (.aload_n 0, 1) := by decide +kernel
theorem dX12_product_23 : decode cX12_product 23 = .ok (.getfield 35, 3) := by decide +kernel
theorem dX12_product_26 : decode cX12_product 26 = .ok (.iload_n 2, 1) := by decide +kernel
theorem dX12_product_27 : decode cX12_product 27 = .ok (.iaload, 1) := by decide +kernel
theorem dX12_product_28 : decode cX12_product 28 = .ok (.iadd, 1) := by decide +kernel
theorem dX12_product_29 : decode cX12_product 29 = .ok (.sipush 255, 3) := by decide +kernel
theorem dX12_product_32 : decode cX12_product 32 = .ok (.irem, 1) := by decide +kernel
theorem dX12_product_33 : decode cX12_product 33 = .ok (.iaload, 1) := by decide +kernel
theorem dX12_product_34 : decode cX12_product 34 = .ok (.ireturn, 1) := by decide +kernel
theorem dX12_quotient_0 : decode cX12_quotient 0 = .ok (.iload_n 1, 1) := by decide +kernel
theorem dX12_quotient_1 : decode cX12_quotient 1 = .ok (.ifCond .ne 7, 3) := by decide +kernel
theorem dX12_quotient_4 : decode cX12_quotient 4 = .ok (.iconst 0, 1) := by decide +kernel
theorem dX12_quotient_5 : decode cX12_quotient 5 = .ok (.goto 29, 3) := by decide +kernel
theorem dX12_quotient_8 : decode cX12_quotient 8 = .ok (.aload_n 0, 1) := by decide +kernel
theorem dX12_quotient_9 : decode cX12_quotient 9 = .ok (.getfield 32, 3) := by decide +kernel
theorem dX12_quotient_12 : decode cX12_quotient 12 = .ok (.aload_n 0, 1) := by decide +kernel
theorem dX12_quotient_13 : decode cX12_quotient 13 = .ok (.getfield 35, 3) := by decide +kernel
theorem dX12_quotient_16 : decode cX12_quotient 16 = .ok (.iload_n 1, 1) := by decide +kernel
theorem dX12_quotient_17 : decode cX12_quotient 17 = .ok (.iaload, 1) := by decide +kernel
theorem dX12_quotient_18 : decode cX12_quotient 18 = .ok (.aload_n 0, 1) := by decide +kernel
theorem dX12_quotient_19 : decode cX12_quotient 19 = .ok (.getfield 35, 3) := by decide +kernel
theorem dX12_quotient_22 : decode cX12_quotient 22 = .ok (.iload_n 2, 1) := by decide +kernel
theorem dX12_quotient_23 : decode cX12_quotient 23 = .ok (.iaload, 1) := by decide +kernel
theorem dX12_quotient_24 : decode cX12_quotient 24 = .ok (.isub, 1) := by decide +kernel
theorem dX12_quotient_25 : decode cX12_quotient 25 = .ok (.sipush 255, 3) := by decide +kernel
theorem dX12_quotient_28 : decode cX12_quotient 28 = .ok (.iadd, 1) := by decide +kernel
theorem dX12_quotient_29 : decode cX12_quotient 29 = .ok (.sipush 255, 3) := by decide +kernel
theorem dX12_quotient_32 : decode cX12_quotient 32 = .ok (.irem, 1) := by decide +kernel
theorem dX12_quotient_33 : decode cX12_quotient 33 = .ok (.iaload, 1) := by decide +kernel
theorem dX12_quotient_34 : decode cX12_quotient 34 = .ok (.ireturn, 1) := by decide +kernel
theorem dX12_isByte_0 : decode cX12_isByte 0 = .ok (.iload_n 0, 1) := by decide +kernel
theorem dX12_isByte_1 : decode cX12_isByte 1 = .ok (.ifCond .lt 14, 3) := by decide +kernel
theorem dX12_isByte_4 : decode cX12_isByte 4 = .ok (.iload_n 0, 1) := by decide +kernel
theorem dX12_isByte_5 : decode cX12_isByte 5 = .ok (.sipush 255, 3) := by decide +kernel
theorem dX12_isByte_8 : decode cX12_isByte 8 = .ok (.if_icmp .gt 7, 3) := by decide +kernel
theorem dX12_isByte_11 : decode cX12_isByte 11 = .ok (.iconst 1, 1) := by decide +kernel
theorem dX12_isByte_12 : decode cX12_isByte 12 = .ok (.goto 4, 3) := by decide +kernel
theorem dX12_isByte_15 : decode cX12_isByte 15 = .ok (.iconst 0, 1) := by decide +kernel
theorem dX12_isByte_16 : decode cX12_isByte 16 = .ok (.ireturn, 1) := by decide +kernel
theorem dX12_times_0 : decode cX12_times 0 = .ok (.aload_n 0, 1) := by decide +kernel
theorem dX12_times_1 : decode cX12_times 1 = .ok (.iconst 0, 1) := by decide +kernel
theorem dX12_times_2 : decode cX12_times 2 = .ok (.putfield 57, 3) := by decide +kernel
theorem dX12_times_5 : decode cX12_times 5 = .ok (.aload_n 0, 1) := by decide +kernel
theorem dX12_times_6 : decode cX12_times 6 = .ok (.getfield 153, 3) := by decide +kernel
theorem dX12_times_9 : decode cX12_times 9 = .ok (.ifCond .le 26, 3) := by decide +kernel
theorem dX12_times_12 : decode cX12_times 12 = .ok (.iload_n 1, 1) := by decide +kernel
theorem dX12_times_13 : decode cX12_times 13 = .ok (.invokestatic 156, 3) := by decide +kernel
theorem dX12_times_16 : decode cX12_times 16 = .ok (.ifCond .eq 19, 3) := by decide +kernel
theorem dX12_times_19 : decode cX12_times 19 = .ok (.iload_n 2, 1) := by decide +kernel
theorem dX12_times_20 : decode cX12_times 20 = .ok (.invokestatic 156, 3) := by decide +kernel
theorem dX12_times_23 : decode cX12_times 23 = .ok (.ifCond .eq 12, 3) := by decide +kernel
theorem dX12_times_26 : decode cX12_times 26 = .ok (.aload_n 0, 1) := by decide +kernel
theorem dX12_times_27 : decode cX12_times 27 = .ok (.iload_n 1, 1) := by decide +kernel
theorem dX12_times_28 : decode cX12_times 28 = .ok (.iload_n 2, 1) := by decide +kernel
theorem dX12_times_29 : decode cX12_times 29 = .ok (.invokevirtual 160, 3) := by decide +kernel
theorem dX12_times_32 : decode cX12_times 32 = .ok (.goto 4, 3) := by decide +kernel
theorem dX12_times_35 : decode cX12_times 35 = .ok (.iconst (-1), 1) := by decide +kernel
theorem dX12_times_36 : decode cX12_times 36 = .ok (.ireturn, 1) := by decide +kernel
theorem dX12_over_0 : decode cX12_over 0 = .ok (.aload_n 0, 1) := by decide +kernel
theorem dX12_over_1 : decode cX12_over 1 = .ok (.iconst 0, 1) := by decide +kernel
theorem dX12_over_2 : decode cX12_over 2 = .ok (.putfield 57, 3) := by decide +kernel
theorem dX12_over_5 : decode cX12_over 5 = .ok (.aload_n 0, 1) := by decide +kernel
theorem dX12_over_6 : decode cX12_over 6 = .ok (.getfield 153, 3) := by decide +kernel
theorem dX12_over_9 : decode cX12_over 9 = .ok (.ifCond .le 30, 3) := by decide +kernel
theorem dX12_over_12 : decode cX12_over 12 = .ok (.iload_n 1, 1) := by decide +kernel
theorem dX12_over_13 : decode cX12_over 13 = .ok (.invokestatic 156, 3) := by decide +kernel
theorem dX12_over_16 : decode cX12_over 16 = .ok (.ifCond .eq 23, 3) := by decide +kernel
theorem dX12_over_19 : decode cX12_over 19 = .ok (.iload_n 2, 1) := by decide +kernel
theorem dX12_over_20 : decode cX12_over 20 = .ok (.invokestatic 156, 3) := by decide +kernel
theorem dX12_over_23 : decode cX12_over 23 = .ok (.ifCond .eq 16, 3) := by decide +kernel
theorem dX12_over_26 : decode cX12_over 26 = .ok (.iload_n 2, 1) := by decide +kernel
theorem dX12_over_27 : decode cX12_over 27 = .ok (.ifCond .eq 12, 3) := by decide +kernel
theorem dX12_over_30 : decode cX12_over 30 = .ok (.aload_n 0, 1) := by decide +kernel
theorem dX12_over_31 : decode cX12_over 31 = .ok (.iload_n 1, 1) := by decide +kernel
theorem dX12_over_32 : decode cX12_over 32 = .ok (.iload_n 2, 1) := by decide +kernel
theorem dX12_over_33 : decode cX12_over 33 = .ok (.invokevirtual 164, 3) := by decide +kernel
theorem dX12_over_36 : decode cX12_over 36 = .ok (.goto 4, 3) := by decide +kernel
theorem dX12_over_39 : decode cX12_over 39 = .ok (.iconst (-1), 1) := by decide +kernel
theorem dX12_over_40 : decode cX12_over 40 = .ok (.ireturn, 1) := by decide +kernel
theorem dX12_power_0 : decode cX12_power 0 = .ok (.aload_n 0, 1) := by decide +kernel
theorem dX12_power_1 : decode cX12_power 1 = .ok (.iconst 0, 1) := by decide +kernel
theorem dX12_power_2 : decode cX12_power 2 = .ok (.putfield 57, 3) := by decide +kernel
theorem dX12_power_5 : decode cX12_power 5 = .ok (.aload_n 0, 1) := by decide +kernel
theorem dX12_power_6 : decode cX12_power 6 = .ok (.getfield 153, 3) := by decide +kernel
theorem dX12_power_9 : decode cX12_power 9 = .ok (.ifCond .le 28, 3) := by decide +kernel
theorem dX12_power_12 : decode cX12_power 12 = .ok (.iload_n 1, 1) := by decide +kernel
theorem dX12_power_13 : decode cX12_power 13 = .ok (.i2l, 1) := by decide +kernel
theorem dX12_power_14 : decode cX12_power 14 = .ok (.lconst 0, 1) := by decide +kernel
theorem dX12_power_15 : decode cX12_power 15 = .ok (.ldc2_w 167, 3) := by decide +kernel
theorem dX12_power_18 : decode cX12_power 18 = .ok (.invokestatic 117, 3) := by decide +kernel
theorem dX12_power_21 : decode cX12_power 21 = .ok (.ifCond .eq 16, 3) := by decide +kernel
theorem dX12_power_24 : decode cX12_power 24 = .ok (.aload_n 0, 1) := by decide +kernel
theorem dX12_power_25 : decode cX12_power 25 = .ok (.getfield 32, 3) := by decide +kernel
theorem dX12_power_28 : decode cX12_power 28 = .ok (.iload_n 1, 1) := by decide +kernel
theorem dX12_power_29 : decode cX12_power 29 = .ok (.sipush 255, 3) := by decide +kernel
theorem dX12_power_32 : decode cX12_power 32 = .ok (.irem, 1) := by decide +kernel
theorem dX12_power_33 : decode cX12_power 33 = .ok (.iaload, 1) := by decide +kernel
theorem dX12_power_34 : decode cX12_power 34 = .ok (.goto 4, 3) := by decide +kernel
theorem dX12_power_37 : decode cX12_power 37 = .ok (.iconst (-1), 1) := by decide +kernel
theorem dX12_power_38 : decode cX12_power 38 = .ok (.ireturn, 1) := by decide +kernel
theorem dX12_logOf_0 : decode cX12_logOf 0 = .ok (.aload_n 0, 1) := by decide +kernel
theorem dX12_logOf_1 : decode cX12_logOf 1 = .ok (.iconst 0, 1) := by decide +kernel
theorem dX12_logOf_2 : decode cX12_logOf 2 = .ok (.putfield 57, 3) := by decide +kernel
theorem dX12_logOf_5 : decode cX12_logOf 5 = .ok (.aload_n 0, 1) := by decide +kernel
theorem dX12_logOf_6 : decode cX12_logOf 6 = .ok (.getfield 153, 3) := by decide +kernel
theorem dX12_logOf_9 : decode cX12_logOf 9 = .ok (.ifCond .le 24, 3) := by decide +kernel
theorem dX12_logOf_12 : decode cX12_logOf 12 = .ok (.iload_n 1, 1) := by decide +kernel
theorem dX12_logOf_13 : decode cX12_logOf 13 = .ok (.i2l, 1) := by decide +kernel
theorem dX12_logOf_14 : decode cX12_logOf 14 = .ok (.lconst 1, 1) := by decide +kernel
theorem dX12_logOf_15 : decode cX12_logOf 15 = .ok (.ldc2_w 169, 3) := by decide +kernel
theorem dX12_logOf_18 : decode cX12_logOf 18 = .ok (.invokestatic 117, 3) := by decide +kernel
theorem dX12_logOf_21 : decode cX12_logOf 21 = .ok (.ifCond .eq 12, 3) := by decide +kernel
theorem dX12_logOf_24 : decode cX12_logOf 24 = .ok (.aload_n 0, 1) := by decide +kernel
theorem dX12_logOf_25 : decode cX12_logOf 25 = .ok (.getfield 35, 3) := by decide +kernel
theorem dX12_logOf_28 : decode cX12_logOf 28 = .ok (.iload_n 1, 1) := by decide +kernel
theorem dX12_logOf_29 : decode cX12_logOf 29 = .ok (.iaload, 1) := by decide +kernel
theorem dX12_logOf_30 : decode cX12_logOf 30 = .ok (.goto 4, 3) := by decide +kernel
theorem dX12_logOf_33 : decode cX12_logOf 33 = .ok (.iconst (-1), 1) := by decide +kernel
theorem dX12_logOf_34 : decode cX12_logOf 34 = .ok (.ireturn, 1) := by decide +kernel
theorem dX12_stripeOf_0 : decode cX12_stripeOf 0 = .ok (.iload_n 1, 1) := by decide +kernel
theorem dX12_stripeOf_1 : decode cX12_stripeOf 1 = .ok (.aload_n 0, 1) := by decide +kernel
theorem dX12_stripeOf_2 : decode cX12_stripeOf 2 = .ok (.getfield 17, 3) := by decide +kernel
theorem dX12_stripeOf_5 : decode cX12_stripeOf 5 = .ok (.iconst 2, 1) := by decide +kernel
theorem dX12_stripeOf_6 : decode cX12_stripeOf 6 = .ok (.iaload, 1) := by decide +kernel
theorem dX12_stripeOf_7 : decode cX12_stripeOf 7 = .ok (.idiv, 1) := by decide +kernel
theorem dX12_stripeOf_8 : decode cX12_stripeOf 8 = .ok (.aload_n 0, 1) := by decide +kernel
theorem dX12_stripeOf_9 : decode cX12_stripeOf 9 = .ok (.getfield 17, 3) := by decide +kernel
theorem dX12_stripeOf_12 : decode cX12_stripeOf 12 = .ok (.iconst 0, 1) := by decide +kernel
theorem dX12_stripeOf_13 : decode cX12_stripeOf 13 = .ok (.iaload, 1) := by decide +kernel
theorem dX12_stripeOf_14 : decode cX12_stripeOf 14 = .ok (.idiv, 1) := by decide +kernel
theorem dX12_stripeOf_15 : decode cX12_stripeOf 15 = .ok (.ireturn, 1) := by decide +kernel
theorem dX12_byteOf_0 : decode cX12_byteOf 0 = .ok (.iload_n 1, 1) := by decide +kernel
theorem dX12_byteOf_1 : decode cX12_byteOf 1 = .ok (.aload_n 0, 1) := by decide +kernel
theorem dX12_byteOf_2 : decode cX12_byteOf 2 = .ok (.getfield 17, 3) := by decide +kernel
theorem dX12_byteOf_5 : decode cX12_byteOf 5 = .ok (.iconst 2, 1) := by decide +kernel
theorem dX12_byteOf_6 : decode cX12_byteOf 6 = .ok (.iaload, 1) := by decide +kernel
theorem dX12_byteOf_7 : decode cX12_byteOf 7 = .ok (.irem, 1) := by decide +kernel
theorem dX12_byteOf_8 : decode cX12_byteOf 8 = .ok (.ireturn, 1) := by decide +kernel
theorem dX12_partOf_0 : decode cX12_partOf 0 = .ok (.iload_n 1, 1) := by decide +kernel
theorem dX12_partOf_1 : decode cX12_partOf 1 = .ok (.aload_n 0, 1) := by decide +kernel
theorem dX12_partOf_2 : decode cX12_partOf 2 = .ok (.getfield 17, 3) := by decide +kernel
theorem dX12_partOf_5 : decode cX12_partOf 5 = .ok (.iconst 2, 1) := by decide +kernel
theorem dX12_partOf_6 : decode cX12_partOf 6 = .ok (.iaload, 1) := by decide +kernel
theorem dX12_partOf_7 : decode cX12_partOf 7 = .ok (.idiv, 1) := by decide +kernel
theorem dX12_partOf_8 : decode cX12_partOf 8 = .ok (.aload_n 0, 1) := by decide +kernel
theorem dX12_partOf_9 : decode cX12_partOf 9 = .ok (.getfield 17, 3) := by decide +kernel
theorem dX12_partOf_12 : decode cX12_partOf 12 = .ok (.iconst 0, 1) := by decide +kernel
theorem dX12_partOf_13 : decode cX12_partOf 13 = .ok (.iaload, 1) := by decide +kernel
theorem dX12_partOf_14 : decode cX12_partOf 14 = .ok (.irem, 1) := by decide +kernel
theorem dX12_partOf_15 : decode cX12_partOf 15 = .ok (.ireturn, 1) := by decide +kernel
theorem dX12_pDisk_0 : decode cX12_pDisk 0 = .ok (.aload_n 0, 1) := by decide +kernel
theorem dX12_pDisk_1 : decode cX12_pDisk 1 = .ok (.getfield 171, 3) := by decide +kernel
theorem dX12_pDisk_4 : decode cX12_pDisk 4 = .ok (.iconst 1, 1) := by decide +kernel
theorem dX12_pDisk_5 : decode cX12_pDisk 5 = .ok (.isub, 1) := by decide +kernel
theorem dX12_pDisk_6 : decode cX12_pDisk 6 = .ok (.iload_n 1, 1) := by decide +kernel
theorem dX12_pDisk_7 : decode cX12_pDisk 7 = .ok (.aload_n 0, 1) := by decide +kernel
theorem dX12_pDisk_8 : decode cX12_pDisk 8 = .ok (.getfield 171, 3) := by decide +kernel
theorem dX12_pDisk_11 : decode cX12_pDisk 11 = .ok (.irem, 1) := by decide +kernel
theorem dX12_pDisk_12 : decode cX12_pDisk 12 = .ok (.isub, 1) := by decide +kernel
theorem dX12_pDisk_13 : decode cX12_pDisk 13 = .ok (.ireturn, 1) := by decide +kernel
theorem dX12_diskOf_0 : decode cX12_diskOf 0 = .ok (.iload_n 2, 1) := by decide +kernel
theorem dX12_diskOf_1 : decode cX12_diskOf 1 = .ok (.aload_n 0, 1) := by decide +kernel
theorem dX12_diskOf_2 : decode cX12_diskOf 2 = .ok (.getfield 17, 3) := by decide +kernel
theorem dX12_diskOf_5 : decode cX12_diskOf 5 = .ok (.iconst 0, 1) := by decide +kernel
theorem dX12_diskOf_6 : decode cX12_diskOf 6 = .ok (.iaload, 1) := by decide +kernel
theorem dX12_diskOf_7 : decode cX12_diskOf 7 = .ok (.if_icmp .ne 7, 3) := by decide +kernel
theorem dX12_diskOf_10 : decode cX12_diskOf 10 = .ok (.iconst 0, 1) := by decide +kernel
theorem dX12_diskOf_11 : decode cX12_diskOf 11 = .ok (.goto 22, 3) := by decide +kernel
theorem dX12_diskOf_14 : decode cX12_diskOf 14 = .ok (.iload_n 2, 1) := by decide +kernel
theorem dX12_diskOf_15 : decode cX12_diskOf 15 = .ok (.aload_n 0, 1) := by decide +kernel
theorem dX12_diskOf_16 : decode cX12_diskOf 16 = .ok (.getfield 17, 3) := by decide +kernel
theorem dX12_diskOf_19 : decode cX12_diskOf 19 = .ok (.iconst 0, 1) := by decide +kernel
theorem dX12_diskOf_20 : decode cX12_diskOf 20 = .ok (.iaload, 1) := by decide +kernel
theorem dX12_diskOf_21 : decode cX12_diskOf 21 = .ok (.iconst 1, 1) := by decide +kernel
theorem dX12_diskOf_22 : decode cX12_diskOf 22 = .ok (.iadd, 1) := by decide +kernel
theorem dX12_diskOf_23 : decode cX12_diskOf 23 = .ok (.if_icmp .ne 7, 3) := by decide +kernel
theorem dX12_diskOf_26 : decode cX12_diskOf 26 = .ok (.iconst 1, 1) := by decide +kernel
theorem dX12_diskOf_27 : decode cX12_diskOf 27 = .ok (.goto 6, 3) := by decide +kernel
theorem dX12_diskOf_30 : decode cX12_diskOf 30 = .ok (.iload_n 2, 1) := by decide +kernel
theorem dX12_diskOf_31 : decode cX12_diskOf 31 = .ok (.iconst 2, 1) := by decide +kernel
theorem dX12_diskOf_32 : decode cX12_diskOf 32 = .ok (.iadd, 1) := by decide +kernel
theorem dX12_diskOf_33 : decode cX12_diskOf 33 = .ok (.istore_n 3, 1) := by decide +kernel
theorem dX12_diskOf_34 : decode cX12_diskOf 34 = .ok (.aload_n 0, 1) := by decide +kernel
theorem dX12_diskOf_35 : decode cX12_diskOf 35 = .ok (.iload_n 1, 1) := by decide +kernel
theorem dX12_diskOf_36 : decode cX12_diskOf 36 = .ok (.invokevirtual 196, 3) := by decide +kernel
theorem dX12_diskOf_39 : decode cX12_diskOf 39 = .ok (.iload_n 3, 1) := by decide +kernel
theorem dX12_diskOf_40 : decode cX12_diskOf 40 = .ok (.iadd, 1) := by decide +kernel
theorem dX12_diskOf_41 : decode cX12_diskOf 41 = .ok (.aload_n 0, 1) := by decide +kernel
theorem dX12_diskOf_42 : decode cX12_diskOf 42 = .ok (.getfield 171, 3) := by decide +kernel
theorem dX12_diskOf_45 : decode cX12_diskOf 45 = .ok (.irem, 1) := by decide +kernel
theorem dX12_diskOf_46 : decode cX12_diskOf 46 = .ok (.ireturn, 1) := by decide +kernel
theorem dX12_isThere_0 : decode cX12_isThere 0 = .ok (.aload_n 0, 1) := by decide +kernel
theorem dX12_isThere_1 : decode cX12_isThere 1 = .ok (.sipush 384, 3) := by decide +kernel
theorem dX12_isThere_4 : decode cX12_isThere 4 = .ok (.iload_n 1, 1) := by decide +kernel
theorem dX12_isThere_5 : decode cX12_isThere 5 = .ok (.iadd, 1) := by decide +kernel
theorem dX12_isThere_6 : decode cX12_isThere 6 = .ok (.iaload, 1) := by decide +kernel
theorem dX12_isThere_7 : decode cX12_isThere 7 = .ok (.ifCond .eq 25, 3) := by decide +kernel
theorem dX12_isThere_10 : decode cX12_isThere 10 = .ok (.aload_n 0, 1) := by decide +kernel
theorem dX12_isThere_11 : decode cX12_isThere 11 = .ok (.sipush 384, 3) := by decide +kernel
theorem dX12_isThere_14 : decode cX12_isThere 14 = .ok (.iload_n 1, 1) := by decide +kernel
theorem dX12_isThere_15 : decode cX12_isThere 15 = .ok (.iadd, 1) := by decide +kernel
theorem dX12_isThere_16 : decode cX12_isThere 16 = .ok (.iaload, 1) := by decide +kernel
theorem dX12_isThere_17 : decode cX12_isThere 17 = .ok (.iconst 2, 1) := by decide +kernel
theorem dX12_isThere_18 : decode cX12_isThere 18 = .ok (.if_icmp .ne 18, 3) := by decide +kernel
theorem dX12_isThere_21 : decode cX12_isThere 21 = .ok (.iload_n 2, 1) := by decide +kernel
theorem dX12_isThere_22 : decode cX12_isThere 22 = .ok (.aload_n 0, 1) := by decide +kernel
theorem dX12_isThere_23 : decode cX12_isThere 23 = .ok (.sipush 392, 3) := by decide +kernel
theorem dX12_isThere_26 : decode cX12_isThere 26 = .ok (.iload_n 1, 1) := by decide +kernel
theorem dX12_isThere_27 : decode cX12_isThere 27 = .ok (.iadd, 1) := by decide +kernel
theorem dX12_isThere_28 : decode cX12_isThere 28 = .ok (.iaload, 1) := by decide +kernel
theorem dX12_isThere_29 : decode cX12_isThere 29 = .ok (.if_icmp .ge 7, 3) := by decide +kernel
theorem dX12_isThere_32 : decode cX12_isThere 32 = .ok (.iconst 1, 1) := by decide +kernel
theorem dX12_isThere_33 : decode cX12_isThere 33 = .ok (.goto 4, 3) := by decide +kernel
theorem dX12_isThere_36 : decode cX12_isThere 36 = .ok (.iconst 0, 1) := by decide +kernel
theorem dX12_isThere_37 : decode cX12_isThere 37 = .ok (.ireturn, 1) := by decide +kernel
theorem dX12_spot_0 : decode cX12_spot 0 = .ok (.bipush 48, 2) := by decide +kernel
theorem dX12_spot_2 : decode cX12_spot 2 = .ok (.iload_n 0, 1) := by decide +kernel
theorem dX12_spot_3 : decode cX12_spot 3 = .ok (.imul, 1) := by decide +kernel
theorem dX12_spot_4 : decode cX12_spot 4 = .ok (.iconst 4, 1) := by decide +kernel
theorem dX12_spot_5 : decode cX12_spot 5 = .ok (.iload_n 1, 1) := by decide +kernel
theorem dX12_spot_6 : decode cX12_spot 6 = .ok (.imul, 1) := by decide +kernel
theorem dX12_spot_7 : decode cX12_spot 7 = .ok (.iadd, 1) := by decide +kernel
theorem dX12_spot_8 : decode cX12_spot 8 = .ok (.iload_n 2, 1) := by decide +kernel
theorem dX12_spot_9 : decode cX12_spot 9 = .ok (.iadd, 1) := by decide +kernel
theorem dX12_spot_10 : decode cX12_spot 10 = .ok (.ireturn, 1) := by decide +kernel
theorem dX12_lays_0 : decode cX12_lays 0 = .ok (.iconst 0, 1) := by decide +kernel
theorem dX12_lays_1 : decode cX12_lays 1 = .ok (.istore 6, 2) := by decide +kernel
theorem dX12_lays_3 : decode cX12_lays 3 = .ok (.iload 6, 2) := by decide +kernel
theorem dX12_lays_5 : decode cX12_lays 5 = .ok (.aload_n 0, 1) := by decide +kernel
theorem dX12_lays_6 : decode cX12_lays 6 = .ok (.getfield 171, 3) := by decide +kernel
theorem dX12_lays_9 : decode cX12_lays 9 = .ok (.if_icmp .ge 84, 3) := by decide +kernel
theorem dX12_lays_12 : decode cX12_lays 12 = .ok (.aload_n 0, 1) := by decide +kernel
theorem dX12_lays_13 : decode cX12_lays 13 = .ok (.iload_n 2, 1) := by decide +kernel
theorem dX12_lays_14 : decode cX12_lays 14 = .ok (.iload 6, 2) := by decide +kernel
theorem dX12_lays_16 : decode cX12_lays 16 = .ok (.invokevirtual 199, 3) := by decide +kernel
theorem dX12_lays_19 : decode cX12_lays 19 = .ok (.istore 7, 2) := by decide +kernel
theorem dX12_lays_21 : decode cX12_lays 21 = .ok (.aload_n 0, 1) := by decide +kernel
theorem dX12_lays_22 : decode cX12_lays 22 = .ok (.getfield 53, 3) := by decide +kernel
theorem dX12_lays_25 : decode cX12_lays 25 = .ok (.iload 6, 2) := by decide +kernel
theorem dX12_lays_27 : decode cX12_lays 27 = .ok (.aload_n 1, 1) := by decide +kernel
theorem dX12_lays_28 : decode cX12_lays 28 = .ok (.iload 7, 2) := by decide +kernel
theorem dX12_lays_30 : decode cX12_lays 30 = .ok (.iload_n 2, 1) := by decide +kernel
theorem dX12_lays_31 : decode cX12_lays 31 = .ok (.invokestatic 202, 3) := by decide +kernel
theorem dX12_lays_34 : decode cX12_lays 34 = .ok (.ifCond .eq 21, 3) := by decide +kernel
theorem dX12_lays_37 : decode cX12_lays 37 = .ok (.iload 7, 2) := by decide +kernel
theorem dX12_lays_39 : decode cX12_lays 39 = .ok (.iload 4, 2) := by decide +kernel
theorem dX12_lays_41 : decode cX12_lays 41 = .ok (.if_icmp .eq 14, 3) := by decide +kernel
theorem dX12_lays_44 : decode cX12_lays 44 = .ok (.iload 7, 2) := by decide +kernel
theorem dX12_lays_46 : decode cX12_lays 46 = .ok (.iload 5, 2) := by decide +kernel
theorem dX12_lays_48 : decode cX12_lays 48 = .ok (.if_icmp .eq 7, 3) := by decide +kernel
theorem dX12_lays_51 : decode cX12_lays 51 = .ok (.iconst 1, 1) := by decide +kernel
theorem dX12_lays_52 : decode cX12_lays 52 = .ok (.goto 4, 3) := by decide +kernel
theorem dX12_lays_55 : decode cX12_lays 55 = .ok (.iconst 0, 1) := by decide +kernel
theorem dX12_lays_56 : decode cX12_lays 56 = .ok (.bastore, 1) := by decide +kernel
theorem dX12_lays_57 : decode cX12_lays 57 = .ok (.aload_n 0, 1) := by decide +kernel
theorem dX12_lays_58 : decode cX12_lays 58 = .ok (.getfield 50, 3) := by decide +kernel
theorem dX12_lays_61 : decode cX12_lays 61 = .ok (.iload 6, 2) := by decide +kernel
theorem dX12_lays_63 : decode cX12_lays 63 = .ok (.aload_n 0, 1) := by decide +kernel
theorem dX12_lays_64 : decode cX12_lays 64 = .ok (.getfield 53, 3) := by decide +kernel
theorem dX12_lays_67 : decode cX12_lays 67 = .ok (.iload 6, 2) := by decide +kernel
theorem dX12_lays_69 : decode cX12_lays 69 = .ok (.baload, 1) := by decide +kernel
theorem dX12_lays_70 : decode cX12_lays 70 = .ok (.ifCond .eq 15, 3) := by decide +kernel
theorem dX12_lays_73 : decode cX12_lays 73 = .ok (.aload_n 1, 1) := by decide +kernel
theorem dX12_lays_74 : decode cX12_lays 74 = .ok (.iload 7, 2) := by decide +kernel
theorem dX12_lays_76 : decode cX12_lays 76 = .ok (.iload_n 2, 1) := by decide +kernel
theorem dX12_lays_77 : decode cX12_lays 77 = .ok (.iload_n 3, 1) := by decide +kernel
theorem dX12_lays_78 : decode cX12_lays 78 = .ok (.invokestatic 206, 3) := by decide +kernel
theorem dX12_lays_81 : decode cX12_lays 81 = .ok (.iaload, 1) := by decide +kernel
theorem dX12_lays_82 : decode cX12_lays 82 = .ok (.goto 4, 3) := by decide +kernel
theorem dX12_lays_85 : decode cX12_lays 85 = .ok (.iconst 0, 1) := by decide +kernel
theorem dX12_lays_86 : decode cX12_lays 86 = .ok (.iastore, 1) := by decide +kernel
theorem dX12_lays_87 : decode cX12_lays 87 = .ok (.iinc 6 1, 3) := by decide +kernel
theorem dX12_lays_90 : decode cX12_lays 90 = .ok (.goto (-87), 3) := by decide +kernel
theorem dX12_lays_93 : decode cX12_lays 93 = .ok (.return_, 1) := by decide +kernel
theorem dX12_tries_0 : decode cX12_tries 0 = .ok (.aload_n 0, 1) := by decide +kernel
theorem dX12_tries_1 : decode cX12_tries 1 = .ok (.getfield 237, 3) := by decide +kernel
theorem dX12_tries_4 : decode cX12_tries 4 = .ok (.iconst (-1), 1) := by decide +kernel
theorem dX12_tries_5 : decode cX12_tries 5 = .ok (.if_icmp .eq 19, 3) := by decide +kernel
theorem dX12_tries_8 : decode cX12_tries 8 = .ok (.iload_n 2, 1) := by decide +kernel
theorem dX12_tries_9 : decode cX12_tries 9 = .ok (.iload_n 3, 1) := by decide +kernel
theorem dX12_tries_10 : decode cX12_tries 10 = .ok (.iadd, 1) := by decide +kernel
theorem dX12_tries_11 : decode cX12_tries 11 = .ok (.aload_n 0, 1) := by decide +kernel
theorem dX12_tries_12 : decode cX12_tries 12 = .ok (.getfield 240, 3) := by decide +kernel
theorem dX12_tries_15 : decode cX12_tries 15 = .ok (.aload_n 0, 1) := by decide +kernel
theorem dX12_tries_16 : decode cX12_tries 16 = .ok (.getfield 243, 3) := by decide +kernel
theorem dX12_tries_19 : decode cX12_tries 19 = .ok (.iadd, 1) := by decide +kernel
theorem dX12_tries_20 : decode cX12_tries 20 = .ok (.if_icmp .lt 4, 3) := by decide +kernel
theorem dX12_tries_23 : decode cX12_tries 23 = .ok (.return_, 1) := by decide +kernel
theorem dX12_tries_24 : decode cX12_tries 24 = .ok (.aload_n 0, 1) := by decide +kernel
theorem dX12_tries_25 : decode cX12_tries 25 = .ok (.iload_n 1, 1) := by decide +kernel
theorem dX12_tries_26 : decode cX12_tries 26 = .ok (.putfield 237, 3) := by decide +kernel
theorem dX12_tries_29 : decode cX12_tries 29 = .ok (.aload_n 0, 1) := by decide +kernel
theorem dX12_tries_30 : decode cX12_tries 30 = .ok (.iload_n 2, 1) := by decide +kernel
theorem dX12_tries_31 : decode cX12_tries 31 = .ok (.putfield 240, 3) := by decide +kernel
theorem dX12_tries_34 : decode cX12_tries 34 = .ok (.aload_n 0, 1) := by decide +kernel
theorem dX12_tries_35 : decode cX12_tries 35 = .ok (.iload_n 3, 1) := by decide +kernel
theorem dX12_tries_36 : decode cX12_tries 36 = .ok (.putfield 243, 3) := by decide +kernel
theorem dX12_tries_39 : decode cX12_tries 39 = .ok (.return_, 1) := by decide +kernel
theorem dX12_chooses_0 : decode cX12_chooses 0 = .ok (.aload_n 0, 1) := by decide +kernel
theorem dX12_chooses_1 : decode cX12_chooses 1 = .ok (.getfield 17, 3) := by decide +kernel
theorem dX12_chooses_4 : decode cX12_chooses 4 = .ok (.iconst 0, 1) := by decide +kernel
theorem dX12_chooses_5 : decode cX12_chooses 5 = .ok (.iaload, 1) := by decide +kernel
theorem dX12_chooses_6 : decode cX12_chooses 6 = .ok (.istore_n 2, 1) := by decide +kernel
theorem dX12_chooses_7 : decode cX12_chooses 7 = .ok (.aload_n 0, 1) := by decide +kernel
theorem dX12_chooses_8 : decode cX12_chooses 8 = .ok (.getfield 53, 3) := by decide +kernel
theorem dX12_chooses_11 : decode cX12_chooses 11 = .ok (.iload_n 2, 1) := by decide +kernel
theorem dX12_chooses_12 : decode cX12_chooses 12 = .ok (.baload, 1) := by decide +kernel
theorem dX12_chooses_13 : decode cX12_chooses 13 = .ok (.ifCond .eq 7, 3) := by decide +kernel
theorem dX12_chooses_16 : decode cX12_chooses 16 = .ok (.iconst 1, 1) := by decide +kernel
theorem dX12_chooses_17 : decode cX12_chooses 17 = .ok (.goto 4, 3) := by decide +kernel
theorem dX12_chooses_20 : decode cX12_chooses 20 = .ok (.iconst 0, 1) := by decide +kernel
theorem dX12_chooses_21 : decode cX12_chooses 21 = .ok (.aload_n 0, 1) := by decide +kernel
theorem dX12_chooses_22 : decode cX12_chooses 22 = .ok (.getfield 53, 3) := by decide +kernel
theorem dX12_chooses_25 : decode cX12_chooses 25 = .ok (.iload_n 2, 1) := by decide +kernel
theorem dX12_chooses_26 : decode cX12_chooses 26 = .ok (.iconst 1, 1) := by decide +kernel
theorem dX12_chooses_27 : decode cX12_chooses 27 = .ok (.iadd, 1) := by decide +kernel
theorem dX12_chooses_28 : decode cX12_chooses 28 = .ok (.baload, 1) := by decide +kernel
theorem dX12_chooses_29 : decode cX12_chooses 29 = .ok (.ifCond .eq 7, 3) := by decide +kernel
theorem dX12_chooses_32 : decode cX12_chooses 32 = .ok (.iconst 1, 1) := by decide +kernel
theorem dX12_chooses_33 : decode cX12_chooses 33 = .ok (.goto 4, 3) := by decide +kernel
theorem dX12_chooses_36 : decode cX12_chooses 36 = .ok (.iconst 0, 1) := by decide +kernel
theorem dX12_chooses_37 : decode cX12_chooses 37 = .ok (.iadd, 1) := by decide +kernel
theorem dX12_chooses_38 : decode cX12_chooses 38 = .ok (.istore_n 3, 1) := by decide +kernel
theorem dX12_chooses_39 : decode cX12_chooses 39 = .ok (.iconst 0, 1) := by decide +kernel
theorem dX12_chooses_40 : decode cX12_chooses 40 = .ok (.istore 4, 2) := by decide +kernel
theorem dX12_chooses_42 : decode cX12_chooses 42 = .ok (.iconst 0, 1) := by decide +kernel
theorem dX12_chooses_43 : decode cX12_chooses 43 = .ok (.istore 5, 2) := by decide +kernel
theorem dX12_chooses_45 : decode cX12_chooses 45 = .ok (.iload 5, 2) := by decide +kernel
theorem dX12_chooses_47 : decode cX12_chooses 47 = .ok (.iload_n 2, 1) := by decide +kernel
theorem dX12_chooses_48 : decode cX12_chooses 48 = .ok (.if_icmp .ge 35, 3) := by decide +kernel
theorem dX12_chooses_51 : decode cX12_chooses 51 = .ok (.iload 4, 2) := by decide +kernel
theorem dX12_chooses_53 : decode cX12_chooses 53 = .ok (.iload 5, 2) := by decide +kernel
theorem dX12_chooses_55 : decode cX12_chooses 55 = .ok (.iload_n 1, 1) := by decide +kernel
theorem dX12_chooses_56 : decode cX12_chooses 56 = .ok (.if_icmp .eq 17, 3) := by decide +kernel
theorem dX12_chooses_59 : decode cX12_chooses 59 = .ok (.aload_n 0, 1) := by decide +kernel
theorem dX12_chooses_60 : decode cX12_chooses 60 = .ok (.getfield 53, 3) := by decide +kernel
theorem dX12_chooses_63 : decode cX12_chooses 63 = .ok (.iload 5, 2) := by decide +kernel
theorem dX12_chooses_65 : decode cX12_chooses 65 = .ok (.baload, 1) := by decide +kernel
theorem dX12_chooses_66 : decode cX12_chooses 66 = .ok (.ifCond .eq 7, 3) := by decide +kernel
theorem dX12_chooses_69 : decode cX12_chooses 69 = .ok (.iconst 1, 1) := by decide +kernel
theorem dX12_chooses_70 : decode cX12_chooses 70 = .ok (.goto 4, 3) := by decide +kernel
theorem dX12_chooses_73 : decode cX12_chooses 73 = .ok (.iconst 0, 1) := by decide +kernel
theorem dX12_chooses_74 : decode cX12_chooses 74 = .ok (.iadd, 1) := by decide +kernel
theorem dX12_chooses_75 : decode cX12_chooses 75 = .ok (.istore 4, 2) := by decide +kernel
theorem dX12_chooses_77 : decode cX12_chooses 77 = .ok (.iinc 5 1, 3) := by decide +kernel
theorem dX12_chooses_80 : decode cX12_chooses 80 = .ok (.goto (-35), 3) := by decide +kernel
theorem dX12_chooses_83 : decode cX12_chooses 83 = .ok (.aload_n 0, 1) := by decide +kernel
theorem dX12_chooses_84 : decode cX12_chooses 84 = .ok (.iconst (-1), 1) := by decide +kernel
theorem dX12_chooses_85 : decode cX12_chooses 85 = .ok (.putfield 237, 3) := by decide +kernel
theorem dX12_chooses_88 : decode cX12_chooses 88 = .ok (.aload_n 0, 1) := by decide +kernel
theorem dX12_chooses_89 : decode cX12_chooses 89 = .ok (.getfield 53, 3) := by decide +kernel
theorem dX12_chooses_92 : decode cX12_chooses 92 = .ok (.iload_n 1, 1) := by decide +kernel
theorem dX12_chooses_93 : decode cX12_chooses 93 = .ok (.baload, 1) := by decide +kernel
theorem dX12_chooses_94 : decode cX12_chooses 94 = .ok (.ifCond .eq 14, 3) := by decide +kernel
theorem dX12_chooses_97 : decode cX12_chooses 97 = .ok (.aload_n 0, 1) := by decide +kernel
theorem dX12_chooses_98 : decode cX12_chooses 98 = .ok (.iconst 0, 1) := by decide +kernel
theorem dX12_chooses_99 : decode cX12_chooses 99 = .ok (.iconst 1, 1) := by decide +kernel
theorem dX12_chooses_100 : decode cX12_chooses 100 = .ok (.iload_n 3, 1) := by decide +kernel
theorem dX12_chooses_101 : decode cX12_chooses 101 = .ok (.iadd, 1) := by decide +kernel
theorem dX12_chooses_102 : decode cX12_chooses 102 = .ok (.iconst 1, 1) := by decide +kernel
theorem dX12_chooses_103 : decode cX12_chooses 103 = .ok (.iload_n 3, 1) := by decide +kernel
theorem dX12_chooses_104 : decode cX12_chooses 104 = .ok (.iadd, 1) := by decide +kernel
theorem dX12_chooses_105 : decode cX12_chooses 105 = .ok (.invokevirtual 246, 3) := by decide +kernel
theorem dX12_chooses_108 : decode cX12_chooses 108 = .ok (.iload 4, 2) := by decide +kernel
theorem dX12_chooses_110 : decode cX12_chooses 110 = .ok (.iload_n 2, 1) := by decide +kernel
theorem dX12_chooses_111 : decode cX12_chooses 111 = .ok (.iconst 1, 1) := by decide +kernel
theorem dX12_chooses_112 : decode cX12_chooses 112 = .ok (.isub, 1) := by decide +kernel
theorem dX12_chooses_113 : decode cX12_chooses 113 = .ok (.if_icmp .ne 27, 3) := by decide +kernel
theorem dX12_chooses_116 : decode cX12_chooses 116 = .ok (.aload_n 0, 1) := by decide +kernel
theorem dX12_chooses_117 : decode cX12_chooses 117 = .ok (.iconst 1, 1) := by decide +kernel
theorem dX12_chooses_118 : decode cX12_chooses 118 = .ok (.iload_n 2, 1) := by decide +kernel
theorem dX12_chooses_119 : decode cX12_chooses 119 = .ok (.iconst 1, 1) := by decide +kernel
theorem dX12_chooses_120 : decode cX12_chooses 120 = .ok (.isub, 1) := by decide +kernel
theorem dX12_chooses_121 : decode cX12_chooses 121 = .ok (.aload_n 0, 1) := by decide +kernel
theorem dX12_chooses_122 : decode cX12_chooses 122 = .ok (.getfield 53, 3) := by decide +kernel
theorem dX12_chooses_125 : decode cX12_chooses 125 = .ok (.iload_n 1, 1) := by decide +kernel
theorem dX12_chooses_126 : decode cX12_chooses 126 = .ok (.baload, 1) := by decide +kernel
theorem dX12_chooses_127 : decode cX12_chooses 127 = .ok (.ifCond .eq 7, 3) := by decide +kernel
theorem dX12_chooses_130 : decode cX12_chooses 130 = .ok (.iconst 1, 1) := by decide +kernel
theorem dX12_chooses_131 : decode cX12_chooses 131 = .ok (.goto 4, 3) := by decide +kernel
theorem dX12_chooses_134 : decode cX12_chooses 134 = .ok (.iconst 0, 1) := by decide +kernel
theorem dX12_chooses_135 : decode cX12_chooses 135 = .ok (.iload_n 3, 1) := by decide +kernel
theorem dX12_chooses_136 : decode cX12_chooses 136 = .ok (.iadd, 1) := by decide +kernel
theorem dX12_chooses_137 : decode cX12_chooses 137 = .ok (.invokevirtual 246, 3) := by decide +kernel
theorem dX12_chooses_140 : decode cX12_chooses 140 = .ok (.aload_n 0, 1) := by decide +kernel
theorem dX12_chooses_141 : decode cX12_chooses 141 = .ok (.getfield 53, 3) := by decide +kernel
theorem dX12_chooses_144 : decode cX12_chooses 144 = .ok (.iload_n 1, 1) := by decide +kernel
theorem dX12_chooses_145 : decode cX12_chooses 145 = .ok (.baload, 1) := by decide +kernel
theorem dX12_chooses_146 : decode cX12_chooses 146 = .ok (.ifCond .ne 18, 3) := by decide +kernel
theorem dX12_chooses_149 : decode cX12_chooses 149 = .ok (.iload 4, 2) := by decide +kernel
theorem dX12_chooses_151 : decode cX12_chooses 151 = .ok (.iload_n 2, 1) := by decide +kernel
theorem dX12_chooses_152 : decode cX12_chooses 152 = .ok (.iconst 2, 1) := by decide +kernel
theorem dX12_chooses_153 : decode cX12_chooses 153 = .ok (.isub, 1) := by decide +kernel
theorem dX12_chooses_154 : decode cX12_chooses 154 = .ok (.if_icmp .ne 10, 3) := by decide +kernel
theorem dX12_chooses_157 : decode cX12_chooses 157 = .ok (.aload_n 0, 1) := by decide +kernel
theorem dX12_chooses_158 : decode cX12_chooses 158 = .ok (.iconst 2, 1) := by decide +kernel
theorem dX12_chooses_159 : decode cX12_chooses 159 = .ok (.iload_n 2, 1) := by decide +kernel
theorem dX12_chooses_160 : decode cX12_chooses 160 = .ok (.iconst 2, 1) := by decide +kernel
theorem dX12_chooses_161 : decode cX12_chooses 161 = .ok (.invokevirtual 246, 3) := by decide +kernel
theorem dX12_chooses_164 : decode cX12_chooses 164 = .ok (.return_, 1) := by decide +kernel
theorem dX12_isRead_0 : decode cX12_isRead 0 = .ok (.iload_n 1, 1) := by decide +kernel
theorem dX12_isRead_1 : decode cX12_isRead 1 = .ok (.aload_n 0, 1) := by decide +kernel
theorem dX12_isRead_2 : decode cX12_isRead 2 = .ok (.getfield 17, 3) := by decide +kernel
theorem dX12_isRead_5 : decode cX12_isRead 5 = .ok (.iconst 0, 1) := by decide +kernel
theorem dX12_isRead_6 : decode cX12_isRead 6 = .ok (.iaload, 1) := by decide +kernel
theorem dX12_isRead_7 : decode cX12_isRead 7 = .ok (.if_icmp .ge 7, 3) := by decide +kernel
theorem dX12_isRead_10 : decode cX12_isRead 10 = .ok (.iconst 1, 1) := by decide +kernel
theorem dX12_isRead_11 : decode cX12_isRead 11 = .ok (.goto 4, 3) := by decide +kernel
theorem dX12_isRead_14 : decode cX12_isRead 14 = .ok (.iconst 0, 1) := by decide +kernel
theorem dX12_isRead_15 : decode cX12_isRead 15 = .ok (.istore_n 3, 1) := by decide +kernel
theorem dX12_isRead_16 : decode cX12_isRead 16 = .ok (.aload_n 0, 1) := by decide +kernel
theorem dX12_isRead_17 : decode cX12_isRead 17 = .ok (.getfield 237, 3) := by decide +kernel
theorem dX12_isRead_20 : decode cX12_isRead 20 = .ok (.ifCond .ne 20, 3) := by decide +kernel
theorem dX12_isRead_23 : decode cX12_isRead 23 = .ok (.iload_n 3, 1) := by decide +kernel
theorem dX12_isRead_24 : decode cX12_isRead 24 = .ok (.ifCond .eq 8, 3) := by decide +kernel
theorem dX12_isRead_27 : decode cX12_isRead 27 = .ok (.iload_n 1, 1) := by decide +kernel
theorem dX12_isRead_28 : decode cX12_isRead 28 = .ok (.iload_n 2, 1) := by decide +kernel
theorem dX12_isRead_29 : decode cX12_isRead 29 = .ok (.if_icmp .ne 7, 3) := by decide +kernel
theorem dX12_isRead_32 : decode cX12_isRead 32 = .ok (.iconst 1, 1) := by decide +kernel
theorem dX12_isRead_33 : decode cX12_isRead 33 = .ok (.goto 33, 3) := by decide +kernel
theorem dX12_isRead_36 : decode cX12_isRead 36 = .ok (.iconst 0, 1) := by decide +kernel
theorem dX12_isRead_37 : decode cX12_isRead 37 = .ok (.goto 29, 3) := by decide +kernel
theorem dX12_isRead_40 : decode cX12_isRead 40 = .ok (.aload_n 0, 1) := by decide +kernel
theorem dX12_isRead_41 : decode cX12_isRead 41 = .ok (.getfield 237, 3) := by decide +kernel
theorem dX12_isRead_44 : decode cX12_isRead 44 = .ok (.iconst 1, 1) := by decide +kernel
theorem dX12_isRead_45 : decode cX12_isRead 45 = .ok (.if_icmp .ne 20, 3) := by decide +kernel
theorem dX12_isRead_48 : decode cX12_isRead 48 = .ok (.iload_n 3, 1) := by decide +kernel
theorem dX12_isRead_49 : decode cX12_isRead 49 = .ok (.ifCond .eq 12, 3) := by decide +kernel
theorem dX12_isRead_52 : decode cX12_isRead 52 = .ok (.iload_n 1, 1) := by decide +kernel
theorem dX12_isRead_53 : decode cX12_isRead 53 = .ok (.iload_n 2, 1) := by decide +kernel
theorem dX12_isRead_54 : decode cX12_isRead 54 = .ok (.if_icmp .eq 7, 3) := by decide +kernel
theorem dX12_isRead_57 : decode cX12_isRead 57 = .ok (.iconst 1, 1) := by decide +kernel
theorem dX12_isRead_58 : decode cX12_isRead 58 = .ok (.goto 8, 3) := by decide +kernel
theorem dX12_isRead_61 : decode cX12_isRead 61 = .ok (.iconst 0, 1) := by decide +kernel
theorem dX12_isRead_62 : decode cX12_isRead 62 = .ok (.goto 4, 3) := by decide +kernel
theorem dX12_isRead_65 : decode cX12_isRead 65 = .ok (.iconst 1, 1) := by decide +kernel
theorem dX12_isRead_66 : decode cX12_isRead 66 = .ok (.ireturn, 1) := by decide +kernel
theorem dX12_counts_0 : decode cX12_counts 0 = .ok (.aload_n 1, 1) := by decide +kernel
theorem dX12_counts_1 : decode cX12_counts 1 = .ok (.iload_n 3, 1) := by decide +kernel
theorem dX12_counts_2 : decode cX12_counts 2 = .ok (.ifCond .eq 9, 3) := by decide +kernel
theorem dX12_counts_5 : decode cX12_counts 5 = .ok (.sipush 408, 3) := by decide +kernel
theorem dX12_counts_8 : decode cX12_counts 8 = .ok (.goto 6, 3) := by decide +kernel
theorem dX12_counts_11 : decode cX12_counts 11 = .ok (.sipush 400, 3) := by decide +kernel
theorem dX12_counts_14 : decode cX12_counts 14 = .ok (.iload_n 2, 1) := by decide +kernel
theorem dX12_counts_15 : decode cX12_counts 15 = .ok (.iadd, 1) := by decide +kernel
theorem dX12_counts_16 : decode cX12_counts 16 = .ok (.dup2, 1) := by decide +kernel
theorem dX12_counts_17 : decode cX12_counts 17 = .ok (.iaload, 1) := by decide +kernel
theorem dX12_counts_18 : decode cX12_counts 18 = .ok (.iconst 1, 1) := by decide +kernel
theorem dX12_counts_19 : decode cX12_counts 19 = .ok (.iadd, 1) := by decide +kernel
theorem dX12_counts_20 : decode cX12_counts 20 = .ok (.iastore, 1) := by decide +kernel
theorem dX12_counts_21 : decode cX12_counts 21 = .ok (.aload_n 1, 1) := by decide +kernel
theorem dX12_counts_22 : decode cX12_counts 22 = .ok (.iload_n 3, 1) := by decide +kernel
theorem dX12_counts_23 : decode cX12_counts 23 = .ok (.ifCond .eq 9, 3) := by decide +kernel
theorem dX12_counts_26 : decode cX12_counts 26 = .ok (.sipush 428, 3) := by decide +kernel
theorem dX12_counts_29 : decode cX12_counts 29 = .ok (.goto 6, 3) := by decide +kernel
theorem dX12_counts_32 : decode cX12_counts 32 = .ok (.sipush 427, 3) := by decide +kernel
theorem dX12_counts_35 : decode cX12_counts 35 = .ok (.dup2, 1) := by decide +kernel
theorem dX12_counts_36 : decode cX12_counts 36 = .ok (.iaload, 1) := by decide +kernel
theorem dX12_counts_37 : decode cX12_counts 37 = .ok (.iconst 1, 1) := by decide +kernel
theorem dX12_counts_38 : decode cX12_counts 38 = .ok (.iadd, 1) := by decide +kernel
theorem dX12_counts_39 : decode cX12_counts 39 = .ok (.iastore, 1) := by decide +kernel
theorem dX12_counts_40 : decode cX12_counts 40 = .ok (.return_, 1) := by decide +kernel
theorem dX12_countsRole_0 : decode cX12_countsRole 0 = .ok (.aload_n 0, 1) := by decide +kernel
theorem dX12_countsRole_1 : decode cX12_countsRole 1 = .ok (.aload_n 1, 1) := by decide +kernel
theorem dX12_countsRole_2 : decode cX12_countsRole 2 = .ok (.aload_n 0, 1) := by decide +kernel
theorem dX12_countsRole_3 : decode cX12_countsRole 3 = .ok (.iload_n 2, 1) := by decide +kernel
theorem dX12_countsRole_4 : decode cX12_countsRole 4 = .ok (.iload_n 3, 1) := by decide +kernel
theorem dX12_countsRole_5 : decode cX12_countsRole 5 = .ok (.invokevirtual 199, 3) := by decide +kernel
theorem dX12_countsRole_8 : decode cX12_countsRole 8 = .ok (.iload 4, 2) := by decide +kernel
theorem dX12_countsRole_10 : decode cX12_countsRole 10 = .ok (.invokevirtual 233, 3) := by decide +kernel
theorem dX12_countsRole_13 : decode cX12_countsRole 13 = .ok (.return_, 1) := by decide +kernel
theorem dX12_missing_0 : decode cX12_missing 0 = .ok (.iload_n 1, 1) := by decide +kernel
theorem dX12_missing_1 : decode cX12_missing 1 = .ok (.istore_n 2, 1) := by decide +kernel
theorem dX12_missing_2 : decode cX12_missing 2 = .ok (.iload_n 2, 1) := by decide +kernel
theorem dX12_missing_3 : decode cX12_missing 3 = .ok (.aload_n 0, 1) := by decide +kernel
theorem dX12_missing_4 : decode cX12_missing 4 = .ok (.getfield 17, 3) := by decide +kernel
theorem dX12_missing_7 : decode cX12_missing 7 = .ok (.iconst 0, 1) := by decide +kernel
theorem dX12_missing_8 : decode cX12_missing 8 = .ok (.iaload, 1) := by decide +kernel
theorem dX12_missing_9 : decode cX12_missing 9 = .ok (.if_icmp .ge 20, 3) := by decide +kernel
theorem dX12_missing_12 : decode cX12_missing 12 = .ok (.aload_n 0, 1) := by decide +kernel
theorem dX12_missing_13 : decode cX12_missing 13 = .ok (.getfield 53, 3) := by decide +kernel
theorem dX12_missing_16 : decode cX12_missing 16 = .ok (.iload_n 2, 1) := by decide +kernel
theorem dX12_missing_17 : decode cX12_missing 17 = .ok (.baload, 1) := by decide +kernel
theorem dX12_missing_18 : decode cX12_missing 18 = .ok (.ifCond .ne 5, 3) := by decide +kernel
theorem dX12_missing_21 : decode cX12_missing 21 = .ok (.iload_n 2, 1) := by decide +kernel
theorem dX12_missing_22 : decode cX12_missing 22 = .ok (.ireturn, 1) := by decide +kernel
theorem dX12_missing_23 : decode cX12_missing 23 = .ok (.iinc 2 1, 3) := by decide +kernel
theorem dX12_missing_26 : decode cX12_missing 26 = .ok (.goto (-24), 3) := by decide +kernel
theorem dX12_missing_29 : decode cX12_missing 29 = .ok (.iconst (-1), 1) := by decide +kernel
theorem dX12_missing_30 : decode cX12_missing 30 = .ok (.ireturn, 1) := by decide +kernel
