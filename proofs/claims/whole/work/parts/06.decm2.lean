theorem dX12_sum_0 : decode cX12_sum 0 = .ok (.iconst 0, 1) := by decide +kernel
theorem dX12_sum_1 : decode cX12_sum 1 = .ok (.istore 4, 2) := by decide +kernel
theorem dX12_sum_3 : decode cX12_sum 3 = .ok (.iconst 0, 1) := by decide +kernel
theorem dX12_sum_4 : decode cX12_sum 4 = .ok (.istore 5, 2) := by decide +kernel
theorem dX12_sum_6 : decode cX12_sum 6 = .ok (.iload 5, 2) := by decide +kernel
theorem dX12_sum_8 : decode cX12_sum 8 = .ok (.aload_n 0, 1) := by decide +kernel
theorem dX12_sum_9 : decode cX12_sum 9 = .ok (.getfield 17, 3) := by decide +kernel
theorem dX12_sum_12 : decode cX12_sum 12 = .ok (.iconst 0, 1) := by decide +kernel
theorem dX12_sum_13 : decode cX12_sum 13 = .ok (.iaload, 1) := by decide +kernel
theorem dX12_sum_14 : decode cX12_sum 14 = .ok (.if_icmp .ge 58, 3) := by decide +kernel
theorem dX12_sum_17 : decode cX12_sum 17 = .ok (.iload 5, 2) := by decide +kernel
theorem dX12_sum_19 : decode cX12_sum 19 = .ok (.iload_n 2, 1) := by decide +kernel
theorem dX12_sum_20 : decode cX12_sum 20 = .ok (.if_icmp .eq 46, 3) := by decide +kernel
theorem dX12_sum_23 : decode cX12_sum 23 = .ok (.iload 5, 2) := by decide +kernel
theorem dX12_sum_25 : decode cX12_sum 25 = .ok (.iload_n 3, 1) := by decide +kernel
theorem dX12_sum_26 : decode cX12_sum 26 = .ok (.if_icmp .eq 40, 3) := by decide +kernel
theorem dX12_sum_29 : decode cX12_sum 29 = .ok (.iload 4, 2) := by decide +kernel
theorem dX12_sum_31 : decode cX12_sum 31 = .ok (.iload_n 1, 1) := by decide +kernel
theorem dX12_sum_32 : decode cX12_sum 32 = .ok (.ifCond .eq 24, 3) := by decide +kernel
theorem dX12_sum_35 : decode cX12_sum 35 = .ok (.aload_n 0, 1) := by decide +kernel
theorem dX12_sum_36 : decode cX12_sum 36 = .ok (.aload_n 0, 1) := by decide +kernel
theorem dX12_sum_37 : decode cX12_sum 37 = .ok (.getfield 50, 3) := by decide +kernel
theorem dX12_sum_40 : decode cX12_sum 40 = .ok (.iload 5, 2) := by decide +kernel
theorem dX12_sum_42 : decode cX12_sum 42 = .ok (.iaload, 1) := by decide +kernel
theorem dX12_sum_43 : decode cX12_sum 43 = .ok (.aload_n 0, 1) := by decide +kernel
theorem dX12_sum_44 : decode cX12_sum 44 = .ok (.getfield 32, 3) := by decide +kernel
theorem dX12_sum_47 : decode cX12_sum 47 = .ok (.iload 5, 2) := by decide +kernel
theorem dX12_sum_49 : decode cX12_sum 49 = .ok (.iaload, 1) := by decide +kernel
theorem dX12_sum_50 : decode cX12_sum 50 = .ok (.invokevirtual 160, 3) := by decide +kernel
theorem dX12_sum_53 : decode cX12_sum 53 = .ok (.goto 10, 3) := by decide +kernel
theorem dX12_sum_56 : decode cX12_sum 56 = .ok (.aload_n 0, 1) := by decide +kernel
theorem dX12_sum_57 : decode cX12_sum 57 = .ok (.getfield 50, 3) := by decide +kernel
theorem dX12_sum_60 : decode cX12_sum 60 = .ok (.iload 5, 2) := by decide +kernel
theorem dX12_sum_62 : decode cX12_sum 62 = .ok (.iaload, 1) := by decide +kernel
theorem dX12_sum_63 : decode cX12_sum 63 = .ok (.ixor, 1) := by decide +kernel
theorem dX12_sum_64 : decode cX12_sum 64 = .ok (.istore 4, 2) := by decide +kernel
theorem dX12_sum_66 : decode cX12_sum 66 = .ok (.iinc 5 1, 3) := by decide +kernel
theorem dX12_sum_69 : decode cX12_sum 69 = .ok (.goto (-63), 3) := by decide +kernel
theorem dX12_sum_72 : decode cX12_sum 72 = .ok (.iload 4, 2) := by decide +kernel
theorem dX12_sum_74 : decode cX12_sum 74 = .ok (.ireturn, 1) := by decide +kernel
theorem dX12_solves_0 : decode cX12_solves 0 = .ok (.aload_n 0, 1) := by decide +kernel
theorem dX12_solves_1 : decode cX12_solves 1 = .ok (.getfield 17, 3) := by decide +kernel
theorem dX12_solves_4 : decode cX12_solves 4 = .ok (.iconst 0, 1) := by decide +kernel
theorem dX12_solves_5 : decode cX12_solves 5 = .ok (.iaload, 1) := by decide +kernel
theorem dX12_solves_6 : decode cX12_solves 6 = .ok (.istore_n 1, 1) := by decide +kernel
theorem dX12_solves_7 : decode cX12_solves 7 = .ok (.iload_n 1, 1) := by decide +kernel
theorem dX12_solves_8 : decode cX12_solves 8 = .ok (.iconst 1, 1) := by decide +kernel
theorem dX12_solves_9 : decode cX12_solves 9 = .ok (.iadd, 1) := by decide +kernel
theorem dX12_solves_10 : decode cX12_solves 10 = .ok (.istore_n 2, 1) := by decide +kernel
theorem dX12_solves_11 : decode cX12_solves 11 = .ok (.aload_n 0, 1) := by decide +kernel
theorem dX12_solves_12 : decode cX12_solves 12 = .ok (.iconst 0, 1) := by decide +kernel
theorem dX12_solves_13 : decode cX12_solves 13 = .ok (.invokevirtual 210, 3) := by decide +kernel
theorem dX12_solves_16 : decode cX12_solves 16 = .ok (.istore_n 3, 1) := by decide +kernel
theorem dX12_solves_17 : decode cX12_solves 17 = .ok (.iload_n 3, 1) := by decide +kernel
theorem dX12_solves_18 : decode cX12_solves 18 = .ok (.iconst (-1), 1) := by decide +kernel
theorem dX12_solves_19 : decode cX12_solves 19 = .ok (.if_icmp .ne 7, 3) := by decide +kernel
theorem dX12_solves_22 : decode cX12_solves 22 = .ok (.iconst (-1), 1) := by decide +kernel
theorem dX12_solves_23 : decode cX12_solves 23 = .ok (.goto 10, 3) := by decide +kernel
theorem dX12_solves_26 : decode cX12_solves 26 = .ok (.aload_n 0, 1) := by decide +kernel
theorem dX12_solves_27 : decode cX12_solves 27 = .ok (.iload_n 3, 1) := by decide +kernel
theorem dX12_solves_28 : decode cX12_solves 28 = .ok (.iconst 1, 1) := by decide +kernel
theorem dX12_solves_29 : decode cX12_solves 29 = .ok (.iadd, 1) := by decide +kernel
theorem dX12_solves_30 : decode cX12_solves 30 = .ok (.invokevirtual 210, 3) := by decide +kernel
theorem dX12_solves_33 : decode cX12_solves 33 = .ok (.istore 4, 2) := by decide +kernel
theorem dX12_solves_35 : decode cX12_solves 35 = .ok (.iload 4, 2) := by decide +kernel
theorem dX12_solves_37 : decode cX12_solves 37 = .ok (.iconst (-1), 1) := by decide +kernel
theorem dX12_solves_38 : decode cX12_solves 38 = .ok (.if_icmp .eq 96, 3) := by decide +kernel
theorem dX12_solves_41 : decode cX12_solves 41 = .ok (.aload_n 0, 1) := by decide +kernel
theorem dX12_solves_42 : decode cX12_solves 42 = .ok (.getfield 50, 3) := by decide +kernel
theorem dX12_solves_45 : decode cX12_solves 45 = .ok (.iload_n 1, 1) := by decide +kernel
theorem dX12_solves_46 : decode cX12_solves 46 = .ok (.iaload, 1) := by decide +kernel
theorem dX12_solves_47 : decode cX12_solves 47 = .ok (.aload_n 0, 1) := by decide +kernel
theorem dX12_solves_48 : decode cX12_solves 48 = .ok (.iconst 0, 1) := by decide +kernel
theorem dX12_solves_49 : decode cX12_solves 49 = .ok (.iload_n 3, 1) := by decide +kernel
theorem dX12_solves_50 : decode cX12_solves 50 = .ok (.iload 4, 2) := by decide +kernel
theorem dX12_solves_52 : decode cX12_solves 52 = .ok (.invokevirtual 213, 3) := by decide +kernel
theorem dX12_solves_55 : decode cX12_solves 55 = .ok (.ixor, 1) := by decide +kernel
theorem dX12_solves_56 : decode cX12_solves 56 = .ok (.istore 5, 2) := by decide +kernel
theorem dX12_solves_58 : decode cX12_solves 58 = .ok (.aload_n 0, 1) := by decide +kernel
theorem dX12_solves_59 : decode cX12_solves 59 = .ok (.getfield 50, 3) := by decide +kernel
theorem dX12_solves_62 : decode cX12_solves 62 = .ok (.iload_n 2, 1) := by decide +kernel
theorem dX12_solves_63 : decode cX12_solves 63 = .ok (.iaload, 1) := by decide +kernel
theorem dX12_solves_64 : decode cX12_solves 64 = .ok (.aload_n 0, 1) := by decide +kernel
theorem dX12_solves_65 : decode cX12_solves 65 = .ok (.iconst 1, 1) := by decide +kernel
theorem dX12_solves_66 : decode cX12_solves 66 = .ok (.iload_n 3, 1) := by decide +kernel
theorem dX12_solves_67 : decode cX12_solves 67 = .ok (.iload 4, 2) := by decide +kernel
theorem dX12_solves_69 : decode cX12_solves 69 = .ok (.invokevirtual 213, 3) := by decide +kernel
theorem dX12_solves_72 : decode cX12_solves 72 = .ok (.ixor, 1) := by decide +kernel
theorem dX12_solves_73 : decode cX12_solves 73 = .ok (.istore 6, 2) := by decide +kernel
theorem dX12_solves_75 : decode cX12_solves 75 = .ok (.aload_n 0, 1) := by decide +kernel
theorem dX12_solves_76 : decode cX12_solves 76 = .ok (.getfield 50, 3) := by decide +kernel
theorem dX12_solves_79 : decode cX12_solves 79 = .ok (.iload_n 3, 1) := by decide +kernel
theorem dX12_solves_80 : decode cX12_solves 80 = .ok (.aload_n 0, 1) := by decide +kernel
theorem dX12_solves_81 : decode cX12_solves 81 = .ok (.iload 6, 2) := by decide +kernel
theorem dX12_solves_83 : decode cX12_solves 83 = .ok (.aload_n 0, 1) := by decide +kernel
theorem dX12_solves_84 : decode cX12_solves 84 = .ok (.iload 5, 2) := by decide +kernel
theorem dX12_solves_86 : decode cX12_solves 86 = .ok (.aload_n 0, 1) := by decide +kernel
theorem dX12_solves_87 : decode cX12_solves 87 = .ok (.getfield 32, 3) := by decide +kernel
theorem dX12_solves_90 : decode cX12_solves 90 = .ok (.iload 4, 2) := by decide +kernel
theorem dX12_solves_92 : decode cX12_solves 92 = .ok (.iaload, 1) := by decide +kernel
theorem dX12_solves_93 : decode cX12_solves 93 = .ok (.invokevirtual 160, 3) := by decide +kernel
theorem dX12_solves_96 : decode cX12_solves 96 = .ok (.ixor, 1) := by decide +kernel
theorem dX12_solves_97 : decode cX12_solves 97 = .ok (.aload_n 0, 1) := by decide +kernel
theorem dX12_solves_98 : decode cX12_solves 98 = .ok (.getfield 32, 3) := by decide +kernel
theorem dX12_solves_101 : decode cX12_solves 101 = .ok (.iload_n 3, 1) := by decide +kernel
theorem dX12_solves_102 : decode cX12_solves 102 = .ok (.iaload, 1) := by decide +kernel
theorem dX12_solves_103 : decode cX12_solves 103 = .ok (.aload_n 0, 1) := by decide +kernel
theorem dX12_solves_104 : decode cX12_solves 104 = .ok (.getfield 32, 3) := by decide +kernel
theorem dX12_solves_107 : decode cX12_solves 107 = .ok (.iload 4, 2) := by decide +kernel
theorem dX12_solves_109 : decode cX12_solves 109 = .ok (.iaload, 1) := by decide +kernel
theorem dX12_solves_110 : decode cX12_solves 110 = .ok (.ixor, 1) := by decide +kernel
theorem dX12_solves_111 : decode cX12_solves 111 = .ok (.invokevirtual 164, 3) := by decide +kernel
theorem dX12_solves_114 : decode cX12_solves 114 = .ok (.iastore, 1) := by decide +kernel
theorem dX12_solves_115 : decode cX12_solves 115 = .ok (.aload_n 0, 1) := by decide +kernel
theorem dX12_solves_116 : decode cX12_solves 116 = .ok (.getfield 50, 3) := by decide +kernel
theorem dX12_solves_119 : decode cX12_solves 119 = .ok (.iload 4, 2) := by decide +kernel
theorem dX12_solves_121 : decode cX12_solves 121 = .ok (.iload 5, 2) := by decide +kernel
theorem dX12_solves_123 : decode cX12_solves 123 = .ok (.aload_n 0, 1) := by decide +kernel
theorem dX12_solves_124 : decode cX12_solves 124 = .ok (.getfield 50, 3) := by decide +kernel
theorem dX12_solves_127 : decode cX12_solves 127 = .ok (.iload_n 3, 1) := by decide +kernel
theorem dX12_solves_128 : decode cX12_solves 128 = .ok (.iaload, 1) := by decide +kernel
theorem dX12_solves_129 : decode cX12_solves 129 = .ok (.ixor, 1) := by decide +kernel
theorem dX12_solves_130 : decode cX12_solves 130 = .ok (.iastore, 1) := by decide +kernel
theorem dX12_solves_131 : decode cX12_solves 131 = .ok (.goto 64, 3) := by decide +kernel
theorem dX12_solves_134 : decode cX12_solves 134 = .ok (.iload_n 3, 1) := by decide +kernel
theorem dX12_solves_135 : decode cX12_solves 135 = .ok (.iconst (-1), 1) := by decide +kernel
theorem dX12_solves_136 : decode cX12_solves 136 = .ok (.if_icmp .eq 59, 3) := by decide +kernel
theorem dX12_solves_139 : decode cX12_solves 139 = .ok (.aload_n 0, 1) := by decide +kernel
theorem dX12_solves_140 : decode cX12_solves 140 = .ok (.getfield 50, 3) := by decide +kernel
theorem dX12_solves_143 : decode cX12_solves 143 = .ok (.iload_n 3, 1) := by decide +kernel
theorem dX12_solves_144 : decode cX12_solves 144 = .ok (.aload_n 0, 1) := by decide +kernel
theorem dX12_solves_145 : decode cX12_solves 145 = .ok (.getfield 53, 3) := by decide +kernel
theorem dX12_solves_148 : decode cX12_solves 148 = .ok (.iload_n 1, 1) := by decide +kernel
theorem dX12_solves_149 : decode cX12_solves 149 = .ok (.baload, 1) := by decide +kernel
theorem dX12_solves_150 : decode cX12_solves 150 = .ok (.ifCond .eq 20, 3) := by decide +kernel
theorem dX12_solves_153 : decode cX12_solves 153 = .ok (.aload_n 0, 1) := by decide +kernel
theorem dX12_solves_154 : decode cX12_solves 154 = .ok (.getfield 50, 3) := by decide +kernel
theorem dX12_solves_157 : decode cX12_solves 157 = .ok (.iload_n 1, 1) := by decide +kernel
theorem dX12_solves_158 : decode cX12_solves 158 = .ok (.iaload, 1) := by decide +kernel
theorem dX12_solves_159 : decode cX12_solves 159 = .ok (.aload_n 0, 1) := by decide +kernel
theorem dX12_solves_160 : decode cX12_solves 160 = .ok (.iconst 0, 1) := by decide +kernel
theorem dX12_solves_161 : decode cX12_solves 161 = .ok (.iload_n 3, 1) := by decide +kernel
theorem dX12_solves_162 : decode cX12_solves 162 = .ok (.iconst (-1), 1) := by decide +kernel
theorem dX12_solves_163 : decode cX12_solves 163 = .ok (.invokevirtual 213, 3) := by decide +kernel
theorem dX12_solves_166 : decode cX12_solves 166 = .ok (.ixor, 1) := by decide +kernel
theorem dX12_solves_167 : decode cX12_solves 167 = .ok (.goto 27, 3) := by decide +kernel
theorem dX12_solves_170 : decode cX12_solves 170 = .ok (.aload_n 0, 1) := by decide +kernel
theorem dX12_solves_171 : decode cX12_solves 171 = .ok (.aload_n 0, 1) := by decide +kernel
theorem dX12_solves_172 : decode cX12_solves 172 = .ok (.getfield 50, 3) := by decide +kernel
theorem dX12_solves_175 : decode cX12_solves 175 = .ok (.iload_n 2, 1) := by decide +kernel
theorem dX12_solves_176 : decode cX12_solves 176 = .ok (.iaload, 1) := by decide +kernel
theorem dX12_solves_177 : decode cX12_solves 177 = .ok (.aload_n 0, 1) := by decide +kernel
theorem dX12_solves_178 : decode cX12_solves 178 = .ok (.iconst 1, 1) := by decide +kernel
theorem dX12_solves_179 : decode cX12_solves 179 = .ok (.iload_n 3, 1) := by decide +kernel
theorem dX12_solves_180 : decode cX12_solves 180 = .ok (.iconst (-1), 1) := by decide +kernel
theorem dX12_solves_181 : decode cX12_solves 181 = .ok (.invokevirtual 213, 3) := by decide +kernel
theorem dX12_solves_184 : decode cX12_solves 184 = .ok (.ixor, 1) := by decide +kernel
theorem dX12_solves_185 : decode cX12_solves 185 = .ok (.aload_n 0, 1) := by decide +kernel
theorem dX12_solves_186 : decode cX12_solves 186 = .ok (.getfield 32, 3) := by decide +kernel
theorem dX12_solves_189 : decode cX12_solves 189 = .ok (.iload_n 3, 1) := by decide +kernel
theorem dX12_solves_190 : decode cX12_solves 190 = .ok (.iaload, 1) := by decide +kernel
theorem dX12_solves_191 : decode cX12_solves 191 = .ok (.invokevirtual 164, 3) := by decide +kernel
theorem dX12_solves_194 : decode cX12_solves 194 = .ok (.iastore, 1) := by decide +kernel
theorem dX12_solves_195 : decode cX12_solves 195 = .ok (.aload_n 0, 1) := by decide +kernel
theorem dX12_solves_196 : decode cX12_solves 196 = .ok (.getfield 53, 3) := by decide +kernel
theorem dX12_solves_199 : decode cX12_solves 199 = .ok (.iload_n 1, 1) := by decide +kernel
theorem dX12_solves_200 : decode cX12_solves 200 = .ok (.baload, 1) := by decide +kernel
theorem dX12_solves_201 : decode cX12_solves 201 = .ok (.ifCond .ne 16, 3) := by decide +kernel
theorem dX12_solves_204 : decode cX12_solves 204 = .ok (.aload_n 0, 1) := by decide +kernel
theorem dX12_solves_205 : decode cX12_solves 205 = .ok (.getfield 50, 3) := by decide +kernel
theorem dX12_solves_208 : decode cX12_solves 208 = .ok (.iload_n 1, 1) := by decide +kernel
theorem dX12_solves_209 : decode cX12_solves 209 = .ok (.aload_n 0, 1) := by decide +kernel
theorem dX12_solves_210 : decode cX12_solves 210 = .ok (.iconst 0, 1) := by decide +kernel
theorem dX12_solves_211 : decode cX12_solves 211 = .ok (.iconst (-1), 1) := by decide +kernel
theorem dX12_solves_212 : decode cX12_solves 212 = .ok (.iconst (-1), 1) := by decide +kernel
theorem dX12_solves_213 : decode cX12_solves 213 = .ok (.invokevirtual 213, 3) := by decide +kernel
theorem dX12_solves_216 : decode cX12_solves 216 = .ok (.iastore, 1) := by decide +kernel
theorem dX12_solves_217 : decode cX12_solves 217 = .ok (.aload_n 0, 1) := by decide +kernel
theorem dX12_solves_218 : decode cX12_solves 218 = .ok (.getfield 53, 3) := by decide +kernel
theorem dX12_solves_221 : decode cX12_solves 221 = .ok (.iload_n 2, 1) := by decide +kernel
theorem dX12_solves_222 : decode cX12_solves 222 = .ok (.baload, 1) := by decide +kernel
theorem dX12_solves_223 : decode cX12_solves 223 = .ok (.ifCond .ne 16, 3) := by decide +kernel
theorem dX12_solves_226 : decode cX12_solves 226 = .ok (.aload_n 0, 1) := by decide +kernel
theorem dX12_solves_227 : decode cX12_solves 227 = .ok (.getfield 50, 3) := by decide +kernel
theorem dX12_solves_230 : decode cX12_solves 230 = .ok (.iload_n 2, 1) := by decide +kernel
theorem dX12_solves_231 : decode cX12_solves 231 = .ok (.aload_n 0, 1) := by decide +kernel
theorem dX12_solves_232 : decode cX12_solves 232 = .ok (.iconst 1, 1) := by decide +kernel
theorem dX12_solves_233 : decode cX12_solves 233 = .ok (.iconst (-1), 1) := by decide +kernel
theorem dX12_solves_234 : decode cX12_solves 234 = .ok (.iconst (-1), 1) := by decide +kernel
theorem dX12_solves_235 : decode cX12_solves 235 = .ok (.invokevirtual 213, 3) := by decide +kernel
theorem dX12_solves_238 : decode cX12_solves 238 = .ok (.iastore, 1) := by decide +kernel
theorem dX12_solves_239 : decode cX12_solves 239 = .ok (.return_, 1) := by decide +kernel
theorem dX12_puts_0 : decode cX12_puts 0 = .ok (.aload_n 0, 1) := by decide +kernel
theorem dX12_puts_1 : decode cX12_puts 1 = .ok (.iload_n 2, 1) := by decide +kernel
theorem dX12_puts_2 : decode cX12_puts 2 = .ok (.iload 4, 2) := by decide +kernel
theorem dX12_puts_4 : decode cX12_puts 4 = .ok (.invokevirtual 199, 3) := by decide +kernel
theorem dX12_puts_7 : decode cX12_puts 7 = .ok (.istore 6, 2) := by decide +kernel
theorem dX12_puts_9 : decode cX12_puts 9 = .ok (.aload_n 1, 1) := by decide +kernel
theorem dX12_puts_10 : decode cX12_puts 10 = .ok (.iload 6, 2) := by decide +kernel
theorem dX12_puts_12 : decode cX12_puts 12 = .ok (.iload_n 2, 1) := by decide +kernel
theorem dX12_puts_13 : decode cX12_puts 13 = .ok (.iload_n 3, 1) := by decide +kernel
theorem dX12_puts_14 : decode cX12_puts 14 = .ok (.invokestatic 206, 3) := by decide +kernel
theorem dX12_puts_17 : decode cX12_puts 17 = .ok (.iload 5, 2) := by decide +kernel
theorem dX12_puts_19 : decode cX12_puts 19 = .ok (.iastore, 1) := by decide +kernel
theorem dX12_puts_20 : decode cX12_puts 20 = .ok (.aload_n 0, 1) := by decide +kernel
theorem dX12_puts_21 : decode cX12_puts 21 = .ok (.aload_n 1, 1) := by decide +kernel
theorem dX12_puts_22 : decode cX12_puts 22 = .ok (.iload 6, 2) := by decide +kernel
theorem dX12_puts_24 : decode cX12_puts 24 = .ok (.iconst 1, 1) := by decide +kernel
theorem dX12_puts_25 : decode cX12_puts 25 = .ok (.invokevirtual 233, 3) := by decide +kernel
theorem dX12_puts_28 : decode cX12_puts 28 = .ok (.return_, 1) := by decide +kernel
theorem dX12_writes_0 : decode cX12_writes 0 = .ok (.aload_n 0, 1) := by decide +kernel
theorem dX12_writes_1 : decode cX12_writes 1 = .ok (.iload_n 2, 1) := by decide +kernel
theorem dX12_writes_2 : decode cX12_writes 2 = .ok (.invokevirtual 217, 3) := by decide +kernel
theorem dX12_writes_5 : decode cX12_writes 5 = .ok (.istore 4, 2) := by decide +kernel
theorem dX12_writes_7 : decode cX12_writes 7 = .ok (.aload_n 0, 1) := by decide +kernel
theorem dX12_writes_8 : decode cX12_writes 8 = .ok (.iload_n 2, 1) := by decide +kernel
theorem dX12_writes_9 : decode cX12_writes 9 = .ok (.invokevirtual 220, 3) := by decide +kernel
theorem dX12_writes_12 : decode cX12_writes 12 = .ok (.istore 5, 2) := by decide +kernel
theorem dX12_writes_14 : decode cX12_writes 14 = .ok (.aload_n 0, 1) := by decide +kernel
theorem dX12_writes_15 : decode cX12_writes 15 = .ok (.iload_n 2, 1) := by decide +kernel
theorem dX12_writes_16 : decode cX12_writes 16 = .ok (.invokevirtual 230, 3) := by decide +kernel
theorem dX12_writes_19 : decode cX12_writes 19 = .ok (.istore 6, 2) := by decide +kernel
theorem dX12_writes_21 : decode cX12_writes 21 = .ok (.aload_n 0, 1) := by decide +kernel
theorem dX12_writes_22 : decode cX12_writes 22 = .ok (.getfield 17, 3) := by decide +kernel
theorem dX12_writes_25 : decode cX12_writes 25 = .ok (.iconst 0, 1) := by decide +kernel
theorem dX12_writes_26 : decode cX12_writes 26 = .ok (.iaload, 1) := by decide +kernel
theorem dX12_writes_27 : decode cX12_writes 27 = .ok (.istore 7, 2) := by decide +kernel
theorem dX12_writes_29 : decode cX12_writes 29 = .ok (.aload_n 0, 1) := by decide +kernel
theorem dX12_writes_30 : decode cX12_writes 30 = .ok (.aload_n 1, 1) := by decide +kernel
theorem dX12_writes_31 : decode cX12_writes 31 = .ok (.iload 4, 2) := by decide +kernel
theorem dX12_writes_33 : decode cX12_writes 33 = .ok (.iload 5, 2) := by decide +kernel
theorem dX12_writes_35 : decode cX12_writes 35 = .ok (.iconst (-1), 1) := by decide +kernel
theorem dX12_writes_36 : decode cX12_writes 36 = .ok (.iconst (-1), 1) := by decide +kernel
theorem dX12_writes_37 : decode cX12_writes 37 = .ok (.invokevirtual 223, 3) := by decide +kernel
theorem dX12_writes_40 : decode cX12_writes 40 = .ok (.aload_n 0, 1) := by decide +kernel
theorem dX12_writes_41 : decode cX12_writes 41 = .ok (.iload 6, 2) := by decide +kernel
theorem dX12_writes_43 : decode cX12_writes 43 = .ok (.invokevirtual 250, 3) := by decide +kernel
theorem dX12_writes_46 : decode cX12_writes 46 = .ok (.iconst 0, 1) := by decide +kernel
theorem dX12_writes_47 : decode cX12_writes 47 = .ok (.istore 8, 2) := by decide +kernel
theorem dX12_writes_49 : decode cX12_writes 49 = .ok (.iload 8, 2) := by decide +kernel
theorem dX12_writes_51 : decode cX12_writes 51 = .ok (.aload_n 0, 1) := by decide +kernel
theorem dX12_writes_52 : decode cX12_writes 52 = .ok (.getfield 171, 3) := by decide +kernel
theorem dX12_writes_55 : decode cX12_writes 55 = .ok (.if_icmp .ge 40, 3) := by decide +kernel
theorem dX12_writes_58 : decode cX12_writes 58 = .ok (.aload_n 0, 1) := by decide +kernel
theorem dX12_writes_59 : decode cX12_writes 59 = .ok (.getfield 53, 3) := by decide +kernel
theorem dX12_writes_62 : decode cX12_writes 62 = .ok (.iload 8, 2) := by decide +kernel
theorem dX12_writes_64 : decode cX12_writes 64 = .ok (.baload, 1) := by decide +kernel
theorem dX12_writes_65 : decode cX12_writes 65 = .ok (.ifCond .eq 24, 3) := by decide +kernel
theorem dX12_writes_68 : decode cX12_writes 68 = .ok (.aload_n 0, 1) := by decide +kernel
theorem dX12_writes_69 : decode cX12_writes 69 = .ok (.iload 8, 2) := by decide +kernel
theorem dX12_writes_71 : decode cX12_writes 71 = .ok (.iload 6, 2) := by decide +kernel
theorem dX12_writes_73 : decode cX12_writes 73 = .ok (.invokevirtual 253, 3) := by decide +kernel
theorem dX12_writes_76 : decode cX12_writes 76 = .ok (.ifCond .eq 13, 3) := by decide +kernel
theorem dX12_writes_79 : decode cX12_writes 79 = .ok (.aload_n 0, 1) := by decide +kernel
theorem dX12_writes_80 : decode cX12_writes 80 = .ok (.aload_n 1, 1) := by decide +kernel
theorem dX12_writes_81 : decode cX12_writes 81 = .ok (.iload 4, 2) := by decide +kernel
theorem dX12_writes_83 : decode cX12_writes 83 = .ok (.iload 8, 2) := by decide +kernel
theorem dX12_writes_85 : decode cX12_writes 85 = .ok (.iconst 0, 1) := by decide +kernel
theorem dX12_writes_86 : decode cX12_writes 86 = .ok (.invokevirtual 257, 3) := by decide +kernel
theorem dX12_writes_89 : decode cX12_writes 89 = .ok (.iinc 8 1, 3) := by decide +kernel
theorem dX12_writes_92 : decode cX12_writes 92 = .ok (.goto (-43), 3) := by decide +kernel
theorem dX12_writes_95 : decode cX12_writes 95 = .ok (.aload_n 0, 1) := by decide +kernel
theorem dX12_writes_96 : decode cX12_writes 96 = .ok (.getfield 53, 3) := by decide +kernel
theorem dX12_writes_99 : decode cX12_writes 99 = .ok (.iload 6, 2) := by decide +kernel
theorem dX12_writes_101 : decode cX12_writes 101 = .ok (.baload, 1) := by decide +kernel
theorem dX12_writes_102 : decode cX12_writes 102 = .ok (.istore 8, 2) := by decide +kernel
theorem dX12_writes_104 : decode cX12_writes 104 = .ok (.aload_n 0, 1) := by decide +kernel
theorem dX12_writes_105 : decode cX12_writes 105 = .ok (.getfield 53, 3) := by decide +kernel
theorem dX12_writes_108 : decode cX12_writes 108 = .ok (.iload 7, 2) := by decide +kernel
theorem dX12_writes_110 : decode cX12_writes 110 = .ok (.baload, 1) := by decide +kernel
theorem dX12_writes_111 : decode cX12_writes 111 = .ok (.istore 9, 2) := by decide +kernel
theorem dX12_writes_113 : decode cX12_writes 113 = .ok (.aload_n 0, 1) := by decide +kernel
theorem dX12_writes_114 : decode cX12_writes 114 = .ok (.getfield 53, 3) := by decide +kernel
theorem dX12_writes_117 : decode cX12_writes 117 = .ok (.iload 7, 2) := by decide +kernel
theorem dX12_writes_119 : decode cX12_writes 119 = .ok (.iconst 1, 1) := by decide +kernel
theorem dX12_writes_120 : decode cX12_writes 120 = .ok (.iadd, 1) := by decide +kernel
theorem dX12_writes_121 : decode cX12_writes 121 = .ok (.baload, 1) := by decide +kernel
theorem dX12_writes_122 : decode cX12_writes 122 = .ok (.istore 10, 2) := by decide +kernel
theorem dX12_writes_124 : decode cX12_writes 124 = .ok (.aload_n 0, 1) := by decide +kernel
theorem dX12_writes_125 : decode cX12_writes 125 = .ok (.getfield 50, 3) := by decide +kernel
theorem dX12_writes_128 : decode cX12_writes 128 = .ok (.iload 6, 2) := by decide +kernel
theorem dX12_writes_130 : decode cX12_writes 130 = .ok (.iaload, 1) := by decide +kernel
theorem dX12_writes_131 : decode cX12_writes 131 = .ok (.istore 11, 2) := by decide +kernel
theorem dX12_writes_133 : decode cX12_writes 133 = .ok (.aload_n 0, 1) := by decide +kernel
theorem dX12_writes_134 : decode cX12_writes 134 = .ok (.getfield 237, 3) := by decide +kernel
theorem dX12_writes_137 : decode cX12_writes 137 = .ok (.ifCond .ne 47, 3) := by decide +kernel
theorem dX12_writes_140 : decode cX12_writes 140 = .ok (.aload_n 0, 1) := by decide +kernel
theorem dX12_writes_141 : decode cX12_writes 141 = .ok (.getfield 50, 3) := by decide +kernel
theorem dX12_writes_144 : decode cX12_writes 144 = .ok (.iload 7, 2) := by decide +kernel
theorem dX12_writes_146 : decode cX12_writes 146 = .ok (.dup2, 1) := by decide +kernel
theorem dX12_writes_147 : decode cX12_writes 147 = .ok (.iaload, 1) := by decide +kernel
theorem dX12_writes_148 : decode cX12_writes 148 = .ok (.iload 11, 2) := by decide +kernel
theorem dX12_writes_150 : decode cX12_writes 150 = .ok (.iload_n 3, 1) := by decide +kernel
theorem dX12_writes_151 : decode cX12_writes 151 = .ok (.ixor, 1) := by decide +kernel
theorem dX12_writes_152 : decode cX12_writes 152 = .ok (.ixor, 1) := by decide +kernel
theorem dX12_writes_153 : decode cX12_writes 153 = .ok (.iastore, 1) := by decide +kernel
theorem dX12_writes_154 : decode cX12_writes 154 = .ok (.aload_n 0, 1) := by decide +kernel
theorem dX12_writes_155 : decode cX12_writes 155 = .ok (.getfield 50, 3) := by decide +kernel
theorem dX12_writes_158 : decode cX12_writes 158 = .ok (.iload 7, 2) := by decide +kernel
theorem dX12_writes_160 : decode cX12_writes 160 = .ok (.iconst 1, 1) := by decide +kernel
theorem dX12_writes_161 : decode cX12_writes 161 = .ok (.iadd, 1) := by decide +kernel
theorem dX12_writes_162 : decode cX12_writes 162 = .ok (.dup2, 1) := by decide +kernel
theorem dX12_writes_163 : decode cX12_writes 163 = .ok (.iaload, 1) := by decide +kernel
theorem dX12_writes_164 : decode cX12_writes 164 = .ok (.aload_n 0, 1) := by decide +kernel
theorem dX12_writes_165 : decode cX12_writes 165 = .ok (.iload 11, 2) := by decide +kernel
theorem dX12_writes_167 : decode cX12_writes 167 = .ok (.iload_n 3, 1) := by decide +kernel
theorem dX12_writes_168 : decode cX12_writes 168 = .ok (.ixor, 1) := by decide +kernel
theorem dX12_writes_169 : decode cX12_writes 169 = .ok (.aload_n 0, 1) := by decide +kernel
theorem dX12_writes_170 : decode cX12_writes 170 = .ok (.getfield 32, 3) := by decide +kernel
theorem dX12_writes_173 : decode cX12_writes 173 = .ok (.iload 6, 2) := by decide +kernel
theorem dX12_writes_175 : decode cX12_writes 175 = .ok (.iaload, 1) := by decide +kernel
theorem dX12_writes_176 : decode cX12_writes 176 = .ok (.invokevirtual 160, 3) := by decide +kernel
theorem dX12_writes_179 : decode cX12_writes 179 = .ok (.ixor, 1) := by decide +kernel
theorem dX12_writes_180 : decode cX12_writes 180 = .ok (.iastore, 1) := by decide +kernel
theorem dX12_writes_181 : decode cX12_writes 181 = .ok (.goto 45, 3) := by decide +kernel
theorem dX12_writes_184 : decode cX12_writes 184 = .ok (.aload_n 0, 1) := by decide +kernel
theorem dX12_writes_185 : decode cX12_writes 185 = .ok (.invokevirtual 227, 3) := by decide +kernel
theorem dX12_writes_188 : decode cX12_writes 188 = .ok (.aload_n 0, 1) := by decide +kernel
theorem dX12_writes_189 : decode cX12_writes 189 = .ok (.getfield 50, 3) := by decide +kernel
theorem dX12_writes_192 : decode cX12_writes 192 = .ok (.iload 6, 2) := by decide +kernel
theorem dX12_writes_194 : decode cX12_writes 194 = .ok (.iload_n 3, 1) := by decide +kernel
theorem dX12_writes_195 : decode cX12_writes 195 = .ok (.iastore, 1) := by decide +kernel
theorem dX12_writes_196 : decode cX12_writes 196 = .ok (.aload_n 0, 1) := by decide +kernel
theorem dX12_writes_197 : decode cX12_writes 197 = .ok (.getfield 50, 3) := by decide +kernel
theorem dX12_writes_200 : decode cX12_writes 200 = .ok (.iload 7, 2) := by decide +kernel
theorem dX12_writes_202 : decode cX12_writes 202 = .ok (.aload_n 0, 1) := by decide +kernel
theorem dX12_writes_203 : decode cX12_writes 203 = .ok (.iconst 0, 1) := by decide +kernel
theorem dX12_writes_204 : decode cX12_writes 204 = .ok (.iconst (-1), 1) := by decide +kernel
theorem dX12_writes_205 : decode cX12_writes 205 = .ok (.iconst (-1), 1) := by decide +kernel
theorem dX12_writes_206 : decode cX12_writes 206 = .ok (.invokevirtual 213, 3) := by decide +kernel
theorem dX12_writes_209 : decode cX12_writes 209 = .ok (.iastore, 1) := by decide +kernel
theorem dX12_writes_210 : decode cX12_writes 210 = .ok (.aload_n 0, 1) := by decide +kernel
theorem dX12_writes_211 : decode cX12_writes 211 = .ok (.getfield 50, 3) := by decide +kernel
theorem dX12_writes_214 : decode cX12_writes 214 = .ok (.iload 7, 2) := by decide +kernel
theorem dX12_writes_216 : decode cX12_writes 216 = .ok (.iconst 1, 1) := by decide +kernel
theorem dX12_writes_217 : decode cX12_writes 217 = .ok (.iadd, 1) := by decide +kernel
theorem dX12_writes_218 : decode cX12_writes 218 = .ok (.aload_n 0, 1) := by decide +kernel
theorem dX12_writes_219 : decode cX12_writes 219 = .ok (.iconst 1, 1) := by decide +kernel
theorem dX12_writes_220 : decode cX12_writes 220 = .ok (.iconst (-1), 1) := by decide +kernel
theorem dX12_writes_221 : decode cX12_writes 221 = .ok (.iconst (-1), 1) := by decide +kernel
theorem dX12_writes_222 : decode cX12_writes 222 = .ok (.invokevirtual 213, 3) := by decide +kernel
theorem dX12_writes_225 : decode cX12_writes 225 = .ok (.iastore, 1) := by decide +kernel
theorem dX12_writes_226 : decode cX12_writes 226 = .ok (.iload 8, 2) := by decide +kernel
theorem dX12_writes_228 : decode cX12_writes 228 = .ok (.ifCond .eq 15, 3) := by decide +kernel
theorem dX12_writes_231 : decode cX12_writes 231 = .ok (.aload_n 0, 1) := by decide +kernel
theorem dX12_writes_232 : decode cX12_writes 232 = .ok (.aload_n 1, 1) := by decide +kernel
theorem dX12_writes_233 : decode cX12_writes 233 = .ok (.iload 4, 2) := by decide +kernel
theorem dX12_writes_235 : decode cX12_writes 235 = .ok (.iload 5, 2) := by decide +kernel
theorem dX12_writes_237 : decode cX12_writes 237 = .ok (.iload 6, 2) := by decide +kernel
theorem dX12_writes_239 : decode cX12_writes 239 = .ok (.iload_n 3, 1) := by decide +kernel
theorem dX12_writes_240 : decode cX12_writes 240 = .ok (.invokevirtual 261, 3) := by decide +kernel
theorem dX12_writes_243 : decode cX12_writes 243 = .ok (.iload 9, 2) := by decide +kernel
theorem dX12_writes_245 : decode cX12_writes 245 = .ok (.ifCond .eq 21, 3) := by decide +kernel
theorem dX12_writes_248 : decode cX12_writes 248 = .ok (.aload_n 0, 1) := by decide +kernel
theorem dX12_writes_249 : decode cX12_writes 249 = .ok (.aload_n 1, 1) := by decide +kernel
theorem dX12_writes_250 : decode cX12_writes 250 = .ok (.iload 4, 2) := by decide +kernel
theorem dX12_writes_252 : decode cX12_writes 252 = .ok (.iload 5, 2) := by decide +kernel
theorem dX12_writes_254 : decode cX12_writes 254 = .ok (.iload 7, 2) := by decide +kernel
theorem dX12_writes_256 : decode cX12_writes 256 = .ok (.aload_n 0, 1) := by decide +kernel
theorem dX12_writes_257 : decode cX12_writes 257 = .ok (.getfield 50, 3) := by decide +kernel
theorem dX12_writes_260 : decode cX12_writes 260 = .ok (.iload 7, 2) := by decide +kernel
theorem dX12_writes_262 : decode cX12_writes 262 = .ok (.iaload, 1) := by decide +kernel
theorem dX12_writes_263 : decode cX12_writes 263 = .ok (.invokevirtual 261, 3) := by decide +kernel
theorem dX12_writes_266 : decode cX12_writes 266 = .ok (.iload 10, 2) := by decide +kernel
theorem dX12_writes_268 : decode cX12_writes 268 = .ok (.ifCond .eq 25, 3) := by decide +kernel
theorem dX12_writes_271 : decode cX12_writes 271 = .ok (.aload_n 0, 1) := by decide +kernel
theorem dX12_writes_272 : decode cX12_writes 272 = .ok (.aload_n 1, 1) := by decide +kernel
theorem dX12_writes_273 : decode cX12_writes 273 = .ok (.iload 4, 2) := by decide +kernel
theorem dX12_writes_275 : decode cX12_writes 275 = .ok (.iload 5, 2) := by decide +kernel
theorem dX12_writes_277 : decode cX12_writes 277 = .ok (.iload 7, 2) := by decide +kernel
theorem dX12_writes_279 : decode cX12_writes 279 = .ok (.iconst 1, 1) := by decide +kernel
theorem dX12_writes_280 : decode cX12_writes 280 = .ok (.iadd, 1) := by decide +kernel
theorem dX12_writes_281 : decode cX12_writes 281 = .ok (.aload_n 0, 1) := by decide +kernel
theorem dX12_writes_282 : decode cX12_writes 282 = .ok (.getfield 50, 3) := by decide +kernel
theorem dX12_writes_285 : decode cX12_writes 285 = .ok (.iload 7, 2) := by decide +kernel
theorem dX12_writes_287 : decode cX12_writes 287 = .ok (.iconst 1, 1) := by decide +kernel
theorem dX12_writes_288 : decode cX12_writes 288 = .ok (.iadd, 1) := by decide +kernel
theorem dX12_writes_289 : decode cX12_writes 289 = .ok (.iaload, 1) := by decide +kernel
theorem dX12_writes_290 : decode cX12_writes 290 = .ok (.invokevirtual 261, 3) := by decide +kernel
theorem dX12_writes_293 : decode cX12_writes 293 = .ok (.return_, 1) := by decide +kernel
theorem dX12_begins_0 : decode cX12_begins 0 = .ok (.iconst 0, 1) := by decide +kernel
theorem dX12_begins_1 : decode cX12_begins 1 = .ok (.istore_n 1, 1) := by decide +kernel
theorem dX12_begins_2 : decode cX12_begins 2 = .ok (.iload_n 1, 1) := by decide +kernel
theorem dX12_begins_3 : decode cX12_begins 3 = .ok (.iconst 5, 1) := by decide +kernel
theorem dX12_begins_4 : decode cX12_begins 4 = .ok (.if_icmp .ge 21, 3) := by decide +kernel
theorem dX12_begins_7 : decode cX12_begins 7 = .ok (.aload_n 0, 1) := by decide +kernel
theorem dX12_begins_8 : decode cX12_begins 8 = .ok (.getfield 17, 3) := by decide +kernel
theorem dX12_begins_11 : decode cX12_begins 11 = .ok (.iload_n 1, 1) := by decide +kernel
theorem dX12_begins_12 : decode cX12_begins 12 = .ok (.aload_n 0, 1) := by decide +kernel
theorem dX12_begins_13 : decode cX12_begins 13 = .ok (.getfield 13, 3) := by decide +kernel
theorem dX12_begins_16 : decode cX12_begins 16 = .ok (.iload_n 1, 1) := by decide +kernel
theorem dX12_begins_17 : decode cX12_begins 17 = .ok (.iaload, 1) := by decide +kernel
theorem dX12_begins_18 : decode cX12_begins 18 = .ok (.iastore, 1) := by decide +kernel
theorem dX12_begins_19 : decode cX12_begins 19 = .ok (.iinc 1 1, 3) := by decide +kernel
theorem dX12_begins_22 : decode cX12_begins 22 = .ok (.goto (-20), 3) := by decide +kernel
theorem dX12_begins_25 : decode cX12_begins 25 = .ok (.aload_n 0, 1) := by decide +kernel
theorem dX12_begins_26 : decode cX12_begins 26 = .ok (.aload_n 0, 1) := by decide +kernel
theorem dX12_begins_27 : decode cX12_begins 27 = .ok (.getfield 17, 3) := by decide +kernel
theorem dX12_begins_30 : decode cX12_begins 30 = .ok (.iconst 0, 1) := by decide +kernel
theorem dX12_begins_31 : decode cX12_begins 31 = .ok (.iaload, 1) := by decide +kernel
theorem dX12_begins_32 : decode cX12_begins 32 = .ok (.iconst 2, 1) := by decide +kernel
theorem dX12_begins_33 : decode cX12_begins 33 = .ok (.iadd, 1) := by decide +kernel
theorem dX12_begins_34 : decode cX12_begins 34 = .ok (.putfield 171, 3) := by decide +kernel
theorem dX12_begins_37 : decode cX12_begins 37 = .ok (.aload_n 0, 1) := by decide +kernel
theorem dX12_begins_38 : decode cX12_begins 38 = .ok (.aload_n 0, 1) := by decide +kernel
theorem dX12_begins_39 : decode cX12_begins 39 = .ok (.getfield 17, 3) := by decide +kernel
theorem dX12_begins_42 : decode cX12_begins 42 = .ok (.iconst 0, 1) := by decide +kernel
theorem dX12_begins_43 : decode cX12_begins 43 = .ok (.iaload, 1) := by decide +kernel
theorem dX12_begins_44 : decode cX12_begins 44 = .ok (.aload_n 0, 1) := by decide +kernel
theorem dX12_begins_45 : decode cX12_begins 45 = .ok (.getfield 17, 3) := by decide +kernel
theorem dX12_begins_48 : decode cX12_begins 48 = .ok (.iconst 1, 1) := by decide +kernel
theorem dX12_begins_49 : decode cX12_begins 49 = .ok (.iaload, 1) := by decide +kernel
theorem dX12_begins_50 : decode cX12_begins 50 = .ok (.imul, 1) := by decide +kernel
theorem dX12_begins_51 : decode cX12_begins 51 = .ok (.aload_n 0, 1) := by decide +kernel
theorem dX12_begins_52 : decode cX12_begins 52 = .ok (.getfield 17, 3) := by decide +kernel
theorem dX12_begins_55 : decode cX12_begins 55 = .ok (.iconst 2, 1) := by decide +kernel
theorem dX12_begins_56 : decode cX12_begins 56 = .ok (.iaload, 1) := by decide +kernel
theorem dX12_begins_57 : decode cX12_begins 57 = .ok (.imul, 1) := by decide +kernel
theorem dX12_begins_58 : decode cX12_begins 58 = .ok (.putfield 153, 3) := by decide +kernel
theorem dX12_begins_61 : decode cX12_begins 61 = .ok (.aload_n 0, 1) := by decide +kernel
theorem dX12_begins_62 : decode cX12_begins 62 = .ok (.invokevirtual 174, 3) := by decide +kernel
theorem dX12_begins_65 : decode cX12_begins 65 = .ok (.iconst 0, 1) := by decide +kernel
theorem dX12_begins_66 : decode cX12_begins 66 = .ok (.istore_n 1, 1) := by decide +kernel
theorem dX12_begins_67 : decode cX12_begins 67 = .ok (.iload_n 1, 1) := by decide +kernel
theorem dX12_begins_68 : decode cX12_begins 68 = .ok (.sipush 616, 3) := by decide +kernel
theorem dX12_begins_71 : decode cX12_begins 71 = .ok (.if_icmp .ge 16, 3) := by decide +kernel
theorem dX12_begins_74 : decode cX12_begins 74 = .ok (.aload_n 0, 1) := by decide +kernel
theorem dX12_begins_75 : decode cX12_begins 75 = .ok (.getfield 38, 3) := by decide +kernel
theorem dX12_begins_78 : decode cX12_begins 78 = .ok (.iload_n 1, 1) := by decide +kernel
theorem dX12_begins_79 : decode cX12_begins 79 = .ok (.iconst 0, 1) := by decide +kernel
theorem dX12_begins_80 : decode cX12_begins 80 = .ok (.iastore, 1) := by decide +kernel
theorem dX12_begins_81 : decode cX12_begins 81 = .ok (.iinc 1 1, 3) := by decide +kernel
theorem dX12_begins_84 : decode cX12_begins 84 = .ok (.goto (-17), 3) := by decide +kernel
theorem dX12_begins_87 : decode cX12_begins 87 = .ok (.aload_n 0, 1) := by decide +kernel
theorem dX12_begins_88 : decode cX12_begins 88 = .ok (.getfield 38, 3) := by decide +kernel
theorem dX12_begins_91 : decode cX12_begins 91 = .ok (.sipush 424, 3) := by decide +kernel
theorem dX12_begins_94 : decode cX12_begins 94 = .ok (.aload_n 0, 1) := by decide +kernel
theorem dX12_begins_95 : decode cX12_begins 95 = .ok (.getfield 17, 3) := by decide +kernel
theorem dX12_begins_98 : decode cX12_begins 98 = .ok (.iconst 4, 1) := by decide +kernel
theorem dX12_begins_99 : decode cX12_begins 99 = .ok (.iaload, 1) := by decide +kernel
theorem dX12_begins_100 : decode cX12_begins 100 = .ok (.iastore, 1) := by decide +kernel
theorem dX12_begins_101 : decode cX12_begins 101 = .ok (.iconst 0, 1) := by decide +kernel
theorem dX12_begins_102 : decode cX12_begins 102 = .ok (.istore_n 1, 1) := by decide +kernel
theorem dX12_begins_103 : decode cX12_begins 103 = .ok (.iload_n 1, 1) := by decide +kernel
theorem dX12_begins_104 : decode cX12_begins 104 = .ok (.iconst 3, 1) := by decide +kernel
theorem dX12_begins_105 : decode cX12_begins 105 = .ok (.if_icmp .ge 20, 3) := by decide +kernel
theorem dX12_begins_108 : decode cX12_begins 108 = .ok (.aload_n 0, 1) := by decide +kernel
theorem dX12_begins_109 : decode cX12_begins 109 = .ok (.getfield 38, 3) := by decide +kernel
theorem dX12_begins_112 : decode cX12_begins 112 = .ok (.sipush 432, 3) := by decide +kernel
theorem dX12_begins_115 : decode cX12_begins 115 = .ok (.iload_n 1, 1) := by decide +kernel
theorem dX12_begins_116 : decode cX12_begins 116 = .ok (.iadd, 1) := by decide +kernel
theorem dX12_begins_117 : decode cX12_begins 117 = .ok (.iconst (-1), 1) := by decide +kernel
theorem dX12_begins_118 : decode cX12_begins 118 = .ok (.iastore, 1) := by decide +kernel
theorem dX12_begins_119 : decode cX12_begins 119 = .ok (.iinc 1 1, 3) := by decide +kernel
theorem dX12_begins_122 : decode cX12_begins 122 = .ok (.goto (-19), 3) := by decide +kernel
theorem dX12_begins_125 : decode cX12_begins 125 = .ok (.iconst 0, 1) := by decide +kernel
theorem dX12_begins_126 : decode cX12_begins 126 = .ok (.istore_n 1, 1) := by decide +kernel
theorem dX12_begins_127 : decode cX12_begins 127 = .ok (.iload_n 1, 1) := by decide +kernel
theorem dX12_begins_128 : decode cX12_begins 128 = .ok (.aload_n 0, 1) := by decide +kernel
theorem dX12_begins_129 : decode cX12_begins 129 = .ok (.getfield 121, 3) := by decide +kernel
theorem dX12_begins_132 : decode cX12_begins 132 = .ok (.if_icmp .ge 50, 3) := by decide +kernel
theorem dX12_begins_135 : decode cX12_begins 135 = .ok (.aload_n 0, 1) := by decide +kernel
theorem dX12_begins_136 : decode cX12_begins 136 = .ok (.getfield 20, 3) := by decide +kernel
theorem dX12_begins_139 : decode cX12_begins 139 = .ok (.iconst 2, 1) := by decide +kernel
theorem dX12_begins_140 : decode cX12_begins 140 = .ok (.iload_n 1, 1) := by decide +kernel
theorem dX12_begins_141 : decode cX12_begins 141 = .ok (.imul, 1) := by decide +kernel
theorem dX12_begins_142 : decode cX12_begins 142 = .ok (.iaload, 1) := by decide +kernel
theorem dX12_begins_143 : decode cX12_begins 143 = .ok (.aload_n 0, 1) := by decide +kernel
theorem dX12_begins_144 : decode cX12_begins 144 = .ok (.getfield 153, 3) := by decide +kernel
theorem dX12_begins_147 : decode cX12_begins 147 = .ok (.if_icmp .ge 29, 3) := by decide +kernel
theorem dX12_begins_150 : decode cX12_begins 150 = .ok (.aload_n 0, 1) := by decide +kernel
theorem dX12_begins_151 : decode cX12_begins 151 = .ok (.aload_n 0, 1) := by decide +kernel
theorem dX12_begins_152 : decode cX12_begins 152 = .ok (.getfield 38, 3) := by decide +kernel
theorem dX12_begins_155 : decode cX12_begins 155 = .ok (.aload_n 0, 1) := by decide +kernel
theorem dX12_begins_156 : decode cX12_begins 156 = .ok (.getfield 20, 3) := by decide +kernel
theorem dX12_begins_159 : decode cX12_begins 159 = .ok (.iconst 2, 1) := by decide +kernel
theorem dX12_begins_160 : decode cX12_begins 160 = .ok (.iload_n 1, 1) := by decide +kernel
theorem dX12_begins_161 : decode cX12_begins 161 = .ok (.imul, 1) := by decide +kernel
theorem dX12_begins_162 : decode cX12_begins 162 = .ok (.iaload, 1) := by decide +kernel
theorem dX12_begins_163 : decode cX12_begins 163 = .ok (.aload_n 0, 1) := by decide +kernel
theorem dX12_begins_164 : decode cX12_begins 164 = .ok (.getfield 20, 3) := by decide +kernel
theorem dX12_begins_167 : decode cX12_begins 167 = .ok (.iconst 2, 1) := by decide +kernel
theorem dX12_begins_168 : decode cX12_begins 168 = .ok (.iload_n 1, 1) := by decide +kernel
theorem dX12_begins_169 : decode cX12_begins 169 = .ok (.imul, 1) := by decide +kernel
theorem dX12_begins_170 : decode cX12_begins 170 = .ok (.iconst 1, 1) := by decide +kernel
theorem dX12_begins_171 : decode cX12_begins 171 = .ok (.iadd, 1) := by decide +kernel
theorem dX12_begins_172 : decode cX12_begins 172 = .ok (.iaload, 1) := by decide +kernel
theorem dX12_begins_173 : decode cX12_begins 173 = .ok (.invokevirtual 177, 3) := by decide +kernel
theorem dX12_begins_176 : decode cX12_begins 176 = .ok (.iinc 1 1, 3) := by decide +kernel
theorem dX12_begins_179 : decode cX12_begins 179 = .ok (.goto (-52), 3) := by decide +kernel
theorem dX12_begins_182 : decode cX12_begins 182 = .ok (.iconst 0, 1) := by decide +kernel
theorem dX12_begins_183 : decode cX12_begins 183 = .ok (.istore_n 1, 1) := by decide +kernel
theorem dX12_begins_184 : decode cX12_begins 184 = .ok (.iload_n 1, 1) := by decide +kernel
theorem dX12_begins_185 : decode cX12_begins 185 = .ok (.bipush 8, 2) := by decide +kernel
theorem dX12_begins_187 : decode cX12_begins 187 = .ok (.if_icmp .ge 31, 3) := by decide +kernel
theorem dX12_begins_190 : decode cX12_begins 190 = .ok (.aload_n 0, 1) := by decide +kernel
theorem dX12_begins_191 : decode cX12_begins 191 = .ok (.getfield 38, 3) := by decide +kernel
theorem dX12_begins_194 : decode cX12_begins 194 = .ok (.sipush 400, 3) := by decide +kernel
theorem dX12_begins_197 : decode cX12_begins 197 = .ok (.iload_n 1, 1) := by decide +kernel
theorem dX12_begins_198 : decode cX12_begins 198 = .ok (.iadd, 1) := by decide +kernel
theorem dX12_begins_199 : decode cX12_begins 199 = .ok (.iconst 0, 1) := by decide +kernel
theorem dX12_begins_200 : decode cX12_begins 200 = .ok (.iastore, 1) := by decide +kernel
theorem dX12_begins_201 : decode cX12_begins 201 = .ok (.aload_n 0, 1) := by decide +kernel
theorem dX12_begins_202 : decode cX12_begins 202 = .ok (.getfield 38, 3) := by decide +kernel
theorem dX12_begins_205 : decode cX12_begins 205 = .ok (.sipush 408, 3) := by decide +kernel
theorem dX12_begins_208 : decode cX12_begins 208 = .ok (.iload_n 1, 1) := by decide +kernel
theorem dX12_begins_209 : decode cX12_begins 209 = .ok (.iadd, 1) := by decide +kernel
theorem dX12_begins_210 : decode cX12_begins 210 = .ok (.iconst 0, 1) := by decide +kernel
theorem dX12_begins_211 : decode cX12_begins 211 = .ok (.iastore, 1) := by decide +kernel
theorem dX12_begins_212 : decode cX12_begins 212 = .ok (.iinc 1 1, 3) := by decide +kernel
theorem dX12_begins_215 : decode cX12_begins 215 = .ok (.goto (-31), 3) := by decide +kernel
theorem dX12_begins_218 : decode cX12_begins 218 = .ok (.aload_n 0, 1) := by decide +kernel
theorem dX12_begins_219 : decode cX12_begins 219 = .ok (.getfield 38, 3) := by decide +kernel
theorem dX12_begins_222 : decode cX12_begins 222 = .ok (.sipush 427, 3) := by decide +kernel
theorem dX12_begins_225 : decode cX12_begins 225 = .ok (.iconst 0, 1) := by decide +kernel
theorem dX12_begins_226 : decode cX12_begins 226 = .ok (.iastore, 1) := by decide +kernel
theorem dX12_begins_227 : decode cX12_begins 227 = .ok (.aload_n 0, 1) := by decide +kernel
theorem dX12_begins_228 : decode cX12_begins 228 = .ok (.getfield 38, 3) := by decide +kernel
theorem dX12_begins_231 : decode cX12_begins 231 = .ok (.sipush 428, 3) := by decide +kernel
theorem dX12_begins_234 : decode cX12_begins 234 = .ok (.iconst 0, 1) := by decide +kernel
theorem dX12_begins_235 : decode cX12_begins 235 = .ok (.iastore, 1) := by decide +kernel
theorem dX12_begins_236 : decode cX12_begins 236 = .ok (.aload_n 0, 1) := by decide +kernel
theorem dX12_begins_237 : decode cX12_begins 237 = .ok (.iconst 0, 1) := by decide +kernel
theorem dX12_begins_238 : decode cX12_begins 238 = .ok (.putfield 181, 3) := by decide +kernel
theorem dX12_begins_241 : decode cX12_begins 241 = .ok (.aload_n 0, 1) := by decide +kernel
theorem dX12_begins_242 : decode cX12_begins 242 = .ok (.iconst 0, 1) := by decide +kernel
theorem dX12_begins_243 : decode cX12_begins 243 = .ok (.putfield 184, 3) := by decide +kernel
theorem dX12_begins_246 : decode cX12_begins 246 = .ok (.return_, 1) := by decide +kernel
theorem dX12_text_0 : decode cX12_text 0 = .ok (.aload_n 0, 1) := by decide +kernel
theorem dX12_text_1 : decode cX12_text 1 = .ok (.iconst 0, 1) := by decide +kernel
theorem dX12_text_2 : decode cX12_text 2 = .ok (.putfield 57, 3) := by decide +kernel
theorem dX12_text_5 : decode cX12_text 5 = .ok (.iload_n 1, 1) := by decide +kernel
theorem dX12_text_6 : decode cX12_text 6 = .ok (.i2l, 1) := by decide +kernel
theorem dX12_text_7 : decode cX12_text 7 = .ok (.lconst 0, 1) := by decide +kernel
theorem dX12_text_8 : decode cX12_text 8 = .ok (.lconst 1, 1) := by decide +kernel
theorem dX12_text_9 : decode cX12_text 9 = .ok (.invokestatic 117, 3) := by decide +kernel
theorem dX12_text_12 : decode cX12_text 12 = .ok (.ifCond .eq 25, 3) := by decide +kernel
theorem dX12_text_15 : decode cX12_text 15 = .ok (.iload_n 1, 1) := by decide +kernel
theorem dX12_text_16 : decode cX12_text 16 = .ok (.iconst 1, 1) := by decide +kernel
theorem dX12_text_17 : decode cX12_text 17 = .ok (.if_icmp .ne 11, 3) := by decide +kernel
theorem dX12_text_20 : decode cX12_text 20 = .ok (.aload_n 0, 1) := by decide +kernel
theorem dX12_text_21 : decode cX12_text 21 = .ok (.getfield 188, 3) := by decide +kernel
theorem dX12_text_24 : decode cX12_text 24 = .ok (.iconst 4, 1) := by decide +kernel
theorem dX12_text_25 : decode cX12_text 25 = .ok (.if_icmp .eq 12, 3) := by decide +kernel
theorem dX12_text_28 : decode cX12_text 28 = .ok (.aload_n 0, 1) := by decide +kernel
theorem dX12_text_29 : decode cX12_text 29 = .ok (.iload_n 1, 1) := by decide +kernel
theorem dX12_text_30 : decode cX12_text 30 = .ok (.invokevirtual 191, 3) := by decide +kernel
theorem dX12_text_33 : decode cX12_text 33 = .ok (.iconst (-1), 1) := by decide +kernel
theorem dX12_text_34 : decode cX12_text 34 = .ok (.if_icmp .eq 5, 3) := by decide +kernel
theorem dX12_text_37 : decode cX12_text 37 = .ok (.iconst (-1), 1) := by decide +kernel
theorem dX12_text_38 : decode cX12_text 38 = .ok (.ireturn, 1) := by decide +kernel
theorem dX12_text_39 : decode cX12_text 39 = .ok (.aload_n 0, 1) := by decide +kernel
theorem dX12_text_40 : decode cX12_text 40 = .ok (.iconst 0, 1) := by decide +kernel
theorem dX12_text_41 : decode cX12_text 41 = .ok (.putfield 61, 3) := by decide +kernel
theorem dX12_text_44 : decode cX12_text 44 = .ok (.iload_n 1, 1) := by decide +kernel
theorem dX12_text_45 : decode cX12_text 45 = .ok (.iconst 1, 1) := by decide +kernel
theorem dX12_text_46 : decode cX12_text 46 = .ok (.if_icmp .ne 74, 3) := by decide +kernel
theorem dX12_text_49 : decode cX12_text 49 = .ok (.bipush 80, 2) := by decide +kernel
theorem dX12_text_51 : decode cX12_text 51 = .ok (.istore_n 2, 1) := by decide +kernel
theorem dX12_text_52 : decode cX12_text 52 = .ok (.iconst 0, 1) := by decide +kernel
theorem dX12_text_53 : decode cX12_text 53 = .ok (.istore_n 3, 1) := by decide +kernel
theorem dX12_text_54 : decode cX12_text 54 = .ok (.iload_n 3, 1) := by decide +kernel
theorem dX12_text_55 : decode cX12_text 55 = .ok (.iload_n 2, 1) := by decide +kernel
theorem dX12_text_56 : decode cX12_text 56 = .ok (.if_icmp .ge 32, 3) := by decide +kernel
theorem dX12_text_59 : decode cX12_text 59 = .ok (.aload_n 0, 1) := by decide +kernel
theorem dX12_text_60 : decode cX12_text 60 = .ok (.getfield 26, 3) := by decide +kernel
theorem dX12_text_63 : decode cX12_text 63 = .ok (.iload_n 2, 1) := by decide +kernel
theorem dX12_text_64 : decode cX12_text 64 = .ok (.aload_n 0, 1) := by decide +kernel
theorem dX12_text_65 : decode cX12_text 65 = .ok (.getfield 188, 3) := by decide +kernel
theorem dX12_text_68 : decode cX12_text 68 = .ok (.imul, 1) := by decide +kernel
theorem dX12_text_69 : decode cX12_text 69 = .ok (.iload_n 3, 1) := by decide +kernel
theorem dX12_text_70 : decode cX12_text 70 = .ok (.iadd, 1) := by decide +kernel
theorem dX12_text_71 : decode cX12_text 71 = .ok (.aload_n 0, 1) := by decide +kernel
theorem dX12_text_72 : decode cX12_text 72 = .ok (.getfield 26, 3) := by decide +kernel
theorem dX12_text_75 : decode cX12_text 75 = .ok (.iload_n 2, 1) := by decide +kernel
theorem dX12_text_76 : decode cX12_text 76 = .ok (.iconst 4, 1) := by decide +kernel
theorem dX12_text_77 : decode cX12_text 77 = .ok (.imul, 1) := by decide +kernel
theorem dX12_text_78 : decode cX12_text 78 = .ok (.iload_n 3, 1) := by decide +kernel
theorem dX12_text_79 : decode cX12_text 79 = .ok (.iadd, 1) := by decide +kernel
theorem dX12_text_80 : decode cX12_text 80 = .ok (.iaload, 1) := by decide +kernel
theorem dX12_text_81 : decode cX12_text 81 = .ok (.iastore, 1) := by decide +kernel
theorem dX12_text_82 : decode cX12_text 82 = .ok (.iinc 3 1, 3) := by decide +kernel
theorem dX12_text_85 : decode cX12_text 85 = .ok (.goto (-31), 3) := by decide +kernel
theorem dX12_text_88 : decode cX12_text 88 = .ok (.aload_n 0, 1) := by decide +kernel
theorem dX12_text_89 : decode cX12_text 89 = .ok (.getfield 29, 3) := by decide +kernel
theorem dX12_text_92 : decode cX12_text 92 = .ok (.aload_n 0, 1) := by decide +kernel
theorem dX12_text_93 : decode cX12_text 93 = .ok (.getfield 188, 3) := by decide +kernel
theorem dX12_text_96 : decode cX12_text 96 = .ok (.aload_n 0, 1) := by decide +kernel
theorem dX12_text_97 : decode cX12_text 97 = .ok (.getfield 29, 3) := by decide +kernel
theorem dX12_text_100 : decode cX12_text 100 = .ok (.iconst 4, 1) := by decide +kernel
theorem dX12_text_101 : decode cX12_text 101 = .ok (.iaload, 1) := by decide +kernel
theorem dX12_text_102 : decode cX12_text 102 = .ok (.iastore, 1) := by decide +kernel
theorem dX12_text_103 : decode cX12_text 103 = .ok (.aload_n 0, 1) := by decide +kernel
theorem dX12_text_104 : decode cX12_text 104 = .ok (.dup, 1) := by decide +kernel
theorem dX12_text_105 : decode cX12_text 105 = .ok (.getfield 188, 3) := by decide +kernel
theorem dX12_text_108 : decode cX12_text 108 = .ok (.iconst 1, 1) := by decide +kernel
theorem dX12_text_109 : decode cX12_text 109 = .ok (.iadd, 1) := by decide +kernel
theorem dX12_text_110 : decode cX12_text 110 = .ok (.putfield 188, 3) := by decide +kernel
theorem dX12_text_113 : decode cX12_text 113 = .ok (.aload_n 0, 1) := by decide +kernel
theorem dX12_text_114 : decode cX12_text 114 = .ok (.getfield 188, 3) := by decide +kernel
theorem dX12_text_117 : decode cX12_text 117 = .ok (.iconst 1, 1) := by decide +kernel
theorem dX12_text_118 : decode cX12_text 118 = .ok (.isub, 1) := by decide +kernel
theorem dX12_text_119 : decode cX12_text 119 = .ok (.ireturn, 1) := by decide +kernel
theorem dX12_text_120 : decode cX12_text 120 = .ok (.aload_n 0, 1) := by decide +kernel
theorem dX12_text_121 : decode cX12_text 121 = .ok (.invokevirtual 193, 3) := by decide +kernel
theorem dX12_text_124 : decode cX12_text 124 = .ok (.aload_n 0, 1) := by decide +kernel
theorem dX12_text_125 : decode cX12_text 125 = .ok (.getfield 153, 3) := by decide +kernel
theorem dX12_text_128 : decode cX12_text 128 = .ok (.ireturn, 1) := by decide +kernel
theorem dX12_copyRow_0 : decode cX12_copyRow 0 = .ok (.iconst 0, 1) := by decide +kernel
theorem dX12_copyRow_1 : decode cX12_copyRow 1 = .ok (.istore 4, 2) := by decide +kernel
theorem dX12_copyRow_3 : decode cX12_copyRow 3 = .ok (.iload 4, 2) := by decide +kernel
theorem dX12_copyRow_5 : decode cX12_copyRow 5 = .ok (.sipush 616, 3) := by decide +kernel
theorem dX12_copyRow_8 : decode cX12_copyRow 8 = .ok (.if_icmp .ge 21, 3) := by decide +kernel
theorem dX12_copyRow_11 : decode cX12_copyRow 11 = .ok (.aload_n 2, 1) := by decide +kernel
theorem dX12_copyRow_12 : decode cX12_copyRow 12 = .ok (.iload_n 3, 1) := by decide +kernel
theorem dX12_copyRow_13 : decode cX12_copyRow 13 = .ok (.iload 4, 2) := by decide +kernel
theorem dX12_copyRow_15 : decode cX12_copyRow 15 = .ok (.iadd, 1) := by decide +kernel
theorem dX12_copyRow_16 : decode cX12_copyRow 16 = .ok (.aload_n 0, 1) := by decide +kernel
theorem dX12_copyRow_17 : decode cX12_copyRow 17 = .ok (.iload_n 1, 1) := by decide +kernel
theorem dX12_copyRow_18 : decode cX12_copyRow 18 = .ok (.iload 4, 2) := by decide +kernel
theorem dX12_copyRow_20 : decode cX12_copyRow 20 = .ok (.iadd, 1) := by decide +kernel
theorem dX12_copyRow_21 : decode cX12_copyRow 21 = .ok (.iaload, 1) := by decide +kernel
theorem dX12_copyRow_22 : decode cX12_copyRow 22 = .ok (.iastore, 1) := by decide +kernel
theorem dX12_copyRow_23 : decode cX12_copyRow 23 = .ok (.iinc 4 1, 3) := by decide +kernel
theorem dX12_copyRow_26 : decode cX12_copyRow 26 = .ok (.goto (-23), 3) := by decide +kernel
theorem dX12_copyRow_29 : decode cX12_copyRow 29 = .ok (.return_, 1) := by decide +kernel
theorem dX12_roleOf_0 : decode cX12_roleOf 0 = .ok (.iload_n 2, 1) := by decide +kernel
theorem dX12_roleOf_1 : decode cX12_roleOf 1 = .ok (.aload_n 0, 1) := by decide +kernel
theorem dX12_roleOf_2 : decode cX12_roleOf 2 = .ok (.iload_n 1, 1) := by decide +kernel
theorem dX12_roleOf_3 : decode cX12_roleOf 3 = .ok (.invokevirtual 196, 3) := by decide +kernel
theorem dX12_roleOf_6 : decode cX12_roleOf 6 = .ok (.isub, 1) := by decide +kernel
theorem dX12_roleOf_7 : decode cX12_roleOf 7 = .ok (.aload_n 0, 1) := by decide +kernel
theorem dX12_roleOf_8 : decode cX12_roleOf 8 = .ok (.getfield 171, 3) := by decide +kernel
theorem dX12_roleOf_11 : decode cX12_roleOf 11 = .ok (.iadd, 1) := by decide +kernel
theorem dX12_roleOf_12 : decode cX12_roleOf 12 = .ok (.aload_n 0, 1) := by decide +kernel
theorem dX12_roleOf_13 : decode cX12_roleOf 13 = .ok (.getfield 171, 3) := by decide +kernel
theorem dX12_roleOf_16 : decode cX12_roleOf 16 = .ok (.irem, 1) := by decide +kernel
theorem dX12_roleOf_17 : decode cX12_roleOf 17 = .ok (.istore_n 3, 1) := by decide +kernel
theorem dX12_roleOf_18 : decode cX12_roleOf 18 = .ok (.iload_n 3, 1) := by decide +kernel
theorem dX12_roleOf_19 : decode cX12_roleOf 19 = .ok (.ifCond .ne 12, 3) := by decide +kernel
theorem dX12_roleOf_22 : decode cX12_roleOf 22 = .ok (.aload_n 0, 1) := by decide +kernel
theorem dX12_roleOf_23 : decode cX12_roleOf 23 = .ok (.getfield 17, 3) := by decide +kernel
theorem dX12_roleOf_26 : decode cX12_roleOf 26 = .ok (.iconst 0, 1) := by decide +kernel
theorem dX12_roleOf_27 : decode cX12_roleOf 27 = .ok (.iaload, 1) := by decide +kernel
theorem dX12_roleOf_28 : decode cX12_roleOf 28 = .ok (.goto 22, 3) := by decide +kernel
theorem dX12_roleOf_31 : decode cX12_roleOf 31 = .ok (.iload_n 3, 1) := by decide +kernel
theorem dX12_roleOf_32 : decode cX12_roleOf 32 = .ok (.iconst 1, 1) := by decide +kernel
theorem dX12_roleOf_33 : decode cX12_roleOf 33 = .ok (.if_icmp .ne 14, 3) := by decide +kernel
theorem dX12_roleOf_36 : decode cX12_roleOf 36 = .ok (.aload_n 0, 1) := by decide +kernel
theorem dX12_roleOf_37 : decode cX12_roleOf 37 = .ok (.getfield 17, 3) := by decide +kernel
theorem dX12_roleOf_40 : decode cX12_roleOf 40 = .ok (.iconst 0, 1) := by decide +kernel
theorem dX12_roleOf_41 : decode cX12_roleOf 41 = .ok (.iaload, 1) := by decide +kernel
theorem dX12_roleOf_42 : decode cX12_roleOf 42 = .ok (.iconst 1, 1) := by decide +kernel
theorem dX12_roleOf_43 : decode cX12_roleOf 43 = .ok (.iadd, 1) := by decide +kernel
theorem dX12_roleOf_44 : decode cX12_roleOf 44 = .ok (.goto 6, 3) := by decide +kernel
theorem dX12_roleOf_47 : decode cX12_roleOf 47 = .ok (.iload_n 3, 1) := by decide +kernel
theorem dX12_roleOf_48 : decode cX12_roleOf 48 = .ok (.iconst 2, 1) := by decide +kernel
theorem dX12_roleOf_49 : decode cX12_roleOf 49 = .ok (.isub, 1) := by decide +kernel
theorem dX12_roleOf_50 : decode cX12_roleOf 50 = .ok (.ireturn, 1) := by decide +kernel
theorem dX12_reads_0 : decode cX12_reads 0 = .ok (.aload_n 0, 1) := by decide +kernel
theorem dX12_reads_1 : decode cX12_reads 1 = .ok (.aload_n 1, 1) := by decide +kernel
theorem dX12_reads_2 : decode cX12_reads 2 = .ok (.aload_n 0, 1) := by decide +kernel
theorem dX12_reads_3 : decode cX12_reads 3 = .ok (.iload_n 2, 1) := by decide +kernel
theorem dX12_reads_4 : decode cX12_reads 4 = .ok (.invokevirtual 217, 3) := by decide +kernel
theorem dX12_reads_7 : decode cX12_reads 7 = .ok (.aload_n 0, 1) := by decide +kernel
theorem dX12_reads_8 : decode cX12_reads 8 = .ok (.iload_n 2, 1) := by decide +kernel
theorem dX12_reads_9 : decode cX12_reads 9 = .ok (.invokevirtual 220, 3) := by decide +kernel
theorem dX12_reads_12 : decode cX12_reads 12 = .ok (.iconst (-1), 1) := by decide +kernel
theorem dX12_reads_13 : decode cX12_reads 13 = .ok (.iconst (-1), 1) := by decide +kernel
theorem dX12_reads_14 : decode cX12_reads 14 = .ok (.invokevirtual 223, 3) := by decide +kernel
theorem dX12_reads_17 : decode cX12_reads 17 = .ok (.aload_n 0, 1) := by decide +kernel
theorem dX12_reads_18 : decode cX12_reads 18 = .ok (.invokevirtual 227, 3) := by decide +kernel
theorem dX12_reads_21 : decode cX12_reads 21 = .ok (.aload_n 0, 1) := by decide +kernel
theorem dX12_reads_22 : decode cX12_reads 22 = .ok (.getfield 50, 3) := by decide +kernel
theorem dX12_reads_25 : decode cX12_reads 25 = .ok (.aload_n 0, 1) := by decide +kernel
theorem dX12_reads_26 : decode cX12_reads 26 = .ok (.iload_n 2, 1) := by decide +kernel
theorem dX12_reads_27 : decode cX12_reads 27 = .ok (.invokevirtual 230, 3) := by decide +kernel
theorem dX12_reads_30 : decode cX12_reads 30 = .ok (.iaload, 1) := by decide +kernel
theorem dX12_reads_31 : decode cX12_reads 31 = .ok (.ireturn, 1) := by decide +kernel
theorem dX12_wrong_0 : decode cX12_wrong 0 = .ok (.aload_n 0, 1) := by decide +kernel
theorem dX12_wrong_1 : decode cX12_wrong 1 = .ok (.getfield 17, 3) := by decide +kernel
theorem dX12_wrong_4 : decode cX12_wrong 4 = .ok (.iconst 0, 1) := by decide +kernel
theorem dX12_wrong_5 : decode cX12_wrong 5 = .ok (.iaload, 1) := by decide +kernel
theorem dX12_wrong_6 : decode cX12_wrong 6 = .ok (.istore_n 1, 1) := by decide +kernel
theorem dX12_wrong_7 : decode cX12_wrong 7 = .ok (.aload_n 0, 1) := by decide +kernel
theorem dX12_wrong_8 : decode cX12_wrong 8 = .ok (.getfield 50, 3) := by decide +kernel
theorem dX12_wrong_11 : decode cX12_wrong 11 = .ok (.iload_n 1, 1) := by decide +kernel
theorem dX12_wrong_12 : decode cX12_wrong 12 = .ok (.iaload, 1) := by decide +kernel
theorem dX12_wrong_13 : decode cX12_wrong 13 = .ok (.aload_n 0, 1) := by decide +kernel
theorem dX12_wrong_14 : decode cX12_wrong 14 = .ok (.iconst 0, 1) := by decide +kernel
theorem dX12_wrong_15 : decode cX12_wrong 15 = .ok (.iconst (-1), 1) := by decide +kernel
theorem dX12_wrong_16 : decode cX12_wrong 16 = .ok (.iconst (-1), 1) := by decide +kernel
theorem dX12_wrong_17 : decode cX12_wrong 17 = .ok (.invokevirtual 213, 3) := by decide +kernel
theorem dX12_wrong_20 : decode cX12_wrong 20 = .ok (.ixor, 1) := by decide +kernel
theorem dX12_wrong_21 : decode cX12_wrong 21 = .ok (.istore_n 2, 1) := by decide +kernel
theorem dX12_wrong_22 : decode cX12_wrong 22 = .ok (.aload_n 0, 1) := by decide +kernel
theorem dX12_wrong_23 : decode cX12_wrong 23 = .ok (.getfield 50, 3) := by decide +kernel
theorem dX12_wrong_26 : decode cX12_wrong 26 = .ok (.iload_n 1, 1) := by decide +kernel
theorem dX12_wrong_27 : decode cX12_wrong 27 = .ok (.iconst 1, 1) := by decide +kernel
theorem dX12_wrong_28 : decode cX12_wrong 28 = .ok (.iadd, 1) := by decide +kernel
theorem dX12_wrong_29 : decode cX12_wrong 29 = .ok (.iaload, 1) := by decide +kernel
theorem dX12_wrong_30 : decode cX12_wrong 30 = .ok (.aload_n 0, 1) := by decide +kernel
theorem dX12_wrong_31 : decode cX12_wrong 31 = .ok (.iconst 1, 1) := by decide +kernel
theorem dX12_wrong_32 : decode cX12_wrong 32 = .ok (.iconst (-1), 1) := by decide +kernel
theorem dX12_wrong_33 : decode cX12_wrong 33 = .ok (.iconst (-1), 1) := by decide +kernel
theorem dX12_wrong_34 : decode cX12_wrong 34 = .ok (.invokevirtual 213, 3) := by decide +kernel
theorem dX12_wrong_37 : decode cX12_wrong 37 = .ok (.ixor, 1) := by decide +kernel
theorem dX12_wrong_38 : decode cX12_wrong 38 = .ok (.istore_n 3, 1) := by decide +kernel
theorem dX12_wrong_39 : decode cX12_wrong 39 = .ok (.iload_n 2, 1) := by decide +kernel
theorem dX12_wrong_40 : decode cX12_wrong 40 = .ok (.ifCond .ne 9, 3) := by decide +kernel
theorem dX12_wrong_43 : decode cX12_wrong 43 = .ok (.iload_n 3, 1) := by decide +kernel
theorem dX12_wrong_44 : decode cX12_wrong 44 = .ok (.ifCond .ne 5, 3) := by decide +kernel
theorem dX12_wrong_47 : decode cX12_wrong 47 = .ok (.iconst (-1), 1) := by decide +kernel
theorem dX12_wrong_48 : decode cX12_wrong 48 = .ok (.ireturn, 1) := by decide +kernel
theorem dX12_wrong_49 : decode cX12_wrong 49 = .ok (.iload_n 3, 1) := by decide +kernel
theorem dX12_wrong_50 : decode cX12_wrong 50 = .ok (.ifCond .ne 5, 3) := by decide +kernel
theorem dX12_wrong_53 : decode cX12_wrong 53 = .ok (.iload_n 1, 1) := by decide +kernel
theorem dX12_wrong_54 : decode cX12_wrong 54 = .ok (.ireturn, 1) := by decide +kernel
theorem dX12_wrong_55 : decode cX12_wrong 55 = .ok (.iload_n 2, 1) := by decide +kernel
theorem dX12_wrong_56 : decode cX12_wrong 56 = .ok (.ifCond .ne 7, 3) := by decide +kernel
theorem dX12_wrong_59 : decode cX12_wrong 59 = .ok (.iload_n 1, 1) := by decide +kernel
theorem dX12_wrong_60 : decode cX12_wrong 60 = .ok (.iconst 1, 1) := by decide +kernel
theorem dX12_wrong_61 : decode cX12_wrong 61 = .ok (.iadd, 1) := by decide +kernel
theorem dX12_wrong_62 : decode cX12_wrong 62 = .ok (.ireturn, 1) := by decide +kernel
theorem dX12_wrong_63 : decode cX12_wrong 63 = .ok (.aload_n 0, 1) := by decide +kernel
theorem dX12_wrong_64 : decode cX12_wrong 64 = .ok (.getfield 35, 3) := by decide +kernel
theorem dX12_wrong_67 : decode cX12_wrong 67 = .ok (.aload_n 0, 1) := by decide +kernel
theorem dX12_wrong_68 : decode cX12_wrong 68 = .ok (.iload_n 3, 1) := by decide +kernel
theorem dX12_wrong_69 : decode cX12_wrong 69 = .ok (.iload_n 2, 1) := by decide +kernel
theorem dX12_wrong_70 : decode cX12_wrong 70 = .ok (.invokevirtual 164, 3) := by decide +kernel
theorem dX12_wrong_73 : decode cX12_wrong 73 = .ok (.iaload, 1) := by decide +kernel
theorem dX12_wrong_74 : decode cX12_wrong 74 = .ok (.istore 4, 2) := by decide +kernel
theorem dX12_wrong_76 : decode cX12_wrong 76 = .ok (.iload 4, 2) := by decide +kernel
theorem dX12_wrong_78 : decode cX12_wrong 78 = .ok (.iload_n 1, 1) := by decide +kernel
theorem dX12_wrong_79 : decode cX12_wrong 79 = .ok (.if_icmp .ge 8, 3) := by decide +kernel
theorem dX12_wrong_82 : decode cX12_wrong 82 = .ok (.iload 4, 2) := by decide +kernel
theorem dX12_wrong_84 : decode cX12_wrong 84 = .ok (.goto 5, 3) := by decide +kernel
theorem dX12_wrong_87 : decode cX12_wrong 87 = .ok (.bipush (-2), 2) := by decide +kernel
theorem dX12_wrong_89 : decode cX12_wrong 89 = .ok (.ireturn, 1) := by decide +kernel
theorem dX12_isAll_0 : decode cX12_isAll 0 = .ok (.iconst 0, 1) := by decide +kernel
theorem dX12_isAll_1 : decode cX12_isAll 1 = .ok (.istore_n 3, 1) := by decide +kernel
theorem dX12_isAll_2 : decode cX12_isAll 2 = .ok (.iload_n 3, 1) := by decide +kernel
theorem dX12_isAll_3 : decode cX12_isAll 3 = .ok (.aload_n 0, 1) := by decide +kernel
theorem dX12_isAll_4 : decode cX12_isAll 4 = .ok (.getfield 171, 3) := by decide +kernel
theorem dX12_isAll_7 : decode cX12_isAll 7 = .ok (.if_icmp .ge 20, 3) := by decide +kernel
theorem dX12_isAll_10 : decode cX12_isAll 10 = .ok (.aload_n 1, 1) := by decide +kernel
theorem dX12_isAll_11 : decode cX12_isAll 11 = .ok (.iload_n 3, 1) := by decide +kernel
theorem dX12_isAll_12 : decode cX12_isAll 12 = .ok (.iload_n 2, 1) := by decide +kernel
theorem dX12_isAll_13 : decode cX12_isAll 13 = .ok (.invokestatic 202, 3) := by decide +kernel
theorem dX12_isAll_16 : decode cX12_isAll 16 = .ok (.ifCond .ne 5, 3) := by decide +kernel
theorem dX12_isAll_19 : decode cX12_isAll 19 = .ok (.iconst 0, 1) := by decide +kernel
theorem dX12_isAll_20 : decode cX12_isAll 20 = .ok (.ireturn, 1) := by decide +kernel
theorem dX12_isAll_21 : decode cX12_isAll 21 = .ok (.iinc 3 1, 3) := by decide +kernel
theorem dX12_isAll_24 : decode cX12_isAll 24 = .ok (.goto (-22), 3) := by decide +kernel
theorem dX12_isAll_27 : decode cX12_isAll 27 = .ok (.iconst 1, 1) := by decide +kernel
theorem dX12_isAll_28 : decode cX12_isAll 28 = .ok (.ireturn, 1) := by decide +kernel
theorem dX12_isDirty_0 : decode cX12_isDirty 0 = .ok (.aload_n 0, 1) := by decide +kernel
theorem dX12_isDirty_1 : decode cX12_isDirty 1 = .ok (.sipush 425, 3) := by decide +kernel
theorem dX12_isDirty_4 : decode cX12_isDirty 4 = .ok (.iaload, 1) := by decide +kernel
theorem dX12_isDirty_5 : decode cX12_isDirty 5 = .ok (.iload_n 1, 1) := by decide +kernel
theorem dX12_isDirty_6 : decode cX12_isDirty 6 = .ok (.ishr, 1) := by decide +kernel
theorem dX12_isDirty_7 : decode cX12_isDirty 7 = .ok (.iconst 1, 1) := by decide +kernel
theorem dX12_isDirty_8 : decode cX12_isDirty 8 = .ok (.iand, 1) := by decide +kernel
theorem dX12_isDirty_9 : decode cX12_isDirty 9 = .ok (.iconst 1, 1) := by decide +kernel
theorem dX12_isDirty_10 : decode cX12_isDirty 10 = .ok (.if_icmp .ne 7, 3) := by decide +kernel
theorem dX12_isDirty_13 : decode cX12_isDirty 13 = .ok (.iconst 1, 1) := by decide +kernel
theorem dX12_isDirty_14 : decode cX12_isDirty 14 = .ok (.goto 4, 3) := by decide +kernel
theorem dX12_isDirty_17 : decode cX12_isDirty 17 = .ok (.iconst 0, 1) := by decide +kernel
theorem dX12_isDirty_18 : decode cX12_isDirty 18 = .ok (.ireturn, 1) := by decide +kernel
theorem dX12_mends_0 : decode cX12_mends 0 = .ok (.aload_n 0, 1) := by decide +kernel
theorem dX12_mends_1 : decode cX12_mends 1 = .ok (.aload_n 1, 1) := by decide +kernel
theorem dX12_mends_2 : decode cX12_mends 2 = .ok (.iload_n 2, 1) := by decide +kernel
theorem dX12_mends_3 : decode cX12_mends 3 = .ok (.iload_n 3, 1) := by decide +kernel
theorem dX12_mends_4 : decode cX12_mends 4 = .ok (.iconst (-1), 1) := by decide +kernel
theorem dX12_mends_5 : decode cX12_mends 5 = .ok (.iconst (-1), 1) := by decide +kernel
theorem dX12_mends_6 : decode cX12_mends 6 = .ok (.invokevirtual 223, 3) := by decide +kernel
theorem dX12_mends_9 : decode cX12_mends 9 = .ok (.aload_n 0, 1) := by decide +kernel
theorem dX12_mends_10 : decode cX12_mends 10 = .ok (.getfield 17, 3) := by decide +kernel
theorem dX12_mends_13 : decode cX12_mends 13 = .ok (.iconst 0, 1) := by decide +kernel
theorem dX12_mends_14 : decode cX12_mends 14 = .ok (.iaload, 1) := by decide +kernel
theorem dX12_mends_15 : decode cX12_mends 15 = .ok (.istore 4, 2) := by decide +kernel
theorem dX12_mends_17 : decode cX12_mends 17 = .ok (.aload_n 0, 1) := by decide +kernel
theorem dX12_mends_18 : decode cX12_mends 18 = .ok (.invokevirtual 264, 3) := by decide +kernel
theorem dX12_mends_21 : decode cX12_mends 21 = .ok (.istore 5, 2) := by decide +kernel
theorem dX12_mends_23 : decode cX12_mends 23 = .ok (.iload 5, 2) := by decide +kernel
theorem dX12_mends_25 : decode cX12_mends 25 = .ok (.bipush (-2), 2) := by decide +kernel
theorem dX12_mends_27 : decode cX12_mends 27 = .ok (.if_icmp .ne 12, 3) := by decide +kernel
theorem dX12_mends_30 : decode cX12_mends 30 = .ok (.aload_n 1, 1) := by decide +kernel
theorem dX12_mends_31 : decode cX12_mends 31 = .ok (.sipush 430, 3) := by decide +kernel
theorem dX12_mends_34 : decode cX12_mends 34 = .ok (.dup2, 1) := by decide +kernel
theorem dX12_mends_35 : decode cX12_mends 35 = .ok (.iaload, 1) := by decide +kernel
theorem dX12_mends_36 : decode cX12_mends 36 = .ok (.iconst 1, 1) := by decide +kernel
theorem dX12_mends_37 : decode cX12_mends 37 = .ok (.iadd, 1) := by decide +kernel
theorem dX12_mends_38 : decode cX12_mends 38 = .ok (.iastore, 1) := by decide +kernel
theorem dX12_mends_39 : decode cX12_mends 39 = .ok (.iload 5, 2) := by decide +kernel
theorem dX12_mends_41 : decode cX12_mends 41 = .ok (.ifCond .ge 5, 3) := by decide +kernel
theorem dX12_mends_44 : decode cX12_mends 44 = .ok (.iconst 0, 1) := by decide +kernel
theorem dX12_mends_45 : decode cX12_mends 45 = .ok (.ireturn, 1) := by decide +kernel
theorem dX12_mends_46 : decode cX12_mends 46 = .ok (.iload 5, 2) := by decide +kernel
theorem dX12_mends_48 : decode cX12_mends 48 = .ok (.iload 4, 2) := by decide +kernel
theorem dX12_mends_50 : decode cX12_mends 50 = .ok (.iconst 1, 1) := by decide +kernel
theorem dX12_mends_51 : decode cX12_mends 51 = .ok (.iadd, 1) := by decide +kernel
theorem dX12_mends_52 : decode cX12_mends 52 = .ok (.if_icmp .ne 23, 3) := by decide +kernel
theorem dX12_mends_55 : decode cX12_mends 55 = .ok (.aload_n 0, 1) := by decide +kernel
theorem dX12_mends_56 : decode cX12_mends 56 = .ok (.getfield 50, 3) := by decide +kernel
theorem dX12_mends_59 : decode cX12_mends 59 = .ok (.iload 4, 2) := by decide +kernel
theorem dX12_mends_61 : decode cX12_mends 61 = .ok (.iconst 1, 1) := by decide +kernel
theorem dX12_mends_62 : decode cX12_mends 62 = .ok (.iadd, 1) := by decide +kernel
theorem dX12_mends_63 : decode cX12_mends 63 = .ok (.iaload, 1) := by decide +kernel
theorem dX12_mends_64 : decode cX12_mends 64 = .ok (.aload_n 0, 1) := by decide +kernel
theorem dX12_mends_65 : decode cX12_mends 65 = .ok (.iconst 1, 1) := by decide +kernel
theorem dX12_mends_66 : decode cX12_mends 66 = .ok (.iconst (-1), 1) := by decide +kernel
theorem dX12_mends_67 : decode cX12_mends 67 = .ok (.iconst (-1), 1) := by decide +kernel
theorem dX12_mends_68 : decode cX12_mends 68 = .ok (.invokevirtual 213, 3) := by decide +kernel
theorem dX12_mends_71 : decode cX12_mends 71 = .ok (.ixor, 1) := by decide +kernel
theorem dX12_mends_72 : decode cX12_mends 72 = .ok (.goto 18, 3) := by decide +kernel
theorem dX12_mends_75 : decode cX12_mends 75 = .ok (.aload_n 0, 1) := by decide +kernel
theorem dX12_mends_76 : decode cX12_mends 76 = .ok (.getfield 50, 3) := by decide +kernel
theorem dX12_mends_79 : decode cX12_mends 79 = .ok (.iload 4, 2) := by decide +kernel
theorem dX12_mends_81 : decode cX12_mends 81 = .ok (.iaload, 1) := by decide +kernel
theorem dX12_mends_82 : decode cX12_mends 82 = .ok (.aload_n 0, 1) := by decide +kernel
theorem dX12_mends_83 : decode cX12_mends 83 = .ok (.iconst 0, 1) := by decide +kernel
theorem dX12_mends_84 : decode cX12_mends 84 = .ok (.iconst (-1), 1) := by decide +kernel
theorem dX12_mends_85 : decode cX12_mends 85 = .ok (.iconst (-1), 1) := by decide +kernel
theorem dX12_mends_86 : decode cX12_mends 86 = .ok (.invokevirtual 213, 3) := by decide +kernel
theorem dX12_mends_89 : decode cX12_mends 89 = .ok (.ixor, 1) := by decide +kernel
theorem dX12_mends_90 : decode cX12_mends 90 = .ok (.istore 6, 2) := by decide +kernel
theorem dX12_mends_92 : decode cX12_mends 92 = .ok (.aload_n 0, 1) := by decide +kernel
theorem dX12_mends_93 : decode cX12_mends 93 = .ok (.aload_n 1, 1) := by decide +kernel
theorem dX12_mends_94 : decode cX12_mends 94 = .ok (.iload_n 2, 1) := by decide +kernel
theorem dX12_mends_95 : decode cX12_mends 95 = .ok (.iload_n 3, 1) := by decide +kernel
theorem dX12_mends_96 : decode cX12_mends 96 = .ok (.iload 5, 2) := by decide +kernel
theorem dX12_mends_98 : decode cX12_mends 98 = .ok (.aload_n 0, 1) := by decide +kernel
theorem dX12_mends_99 : decode cX12_mends 99 = .ok (.getfield 50, 3) := by decide +kernel
theorem dX12_mends_102 : decode cX12_mends 102 = .ok (.iload 5, 2) := by decide +kernel
theorem dX12_mends_104 : decode cX12_mends 104 = .ok (.iaload, 1) := by decide +kernel
theorem dX12_mends_105 : decode cX12_mends 105 = .ok (.iload 6, 2) := by decide +kernel
theorem dX12_mends_107 : decode cX12_mends 107 = .ok (.ixor, 1) := by decide +kernel
theorem dX12_mends_108 : decode cX12_mends 108 = .ok (.invokevirtual 261, 3) := by decide +kernel
theorem dX12_mends_111 : decode cX12_mends 111 = .ok (.aload_n 1, 1) := by decide +kernel
theorem dX12_mends_112 : decode cX12_mends 112 = .ok (.sipush 416, 3) := by decide +kernel
theorem dX12_mends_115 : decode cX12_mends 115 = .ok (.aload_n 0, 1) := by decide +kernel
theorem dX12_mends_116 : decode cX12_mends 116 = .ok (.iload_n 2, 1) := by decide +kernel
theorem dX12_mends_117 : decode cX12_mends 117 = .ok (.iload 5, 2) := by decide +kernel
theorem dX12_mends_119 : decode cX12_mends 119 = .ok (.invokevirtual 199, 3) := by decide +kernel
theorem dX12_mends_122 : decode cX12_mends 122 = .ok (.iadd, 1) := by decide +kernel
theorem dX12_mends_123 : decode cX12_mends 123 = .ok (.dup2, 1) := by decide +kernel
theorem dX12_mends_124 : decode cX12_mends 124 = .ok (.iaload, 1) := by decide +kernel
theorem dX12_mends_125 : decode cX12_mends 125 = .ok (.iconst 1, 1) := by decide +kernel
theorem dX12_mends_126 : decode cX12_mends 126 = .ok (.iadd, 1) := by decide +kernel
theorem dX12_mends_127 : decode cX12_mends 127 = .ok (.iastore, 1) := by decide +kernel
theorem dX12_mends_128 : decode cX12_mends 128 = .ok (.aload_n 1, 1) := by decide +kernel
theorem dX12_mends_129 : decode cX12_mends 129 = .ok (.sipush 429, 3) := by decide +kernel
theorem dX12_mends_132 : decode cX12_mends 132 = .ok (.dup2, 1) := by decide +kernel
theorem dX12_mends_133 : decode cX12_mends 133 = .ok (.iaload, 1) := by decide +kernel
theorem dX12_mends_134 : decode cX12_mends 134 = .ok (.iconst 1, 1) := by decide +kernel
theorem dX12_mends_135 : decode cX12_mends 135 = .ok (.iadd, 1) := by decide +kernel
theorem dX12_mends_136 : decode cX12_mends 136 = .ok (.iastore, 1) := by decide +kernel
theorem dX12_mends_137 : decode cX12_mends 137 = .ok (.aload_n 1, 1) := by decide +kernel
theorem dX12_mends_138 : decode cX12_mends 138 = .ok (.sipush 432, 3) := by decide +kernel
theorem dX12_mends_141 : decode cX12_mends 141 = .ok (.aload_n 0, 1) := by decide +kernel
theorem dX12_mends_142 : decode cX12_mends 142 = .ok (.iload_n 2, 1) := by decide +kernel
theorem dX12_mends_143 : decode cX12_mends 143 = .ok (.iload 5, 2) := by decide +kernel
theorem dX12_mends_145 : decode cX12_mends 145 = .ok (.invokevirtual 199, 3) := by decide +kernel
theorem dX12_mends_148 : decode cX12_mends 148 = .ok (.iastore, 1) := by decide +kernel
theorem dX12_mends_149 : decode cX12_mends 149 = .ok (.aload_n 1, 1) := by decide +kernel
theorem dX12_mends_150 : decode cX12_mends 150 = .ok (.sipush 433, 3) := by decide +kernel
theorem dX12_mends_153 : decode cX12_mends 153 = .ok (.iload_n 2, 1) := by decide +kernel
theorem dX12_mends_154 : decode cX12_mends 154 = .ok (.iastore, 1) := by decide +kernel
theorem dX12_mends_155 : decode cX12_mends 155 = .ok (.aload_n 1, 1) := by decide +kernel
theorem dX12_mends_156 : decode cX12_mends 156 = .ok (.sipush 434, 3) := by decide +kernel
theorem dX12_mends_159 : decode cX12_mends 159 = .ok (.iload_n 3, 1) := by decide +kernel
theorem dX12_mends_160 : decode cX12_mends 160 = .ok (.iastore, 1) := by decide +kernel
theorem dX12_mends_161 : decode cX12_mends 161 = .ok (.iconst 1, 1) := by decide +kernel
theorem dX12_mends_162 : decode cX12_mends 162 = .ok (.ireturn, 1) := by decide +kernel
theorem dX12_scrubs_0 : decode cX12_scrubs 0 = .ok (.aload_n 0, 1) := by decide +kernel
theorem dX12_scrubs_1 : decode cX12_scrubs 1 = .ok (.aload_n 1, 1) := by decide +kernel
theorem dX12_scrubs_2 : decode cX12_scrubs 2 = .ok (.iload_n 2, 1) := by decide +kernel
theorem dX12_scrubs_3 : decode cX12_scrubs 3 = .ok (.invokevirtual 267, 3) := by decide +kernel
theorem dX12_scrubs_6 : decode cX12_scrubs 6 = .ok (.ifCond .eq 11, 3) := by decide +kernel
theorem dX12_scrubs_9 : decode cX12_scrubs 9 = .ok (.aload_n 1, 1) := by decide +kernel
theorem dX12_scrubs_10 : decode cX12_scrubs 10 = .ok (.iload_n 2, 1) := by decide +kernel
theorem dX12_scrubs_11 : decode cX12_scrubs 11 = .ok (.invokestatic 271, 3) := by decide +kernel
theorem dX12_scrubs_14 : decode cX12_scrubs 14 = .ok (.ifCond .eq 14, 3) := by decide +kernel
theorem dX12_scrubs_17 : decode cX12_scrubs 17 = .ok (.aload_n 1, 1) := by decide +kernel
theorem dX12_scrubs_18 : decode cX12_scrubs 18 = .ok (.sipush 431, 3) := by decide +kernel
theorem dX12_scrubs_21 : decode cX12_scrubs 21 = .ok (.dup2, 1) := by decide +kernel
theorem dX12_scrubs_22 : decode cX12_scrubs 22 = .ok (.iaload, 1) := by decide +kernel
theorem dX12_scrubs_23 : decode cX12_scrubs 23 = .ok (.iconst 1, 1) := by decide +kernel
theorem dX12_scrubs_24 : decode cX12_scrubs 24 = .ok (.iadd, 1) := by decide +kernel
theorem dX12_scrubs_25 : decode cX12_scrubs 25 = .ok (.iastore, 1) := by decide +kernel
theorem dX12_scrubs_26 : decode cX12_scrubs 26 = .ok (.iconst 0, 1) := by decide +kernel
theorem dX12_scrubs_27 : decode cX12_scrubs 27 = .ok (.ireturn, 1) := by decide +kernel
theorem dX12_scrubs_28 : decode cX12_scrubs 28 = .ok (.iconst 0, 1) := by decide +kernel
theorem dX12_scrubs_29 : decode cX12_scrubs 29 = .ok (.istore_n 3, 1) := by decide +kernel
theorem dX12_scrubs_30 : decode cX12_scrubs 30 = .ok (.iconst 0, 1) := by decide +kernel
theorem dX12_scrubs_31 : decode cX12_scrubs 31 = .ok (.istore 4, 2) := by decide +kernel
theorem dX12_scrubs_33 : decode cX12_scrubs 33 = .ok (.iload 4, 2) := by decide +kernel
theorem dX12_scrubs_35 : decode cX12_scrubs 35 = .ok (.aload_n 0, 1) := by decide +kernel
theorem dX12_scrubs_36 : decode cX12_scrubs 36 = .ok (.getfield 17, 3) := by decide +kernel
theorem dX12_scrubs_39 : decode cX12_scrubs 39 = .ok (.iconst 2, 1) := by decide +kernel
theorem dX12_scrubs_40 : decode cX12_scrubs 40 = .ok (.iaload, 1) := by decide +kernel
theorem dX12_scrubs_41 : decode cX12_scrubs 41 = .ok (.if_icmp .ge 46, 3) := by decide +kernel
theorem dX12_scrubs_44 : decode cX12_scrubs 44 = .ok (.iconst 0, 1) := by decide +kernel
theorem dX12_scrubs_45 : decode cX12_scrubs 45 = .ok (.istore 5, 2) := by decide +kernel
theorem dX12_scrubs_47 : decode cX12_scrubs 47 = .ok (.iload 5, 2) := by decide +kernel
theorem dX12_scrubs_49 : decode cX12_scrubs 49 = .ok (.aload_n 0, 1) := by decide +kernel
theorem dX12_scrubs_50 : decode cX12_scrubs 50 = .ok (.getfield 171, 3) := by decide +kernel
theorem dX12_scrubs_53 : decode cX12_scrubs 53 = .ok (.if_icmp .ge 17, 3) := by decide +kernel
theorem dX12_scrubs_56 : decode cX12_scrubs 56 = .ok (.aload_n 0, 1) := by decide +kernel
theorem dX12_scrubs_57 : decode cX12_scrubs 57 = .ok (.aload_n 1, 1) := by decide +kernel
theorem dX12_scrubs_58 : decode cX12_scrubs 58 = .ok (.iload 5, 2) := by decide +kernel
theorem dX12_scrubs_60 : decode cX12_scrubs 60 = .ok (.iconst 0, 1) := by decide +kernel
theorem dX12_scrubs_61 : decode cX12_scrubs 61 = .ok (.invokevirtual 233, 3) := by decide +kernel
theorem dX12_scrubs_64 : decode cX12_scrubs 64 = .ok (.iinc 5 1, 3) := by decide +kernel
theorem dX12_scrubs_67 : decode cX12_scrubs 67 = .ok (.goto (-20), 3) := by decide +kernel
theorem dX12_scrubs_70 : decode cX12_scrubs 70 = .ok (.iload_n 3, 1) := by decide +kernel
theorem dX12_scrubs_71 : decode cX12_scrubs 71 = .ok (.aload_n 0, 1) := by decide +kernel
theorem dX12_scrubs_72 : decode cX12_scrubs 72 = .ok (.aload_n 1, 1) := by decide +kernel
theorem dX12_scrubs_73 : decode cX12_scrubs 73 = .ok (.iload_n 2, 1) := by decide +kernel
theorem dX12_scrubs_74 : decode cX12_scrubs 74 = .ok (.iload 4, 2) := by decide +kernel
theorem dX12_scrubs_76 : decode cX12_scrubs 76 = .ok (.invokevirtual 274, 3) := by decide +kernel
theorem dX12_scrubs_79 : decode cX12_scrubs 79 = .ok (.iadd, 1) := by decide +kernel
theorem dX12_scrubs_80 : decode cX12_scrubs 80 = .ok (.istore_n 3, 1) := by decide +kernel
theorem dX12_scrubs_81 : decode cX12_scrubs 81 = .ok (.iinc 4 1, 3) := by decide +kernel
theorem dX12_scrubs_84 : decode cX12_scrubs 84 = .ok (.goto (-51), 3) := by decide +kernel
theorem dX12_scrubs_87 : decode cX12_scrubs 87 = .ok (.iload_n 3, 1) := by decide +kernel
theorem dX12_scrubs_88 : decode cX12_scrubs 88 = .ok (.ireturn, 1) := by decide +kernel
theorem dX12_isAddress_0 : decode cX12_isAddress 0 = .ok (.iload_n 1, 1) := by decide +kernel
theorem dX12_isAddress_1 : decode cX12_isAddress 1 = .ok (.ifCond .lt 15, 3) := by decide +kernel
theorem dX12_isAddress_4 : decode cX12_isAddress 4 = .ok (.iload_n 1, 1) := by decide +kernel
theorem dX12_isAddress_5 : decode cX12_isAddress 5 = .ok (.aload_n 0, 1) := by decide +kernel
theorem dX12_isAddress_6 : decode cX12_isAddress 6 = .ok (.getfield 153, 3) := by decide +kernel
theorem dX12_isAddress_9 : decode cX12_isAddress 9 = .ok (.if_icmp .ge 7, 3) := by decide +kernel
theorem dX12_isAddress_12 : decode cX12_isAddress 12 = .ok (.iconst 1, 1) := by decide +kernel
theorem dX12_isAddress_13 : decode cX12_isAddress 13 = .ok (.goto 4, 3) := by decide +kernel
theorem dX12_isAddress_16 : decode cX12_isAddress 16 = .ok (.iconst 0, 1) := by decide +kernel
theorem dX12_isAddress_17 : decode cX12_isAddress 17 = .ok (.ireturn, 1) := by decide +kernel
theorem dX12_isDisk_0 : decode cX12_isDisk 0 = .ok (.aload_n 0, 1) := by decide +kernel
theorem dX12_isDisk_1 : decode cX12_isDisk 1 = .ok (.getfield 153, 3) := by decide +kernel
theorem dX12_isDisk_4 : decode cX12_isDisk 4 = .ok (.ifCond .le 19, 3) := by decide +kernel
theorem dX12_isDisk_7 : decode cX12_isDisk 7 = .ok (.iload_n 1, 1) := by decide +kernel
theorem dX12_isDisk_8 : decode cX12_isDisk 8 = .ok (.ifCond .lt 15, 3) := by decide +kernel
theorem dX12_isDisk_11 : decode cX12_isDisk 11 = .ok (.iload_n 1, 1) := by decide +kernel
theorem dX12_isDisk_12 : decode cX12_isDisk 12 = .ok (.aload_n 0, 1) := by decide +kernel
theorem dX12_isDisk_13 : decode cX12_isDisk 13 = .ok (.getfield 171, 3) := by decide +kernel
theorem dX12_isDisk_16 : decode cX12_isDisk 16 = .ok (.if_icmp .ge 7, 3) := by decide +kernel
theorem dX12_isDisk_19 : decode cX12_isDisk 19 = .ok (.iconst 1, 1) := by decide +kernel
theorem dX12_isDisk_20 : decode cX12_isDisk 20 = .ok (.goto 4, 3) := by decide +kernel
theorem dX12_isDisk_23 : decode cX12_isDisk 23 = .ok (.iconst 0, 1) := by decide +kernel
theorem dX12_isDisk_24 : decode cX12_isDisk 24 = .ok (.ireturn, 1) := by decide +kernel
theorem dX12_isPlace_0 : decode cX12_isPlace 0 = .ok (.aload_n 0, 1) := by decide +kernel
theorem dX12_isPlace_1 : decode cX12_isPlace 1 = .ok (.iload_n 1, 1) := by decide +kernel
theorem dX12_isPlace_2 : decode cX12_isPlace 2 = .ok (.invokevirtual 278, 3) := by decide +kernel
theorem dX12_isPlace_5 : decode cX12_isPlace 5 = .ok (.ifCond .eq 43, 3) := by decide +kernel
theorem dX12_isPlace_8 : decode cX12_isPlace 8 = .ok (.iload_n 2, 1) := by decide +kernel
theorem dX12_isPlace_9 : decode cX12_isPlace 9 = .ok (.i2l, 1) := by decide +kernel
theorem dX12_isPlace_10 : decode cX12_isPlace 10 = .ok (.lconst 0, 1) := by decide +kernel
theorem dX12_isPlace_11 : decode cX12_isPlace 11 = .ok (.aload_n 0, 1) := by decide +kernel
theorem dX12_isPlace_12 : decode cX12_isPlace 12 = .ok (.getfield 17, 3) := by decide +kernel
theorem dX12_isPlace_15 : decode cX12_isPlace 15 = .ok (.iconst 1, 1) := by decide +kernel
theorem dX12_isPlace_16 : decode cX12_isPlace 16 = .ok (.iaload, 1) := by decide +kernel
theorem dX12_isPlace_17 : decode cX12_isPlace 17 = .ok (.iconst 1, 1) := by decide +kernel
theorem dX12_isPlace_18 : decode cX12_isPlace 18 = .ok (.isub, 1) := by decide +kernel
theorem dX12_isPlace_19 : decode cX12_isPlace 19 = .ok (.i2l, 1) := by decide +kernel
theorem dX12_isPlace_20 : decode cX12_isPlace 20 = .ok (.invokestatic 117, 3) := by decide +kernel
theorem dX12_isPlace_23 : decode cX12_isPlace 23 = .ok (.ifCond .eq 25, 3) := by decide +kernel
theorem dX12_isPlace_26 : decode cX12_isPlace 26 = .ok (.iload_n 3, 1) := by decide +kernel
theorem dX12_isPlace_27 : decode cX12_isPlace 27 = .ok (.i2l, 1) := by decide +kernel
theorem dX12_isPlace_28 : decode cX12_isPlace 28 = .ok (.lconst 0, 1) := by decide +kernel
theorem dX12_isPlace_29 : decode cX12_isPlace 29 = .ok (.aload_n 0, 1) := by decide +kernel
theorem dX12_isPlace_30 : decode cX12_isPlace 30 = .ok (.getfield 17, 3) := by decide +kernel
theorem dX12_isPlace_33 : decode cX12_isPlace 33 = .ok (.iconst 2, 1) := by decide +kernel
theorem dX12_isPlace_34 : decode cX12_isPlace 34 = .ok (.iaload, 1) := by decide +kernel
theorem dX12_isPlace_35 : decode cX12_isPlace 35 = .ok (.iconst 1, 1) := by decide +kernel
theorem dX12_isPlace_36 : decode cX12_isPlace 36 = .ok (.isub, 1) := by decide +kernel
theorem dX12_isPlace_37 : decode cX12_isPlace 37 = .ok (.i2l, 1) := by decide +kernel
theorem dX12_isPlace_38 : decode cX12_isPlace 38 = .ok (.invokestatic 117, 3) := by decide +kernel
theorem dX12_isPlace_41 : decode cX12_isPlace 41 = .ok (.ifCond .eq 7, 3) := by decide +kernel
theorem dX12_isPlace_44 : decode cX12_isPlace 44 = .ok (.iconst 1, 1) := by decide +kernel
theorem dX12_isPlace_45 : decode cX12_isPlace 45 = .ok (.goto 4, 3) := by decide +kernel
theorem dX12_isPlace_48 : decode cX12_isPlace 48 = .ok (.iconst 0, 1) := by decide +kernel
theorem dX12_isPlace_49 : decode cX12_isPlace 49 = .ok (.ireturn, 1) := by decide +kernel
theorem dX12_lost_0 : decode cX12_lost 0 = .ok (.iconst 0, 1) := by decide +kernel
theorem dX12_lost_1 : decode cX12_lost 1 = .ok (.istore_n 2, 1) := by decide +kernel
theorem dX12_lost_2 : decode cX12_lost 2 = .ok (.iconst 0, 1) := by decide +kernel
theorem dX12_lost_3 : decode cX12_lost 3 = .ok (.istore_n 3, 1) := by decide +kernel
theorem dX12_lost_4 : decode cX12_lost 4 = .ok (.iload_n 3, 1) := by decide +kernel
theorem dX12_lost_5 : decode cX12_lost 5 = .ok (.aload_n 0, 1) := by decide +kernel
theorem dX12_lost_6 : decode cX12_lost 6 = .ok (.getfield 171, 3) := by decide +kernel
theorem dX12_lost_9 : decode cX12_lost 9 = .ok (.if_icmp .ge 27, 3) := by decide +kernel
theorem dX12_lost_12 : decode cX12_lost 12 = .ok (.iload_n 2, 1) := by decide +kernel
theorem dX12_lost_13 : decode cX12_lost 13 = .ok (.aload_n 1, 1) := by decide +kernel
theorem dX12_lost_14 : decode cX12_lost 14 = .ok (.sipush 384, 3) := by decide +kernel
theorem dX12_lost_17 : decode cX12_lost 17 = .ok (.iload_n 3, 1) := by decide +kernel
theorem dX12_lost_18 : decode cX12_lost 18 = .ok (.iadd, 1) := by decide +kernel
theorem dX12_lost_19 : decode cX12_lost 19 = .ok (.iaload, 1) := by decide +kernel
theorem dX12_lost_20 : decode cX12_lost 20 = .ok (.ifCond .ne 7, 3) := by decide +kernel
theorem dX12_lost_23 : decode cX12_lost 23 = .ok (.iconst 0, 1) := by decide +kernel
theorem dX12_lost_24 : decode cX12_lost 24 = .ok (.goto 4, 3) := by decide +kernel
theorem dX12_lost_27 : decode cX12_lost 27 = .ok (.iconst 1, 1) := by decide +kernel
theorem dX12_lost_28 : decode cX12_lost 28 = .ok (.iadd, 1) := by decide +kernel
theorem dX12_lost_29 : decode cX12_lost 29 = .ok (.istore_n 2, 1) := by decide +kernel
theorem dX12_lost_30 : decode cX12_lost 30 = .ok (.iinc 3 1, 3) := by decide +kernel
theorem dX12_lost_33 : decode cX12_lost 33 = .ok (.goto (-29), 3) := by decide +kernel
theorem dX12_lost_36 : decode cX12_lost 36 = .ok (.iload_n 2, 1) := by decide +kernel
theorem dX12_lost_37 : decode cX12_lost 37 = .ok (.ireturn, 1) := by decide +kernel
theorem dX12_isSmall_0 : decode cX12_isSmall 0 = .ok (.aload_n 0, 1) := by decide +kernel
theorem dX12_isSmall_1 : decode cX12_isSmall 1 = .ok (.iload_n 2, 1) := by decide +kernel
theorem dX12_isSmall_2 : decode cX12_isSmall 2 = .ok (.invokevirtual 217, 3) := by decide +kernel
theorem dX12_isSmall_5 : decode cX12_isSmall 5 = .ok (.istore_n 3, 1) := by decide +kernel
theorem dX12_isSmall_6 : decode cX12_isSmall 6 = .ok (.aload_n 1, 1) := by decide +kernel
theorem dX12_isSmall_7 : decode cX12_isSmall 7 = .ok (.aload_n 0, 1) := by decide +kernel
theorem dX12_isSmall_8 : decode cX12_isSmall 8 = .ok (.iload_n 3, 1) := by decide +kernel
theorem dX12_isSmall_9 : decode cX12_isSmall 9 = .ok (.aload_n 0, 1) := by decide +kernel
theorem dX12_isSmall_10 : decode cX12_isSmall 10 = .ok (.iload_n 2, 1) := by decide +kernel
theorem dX12_isSmall_11 : decode cX12_isSmall 11 = .ok (.invokevirtual 230, 3) := by decide +kernel
theorem dX12_isSmall_14 : decode cX12_isSmall 14 = .ok (.invokevirtual 199, 3) := by decide +kernel
theorem dX12_isSmall_17 : decode cX12_isSmall 17 = .ok (.iload_n 3, 1) := by decide +kernel
theorem dX12_isSmall_18 : decode cX12_isSmall 18 = .ok (.invokestatic 202, 3) := by decide +kernel
theorem dX12_isSmall_21 : decode cX12_isSmall 21 = .ok (.ifCond .eq 47, 3) := by decide +kernel
theorem dX12_isSmall_24 : decode cX12_isSmall 24 = .ok (.aload_n 1, 1) := by decide +kernel
theorem dX12_isSmall_25 : decode cX12_isSmall 25 = .ok (.aload_n 0, 1) := by decide +kernel
theorem dX12_isSmall_26 : decode cX12_isSmall 26 = .ok (.iload_n 3, 1) := by decide +kernel
theorem dX12_isSmall_27 : decode cX12_isSmall 27 = .ok (.aload_n 0, 1) := by decide +kernel
theorem dX12_isSmall_28 : decode cX12_isSmall 28 = .ok (.getfield 17, 3) := by decide +kernel
theorem dX12_isSmall_31 : decode cX12_isSmall 31 = .ok (.iconst 0, 1) := by decide +kernel
theorem dX12_isSmall_32 : decode cX12_isSmall 32 = .ok (.iaload, 1) := by decide +kernel
theorem dX12_isSmall_33 : decode cX12_isSmall 33 = .ok (.invokevirtual 199, 3) := by decide +kernel
theorem dX12_isSmall_36 : decode cX12_isSmall 36 = .ok (.iload_n 3, 1) := by decide +kernel
theorem dX12_isSmall_37 : decode cX12_isSmall 37 = .ok (.invokestatic 202, 3) := by decide +kernel
theorem dX12_isSmall_40 : decode cX12_isSmall 40 = .ok (.ifCond .eq 28, 3) := by decide +kernel
theorem dX12_isSmall_43 : decode cX12_isSmall 43 = .ok (.aload_n 1, 1) := by decide +kernel
theorem dX12_isSmall_44 : decode cX12_isSmall 44 = .ok (.aload_n 0, 1) := by decide +kernel
theorem dX12_isSmall_45 : decode cX12_isSmall 45 = .ok (.iload_n 3, 1) := by decide +kernel
theorem dX12_isSmall_46 : decode cX12_isSmall 46 = .ok (.aload_n 0, 1) := by decide +kernel
theorem dX12_isSmall_47 : decode cX12_isSmall 47 = .ok (.getfield 17, 3) := by decide +kernel
theorem dX12_isSmall_50 : decode cX12_isSmall 50 = .ok (.iconst 0, 1) := by decide +kernel
theorem dX12_isSmall_51 : decode cX12_isSmall 51 = .ok (.iaload, 1) := by decide +kernel
theorem dX12_isSmall_52 : decode cX12_isSmall 52 = .ok (.iconst 1, 1) := by decide +kernel
theorem dX12_isSmall_53 : decode cX12_isSmall 53 = .ok (.iadd, 1) := by decide +kernel
theorem dX12_isSmall_54 : decode cX12_isSmall 54 = .ok (.invokevirtual 199, 3) := by decide +kernel
theorem dX12_isSmall_57 : decode cX12_isSmall 57 = .ok (.iload_n 3, 1) := by decide +kernel
theorem dX12_isSmall_58 : decode cX12_isSmall 58 = .ok (.invokestatic 202, 3) := by decide +kernel
theorem dX12_isSmall_61 : decode cX12_isSmall 61 = .ok (.ifCond .eq 7, 3) := by decide +kernel
theorem dX12_isSmall_64 : decode cX12_isSmall 64 = .ok (.iconst 1, 1) := by decide +kernel
theorem dX12_isSmall_65 : decode cX12_isSmall 65 = .ok (.goto 4, 3) := by decide +kernel
theorem dX12_isSmall_68 : decode cX12_isSmall 68 = .ok (.iconst 0, 1) := by decide +kernel
theorem dX12_isSmall_69 : decode cX12_isSmall 69 = .ok (.ireturn, 1) := by decide +kernel
theorem dX12_toClean_0 : decode cX12_toClean 0 = .ok (.iconst 0, 1) := by decide +kernel
theorem dX12_toClean_1 : decode cX12_toClean 1 = .ok (.istore_n 2, 1) := by decide +kernel
theorem dX12_toClean_2 : decode cX12_toClean 2 = .ok (.iconst 0, 1) := by decide +kernel
theorem dX12_toClean_3 : decode cX12_toClean 3 = .ok (.istore_n 3, 1) := by decide +kernel
theorem dX12_toClean_4 : decode cX12_toClean 4 = .ok (.iload_n 3, 1) := by decide +kernel
theorem dX12_toClean_5 : decode cX12_toClean 5 = .ok (.aload_n 0, 1) := by decide +kernel
theorem dX12_toClean_6 : decode cX12_toClean 6 = .ok (.getfield 17, 3) := by decide +kernel
theorem dX12_toClean_9 : decode cX12_toClean 9 = .ok (.iconst 1, 1) := by decide +kernel
theorem dX12_toClean_10 : decode cX12_toClean 10 = .ok (.iaload, 1) := by decide +kernel
theorem dX12_toClean_11 : decode cX12_toClean 11 = .ok (.if_icmp .ge 36, 3) := by decide +kernel
theorem dX12_toClean_14 : decode cX12_toClean 14 = .ok (.iload_n 2, 1) := by decide +kernel
theorem dX12_toClean_15 : decode cX12_toClean 15 = .ok (.aload_n 1, 1) := by decide +kernel
theorem dX12_toClean_16 : decode cX12_toClean 16 = .ok (.iload_n 3, 1) := by decide +kernel
theorem dX12_toClean_17 : decode cX12_toClean 17 = .ok (.invokestatic 271, 3) := by decide +kernel
theorem dX12_toClean_20 : decode cX12_toClean 20 = .ok (.ifCond .eq 18, 3) := by decide +kernel
theorem dX12_toClean_23 : decode cX12_toClean 23 = .ok (.aload_n 0, 1) := by decide +kernel
theorem dX12_toClean_24 : decode cX12_toClean 24 = .ok (.aload_n 1, 1) := by decide +kernel
theorem dX12_toClean_25 : decode cX12_toClean 25 = .ok (.iload_n 3, 1) := by decide +kernel
theorem dX12_toClean_26 : decode cX12_toClean 26 = .ok (.invokevirtual 267, 3) := by decide +kernel
theorem dX12_toClean_29 : decode cX12_toClean 29 = .ok (.ifCond .eq 9, 3) := by decide +kernel
theorem dX12_toClean_32 : decode cX12_toClean 32 = .ok (.iconst 1, 1) := by decide +kernel
theorem dX12_toClean_33 : decode cX12_toClean 33 = .ok (.iload_n 3, 1) := by decide +kernel
theorem dX12_toClean_34 : decode cX12_toClean 34 = .ok (.ishl, 1) := by decide +kernel
theorem dX12_toClean_35 : decode cX12_toClean 35 = .ok (.goto 4, 3) := by decide +kernel
theorem dX12_toClean_38 : decode cX12_toClean 38 = .ok (.iconst 0, 1) := by decide +kernel
theorem dX12_toClean_39 : decode cX12_toClean 39 = .ok (.ior, 1) := by decide +kernel
theorem dX12_toClean_40 : decode cX12_toClean 40 = .ok (.istore_n 2, 1) := by decide +kernel
theorem dX12_toClean_41 : decode cX12_toClean 41 = .ok (.iinc 3 1, 3) := by decide +kernel
theorem dX12_toClean_44 : decode cX12_toClean 44 = .ok (.goto (-40), 3) := by decide +kernel
theorem dX12_toClean_47 : decode cX12_toClean 47 = .ok (.iload_n 2, 1) := by decide +kernel
theorem dX12_toClean_48 : decode cX12_toClean 48 = .ok (.ireturn, 1) := by decide +kernel
theorem dX12_bitsOf_0 : decode cX12_bitsOf 0 = .ok (.iconst 0, 1) := by decide +kernel
theorem dX12_bitsOf_1 : decode cX12_bitsOf 1 = .ok (.istore_n 1, 1) := by decide +kernel
theorem dX12_bitsOf_2 : decode cX12_bitsOf 2 = .ok (.iconst 0, 1) := by decide +kernel
theorem dX12_bitsOf_3 : decode cX12_bitsOf 3 = .ok (.istore_n 2, 1) := by decide +kernel
theorem dX12_bitsOf_4 : decode cX12_bitsOf 4 = .ok (.iload_n 2, 1) := by decide +kernel
theorem dX12_bitsOf_5 : decode cX12_bitsOf 5 = .ok (.bipush 31, 2) := by decide +kernel
theorem dX12_bitsOf_7 : decode cX12_bitsOf 7 = .ok (.if_icmp .ge 17, 3) := by decide +kernel
theorem dX12_bitsOf_10 : decode cX12_bitsOf 10 = .ok (.iload_n 1, 1) := by decide +kernel
theorem dX12_bitsOf_11 : decode cX12_bitsOf 11 = .ok (.iload_n 0, 1) := by decide +kernel
theorem dX12_bitsOf_12 : decode cX12_bitsOf 12 = .ok (.iload_n 2, 1) := by decide +kernel
theorem dX12_bitsOf_13 : decode cX12_bitsOf 13 = .ok (.ishr, 1) := by decide +kernel
theorem dX12_bitsOf_14 : decode cX12_bitsOf 14 = .ok (.iconst 1, 1) := by decide +kernel
theorem dX12_bitsOf_15 : decode cX12_bitsOf 15 = .ok (.iand, 1) := by decide +kernel
theorem dX12_bitsOf_16 : decode cX12_bitsOf 16 = .ok (.iadd, 1) := by decide +kernel
theorem dX12_bitsOf_17 : decode cX12_bitsOf 17 = .ok (.istore_n 1, 1) := by decide +kernel
theorem dX12_bitsOf_18 : decode cX12_bitsOf 18 = .ok (.iinc 2 1, 3) := by decide +kernel
theorem dX12_bitsOf_21 : decode cX12_bitsOf 21 = .ok (.goto (-17), 3) := by decide +kernel
theorem dX12_bitsOf_24 : decode cX12_bitsOf 24 = .ok (.iload_n 1, 1) := by decide +kernel
theorem dX12_bitsOf_25 : decode cX12_bitsOf 25 = .ok (.ireturn, 1) := by decide +kernel
theorem dX12_stops_0 : decode cX12_stops 0 = .ok (.aload_n 0, 1) := by decide +kernel
theorem dX12_stops_1 : decode cX12_stops 1 = .ok (.getfield 153, 3) := by decide +kernel
theorem dX12_stops_4 : decode cX12_stops 4 = .ok (.ifCond .ne 5, 3) := by decide +kernel
theorem dX12_stops_7 : decode cX12_stops 7 = .ok (.iconst 0, 1) := by decide +kernel
theorem dX12_stops_8 : decode cX12_stops 8 = .ok (.ireturn, 1) := by decide +kernel
theorem dX12_stops_9 : decode cX12_stops 9 = .ok (.iload_n 2, 1) := by decide +kernel
theorem dX12_stops_10 : decode cX12_stops 10 = .ok (.tableswitch 344 0 7 #[46, 72, 124, 165, 211, 229, 278, 330], 46) := by decide +kernel
theorem dX12_stops_56 : decode cX12_stops 56 = .ok (.aload_n 0, 1) := by decide +kernel
theorem dX12_stops_57 : decode cX12_stops 57 = .ok (.iload_n 3, 1) := by decide +kernel
theorem dX12_stops_58 : decode cX12_stops 58 = .ok (.invokevirtual 281, 3) := by decide +kernel
theorem dX12_stops_61 : decode cX12_stops 61 = .ok (.ifCond .ne 7, 3) := by decide +kernel
theorem dX12_stops_64 : decode cX12_stops 64 = .ok (.iconst 0, 1) := by decide +kernel
theorem dX12_stops_65 : decode cX12_stops 65 = .ok (.goto 16, 3) := by decide +kernel
theorem dX12_stops_68 : decode cX12_stops 68 = .ok (.iload 4, 2) := by decide +kernel
theorem dX12_stops_70 : decode cX12_stops 70 = .ok (.invokestatic 156, 3) := by decide +kernel
theorem dX12_stops_73 : decode cX12_stops 73 = .ok (.ifCond .eq 7, 3) := by decide +kernel
theorem dX12_stops_76 : decode cX12_stops 76 = .ok (.iconst (-1), 1) := by decide +kernel
theorem dX12_stops_77 : decode cX12_stops 77 = .ok (.goto 4, 3) := by decide +kernel
theorem dX12_stops_80 : decode cX12_stops 80 = .ok (.iconst 1, 1) := by decide +kernel
theorem dX12_stops_81 : decode cX12_stops 81 = .ok (.ireturn, 1) := by decide +kernel
theorem dX12_stops_82 : decode cX12_stops 82 = .ok (.aload_n 0, 1) := by decide +kernel
theorem dX12_stops_83 : decode cX12_stops 83 = .ok (.iload_n 3, 1) := by decide +kernel
theorem dX12_stops_84 : decode cX12_stops 84 = .ok (.invokevirtual 278, 3) := by decide +kernel
theorem dX12_stops_87 : decode cX12_stops 87 = .ok (.ifCond .ne 7, 3) := by decide +kernel
theorem dX12_stops_90 : decode cX12_stops 90 = .ok (.iconst 0, 1) := by decide +kernel
theorem dX12_stops_91 : decode cX12_stops 91 = .ok (.goto 42, 3) := by decide +kernel
theorem dX12_stops_94 : decode cX12_stops 94 = .ok (.aload_n 1, 1) := by decide +kernel
theorem dX12_stops_95 : decode cX12_stops 95 = .ok (.sipush 384, 3) := by decide +kernel
theorem dX12_stops_98 : decode cX12_stops 98 = .ok (.iload_n 3, 1) := by decide +kernel
theorem dX12_stops_99 : decode cX12_stops 99 = .ok (.iadd, 1) := by decide +kernel
theorem dX12_stops_100 : decode cX12_stops 100 = .ok (.iaload, 1) := by decide +kernel
theorem dX12_stops_101 : decode cX12_stops 101 = .ok (.iconst 1, 1) := by decide +kernel
theorem dX12_stops_102 : decode cX12_stops 102 = .ok (.if_icmp .ne 7, 3) := by decide +kernel
theorem dX12_stops_105 : decode cX12_stops 105 = .ok (.iconst 2, 1) := by decide +kernel
theorem dX12_stops_106 : decode cX12_stops 106 = .ok (.goto 27, 3) := by decide +kernel
theorem dX12_stops_109 : decode cX12_stops 109 = .ok (.aload_n 1, 1) := by decide +kernel
theorem dX12_stops_110 : decode cX12_stops 110 = .ok (.sipush 384, 3) := by decide +kernel
theorem dX12_stops_113 : decode cX12_stops 113 = .ok (.iload_n 3, 1) := by decide +kernel
theorem dX12_stops_114 : decode cX12_stops 114 = .ok (.iadd, 1) := by decide +kernel
theorem dX12_stops_115 : decode cX12_stops 115 = .ok (.iaload, 1) := by decide +kernel
theorem dX12_stops_116 : decode cX12_stops 116 = .ok (.ifCond .ne 16, 3) := by decide +kernel
theorem dX12_stops_119 : decode cX12_stops 119 = .ok (.aload_n 0, 1) := by decide +kernel
theorem dX12_stops_120 : decode cX12_stops 120 = .ok (.aload_n 1, 1) := by decide +kernel
theorem dX12_stops_121 : decode cX12_stops 121 = .ok (.invokevirtual 284, 3) := by decide +kernel
theorem dX12_stops_124 : decode cX12_stops 124 = .ok (.iconst 1, 1) := by decide +kernel
theorem dX12_stops_125 : decode cX12_stops 125 = .ok (.if_icmp .le 7, 3) := by decide +kernel
theorem dX12_stops_128 : decode cX12_stops 128 = .ok (.iconst 3, 1) := by decide +kernel
theorem dX12_stops_129 : decode cX12_stops 129 = .ok (.goto 4, 3) := by decide +kernel
theorem dX12_stops_132 : decode cX12_stops 132 = .ok (.iconst (-1), 1) := by decide +kernel
theorem dX12_stops_133 : decode cX12_stops 133 = .ok (.ireturn, 1) := by decide +kernel
theorem dX12_stops_134 : decode cX12_stops 134 = .ok (.aload_n 0, 1) := by decide +kernel
theorem dX12_stops_135 : decode cX12_stops 135 = .ok (.iload_n 3, 1) := by decide +kernel
theorem dX12_stops_136 : decode cX12_stops 136 = .ok (.invokevirtual 278, 3) := by decide +kernel
theorem dX12_stops_139 : decode cX12_stops 139 = .ok (.ifCond .ne 7, 3) := by decide +kernel
theorem dX12_stops_142 : decode cX12_stops 142 = .ok (.iconst 0, 1) := by decide +kernel
theorem dX12_stops_143 : decode cX12_stops 143 = .ok (.goto 31, 3) := by decide +kernel
theorem dX12_stops_146 : decode cX12_stops 146 = .ok (.aload_n 1, 1) := by decide +kernel
theorem dX12_stops_147 : decode cX12_stops 147 = .ok (.sipush 384, 3) := by decide +kernel
theorem dX12_stops_150 : decode cX12_stops 150 = .ok (.iload_n 3, 1) := by decide +kernel
theorem dX12_stops_151 : decode cX12_stops 151 = .ok (.iadd, 1) := by decide +kernel
theorem dX12_stops_152 : decode cX12_stops 152 = .ok (.iaload, 1) := by decide +kernel
theorem dX12_stops_153 : decode cX12_stops 153 = .ok (.iconst 1, 1) := by decide +kernel
theorem dX12_stops_154 : decode cX12_stops 154 = .ok (.if_icmp .eq 7, 3) := by decide +kernel
theorem dX12_stops_157 : decode cX12_stops 157 = .ok (.iconst 2, 1) := by decide +kernel
theorem dX12_stops_158 : decode cX12_stops 158 = .ok (.goto 16, 3) := by decide +kernel
theorem dX12_stops_161 : decode cX12_stops 161 = .ok (.aload_n 1, 1) := by decide +kernel
theorem dX12_stops_162 : decode cX12_stops 162 = .ok (.sipush 424, 3) := by decide +kernel
theorem dX12_stops_165 : decode cX12_stops 165 = .ok (.iaload, 1) := by decide +kernel
theorem dX12_stops_166 : decode cX12_stops 166 = .ok (.ifCond .ne 7, 3) := by decide +kernel
theorem dX12_stops_169 : decode cX12_stops 169 = .ok (.iconst 3, 1) := by decide +kernel
theorem dX12_stops_170 : decode cX12_stops 170 = .ok (.goto 4, 3) := by decide +kernel
theorem dX12_stops_173 : decode cX12_stops 173 = .ok (.iconst (-1), 1) := by decide +kernel
theorem dX12_stops_174 : decode cX12_stops 174 = .ok (.ireturn, 1) := by decide +kernel
theorem dX12_stops_175 : decode cX12_stops 175 = .ok (.aload_n 0, 1) := by decide +kernel
theorem dX12_stops_176 : decode cX12_stops 176 = .ok (.iload_n 3, 1) := by decide +kernel
theorem dX12_stops_177 : decode cX12_stops 177 = .ok (.invokevirtual 278, 3) := by decide +kernel
theorem dX12_stops_180 : decode cX12_stops 180 = .ok (.ifCond .ne 7, 3) := by decide +kernel
theorem dX12_stops_183 : decode cX12_stops 183 = .ok (.iconst 0, 1) := by decide +kernel
theorem dX12_stops_184 : decode cX12_stops 184 = .ok (.goto 36, 3) := by decide +kernel
theorem dX12_stops_187 : decode cX12_stops 187 = .ok (.iload 4, 2) := by decide +kernel
theorem dX12_stops_189 : decode cX12_stops 189 = .ok (.i2l, 1) := by decide +kernel
theorem dX12_stops_190 : decode cX12_stops 190 = .ok (.lconst 1, 1) := by decide +kernel
theorem dX12_stops_191 : decode cX12_stops 191 = .ok (.ldc2_w 288, 3) := by decide +kernel
theorem dX12_stops_194 : decode cX12_stops 194 = .ok (.invokestatic 117, 3) := by decide +kernel
theorem dX12_stops_197 : decode cX12_stops 197 = .ok (.ifCond .ne 7, 3) := by decide +kernel
theorem dX12_stops_200 : decode cX12_stops 200 = .ok (.iconst 1, 1) := by decide +kernel
theorem dX12_stops_201 : decode cX12_stops 201 = .ok (.goto 19, 3) := by decide +kernel
theorem dX12_stops_204 : decode cX12_stops 204 = .ok (.aload_n 1, 1) := by decide +kernel
theorem dX12_stops_205 : decode cX12_stops 205 = .ok (.sipush 384, 3) := by decide +kernel
theorem dX12_stops_208 : decode cX12_stops 208 = .ok (.iload_n 3, 1) := by decide +kernel
theorem dX12_stops_209 : decode cX12_stops 209 = .ok (.iadd, 1) := by decide +kernel
theorem dX12_stops_210 : decode cX12_stops 210 = .ok (.iaload, 1) := by decide +kernel
theorem dX12_stops_211 : decode cX12_stops 211 = .ok (.iconst 2, 1) := by decide +kernel
theorem dX12_stops_212 : decode cX12_stops 212 = .ok (.if_icmp .eq 7, 3) := by decide +kernel
theorem dX12_stops_215 : decode cX12_stops 215 = .ok (.iconst 2, 1) := by decide +kernel
theorem dX12_stops_216 : decode cX12_stops 216 = .ok (.goto 4, 3) := by decide +kernel
theorem dX12_stops_219 : decode cX12_stops 219 = .ok (.iconst (-1), 1) := by decide +kernel
theorem dX12_stops_220 : decode cX12_stops 220 = .ok (.ireturn, 1) := by decide +kernel
theorem dX12_stops_221 : decode cX12_stops 221 = .ok (.iload_n 3, 1) := by decide +kernel
theorem dX12_stops_222 : decode cX12_stops 222 = .ok (.i2l, 1) := by decide +kernel
theorem dX12_stops_223 : decode cX12_stops 223 = .ok (.lconst 1, 1) := by decide +kernel
theorem dX12_stops_224 : decode cX12_stops 224 = .ok (.ldc2_w 288, 3) := by decide +kernel
theorem dX12_stops_227 : decode cX12_stops 227 = .ok (.invokestatic 117, 3) := by decide +kernel
theorem dX12_stops_230 : decode cX12_stops 230 = .ok (.ifCond .eq 7, 3) := by decide +kernel
theorem dX12_stops_233 : decode cX12_stops 233 = .ok (.iconst (-1), 1) := by decide +kernel
theorem dX12_stops_234 : decode cX12_stops 234 = .ok (.goto 4, 3) := by decide +kernel
theorem dX12_stops_237 : decode cX12_stops 237 = .ok (.iconst 1, 1) := by decide +kernel
theorem dX12_stops_238 : decode cX12_stops 238 = .ok (.ireturn, 1) := by decide +kernel
theorem dX12_stops_239 : decode cX12_stops 239 = .ok (.aload_n 0, 1) := by decide +kernel
theorem dX12_stops_240 : decode cX12_stops 240 = .ok (.iload_n 3, 1) := by decide +kernel
theorem dX12_stops_241 : decode cX12_stops 241 = .ok (.iload 4, 2) := by decide +kernel
theorem dX12_stops_243 : decode cX12_stops 243 = .ok (.iload 5, 2) := by decide +kernel
theorem dX12_stops_245 : decode cX12_stops 245 = .ok (.invokevirtual 290, 3) := by decide +kernel
theorem dX12_stops_248 : decode cX12_stops 248 = .ok (.ifCond .ne 7, 3) := by decide +kernel
theorem dX12_stops_251 : decode cX12_stops 251 = .ok (.iconst 0, 1) := by decide +kernel
theorem dX12_stops_252 : decode cX12_stops 252 = .ok (.goto 35, 3) := by decide +kernel
theorem dX12_stops_255 : decode cX12_stops 255 = .ok (.iload 6, 2) := by decide +kernel
theorem dX12_stops_257 : decode cX12_stops 257 = .ok (.i2l, 1) := by decide +kernel
theorem dX12_stops_258 : decode cX12_stops 258 = .ok (.lconst 1, 1) := by decide +kernel
theorem dX12_stops_259 : decode cX12_stops 259 = .ok (.ldc2_w 169, 3) := by decide +kernel
theorem dX12_stops_262 : decode cX12_stops 262 = .ok (.invokestatic 117, 3) := by decide +kernel
theorem dX12_stops_265 : decode cX12_stops 265 = .ok (.ifCond .ne 7, 3) := by decide +kernel
theorem dX12_stops_268 : decode cX12_stops 268 = .ok (.iconst 1, 1) := by decide +kernel
theorem dX12_stops_269 : decode cX12_stops 269 = .ok (.goto 18, 3) := by decide +kernel
theorem dX12_stops_272 : decode cX12_stops 272 = .ok (.aload_n 1, 1) := by decide +kernel
theorem dX12_stops_273 : decode cX12_stops 273 = .ok (.iload_n 3, 1) := by decide +kernel
theorem dX12_stops_274 : decode cX12_stops 274 = .ok (.iload 4, 2) := by decide +kernel
theorem dX12_stops_276 : decode cX12_stops 276 = .ok (.invokestatic 202, 3) := by decide +kernel
theorem dX12_stops_279 : decode cX12_stops 279 = .ok (.ifCond .eq 7, 3) := by decide +kernel
theorem dX12_stops_282 : decode cX12_stops 282 = .ok (.iconst (-1), 1) := by decide +kernel
theorem dX12_stops_283 : decode cX12_stops 283 = .ok (.goto 4, 3) := by decide +kernel
theorem dX12_stops_286 : decode cX12_stops 286 = .ok (.iconst 2, 1) := by decide +kernel
theorem dX12_stops_287 : decode cX12_stops 287 = .ok (.ireturn, 1) := by decide +kernel
theorem dX12_stops_288 : decode cX12_stops 288 = .ok (.aload_n 0, 1) := by decide +kernel
theorem dX12_stops_289 : decode cX12_stops 289 = .ok (.iload_n 3, 1) := by decide +kernel
theorem dX12_stops_290 : decode cX12_stops 290 = .ok (.invokevirtual 281, 3) := by decide +kernel
theorem dX12_stops_293 : decode cX12_stops 293 = .ok (.ifCond .ne 7, 3) := by decide +kernel
theorem dX12_stops_296 : decode cX12_stops 296 = .ok (.iconst 0, 1) := by decide +kernel
theorem dX12_stops_297 : decode cX12_stops 297 = .ok (.goto 42, 3) := by decide +kernel
theorem dX12_stops_300 : decode cX12_stops 300 = .ok (.iload 4, 2) := by decide +kernel
theorem dX12_stops_302 : decode cX12_stops 302 = .ok (.invokestatic 156, 3) := by decide +kernel
theorem dX12_stops_305 : decode cX12_stops 305 = .ok (.ifCond .eq 16, 3) := by decide +kernel
theorem dX12_stops_308 : decode cX12_stops 308 = .ok (.iload 5, 2) := by decide +kernel
theorem dX12_stops_310 : decode cX12_stops 310 = .ok (.i2l, 1) := by decide +kernel
theorem dX12_stops_311 : decode cX12_stops 311 = .ok (.lconst 0, 1) := by decide +kernel
theorem dX12_stops_312 : decode cX12_stops 312 = .ok (.ldc2_w 294, 3) := by decide +kernel
theorem dX12_stops_315 : decode cX12_stops 315 = .ok (.invokestatic 117, 3) := by decide +kernel
theorem dX12_stops_318 : decode cX12_stops 318 = .ok (.ifCond .ne 7, 3) := by decide +kernel
theorem dX12_stops_321 : decode cX12_stops 321 = .ok (.iconst 1, 1) := by decide +kernel
theorem dX12_stops_322 : decode cX12_stops 322 = .ok (.goto 17, 3) := by decide +kernel
theorem dX12_stops_325 : decode cX12_stops 325 = .ok (.aload_n 0, 1) := by decide +kernel
theorem dX12_stops_326 : decode cX12_stops 326 = .ok (.aload_n 1, 1) := by decide +kernel
theorem dX12_stops_327 : decode cX12_stops 327 = .ok (.iload_n 3, 1) := by decide +kernel
theorem dX12_stops_328 : decode cX12_stops 328 = .ok (.invokevirtual 296, 3) := by decide +kernel
theorem dX12_stops_331 : decode cX12_stops 331 = .ok (.ifCond .eq 7, 3) := by decide +kernel
theorem dX12_stops_334 : decode cX12_stops 334 = .ok (.iconst (-1), 1) := by decide +kernel
theorem dX12_stops_335 : decode cX12_stops 335 = .ok (.goto 4, 3) := by decide +kernel
theorem dX12_stops_338 : decode cX12_stops 338 = .ok (.iconst 2, 1) := by decide +kernel
theorem dX12_stops_339 : decode cX12_stops 339 = .ok (.ireturn, 1) := by decide +kernel
theorem dX12_stops_340 : decode cX12_stops 340 = .ok (.aload_n 0, 1) := by decide +kernel
theorem dX12_stops_341 : decode cX12_stops 341 = .ok (.aload_n 1, 1) := by decide +kernel
theorem dX12_stops_342 : decode cX12_stops 342 = .ok (.invokevirtual 299, 3) := by decide +kernel
theorem dX12_stops_345 : decode cX12_stops 345 = .ok (.ifCond .ne 7, 3) := by decide +kernel
theorem dX12_stops_348 : decode cX12_stops 348 = .ok (.iconst 2, 1) := by decide +kernel
theorem dX12_stops_349 : decode cX12_stops 349 = .ok (.goto 4, 3) := by decide +kernel
theorem dX12_stops_352 : decode cX12_stops 352 = .ok (.iconst (-1), 1) := by decide +kernel
theorem dX12_stops_353 : decode cX12_stops 353 = .ok (.ireturn, 1) := by decide +kernel
theorem dX12_stops_354 : decode cX12_stops 354 = .ok (.aload_n 0, 1) := by decide +kernel
theorem dX12_stops_355 : decode cX12_stops 355 = .ok (.iconst 0, 1) := by decide +kernel
theorem dX12_stops_356 : decode cX12_stops 356 = .ok (.iload_n 3, 1) := by decide +kernel
theorem dX12_stops_357 : decode cX12_stops 357 = .ok (.iload 4, 2) := by decide +kernel
theorem dX12_stops_359 : decode cX12_stops 359 = .ok (.invokevirtual 290, 3) := by decide +kernel
theorem dX12_stops_362 : decode cX12_stops 362 = .ok (.ifCond .ne 7, 3) := by decide +kernel
theorem dX12_stops_365 : decode cX12_stops 365 = .ok (.iconst 0, 1) := by decide +kernel
theorem dX12_stops_366 : decode cX12_stops 366 = .ok (.goto 24, 3) := by decide +kernel
theorem dX12_stops_369 : decode cX12_stops 369 = .ok (.iload 5, 2) := by decide +kernel
theorem dX12_stops_371 : decode cX12_stops 371 = .ok (.invokestatic 156, 3) := by decide +kernel
theorem dX12_stops_374 : decode cX12_stops 374 = .ok (.ifCond .eq 11, 3) := by decide +kernel
theorem dX12_stops_377 : decode cX12_stops 377 = .ok (.iload 6, 2) := by decide +kernel
theorem dX12_stops_379 : decode cX12_stops 379 = .ok (.invokestatic 156, 3) := by decide +kernel
theorem dX12_stops_382 : decode cX12_stops 382 = .ok (.ifCond .ne 7, 3) := by decide +kernel
theorem dX12_stops_385 : decode cX12_stops 385 = .ok (.iconst 1, 1) := by decide +kernel
theorem dX12_stops_386 : decode cX12_stops 386 = .ok (.goto 4, 3) := by decide +kernel
theorem dX12_stops_389 : decode cX12_stops 389 = .ok (.iconst (-1), 1) := by decide +kernel
theorem dX12_stops_390 : decode cX12_stops 390 = .ok (.ireturn, 1) := by decide +kernel
