theorem dX0_start_0 : decode cX0_start 0 = .ok (.aload_n 0, 1) := by decide +kernel
theorem dX0_start_1 : decode cX0_start 1 = .ok (.lload_n 1, 1) := by decide +kernel
theorem dX0_start_2 : decode cX0_start 2 = .ok (.putfield 15, 3) := by decide +kernel
theorem dX0_start_5 : decode cX0_start 5 = .ok (.return_, 1) := by decide +kernel
theorem dX0_number_0 : decode cX0_number 0 = .ok (.iload_n 1, 1) := by decide +kernel
theorem dX0_number_1 : decode cX0_number 1 = .ok (.ifCond .lt 21, 3) := by decide +kernel
theorem dX0_number_4 : decode cX0_number 4 = .ok (.iload_n 1, 1) := by decide +kernel
theorem dX0_number_5 : decode cX0_number 5 = .ok (.aload_n 0, 1) := by decide +kernel
theorem dX0_number_6 : decode cX0_number 6 = .ok (.getfield 9, 3) := by decide +kernel
theorem dX0_number_9 : decode cX0_number 9 = .ok (.arraylength, 1) := by decide +kernel
theorem dX0_number_10 : decode cX0_number 10 = .ok (.if_icmp .ge 12, 3) := by decide +kernel
theorem dX0_number_13 : decode cX0_number 13 = .ok (.aload_n 0, 1) := by decide +kernel
theorem dX0_number_14 : decode cX0_number 14 = .ok (.getfield 9, 3) := by decide +kernel
theorem dX0_number_17 : decode cX0_number 17 = .ok (.iload_n 1, 1) := by decide +kernel
theorem dX0_number_18 : decode cX0_number 18 = .ok (.iaload, 1) := by decide +kernel
theorem dX0_number_19 : decode cX0_number 19 = .ok (.goto 4, 3) := by decide +kernel
theorem dX0_number_22 : decode cX0_number 22 = .ok (.iconst 0, 1) := by decide +kernel
theorem dX0_number_23 : decode cX0_number 23 = .ok (.ireturn, 1) := by decide +kernel
theorem dX0_draw_0 : decode cX0_draw 0 = .ok (.aload_n 0, 1) := by decide +kernel
theorem dX0_draw_1 : decode cX0_draw 1 = .ok (.aload_n 0, 1) := by decide +kernel
theorem dX0_draw_2 : decode cX0_draw 2 = .ok (.getfield 15, 3) := by decide +kernel
theorem dX0_draw_5 : decode cX0_draw 5 = .ok (.ldc2_w 19, 3) := by decide +kernel
theorem dX0_draw_8 : decode cX0_draw 8 = .ok (.lmul, 1) := by decide +kernel
theorem dX0_draw_9 : decode cX0_draw 9 = .ok (.ldc2_w 21, 3) := by decide +kernel
theorem dX0_draw_12 : decode cX0_draw 12 = .ok (.ladd, 1) := by decide +kernel
theorem dX0_draw_13 : decode cX0_draw 13 = .ok (.putfield 15, 3) := by decide +kernel
theorem dX0_draw_16 : decode cX0_draw 16 = .ok (.iload_n 1, 1) := by decide +kernel
theorem dX0_draw_17 : decode cX0_draw 17 = .ok (.iconst 1, 1) := by decide +kernel
theorem dX0_draw_18 : decode cX0_draw 18 = .ok (.if_icmp .ge 7, 3) := by decide +kernel
theorem dX0_draw_21 : decode cX0_draw 21 = .ok (.iconst 0, 1) := by decide +kernel
theorem dX0_draw_22 : decode cX0_draw 22 = .ok (.goto 14, 3) := by decide +kernel
theorem dX0_draw_25 : decode cX0_draw 25 = .ok (.aload_n 0, 1) := by decide +kernel
theorem dX0_draw_26 : decode cX0_draw 26 = .ok (.getfield 15, 3) := by decide +kernel
theorem dX0_draw_29 : decode cX0_draw 29 = .ok (.bipush 33, 2) := by decide +kernel
theorem dX0_draw_31 : decode cX0_draw 31 = .ok (.lushr, 1) := by decide +kernel
theorem dX0_draw_32 : decode cX0_draw 32 = .ok (.iload_n 1, 1) := by decide +kernel
theorem dX0_draw_33 : decode cX0_draw 33 = .ok (.i2l, 1) := by decide +kernel
theorem dX0_draw_34 : decode cX0_draw 34 = .ok (.lrem, 1) := by decide +kernel
theorem dX0_draw_35 : decode cX0_draw 35 = .ok (.l2i, 1) := by decide +kernel
theorem dX0_draw_36 : decode cX0_draw 36 = .ok (.ireturn, 1) := by decide +kernel
theorem dX6_addresses_0 : decode cX6_addresses 0 = .ok (.aload_n 0, 1) := by decide +kernel
theorem dX6_addresses_1 : decode cX6_addresses 1 = .ok (.getfield 7, 3) := by decide +kernel
theorem dX6_addresses_4 : decode cX6_addresses 4 = .ok (.aload_n 0, 1) := by decide +kernel
theorem dX6_addresses_5 : decode cX6_addresses 5 = .ok (.getfield 13, 3) := by decide +kernel
theorem dX6_addresses_8 : decode cX6_addresses 8 = .ok (.imul, 1) := by decide +kernel
theorem dX6_addresses_9 : decode cX6_addresses 9 = .ok (.aload_n 0, 1) := by decide +kernel
theorem dX6_addresses_10 : decode cX6_addresses 10 = .ok (.getfield 16, 3) := by decide +kernel
theorem dX6_addresses_13 : decode cX6_addresses 13 = .ok (.imul, 1) := by decide +kernel
theorem dX6_addresses_14 : decode cX6_addresses 14 = .ok (.ireturn, 1) := by decide +kernel
theorem dX0_year_0 : decode cX0_year 0 = .ok (.aload_n 0, 1) := by decide +kernel
theorem dX0_year_1 : decode cX0_year 1 = .ok (.bipush 12, 2) := by decide +kernel
theorem dX0_year_3 : decode cX0_year 3 = .ok (.invokevirtual 23, 3) := by decide +kernel
theorem dX0_year_6 : decode cX0_year 6 = .ok (.tableswitch 224 5 11 #[42, 58, 74, 74, 106, 124, 183], 42) := by decide +kernel
theorem dX0_year_48 : decode cX0_year 48 = .ok (.aload_n 0, 1) := by decide +kernel
theorem dX0_year_49 : decode cX0_year 49 = .ok (.getfield 9, 3) := by decide +kernel
theorem dX0_year_52 : decode cX0_year 52 = .ok (.iconst 0, 1) := by decide +kernel
theorem dX0_year_53 : decode cX0_year 53 = .ok (.aload_n 0, 1) := by decide +kernel
theorem dX0_year_54 : decode cX0_year 54 = .ok (.aload_n 1, 1) := by decide +kernel
theorem dX0_year_55 : decode cX0_year 55 = .ok (.getfield 27, 3) := by decide +kernel
theorem dX0_year_58 : decode cX0_year 58 = .ok (.invokevirtual 23, 3) := by decide +kernel
theorem dX0_year_61 : decode cX0_year 61 = .ok (.iastore, 1) := by decide +kernel
theorem dX0_year_62 : decode cX0_year 62 = .ok (.iconst 1, 1) := by decide +kernel
theorem dX0_year_63 : decode cX0_year 63 = .ok (.ireturn, 1) := by decide +kernel
theorem dX0_year_64 : decode cX0_year 64 = .ok (.aload_n 0, 1) := by decide +kernel
theorem dX0_year_65 : decode cX0_year 65 = .ok (.getfield 9, 3) := by decide +kernel
theorem dX0_year_68 : decode cX0_year 68 = .ok (.iconst 0, 1) := by decide +kernel
theorem dX0_year_69 : decode cX0_year 69 = .ok (.aload_n 0, 1) := by decide +kernel
theorem dX0_year_70 : decode cX0_year 70 = .ok (.aload_n 1, 1) := by decide +kernel
theorem dX0_year_71 : decode cX0_year 71 = .ok (.getfield 27, 3) := by decide +kernel
theorem dX0_year_74 : decode cX0_year 74 = .ok (.invokevirtual 23, 3) := by decide +kernel
theorem dX0_year_77 : decode cX0_year 77 = .ok (.iastore, 1) := by decide +kernel
theorem dX0_year_78 : decode cX0_year 78 = .ok (.iconst 2, 1) := by decide +kernel
theorem dX0_year_79 : decode cX0_year 79 = .ok (.ireturn, 1) := by decide +kernel
theorem dX0_year_80 : decode cX0_year 80 = .ok (.aload_n 0, 1) := by decide +kernel
theorem dX0_year_81 : decode cX0_year 81 = .ok (.getfield 9, 3) := by decide +kernel
theorem dX0_year_84 : decode cX0_year 84 = .ok (.iconst 0, 1) := by decide +kernel
theorem dX0_year_85 : decode cX0_year 85 = .ok (.aload_n 0, 1) := by decide +kernel
theorem dX0_year_86 : decode cX0_year 86 = .ok (.aload_n 1, 1) := by decide +kernel
theorem dX0_year_87 : decode cX0_year 87 = .ok (.getfield 27, 3) := by decide +kernel
theorem dX0_year_90 : decode cX0_year 90 = .ok (.invokevirtual 23, 3) := by decide +kernel
theorem dX0_year_93 : decode cX0_year 93 = .ok (.iastore, 1) := by decide +kernel
theorem dX0_year_94 : decode cX0_year 94 = .ok (.aload_n 0, 1) := by decide +kernel
theorem dX0_year_95 : decode cX0_year 95 = .ok (.getfield 9, 3) := by decide +kernel
theorem dX0_year_98 : decode cX0_year 98 = .ok (.iconst 1, 1) := by decide +kernel
theorem dX0_year_99 : decode cX0_year 99 = .ok (.aload_n 0, 1) := by decide +kernel
theorem dX0_year_100 : decode cX0_year 100 = .ok (.aload_n 1, 1) := by decide +kernel
theorem dX0_year_101 : decode cX0_year 101 = .ok (.getfield 33, 3) := by decide +kernel
theorem dX0_year_104 : decode cX0_year 104 = .ok (.invokevirtual 23, 3) := by decide +kernel
theorem dX0_year_107 : decode cX0_year 107 = .ok (.iconst 1, 1) := by decide +kernel
theorem dX0_year_108 : decode cX0_year 108 = .ok (.iadd, 1) := by decide +kernel
theorem dX0_year_109 : decode cX0_year 109 = .ok (.iastore, 1) := by decide +kernel
theorem dX0_year_110 : decode cX0_year 110 = .ok (.iconst 3, 1) := by decide +kernel
theorem dX0_year_111 : decode cX0_year 111 = .ok (.ireturn, 1) := by decide +kernel
theorem dX0_year_112 : decode cX0_year 112 = .ok (.aload_n 0, 1) := by decide +kernel
theorem dX0_year_113 : decode cX0_year 113 = .ok (.getfield 9, 3) := by decide +kernel
theorem dX0_year_116 : decode cX0_year 116 = .ok (.iconst 0, 1) := by decide +kernel
theorem dX0_year_117 : decode cX0_year 117 = .ok (.aload_n 0, 1) := by decide +kernel
theorem dX0_year_118 : decode cX0_year 118 = .ok (.aload_n 1, 1) := by decide +kernel
theorem dX0_year_119 : decode cX0_year 119 = .ok (.getfield 33, 3) := by decide +kernel
theorem dX0_year_122 : decode cX0_year 122 = .ok (.invokevirtual 23, 3) := by decide +kernel
theorem dX0_year_125 : decode cX0_year 125 = .ok (.iconst 1, 1) := by decide +kernel
theorem dX0_year_126 : decode cX0_year 126 = .ok (.iadd, 1) := by decide +kernel
theorem dX0_year_127 : decode cX0_year 127 = .ok (.iastore, 1) := by decide +kernel
theorem dX0_year_128 : decode cX0_year 128 = .ok (.iconst 4, 1) := by decide +kernel
theorem dX0_year_129 : decode cX0_year 129 = .ok (.ireturn, 1) := by decide +kernel
theorem dX0_year_130 : decode cX0_year 130 = .ok (.aload_n 0, 1) := by decide +kernel
theorem dX0_year_131 : decode cX0_year 131 = .ok (.getfield 9, 3) := by decide +kernel
theorem dX0_year_134 : decode cX0_year 134 = .ok (.iconst 0, 1) := by decide +kernel
theorem dX0_year_135 : decode cX0_year 135 = .ok (.aload_n 0, 1) := by decide +kernel
theorem dX0_year_136 : decode cX0_year 136 = .ok (.aload_n 1, 1) := by decide +kernel
theorem dX0_year_137 : decode cX0_year 137 = .ok (.getfield 27, 3) := by decide +kernel
theorem dX0_year_140 : decode cX0_year 140 = .ok (.invokevirtual 23, 3) := by decide +kernel
theorem dX0_year_143 : decode cX0_year 143 = .ok (.iastore, 1) := by decide +kernel
theorem dX0_year_144 : decode cX0_year 144 = .ok (.aload_n 0, 1) := by decide +kernel
theorem dX0_year_145 : decode cX0_year 145 = .ok (.getfield 9, 3) := by decide +kernel
theorem dX0_year_148 : decode cX0_year 148 = .ok (.iconst 1, 1) := by decide +kernel
theorem dX0_year_149 : decode cX0_year 149 = .ok (.aload_n 0, 1) := by decide +kernel
theorem dX0_year_150 : decode cX0_year 150 = .ok (.aload_n 1, 1) := by decide +kernel
theorem dX0_year_151 : decode cX0_year 151 = .ok (.getfield 33, 3) := by decide +kernel
theorem dX0_year_154 : decode cX0_year 154 = .ok (.invokevirtual 23, 3) := by decide +kernel
theorem dX0_year_157 : decode cX0_year 157 = .ok (.iastore, 1) := by decide +kernel
theorem dX0_year_158 : decode cX0_year 158 = .ok (.aload_n 0, 1) := by decide +kernel
theorem dX0_year_159 : decode cX0_year 159 = .ok (.getfield 9, 3) := by decide +kernel
theorem dX0_year_162 : decode cX0_year 162 = .ok (.iconst 2, 1) := by decide +kernel
theorem dX0_year_163 : decode cX0_year 163 = .ok (.aload_n 0, 1) := by decide +kernel
theorem dX0_year_164 : decode cX0_year 164 = .ok (.aload_n 1, 1) := by decide +kernel
theorem dX0_year_165 : decode cX0_year 165 = .ok (.getfield 36, 3) := by decide +kernel
theorem dX0_year_168 : decode cX0_year 168 = .ok (.invokevirtual 23, 3) := by decide +kernel
theorem dX0_year_171 : decode cX0_year 171 = .ok (.iastore, 1) := by decide +kernel
theorem dX0_year_172 : decode cX0_year 172 = .ok (.aload_n 0, 1) := by decide +kernel
theorem dX0_year_173 : decode cX0_year 173 = .ok (.getfield 9, 3) := by decide +kernel
theorem dX0_year_176 : decode cX0_year 176 = .ok (.iconst 3, 1) := by decide +kernel
theorem dX0_year_177 : decode cX0_year 177 = .ok (.aload_n 0, 1) := by decide +kernel
theorem dX0_year_178 : decode cX0_year 178 = .ok (.sipush 255, 3) := by decide +kernel
theorem dX0_year_181 : decode cX0_year 181 = .ok (.invokevirtual 23, 3) := by decide +kernel
theorem dX0_year_184 : decode cX0_year 184 = .ok (.iconst 1, 1) := by decide +kernel
theorem dX0_year_185 : decode cX0_year 185 = .ok (.iadd, 1) := by decide +kernel
theorem dX0_year_186 : decode cX0_year 186 = .ok (.iastore, 1) := by decide +kernel
theorem dX0_year_187 : decode cX0_year 187 = .ok (.iconst 5, 1) := by decide +kernel
theorem dX0_year_188 : decode cX0_year 188 = .ok (.ireturn, 1) := by decide +kernel
theorem dX0_year_189 : decode cX0_year 189 = .ok (.aload_n 0, 1) := by decide +kernel
theorem dX0_year_190 : decode cX0_year 190 = .ok (.getfield 9, 3) := by decide +kernel
theorem dX0_year_193 : decode cX0_year 193 = .ok (.iconst 0, 1) := by decide +kernel
theorem dX0_year_194 : decode cX0_year 194 = .ok (.aload_n 0, 1) := by decide +kernel
theorem dX0_year_195 : decode cX0_year 195 = .ok (.aload_n 1, 1) := by decide +kernel
theorem dX0_year_196 : decode cX0_year 196 = .ok (.invokevirtual 39, 3) := by decide +kernel
theorem dX0_year_199 : decode cX0_year 199 = .ok (.invokevirtual 23, 3) := by decide +kernel
theorem dX0_year_202 : decode cX0_year 202 = .ok (.iastore, 1) := by decide +kernel
theorem dX0_year_203 : decode cX0_year 203 = .ok (.aload_n 0, 1) := by decide +kernel
theorem dX0_year_204 : decode cX0_year 204 = .ok (.getfield 9, 3) := by decide +kernel
theorem dX0_year_207 : decode cX0_year 207 = .ok (.iconst 1, 1) := by decide +kernel
theorem dX0_year_208 : decode cX0_year 208 = .ok (.aload_n 0, 1) := by decide +kernel
theorem dX0_year_209 : decode cX0_year 209 = .ok (.sipush 256, 3) := by decide +kernel
theorem dX0_year_212 : decode cX0_year 212 = .ok (.invokevirtual 23, 3) := by decide +kernel
theorem dX0_year_215 : decode cX0_year 215 = .ok (.iastore, 1) := by decide +kernel
theorem dX0_year_216 : decode cX0_year 216 = .ok (.aload_n 0, 1) := by decide +kernel
theorem dX0_year_217 : decode cX0_year 217 = .ok (.getfield 9, 3) := by decide +kernel
theorem dX0_year_220 : decode cX0_year 220 = .ok (.iconst 2, 1) := by decide +kernel
theorem dX0_year_221 : decode cX0_year 221 = .ok (.aload_n 0, 1) := by decide +kernel
theorem dX0_year_222 : decode cX0_year 222 = .ok (.iconst 3, 1) := by decide +kernel
theorem dX0_year_223 : decode cX0_year 223 = .ok (.invokevirtual 23, 3) := by decide +kernel
theorem dX0_year_226 : decode cX0_year 226 = .ok (.iastore, 1) := by decide +kernel
theorem dX0_year_227 : decode cX0_year 227 = .ok (.bipush 6, 2) := by decide +kernel
theorem dX0_year_229 : decode cX0_year 229 = .ok (.ireturn, 1) := by decide +kernel
theorem dX0_year_230 : decode cX0_year 230 = .ok (.aload_n 0, 1) := by decide +kernel
theorem dX0_year_231 : decode cX0_year 231 = .ok (.getfield 9, 3) := by decide +kernel
theorem dX0_year_234 : decode cX0_year 234 = .ok (.iconst 0, 1) := by decide +kernel
theorem dX0_year_235 : decode cX0_year 235 = .ok (.aload_n 0, 1) := by decide +kernel
theorem dX0_year_236 : decode cX0_year 236 = .ok (.aload_n 1, 1) := by decide +kernel
theorem dX0_year_237 : decode cX0_year 237 = .ok (.invokevirtual 39, 3) := by decide +kernel
theorem dX0_year_240 : decode cX0_year 240 = .ok (.invokevirtual 23, 3) := by decide +kernel
theorem dX0_year_243 : decode cX0_year 243 = .ok (.iastore, 1) := by decide +kernel
theorem dX0_year_244 : decode cX0_year 244 = .ok (.aload_n 0, 1) := by decide +kernel
theorem dX0_year_245 : decode cX0_year 245 = .ok (.getfield 9, 3) := by decide +kernel
theorem dX0_year_248 : decode cX0_year 248 = .ok (.iconst 1, 1) := by decide +kernel
theorem dX0_year_249 : decode cX0_year 249 = .ok (.aload_n 0, 1) := by decide +kernel
theorem dX0_year_250 : decode cX0_year 250 = .ok (.sipush 256, 3) := by decide +kernel
theorem dX0_year_253 : decode cX0_year 253 = .ok (.invokevirtual 23, 3) := by decide +kernel
theorem dX0_year_256 : decode cX0_year 256 = .ok (.iastore, 1) := by decide +kernel
theorem dX0_year_257 : decode cX0_year 257 = .ok (.iconst 0, 1) := by decide +kernel
theorem dX0_year_258 : decode cX0_year 258 = .ok (.ireturn, 1) := by decide +kernel
theorem dX1_fill_0 : decode cX1_fill 0 = .ok (.iload_n 1, 1) := by decide +kernel
theorem dX1_fill_1 : decode cX1_fill 1 = .ok (.ifCond .lt 11, 3) := by decide +kernel
theorem dX1_fill_4 : decode cX1_fill 4 = .ok (.iload_n 1, 1) := by decide +kernel
theorem dX1_fill_5 : decode cX1_fill 5 = .ok (.getstatic 20, 3) := by decide +kernel
theorem dX1_fill_8 : decode cX1_fill 8 = .ok (.arraylength, 1) := by decide +kernel
theorem dX1_fill_9 : decode cX1_fill 9 = .ok (.if_icmp .lt 4, 3) := by decide +kernel
theorem dX1_fill_12 : decode cX1_fill 12 = .ok (.return_, 1) := by decide +kernel
theorem dX1_fill_13 : decode cX1_fill 13 = .ok (.aload_n 0, 1) := by decide +kernel
theorem dX1_fill_14 : decode cX1_fill 14 = .ok (.getstatic 20, 3) := by decide +kernel
theorem dX1_fill_17 : decode cX1_fill 17 = .ok (.iload_n 1, 1) := by decide +kernel
theorem dX1_fill_18 : decode cX1_fill 18 = .ok (.iaload, 1) := by decide +kernel
theorem dX1_fill_19 : decode cX1_fill 19 = .ok (.putfield 16, 3) := by decide +kernel
theorem dX1_fill_22 : decode cX1_fill 22 = .ok (.iconst 1, 1) := by decide +kernel
theorem dX1_fill_23 : decode cX1_fill 23 = .ok (.istore_n 2, 1) := by decide +kernel
theorem dX1_fill_24 : decode cX1_fill 24 = .ok (.iconst 0, 1) := by decide +kernel
theorem dX1_fill_25 : decode cX1_fill 25 = .ok (.istore_n 3, 1) := by decide +kernel
theorem dX1_fill_26 : decode cX1_fill 26 = .ok (.iload_n 3, 1) := by decide +kernel
theorem dX1_fill_27 : decode cX1_fill 27 = .ok (.sipush 255, 3) := by decide +kernel
theorem dX1_fill_30 : decode cX1_fill 30 = .ok (.if_icmp .ge 41, 3) := by decide +kernel
theorem dX1_fill_33 : decode cX1_fill 33 = .ok (.aload_n 0, 1) := by decide +kernel
theorem dX1_fill_34 : decode cX1_fill 34 = .ok (.getfield 9, 3) := by decide +kernel
theorem dX1_fill_37 : decode cX1_fill 37 = .ok (.iload_n 3, 1) := by decide +kernel
theorem dX1_fill_38 : decode cX1_fill 38 = .ok (.iload_n 2, 1) := by decide +kernel
theorem dX1_fill_39 : decode cX1_fill 39 = .ok (.iastore, 1) := by decide +kernel
theorem dX1_fill_40 : decode cX1_fill 40 = .ok (.aload_n 0, 1) := by decide +kernel
theorem dX1_fill_41 : decode cX1_fill 41 = .ok (.getfield 13, 3) := by decide +kernel
theorem dX1_fill_44 : decode cX1_fill 44 = .ok (.iload_n 2, 1) := by decide +kernel
theorem dX1_fill_45 : decode cX1_fill 45 = .ok (.sipush 255, 3) := by decide +kernel
theorem dX1_fill_48 : decode cX1_fill 48 = .ok (.iand, 1) := by decide +kernel
theorem dX1_fill_49 : decode cX1_fill 49 = .ok (.iload_n 3, 1) := by decide +kernel
theorem dX1_fill_50 : decode cX1_fill 50 = .ok (.iastore, 1) := by decide +kernel
theorem dX1_fill_51 : decode cX1_fill 51 = .ok (.iload_n 2, 1) := by decide +kernel
theorem dX1_fill_52 : decode cX1_fill 52 = .ok (.iconst 1, 1) := by decide +kernel
theorem dX1_fill_53 : decode cX1_fill 53 = .ok (.ishl, 1) := by decide +kernel
theorem dX1_fill_54 : decode cX1_fill 54 = .ok (.iload_n 2, 1) := by decide +kernel
theorem dX1_fill_55 : decode cX1_fill 55 = .ok (.bipush 7, 2) := by decide +kernel
theorem dX1_fill_57 : decode cX1_fill 57 = .ok (.iushr, 1) := by decide +kernel
theorem dX1_fill_58 : decode cX1_fill 58 = .ok (.aload_n 0, 1) := by decide +kernel
theorem dX1_fill_59 : decode cX1_fill 59 = .ok (.getfield 16, 3) := by decide +kernel
theorem dX1_fill_62 : decode cX1_fill 62 = .ok (.imul, 1) := by decide +kernel
theorem dX1_fill_63 : decode cX1_fill 63 = .ok (.ixor, 1) := by decide +kernel
theorem dX1_fill_64 : decode cX1_fill 64 = .ok (.istore_n 2, 1) := by decide +kernel
theorem dX1_fill_65 : decode cX1_fill 65 = .ok (.iinc 3 1, 3) := by decide +kernel
theorem dX1_fill_68 : decode cX1_fill 68 = .ok (.goto (-42), 3) := by decide +kernel
theorem dX1_fill_71 : decode cX1_fill 71 = .ok (.return_, 1) := by decide +kernel
theorem dJ9_floorMod_7cf53_0 : decode cJ9_floorMod_7cf53 0 = .ok (.iload_n 0, 1) := by decide +kernel
theorem dJ9_floorMod_7cf53_1 : decode cJ9_floorMod_7cf53 1 = .ok (.iload_n 1, 1) := by decide +kernel
theorem dJ9_floorMod_7cf53_2 : decode cJ9_floorMod_7cf53 2 = .ok (.irem, 1) := by decide +kernel
theorem dJ9_floorMod_7cf53_3 : decode cJ9_floorMod_7cf53 3 = .ok (.istore_n 2, 1) := by decide +kernel
theorem dJ9_floorMod_7cf53_4 : decode cJ9_floorMod_7cf53 4 = .ok (.iload_n 0, 1) := by decide +kernel
theorem dJ9_floorMod_7cf53_5 : decode cJ9_floorMod_7cf53 5 = .ok (.iload_n 1, 1) := by decide +kernel
theorem dJ9_floorMod_7cf53_6 : decode cJ9_floorMod_7cf53 6 = .ok (.ixor, 1) := by decide +kernel
theorem dJ9_floorMod_7cf53_7 : decode cJ9_floorMod_7cf53 7 = .ok (.ifCond .ge 11, 3) := by decide +kernel
theorem dJ9_floorMod_7cf53_10 : decode cJ9_floorMod_7cf53 10 = .ok (.iload_n 2, 1) := by decide +kernel
theorem dJ9_floorMod_7cf53_11 : decode cJ9_floorMod_7cf53 11 = .ok (.ifCond .eq 7, 3) := by decide +kernel
theorem dJ9_floorMod_7cf53_14 : decode cJ9_floorMod_7cf53 14 = .ok (.iload_n 2, 1) := by decide +kernel
theorem dJ9_floorMod_7cf53_15 : decode cJ9_floorMod_7cf53 15 = .ok (.iload_n 1, 1) := by decide +kernel
theorem dJ9_floorMod_7cf53_16 : decode cJ9_floorMod_7cf53 16 = .ok (.iadd, 1) := by decide +kernel
theorem dJ9_floorMod_7cf53_17 : decode cJ9_floorMod_7cf53 17 = .ok (.ireturn, 1) := by decide +kernel
theorem dJ9_floorMod_7cf53_18 : decode cJ9_floorMod_7cf53 18 = .ok (.iload_n 2, 1) := by decide +kernel
theorem dJ9_floorMod_7cf53_19 : decode cJ9_floorMod_7cf53 19 = .ok (.ireturn, 1) := by decide +kernel
theorem dX1_powerOfTwo_0 : decode cX1_powerOfTwo 0 = .ok (.aload_n 0, 1) := by decide +kernel
theorem dX1_powerOfTwo_1 : decode cX1_powerOfTwo 1 = .ok (.getfield 9, 3) := by decide +kernel
theorem dX1_powerOfTwo_4 : decode cX1_powerOfTwo 4 = .ok (.iload_n 1, 1) := by decide +kernel
theorem dX1_powerOfTwo_5 : decode cX1_powerOfTwo 5 = .ok (.sipush 255, 3) := by decide +kernel
theorem dX1_powerOfTwo_8 : decode cX1_powerOfTwo 8 = .ok (.invokestatic 23, 3) := by decide +kernel
theorem dX1_powerOfTwo_11 : decode cX1_powerOfTwo 11 = .ok (.iaload, 1) := by decide +kernel
theorem dX1_powerOfTwo_12 : decode cX1_powerOfTwo 12 = .ok (.ireturn, 1) := by decide +kernel
theorem dX1_logarithm_0 : decode cX1_logarithm 0 = .ok (.aload_n 0, 1) := by decide +kernel
theorem dX1_logarithm_1 : decode cX1_logarithm 1 = .ok (.getfield 13, 3) := by decide +kernel
theorem dX1_logarithm_4 : decode cX1_logarithm 4 = .ok (.iload_n 1, 1) := by decide +kernel
theorem dX1_logarithm_5 : decode cX1_logarithm 5 = .ok (.sipush 255, 3) := by decide +kernel
theorem dX1_logarithm_8 : decode cX1_logarithm 8 = .ok (.iand, 1) := by decide +kernel
theorem dX1_logarithm_9 : decode cX1_logarithm 9 = .ok (.iaload, 1) := by decide +kernel
theorem dX1_logarithm_10 : decode cX1_logarithm 10 = .ok (.ireturn, 1) := by decide +kernel
theorem dX1_product_0 : decode cX1_product 0 = .ok (.iload_n 1, 1) := by decide +kernel
theorem dX1_product_1 : decode cX1_product 1 = .ok (.ifCond .eq 7, 3) := by decide +kernel
theorem dX1_product_4 : decode cX1_product 4 = .ok (.iload_n 2, 1) := by decide +kernel
theorem dX1_product_5 : decode cX1_product 5 = .ok (.ifCond .ne 5, 3) := by decide +kernel
theorem dX1_product_8 : decode cX1_product 8 = .ok (.iconst 0, 1) := by decide +kernel
theorem dX1_product_9 : decode cX1_product 9 = .ok (.ireturn, 1) := by decide +kernel
theorem dX1_product_10 : decode cX1_product 10 = .ok (.aload_n 0, 1) := by decide +kernel
theorem dX1_product_11 : decode cX1_product 11 = .ok (.getfield 9, 3) := by decide +kernel
theorem dX1_product_14 : decode cX1_product 14 = .ok (.aload_n 0, 1) := by decide +kernel
theorem dX1_product_15 : decode cX1_product 15 = .ok (.getfield 13, 3) := by decide +kernel
theorem dX1_product_18 : decode cX1_product 18 = .ok (.iload_n 1, 1) := by decide +kernel
theorem dX1_product_19 : decode cX1_product 19 = .ok (.sipush 255, 3) := by decide +kernel
theorem dX1_product_22 : decode cX1_product 22 = .ok (.iand, 1) := by decide +kernel
theorem dX1_product_23 : decode cX1_product 23 = .ok (.iaload, 1) := by decide +kernel
theorem dX1_product_24 : decode cX1_product 24 = .ok (.aload_n 0, 1) := by decide +kernel
theorem dX1_product_25 : decode cX1_product 25 = .ok (.getfield 13, 3) := by decide +kernel
theorem dX1_product_28 : decode cX1_product 28 = .ok (.iload_n 2, 1) := by decide +kernel
theorem dX1_product_29 : decode cX1_product 29 = .ok (.sipush 255, 3) := by decide +kernel
theorem dX1_product_32 : decode cX1_product 32 = .ok (.iand, 1) := by decide +kernel
theorem dX1_product_33 : decode cX1_product 33 = .ok (.iaload, 1) := by decide +kernel
theorem dX1_product_34 : decode cX1_product 34 = .ok (.iadd, 1) := by decide +kernel
theorem dX1_product_35 : decode cX1_product 35 = .ok (.sipush 255, 3) := by decide +kernel
theorem dX1_product_38 : decode cX1_product 38 = .ok (.invokestatic 23, 3) := by decide +kernel
theorem dX1_product_41 : decode cX1_product 41 = .ok (.iaload, 1) := by decide +kernel
theorem dX1_product_42 : decode cX1_product 42 = .ok (.ireturn, 1) := by decide +kernel
theorem dX1_quotient_0 : decode cX1_quotient 0 = .ok (.iload_n 1, 1) := by decide +kernel
theorem dX1_quotient_1 : decode cX1_quotient 1 = .ok (.ifCond .eq 7, 3) := by decide +kernel
theorem dX1_quotient_4 : decode cX1_quotient 4 = .ok (.iload_n 2, 1) := by decide +kernel
theorem dX1_quotient_5 : decode cX1_quotient 5 = .ok (.ifCond .ne 5, 3) := by decide +kernel
theorem dX1_quotient_8 : decode cX1_quotient 8 = .ok (.iconst 0, 1) := by decide +kernel
theorem dX1_quotient_9 : decode cX1_quotient 9 = .ok (.ireturn, 1) := by decide +kernel
theorem dX1_quotient_10 : decode cX1_quotient 10 = .ok (.aload_n 0, 1) := by decide +kernel
theorem dX1_quotient_11 : decode cX1_quotient 11 = .ok (.getfield 9, 3) := by decide +kernel
theorem dX1_quotient_14 : decode cX1_quotient 14 = .ok (.aload_n 0, 1) := by decide +kernel
theorem dX1_quotient_15 : decode cX1_quotient 15 = .ok (.getfield 13, 3) := by decide +kernel
theorem dX1_quotient_18 : decode cX1_quotient 18 = .ok (.iload_n 1, 1) := by decide +kernel
theorem dX1_quotient_19 : decode cX1_quotient 19 = .ok (.sipush 255, 3) := by decide +kernel
theorem dX1_quotient_22 : decode cX1_quotient 22 = .ok (.iand, 1) := by decide +kernel
theorem dX1_quotient_23 : decode cX1_quotient 23 = .ok (.iaload, 1) := by decide +kernel
theorem dX1_quotient_24 : decode cX1_quotient 24 = .ok (.aload_n 0, 1) := by decide +kernel
theorem dX1_quotient_25 : decode cX1_quotient 25 = .ok (.getfield 13, 3) := by decide +kernel
theorem dX1_quotient_28 : decode cX1_quotient 28 = .ok (.iload_n 2, 1) := by decide +kernel
theorem dX1_quotient_29 : decode cX1_quotient 29 = .ok (.sipush 255, 3) := by decide +kernel
theorem dX1_quotient_32 : decode cX1_quotient 32 = .ok (.iand, 1) := by decide +kernel
theorem dX1_quotient_33 : decode cX1_quotient 33 = .ok (.iaload, 1) := by decide +kernel
theorem dX1_quotient_34 : decode cX1_quotient 34 = .ok (.isub, 1) := by decide +kernel
theorem dX1_quotient_35 : decode cX1_quotient 35 = .ok (.sipush 255, 3) := by decide +kernel
theorem dX1_quotient_38 : decode cX1_quotient 38 = .ok (.invokestatic 23, 3) := by decide +kernel
theorem dX1_quotient_41 : decode cX1_quotient 41 = .ok (.iaload, 1) := by decide +kernel
theorem dX1_quotient_42 : decode cX1_quotient 42 = .ok (.ireturn, 1) := by decide +kernel
theorem dX1_sumByPowers_0 : decode cX1_sumByPowers 0 = .ok (.iconst 0, 1) := by decide +kernel
theorem dX1_sumByPowers_1 : decode cX1_sumByPowers 1 = .ok (.istore_n 3, 1) := by decide +kernel
theorem dX1_sumByPowers_2 : decode cX1_sumByPowers 2 = .ok (.iload_n 2, 1) := by decide +kernel
theorem dX1_sumByPowers_3 : decode cX1_sumByPowers 3 = .ok (.aload_n 1, 1) := by decide +kernel
theorem dX1_sumByPowers_4 : decode cX1_sumByPowers 4 = .ok (.arraylength, 1) := by decide +kernel
theorem dX1_sumByPowers_5 : decode cX1_sumByPowers 5 = .ok (.invokestatic 29, 3) := by decide +kernel
theorem dX1_sumByPowers_8 : decode cX1_sumByPowers 8 = .ok (.iconst 1, 1) := by decide +kernel
theorem dX1_sumByPowers_9 : decode cX1_sumByPowers 9 = .ok (.isub, 1) := by decide +kernel
theorem dX1_sumByPowers_10 : decode cX1_sumByPowers 10 = .ok (.istore 4, 2) := by decide +kernel
theorem dX1_sumByPowers_12 : decode cX1_sumByPowers 12 = .ok (.iload 4, 2) := by decide +kernel
theorem dX1_sumByPowers_14 : decode cX1_sumByPowers 14 = .ok (.ifCond .lt 28, 3) := by decide +kernel
theorem dX1_sumByPowers_17 : decode cX1_sumByPowers 17 = .ok (.iload_n 3, 1) := by decide +kernel
theorem dX1_sumByPowers_18 : decode cX1_sumByPowers 18 = .ok (.iconst 1, 1) := by decide +kernel
theorem dX1_sumByPowers_19 : decode cX1_sumByPowers 19 = .ok (.ishl, 1) := by decide +kernel
theorem dX1_sumByPowers_20 : decode cX1_sumByPowers 20 = .ok (.iload_n 3, 1) := by decide +kernel
theorem dX1_sumByPowers_21 : decode cX1_sumByPowers 21 = .ok (.bipush 7, 2) := by decide +kernel
theorem dX1_sumByPowers_23 : decode cX1_sumByPowers 23 = .ok (.iushr, 1) := by decide +kernel
theorem dX1_sumByPowers_24 : decode cX1_sumByPowers 24 = .ok (.aload_n 0, 1) := by decide +kernel
theorem dX1_sumByPowers_25 : decode cX1_sumByPowers 25 = .ok (.getfield 16, 3) := by decide +kernel
theorem dX1_sumByPowers_28 : decode cX1_sumByPowers 28 = .ok (.imul, 1) := by decide +kernel
theorem dX1_sumByPowers_29 : decode cX1_sumByPowers 29 = .ok (.ixor, 1) := by decide +kernel
theorem dX1_sumByPowers_30 : decode cX1_sumByPowers 30 = .ok (.aload_n 1, 1) := by decide +kernel
theorem dX1_sumByPowers_31 : decode cX1_sumByPowers 31 = .ok (.iload 4, 2) := by decide +kernel
theorem dX1_sumByPowers_33 : decode cX1_sumByPowers 33 = .ok (.iaload, 1) := by decide +kernel
theorem dX1_sumByPowers_34 : decode cX1_sumByPowers 34 = .ok (.ixor, 1) := by decide +kernel
theorem dX1_sumByPowers_35 : decode cX1_sumByPowers 35 = .ok (.istore_n 3, 1) := by decide +kernel
theorem dX1_sumByPowers_36 : decode cX1_sumByPowers 36 = .ok (.iinc 4 (-1), 3) := by decide +kernel
theorem dX1_sumByPowers_39 : decode cX1_sumByPowers 39 = .ok (.goto (-27), 3) := by decide +kernel
theorem dX1_sumByPowers_42 : decode cX1_sumByPowers 42 = .ok (.iload_n 3, 1) := by decide +kernel
theorem dX1_sumByPowers_43 : decode cX1_sumByPowers 43 = .ok (.ireturn, 1) := by decide +kernel
theorem dX2_size_0 : decode cX2_size 0 = .ok (.aload_n 0, 1) := by decide +kernel
theorem dX2_size_1 : decode cX2_size 1 = .ok (.getfield 19, 3) := by decide +kernel
theorem dX2_size_4 : decode cX2_size 4 = .ok (.ireturn, 1) := by decide +kernel
theorem dX9_saveTo_0 : decode cX9_saveTo 0 = .ok (.iload_n 2, 1) := by decide +kernel
theorem dX9_saveTo_1 : decode cX9_saveTo 1 = .ok (.ifCond .lt 26, 3) := by decide +kernel
theorem dX9_saveTo_4 : decode cX9_saveTo 4 = .ok (.iload_n 2, 1) := by decide +kernel
theorem dX9_saveTo_5 : decode cX9_saveTo 5 = .ok (.aload_n 1, 1) := by decide +kernel
theorem dX9_saveTo_6 : decode cX9_saveTo 6 = .ok (.arraylength, 1) := by decide +kernel
theorem dX9_saveTo_7 : decode cX9_saveTo 7 = .ok (.sipush 144, 3) := by decide +kernel
theorem dX9_saveTo_10 : decode cX9_saveTo 10 = .ok (.isub, 1) := by decide +kernel
theorem dX9_saveTo_11 : decode cX9_saveTo 11 = .ok (.if_icmp .gt 16, 3) := by decide +kernel
theorem dX9_saveTo_14 : decode cX9_saveTo 14 = .ok (.aload_n 0, 1) := by decide +kernel
theorem dX9_saveTo_15 : decode cX9_saveTo 15 = .ok (.getfield 11, 3) := by decide +kernel
theorem dX9_saveTo_18 : decode cX9_saveTo 18 = .ok (.iconst 0, 1) := by decide +kernel
theorem dX9_saveTo_19 : decode cX9_saveTo 19 = .ok (.aload_n 1, 1) := by decide +kernel
theorem dX9_saveTo_20 : decode cX9_saveTo 20 = .ok (.iload_n 2, 1) := by decide +kernel
theorem dX9_saveTo_21 : decode cX9_saveTo 21 = .ok (.sipush 144, 3) := by decide +kernel
theorem dX9_saveTo_24 : decode cX9_saveTo 24 = .ok (.invokestatic 31, 3) := by decide +kernel
theorem dX9_saveTo_27 : decode cX9_saveTo 27 = .ok (.return_, 1) := by decide +kernel
theorem dX2_keep_0 : decode cX2_keep 0 = .ok (.aload_n 1, 1) := by decide +kernel
theorem dX2_keep_1 : decode cX2_keep 1 = .ok (.aload_n 0, 1) := by decide +kernel
theorem dX2_keep_2 : decode cX2_keep 2 = .ok (.getfield 11, 3) := by decide +kernel
theorem dX2_keep_5 : decode cX2_keep 5 = .ok (.aload_n 0, 1) := by decide +kernel
theorem dX2_keep_6 : decode cX2_keep 6 = .ok (.getfield 15, 3) := by decide +kernel
theorem dX2_keep_9 : decode cX2_keep 9 = .ok (.sipush 144, 3) := by decide +kernel
theorem dX2_keep_12 : decode cX2_keep 12 = .ok (.imul, 1) := by decide +kernel
theorem dX2_keep_13 : decode cX2_keep 13 = .ok (.invokevirtual 22, 3) := by decide +kernel
theorem dX2_keep_16 : decode cX2_keep 16 = .ok (.aload_n 0, 1) := by decide +kernel
theorem dX2_keep_17 : decode cX2_keep 17 = .ok (.aload_n 0, 1) := by decide +kernel
theorem dX2_keep_18 : decode cX2_keep 18 = .ok (.getfield 15, 3) := by decide +kernel
theorem dX2_keep_21 : decode cX2_keep 21 = .ok (.iconst 1, 1) := by decide +kernel
theorem dX2_keep_22 : decode cX2_keep 22 = .ok (.iadd, 1) := by decide +kernel
theorem dX2_keep_23 : decode cX2_keep 23 = .ok (.bipush 40, 2) := by decide +kernel
theorem dX2_keep_25 : decode cX2_keep 25 = .ok (.if_icmp .ge 12, 3) := by decide +kernel
theorem dX2_keep_28 : decode cX2_keep 28 = .ok (.aload_n 0, 1) := by decide +kernel
theorem dX2_keep_29 : decode cX2_keep 29 = .ok (.getfield 15, 3) := by decide +kernel
theorem dX2_keep_32 : decode cX2_keep 32 = .ok (.iconst 1, 1) := by decide +kernel
theorem dX2_keep_33 : decode cX2_keep 33 = .ok (.iadd, 1) := by decide +kernel
theorem dX2_keep_34 : decode cX2_keep 34 = .ok (.goto 4, 3) := by decide +kernel
theorem dX2_keep_37 : decode cX2_keep 37 = .ok (.iconst 0, 1) := by decide +kernel
theorem dX2_keep_38 : decode cX2_keep 38 = .ok (.putfield 15, 3) := by decide +kernel
theorem dX2_keep_41 : decode cX2_keep 41 = .ok (.aload_n 0, 1) := by decide +kernel
theorem dX2_keep_42 : decode cX2_keep 42 = .ok (.aload_n 0, 1) := by decide +kernel
theorem dX2_keep_43 : decode cX2_keep 43 = .ok (.getfield 19, 3) := by decide +kernel
theorem dX2_keep_46 : decode cX2_keep 46 = .ok (.iconst 1, 1) := by decide +kernel
theorem dX2_keep_47 : decode cX2_keep 47 = .ok (.iadd, 1) := by decide +kernel
theorem dX2_keep_48 : decode cX2_keep 48 = .ok (.bipush 40, 2) := by decide +kernel
theorem dX2_keep_50 : decode cX2_keep 50 = .ok (.invokestatic 26, 3) := by decide +kernel
theorem dX2_keep_53 : decode cX2_keep 53 = .ok (.putfield 19, 3) := by decide +kernel
theorem dX2_keep_56 : decode cX2_keep 56 = .ok (.return_, 1) := by decide +kernel
theorem dX9_loadFrom_0 : decode cX9_loadFrom 0 = .ok (.iload_n 2, 1) := by decide +kernel
theorem dX9_loadFrom_1 : decode cX9_loadFrom 1 = .ok (.ifCond .lt 26, 3) := by decide +kernel
theorem dX9_loadFrom_4 : decode cX9_loadFrom 4 = .ok (.iload_n 2, 1) := by decide +kernel
theorem dX9_loadFrom_5 : decode cX9_loadFrom 5 = .ok (.aload_n 1, 1) := by decide +kernel
theorem dX9_loadFrom_6 : decode cX9_loadFrom 6 = .ok (.arraylength, 1) := by decide +kernel
theorem dX9_loadFrom_7 : decode cX9_loadFrom 7 = .ok (.sipush 144, 3) := by decide +kernel
theorem dX9_loadFrom_10 : decode cX9_loadFrom 10 = .ok (.isub, 1) := by decide +kernel
theorem dX9_loadFrom_11 : decode cX9_loadFrom 11 = .ok (.if_icmp .gt 16, 3) := by decide +kernel
theorem dX9_loadFrom_14 : decode cX9_loadFrom 14 = .ok (.aload_n 1, 1) := by decide +kernel
theorem dX9_loadFrom_15 : decode cX9_loadFrom 15 = .ok (.iload_n 2, 1) := by decide +kernel
theorem dX9_loadFrom_16 : decode cX9_loadFrom 16 = .ok (.aload_n 0, 1) := by decide +kernel
theorem dX9_loadFrom_17 : decode cX9_loadFrom 17 = .ok (.getfield 11, 3) := by decide +kernel
theorem dX9_loadFrom_20 : decode cX9_loadFrom 20 = .ok (.iconst 0, 1) := by decide +kernel
theorem dX9_loadFrom_21 : decode cX9_loadFrom 21 = .ok (.sipush 144, 3) := by decide +kernel
theorem dX9_loadFrom_24 : decode cX9_loadFrom 24 = .ok (.invokestatic 31, 3) := by decide +kernel
theorem dX9_loadFrom_27 : decode cX9_loadFrom 27 = .ok (.return_, 1) := by decide +kernel
theorem dX2_bringBack_0 : decode cX2_bringBack 0 = .ok (.aload_n 0, 1) := by decide +kernel
theorem dX2_bringBack_1 : decode cX2_bringBack 1 = .ok (.getfield 19, 3) := by decide +kernel
theorem dX2_bringBack_4 : decode cX2_bringBack 4 = .ok (.ifCond .le 51, 3) := by decide +kernel
theorem dX2_bringBack_7 : decode cX2_bringBack 7 = .ok (.aload_n 0, 1) := by decide +kernel
theorem dX2_bringBack_8 : decode cX2_bringBack 8 = .ok (.aload_n 0, 1) := by decide +kernel
theorem dX2_bringBack_9 : decode cX2_bringBack 9 = .ok (.getfield 15, 3) := by decide +kernel
theorem dX2_bringBack_12 : decode cX2_bringBack 12 = .ok (.ifCond .le 12, 3) := by decide +kernel
theorem dX2_bringBack_15 : decode cX2_bringBack 15 = .ok (.aload_n 0, 1) := by decide +kernel
theorem dX2_bringBack_16 : decode cX2_bringBack 16 = .ok (.getfield 15, 3) := by decide +kernel
theorem dX2_bringBack_19 : decode cX2_bringBack 19 = .ok (.iconst 1, 1) := by decide +kernel
theorem dX2_bringBack_20 : decode cX2_bringBack 20 = .ok (.isub, 1) := by decide +kernel
theorem dX2_bringBack_21 : decode cX2_bringBack 21 = .ok (.goto 5, 3) := by decide +kernel
theorem dX2_bringBack_24 : decode cX2_bringBack 24 = .ok (.bipush 39, 2) := by decide +kernel
theorem dX2_bringBack_26 : decode cX2_bringBack 26 = .ok (.putfield 15, 3) := by decide +kernel
theorem dX2_bringBack_29 : decode cX2_bringBack 29 = .ok (.aload_n 1, 1) := by decide +kernel
theorem dX2_bringBack_30 : decode cX2_bringBack 30 = .ok (.aload_n 0, 1) := by decide +kernel
theorem dX2_bringBack_31 : decode cX2_bringBack 31 = .ok (.getfield 11, 3) := by decide +kernel
theorem dX2_bringBack_34 : decode cX2_bringBack 34 = .ok (.aload_n 0, 1) := by decide +kernel
theorem dX2_bringBack_35 : decode cX2_bringBack 35 = .ok (.getfield 15, 3) := by decide +kernel
theorem dX2_bringBack_38 : decode cX2_bringBack 38 = .ok (.sipush 144, 3) := by decide +kernel
theorem dX2_bringBack_41 : decode cX2_bringBack 41 = .ok (.imul, 1) := by decide +kernel
theorem dX2_bringBack_42 : decode cX2_bringBack 42 = .ok (.invokevirtual 32, 3) := by decide +kernel
theorem dX2_bringBack_45 : decode cX2_bringBack 45 = .ok (.aload_n 0, 1) := by decide +kernel
theorem dX2_bringBack_46 : decode cX2_bringBack 46 = .ok (.dup, 1) := by decide +kernel
theorem dX2_bringBack_47 : decode cX2_bringBack 47 = .ok (.getfield 19, 3) := by decide +kernel
theorem dX2_bringBack_50 : decode cX2_bringBack 50 = .ok (.iconst 1, 1) := by decide +kernel
theorem dX2_bringBack_51 : decode cX2_bringBack 51 = .ok (.isub, 1) := by decide +kernel
theorem dX2_bringBack_52 : decode cX2_bringBack 52 = .ok (.putfield 19, 3) := by decide +kernel
theorem dX2_bringBack_55 : decode cX2_bringBack 55 = .ok (.return_, 1) := by decide +kernel
theorem dX2_forget_0 : decode cX2_forget 0 = .ok (.aload_n 0, 1) := by decide +kernel
theorem dX2_forget_1 : decode cX2_forget 1 = .ok (.iconst 0, 1) := by decide +kernel
theorem dX2_forget_2 : decode cX2_forget 2 = .ok (.putfield 19, 3) := by decide +kernel
theorem dX2_forget_5 : decode cX2_forget 5 = .ok (.return_, 1) := by decide +kernel
theorem dX3_add_0 : decode cX3_add 0 = .ok (.iconst 3, 1) := by decide +kernel
theorem dX3_add_1 : decode cX3_add 1 = .ok (.aload_n 0, 1) := by decide +kernel
theorem dX3_add_2 : decode cX3_add 2 = .ok (.getfield 17, 3) := by decide +kernel
theorem dX3_add_5 : decode cX3_add 5 = .ok (.bipush 100, 2) := by decide +kernel
theorem dX3_add_7 : decode cX3_add 7 = .ok (.invokestatic 21, 3) := by decide +kernel
theorem dX3_add_10 : decode cX3_add 10 = .ok (.imul, 1) := by decide +kernel
theorem dX3_add_11 : decode cX3_add 11 = .ok (.istore 4, 2) := by decide +kernel
theorem dX3_add_13 : decode cX3_add 13 = .ok (.aload_n 0, 1) := by decide +kernel
theorem dX3_add_14 : decode cX3_add 14 = .ok (.getfield 13, 3) := by decide +kernel
theorem dX3_add_17 : decode cX3_add 17 = .ok (.iload 4, 2) := by decide +kernel
theorem dX3_add_19 : decode cX3_add 19 = .ok (.iload_n 1, 1) := by decide +kernel
theorem dX3_add_20 : decode cX3_add 20 = .ok (.iastore, 1) := by decide +kernel
theorem dX3_add_21 : decode cX3_add 21 = .ok (.aload_n 0, 1) := by decide +kernel
theorem dX3_add_22 : decode cX3_add 22 = .ok (.getfield 13, 3) := by decide +kernel
theorem dX3_add_25 : decode cX3_add 25 = .ok (.iload 4, 2) := by decide +kernel
theorem dX3_add_27 : decode cX3_add 27 = .ok (.iconst 1, 1) := by decide +kernel
theorem dX3_add_28 : decode cX3_add 28 = .ok (.iadd, 1) := by decide +kernel
theorem dX3_add_29 : decode cX3_add 29 = .ok (.iload_n 2, 1) := by decide +kernel
theorem dX3_add_30 : decode cX3_add 30 = .ok (.iastore, 1) := by decide +kernel
theorem dX3_add_31 : decode cX3_add 31 = .ok (.aload_n 0, 1) := by decide +kernel
theorem dX3_add_32 : decode cX3_add 32 = .ok (.getfield 13, 3) := by decide +kernel
theorem dX3_add_35 : decode cX3_add 35 = .ok (.iload 4, 2) := by decide +kernel
theorem dX3_add_37 : decode cX3_add 37 = .ok (.iconst 2, 1) := by decide +kernel
theorem dX3_add_38 : decode cX3_add 38 = .ok (.iadd, 1) := by decide +kernel
theorem dX3_add_39 : decode cX3_add 39 = .ok (.iload_n 3, 1) := by decide +kernel
theorem dX3_add_40 : decode cX3_add 40 = .ok (.iastore, 1) := by decide +kernel
theorem dX3_add_41 : decode cX3_add 41 = .ok (.aload_n 0, 1) := by decide +kernel
theorem dX3_add_42 : decode cX3_add 42 = .ok (.dup, 1) := by decide +kernel
theorem dX3_add_43 : decode cX3_add 43 = .ok (.getfield 17, 3) := by decide +kernel
theorem dX3_add_46 : decode cX3_add 46 = .ok (.iconst 1, 1) := by decide +kernel
theorem dX3_add_47 : decode cX3_add 47 = .ok (.iadd, 1) := by decide +kernel
theorem dX3_add_48 : decode cX3_add 48 = .ok (.putfield 17, 3) := by decide +kernel
theorem dX3_add_51 : decode cX3_add 51 = .ok (.return_, 1) := by decide +kernel
theorem dX3_drop_0 : decode cX3_drop 0 = .ok (.aload_n 0, 1) := by decide +kernel
theorem dX3_drop_1 : decode cX3_drop 1 = .ok (.getfield 17, 3) := by decide +kernel
theorem dX3_drop_4 : decode cX3_drop 4 = .ok (.ifCond .le 13, 3) := by decide +kernel
theorem dX3_drop_7 : decode cX3_drop 7 = .ok (.aload_n 0, 1) := by decide +kernel
theorem dX3_drop_8 : decode cX3_drop 8 = .ok (.dup, 1) := by decide +kernel
theorem dX3_drop_9 : decode cX3_drop 9 = .ok (.getfield 17, 3) := by decide +kernel
theorem dX3_drop_12 : decode cX3_drop 12 = .ok (.iconst 1, 1) := by decide +kernel
theorem dX3_drop_13 : decode cX3_drop 13 = .ok (.isub, 1) := by decide +kernel
theorem dX3_drop_14 : decode cX3_drop 14 = .ok (.putfield 17, 3) := by decide +kernel
theorem dX3_drop_17 : decode cX3_drop 17 = .ok (.return_, 1) := by decide +kernel
theorem dX3_forget_0 : decode cX3_forget 0 = .ok (.aload_n 0, 1) := by decide +kernel
theorem dX3_forget_1 : decode cX3_forget 1 = .ok (.iconst 0, 1) := by decide +kernel
theorem dX3_forget_2 : decode cX3_forget 2 = .ok (.putfield 17, 3) := by decide +kernel
theorem dX3_forget_5 : decode cX3_forget 5 = .ok (.return_, 1) := by decide +kernel
theorem dX3_length_0 : decode cX3_length 0 = .ok (.aload_n 0, 1) := by decide +kernel
theorem dX3_length_1 : decode cX3_length 1 = .ok (.getfield 17, 3) := by decide +kernel
theorem dX3_length_4 : decode cX3_length 4 = .ok (.bipush 60, 2) := by decide +kernel
theorem dX3_length_6 : decode cX3_length 6 = .ok (.invokestatic 27, 3) := by decide +kernel
theorem dX3_length_9 : decode cX3_length 9 = .ok (.ireturn, 1) := by decide +kernel
theorem dX3_tell_0 : decode cX3_tell 0 = .ok (.iload_n 1, 1) := by decide +kernel
theorem dX3_tell_1 : decode cX3_tell 1 = .ok (.ifCond .lt 20, 3) := by decide +kernel
theorem dX3_tell_4 : decode cX3_tell 4 = .ok (.iload_n 1, 1) := by decide +kernel
theorem dX3_tell_5 : decode cX3_tell 5 = .ok (.aload_n 0, 1) := by decide +kernel
theorem dX3_tell_6 : decode cX3_tell 6 = .ok (.invokevirtual 30, 3) := by decide +kernel
theorem dX3_tell_9 : decode cX3_tell 9 = .ok (.if_icmp .ge 12, 3) := by decide +kernel
theorem dX3_tell_12 : decode cX3_tell 12 = .ok (.iload_n 2, 1) := by decide +kernel
theorem dX3_tell_13 : decode cX3_tell 13 = .ok (.ifCond .lt 8, 3) := by decide +kernel
theorem dX3_tell_16 : decode cX3_tell 16 = .ok (.iload_n 2, 1) := by decide +kernel
theorem dX3_tell_17 : decode cX3_tell 17 = .ok (.iconst 3, 1) := by decide +kernel
theorem dX3_tell_18 : decode cX3_tell 18 = .ok (.if_icmp .lt 6, 3) := by decide +kernel
theorem dX3_tell_21 : decode cX3_tell 21 = .ok (.ldc 34, 2) := by decide +kernel
theorem dX3_tell_23 : decode cX3_tell 23 = .ok (.ireturn, 1) := by decide +kernel
theorem dX3_tell_24 : decode cX3_tell 24 = .ok (.aload_n 0, 1) := by decide +kernel
theorem dX3_tell_25 : decode cX3_tell 25 = .ok (.getfield 13, 3) := by decide +kernel
theorem dX3_tell_28 : decode cX3_tell 28 = .ok (.iconst 3, 1) := by decide +kernel
theorem dX3_tell_29 : decode cX3_tell 29 = .ok (.aload_n 0, 1) := by decide +kernel
theorem dX3_tell_30 : decode cX3_tell 30 = .ok (.getfield 17, 3) := by decide +kernel
theorem dX3_tell_33 : decode cX3_tell 33 = .ok (.iconst 1, 1) := by decide +kernel
theorem dX3_tell_34 : decode cX3_tell 34 = .ok (.isub, 1) := by decide +kernel
theorem dX3_tell_35 : decode cX3_tell 35 = .ok (.iload_n 1, 1) := by decide +kernel
theorem dX3_tell_36 : decode cX3_tell 36 = .ok (.isub, 1) := by decide +kernel
theorem dX3_tell_37 : decode cX3_tell 37 = .ok (.bipush 100, 2) := by decide +kernel
theorem dX3_tell_39 : decode cX3_tell 39 = .ok (.invokestatic 21, 3) := by decide +kernel
theorem dX3_tell_42 : decode cX3_tell 42 = .ok (.imul, 1) := by decide +kernel
theorem dX3_tell_43 : decode cX3_tell 43 = .ok (.iload_n 2, 1) := by decide +kernel
theorem dX3_tell_44 : decode cX3_tell 44 = .ok (.iadd, 1) := by decide +kernel
theorem dX3_tell_45 : decode cX3_tell 45 = .ok (.iaload, 1) := by decide +kernel
theorem dX3_tell_46 : decode cX3_tell 46 = .ok (.ireturn, 1) := by decide +kernel
theorem dX3_copy_0 : decode cX3_copy 0 = .ok (.aload_n 1, 1) := by decide +kernel
theorem dX3_copy_1 : decode cX3_copy 1 = .ok (.getfield 13, 3) := by decide +kernel
theorem dX3_copy_4 : decode cX3_copy 4 = .ok (.iconst 0, 1) := by decide +kernel
theorem dX3_copy_5 : decode cX3_copy 5 = .ok (.aload_n 0, 1) := by decide +kernel
theorem dX3_copy_6 : decode cX3_copy 6 = .ok (.getfield 13, 3) := by decide +kernel
theorem dX3_copy_9 : decode cX3_copy 9 = .ok (.iconst 0, 1) := by decide +kernel
theorem dX3_copy_10 : decode cX3_copy 10 = .ok (.sipush 300, 3) := by decide +kernel
theorem dX3_copy_13 : decode cX3_copy 13 = .ok (.invokestatic 35, 3) := by decide +kernel
theorem dX3_copy_16 : decode cX3_copy 16 = .ok (.aload_n 0, 1) := by decide +kernel
theorem dX3_copy_17 : decode cX3_copy 17 = .ok (.aload_n 1, 1) := by decide +kernel
theorem dX3_copy_18 : decode cX3_copy 18 = .ok (.getfield 17, 3) := by decide +kernel
theorem dX3_copy_21 : decode cX3_copy 21 = .ok (.putfield 17, 3) := by decide +kernel
theorem dX3_copy_24 : decode cX3_copy 24 = .ok (.return_, 1) := by decide +kernel
theorem dX6_partOf_0 : decode cX6_partOf 0 = .ok (.aload_n 0, 1) := by decide +kernel
theorem dX6_partOf_1 : decode cX6_partOf 1 = .ok (.getfield 16, 3) := by decide +kernel
theorem dX6_partOf_4 : decode cX6_partOf 4 = .ok (.iconst 1, 1) := by decide +kernel
theorem dX6_partOf_5 : decode cX6_partOf 5 = .ok (.if_icmp .lt 11, 3) := by decide +kernel
theorem dX6_partOf_8 : decode cX6_partOf 8 = .ok (.aload_n 0, 1) := by decide +kernel
theorem dX6_partOf_9 : decode cX6_partOf 9 = .ok (.getfield 7, 3) := by decide +kernel
theorem dX6_partOf_12 : decode cX6_partOf 12 = .ok (.iconst 1, 1) := by decide +kernel
theorem dX6_partOf_13 : decode cX6_partOf 13 = .ok (.if_icmp .ge 7, 3) := by decide +kernel
theorem dX6_partOf_16 : decode cX6_partOf 16 = .ok (.iconst 0, 1) := by decide +kernel
theorem dX6_partOf_17 : decode cX6_partOf 17 = .ok (.goto 14, 3) := by decide +kernel
theorem dX6_partOf_20 : decode cX6_partOf 20 = .ok (.iload_n 1, 1) := by decide +kernel
theorem dX6_partOf_21 : decode cX6_partOf 21 = .ok (.aload_n 0, 1) := by decide +kernel
theorem dX6_partOf_22 : decode cX6_partOf 22 = .ok (.getfield 16, 3) := by decide +kernel
theorem dX6_partOf_25 : decode cX6_partOf 25 = .ok (.idiv, 1) := by decide +kernel
theorem dX6_partOf_26 : decode cX6_partOf 26 = .ok (.aload_n 0, 1) := by decide +kernel
theorem dX6_partOf_27 : decode cX6_partOf 27 = .ok (.getfield 7, 3) := by decide +kernel
theorem dX6_partOf_30 : decode cX6_partOf 30 = .ok (.irem, 1) := by decide +kernel
theorem dX6_partOf_31 : decode cX6_partOf 31 = .ok (.ireturn, 1) := by decide +kernel
theorem dX6_stripeOf_0 : decode cX6_stripeOf 0 = .ok (.aload_n 0, 1) := by decide +kernel
theorem dX6_stripeOf_1 : decode cX6_stripeOf 1 = .ok (.getfield 16, 3) := by decide +kernel
theorem dX6_stripeOf_4 : decode cX6_stripeOf 4 = .ok (.iconst 1, 1) := by decide +kernel
theorem dX6_stripeOf_5 : decode cX6_stripeOf 5 = .ok (.if_icmp .lt 11, 3) := by decide +kernel
theorem dX6_stripeOf_8 : decode cX6_stripeOf 8 = .ok (.aload_n 0, 1) := by decide +kernel
theorem dX6_stripeOf_9 : decode cX6_stripeOf 9 = .ok (.getfield 7, 3) := by decide +kernel
theorem dX6_stripeOf_12 : decode cX6_stripeOf 12 = .ok (.iconst 1, 1) := by decide +kernel
theorem dX6_stripeOf_13 : decode cX6_stripeOf 13 = .ok (.if_icmp .ge 7, 3) := by decide +kernel
theorem dX6_stripeOf_16 : decode cX6_stripeOf 16 = .ok (.iconst 0, 1) := by decide +kernel
theorem dX6_stripeOf_17 : decode cX6_stripeOf 17 = .ok (.goto 14, 3) := by decide +kernel
theorem dX6_stripeOf_20 : decode cX6_stripeOf 20 = .ok (.iload_n 1, 1) := by decide +kernel
theorem dX6_stripeOf_21 : decode cX6_stripeOf 21 = .ok (.aload_n 0, 1) := by decide +kernel
theorem dX6_stripeOf_22 : decode cX6_stripeOf 22 = .ok (.getfield 16, 3) := by decide +kernel
theorem dX6_stripeOf_25 : decode cX6_stripeOf 25 = .ok (.idiv, 1) := by decide +kernel
theorem dX6_stripeOf_26 : decode cX6_stripeOf 26 = .ok (.aload_n 0, 1) := by decide +kernel
theorem dX6_stripeOf_27 : decode cX6_stripeOf 27 = .ok (.getfield 7, 3) := by decide +kernel
theorem dX6_stripeOf_30 : decode cX6_stripeOf 30 = .ok (.idiv, 1) := by decide +kernel
theorem dX6_stripeOf_31 : decode cX6_stripeOf 31 = .ok (.ireturn, 1) := by decide +kernel
theorem dX6_diskOf_0 : decode cX6_diskOf 0 = .ok (.aload_n 0, 1) := by decide +kernel
theorem dX6_diskOf_1 : decode cX6_diskOf 1 = .ok (.getfield 25, 3) := by decide +kernel
theorem dX6_diskOf_4 : decode cX6_diskOf 4 = .ok (.iconst 1, 1) := by decide +kernel
theorem dX6_diskOf_5 : decode cX6_diskOf 5 = .ok (.if_icmp .ge 5, 3) := by decide +kernel
theorem dX6_diskOf_8 : decode cX6_diskOf 8 = .ok (.iconst 0, 1) := by decide +kernel
theorem dX6_diskOf_9 : decode cX6_diskOf 9 = .ok (.ireturn, 1) := by decide +kernel
theorem dX6_diskOf_10 : decode cX6_diskOf 10 = .ok (.iload_n 1, 1) := by decide +kernel
theorem dX6_diskOf_11 : decode cX6_diskOf 11 = .ok (.aload_n 0, 1) := by decide +kernel
theorem dX6_diskOf_12 : decode cX6_diskOf 12 = .ok (.getfield 7, 3) := by decide +kernel
theorem dX6_diskOf_15 : decode cX6_diskOf 15 = .ok (.if_icmp .lt 12, 3) := by decide +kernel
theorem dX6_diskOf_18 : decode cX6_diskOf 18 = .ok (.iload_n 1, 1) := by decide +kernel
theorem dX6_diskOf_19 : decode cX6_diskOf 19 = .ok (.aload_n 0, 1) := by decide +kernel
theorem dX6_diskOf_20 : decode cX6_diskOf 20 = .ok (.getfield 7, 3) := by decide +kernel
theorem dX6_diskOf_23 : decode cX6_diskOf 23 = .ok (.isub, 1) := by decide +kernel
theorem dX6_diskOf_24 : decode cX6_diskOf 24 = .ok (.goto 6, 3) := by decide +kernel
theorem dX6_diskOf_27 : decode cX6_diskOf 27 = .ok (.iload_n 1, 1) := by decide +kernel
theorem dX6_diskOf_28 : decode cX6_diskOf 28 = .ok (.iconst 2, 1) := by decide +kernel
theorem dX6_diskOf_29 : decode cX6_diskOf 29 = .ok (.iadd, 1) := by decide +kernel
theorem dX6_diskOf_30 : decode cX6_diskOf 30 = .ok (.istore_n 3, 1) := by decide +kernel
theorem dX6_diskOf_31 : decode cX6_diskOf 31 = .ok (.aload_n 0, 1) := by decide +kernel
theorem dX6_diskOf_32 : decode cX6_diskOf 32 = .ok (.getfield 25, 3) := by decide +kernel
theorem dX6_diskOf_35 : decode cX6_diskOf 35 = .ok (.iconst 1, 1) := by decide +kernel
theorem dX6_diskOf_36 : decode cX6_diskOf 36 = .ok (.isub, 1) := by decide +kernel
theorem dX6_diskOf_37 : decode cX6_diskOf 37 = .ok (.iload_n 2, 1) := by decide +kernel
theorem dX6_diskOf_38 : decode cX6_diskOf 38 = .ok (.aload_n 0, 1) := by decide +kernel
theorem dX6_diskOf_39 : decode cX6_diskOf 39 = .ok (.getfield 25, 3) := by decide +kernel
theorem dX6_diskOf_42 : decode cX6_diskOf 42 = .ok (.irem, 1) := by decide +kernel
theorem dX6_diskOf_43 : decode cX6_diskOf 43 = .ok (.isub, 1) := by decide +kernel
theorem dX6_diskOf_44 : decode cX6_diskOf 44 = .ok (.iload_n 3, 1) := by decide +kernel
theorem dX6_diskOf_45 : decode cX6_diskOf 45 = .ok (.iadd, 1) := by decide +kernel
theorem dX6_diskOf_46 : decode cX6_diskOf 46 = .ok (.aload_n 0, 1) := by decide +kernel
theorem dX6_diskOf_47 : decode cX6_diskOf 47 = .ok (.getfield 25, 3) := by decide +kernel
theorem dX6_diskOf_50 : decode cX6_diskOf 50 = .ok (.invokestatic 60, 3) := by decide +kernel
theorem dX6_diskOf_53 : decode cX6_diskOf 53 = .ok (.ireturn, 1) := by decide +kernel
theorem dX9_get_0 : decode cX9_get 0 = .ok (.iload_n 1, 1) := by decide +kernel
theorem dX9_get_1 : decode cX9_get 1 = .ok (.ifCond .lt 19, 3) := by decide +kernel
theorem dX9_get_4 : decode cX9_get 4 = .ok (.iload_n 1, 1) := by decide +kernel
theorem dX9_get_5 : decode cX9_get 5 = .ok (.sipush 144, 3) := by decide +kernel
theorem dX9_get_8 : decode cX9_get 8 = .ok (.if_icmp .ge 12, 3) := by decide +kernel
theorem dX9_get_11 : decode cX9_get 11 = .ok (.aload_n 0, 1) := by decide +kernel
theorem dX9_get_12 : decode cX9_get 12 = .ok (.getfield 11, 3) := by decide +kernel
theorem dX9_get_15 : decode cX9_get 15 = .ok (.iload_n 1, 1) := by decide +kernel
theorem dX9_get_16 : decode cX9_get 16 = .ok (.iaload, 1) := by decide +kernel
theorem dX9_get_17 : decode cX9_get 17 = .ok (.goto 4, 3) := by decide +kernel
theorem dX9_get_20 : decode cX9_get 20 = .ok (.iconst 0, 1) := by decide +kernel
theorem dX9_get_21 : decode cX9_get 21 = .ok (.ireturn, 1) := by decide +kernel
theorem dX8_isThere_0 : decode cX8_isThere 0 = .ok (.iload_n 2, 1) := by decide +kernel
theorem dX8_isThere_1 : decode cX8_isThere 1 = .ok (.aload_n 0, 1) := by decide +kernel
theorem dX8_isThere_2 : decode cX8_isThere 2 = .ok (.getfield 12, 3) := by decide +kernel
theorem dX8_isThere_5 : decode cX8_isThere 5 = .ok (.bipush 104, 2) := by decide +kernel
theorem dX8_isThere_7 : decode cX8_isThere 7 = .ok (.iload_n 1, 1) := by decide +kernel
theorem dX8_isThere_8 : decode cX8_isThere 8 = .ok (.iadd, 1) := by decide +kernel
theorem dX8_isThere_9 : decode cX8_isThere 9 = .ok (.invokevirtual 31, 3) := by decide +kernel
theorem dX8_isThere_12 : decode cX8_isThere 12 = .ok (.if_icmp .ge 7, 3) := by decide +kernel
theorem dX8_isThere_15 : decode cX8_isThere 15 = .ok (.iconst 1, 1) := by decide +kernel
theorem dX8_isThere_16 : decode cX8_isThere 16 = .ok (.goto 4, 3) := by decide +kernel
theorem dX8_isThere_19 : decode cX8_isThere 19 = .ok (.iconst 0, 1) := by decide +kernel
theorem dX8_isThere_20 : decode cX8_isThere 20 = .ok (.ireturn, 1) := by decide +kernel
theorem dX8_missing_0 : decode cX8_missing 0 = .ok (.iconst 0, 1) := by decide +kernel
theorem dX8_missing_1 : decode cX8_missing 1 = .ok (.istore_n 2, 1) := by decide +kernel
theorem dX8_missing_2 : decode cX8_missing 2 = .ok (.iconst 0, 1) := by decide +kernel
theorem dX8_missing_3 : decode cX8_missing 3 = .ok (.istore_n 3, 1) := by decide +kernel
theorem dX8_missing_4 : decode cX8_missing 4 = .ok (.iload_n 3, 1) := by decide +kernel
theorem dX8_missing_5 : decode cX8_missing 5 = .ok (.aload_n 0, 1) := by decide +kernel
theorem dX8_missing_6 : decode cX8_missing 6 = .ok (.getfield 18, 3) := by decide +kernel
theorem dX8_missing_9 : decode cX8_missing 9 = .ok (.getfield 35, 3) := by decide +kernel
theorem dX8_missing_12 : decode cX8_missing 12 = .ok (.if_icmp .ge 32, 3) := by decide +kernel
theorem dX8_missing_15 : decode cX8_missing 15 = .ok (.aload_n 0, 1) := by decide +kernel
theorem dX8_missing_16 : decode cX8_missing 16 = .ok (.aload_n 0, 1) := by decide +kernel
theorem dX8_missing_17 : decode cX8_missing 17 = .ok (.getfield 18, 3) := by decide +kernel
theorem dX8_missing_20 : decode cX8_missing 20 = .ok (.iload_n 3, 1) := by decide +kernel
theorem dX8_missing_21 : decode cX8_missing 21 = .ok (.iload_n 1, 1) := by decide +kernel
theorem dX8_missing_22 : decode cX8_missing 22 = .ok (.invokevirtual 41, 3) := by decide +kernel
theorem dX8_missing_25 : decode cX8_missing 25 = .ok (.iload_n 1, 1) := by decide +kernel
theorem dX8_missing_26 : decode cX8_missing 26 = .ok (.invokevirtual 45, 3) := by decide +kernel
theorem dX8_missing_29 : decode cX8_missing 29 = .ok (.ifCond .ne 9, 3) := by decide +kernel
theorem dX8_missing_32 : decode cX8_missing 32 = .ok (.iload_n 2, 1) := by decide +kernel
theorem dX8_missing_33 : decode cX8_missing 33 = .ok (.iconst 1, 1) := by decide +kernel
theorem dX8_missing_34 : decode cX8_missing 34 = .ok (.iload_n 3, 1) := by decide +kernel
theorem dX8_missing_35 : decode cX8_missing 35 = .ok (.ishl, 1) := by decide +kernel
theorem dX8_missing_36 : decode cX8_missing 36 = .ok (.ior, 1) := by decide +kernel
theorem dX8_missing_37 : decode cX8_missing 37 = .ok (.istore_n 2, 1) := by decide +kernel
theorem dX8_missing_38 : decode cX8_missing 38 = .ok (.iinc 3 1, 3) := by decide +kernel
theorem dX8_missing_41 : decode cX8_missing 41 = .ok (.goto (-37), 3) := by decide +kernel
theorem dX8_missing_44 : decode cX8_missing 44 = .ok (.iload_n 2, 1) := by decide +kernel
theorem dX8_missing_45 : decode cX8_missing 45 = .ok (.ireturn, 1) := by decide +kernel
theorem dX8_writeBits_0 : decode cX8_writeBits 0 = .ok (.iconst 1, 1) := by decide +kernel
theorem dX8_writeBits_1 : decode cX8_writeBits 1 = .ok (.iload_n 2, 1) := by decide +kernel
theorem dX8_writeBits_2 : decode cX8_writeBits 2 = .ok (.ishl, 1) := by decide +kernel
theorem dX8_writeBits_3 : decode cX8_writeBits 3 = .ok (.iconst 1, 1) := by decide +kernel
theorem dX8_writeBits_4 : decode cX8_writeBits 4 = .ok (.aload_n 0, 1) := by decide +kernel
theorem dX8_writeBits_5 : decode cX8_writeBits 5 = .ok (.getfield 18, 3) := by decide +kernel
theorem dX8_writeBits_8 : decode cX8_writeBits 8 = .ok (.getfield 91, 3) := by decide +kernel
theorem dX8_writeBits_11 : decode cX8_writeBits 11 = .ok (.ishl, 1) := by decide +kernel
theorem dX8_writeBits_12 : decode cX8_writeBits 12 = .ok (.ior, 1) := by decide +kernel
theorem dX8_writeBits_13 : decode cX8_writeBits 13 = .ok (.iconst 1, 1) := by decide +kernel
theorem dX8_writeBits_14 : decode cX8_writeBits 14 = .ok (.aload_n 0, 1) := by decide +kernel
theorem dX8_writeBits_15 : decode cX8_writeBits 15 = .ok (.getfield 18, 3) := by decide +kernel
theorem dX8_writeBits_18 : decode cX8_writeBits 18 = .ok (.getfield 94, 3) := by decide +kernel
theorem dX8_writeBits_21 : decode cX8_writeBits 21 = .ok (.ishl, 1) := by decide +kernel
theorem dX8_writeBits_22 : decode cX8_writeBits 22 = .ok (.ior, 1) := by decide +kernel
theorem dX8_writeBits_23 : decode cX8_writeBits 23 = .ok (.iload_n 1, 1) := by decide +kernel
theorem dX8_writeBits_24 : decode cX8_writeBits 24 = .ok (.iconst (-1), 1) := by decide +kernel
theorem dX8_writeBits_25 : decode cX8_writeBits 25 = .ok (.ixor, 1) := by decide +kernel
theorem dX8_writeBits_26 : decode cX8_writeBits 26 = .ok (.iand, 1) := by decide +kernel
theorem dX8_writeBits_27 : decode cX8_writeBits 27 = .ok (.ireturn, 1) := by decide +kernel
theorem dX8_readBits_0 : decode cX8_readBits 0 = .ok (.iload_n 1, 1) := by decide +kernel
theorem dX8_readBits_1 : decode cX8_readBits 1 = .ok (.ifCond .ne 10, 3) := by decide +kernel
theorem dX8_readBits_4 : decode cX8_readBits 4 = .ok (.aload_n 0, 1) := by decide +kernel
theorem dX8_readBits_5 : decode cX8_readBits 5 = .ok (.iload_n 2, 1) := by decide +kernel
theorem dX8_readBits_6 : decode cX8_readBits 6 = .ok (.iload_n 3, 1) := by decide +kernel
theorem dX8_readBits_7 : decode cX8_readBits 7 = .ok (.invokevirtual 85, 3) := by decide +kernel
theorem dX8_readBits_10 : decode cX8_readBits 10 = .ok (.ireturn, 1) := by decide +kernel
theorem dX8_readBits_11 : decode cX8_readBits 11 = .ok (.iload_n 1, 1) := by decide +kernel
theorem dX8_readBits_12 : decode cX8_readBits 12 = .ok (.iconst 1, 1) := by decide +kernel
theorem dX8_readBits_13 : decode cX8_readBits 13 = .ok (.if_icmp .ne 19, 3) := by decide +kernel
theorem dX8_readBits_16 : decode cX8_readBits 16 = .ok (.aload_n 0, 1) := by decide +kernel
theorem dX8_readBits_17 : decode cX8_readBits 17 = .ok (.getfield 18, 3) := by decide +kernel
theorem dX8_readBits_20 : decode cX8_readBits 20 = .ok (.getfield 78, 3) := by decide +kernel
theorem dX8_readBits_23 : decode cX8_readBits 23 = .ok (.iconst 1, 1) := by decide +kernel
theorem dX8_readBits_24 : decode cX8_readBits 24 = .ok (.iload_n 3, 1) := by decide +kernel
theorem dX8_readBits_25 : decode cX8_readBits 25 = .ok (.ishl, 1) := by decide +kernel
theorem dX8_readBits_26 : decode cX8_readBits 26 = .ok (.iconst (-1), 1) := by decide +kernel
theorem dX8_readBits_27 : decode cX8_readBits 27 = .ok (.ixor, 1) := by decide +kernel
theorem dX8_readBits_28 : decode cX8_readBits 28 = .ok (.iand, 1) := by decide +kernel
theorem dX8_readBits_29 : decode cX8_readBits 29 = .ok (.goto 10, 3) := by decide +kernel
theorem dX8_readBits_32 : decode cX8_readBits 32 = .ok (.aload_n 0, 1) := by decide +kernel
theorem dX8_readBits_33 : decode cX8_readBits 33 = .ok (.getfield 18, 3) := by decide +kernel
theorem dX8_readBits_36 : decode cX8_readBits 36 = .ok (.getfield 88, 3) := by decide +kernel
theorem dX8_readBits_39 : decode cX8_readBits 39 = .ok (.istore 4, 2) := by decide +kernel
theorem dX8_readBits_41 : decode cX8_readBits 41 = .ok (.iload 4, 2) := by decide +kernel
theorem dX8_readBits_43 : decode cX8_readBits 43 = .ok (.iload_n 2, 1) := by decide +kernel
theorem dX8_readBits_44 : decode cX8_readBits 44 = .ok (.iconst (-1), 1) := by decide +kernel
theorem dX8_readBits_45 : decode cX8_readBits 45 = .ok (.ixor, 1) := by decide +kernel
theorem dX8_readBits_46 : decode cX8_readBits 46 = .ok (.iand, 1) := by decide +kernel
theorem dX8_readBits_47 : decode cX8_readBits 47 = .ok (.ireturn, 1) := by decide +kernel
theorem dJ6_bitCount_0f7a4_0 : decode cJ6_bitCount_0f7a4 0 = .ok (.iload_n 0, 1) := by decide +kernel
theorem dJ6_bitCount_0f7a4_1 : decode cJ6_bitCount_0f7a4 1 = .ok (.iload_n 0, 1) := by decide +kernel
theorem dJ6_bitCount_0f7a4_2 : decode cJ6_bitCount_0f7a4 2 = .ok (.iconst 1, 1) := by decide +kernel
theorem dJ6_bitCount_0f7a4_3 : decode cJ6_bitCount_0f7a4 3 = .ok (.iushr, 1) := by decide +kernel
theorem dJ6_bitCount_0f7a4_4 : decode cJ6_bitCount_0f7a4 4 = .ok (.ldc_w 265, 3) := by decide +kernel
theorem dJ6_bitCount_0f7a4_7 : decode cJ6_bitCount_0f7a4 7 = .ok (.iand, 1) := by decide +kernel
theorem dJ6_bitCount_0f7a4_8 : decode cJ6_bitCount_0f7a4 8 = .ok (.isub, 1) := by decide +kernel
theorem dJ6_bitCount_0f7a4_9 : decode cJ6_bitCount_0f7a4 9 = .ok (.istore_n 0, 1) := by decide +kernel
theorem dJ6_bitCount_0f7a4_10 : decode cJ6_bitCount_0f7a4 10 = .ok (.iload_n 0, 1) := by decide +kernel
theorem dJ6_bitCount_0f7a4_11 : decode cJ6_bitCount_0f7a4 11 = .ok (.ldc_w 266, 3) := by decide +kernel
theorem dJ6_bitCount_0f7a4_14 : decode cJ6_bitCount_0f7a4 14 = .ok (.iand, 1) := by decide +kernel
theorem dJ6_bitCount_0f7a4_15 : decode cJ6_bitCount_0f7a4 15 = .ok (.iload_n 0, 1) := by decide +kernel
theorem dJ6_bitCount_0f7a4_16 : decode cJ6_bitCount_0f7a4 16 = .ok (.iconst 2, 1) := by decide +kernel
theorem dJ6_bitCount_0f7a4_17 : decode cJ6_bitCount_0f7a4 17 = .ok (.iushr, 1) := by decide +kernel
theorem dJ6_bitCount_0f7a4_18 : decode cJ6_bitCount_0f7a4 18 = .ok (.ldc_w 266, 3) := by decide +kernel
theorem dJ6_bitCount_0f7a4_21 : decode cJ6_bitCount_0f7a4 21 = .ok (.iand, 1) := by decide +kernel
theorem dJ6_bitCount_0f7a4_22 : decode cJ6_bitCount_0f7a4 22 = .ok (.iadd, 1) := by decide +kernel
theorem dJ6_bitCount_0f7a4_23 : decode cJ6_bitCount_0f7a4 23 = .ok (.istore_n 0, 1) := by decide +kernel
theorem dJ6_bitCount_0f7a4_24 : decode cJ6_bitCount_0f7a4 24 = .ok (.iload_n 0, 1) := by decide +kernel
theorem dJ6_bitCount_0f7a4_25 : decode cJ6_bitCount_0f7a4 25 = .ok (.iload_n 0, 1) := by decide +kernel
theorem dJ6_bitCount_0f7a4_26 : decode cJ6_bitCount_0f7a4 26 = .ok (.iconst 4, 1) := by decide +kernel
theorem dJ6_bitCount_0f7a4_27 : decode cJ6_bitCount_0f7a4 27 = .ok (.iushr, 1) := by decide +kernel
theorem dJ6_bitCount_0f7a4_28 : decode cJ6_bitCount_0f7a4 28 = .ok (.iadd, 1) := by decide +kernel
theorem dJ6_bitCount_0f7a4_29 : decode cJ6_bitCount_0f7a4 29 = .ok (.ldc_w 267, 3) := by decide +kernel
theorem dJ6_bitCount_0f7a4_32 : decode cJ6_bitCount_0f7a4 32 = .ok (.iand, 1) := by decide +kernel
theorem dJ6_bitCount_0f7a4_33 : decode cJ6_bitCount_0f7a4 33 = .ok (.istore_n 0, 1) := by decide +kernel
theorem dJ6_bitCount_0f7a4_34 : decode cJ6_bitCount_0f7a4 34 = .ok (.iload_n 0, 1) := by decide +kernel
theorem dJ6_bitCount_0f7a4_35 : decode cJ6_bitCount_0f7a4 35 = .ok (.iload_n 0, 1) := by decide +kernel
theorem dJ6_bitCount_0f7a4_36 : decode cJ6_bitCount_0f7a4 36 = .ok (.bipush 8, 2) := by decide +kernel
theorem dJ6_bitCount_0f7a4_38 : decode cJ6_bitCount_0f7a4 38 = .ok (.iushr, 1) := by decide +kernel
theorem dJ6_bitCount_0f7a4_39 : decode cJ6_bitCount_0f7a4 39 = .ok (.iadd, 1) := by decide +kernel
theorem dJ6_bitCount_0f7a4_40 : decode cJ6_bitCount_0f7a4 40 = .ok (.istore_n 0, 1) := by decide +kernel
theorem dJ6_bitCount_0f7a4_41 : decode cJ6_bitCount_0f7a4 41 = .ok (.iload_n 0, 1) := by decide +kernel
theorem dJ6_bitCount_0f7a4_42 : decode cJ6_bitCount_0f7a4 42 = .ok (.iload_n 0, 1) := by decide +kernel
theorem dJ6_bitCount_0f7a4_43 : decode cJ6_bitCount_0f7a4 43 = .ok (.bipush 16, 2) := by decide +kernel
theorem dJ6_bitCount_0f7a4_45 : decode cJ6_bitCount_0f7a4 45 = .ok (.iushr, 1) := by decide +kernel
theorem dJ6_bitCount_0f7a4_46 : decode cJ6_bitCount_0f7a4 46 = .ok (.iadd, 1) := by decide +kernel
theorem dJ6_bitCount_0f7a4_47 : decode cJ6_bitCount_0f7a4 47 = .ok (.istore_n 0, 1) := by decide +kernel
theorem dJ6_bitCount_0f7a4_48 : decode cJ6_bitCount_0f7a4 48 = .ok (.iload_n 0, 1) := by decide +kernel
theorem dJ6_bitCount_0f7a4_49 : decode cJ6_bitCount_0f7a4 49 = .ok (.bipush 63, 2) := by decide +kernel
theorem dJ6_bitCount_0f7a4_51 : decode cJ6_bitCount_0f7a4 51 = .ok (.iand, 1) := by decide +kernel
theorem dJ6_bitCount_0f7a4_52 : decode cJ6_bitCount_0f7a4 52 = .ok (.ireturn, 1) := by decide +kernel
theorem dX8_wayOf_0 : decode cX8_wayOf 0 = .ok (.iload_n 1, 1) := by decide +kernel
theorem dX8_wayOf_1 : decode cX8_wayOf 1 = .ok (.iload_n 2, 1) := by decide +kernel
theorem dX8_wayOf_2 : decode cX8_wayOf 2 = .ok (.ishr, 1) := by decide +kernel
theorem dX8_wayOf_3 : decode cX8_wayOf 3 = .ok (.iconst 1, 1) := by decide +kernel
theorem dX8_wayOf_4 : decode cX8_wayOf 4 = .ok (.iand, 1) := by decide +kernel
theorem dX8_wayOf_5 : decode cX8_wayOf 5 = .ok (.ifCond .ne 7, 3) := by decide +kernel
theorem dX8_wayOf_8 : decode cX8_wayOf 8 = .ok (.iconst 1, 1) := by decide +kernel
theorem dX8_wayOf_9 : decode cX8_wayOf 9 = .ok (.goto 4, 3) := by decide +kernel
theorem dX8_wayOf_12 : decode cX8_wayOf 12 = .ok (.iconst 0, 1) := by decide +kernel
theorem dX8_wayOf_13 : decode cX8_wayOf 13 = .ok (.istore_n 3, 1) := by decide +kernel
theorem dX8_wayOf_14 : decode cX8_wayOf 14 = .ok (.iload_n 1, 1) := by decide +kernel
theorem dX8_wayOf_15 : decode cX8_wayOf 15 = .ok (.aload_n 0, 1) := by decide +kernel
theorem dX8_wayOf_16 : decode cX8_wayOf 16 = .ok (.getfield 18, 3) := by decide +kernel
theorem dX8_wayOf_19 : decode cX8_wayOf 19 = .ok (.getfield 78, 3) := by decide +kernel
theorem dX8_wayOf_22 : decode cX8_wayOf 22 = .ok (.iand, 1) := by decide +kernel
theorem dX8_wayOf_23 : decode cX8_wayOf 23 = .ok (.iconst 1, 1) := by decide +kernel
theorem dX8_wayOf_24 : decode cX8_wayOf 24 = .ok (.iload_n 2, 1) := by decide +kernel
theorem dX8_wayOf_25 : decode cX8_wayOf 25 = .ok (.ishl, 1) := by decide +kernel
theorem dX8_wayOf_26 : decode cX8_wayOf 26 = .ok (.iconst (-1), 1) := by decide +kernel
theorem dX8_wayOf_27 : decode cX8_wayOf 27 = .ok (.ixor, 1) := by decide +kernel
theorem dX8_wayOf_28 : decode cX8_wayOf 28 = .ok (.iand, 1) := by decide +kernel
theorem dX8_wayOf_29 : decode cX8_wayOf 29 = .ok (.ifCond .ne 7, 3) := by decide +kernel
theorem dX8_wayOf_32 : decode cX8_wayOf 32 = .ok (.iconst 1, 1) := by decide +kernel
theorem dX8_wayOf_33 : decode cX8_wayOf 33 = .ok (.goto 4, 3) := by decide +kernel
theorem dX8_wayOf_36 : decode cX8_wayOf 36 = .ok (.iconst 0, 1) := by decide +kernel
theorem dX8_wayOf_37 : decode cX8_wayOf 37 = .ok (.istore 4, 2) := by decide +kernel
theorem dX8_wayOf_39 : decode cX8_wayOf 39 = .ok (.iload_n 3, 1) := by decide +kernel
theorem dX8_wayOf_40 : decode cX8_wayOf 40 = .ok (.ifCond .ne 14, 3) := by decide +kernel
theorem dX8_wayOf_43 : decode cX8_wayOf 43 = .ok (.iload 4, 2) := by decide +kernel
theorem dX8_wayOf_45 : decode cX8_wayOf 45 = .ok (.ifCond .eq 7, 3) := by decide +kernel
theorem dX8_wayOf_48 : decode cX8_wayOf 48 = .ok (.iconst 1, 1) := by decide +kernel
theorem dX8_wayOf_49 : decode cX8_wayOf 49 = .ok (.goto 4, 3) := by decide +kernel
theorem dX8_wayOf_52 : decode cX8_wayOf 52 = .ok (.iconst 2, 1) := by decide +kernel
theorem dX8_wayOf_53 : decode cX8_wayOf 53 = .ok (.ireturn, 1) := by decide +kernel
theorem dX8_wayOf_54 : decode cX8_wayOf 54 = .ok (.aload_n 0, 1) := by decide +kernel
theorem dX8_wayOf_55 : decode cX8_wayOf 55 = .ok (.iconst 0, 1) := by decide +kernel
theorem dX8_wayOf_56 : decode cX8_wayOf 56 = .ok (.iload_n 1, 1) := by decide +kernel
theorem dX8_wayOf_57 : decode cX8_wayOf 57 = .ok (.iload_n 2, 1) := by decide +kernel
theorem dX8_wayOf_58 : decode cX8_wayOf 58 = .ok (.invokevirtual 81, 3) := by decide +kernel
theorem dX8_wayOf_61 : decode cX8_wayOf 61 = .ok (.invokestatic 56, 3) := by decide +kernel
theorem dX8_wayOf_64 : decode cX8_wayOf 64 = .ok (.istore 5, 2) := by decide +kernel
theorem dX8_wayOf_66 : decode cX8_wayOf 66 = .ok (.aload_n 0, 1) := by decide +kernel
theorem dX8_wayOf_67 : decode cX8_wayOf 67 = .ok (.iconst 1, 1) := by decide +kernel
theorem dX8_wayOf_68 : decode cX8_wayOf 68 = .ok (.iload_n 1, 1) := by decide +kernel
theorem dX8_wayOf_69 : decode cX8_wayOf 69 = .ok (.iload_n 2, 1) := by decide +kernel
theorem dX8_wayOf_70 : decode cX8_wayOf 70 = .ok (.invokevirtual 81, 3) := by decide +kernel
theorem dX8_wayOf_73 : decode cX8_wayOf 73 = .ok (.invokestatic 56, 3) := by decide +kernel
theorem dX8_wayOf_76 : decode cX8_wayOf 76 = .ok (.istore 6, 2) := by decide +kernel
theorem dX8_wayOf_78 : decode cX8_wayOf 78 = .ok (.iload 4, 2) := by decide +kernel
theorem dX8_wayOf_80 : decode cX8_wayOf 80 = .ok (.ifCond .eq 14, 3) := by decide +kernel
theorem dX8_wayOf_83 : decode cX8_wayOf 83 = .ok (.iload 6, 2) := by decide +kernel
theorem dX8_wayOf_85 : decode cX8_wayOf 85 = .ok (.iload 5, 2) := by decide +kernel
theorem dX8_wayOf_87 : decode cX8_wayOf 87 = .ok (.if_icmp .ge 7, 3) := by decide +kernel
theorem dX8_wayOf_90 : decode cX8_wayOf 90 = .ok (.iconst 1, 1) := by decide +kernel
theorem dX8_wayOf_91 : decode cX8_wayOf 91 = .ok (.goto 4, 3) := by decide +kernel
theorem dX8_wayOf_94 : decode cX8_wayOf 94 = .ok (.iconst 0, 1) := by decide +kernel
theorem dX8_wayOf_95 : decode cX8_wayOf 95 = .ok (.ireturn, 1) := by decide +kernel
theorem dX4_costOf_0 : decode cX4_costOf 0 = .ok (.aload_n 0, 1) := by decide +kernel
theorem dX4_costOf_1 : decode cX4_costOf 1 = .ok (.getfield 21, 3) := by decide +kernel
theorem dX4_costOf_4 : decode cX4_costOf 4 = .ok (.iload_n 1, 1) := by decide +kernel
theorem dX4_costOf_5 : decode cX4_costOf 5 = .ok (.invokevirtual 22, 3) := by decide +kernel
theorem dX4_costOf_8 : decode cX4_costOf 8 = .ok (.istore_n 3, 1) := by decide +kernel
theorem dX4_costOf_9 : decode cX4_costOf 9 = .ok (.aload_n 0, 1) := by decide +kernel
theorem dX4_costOf_10 : decode cX4_costOf 10 = .ok (.getfield 9, 3) := by decide +kernel
theorem dX4_costOf_13 : decode cX4_costOf 13 = .ok (.aload_n 0, 1) := by decide +kernel
theorem dX4_costOf_14 : decode cX4_costOf 14 = .ok (.getfield 21, 3) := by decide +kernel
theorem dX4_costOf_17 : decode cX4_costOf 17 = .ok (.iload_n 1, 1) := by decide +kernel
theorem dX4_costOf_18 : decode cX4_costOf 18 = .ok (.invokevirtual 28, 3) := by decide +kernel
theorem dX4_costOf_21 : decode cX4_costOf 21 = .ok (.invokevirtual 31, 3) := by decide +kernel
theorem dX4_costOf_24 : decode cX4_costOf 24 = .ok (.istore 4, 2) := by decide +kernel
theorem dX4_costOf_26 : decode cX4_costOf 26 = .ok (.aload_n 0, 1) := by decide +kernel
theorem dX4_costOf_27 : decode cX4_costOf 27 = .ok (.getfield 9, 3) := by decide +kernel
theorem dX4_costOf_30 : decode cX4_costOf 30 = .ok (.iload 4, 2) := by decide +kernel
theorem dX4_costOf_32 : decode cX4_costOf 32 = .ok (.iload_n 3, 1) := by decide +kernel
theorem dX4_costOf_33 : decode cX4_costOf 33 = .ok (.invokevirtual 34, 3) := by decide +kernel
theorem dX4_costOf_36 : decode cX4_costOf 36 = .ok (.istore 5, 2) := by decide +kernel
theorem dX4_costOf_38 : decode cX4_costOf 38 = .ok (.iload_n 2, 1) := by decide +kernel
theorem dX4_costOf_39 : decode cX4_costOf 39 = .ok (.tableswitch 58 0 2 #[25, 41, 55], 25) := by decide +kernel
theorem dX4_costOf_64 : decode cX4_costOf 64 = .ok (.aload_n 0, 1) := by decide +kernel
theorem dX4_costOf_65 : decode cX4_costOf 65 = .ok (.getfield 9, 3) := by decide +kernel
theorem dX4_costOf_68 : decode cX4_costOf 68 = .ok (.iload 5, 2) := by decide +kernel
theorem dX4_costOf_70 : decode cX4_costOf 70 = .ok (.iload 4, 2) := by decide +kernel
theorem dX4_costOf_72 : decode cX4_costOf 72 = .ok (.iload_n 3, 1) := by decide +kernel
theorem dX4_costOf_73 : decode cX4_costOf 73 = .ok (.invokevirtual 38, 3) := by decide +kernel
theorem dX4_costOf_76 : decode cX4_costOf 76 = .ok (.invokestatic 42, 3) := by decide +kernel
theorem dX4_costOf_79 : decode cX4_costOf 79 = .ok (.ireturn, 1) := by decide +kernel
theorem dX4_costOf_80 : decode cX4_costOf 80 = .ok (.aload_n 0, 1) := by decide +kernel
theorem dX4_costOf_81 : decode cX4_costOf 81 = .ok (.getfield 9, 3) := by decide +kernel
theorem dX4_costOf_84 : decode cX4_costOf 84 = .ok (.iload 4, 2) := by decide +kernel
theorem dX4_costOf_86 : decode cX4_costOf 86 = .ok (.iload_n 3, 1) := by decide +kernel
theorem dX4_costOf_87 : decode cX4_costOf 87 = .ok (.invokevirtual 47, 3) := by decide +kernel
theorem dX4_costOf_90 : decode cX4_costOf 90 = .ok (.invokestatic 42, 3) := by decide +kernel
theorem dX4_costOf_93 : decode cX4_costOf 93 = .ok (.ireturn, 1) := by decide +kernel
theorem dX4_costOf_94 : decode cX4_costOf 94 = .ok (.iload 5, 2) := by decide +kernel
theorem dX4_costOf_96 : decode cX4_costOf 96 = .ok (.ireturn, 1) := by decide +kernel
theorem dX4_costOf_97 : decode cX4_costOf 97 = .ok (.iconst (-1), 1) := by decide +kernel
theorem dX4_costOf_98 : decode cX4_costOf 98 = .ok (.ireturn, 1) := by decide +kernel
theorem dX6_partOn_0 : decode cX6_partOn 0 = .ok (.aload_n 0, 1) := by decide +kernel
theorem dX6_partOn_1 : decode cX6_partOn 1 = .ok (.getfield 25, 3) := by decide +kernel
theorem dX6_partOn_4 : decode cX6_partOn 4 = .ok (.iconst 1, 1) := by decide +kernel
theorem dX6_partOn_5 : decode cX6_partOn 5 = .ok (.if_icmp .ge 5, 3) := by decide +kernel
theorem dX6_partOn_8 : decode cX6_partOn 8 = .ok (.iconst 0, 1) := by decide +kernel
theorem dX6_partOn_9 : decode cX6_partOn 9 = .ok (.ireturn, 1) := by decide +kernel
theorem dX6_partOn_10 : decode cX6_partOn 10 = .ok (.iload_n 1, 1) := by decide +kernel
theorem dX6_partOn_11 : decode cX6_partOn 11 = .ok (.aload_n 0, 1) := by decide +kernel
theorem dX6_partOn_12 : decode cX6_partOn 12 = .ok (.getfield 25, 3) := by decide +kernel
theorem dX6_partOn_15 : decode cX6_partOn 15 = .ok (.iconst 1, 1) := by decide +kernel
theorem dX6_partOn_16 : decode cX6_partOn 16 = .ok (.isub, 1) := by decide +kernel
theorem dX6_partOn_17 : decode cX6_partOn 17 = .ok (.iload_n 2, 1) := by decide +kernel
theorem dX6_partOn_18 : decode cX6_partOn 18 = .ok (.aload_n 0, 1) := by decide +kernel
theorem dX6_partOn_19 : decode cX6_partOn 19 = .ok (.getfield 25, 3) := by decide +kernel
theorem dX6_partOn_22 : decode cX6_partOn 22 = .ok (.irem, 1) := by decide +kernel
theorem dX6_partOn_23 : decode cX6_partOn 23 = .ok (.isub, 1) := by decide +kernel
theorem dX6_partOn_24 : decode cX6_partOn 24 = .ok (.isub, 1) := by decide +kernel
theorem dX6_partOn_25 : decode cX6_partOn 25 = .ok (.aload_n 0, 1) := by decide +kernel
theorem dX6_partOn_26 : decode cX6_partOn 26 = .ok (.getfield 25, 3) := by decide +kernel
theorem dX6_partOn_29 : decode cX6_partOn 29 = .ok (.invokestatic 60, 3) := by decide +kernel
theorem dX6_partOn_32 : decode cX6_partOn 32 = .ok (.istore_n 3, 1) := by decide +kernel
theorem dX6_partOn_33 : decode cX6_partOn 33 = .ok (.iload_n 3, 1) := by decide +kernel
theorem dX6_partOn_34 : decode cX6_partOn 34 = .ok (.iconst 2, 1) := by decide +kernel
theorem dX6_partOn_35 : decode cX6_partOn 35 = .ok (.if_icmp .ge 12, 3) := by decide +kernel
theorem dX6_partOn_38 : decode cX6_partOn 38 = .ok (.aload_n 0, 1) := by decide +kernel
theorem dX6_partOn_39 : decode cX6_partOn 39 = .ok (.getfield 7, 3) := by decide +kernel
theorem dX6_partOn_42 : decode cX6_partOn 42 = .ok (.iload_n 3, 1) := by decide +kernel
theorem dX6_partOn_43 : decode cX6_partOn 43 = .ok (.iadd, 1) := by decide +kernel
theorem dX6_partOn_44 : decode cX6_partOn 44 = .ok (.goto 6, 3) := by decide +kernel
theorem dX6_partOn_47 : decode cX6_partOn 47 = .ok (.iload_n 3, 1) := by decide +kernel
theorem dX6_partOn_48 : decode cX6_partOn 48 = .ok (.iconst 2, 1) := by decide +kernel
theorem dX6_partOn_49 : decode cX6_partOn 49 = .ok (.isub, 1) := by decide +kernel
theorem dX6_partOn_50 : decode cX6_partOn 50 = .ok (.ireturn, 1) := by decide +kernel
theorem dX9_byteAt_0 : decode cX9_byteAt 0 = .ok (.iload_n 1, 1) := by decide +kernel
theorem dX9_byteAt_1 : decode cX9_byteAt 1 = .ok (.bipush 12, 2) := by decide +kernel
theorem dX9_byteAt_3 : decode cX9_byteAt 3 = .ok (.imul, 1) := by decide +kernel
theorem dX9_byteAt_4 : decode cX9_byteAt 4 = .ok (.iload_n 2, 1) := by decide +kernel
theorem dX9_byteAt_5 : decode cX9_byteAt 5 = .ok (.iadd, 1) := by decide +kernel
theorem dX9_byteAt_6 : decode cX9_byteAt 6 = .ok (.istore 4, 2) := by decide +kernel
theorem dX9_byteAt_8 : decode cX9_byteAt 8 = .ok (.iload 4, 2) := by decide +kernel
theorem dX9_byteAt_10 : decode cX9_byteAt 10 = .ok (.ifCond .lt 38, 3) := by decide +kernel
theorem dX9_byteAt_13 : decode cX9_byteAt 13 = .ok (.iload 4, 2) := by decide +kernel
theorem dX9_byteAt_15 : decode cX9_byteAt 15 = .ok (.bipush 96, 2) := by decide +kernel
theorem dX9_byteAt_17 : decode cX9_byteAt 17 = .ok (.if_icmp .ge 31, 3) := by decide +kernel
theorem dX9_byteAt_20 : decode cX9_byteAt 20 = .ok (.iload_n 3, 1) := by decide +kernel
theorem dX9_byteAt_21 : decode cX9_byteAt 21 = .ok (.ifCond .lt 27, 3) := by decide +kernel
theorem dX9_byteAt_24 : decode cX9_byteAt 24 = .ok (.iload_n 3, 1) := by decide +kernel
theorem dX9_byteAt_25 : decode cX9_byteAt 25 = .ok (.iconst 4, 1) := by decide +kernel
theorem dX9_byteAt_26 : decode cX9_byteAt 26 = .ok (.if_icmp .ge 22, 3) := by decide +kernel
theorem dX9_byteAt_29 : decode cX9_byteAt 29 = .ok (.aload_n 0, 1) := by decide +kernel
theorem dX9_byteAt_30 : decode cX9_byteAt 30 = .ok (.getfield 11, 3) := by decide +kernel
theorem dX9_byteAt_33 : decode cX9_byteAt 33 = .ok (.iload 4, 2) := by decide +kernel
theorem dX9_byteAt_35 : decode cX9_byteAt 35 = .ok (.iaload, 1) := by decide +kernel
theorem dX9_byteAt_36 : decode cX9_byteAt 36 = .ok (.bipush 8, 2) := by decide +kernel
theorem dX9_byteAt_38 : decode cX9_byteAt 38 = .ok (.iload_n 3, 1) := by decide +kernel
theorem dX9_byteAt_39 : decode cX9_byteAt 39 = .ok (.imul, 1) := by decide +kernel
theorem dX9_byteAt_40 : decode cX9_byteAt 40 = .ok (.iushr, 1) := by decide +kernel
theorem dX9_byteAt_41 : decode cX9_byteAt 41 = .ok (.sipush 255, 3) := by decide +kernel
theorem dX9_byteAt_44 : decode cX9_byteAt 44 = .ok (.iand, 1) := by decide +kernel
theorem dX9_byteAt_45 : decode cX9_byteAt 45 = .ok (.goto 4, 3) := by decide +kernel
theorem dX9_byteAt_48 : decode cX9_byteAt 48 = .ok (.iconst 0, 1) := by decide +kernel
theorem dX9_byteAt_49 : decode cX9_byteAt 49 = .ok (.ireturn, 1) := by decide +kernel
theorem dX5_load_0 : decode cX5_load 0 = .ok (.iconst 0, 1) := by decide +kernel
theorem dX5_load_1 : decode cX5_load 1 = .ok (.istore 5, 2) := by decide +kernel
theorem dX5_load_3 : decode cX5_load 3 = .ok (.iload 5, 2) := by decide +kernel
theorem dX5_load_5 : decode cX5_load 5 = .ok (.aload_n 0, 1) := by decide +kernel
theorem dX5_load_6 : decode cX5_load 6 = .ok (.getfield 17, 3) := by decide +kernel
theorem dX5_load_9 : decode cX5_load 9 = .ok (.getfield 25, 3) := by decide +kernel
theorem dX5_load_12 : decode cX5_load 12 = .ok (.if_icmp .ge 68, 3) := by decide +kernel
theorem dX5_load_15 : decode cX5_load 15 = .ok (.iload 5, 2) := by decide +kernel
theorem dX5_load_17 : decode cX5_load 17 = .ok (.aload_n 0, 1) := by decide +kernel
theorem dX5_load_18 : decode cX5_load 18 = .ok (.getfield 11, 3) := by decide +kernel
theorem dX5_load_21 : decode cX5_load 21 = .ok (.arraylength, 1) := by decide +kernel
theorem dX5_load_22 : decode cX5_load 22 = .ok (.if_icmp .ge 58, 3) := by decide +kernel
theorem dX5_load_25 : decode cX5_load 25 = .ok (.iload 4, 2) := by decide +kernel
theorem dX5_load_27 : decode cX5_load 27 = .ok (.iload 5, 2) := by decide +kernel
theorem dX5_load_29 : decode cX5_load 29 = .ok (.ishr, 1) := by decide +kernel
theorem dX5_load_30 : decode cX5_load 30 = .ok (.iconst 1, 1) := by decide +kernel
theorem dX5_load_31 : decode cX5_load 31 = .ok (.iand, 1) := by decide +kernel
theorem dX5_load_32 : decode cX5_load 32 = .ok (.ifCond .ne 7, 3) := by decide +kernel
theorem dX5_load_35 : decode cX5_load 35 = .ok (.iconst 1, 1) := by decide +kernel
theorem dX5_load_36 : decode cX5_load 36 = .ok (.goto 4, 3) := by decide +kernel
theorem dX5_load_39 : decode cX5_load 39 = .ok (.iconst 0, 1) := by decide +kernel
theorem dX5_load_40 : decode cX5_load 40 = .ok (.istore 6, 2) := by decide +kernel
theorem dX5_load_42 : decode cX5_load 42 = .ok (.aload_n 0, 1) := by decide +kernel
theorem dX5_load_43 : decode cX5_load 43 = .ok (.getfield 11, 3) := by decide +kernel
theorem dX5_load_46 : decode cX5_load 46 = .ok (.iload 5, 2) := by decide +kernel
theorem dX5_load_48 : decode cX5_load 48 = .ok (.iload 6, 2) := by decide +kernel
theorem dX5_load_50 : decode cX5_load 50 = .ok (.ifCond .eq 22, 3) := by decide +kernel
theorem dX5_load_53 : decode cX5_load 53 = .ok (.aload_n 1, 1) := by decide +kernel
theorem dX5_load_54 : decode cX5_load 54 = .ok (.aload_n 0, 1) := by decide +kernel
theorem dX5_load_55 : decode cX5_load 55 = .ok (.getfield 17, 3) := by decide +kernel
theorem dX5_load_58 : decode cX5_load 58 = .ok (.iload 5, 2) := by decide +kernel
theorem dX5_load_60 : decode cX5_load 60 = .ok (.iload_n 2, 1) := by decide +kernel
theorem dX5_load_61 : decode cX5_load 61 = .ok (.invokevirtual 31, 3) := by decide +kernel
theorem dX5_load_64 : decode cX5_load 64 = .ok (.iload_n 2, 1) := by decide +kernel
theorem dX5_load_65 : decode cX5_load 65 = .ok (.iload_n 3, 1) := by decide +kernel
theorem dX5_load_66 : decode cX5_load 66 = .ok (.invokevirtual 35, 3) := by decide +kernel
theorem dX5_load_69 : decode cX5_load 69 = .ok (.goto 4, 3) := by decide +kernel
theorem dX5_load_72 : decode cX5_load 72 = .ok (.iconst 0, 1) := by decide +kernel
theorem dX5_load_73 : decode cX5_load 73 = .ok (.iastore, 1) := by decide +kernel
theorem dX5_load_74 : decode cX5_load 74 = .ok (.iinc 5 1, 3) := by decide +kernel
theorem dX5_load_77 : decode cX5_load 77 = .ok (.goto (-74), 3) := by decide +kernel
theorem dX5_load_80 : decode cX5_load 80 = .ok (.return_, 1) := by decide +kernel
theorem dJ6_numberOfTrailingZeros_0f7a4_0 : decode cJ6_numberOfTrailingZeros_0f7a4 0 = .ok (.iload_n 0, 1) := by decide +kernel
theorem dJ6_numberOfTrailingZeros_0f7a4_1 : decode cJ6_numberOfTrailingZeros_0f7a4 1 = .ok (.iconst (-1), 1) := by decide +kernel
theorem dJ6_numberOfTrailingZeros_0f7a4_2 : decode cJ6_numberOfTrailingZeros_0f7a4 2 = .ok (.ixor, 1) := by decide +kernel
theorem dJ6_numberOfTrailingZeros_0f7a4_3 : decode cJ6_numberOfTrailingZeros_0f7a4 3 = .ok (.iload_n 0, 1) := by decide +kernel
theorem dJ6_numberOfTrailingZeros_0f7a4_4 : decode cJ6_numberOfTrailingZeros_0f7a4 4 = .ok (.iconst 1, 1) := by decide +kernel
theorem dJ6_numberOfTrailingZeros_0f7a4_5 : decode cJ6_numberOfTrailingZeros_0f7a4 5 = .ok (.isub, 1) := by decide +kernel
theorem dJ6_numberOfTrailingZeros_0f7a4_6 : decode cJ6_numberOfTrailingZeros_0f7a4 6 = .ok (.iand, 1) := by decide +kernel
theorem dJ6_numberOfTrailingZeros_0f7a4_7 : decode cJ6_numberOfTrailingZeros_0f7a4 7 = .ok (.istore_n 0, 1) := by decide +kernel
theorem dJ6_numberOfTrailingZeros_0f7a4_8 : decode cJ6_numberOfTrailingZeros_0f7a4 8 = .ok (.iload_n 0, 1) := by decide +kernel
theorem dJ6_numberOfTrailingZeros_0f7a4_9 : decode cJ6_numberOfTrailingZeros_0f7a4 9 = .ok (.ifCond .gt 8, 3) := by decide +kernel
theorem dJ6_numberOfTrailingZeros_0f7a4_12 : decode cJ6_numberOfTrailingZeros_0f7a4 12 = .ok (.iload_n 0, 1) := by decide +kernel
theorem dJ6_numberOfTrailingZeros_0f7a4_13 : decode cJ6_numberOfTrailingZeros_0f7a4 13 = .ok (.bipush 32, 2) := by decide +kernel
theorem dJ6_numberOfTrailingZeros_0f7a4_15 : decode cJ6_numberOfTrailingZeros_0f7a4 15 = .ok (.iand, 1) := by decide +kernel
theorem dJ6_numberOfTrailingZeros_0f7a4_16 : decode cJ6_numberOfTrailingZeros_0f7a4 16 = .ok (.ireturn, 1) := by decide +kernel
theorem dJ6_numberOfTrailingZeros_0f7a4_17 : decode cJ6_numberOfTrailingZeros_0f7a4 17 = .ok (.iconst 1, 1) := by decide +kernel
theorem dJ6_numberOfTrailingZeros_0f7a4_18 : decode cJ6_numberOfTrailingZeros_0f7a4 18 = .ok (.istore_n 1, 1) := by decide +kernel
theorem dJ6_numberOfTrailingZeros_0f7a4_19 : decode cJ6_numberOfTrailingZeros_0f7a4 19 = .ok (.iload_n 0, 1) := by decide +kernel
theorem dJ6_numberOfTrailingZeros_0f7a4_20 : decode cJ6_numberOfTrailingZeros_0f7a4 20 = .ok (.ldc_w 264, 3) := by decide +kernel
theorem dJ6_numberOfTrailingZeros_0f7a4_23 : decode cJ6_numberOfTrailingZeros_0f7a4 23 = .ok (.if_icmp .le 11, 3) := by decide +kernel
theorem dJ6_numberOfTrailingZeros_0f7a4_26 : decode cJ6_numberOfTrailingZeros_0f7a4 26 = .ok (.iinc 1 16, 3) := by decide +kernel
theorem dJ6_numberOfTrailingZeros_0f7a4_29 : decode cJ6_numberOfTrailingZeros_0f7a4 29 = .ok (.iload_n 0, 1) := by decide +kernel
theorem dJ6_numberOfTrailingZeros_0f7a4_30 : decode cJ6_numberOfTrailingZeros_0f7a4 30 = .ok (.bipush 16, 2) := by decide +kernel
theorem dJ6_numberOfTrailingZeros_0f7a4_32 : decode cJ6_numberOfTrailingZeros_0f7a4 32 = .ok (.iushr, 1) := by decide +kernel
theorem dJ6_numberOfTrailingZeros_0f7a4_33 : decode cJ6_numberOfTrailingZeros_0f7a4 33 = .ok (.istore_n 0, 1) := by decide +kernel
theorem dJ6_numberOfTrailingZeros_0f7a4_34 : decode cJ6_numberOfTrailingZeros_0f7a4 34 = .ok (.iload_n 0, 1) := by decide +kernel
theorem dJ6_numberOfTrailingZeros_0f7a4_35 : decode cJ6_numberOfTrailingZeros_0f7a4 35 = .ok (.sipush 256, 3) := by decide +kernel
theorem dJ6_numberOfTrailingZeros_0f7a4_38 : decode cJ6_numberOfTrailingZeros_0f7a4 38 = .ok (.if_icmp .le 11, 3) := by decide +kernel
theorem dJ6_numberOfTrailingZeros_0f7a4_41 : decode cJ6_numberOfTrailingZeros_0f7a4 41 = .ok (.iinc 1 8, 3) := by decide +kernel
theorem dJ6_numberOfTrailingZeros_0f7a4_44 : decode cJ6_numberOfTrailingZeros_0f7a4 44 = .ok (.iload_n 0, 1) := by decide +kernel
theorem dJ6_numberOfTrailingZeros_0f7a4_45 : decode cJ6_numberOfTrailingZeros_0f7a4 45 = .ok (.bipush 8, 2) := by decide +kernel
theorem dJ6_numberOfTrailingZeros_0f7a4_47 : decode cJ6_numberOfTrailingZeros_0f7a4 47 = .ok (.iushr, 1) := by decide +kernel
theorem dJ6_numberOfTrailingZeros_0f7a4_48 : decode cJ6_numberOfTrailingZeros_0f7a4 48 = .ok (.istore_n 0, 1) := by decide +kernel
theorem dJ6_numberOfTrailingZeros_0f7a4_49 : decode cJ6_numberOfTrailingZeros_0f7a4 49 = .ok (.iload_n 0, 1) := by decide +kernel
theorem dJ6_numberOfTrailingZeros_0f7a4_50 : decode cJ6_numberOfTrailingZeros_0f7a4 50 = .ok (.bipush 16, 2) := by decide +kernel
theorem dJ6_numberOfTrailingZeros_0f7a4_52 : decode cJ6_numberOfTrailingZeros_0f7a4 52 = .ok (.if_icmp .le 10, 3) := by decide +kernel
theorem dJ6_numberOfTrailingZeros_0f7a4_55 : decode cJ6_numberOfTrailingZeros_0f7a4 55 = .ok (.iinc 1 4, 3) := by decide +kernel
theorem dJ6_numberOfTrailingZeros_0f7a4_58 : decode cJ6_numberOfTrailingZeros_0f7a4 58 = .ok (.iload_n 0, 1) := by decide +kernel
theorem dJ6_numberOfTrailingZeros_0f7a4_59 : decode cJ6_numberOfTrailingZeros_0f7a4 59 = .ok (.iconst 4, 1) := by decide +kernel
theorem dJ6_numberOfTrailingZeros_0f7a4_60 : decode cJ6_numberOfTrailingZeros_0f7a4 60 = .ok (.iushr, 1) := by decide +kernel
theorem dJ6_numberOfTrailingZeros_0f7a4_61 : decode cJ6_numberOfTrailingZeros_0f7a4 61 = .ok (.istore_n 0, 1) := by decide +kernel
theorem dJ6_numberOfTrailingZeros_0f7a4_62 : decode cJ6_numberOfTrailingZeros_0f7a4 62 = .ok (.iload_n 0, 1) := by decide +kernel
theorem dJ6_numberOfTrailingZeros_0f7a4_63 : decode cJ6_numberOfTrailingZeros_0f7a4 63 = .ok (.iconst 4, 1) := by decide +kernel
theorem dJ6_numberOfTrailingZeros_0f7a4_64 : decode cJ6_numberOfTrailingZeros_0f7a4 64 = .ok (.if_icmp .le 10, 3) := by decide +kernel
theorem dJ6_numberOfTrailingZeros_0f7a4_67 : decode cJ6_numberOfTrailingZeros_0f7a4 67 = .ok (.iinc 1 2, 3) := by decide +kernel
theorem dJ6_numberOfTrailingZeros_0f7a4_70 : decode cJ6_numberOfTrailingZeros_0f7a4 70 = .ok (.iload_n 0, 1) := by decide +kernel
theorem dJ6_numberOfTrailingZeros_0f7a4_71 : decode cJ6_numberOfTrailingZeros_0f7a4 71 = .ok (.iconst 2, 1) := by decide +kernel
theorem dJ6_numberOfTrailingZeros_0f7a4_72 : decode cJ6_numberOfTrailingZeros_0f7a4 72 = .ok (.iushr, 1) := by decide +kernel
theorem dJ6_numberOfTrailingZeros_0f7a4_73 : decode cJ6_numberOfTrailingZeros_0f7a4 73 = .ok (.istore_n 0, 1) := by decide +kernel
theorem dJ6_numberOfTrailingZeros_0f7a4_74 : decode cJ6_numberOfTrailingZeros_0f7a4 74 = .ok (.iload_n 1, 1) := by decide +kernel
theorem dJ6_numberOfTrailingZeros_0f7a4_75 : decode cJ6_numberOfTrailingZeros_0f7a4 75 = .ok (.iload_n 0, 1) := by decide +kernel
theorem dJ6_numberOfTrailingZeros_0f7a4_76 : decode cJ6_numberOfTrailingZeros_0f7a4 76 = .ok (.iconst 1, 1) := by decide +kernel
theorem dJ6_numberOfTrailingZeros_0f7a4_77 : decode cJ6_numberOfTrailingZeros_0f7a4 77 = .ok (.iushr, 1) := by decide +kernel
theorem dJ6_numberOfTrailingZeros_0f7a4_78 : decode cJ6_numberOfTrailingZeros_0f7a4 78 = .ok (.iadd, 1) := by decide +kernel
theorem dJ6_numberOfTrailingZeros_0f7a4_79 : decode cJ6_numberOfTrailingZeros_0f7a4 79 = .ok (.ireturn, 1) := by decide +kernel
theorem dJ6_numberOfLeadingZeros_0f7a4_0 : decode cJ6_numberOfLeadingZeros_0f7a4 0 = .ok (.iload_n 0, 1) := by decide +kernel
theorem dJ6_numberOfLeadingZeros_0f7a4_1 : decode cJ6_numberOfLeadingZeros_0f7a4 1 = .ok (.ifCond .gt 14, 3) := by decide +kernel
theorem dJ6_numberOfLeadingZeros_0f7a4_4 : decode cJ6_numberOfLeadingZeros_0f7a4 4 = .ok (.iload_n 0, 1) := by decide +kernel
theorem dJ6_numberOfLeadingZeros_0f7a4_5 : decode cJ6_numberOfLeadingZeros_0f7a4 5 = .ok (.ifCond .ne 8, 3) := by decide +kernel
theorem dJ6_numberOfLeadingZeros_0f7a4_8 : decode cJ6_numberOfLeadingZeros_0f7a4 8 = .ok (.bipush 32, 2) := by decide +kernel
theorem dJ6_numberOfLeadingZeros_0f7a4_10 : decode cJ6_numberOfLeadingZeros_0f7a4 10 = .ok (.goto 4, 3) := by decide +kernel
theorem dJ6_numberOfLeadingZeros_0f7a4_13 : decode cJ6_numberOfLeadingZeros_0f7a4 13 = .ok (.iconst 0, 1) := by decide +kernel
theorem dJ6_numberOfLeadingZeros_0f7a4_14 : decode cJ6_numberOfLeadingZeros_0f7a4 14 = .ok (.ireturn, 1) := by decide +kernel
theorem dJ6_numberOfLeadingZeros_0f7a4_15 : decode cJ6_numberOfLeadingZeros_0f7a4 15 = .ok (.bipush 31, 2) := by decide +kernel
theorem dJ6_numberOfLeadingZeros_0f7a4_17 : decode cJ6_numberOfLeadingZeros_0f7a4 17 = .ok (.istore_n 1, 1) := by decide +kernel
theorem dJ6_numberOfLeadingZeros_0f7a4_18 : decode cJ6_numberOfLeadingZeros_0f7a4 18 = .ok (.iload_n 0, 1) := by decide +kernel
theorem dJ6_numberOfLeadingZeros_0f7a4_19 : decode cJ6_numberOfLeadingZeros_0f7a4 19 = .ok (.ldc_w 264, 3) := by decide +kernel
theorem dJ6_numberOfLeadingZeros_0f7a4_22 : decode cJ6_numberOfLeadingZeros_0f7a4 22 = .ok (.if_icmp .lt 11, 3) := by decide +kernel
theorem dJ6_numberOfLeadingZeros_0f7a4_25 : decode cJ6_numberOfLeadingZeros_0f7a4 25 = .ok (.iinc 1 (-16), 3) := by decide +kernel
theorem dJ6_numberOfLeadingZeros_0f7a4_28 : decode cJ6_numberOfLeadingZeros_0f7a4 28 = .ok (.iload_n 0, 1) := by decide +kernel
theorem dJ6_numberOfLeadingZeros_0f7a4_29 : decode cJ6_numberOfLeadingZeros_0f7a4 29 = .ok (.bipush 16, 2) := by decide +kernel
theorem dJ6_numberOfLeadingZeros_0f7a4_31 : decode cJ6_numberOfLeadingZeros_0f7a4 31 = .ok (.iushr, 1) := by decide +kernel
theorem dJ6_numberOfLeadingZeros_0f7a4_32 : decode cJ6_numberOfLeadingZeros_0f7a4 32 = .ok (.istore_n 0, 1) := by decide +kernel
theorem dJ6_numberOfLeadingZeros_0f7a4_33 : decode cJ6_numberOfLeadingZeros_0f7a4 33 = .ok (.iload_n 0, 1) := by decide +kernel
theorem dJ6_numberOfLeadingZeros_0f7a4_34 : decode cJ6_numberOfLeadingZeros_0f7a4 34 = .ok (.sipush 256, 3) := by decide +kernel
theorem dJ6_numberOfLeadingZeros_0f7a4_37 : decode cJ6_numberOfLeadingZeros_0f7a4 37 = .ok (.if_icmp .lt 11, 3) := by decide +kernel
theorem dJ6_numberOfLeadingZeros_0f7a4_40 : decode cJ6_numberOfLeadingZeros_0f7a4 40 = .ok (.iinc 1 (-8), 3) := by decide +kernel
theorem dJ6_numberOfLeadingZeros_0f7a4_43 : decode cJ6_numberOfLeadingZeros_0f7a4 43 = .ok (.iload_n 0, 1) := by decide +kernel
theorem dJ6_numberOfLeadingZeros_0f7a4_44 : decode cJ6_numberOfLeadingZeros_0f7a4 44 = .ok (.bipush 8, 2) := by decide +kernel
theorem dJ6_numberOfLeadingZeros_0f7a4_46 : decode cJ6_numberOfLeadingZeros_0f7a4 46 = .ok (.iushr, 1) := by decide +kernel
theorem dJ6_numberOfLeadingZeros_0f7a4_47 : decode cJ6_numberOfLeadingZeros_0f7a4 47 = .ok (.istore_n 0, 1) := by decide +kernel
theorem dJ6_numberOfLeadingZeros_0f7a4_48 : decode cJ6_numberOfLeadingZeros_0f7a4 48 = .ok (.iload_n 0, 1) := by decide +kernel
theorem dJ6_numberOfLeadingZeros_0f7a4_49 : decode cJ6_numberOfLeadingZeros_0f7a4 49 = .ok (.bipush 16, 2) := by decide +kernel
theorem dJ6_numberOfLeadingZeros_0f7a4_51 : decode cJ6_numberOfLeadingZeros_0f7a4 51 = .ok (.if_icmp .lt 10, 3) := by decide +kernel
theorem dJ6_numberOfLeadingZeros_0f7a4_54 : decode cJ6_numberOfLeadingZeros_0f7a4 54 = .ok (.iinc 1 (-4), 3) := by decide +kernel
theorem dJ6_numberOfLeadingZeros_0f7a4_57 : decode cJ6_numberOfLeadingZeros_0f7a4 57 = .ok (.iload_n 0, 1) := by decide +kernel
theorem dJ6_numberOfLeadingZeros_0f7a4_58 : decode cJ6_numberOfLeadingZeros_0f7a4 58 = .ok (.iconst 4, 1) := by decide +kernel
theorem dJ6_numberOfLeadingZeros_0f7a4_59 : decode cJ6_numberOfLeadingZeros_0f7a4 59 = .ok (.iushr, 1) := by decide +kernel
theorem dJ6_numberOfLeadingZeros_0f7a4_60 : decode cJ6_numberOfLeadingZeros_0f7a4 60 = .ok (.istore_n 0, 1) := by decide +kernel
theorem dJ6_numberOfLeadingZeros_0f7a4_61 : decode cJ6_numberOfLeadingZeros_0f7a4 61 = .ok (.iload_n 0, 1) := by decide +kernel
theorem dJ6_numberOfLeadingZeros_0f7a4_62 : decode cJ6_numberOfLeadingZeros_0f7a4 62 = .ok (.iconst 4, 1) := by decide +kernel
theorem dJ6_numberOfLeadingZeros_0f7a4_63 : decode cJ6_numberOfLeadingZeros_0f7a4 63 = .ok (.if_icmp .lt 10, 3) := by decide +kernel
theorem dJ6_numberOfLeadingZeros_0f7a4_66 : decode cJ6_numberOfLeadingZeros_0f7a4 66 = .ok (.iinc 1 (-2), 3) := by decide +kernel
theorem dJ6_numberOfLeadingZeros_0f7a4_69 : decode cJ6_numberOfLeadingZeros_0f7a4 69 = .ok (.iload_n 0, 1) := by decide +kernel
theorem dJ6_numberOfLeadingZeros_0f7a4_70 : decode cJ6_numberOfLeadingZeros_0f7a4 70 = .ok (.iconst 2, 1) := by decide +kernel
theorem dJ6_numberOfLeadingZeros_0f7a4_71 : decode cJ6_numberOfLeadingZeros_0f7a4 71 = .ok (.iushr, 1) := by decide +kernel
theorem dJ6_numberOfLeadingZeros_0f7a4_72 : decode cJ6_numberOfLeadingZeros_0f7a4 72 = .ok (.istore_n 0, 1) := by decide +kernel
theorem dJ6_numberOfLeadingZeros_0f7a4_73 : decode cJ6_numberOfLeadingZeros_0f7a4 73 = .ok (.iload_n 1, 1) := by decide +kernel
theorem dJ6_numberOfLeadingZeros_0f7a4_74 : decode cJ6_numberOfLeadingZeros_0f7a4 74 = .ok (.iload_n 0, 1) := by decide +kernel
theorem dJ6_numberOfLeadingZeros_0f7a4_75 : decode cJ6_numberOfLeadingZeros_0f7a4 75 = .ok (.iconst 1, 1) := by decide +kernel
theorem dJ6_numberOfLeadingZeros_0f7a4_76 : decode cJ6_numberOfLeadingZeros_0f7a4 76 = .ok (.iushr, 1) := by decide +kernel
theorem dJ6_numberOfLeadingZeros_0f7a4_77 : decode cJ6_numberOfLeadingZeros_0f7a4 77 = .ok (.isub, 1) := by decide +kernel
theorem dJ6_numberOfLeadingZeros_0f7a4_78 : decode cJ6_numberOfLeadingZeros_0f7a4 78 = .ok (.ireturn, 1) := by decide +kernel
theorem dX5_sumForP_0 : decode cX5_sumForP 0 = .ok (.iconst 0, 1) := by decide +kernel
theorem dX5_sumForP_1 : decode cX5_sumForP 1 = .ok (.istore_n 1, 1) := by decide +kernel
theorem dX5_sumForP_2 : decode cX5_sumForP 2 = .ok (.iconst 0, 1) := by decide +kernel
theorem dX5_sumForP_3 : decode cX5_sumForP 3 = .ok (.istore_n 2, 1) := by decide +kernel
theorem dX5_sumForP_4 : decode cX5_sumForP 4 = .ok (.iload_n 2, 1) := by decide +kernel
theorem dX5_sumForP_5 : decode cX5_sumForP 5 = .ok (.aload_n 0, 1) := by decide +kernel
theorem dX5_sumForP_6 : decode cX5_sumForP 6 = .ok (.getfield 17, 3) := by decide +kernel
theorem dX5_sumForP_9 : decode cX5_sumForP 9 = .ok (.getfield 64, 3) := by decide +kernel
theorem dX5_sumForP_12 : decode cX5_sumForP 12 = .ok (.if_icmp .ge 27, 3) := by decide +kernel
theorem dX5_sumForP_15 : decode cX5_sumForP 15 = .ok (.iload_n 2, 1) := by decide +kernel
theorem dX5_sumForP_16 : decode cX5_sumForP 16 = .ok (.aload_n 0, 1) := by decide +kernel
theorem dX5_sumForP_17 : decode cX5_sumForP 17 = .ok (.getfield 11, 3) := by decide +kernel
theorem dX5_sumForP_20 : decode cX5_sumForP 20 = .ok (.arraylength, 1) := by decide +kernel
theorem dX5_sumForP_21 : decode cX5_sumForP 21 = .ok (.if_icmp .ge 18, 3) := by decide +kernel
theorem dX5_sumForP_24 : decode cX5_sumForP 24 = .ok (.iload_n 1, 1) := by decide +kernel
theorem dX5_sumForP_25 : decode cX5_sumForP 25 = .ok (.aload_n 0, 1) := by decide +kernel
theorem dX5_sumForP_26 : decode cX5_sumForP 26 = .ok (.getfield 11, 3) := by decide +kernel
theorem dX5_sumForP_29 : decode cX5_sumForP 29 = .ok (.iload_n 2, 1) := by decide +kernel
theorem dX5_sumForP_30 : decode cX5_sumForP 30 = .ok (.iaload, 1) := by decide +kernel
theorem dX5_sumForP_31 : decode cX5_sumForP 31 = .ok (.ixor, 1) := by decide +kernel
theorem dX5_sumForP_32 : decode cX5_sumForP 32 = .ok (.istore_n 1, 1) := by decide +kernel
theorem dX5_sumForP_33 : decode cX5_sumForP 33 = .ok (.iinc 2 1, 3) := by decide +kernel
theorem dX5_sumForP_36 : decode cX5_sumForP 36 = .ok (.goto (-32), 3) := by decide +kernel
theorem dX5_sumForP_39 : decode cX5_sumForP 39 = .ok (.iload_n 1, 1) := by decide +kernel
theorem dX5_sumForP_40 : decode cX5_sumForP 40 = .ok (.ireturn, 1) := by decide +kernel
