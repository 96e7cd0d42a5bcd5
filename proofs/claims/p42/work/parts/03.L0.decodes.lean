theorem dL_lot_0 : decode cL_lot 0 = .ok (.iload_n 1, 1) := by decide +kernel
theorem dL_lot_1 : decode cL_lot 1 = .ok (.aload_n 0, 1) := by decide +kernel
theorem dL_lot_2 : decode cL_lot 2 = .ok (.arraylength, 1) := by decide +kernel
theorem dL_lot_3 : decode cL_lot 3 = .ok (.if_icmp .ge 9, 3) := by decide +kernel
theorem dL_lot_6 : decode cL_lot 6 = .ok (.aload_n 0, 1) := by decide +kernel
theorem dL_lot_7 : decode cL_lot 7 = .ok (.iload_n 1, 1) := by decide +kernel
theorem dL_lot_8 : decode cL_lot 8 = .ok (.iaload, 1) := by decide +kernel
theorem dL_lot_9 : decode cL_lot 9 = .ok (.goto 15, 3) := by decide +kernel
theorem dL_lot_12 : decode cL_lot 12 = .ok (.ldc 7, 2) := by decide +kernel
theorem dL_lot_14 : decode cL_lot 14 = .ok (.iload_n 1, 1) := by decide +kernel
theorem dL_lot_15 : decode cL_lot 15 = .ok (.sipush 4643, 3) := by decide +kernel
theorem dL_lot_18 : decode cL_lot 18 = .ok (.iadd, 1) := by decide +kernel
theorem dL_lot_19 : decode cL_lot 19 = .ok (.imul, 1) := by decide +kernel
theorem dL_lot_20 : decode cL_lot 20 = .ok (.sipush 4397, 3) := by decide +kernel
theorem dL_lot_23 : decode cL_lot 23 = .ok (.iadd, 1) := by decide +kernel
theorem dL_lot_24 : decode cL_lot 24 = .ok (.ireturn, 1) := by decide +kernel
theorem dL_low_0 : decode cL_low 0 = .ok (.iload_n 0, 1) := by decide +kernel
theorem dL_low_1 : decode cL_low 1 = .ok (.ldc 8, 2) := by decide +kernel
theorem dL_low_3 : decode cL_low 3 = .ok (.iand, 1) := by decide +kernel
theorem dL_low_4 : decode cL_low 4 = .ok (.iload_n 1, 1) := by decide +kernel
theorem dL_low_5 : decode cL_low 5 = .ok (.irem, 1) := by decide +kernel
theorem dL_low_6 : decode cL_low 6 = .ok (.ireturn, 1) := by decide +kernel
theorem dL_look_0 : decode cL_look 0 = .ok (.ldc2_w 9, 3) := by decide +kernel
theorem dL_look_3 : decode cL_look 3 = .ok (.lstore_n 1, 1) := by decide +kernel
theorem dL_look_4 : decode cL_look 4 = .ok (.iconst 0, 1) := by decide +kernel
theorem dL_look_5 : decode cL_look 5 = .ok (.istore_n 3, 1) := by decide +kernel
theorem dL_look_6 : decode cL_look 6 = .ok (.iload_n 3, 1) := by decide +kernel
theorem dL_look_7 : decode cL_look 7 = .ok (.bipush 18, 2) := by decide +kernel
theorem dL_look_9 : decode cL_look 9 = .ok (.if_icmp .ge 27, 3) := by decide +kernel
theorem dL_look_12 : decode cL_look 12 = .ok (.ldc2_w 11, 3) := by decide +kernel
theorem dL_look_15 : decode cL_look 15 = .ok (.lload_n 1, 1) := by decide +kernel
theorem dL_look_16 : decode cL_look 16 = .ok (.lmul, 1) := by decide +kernel
theorem dL_look_17 : decode cL_look 17 = .ok (.aload_n 0, 1) := by decide +kernel
theorem dL_look_18 : decode cL_look 18 = .ok (.iload_n 3, 1) := by decide +kernel
theorem dL_look_19 : decode cL_look 19 = .ok (.iconst 3, 1) := by decide +kernel
theorem dL_look_20 : decode cL_look 20 = .ok (.idiv, 1) := by decide +kernel
theorem dL_look_21 : decode cL_look 21 = .ok (.iload_n 3, 1) := by decide +kernel
theorem dL_look_22 : decode cL_look 22 = .ok (.iconst 3, 1) := by decide +kernel
theorem dL_look_23 : decode cL_look 23 = .ok (.irem, 1) := by decide +kernel
theorem dL_look_24 : decode cL_look 24 = .ok (.invokevirtual 13, 3) := by decide +kernel
theorem dL_look_27 : decode cL_look 27 = .ok (.i2l, 1) := by decide +kernel
theorem dL_look_28 : decode cL_look 28 = .ok (.ladd, 1) := by decide +kernel
theorem dL_look_29 : decode cL_look 29 = .ok (.lstore_n 1, 1) := by decide +kernel
theorem dL_look_30 : decode cL_look 30 = .ok (.iinc 3 1, 3) := by decide +kernel
theorem dL_look_33 : decode cL_look 33 = .ok (.goto (-27), 3) := by decide +kernel
theorem dL_look_36 : decode cL_look 36 = .ok (.iconst 0, 1) := by decide +kernel
theorem dL_look_37 : decode cL_look 37 = .ok (.istore_n 3, 1) := by decide +kernel
theorem dL_look_38 : decode cL_look 38 = .ok (.iload_n 3, 1) := by decide +kernel
theorem dL_look_39 : decode cL_look 39 = .ok (.bipush 8, 2) := by decide +kernel
theorem dL_look_41 : decode cL_look 41 = .ok (.if_icmp .ge 69, 3) := by decide +kernel
theorem dL_look_44 : decode cL_look 44 = .ok (.ldc2_w 11, 3) := by decide +kernel
theorem dL_look_47 : decode cL_look 47 = .ok (.ldc2_w 11, 3) := by decide +kernel
theorem dL_look_50 : decode cL_look 50 = .ok (.lload_n 1, 1) := by decide +kernel
theorem dL_look_51 : decode cL_look 51 = .ok (.lmul, 1) := by decide +kernel
theorem dL_look_52 : decode cL_look 52 = .ok (.aload_n 0, 1) := by decide +kernel
theorem dL_look_53 : decode cL_look 53 = .ok (.iload_n 3, 1) := by decide +kernel
theorem dL_look_54 : decode cL_look 54 = .ok (.iconst 4, 1) := by decide +kernel
theorem dL_look_55 : decode cL_look 55 = .ok (.irem, 1) := by decide +kernel
theorem dL_look_56 : decode cL_look 56 = .ok (.invokevirtual 19, 3) := by decide +kernel
theorem dL_look_59 : decode cL_look 59 = .ok (.i2l, 1) := by decide +kernel
theorem dL_look_60 : decode cL_look 60 = .ok (.ladd, 1) := by decide +kernel
theorem dL_look_61 : decode cL_look 61 = .ok (.lmul, 1) := by decide +kernel
theorem dL_look_62 : decode cL_look 62 = .ok (.aload_n 0, 1) := by decide +kernel
theorem dL_look_63 : decode cL_look 63 = .ok (.iload_n 3, 1) := by decide +kernel
theorem dL_look_64 : decode cL_look 64 = .ok (.invokevirtual 23, 3) := by decide +kernel
theorem dL_look_67 : decode cL_look 67 = .ok (.i2l, 1) := by decide +kernel
theorem dL_look_68 : decode cL_look 68 = .ok (.ladd, 1) := by decide +kernel
theorem dL_look_69 : decode cL_look 69 = .ok (.lstore_n 1, 1) := by decide +kernel
theorem dL_look_70 : decode cL_look 70 = .ok (.iconst 0, 1) := by decide +kernel
theorem dL_look_71 : decode cL_look 71 = .ok (.istore 4, 2) := by decide +kernel
theorem dL_look_73 : decode cL_look 73 = .ok (.iload 4, 2) := by decide +kernel
theorem dL_look_75 : decode cL_look 75 = .ok (.aload_n 0, 1) := by decide +kernel
theorem dL_look_76 : decode cL_look 76 = .ok (.iload_n 3, 1) := by decide +kernel
theorem dL_look_77 : decode cL_look 77 = .ok (.invokevirtual 23, 3) := by decide +kernel
theorem dL_look_80 : decode cL_look 80 = .ok (.if_icmp .ge 24, 3) := by decide +kernel
theorem dL_look_83 : decode cL_look 83 = .ok (.ldc2_w 11, 3) := by decide +kernel
theorem dL_look_86 : decode cL_look 86 = .ok (.lload_n 1, 1) := by decide +kernel
theorem dL_look_87 : decode cL_look 87 = .ok (.lmul, 1) := by decide +kernel
theorem dL_look_88 : decode cL_look 88 = .ok (.aload_n 0, 1) := by decide +kernel
theorem dL_look_89 : decode cL_look 89 = .ok (.iload_n 3, 1) := by decide +kernel
theorem dL_look_90 : decode cL_look 90 = .ok (.iload 4, 2) := by decide +kernel
theorem dL_look_92 : decode cL_look 92 = .ok (.invokevirtual 26, 3) := by decide +kernel
theorem dL_look_95 : decode cL_look 95 = .ok (.i2l, 1) := by decide +kernel
theorem dL_look_96 : decode cL_look 96 = .ok (.ladd, 1) := by decide +kernel
theorem dL_look_97 : decode cL_look 97 = .ok (.lstore_n 1, 1) := by decide +kernel
theorem dL_look_98 : decode cL_look 98 = .ok (.iinc 4 1, 3) := by decide +kernel
theorem dL_look_101 : decode cL_look 101 = .ok (.goto (-28), 3) := by decide +kernel
theorem dL_look_104 : decode cL_look 104 = .ok (.iinc 3 1, 3) := by decide +kernel
theorem dL_look_107 : decode cL_look 107 = .ok (.goto (-69), 3) := by decide +kernel
theorem dL_look_110 : decode cL_look 110 = .ok (.iconst 0, 1) := by decide +kernel
theorem dL_look_111 : decode cL_look 111 = .ok (.istore_n 3, 1) := by decide +kernel
theorem dL_look_112 : decode cL_look 112 = .ok (.iload_n 3, 1) := by decide +kernel
theorem dL_look_113 : decode cL_look 113 = .ok (.aload_n 0, 1) := by decide +kernel
theorem dL_look_114 : decode cL_look 114 = .ok (.invokevirtual 29, 3) := by decide +kernel
theorem dL_look_117 : decode cL_look 117 = .ok (.if_icmp .ge 153, 3) := by decide +kernel
theorem dL_look_120 : decode cL_look 120 = .ok (.aload_n 0, 1) := by decide +kernel
theorem dL_look_121 : decode cL_look 121 = .ok (.iload_n 3, 1) := by decide +kernel
theorem dL_look_122 : decode cL_look 122 = .ok (.invokevirtual 33, 3) := by decide +kernel
theorem dL_look_125 : decode cL_look 125 = .ok (.istore 4, 2) := by decide +kernel
theorem dL_look_127 : decode cL_look 127 = .ok (.ldc2_w 11, 3) := by decide +kernel
theorem dL_look_130 : decode cL_look 130 = .ok (.ldc2_w 11, 3) := by decide +kernel
theorem dL_look_133 : decode cL_look 133 = .ok (.lload_n 1, 1) := by decide +kernel
theorem dL_look_134 : decode cL_look 134 = .ok (.lmul, 1) := by decide +kernel
theorem dL_look_135 : decode cL_look 135 = .ok (.iload 4, 2) := by decide +kernel
theorem dL_look_137 : decode cL_look 137 = .ok (.i2l, 1) := by decide +kernel
theorem dL_look_138 : decode cL_look 138 = .ok (.ladd, 1) := by decide +kernel
theorem dL_look_139 : decode cL_look 139 = .ok (.lmul, 1) := by decide +kernel
theorem dL_look_140 : decode cL_look 140 = .ok (.aload_n 0, 1) := by decide +kernel
theorem dL_look_141 : decode cL_look 141 = .ok (.iload 4, 2) := by decide +kernel
theorem dL_look_143 : decode cL_look 143 = .ok (.invokevirtual 36, 3) := by decide +kernel
theorem dL_look_146 : decode cL_look 146 = .ok (.i2l, 1) := by decide +kernel
theorem dL_look_147 : decode cL_look 147 = .ok (.ladd, 1) := by decide +kernel
theorem dL_look_148 : decode cL_look 148 = .ok (.lstore_n 1, 1) := by decide +kernel
theorem dL_look_149 : decode cL_look 149 = .ok (.iconst 0, 1) := by decide +kernel
theorem dL_look_150 : decode cL_look 150 = .ok (.istore 5, 2) := by decide +kernel
theorem dL_look_152 : decode cL_look 152 = .ok (.iload 5, 2) := by decide +kernel
theorem dL_look_154 : decode cL_look 154 = .ok (.iconst 4, 1) := by decide +kernel
theorem dL_look_155 : decode cL_look 155 = .ok (.if_icmp .ge 109, 3) := by decide +kernel
theorem dL_look_158 : decode cL_look 158 = .ok (.ldc2_w 11, 3) := by decide +kernel
theorem dL_look_161 : decode cL_look 161 = .ok (.lload_n 1, 1) := by decide +kernel
theorem dL_look_162 : decode cL_look 162 = .ok (.lmul, 1) := by decide +kernel
theorem dL_look_163 : decode cL_look 163 = .ok (.aload_n 0, 1) := by decide +kernel
theorem dL_look_164 : decode cL_look 164 = .ok (.iload 4, 2) := by decide +kernel
theorem dL_look_166 : decode cL_look 166 = .ok (.iload 5, 2) := by decide +kernel
theorem dL_look_168 : decode cL_look 168 = .ok (.invokevirtual 39, 3) := by decide +kernel
theorem dL_look_171 : decode cL_look 171 = .ok (.i2l, 1) := by decide +kernel
theorem dL_look_172 : decode cL_look 172 = .ok (.ladd, 1) := by decide +kernel
theorem dL_look_173 : decode cL_look 173 = .ok (.lstore_n 1, 1) := by decide +kernel
theorem dL_look_174 : decode cL_look 174 = .ok (.iconst 0, 1) := by decide +kernel
theorem dL_look_175 : decode cL_look 175 = .ok (.istore 6, 2) := by decide +kernel
theorem dL_look_177 : decode cL_look 177 = .ok (.iload 6, 2) := by decide +kernel
theorem dL_look_179 : decode cL_look 179 = .ok (.aload_n 0, 1) := by decide +kernel
theorem dL_look_180 : decode cL_look 180 = .ok (.iload 4, 2) := by decide +kernel
theorem dL_look_182 : decode cL_look 182 = .ok (.iload 5, 2) := by decide +kernel
theorem dL_look_184 : decode cL_look 184 = .ok (.invokevirtual 39, 3) := by decide +kernel
theorem dL_look_187 : decode cL_look 187 = .ok (.if_icmp .ge 71, 3) := by decide +kernel
theorem dL_look_190 : decode cL_look 190 = .ok (.ldc2_w 11, 3) := by decide +kernel
theorem dL_look_193 : decode cL_look 193 = .ok (.lload_n 1, 1) := by decide +kernel
theorem dL_look_194 : decode cL_look 194 = .ok (.lmul, 1) := by decide +kernel
theorem dL_look_195 : decode cL_look 195 = .ok (.aload_n 0, 1) := by decide +kernel
theorem dL_look_196 : decode cL_look 196 = .ok (.iload 4, 2) := by decide +kernel
theorem dL_look_198 : decode cL_look 198 = .ok (.iload 5, 2) := by decide +kernel
theorem dL_look_200 : decode cL_look 200 = .ok (.iload 6, 2) := by decide +kernel
theorem dL_look_202 : decode cL_look 202 = .ok (.invokevirtual 42, 3) := by decide +kernel
theorem dL_look_205 : decode cL_look 205 = .ok (.i2l, 1) := by decide +kernel
theorem dL_look_206 : decode cL_look 206 = .ok (.ladd, 1) := by decide +kernel
theorem dL_look_207 : decode cL_look 207 = .ok (.lstore_n 1, 1) := by decide +kernel
theorem dL_look_208 : decode cL_look 208 = .ok (.iconst 0, 1) := by decide +kernel
theorem dL_look_209 : decode cL_look 209 = .ok (.istore 7, 2) := by decide +kernel
theorem dL_look_211 : decode cL_look 211 = .ok (.iload 7, 2) := by decide +kernel
theorem dL_look_213 : decode cL_look 213 = .ok (.aload_n 0, 1) := by decide +kernel
theorem dL_look_214 : decode cL_look 214 = .ok (.iload 4, 2) := by decide +kernel
theorem dL_look_216 : decode cL_look 216 = .ok (.iload 5, 2) := by decide +kernel
theorem dL_look_218 : decode cL_look 218 = .ok (.iload 6, 2) := by decide +kernel
theorem dL_look_220 : decode cL_look 220 = .ok (.invokevirtual 42, 3) := by decide +kernel
theorem dL_look_223 : decode cL_look 223 = .ok (.if_icmp .ge 29, 3) := by decide +kernel
theorem dL_look_226 : decode cL_look 226 = .ok (.ldc2_w 11, 3) := by decide +kernel
theorem dL_look_229 : decode cL_look 229 = .ok (.lload_n 1, 1) := by decide +kernel
theorem dL_look_230 : decode cL_look 230 = .ok (.lmul, 1) := by decide +kernel
theorem dL_look_231 : decode cL_look 231 = .ok (.aload_n 0, 1) := by decide +kernel
theorem dL_look_232 : decode cL_look 232 = .ok (.iload 4, 2) := by decide +kernel
theorem dL_look_234 : decode cL_look 234 = .ok (.iload 5, 2) := by decide +kernel
theorem dL_look_236 : decode cL_look 236 = .ok (.iload 6, 2) := by decide +kernel
theorem dL_look_238 : decode cL_look 238 = .ok (.iload 7, 2) := by decide +kernel
theorem dL_look_240 : decode cL_look 240 = .ok (.invokevirtual 46, 3) := by decide +kernel
theorem dL_look_243 : decode cL_look 243 = .ok (.i2l, 1) := by decide +kernel
theorem dL_look_244 : decode cL_look 244 = .ok (.ladd, 1) := by decide +kernel
theorem dL_look_245 : decode cL_look 245 = .ok (.lstore_n 1, 1) := by decide +kernel
theorem dL_look_246 : decode cL_look 246 = .ok (.iinc 7 1, 3) := by decide +kernel
theorem dL_look_249 : decode cL_look 249 = .ok (.goto (-38), 3) := by decide +kernel
theorem dL_look_252 : decode cL_look 252 = .ok (.iinc 6 1, 3) := by decide +kernel
theorem dL_look_255 : decode cL_look 255 = .ok (.goto (-78), 3) := by decide +kernel
theorem dL_look_258 : decode cL_look 258 = .ok (.iinc 5 1, 3) := by decide +kernel
theorem dL_look_261 : decode cL_look 261 = .ok (.goto (-109), 3) := by decide +kernel
theorem dL_look_264 : decode cL_look 264 = .ok (.iinc 3 1, 3) := by decide +kernel
theorem dL_look_267 : decode cL_look 267 = .ok (.goto (-155), 3) := by decide +kernel
theorem dL_look_270 : decode cL_look 270 = .ok (.lload_n 1, 1) := by decide +kernel
theorem dL_look_271 : decode cL_look 271 = .ok (.lreturn, 1) := by decide +kernel
theorem dL_numbers_0 : decode cL_numbers 0 = .ok (.aload_n 0, 1) := by decide +kernel
theorem dL_numbers_1 : decode cL_numbers 1 = .ok (.iload_n 2, 1) := by decide +kernel
theorem dL_numbers_2 : decode cL_numbers 2 = .ok (.iconst 0, 1) := by decide +kernel
theorem dL_numbers_3 : decode cL_numbers 3 = .ok (.invokevirtual 13, 3) := by decide +kernel
theorem dL_numbers_6 : decode cL_numbers 6 = .ok (.istore_n 3, 1) := by decide +kernel
theorem dL_numbers_7 : decode cL_numbers 7 = .ok (.aload_n 0, 1) := by decide +kernel
theorem dL_numbers_8 : decode cL_numbers 8 = .ok (.iload_n 2, 1) := by decide +kernel
theorem dL_numbers_9 : decode cL_numbers 9 = .ok (.iconst 1, 1) := by decide +kernel
theorem dL_numbers_10 : decode cL_numbers 10 = .ok (.invokevirtual 13, 3) := by decide +kernel
theorem dL_numbers_13 : decode cL_numbers 13 = .ok (.istore 4, 2) := by decide +kernel
theorem dL_numbers_15 : decode cL_numbers 15 = .ok (.aload_n 0, 1) := by decide +kernel
theorem dL_numbers_16 : decode cL_numbers 16 = .ok (.iload_n 2, 1) := by decide +kernel
theorem dL_numbers_17 : decode cL_numbers 17 = .ok (.iconst 2, 1) := by decide +kernel
theorem dL_numbers_18 : decode cL_numbers 18 = .ok (.invokevirtual 13, 3) := by decide +kernel
theorem dL_numbers_21 : decode cL_numbers 21 = .ok (.istore 5, 2) := by decide +kernel
theorem dL_numbers_23 : decode cL_numbers 23 = .ok (.aload_n 0, 1) := by decide +kernel
theorem dL_numbers_24 : decode cL_numbers 24 = .ok (.iload_n 1, 1) := by decide +kernel
theorem dL_numbers_25 : decode cL_numbers 25 = .ok (.iload 4, 2) := by decide +kernel
theorem dL_numbers_27 : decode cL_numbers 27 = .ok (.invokevirtual 39, 3) := by decide +kernel
theorem dL_numbers_30 : decode cL_numbers 30 = .ok (.istore 6, 2) := by decide +kernel
theorem dL_numbers_32 : decode cL_numbers 32 = .ok (.iconst 0, 1) := by decide +kernel
theorem dL_numbers_33 : decode cL_numbers 33 = .ok (.istore 7, 2) := by decide +kernel
theorem dL_numbers_35 : decode cL_numbers 35 = .ok (.iconst 0, 1) := by decide +kernel
theorem dL_numbers_36 : decode cL_numbers 36 = .ok (.istore 8, 2) := by decide +kernel
theorem dL_numbers_38 : decode cL_numbers 38 = .ok (.iconst 1, 1) := by decide +kernel
theorem dL_numbers_39 : decode cL_numbers 39 = .ok (.istore 9, 2) := by decide +kernel
theorem dL_numbers_41 : decode cL_numbers 41 = .ok (.iconst 0, 1) := by decide +kernel
theorem dL_numbers_42 : decode cL_numbers 42 = .ok (.istore 10, 2) := by decide +kernel
theorem dL_numbers_44 : decode cL_numbers 44 = .ok (.iload 10, 2) := by decide +kernel
theorem dL_numbers_46 : decode cL_numbers 46 = .ok (.iload 6, 2) := by decide +kernel
theorem dL_numbers_48 : decode cL_numbers 48 = .ok (.if_icmp .ge 200, 3) := by decide +kernel
theorem dL_numbers_51 : decode cL_numbers 51 = .ok (.iload 9, 2) := by decide +kernel
theorem dL_numbers_53 : decode cL_numbers 53 = .ok (.ifCond .eq 195, 3) := by decide +kernel
theorem dL_numbers_56 : decode cL_numbers 56 = .ok (.sipush (-1000), 3) := by decide +kernel
theorem dL_numbers_59 : decode cL_numbers 59 = .ok (.istore 11, 2) := by decide +kernel
theorem dL_numbers_61 : decode cL_numbers 61 = .ok (.iconst 0, 1) := by decide +kernel
theorem dL_numbers_62 : decode cL_numbers 62 = .ok (.istore 12, 2) := by decide +kernel
theorem dL_numbers_64 : decode cL_numbers 64 = .ok (.iload 12, 2) := by decide +kernel
theorem dL_numbers_66 : decode cL_numbers 66 = .ok (.aload_n 0, 1) := by decide +kernel
theorem dL_numbers_67 : decode cL_numbers 67 = .ok (.iload_n 1, 1) := by decide +kernel
theorem dL_numbers_68 : decode cL_numbers 68 = .ok (.iload 4, 2) := by decide +kernel
theorem dL_numbers_70 : decode cL_numbers 70 = .ok (.iload 10, 2) := by decide +kernel
theorem dL_numbers_72 : decode cL_numbers 72 = .ok (.invokevirtual 42, 3) := by decide +kernel
theorem dL_numbers_75 : decode cL_numbers 75 = .ok (.if_icmp .ge 88, 3) := by decide +kernel
theorem dL_numbers_78 : decode cL_numbers 78 = .ok (.aload_n 0, 1) := by decide +kernel
theorem dL_numbers_79 : decode cL_numbers 79 = .ok (.iload_n 1, 1) := by decide +kernel
theorem dL_numbers_80 : decode cL_numbers 80 = .ok (.iload 4, 2) := by decide +kernel
theorem dL_numbers_82 : decode cL_numbers 82 = .ok (.iload 10, 2) := by decide +kernel
theorem dL_numbers_84 : decode cL_numbers 84 = .ok (.iload 12, 2) := by decide +kernel
theorem dL_numbers_86 : decode cL_numbers 86 = .ok (.invokevirtual 46, 3) := by decide +kernel
theorem dL_numbers_89 : decode cL_numbers 89 = .ok (.istore 13, 2) := by decide +kernel
theorem dL_numbers_91 : decode cL_numbers 91 = .ok (.iload 8, 2) := by decide +kernel
theorem dL_numbers_93 : decode cL_numbers 93 = .ok (.iload 13, 2) := by decide +kernel
theorem dL_numbers_95 : decode cL_numbers 95 = .ok (.iadd, 1) := by decide +kernel
theorem dL_numbers_96 : decode cL_numbers 96 = .ok (.istore 8, 2) := by decide +kernel
theorem dL_numbers_98 : decode cL_numbers 98 = .ok (.iload 13, 2) := by decide +kernel
theorem dL_numbers_100 : decode cL_numbers 100 = .ok (.iload 11, 2) := by decide +kernel
theorem dL_numbers_102 : decode cL_numbers 102 = .ok (.if_icmp .le 8, 3) := by decide +kernel
theorem dL_numbers_105 : decode cL_numbers 105 = .ok (.iload 13, 2) := by decide +kernel
theorem dL_numbers_107 : decode cL_numbers 107 = .ok (.goto 5, 3) := by decide +kernel
theorem dL_numbers_110 : decode cL_numbers 110 = .ok (.iload 11, 2) := by decide +kernel
theorem dL_numbers_112 : decode cL_numbers 112 = .ok (.istore 11, 2) := by decide +kernel
theorem dL_numbers_114 : decode cL_numbers 114 = .ok (.iload 9, 2) := by decide +kernel
theorem dL_numbers_116 : decode cL_numbers 116 = .ok (.ifCond .eq 24, 3) := by decide +kernel
theorem dL_numbers_119 : decode cL_numbers 119 = .ok (.iload_n 3, 1) := by decide +kernel
theorem dL_numbers_120 : decode cL_numbers 120 = .ok (.ifCond .ne 16, 3) := by decide +kernel
theorem dL_numbers_123 : decode cL_numbers 123 = .ok (.aload_n 0, 1) := by decide +kernel
theorem dL_numbers_124 : decode cL_numbers 124 = .ok (.iload_n 1, 1) := by decide +kernel
theorem dL_numbers_125 : decode cL_numbers 125 = .ok (.iload_n 2, 1) := by decide +kernel
theorem dL_numbers_126 : decode cL_numbers 126 = .ok (.iload 7, 2) := by decide +kernel
theorem dL_numbers_128 : decode cL_numbers 128 = .ok (.invokevirtual 50, 3) := by decide +kernel
theorem dL_numbers_131 : decode cL_numbers 131 = .ok (.iload 13, 2) := by decide +kernel
theorem dL_numbers_133 : decode cL_numbers 133 = .ok (.if_icmp .ne 7, 3) := by decide +kernel
theorem dL_numbers_136 : decode cL_numbers 136 = .ok (.iconst 1, 1) := by decide +kernel
theorem dL_numbers_137 : decode cL_numbers 137 = .ok (.goto 4, 3) := by decide +kernel
theorem dL_numbers_140 : decode cL_numbers 140 = .ok (.iconst 0, 1) := by decide +kernel
theorem dL_numbers_141 : decode cL_numbers 141 = .ok (.istore 9, 2) := by decide +kernel
theorem dL_numbers_143 : decode cL_numbers 143 = .ok (.iload 7, 2) := by decide +kernel
theorem dL_numbers_145 : decode cL_numbers 145 = .ok (.iload_n 3, 1) := by decide +kernel
theorem dL_numbers_146 : decode cL_numbers 146 = .ok (.ifCond .ne 7, 3) := by decide +kernel
theorem dL_numbers_149 : decode cL_numbers 149 = .ok (.iconst 1, 1) := by decide +kernel
theorem dL_numbers_150 : decode cL_numbers 150 = .ok (.goto 4, 3) := by decide +kernel
theorem dL_numbers_153 : decode cL_numbers 153 = .ok (.iconst 0, 1) := by decide +kernel
theorem dL_numbers_154 : decode cL_numbers 154 = .ok (.iadd, 1) := by decide +kernel
theorem dL_numbers_155 : decode cL_numbers 155 = .ok (.istore 7, 2) := by decide +kernel
theorem dL_numbers_157 : decode cL_numbers 157 = .ok (.iinc 12 1, 3) := by decide +kernel
theorem dL_numbers_160 : decode cL_numbers 160 = .ok (.goto (-96), 3) := by decide +kernel
theorem dL_numbers_163 : decode cL_numbers 163 = .ok (.iload 9, 2) := by decide +kernel
theorem dL_numbers_165 : decode cL_numbers 165 = .ok (.ifCond .eq 74, 3) := by decide +kernel
theorem dL_numbers_168 : decode cL_numbers 168 = .ok (.iload_n 3, 1) := by decide +kernel
theorem dL_numbers_169 : decode cL_numbers 169 = .ok (.iconst 3, 1) := by decide +kernel
theorem dL_numbers_170 : decode cL_numbers 170 = .ok (.if_icmp .ne 16, 3) := by decide +kernel
theorem dL_numbers_173 : decode cL_numbers 173 = .ok (.aload_n 0, 1) := by decide +kernel
theorem dL_numbers_174 : decode cL_numbers 174 = .ok (.iload_n 1, 1) := by decide +kernel
theorem dL_numbers_175 : decode cL_numbers 175 = .ok (.iload_n 2, 1) := by decide +kernel
theorem dL_numbers_176 : decode cL_numbers 176 = .ok (.iload 10, 2) := by decide +kernel
theorem dL_numbers_178 : decode cL_numbers 178 = .ok (.invokevirtual 50, 3) := by decide +kernel
theorem dL_numbers_181 : decode cL_numbers 181 = .ok (.iload 11, 2) := by decide +kernel
theorem dL_numbers_183 : decode cL_numbers 183 = .ok (.if_icmp .ne 56, 3) := by decide +kernel
theorem dL_numbers_186 : decode cL_numbers 186 = .ok (.iload_n 3, 1) := by decide +kernel
theorem dL_numbers_187 : decode cL_numbers 187 = .ok (.iconst 4, 1) := by decide +kernel
theorem dL_numbers_188 : decode cL_numbers 188 = .ok (.if_icmp .ne 47, 3) := by decide +kernel
theorem dL_numbers_191 : decode cL_numbers 191 = .ok (.iload 10, 2) := by decide +kernel
theorem dL_numbers_193 : decode cL_numbers 193 = .ok (.aload_n 0, 1) := by decide +kernel
theorem dL_numbers_194 : decode cL_numbers 194 = .ok (.iload_n 1, 1) := by decide +kernel
theorem dL_numbers_195 : decode cL_numbers 195 = .ok (.iload 5, 2) := by decide +kernel
theorem dL_numbers_197 : decode cL_numbers 197 = .ok (.invokevirtual 39, 3) := by decide +kernel
theorem dL_numbers_200 : decode cL_numbers 200 = .ok (.if_icmp .ge 35, 3) := by decide +kernel
theorem dL_numbers_203 : decode cL_numbers 203 = .ok (.aload_n 0, 1) := by decide +kernel
theorem dL_numbers_204 : decode cL_numbers 204 = .ok (.iload_n 1, 1) := by decide +kernel
theorem dL_numbers_205 : decode cL_numbers 205 = .ok (.iload_n 2, 1) := by decide +kernel
theorem dL_numbers_206 : decode cL_numbers 206 = .ok (.iload 10, 2) := by decide +kernel
theorem dL_numbers_208 : decode cL_numbers 208 = .ok (.invokevirtual 50, 3) := by decide +kernel
theorem dL_numbers_211 : decode cL_numbers 211 = .ok (.aload_n 0, 1) := by decide +kernel
theorem dL_numbers_212 : decode cL_numbers 212 = .ok (.iload_n 1, 1) := by decide +kernel
theorem dL_numbers_213 : decode cL_numbers 213 = .ok (.iload 4, 2) := by decide +kernel
theorem dL_numbers_215 : decode cL_numbers 215 = .ok (.iload 10, 2) := by decide +kernel
theorem dL_numbers_217 : decode cL_numbers 217 = .ok (.iconst 0, 1) := by decide +kernel
theorem dL_numbers_218 : decode cL_numbers 218 = .ok (.invokevirtual 46, 3) := by decide +kernel
theorem dL_numbers_221 : decode cL_numbers 221 = .ok (.aload_n 0, 1) := by decide +kernel
theorem dL_numbers_222 : decode cL_numbers 222 = .ok (.iload_n 1, 1) := by decide +kernel
theorem dL_numbers_223 : decode cL_numbers 223 = .ok (.iload 5, 2) := by decide +kernel
theorem dL_numbers_225 : decode cL_numbers 225 = .ok (.iload 10, 2) := by decide +kernel
theorem dL_numbers_227 : decode cL_numbers 227 = .ok (.iconst 0, 1) := by decide +kernel
theorem dL_numbers_228 : decode cL_numbers 228 = .ok (.invokevirtual 46, 3) := by decide +kernel
theorem dL_numbers_231 : decode cL_numbers 231 = .ok (.imul, 1) := by decide +kernel
theorem dL_numbers_232 : decode cL_numbers 232 = .ok (.if_icmp .ne 7, 3) := by decide +kernel
theorem dL_numbers_235 : decode cL_numbers 235 = .ok (.iconst 1, 1) := by decide +kernel
theorem dL_numbers_236 : decode cL_numbers 236 = .ok (.goto 4, 3) := by decide +kernel
theorem dL_numbers_239 : decode cL_numbers 239 = .ok (.iconst 0, 1) := by decide +kernel
theorem dL_numbers_240 : decode cL_numbers 240 = .ok (.istore 9, 2) := by decide +kernel
theorem dL_numbers_242 : decode cL_numbers 242 = .ok (.iinc 10 1, 3) := by decide +kernel
theorem dL_numbers_245 : decode cL_numbers 245 = .ok (.goto (-201), 3) := by decide +kernel
theorem dL_numbers_248 : decode cL_numbers 248 = .ok (.iload_n 3, 1) := by decide +kernel
theorem dL_numbers_249 : decode cL_numbers 249 = .ok (.iconst 4, 1) := by decide +kernel
theorem dL_numbers_250 : decode cL_numbers 250 = .ok (.if_icmp .ne 25, 3) := by decide +kernel
theorem dL_numbers_253 : decode cL_numbers 253 = .ok (.aload_n 0, 1) := by decide +kernel
theorem dL_numbers_254 : decode cL_numbers 254 = .ok (.iload_n 1, 1) := by decide +kernel
theorem dL_numbers_255 : decode cL_numbers 255 = .ok (.iload 5, 2) := by decide +kernel
theorem dL_numbers_257 : decode cL_numbers 257 = .ok (.invokevirtual 39, 3) := by decide +kernel
theorem dL_numbers_260 : decode cL_numbers 260 = .ok (.iload 6, 2) := by decide +kernel
theorem dL_numbers_262 : decode cL_numbers 262 = .ok (.if_icmp .ge 13, 3) := by decide +kernel
theorem dL_numbers_265 : decode cL_numbers 265 = .ok (.aload_n 0, 1) := by decide +kernel
theorem dL_numbers_266 : decode cL_numbers 266 = .ok (.iload_n 1, 1) := by decide +kernel
theorem dL_numbers_267 : decode cL_numbers 267 = .ok (.iload 5, 2) := by decide +kernel
theorem dL_numbers_269 : decode cL_numbers 269 = .ok (.invokevirtual 39, 3) := by decide +kernel
theorem dL_numbers_272 : decode cL_numbers 272 = .ok (.goto 5, 3) := by decide +kernel
theorem dL_numbers_275 : decode cL_numbers 275 = .ok (.iload 6, 2) := by decide +kernel
theorem dL_numbers_277 : decode cL_numbers 277 = .ok (.istore 10, 2) := by decide +kernel
theorem dL_numbers_279 : decode cL_numbers 279 = .ok (.iload_n 3, 1) := by decide +kernel
theorem dL_numbers_280 : decode cL_numbers 280 = .ok (.ifCond .ne 8, 3) := by decide +kernel
theorem dL_numbers_283 : decode cL_numbers 283 = .ok (.iload 7, 2) := by decide +kernel
theorem dL_numbers_285 : decode cL_numbers 285 = .ok (.goto 14, 3) := by decide +kernel
theorem dL_numbers_288 : decode cL_numbers 288 = .ok (.iload_n 3, 1) := by decide +kernel
theorem dL_numbers_289 : decode cL_numbers 289 = .ok (.iconst 3, 1) := by decide +kernel
theorem dL_numbers_290 : decode cL_numbers 290 = .ok (.if_icmp .ge 7, 3) := by decide +kernel
theorem dL_numbers_293 : decode cL_numbers 293 = .ok (.iconst 1, 1) := by decide +kernel
theorem dL_numbers_294 : decode cL_numbers 294 = .ok (.goto 5, 3) := by decide +kernel
theorem dL_numbers_297 : decode cL_numbers 297 = .ok (.iload 10, 2) := by decide +kernel
theorem dL_numbers_299 : decode cL_numbers 299 = .ok (.istore 11, 2) := by decide +kernel
theorem dL_numbers_301 : decode cL_numbers 301 = .ok (.iload 9, 2) := by decide +kernel
theorem dL_numbers_303 : decode cL_numbers 303 = .ok (.ifCond .eq 77, 3) := by decide +kernel
theorem dL_numbers_306 : decode cL_numbers 306 = .ok (.aload_n 0, 1) := by decide +kernel
theorem dL_numbers_307 : decode cL_numbers 307 = .ok (.iload_n 1, 1) := by decide +kernel
theorem dL_numbers_308 : decode cL_numbers 308 = .ok (.iload_n 2, 1) := by decide +kernel
theorem dL_numbers_309 : decode cL_numbers 309 = .ok (.invokevirtual 53, 3) := by decide +kernel
theorem dL_numbers_312 : decode cL_numbers 312 = .ok (.iload 11, 2) := by decide +kernel
theorem dL_numbers_314 : decode cL_numbers 314 = .ok (.if_icmp .ne 66, 3) := by decide +kernel
theorem dL_numbers_317 : decode cL_numbers 317 = .ok (.aload_n 0, 1) := by decide +kernel
theorem dL_numbers_318 : decode cL_numbers 318 = .ok (.iload_n 1, 1) := by decide +kernel
theorem dL_numbers_319 : decode cL_numbers 319 = .ok (.iload_n 2, 1) := by decide +kernel
theorem dL_numbers_320 : decode cL_numbers 320 = .ok (.iload 11, 2) := by decide +kernel
theorem dL_numbers_322 : decode cL_numbers 322 = .ok (.invokevirtual 50, 3) := by decide +kernel
theorem dL_numbers_325 : decode cL_numbers 325 = .ok (.ldc 58, 2) := by decide +kernel
theorem dL_numbers_327 : decode cL_numbers 327 = .ok (.if_icmp .ne 53, 3) := by decide +kernel
theorem dL_numbers_330 : decode cL_numbers 330 = .ok (.aload_n 0, 1) := by decide +kernel
theorem dL_numbers_331 : decode cL_numbers 331 = .ok (.iload_n 1, 1) := by decide +kernel
theorem dL_numbers_332 : decode cL_numbers 332 = .ok (.iload_n 2, 1) := by decide +kernel
theorem dL_numbers_333 : decode cL_numbers 333 = .ok (.iconst (-1), 1) := by decide +kernel
theorem dL_numbers_334 : decode cL_numbers 334 = .ok (.invokevirtual 50, 3) := by decide +kernel
theorem dL_numbers_337 : decode cL_numbers 337 = .ok (.ldc 59, 2) := by decide +kernel
theorem dL_numbers_339 : decode cL_numbers 339 = .ok (.if_icmp .ne 41, 3) := by decide +kernel
theorem dL_numbers_342 : decode cL_numbers 342 = .ok (.iload_n 3, 1) := by decide +kernel
theorem dL_numbers_343 : decode cL_numbers 343 = .ok (.iconst 1, 1) := by decide +kernel
theorem dL_numbers_344 : decode cL_numbers 344 = .ok (.if_icmp .ne 15, 3) := by decide +kernel
theorem dL_numbers_347 : decode cL_numbers 347 = .ok (.aload_n 0, 1) := by decide +kernel
theorem dL_numbers_348 : decode cL_numbers 348 = .ok (.iload_n 1, 1) := by decide +kernel
theorem dL_numbers_349 : decode cL_numbers 349 = .ok (.iload_n 2, 1) := by decide +kernel
theorem dL_numbers_350 : decode cL_numbers 350 = .ok (.iconst 0, 1) := by decide +kernel
theorem dL_numbers_351 : decode cL_numbers 351 = .ok (.invokevirtual 50, 3) := by decide +kernel
theorem dL_numbers_354 : decode cL_numbers 354 = .ok (.iload 6, 2) := by decide +kernel
theorem dL_numbers_356 : decode cL_numbers 356 = .ok (.if_icmp .ne 24, 3) := by decide +kernel
theorem dL_numbers_359 : decode cL_numbers 359 = .ok (.iload_n 3, 1) := by decide +kernel
theorem dL_numbers_360 : decode cL_numbers 360 = .ok (.iconst 2, 1) := by decide +kernel
theorem dL_numbers_361 : decode cL_numbers 361 = .ok (.if_icmp .ne 15, 3) := by decide +kernel
theorem dL_numbers_364 : decode cL_numbers 364 = .ok (.aload_n 0, 1) := by decide +kernel
theorem dL_numbers_365 : decode cL_numbers 365 = .ok (.iload_n 1, 1) := by decide +kernel
theorem dL_numbers_366 : decode cL_numbers 366 = .ok (.iload_n 2, 1) := by decide +kernel
theorem dL_numbers_367 : decode cL_numbers 367 = .ok (.iconst 0, 1) := by decide +kernel
theorem dL_numbers_368 : decode cL_numbers 368 = .ok (.invokevirtual 50, 3) := by decide +kernel
theorem dL_numbers_371 : decode cL_numbers 371 = .ok (.iload 8, 2) := by decide +kernel
theorem dL_numbers_373 : decode cL_numbers 373 = .ok (.if_icmp .ne 7, 3) := by decide +kernel
theorem dL_numbers_376 : decode cL_numbers 376 = .ok (.iconst 1, 1) := by decide +kernel
theorem dL_numbers_377 : decode cL_numbers 377 = .ok (.goto 4, 3) := by decide +kernel
theorem dL_numbers_380 : decode cL_numbers 380 = .ok (.iconst 0, 1) := by decide +kernel
theorem dL_numbers_381 : decode cL_numbers 381 = .ok (.ireturn, 1) := by decide +kernel
theorem dL_holds_0 : decode cL_holds 0 = .ok (.aload_n 0, 1) := by decide +kernel
theorem dL_holds_1 : decode cL_holds 1 = .ok (.invokevirtual 29, 3) := by decide +kernel
theorem dL_holds_4 : decode cL_holds 4 = .ok (.ifCond .lt 39, 3) := by decide +kernel
theorem dL_holds_7 : decode cL_holds 7 = .ok (.aload_n 0, 1) := by decide +kernel
theorem dL_holds_8 : decode cL_holds 8 = .ok (.invokevirtual 29, 3) := by decide +kernel
theorem dL_holds_11 : decode cL_holds 11 = .ok (.bipush 10, 2) := by decide +kernel
theorem dL_holds_13 : decode cL_holds 13 = .ok (.if_icmp .gt 30, 3) := by decide +kernel
theorem dL_holds_16 : decode cL_holds 16 = .ok (.aload_n 0, 1) := by decide +kernel
theorem dL_holds_17 : decode cL_holds 17 = .ok (.aload_n 0, 1) := by decide +kernel
theorem dL_holds_18 : decode cL_holds 18 = .ok (.invokevirtual 29, 3) := by decide +kernel
theorem dL_holds_21 : decode cL_holds 21 = .ok (.invokevirtual 33, 3) := by decide +kernel
theorem dL_holds_24 : decode cL_holds 24 = .ok (.ldc 58, 2) := by decide +kernel
theorem dL_holds_26 : decode cL_holds 26 = .ok (.if_icmp .ne 17, 3) := by decide +kernel
theorem dL_holds_29 : decode cL_holds 29 = .ok (.aload_n 0, 1) := by decide +kernel
theorem dL_holds_30 : decode cL_holds 30 = .ok (.iconst (-1), 1) := by decide +kernel
theorem dL_holds_31 : decode cL_holds 31 = .ok (.invokevirtual 33, 3) := by decide +kernel
theorem dL_holds_34 : decode cL_holds 34 = .ok (.ldc 59, 2) := by decide +kernel
theorem dL_holds_36 : decode cL_holds 36 = .ok (.if_icmp .ne 7, 3) := by decide +kernel
theorem dL_holds_39 : decode cL_holds 39 = .ok (.iconst 1, 1) := by decide +kernel
theorem dL_holds_40 : decode cL_holds 40 = .ok (.goto 4, 3) := by decide +kernel
theorem dL_holds_43 : decode cL_holds 43 = .ok (.iconst 0, 1) := by decide +kernel
theorem dL_holds_44 : decode cL_holds 44 = .ok (.istore_n 1, 1) := by decide +kernel
theorem dL_holds_45 : decode cL_holds 45 = .ok (.iconst 0, 1) := by decide +kernel
theorem dL_holds_46 : decode cL_holds 46 = .ok (.istore_n 2, 1) := by decide +kernel
theorem dL_holds_47 : decode cL_holds 47 = .ok (.iload_n 2, 1) := by decide +kernel
theorem dL_holds_48 : decode cL_holds 48 = .ok (.aload_n 0, 1) := by decide +kernel
theorem dL_holds_49 : decode cL_holds 49 = .ok (.invokevirtual 29, 3) := by decide +kernel
theorem dL_holds_52 : decode cL_holds 52 = .ok (.if_icmp .ge 334, 3) := by decide +kernel
theorem dL_holds_55 : decode cL_holds 55 = .ok (.iload_n 1, 1) := by decide +kernel
theorem dL_holds_56 : decode cL_holds 56 = .ok (.ifCond .eq 330, 3) := by decide +kernel
theorem dL_holds_59 : decode cL_holds 59 = .ok (.aload_n 0, 1) := by decide +kernel
theorem dL_holds_60 : decode cL_holds 60 = .ok (.iload_n 2, 1) := by decide +kernel
theorem dL_holds_61 : decode cL_holds 61 = .ok (.invokevirtual 33, 3) := by decide +kernel
theorem dL_holds_64 : decode cL_holds 64 = .ok (.istore_n 3, 1) := by decide +kernel
theorem dL_holds_65 : decode cL_holds 65 = .ok (.iconst 0, 1) := by decide +kernel
theorem dL_holds_66 : decode cL_holds 66 = .ok (.istore 4, 2) := by decide +kernel
theorem dL_holds_68 : decode cL_holds 68 = .ok (.iload_n 3, 1) := by decide +kernel
theorem dL_holds_69 : decode cL_holds 69 = .ok (.ifCond .lt 55, 3) := by decide +kernel
theorem dL_holds_72 : decode cL_holds 72 = .ok (.iload_n 3, 1) := by decide +kernel
theorem dL_holds_73 : decode cL_holds 73 = .ok (.bipush 100, 2) := by decide +kernel
theorem dL_holds_75 : decode cL_holds 75 = .ok (.if_icmp .ge 49, 3) := by decide +kernel
theorem dL_holds_78 : decode cL_holds 78 = .ok (.iload_n 2, 1) := by decide +kernel
theorem dL_holds_79 : decode cL_holds 79 = .ok (.ifCond .eq 14, 3) := by decide +kernel
theorem dL_holds_82 : decode cL_holds 82 = .ok (.aload_n 0, 1) := by decide +kernel
theorem dL_holds_83 : decode cL_holds 83 = .ok (.iload_n 2, 1) := by decide +kernel
theorem dL_holds_84 : decode cL_holds 84 = .ok (.iconst 1, 1) := by decide +kernel
theorem dL_holds_85 : decode cL_holds 85 = .ok (.isub, 1) := by decide +kernel
theorem dL_holds_86 : decode cL_holds 86 = .ok (.invokevirtual 33, 3) := by decide +kernel
theorem dL_holds_89 : decode cL_holds 89 = .ok (.iload_n 3, 1) := by decide +kernel
theorem dL_holds_90 : decode cL_holds 90 = .ok (.if_icmp .ge 34, 3) := by decide +kernel
theorem dL_holds_93 : decode cL_holds 93 = .ok (.aload_n 0, 1) := by decide +kernel
theorem dL_holds_94 : decode cL_holds 94 = .ok (.iload_n 3, 1) := by decide +kernel
theorem dL_holds_95 : decode cL_holds 95 = .ok (.invokevirtual 36, 3) := by decide +kernel
theorem dL_holds_98 : decode cL_holds 98 = .ok (.ldc 58, 2) := by decide +kernel
theorem dL_holds_100 : decode cL_holds 100 = .ok (.if_icmp .eq 20, 3) := by decide +kernel
theorem dL_holds_103 : decode cL_holds 103 = .ok (.aload_n 0, 1) := by decide +kernel
theorem dL_holds_104 : decode cL_holds 104 = .ok (.iload_n 3, 1) := by decide +kernel
theorem dL_holds_105 : decode cL_holds 105 = .ok (.invokevirtual 36, 3) := by decide +kernel
theorem dL_holds_108 : decode cL_holds 108 = .ok (.ifCond .lt 16, 3) := by decide +kernel
theorem dL_holds_111 : decode cL_holds 111 = .ok (.aload_n 0, 1) := by decide +kernel
theorem dL_holds_112 : decode cL_holds 112 = .ok (.iload_n 3, 1) := by decide +kernel
theorem dL_holds_113 : decode cL_holds 113 = .ok (.invokevirtual 36, 3) := by decide +kernel
theorem dL_holds_116 : decode cL_holds 116 = .ok (.iconst 4, 1) := by decide +kernel
theorem dL_holds_117 : decode cL_holds 117 = .ok (.if_icmp .ge 7, 3) := by decide +kernel
theorem dL_holds_120 : decode cL_holds 120 = .ok (.iconst 1, 1) := by decide +kernel
theorem dL_holds_121 : decode cL_holds 121 = .ok (.goto 4, 3) := by decide +kernel
theorem dL_holds_124 : decode cL_holds 124 = .ok (.iconst 0, 1) := by decide +kernel
theorem dL_holds_125 : decode cL_holds 125 = .ok (.istore_n 1, 1) := by decide +kernel
theorem dL_holds_126 : decode cL_holds 126 = .ok (.iconst 0, 1) := by decide +kernel
theorem dL_holds_127 : decode cL_holds 127 = .ok (.istore 5, 2) := by decide +kernel
theorem dL_holds_129 : decode cL_holds 129 = .ok (.iload 5, 2) := by decide +kernel
theorem dL_holds_131 : decode cL_holds 131 = .ok (.iconst 4, 1) := by decide +kernel
theorem dL_holds_132 : decode cL_holds 132 = .ok (.if_icmp .ge 200, 3) := by decide +kernel
theorem dL_holds_135 : decode cL_holds 135 = .ok (.iload_n 1, 1) := by decide +kernel
theorem dL_holds_136 : decode cL_holds 136 = .ok (.ifCond .eq 196, 3) := by decide +kernel
theorem dL_holds_139 : decode cL_holds 139 = .ok (.aload_n 0, 1) := by decide +kernel
theorem dL_holds_140 : decode cL_holds 140 = .ok (.iload 5, 2) := by decide +kernel
theorem dL_holds_142 : decode cL_holds 142 = .ok (.invokevirtual 19, 3) := by decide +kernel
theorem dL_holds_145 : decode cL_holds 145 = .ok (.iconst 1, 1) := by decide +kernel
theorem dL_holds_146 : decode cL_holds 146 = .ok (.if_icmp .ne 25, 3) := by decide +kernel
theorem dL_holds_149 : decode cL_holds 149 = .ok (.aload_n 0, 1) := by decide +kernel
theorem dL_holds_150 : decode cL_holds 150 = .ok (.iload_n 3, 1) := by decide +kernel
theorem dL_holds_151 : decode cL_holds 151 = .ok (.iload 5, 2) := by decide +kernel
theorem dL_holds_153 : decode cL_holds 153 = .ok (.invokevirtual 39, 3) := by decide +kernel
theorem dL_holds_156 : decode cL_holds 156 = .ok (.iload 4, 2) := by decide +kernel
theorem dL_holds_158 : decode cL_holds 158 = .ok (.if_icmp .le 13, 3) := by decide +kernel
theorem dL_holds_161 : decode cL_holds 161 = .ok (.aload_n 0, 1) := by decide +kernel
theorem dL_holds_162 : decode cL_holds 162 = .ok (.iload_n 3, 1) := by decide +kernel
theorem dL_holds_163 : decode cL_holds 163 = .ok (.iload 5, 2) := by decide +kernel
theorem dL_holds_165 : decode cL_holds 165 = .ok (.invokevirtual 39, 3) := by decide +kernel
theorem dL_holds_168 : decode cL_holds 168 = .ok (.goto 5, 3) := by decide +kernel
theorem dL_holds_171 : decode cL_holds 171 = .ok (.iload 4, 2) := by decide +kernel
theorem dL_holds_173 : decode cL_holds 173 = .ok (.istore 4, 2) := by decide +kernel
theorem dL_holds_175 : decode cL_holds 175 = .ok (.aload_n 0, 1) := by decide +kernel
theorem dL_holds_176 : decode cL_holds 176 = .ok (.iload_n 3, 1) := by decide +kernel
theorem dL_holds_177 : decode cL_holds 177 = .ok (.iload 5, 2) := by decide +kernel
theorem dL_holds_179 : decode cL_holds 179 = .ok (.invokevirtual 39, 3) := by decide +kernel
theorem dL_holds_182 : decode cL_holds 182 = .ok (.ifCond .lt 37, 3) := by decide +kernel
theorem dL_holds_185 : decode cL_holds 185 = .ok (.aload_n 0, 1) := by decide +kernel
theorem dL_holds_186 : decode cL_holds 186 = .ok (.iload_n 3, 1) := by decide +kernel
theorem dL_holds_187 : decode cL_holds 187 = .ok (.iload 5, 2) := by decide +kernel
theorem dL_holds_189 : decode cL_holds 189 = .ok (.invokevirtual 39, 3) := by decide +kernel
theorem dL_holds_192 : decode cL_holds 192 = .ok (.iconst 5, 1) := by decide +kernel
theorem dL_holds_193 : decode cL_holds 193 = .ok (.if_icmp .gt 26, 3) := by decide +kernel
theorem dL_holds_196 : decode cL_holds 196 = .ok (.aload_n 0, 1) := by decide +kernel
theorem dL_holds_197 : decode cL_holds 197 = .ok (.iload_n 3, 1) := by decide +kernel
theorem dL_holds_198 : decode cL_holds 198 = .ok (.iload 5, 2) := by decide +kernel
theorem dL_holds_200 : decode cL_holds 200 = .ok (.aload_n 0, 1) := by decide +kernel
theorem dL_holds_201 : decode cL_holds 201 = .ok (.iload_n 3, 1) := by decide +kernel
theorem dL_holds_202 : decode cL_holds 202 = .ok (.iload 5, 2) := by decide +kernel
theorem dL_holds_204 : decode cL_holds 204 = .ok (.invokevirtual 39, 3) := by decide +kernel
theorem dL_holds_207 : decode cL_holds 207 = .ok (.invokevirtual 42, 3) := by decide +kernel
theorem dL_holds_210 : decode cL_holds 210 = .ok (.ldc 60, 2) := by decide +kernel
theorem dL_holds_212 : decode cL_holds 212 = .ok (.if_icmp .ne 7, 3) := by decide +kernel
theorem dL_holds_215 : decode cL_holds 215 = .ok (.iconst 1, 1) := by decide +kernel
theorem dL_holds_216 : decode cL_holds 216 = .ok (.goto 4, 3) := by decide +kernel
theorem dL_holds_219 : decode cL_holds 219 = .ok (.iconst 0, 1) := by decide +kernel
theorem dL_holds_220 : decode cL_holds 220 = .ok (.istore_n 1, 1) := by decide +kernel
theorem dL_holds_221 : decode cL_holds 221 = .ok (.iconst 0, 1) := by decide +kernel
theorem dL_holds_222 : decode cL_holds 222 = .ok (.istore 6, 2) := by decide +kernel
theorem dL_holds_224 : decode cL_holds 224 = .ok (.iload 6, 2) := by decide +kernel
theorem dL_holds_226 : decode cL_holds 226 = .ok (.aload_n 0, 1) := by decide +kernel
theorem dL_holds_227 : decode cL_holds 227 = .ok (.iload_n 3, 1) := by decide +kernel
theorem dL_holds_228 : decode cL_holds 228 = .ok (.iload 5, 2) := by decide +kernel
theorem dL_holds_230 : decode cL_holds 230 = .ok (.invokevirtual 39, 3) := by decide +kernel
theorem dL_holds_233 : decode cL_holds 233 = .ok (.if_icmp .ge 93, 3) := by decide +kernel
theorem dL_holds_236 : decode cL_holds 236 = .ok (.iload_n 1, 1) := by decide +kernel
theorem dL_holds_237 : decode cL_holds 237 = .ok (.ifCond .eq 89, 3) := by decide +kernel
theorem dL_holds_240 : decode cL_holds 240 = .ok (.aload_n 0, 1) := by decide +kernel
theorem dL_holds_241 : decode cL_holds 241 = .ok (.iload_n 3, 1) := by decide +kernel
theorem dL_holds_242 : decode cL_holds 242 = .ok (.iload 5, 2) := by decide +kernel
theorem dL_holds_244 : decode cL_holds 244 = .ok (.iload 6, 2) := by decide +kernel
theorem dL_holds_246 : decode cL_holds 246 = .ok (.invokevirtual 42, 3) := by decide +kernel
theorem dL_holds_249 : decode cL_holds 249 = .ok (.iconst 1, 1) := by decide +kernel
theorem dL_holds_250 : decode cL_holds 250 = .ok (.if_icmp .lt 68, 3) := by decide +kernel
theorem dL_holds_253 : decode cL_holds 253 = .ok (.aload_n 0, 1) := by decide +kernel
theorem dL_holds_254 : decode cL_holds 254 = .ok (.iload_n 3, 1) := by decide +kernel
theorem dL_holds_255 : decode cL_holds 255 = .ok (.iload 5, 2) := by decide +kernel
theorem dL_holds_257 : decode cL_holds 257 = .ok (.iload 6, 2) := by decide +kernel
theorem dL_holds_259 : decode cL_holds 259 = .ok (.invokevirtual 42, 3) := by decide +kernel
theorem dL_holds_262 : decode cL_holds 262 = .ok (.iconst 4, 1) := by decide +kernel
theorem dL_holds_263 : decode cL_holds 263 = .ok (.if_icmp .gt 55, 3) := by decide +kernel
theorem dL_holds_266 : decode cL_holds 266 = .ok (.aload_n 0, 1) := by decide +kernel
theorem dL_holds_267 : decode cL_holds 267 = .ok (.iload_n 3, 1) := by decide +kernel
theorem dL_holds_268 : decode cL_holds 268 = .ok (.iload 5, 2) := by decide +kernel
theorem dL_holds_270 : decode cL_holds 270 = .ok (.iload 6, 2) := by decide +kernel
theorem dL_holds_272 : decode cL_holds 272 = .ok (.aload_n 0, 1) := by decide +kernel
theorem dL_holds_273 : decode cL_holds 273 = .ok (.iload_n 3, 1) := by decide +kernel
theorem dL_holds_274 : decode cL_holds 274 = .ok (.iload 5, 2) := by decide +kernel
theorem dL_holds_276 : decode cL_holds 276 = .ok (.iload 6, 2) := by decide +kernel
theorem dL_holds_278 : decode cL_holds 278 = .ok (.invokevirtual 42, 3) := by decide +kernel
theorem dL_holds_281 : decode cL_holds 281 = .ok (.invokevirtual 46, 3) := by decide +kernel
theorem dL_holds_284 : decode cL_holds 284 = .ok (.ldc 60, 2) := by decide +kernel
theorem dL_holds_286 : decode cL_holds 286 = .ok (.if_icmp .ne 32, 3) := by decide +kernel
theorem dL_holds_289 : decode cL_holds 289 = .ok (.aload_n 0, 1) := by decide +kernel
theorem dL_holds_290 : decode cL_holds 290 = .ok (.iload_n 3, 1) := by decide +kernel
theorem dL_holds_291 : decode cL_holds 291 = .ok (.iload 5, 2) := by decide +kernel
theorem dL_holds_293 : decode cL_holds 293 = .ok (.aload_n 0, 1) := by decide +kernel
theorem dL_holds_294 : decode cL_holds 294 = .ok (.iload_n 3, 1) := by decide +kernel
theorem dL_holds_295 : decode cL_holds 295 = .ok (.iload 5, 2) := by decide +kernel
theorem dL_holds_297 : decode cL_holds 297 = .ok (.iload 6, 2) := by decide +kernel
theorem dL_holds_299 : decode cL_holds 299 = .ok (.iconst 0, 1) := by decide +kernel
theorem dL_holds_300 : decode cL_holds 300 = .ok (.invokevirtual 46, 3) := by decide +kernel
theorem dL_holds_303 : decode cL_holds 303 = .ok (.invokevirtual 61, 3) := by decide +kernel
theorem dL_holds_306 : decode cL_holds 306 = .ok (.bipush 10, 2) := by decide +kernel
theorem dL_holds_308 : decode cL_holds 308 = .ok (.iload 6, 2) := by decide +kernel
theorem dL_holds_310 : decode cL_holds 310 = .ok (.imul, 1) := by decide +kernel
theorem dL_holds_311 : decode cL_holds 311 = .ok (.if_icmp .gt 7, 3) := by decide +kernel
theorem dL_holds_314 : decode cL_holds 314 = .ok (.iconst 1, 1) := by decide +kernel
theorem dL_holds_315 : decode cL_holds 315 = .ok (.goto 4, 3) := by decide +kernel
theorem dL_holds_318 : decode cL_holds 318 = .ok (.iconst 0, 1) := by decide +kernel
theorem dL_holds_319 : decode cL_holds 319 = .ok (.istore_n 1, 1) := by decide +kernel
theorem dL_holds_320 : decode cL_holds 320 = .ok (.iinc 6 1, 3) := by decide +kernel
theorem dL_holds_323 : decode cL_holds 323 = .ok (.goto (-99), 3) := by decide +kernel
theorem dL_holds_326 : decode cL_holds 326 = .ok (.iinc 5 1, 3) := by decide +kernel
theorem dL_holds_329 : decode cL_holds 329 = .ok (.goto (-200), 3) := by decide +kernel
theorem dL_holds_332 : decode cL_holds 332 = .ok (.iload_n 1, 1) := by decide +kernel
theorem dL_holds_333 : decode cL_holds 333 = .ok (.ifCond .eq 17, 3) := by decide +kernel
theorem dL_holds_336 : decode cL_holds 336 = .ok (.aload_n 0, 1) := by decide +kernel
theorem dL_holds_337 : decode cL_holds 337 = .ok (.iload_n 3, 1) := by decide +kernel
theorem dL_holds_338 : decode cL_holds 338 = .ok (.invokevirtual 64, 3) := by decide +kernel
theorem dL_holds_341 : decode cL_holds 341 = .ok (.iload 4, 2) := by decide +kernel
theorem dL_holds_343 : decode cL_holds 343 = .ok (.if_icmp .ne 7, 3) := by decide +kernel
theorem dL_holds_346 : decode cL_holds 346 = .ok (.iconst 1, 1) := by decide +kernel
theorem dL_holds_347 : decode cL_holds 347 = .ok (.goto 4, 3) := by decide +kernel
theorem dL_holds_350 : decode cL_holds 350 = .ok (.iconst 0, 1) := by decide +kernel
theorem dL_holds_351 : decode cL_holds 351 = .ok (.istore_n 1, 1) := by decide +kernel
theorem dL_holds_352 : decode cL_holds 352 = .ok (.iconst 0, 1) := by decide +kernel
theorem dL_holds_353 : decode cL_holds 353 = .ok (.istore 5, 2) := by decide +kernel
theorem dL_holds_355 : decode cL_holds 355 = .ok (.iload 5, 2) := by decide +kernel
theorem dL_holds_357 : decode cL_holds 357 = .ok (.bipush 6, 2) := by decide +kernel
theorem dL_holds_359 : decode cL_holds 359 = .ok (.if_icmp .ge 21, 3) := by decide +kernel
theorem dL_holds_362 : decode cL_holds 362 = .ok (.iload_n 1, 1) := by decide +kernel
theorem dL_holds_363 : decode cL_holds 363 = .ok (.ifCond .eq 17, 3) := by decide +kernel
theorem dL_holds_366 : decode cL_holds 366 = .ok (.aload_n 0, 1) := by decide +kernel
theorem dL_holds_367 : decode cL_holds 367 = .ok (.iload_n 3, 1) := by decide +kernel
theorem dL_holds_368 : decode cL_holds 368 = .ok (.iload 5, 2) := by decide +kernel
theorem dL_holds_370 : decode cL_holds 370 = .ok (.invokestatic 67, 3) := by decide +kernel
theorem dL_holds_373 : decode cL_holds 373 = .ok (.istore_n 1, 1) := by decide +kernel
theorem dL_holds_374 : decode cL_holds 374 = .ok (.iinc 5 1, 3) := by decide +kernel
theorem dL_holds_377 : decode cL_holds 377 = .ok (.goto (-22), 3) := by decide +kernel
theorem dL_holds_380 : decode cL_holds 380 = .ok (.iinc 2 1, 3) := by decide +kernel
theorem dL_holds_383 : decode cL_holds 383 = .ok (.goto (-336), 3) := by decide +kernel
theorem dL_holds_386 : decode cL_holds 386 = .ok (.iconst 0, 1) := by decide +kernel
theorem dL_holds_387 : decode cL_holds 387 = .ok (.istore_n 2, 1) := by decide +kernel
theorem dL_holds_388 : decode cL_holds 388 = .ok (.iload_n 2, 1) := by decide +kernel
theorem dL_holds_389 : decode cL_holds 389 = .ok (.bipush 8, 2) := by decide +kernel
theorem dL_holds_391 : decode cL_holds 391 = .ok (.if_icmp .ge 111, 3) := by decide +kernel
theorem dL_holds_394 : decode cL_holds 394 = .ok (.iload_n 1, 1) := by decide +kernel
theorem dL_holds_395 : decode cL_holds 395 = .ok (.ifCond .eq 107, 3) := by decide +kernel
theorem dL_holds_398 : decode cL_holds 398 = .ok (.iconst (-1), 1) := by decide +kernel
theorem dL_holds_399 : decode cL_holds 399 = .ok (.istore_n 3, 1) := by decide +kernel
theorem dL_holds_400 : decode cL_holds 400 = .ok (.iconst 0, 1) := by decide +kernel
theorem dL_holds_401 : decode cL_holds 401 = .ok (.istore 4, 2) := by decide +kernel
theorem dL_holds_403 : decode cL_holds 403 = .ok (.iload 4, 2) := by decide +kernel
theorem dL_holds_405 : decode cL_holds 405 = .ok (.aload_n 0, 1) := by decide +kernel
theorem dL_holds_406 : decode cL_holds 406 = .ok (.iload_n 2, 1) := by decide +kernel
theorem dL_holds_407 : decode cL_holds 407 = .ok (.invokevirtual 23, 3) := by decide +kernel
theorem dL_holds_410 : decode cL_holds 410 = .ok (.if_icmp .ge 50, 3) := by decide +kernel
theorem dL_holds_413 : decode cL_holds 413 = .ok (.iload_n 1, 1) := by decide +kernel
theorem dL_holds_414 : decode cL_holds 414 = .ok (.ifCond .eq 46, 3) := by decide +kernel
theorem dL_holds_417 : decode cL_holds 417 = .ok (.aload_n 0, 1) := by decide +kernel
theorem dL_holds_418 : decode cL_holds 418 = .ok (.iload_n 2, 1) := by decide +kernel
theorem dL_holds_419 : decode cL_holds 419 = .ok (.iload 4, 2) := by decide +kernel
theorem dL_holds_421 : decode cL_holds 421 = .ok (.invokevirtual 26, 3) := by decide +kernel
theorem dL_holds_424 : decode cL_holds 424 = .ok (.iload_n 3, 1) := by decide +kernel
theorem dL_holds_425 : decode cL_holds 425 = .ok (.if_icmp .le 19, 3) := by decide +kernel
theorem dL_holds_428 : decode cL_holds 428 = .ok (.aload_n 0, 1) := by decide +kernel
theorem dL_holds_429 : decode cL_holds 429 = .ok (.iload_n 2, 1) := by decide +kernel
theorem dL_holds_430 : decode cL_holds 430 = .ok (.iload 4, 2) := by decide +kernel
theorem dL_holds_432 : decode cL_holds 432 = .ok (.invokevirtual 26, 3) := by decide +kernel
theorem dL_holds_435 : decode cL_holds 435 = .ok (.bipush 100, 2) := by decide +kernel
theorem dL_holds_437 : decode cL_holds 437 = .ok (.if_icmp .ge 7, 3) := by decide +kernel
theorem dL_holds_440 : decode cL_holds 440 = .ok (.iconst 1, 1) := by decide +kernel
theorem dL_holds_441 : decode cL_holds 441 = .ok (.goto 4, 3) := by decide +kernel
theorem dL_holds_444 : decode cL_holds 444 = .ok (.iconst 0, 1) := by decide +kernel
theorem dL_holds_445 : decode cL_holds 445 = .ok (.istore_n 1, 1) := by decide +kernel
theorem dL_holds_446 : decode cL_holds 446 = .ok (.aload_n 0, 1) := by decide +kernel
theorem dL_holds_447 : decode cL_holds 447 = .ok (.iload_n 2, 1) := by decide +kernel
theorem dL_holds_448 : decode cL_holds 448 = .ok (.iload 4, 2) := by decide +kernel
theorem dL_holds_450 : decode cL_holds 450 = .ok (.invokevirtual 26, 3) := by decide +kernel
theorem dL_holds_453 : decode cL_holds 453 = .ok (.istore_n 3, 1) := by decide +kernel
theorem dL_holds_454 : decode cL_holds 454 = .ok (.iinc 4 1, 3) := by decide +kernel
theorem dL_holds_457 : decode cL_holds 457 = .ok (.goto (-54), 3) := by decide +kernel
theorem dL_holds_460 : decode cL_holds 460 = .ok (.iload_n 1, 1) := by decide +kernel
theorem dL_holds_461 : decode cL_holds 461 = .ok (.ifCond .eq 33, 3) := by decide +kernel
theorem dL_holds_464 : decode cL_holds 464 = .ok (.aload_n 0, 1) := by decide +kernel
theorem dL_holds_465 : decode cL_holds 465 = .ok (.iload_n 2, 1) := by decide +kernel
theorem dL_holds_466 : decode cL_holds 466 = .ok (.aload_n 0, 1) := by decide +kernel
theorem dL_holds_467 : decode cL_holds 467 = .ok (.iload_n 2, 1) := by decide +kernel
theorem dL_holds_468 : decode cL_holds 468 = .ok (.invokevirtual 23, 3) := by decide +kernel
theorem dL_holds_471 : decode cL_holds 471 = .ok (.invokevirtual 26, 3) := by decide +kernel
theorem dL_holds_474 : decode cL_holds 474 = .ok (.ldc 58, 2) := by decide +kernel
theorem dL_holds_476 : decode cL_holds 476 = .ok (.if_icmp .ne 18, 3) := by decide +kernel
theorem dL_holds_479 : decode cL_holds 479 = .ok (.aload_n 0, 1) := by decide +kernel
theorem dL_holds_480 : decode cL_holds 480 = .ok (.iload_n 2, 1) := by decide +kernel
theorem dL_holds_481 : decode cL_holds 481 = .ok (.iconst (-1), 1) := by decide +kernel
theorem dL_holds_482 : decode cL_holds 482 = .ok (.invokevirtual 26, 3) := by decide +kernel
theorem dL_holds_485 : decode cL_holds 485 = .ok (.ldc 59, 2) := by decide +kernel
theorem dL_holds_487 : decode cL_holds 487 = .ok (.if_icmp .ne 7, 3) := by decide +kernel
theorem dL_holds_490 : decode cL_holds 490 = .ok (.iconst 1, 1) := by decide +kernel
theorem dL_holds_491 : decode cL_holds 491 = .ok (.goto 4, 3) := by decide +kernel
theorem dL_holds_494 : decode cL_holds 494 = .ok (.iconst 0, 1) := by decide +kernel
theorem dL_holds_495 : decode cL_holds 495 = .ok (.istore_n 1, 1) := by decide +kernel
theorem dL_holds_496 : decode cL_holds 496 = .ok (.iinc 2 1, 3) := by decide +kernel
theorem dL_holds_499 : decode cL_holds 499 = .ok (.goto (-111), 3) := by decide +kernel
theorem dL_holds_502 : decode cL_holds 502 = .ok (.iload_n 1, 1) := by decide +kernel
theorem dL_holds_503 : decode cL_holds 503 = .ok (.ireturn, 1) := by decide +kernel
theorem dL_would_0 : decode cL_would 0 = .ok (.iload_n 1, 1) := by decide +kernel
theorem dL_would_1 : decode cL_would 1 = .ok (.bipush 8, 2) := by decide +kernel
theorem dL_would_3 : decode cL_would 3 = .ok (.invokestatic 70, 3) := by decide +kernel
theorem dL_would_6 : decode cL_would 6 = .ok (.iconst 1, 1) := by decide +kernel
theorem dL_would_7 : decode cL_would 7 = .ok (.isub, 1) := by decide +kernel
theorem dL_would_8 : decode cL_would 8 = .ok (.istore_n 2, 1) := by decide +kernel
theorem dL_would_9 : decode cL_would 9 = .ok (.iload_n 2, 1) := by decide +kernel
theorem dL_would_10 : decode cL_would 10 = .ok (.ifCond .lt 8, 3) := by decide +kernel
theorem dL_would_13 : decode cL_would 13 = .ok (.iload_n 2, 1) := by decide +kernel
theorem dL_would_14 : decode cL_would 14 = .ok (.iconst 5, 1) := by decide +kernel
theorem dL_would_15 : decode cL_would 15 = .ok (.if_icmp .le 7, 3) := by decide +kernel
theorem dL_would_18 : decode cL_would 18 = .ok (.iconst 1, 1) := by decide +kernel
theorem dL_would_19 : decode cL_would 19 = .ok (.goto 4, 3) := by decide +kernel
theorem dL_would_22 : decode cL_would 22 = .ok (.iconst 0, 1) := by decide +kernel
theorem dL_would_23 : decode cL_would 23 = .ok (.istore_n 3, 1) := by decide +kernel
theorem dL_would_24 : decode cL_would 24 = .ok (.aload_n 0, 1) := by decide +kernel
theorem dL_would_25 : decode cL_would 25 = .ok (.iload_n 2, 1) := by decide +kernel
theorem dL_would_26 : decode cL_would 26 = .ok (.invokevirtual 73, 3) := by decide +kernel
theorem dL_would_29 : decode cL_would 29 = .ok (.istore 4, 2) := by decide +kernel
theorem dL_would_31 : decode cL_would 31 = .ok (.aload_n 0, 1) := by decide +kernel
theorem dL_would_32 : decode cL_would 32 = .ok (.iload_n 2, 1) := by decide +kernel
theorem dL_would_33 : decode cL_would 33 = .ok (.iconst (-1), 1) := by decide +kernel
theorem dL_would_34 : decode cL_would 34 = .ok (.invokevirtual 76, 3) := by decide +kernel
theorem dL_would_37 : decode cL_would 37 = .ok (.istore 5, 2) := by decide +kernel
theorem dL_would_39 : decode cL_would 39 = .ok (.iload_n 1, 1) := by decide +kernel
theorem dL_would_40 : decode cL_would 40 = .ok (.iconst 3, 1) := by decide +kernel
theorem dL_would_41 : decode cL_would 41 = .ok (.ishr, 1) := by decide +kernel
theorem dL_would_42 : decode cL_would 42 = .ok (.bipush 40, 2) := by decide +kernel
theorem dL_would_44 : decode cL_would 44 = .ok (.invokestatic 70, 3) := by decide +kernel
theorem dL_would_47 : decode cL_would 47 = .ok (.iconst 1, 1) := by decide +kernel
theorem dL_would_48 : decode cL_would 48 = .ok (.isub, 1) := by decide +kernel
theorem dL_would_49 : decode cL_would 49 = .ok (.istore 6, 2) := by decide +kernel
theorem dL_would_51 : decode cL_would 51 = .ok (.iload_n 1, 1) := by decide +kernel
theorem dL_would_52 : decode cL_would 52 = .ok (.bipush 9, 2) := by decide +kernel
theorem dL_would_54 : decode cL_would 54 = .ok (.ishr, 1) := by decide +kernel
theorem dL_would_55 : decode cL_would 55 = .ok (.iconst 5, 1) := by decide +kernel
theorem dL_would_56 : decode cL_would 56 = .ok (.invokestatic 70, 3) := by decide +kernel
theorem dL_would_59 : decode cL_would 59 = .ok (.iconst 1, 1) := by decide +kernel
theorem dL_would_60 : decode cL_would 60 = .ok (.isub, 1) := by decide +kernel
theorem dL_would_61 : decode cL_would 61 = .ok (.istore 7, 2) := by decide +kernel
theorem dL_would_63 : decode cL_would 63 = .ok (.iload_n 1, 1) := by decide +kernel
theorem dL_would_64 : decode cL_would 64 = .ok (.bipush 11, 2) := by decide +kernel
theorem dL_would_66 : decode cL_would 66 = .ok (.ishr, 1) := by decide +kernel
theorem dL_would_67 : decode cL_would 67 = .ok (.iconst 2, 1) := by decide +kernel
theorem dL_would_68 : decode cL_would 68 = .ok (.invokestatic 70, 3) := by decide +kernel
theorem dL_would_71 : decode cL_would 71 = .ok (.ifCond .ne 7, 3) := by decide +kernel
theorem dL_would_74 : decode cL_would 74 = .ok (.iconst 1, 1) := by decide +kernel
theorem dL_would_75 : decode cL_would 75 = .ok (.goto 4, 3) := by decide +kernel
