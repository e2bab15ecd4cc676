theorem dL_places_0 : decode cL_places 0 = .ok (.aload_n 0, 1) := by decide +kernel
theorem dL_places_1 : decode cL_places 1 = .ok (.iload_n 1, 1) := by decide +kernel
theorem dL_places_2 : decode cL_places 2 = .ok (.iload_n 2, 1) := by decide +kernel
theorem dL_places_3 : decode cL_places 3 = .ok (.iload_n 3, 1) := by decide +kernel
theorem dL_places_4 : decode cL_places 4 = .ok (.iload 4, 2) := by decide +kernel
theorem dL_places_6 : decode cL_places 6 = .ok (.invokevirtual 7, 3) := by decide +kernel
theorem dL_places_9 : decode cL_places 9 = .ok (.ireturn, 1) := by decide +kernel
theorem dL_places_10 : decode cL_places 10 = .ok (.astore 5, 2) := by decide +kernel
theorem dL_places_12 : decode cL_places 12 = .ok (.bipush (-3), 2) := by decide +kernel
theorem dL_places_14 : decode cL_places 14 = .ok (.ireturn, 1) := by decide +kernel
theorem dL_corded_0 : decode cL_corded 0 = .ok (.aload_n 0, 1) := by decide +kernel
theorem dL_corded_1 : decode cL_corded 1 = .ok (.iload_n 1, 1) := by decide +kernel
theorem dL_corded_2 : decode cL_corded 2 = .ok (.iload_n 2, 1) := by decide +kernel
theorem dL_corded_3 : decode cL_corded 3 = .ok (.invokevirtual 15, 3) := by decide +kernel
theorem dL_corded_6 : decode cL_corded 6 = .ok (.ireturn, 1) := by decide +kernel
theorem dL_corded_7 : decode cL_corded 7 = .ok (.astore_n 3, 1) := by decide +kernel
theorem dL_corded_8 : decode cL_corded 8 = .ok (.bipush (-3), 2) := by decide +kernel
theorem dL_corded_10 : decode cL_corded 10 = .ok (.ireturn, 1) := by decide +kernel
theorem dL_feeds_0 : decode cL_feeds 0 = .ok (.aload_n 0, 1) := by decide +kernel
theorem dL_feeds_1 : decode cL_feeds 1 = .ok (.iload_n 1, 1) := by decide +kernel
theorem dL_feeds_2 : decode cL_feeds 2 = .ok (.iload_n 2, 1) := by decide +kernel
theorem dL_feeds_3 : decode cL_feeds 3 = .ok (.invokevirtual 19, 3) := by decide +kernel
theorem dL_feeds_6 : decode cL_feeds 6 = .ok (.ireturn, 1) := by decide +kernel
theorem dL_feeds_7 : decode cL_feeds 7 = .ok (.astore_n 3, 1) := by decide +kernel
theorem dL_feeds_8 : decode cL_feeds 8 = .ok (.bipush (-3), 2) := by decide +kernel
theorem dL_feeds_10 : decode cL_feeds 10 = .ok (.ireturn, 1) := by decide +kernel
theorem dL_rows_0 : decode cL_rows 0 = .ok (.aload_n 0, 1) := by decide +kernel
theorem dL_rows_1 : decode cL_rows 1 = .ok (.iload_n 1, 1) := by decide +kernel
theorem dL_rows_2 : decode cL_rows 2 = .ok (.iload_n 2, 1) := by decide +kernel
theorem dL_rows_3 : decode cL_rows 3 = .ok (.iload_n 3, 1) := by decide +kernel
theorem dL_rows_4 : decode cL_rows 4 = .ok (.invokevirtual 22, 3) := by decide +kernel
theorem dL_rows_7 : decode cL_rows 7 = .ok (.iconst 0, 1) := by decide +kernel
theorem dL_rows_8 : decode cL_rows 8 = .ok (.ireturn, 1) := by decide +kernel
theorem dL_rows_9 : decode cL_rows 9 = .ok (.astore 4, 2) := by decide +kernel
theorem dL_rows_11 : decode cL_rows 11 = .ok (.bipush (-3), 2) := by decide +kernel
theorem dL_rows_13 : decode cL_rows 13 = .ok (.ireturn, 1) := by decide +kernel
theorem dL_rack_0 : decode cL_rack 0 = .ok (.aload_n 0, 1) := by decide +kernel
theorem dL_rack_1 : decode cL_rack 1 = .ok (.iload_n 1, 1) := by decide +kernel
theorem dL_rack_2 : decode cL_rack 2 = .ok (.invokevirtual 26, 3) := by decide +kernel
theorem dL_rack_5 : decode cL_rack 5 = .ok (.ireturn, 1) := by decide +kernel
theorem dL_rack_6 : decode cL_rack 6 = .ok (.astore_n 2, 1) := by decide +kernel
theorem dL_rack_7 : decode cL_rack 7 = .ok (.iconst (-1), 1) := by decide +kernel
theorem dL_rack_8 : decode cL_rack 8 = .ok (.ireturn, 1) := by decide +kernel
theorem dL_isWalked_0 : decode cL_isWalked 0 = .ok (.iconst 0, 1) := by decide +kernel
theorem dL_isWalked_1 : decode cL_isWalked 1 = .ok (.istore_n 2, 1) := by decide +kernel
theorem dL_isWalked_2 : decode cL_isWalked 2 = .ok (.iconst (-1), 1) := by decide +kernel
theorem dL_isWalked_3 : decode cL_isWalked 3 = .ok (.istore_n 3, 1) := by decide +kernel
theorem dL_isWalked_4 : decode cL_isWalked 4 = .ok (.iconst 1, 1) := by decide +kernel
theorem dL_isWalked_5 : decode cL_isWalked 5 = .ok (.istore 4, 2) := by decide +kernel
theorem dL_isWalked_7 : decode cL_isWalked 7 = .ok (.aload_n 0, 1) := by decide +kernel
theorem dL_isWalked_8 : decode cL_isWalked 8 = .ok (.iconst (-1), 1) := by decide +kernel
theorem dL_isWalked_9 : decode cL_isWalked 9 = .ok (.invokevirtual 32, 3) := by decide +kernel
theorem dL_isWalked_12 : decode cL_isWalked 12 = .ok (.istore 5, 2) := by decide +kernel
theorem dL_isWalked_14 : decode cL_isWalked 14 = .ok (.iload 5, 2) := by decide +kernel
theorem dL_isWalked_16 : decode cL_isWalked 16 = .ok (.ifCond .lt 83, 3) := by decide +kernel
theorem dL_isWalked_19 : decode cL_isWalked 19 = .ok (.iload 4, 2) := by decide +kernel
theorem dL_isWalked_21 : decode cL_isWalked 21 = .ok (.ifCond .eq 78, 3) := by decide +kernel
theorem dL_isWalked_24 : decode cL_isWalked 24 = .ok (.bipush 20, 2) := by decide +kernel
theorem dL_isWalked_26 : decode cL_isWalked 26 = .ok (.aload_n 0, 1) := by decide +kernel
theorem dL_isWalked_27 : decode cL_isWalked 27 = .ok (.iload 5, 2) := by decide +kernel
theorem dL_isWalked_29 : decode cL_isWalked 29 = .ok (.invokevirtual 26, 3) := by decide +kernel
theorem dL_isWalked_32 : decode cL_isWalked 32 = .ok (.imul, 1) := by decide +kernel
theorem dL_isWalked_33 : decode cL_isWalked 33 = .ok (.aload_n 0, 1) := by decide +kernel
theorem dL_isWalked_34 : decode cL_isWalked 34 = .ok (.iload 5, 2) := by decide +kernel
theorem dL_isWalked_36 : decode cL_isWalked 36 = .ok (.invokevirtual 35, 3) := by decide +kernel
theorem dL_isWalked_39 : decode cL_isWalked 39 = .ok (.iadd, 1) := by decide +kernel
theorem dL_isWalked_40 : decode cL_isWalked 40 = .ok (.istore 6, 2) := by decide +kernel
theorem dL_isWalked_42 : decode cL_isWalked 42 = .ok (.iload 6, 2) := by decide +kernel
theorem dL_isWalked_44 : decode cL_isWalked 44 = .ok (.iload_n 3, 1) := by decide +kernel
theorem dL_isWalked_45 : decode cL_isWalked 45 = .ok (.if_icmp .le 34, 3) := by decide +kernel
theorem dL_isWalked_48 : decode cL_isWalked 48 = .ok (.aload_n 0, 1) := by decide +kernel
theorem dL_isWalked_49 : decode cL_isWalked 49 = .ok (.aload_n 0, 1) := by decide +kernel
theorem dL_isWalked_50 : decode cL_isWalked 50 = .ok (.iload 5, 2) := by decide +kernel
theorem dL_isWalked_52 : decode cL_isWalked 52 = .ok (.invokevirtual 26, 3) := by decide +kernel
theorem dL_isWalked_55 : decode cL_isWalked 55 = .ok (.aload_n 0, 1) := by decide +kernel
theorem dL_isWalked_56 : decode cL_isWalked 56 = .ok (.iload 5, 2) := by decide +kernel
theorem dL_isWalked_58 : decode cL_isWalked 58 = .ok (.invokevirtual 35, 3) := by decide +kernel
theorem dL_isWalked_61 : decode cL_isWalked 61 = .ok (.invokevirtual 38, 3) := by decide +kernel
theorem dL_isWalked_64 : decode cL_isWalked 64 = .ok (.iload 5, 2) := by decide +kernel
theorem dL_isWalked_66 : decode cL_isWalked 66 = .ok (.if_icmp .ne 13, 3) := by decide +kernel
theorem dL_isWalked_69 : decode cL_isWalked 69 = .ok (.iload_n 2, 1) := by decide +kernel
theorem dL_isWalked_70 : decode cL_isWalked 70 = .ok (.bipush 60, 2) := by decide +kernel
theorem dL_isWalked_72 : decode cL_isWalked 72 = .ok (.if_icmp .ge 7, 3) := by decide +kernel
theorem dL_isWalked_75 : decode cL_isWalked 75 = .ok (.iconst 1, 1) := by decide +kernel
theorem dL_isWalked_76 : decode cL_isWalked 76 = .ok (.goto 4, 3) := by decide +kernel
theorem dL_isWalked_79 : decode cL_isWalked 79 = .ok (.iconst 0, 1) := by decide +kernel
theorem dL_isWalked_80 : decode cL_isWalked 80 = .ok (.istore 4, 2) := by decide +kernel
theorem dL_isWalked_82 : decode cL_isWalked 82 = .ok (.iload 6, 2) := by decide +kernel
theorem dL_isWalked_84 : decode cL_isWalked 84 = .ok (.istore_n 3, 1) := by decide +kernel
theorem dL_isWalked_85 : decode cL_isWalked 85 = .ok (.iinc 2 1, 3) := by decide +kernel
theorem dL_isWalked_88 : decode cL_isWalked 88 = .ok (.aload_n 0, 1) := by decide +kernel
theorem dL_isWalked_89 : decode cL_isWalked 89 = .ok (.iload 5, 2) := by decide +kernel
theorem dL_isWalked_91 : decode cL_isWalked 91 = .ok (.invokevirtual 32, 3) := by decide +kernel
theorem dL_isWalked_94 : decode cL_isWalked 94 = .ok (.istore 5, 2) := by decide +kernel
theorem dL_isWalked_96 : decode cL_isWalked 96 = .ok (.goto (-82), 3) := by decide +kernel
theorem dL_isWalked_99 : decode cL_isWalked 99 = .ok (.iload 4, 2) := by decide +kernel
theorem dL_isWalked_101 : decode cL_isWalked 101 = .ok (.ifCond .eq 15, 3) := by decide +kernel
theorem dL_isWalked_104 : decode cL_isWalked 104 = .ok (.iload_n 2, 1) := by decide +kernel
theorem dL_isWalked_105 : decode cL_isWalked 105 = .ok (.aload_n 0, 1) := by decide +kernel
theorem dL_isWalked_106 : decode cL_isWalked 106 = .ok (.invokevirtual 41, 3) := by decide +kernel
theorem dL_isWalked_109 : decode cL_isWalked 109 = .ok (.if_icmp .ne 7, 3) := by decide +kernel
theorem dL_isWalked_112 : decode cL_isWalked 112 = .ok (.iconst 1, 1) := by decide +kernel
theorem dL_isWalked_113 : decode cL_isWalked 113 = .ok (.goto 4, 3) := by decide +kernel
theorem dL_isWalked_116 : decode cL_isWalked 116 = .ok (.iconst 0, 1) := by decide +kernel
theorem dL_isWalked_117 : decode cL_isWalked 117 = .ok (.istore 4, 2) := by decide +kernel
theorem dL_isWalked_119 : decode cL_isWalked 119 = .ok (.iconst 0, 1) := by decide +kernel
theorem dL_isWalked_120 : decode cL_isWalked 120 = .ok (.istore 5, 2) := by decide +kernel
theorem dL_isWalked_122 : decode cL_isWalked 122 = .ok (.iconst 0, 1) := by decide +kernel
theorem dL_isWalked_123 : decode cL_isWalked 123 = .ok (.istore 6, 2) := by decide +kernel
theorem dL_isWalked_125 : decode cL_isWalked 125 = .ok (.iload 6, 2) := by decide +kernel
theorem dL_isWalked_127 : decode cL_isWalked 127 = .ok (.aload_n 0, 1) := by decide +kernel
theorem dL_isWalked_128 : decode cL_isWalked 128 = .ok (.invokevirtual 45, 3) := by decide +kernel
theorem dL_isWalked_131 : decode cL_isWalked 131 = .ok (.if_icmp .ge 181, 3) := by decide +kernel
theorem dL_isWalked_134 : decode cL_isWalked 134 = .ok (.iload 4, 2) := by decide +kernel
theorem dL_isWalked_136 : decode cL_isWalked 136 = .ok (.ifCond .eq 176, 3) := by decide +kernel
theorem dL_isWalked_139 : decode cL_isWalked 139 = .ok (.iconst 0, 1) := by decide +kernel
theorem dL_isWalked_140 : decode cL_isWalked 140 = .ok (.istore 7, 2) := by decide +kernel
theorem dL_isWalked_142 : decode cL_isWalked 142 = .ok (.iconst 0, 1) := by decide +kernel
theorem dL_isWalked_143 : decode cL_isWalked 143 = .ok (.istore 8, 2) := by decide +kernel
theorem dL_isWalked_145 : decode cL_isWalked 145 = .ok (.iconst 0, 1) := by decide +kernel
theorem dL_isWalked_146 : decode cL_isWalked 146 = .ok (.istore 9, 2) := by decide +kernel
theorem dL_isWalked_148 : decode cL_isWalked 148 = .ok (.iload 9, 2) := by decide +kernel
theorem dL_isWalked_150 : decode cL_isWalked 150 = .ok (.aload_n 1, 1) := by decide +kernel
theorem dL_isWalked_151 : decode cL_isWalked 151 = .ok (.iload 6, 2) := by decide +kernel
theorem dL_isWalked_153 : decode cL_isWalked 153 = .ok (.iaload, 1) := by decide +kernel
theorem dL_isWalked_154 : decode cL_isWalked 154 = .ok (.if_icmp .ge 129, 3) := by decide +kernel
theorem dL_isWalked_157 : decode cL_isWalked 157 = .ok (.iload 4, 2) := by decide +kernel
theorem dL_isWalked_159 : decode cL_isWalked 159 = .ok (.ifCond .eq 124, 3) := by decide +kernel
theorem dL_isWalked_162 : decode cL_isWalked 162 = .ok (.aload_n 0, 1) := by decide +kernel
theorem dL_isWalked_163 : decode cL_isWalked 163 = .ok (.iload 6, 2) := by decide +kernel
theorem dL_isWalked_165 : decode cL_isWalked 165 = .ok (.iload 9, 2) := by decide +kernel
theorem dL_isWalked_167 : decode cL_isWalked 167 = .ok (.invokevirtual 38, 3) := by decide +kernel
theorem dL_isWalked_170 : decode cL_isWalked 170 = .ok (.istore 10, 2) := by decide +kernel
theorem dL_isWalked_172 : decode cL_isWalked 172 = .ok (.iload 10, 2) := by decide +kernel
theorem dL_isWalked_174 : decode cL_isWalked 174 = .ok (.ifCond .ge 10, 3) := by decide +kernel
theorem dL_isWalked_177 : decode cL_isWalked 177 = .ok (.iload 7, 2) := by decide +kernel
theorem dL_isWalked_179 : decode cL_isWalked 179 = .ok (.iconst 1, 1) := by decide +kernel
theorem dL_isWalked_180 : decode cL_isWalked 180 = .ok (.iadd, 1) := by decide +kernel
theorem dL_isWalked_181 : decode cL_isWalked 181 = .ok (.goto 4, 3) := by decide +kernel
theorem dL_isWalked_184 : decode cL_isWalked 184 = .ok (.iconst 0, 1) := by decide +kernel
theorem dL_isWalked_185 : decode cL_isWalked 185 = .ok (.istore 7, 2) := by decide +kernel
theorem dL_isWalked_187 : decode cL_isWalked 187 = .ok (.iload 7, 2) := by decide +kernel
theorem dL_isWalked_189 : decode cL_isWalked 189 = .ok (.iload 8, 2) := by decide +kernel
theorem dL_isWalked_191 : decode cL_isWalked 191 = .ok (.if_icmp .le 8, 3) := by decide +kernel
theorem dL_isWalked_194 : decode cL_isWalked 194 = .ok (.iload 7, 2) := by decide +kernel
theorem dL_isWalked_196 : decode cL_isWalked 196 = .ok (.goto 5, 3) := by decide +kernel
theorem dL_isWalked_199 : decode cL_isWalked 199 = .ok (.iload 8, 2) := by decide +kernel
theorem dL_isWalked_201 : decode cL_isWalked 201 = .ok (.istore 8, 2) := by decide +kernel
theorem dL_isWalked_203 : decode cL_isWalked 203 = .ok (.iload 10, 2) := by decide +kernel
theorem dL_isWalked_205 : decode cL_isWalked 205 = .ok (.ifCond .lt 39, 3) := by decide +kernel
theorem dL_isWalked_208 : decode cL_isWalked 208 = .ok (.aload_n 0, 1) := by decide +kernel
theorem dL_isWalked_209 : decode cL_isWalked 209 = .ok (.iload 10, 2) := by decide +kernel
theorem dL_isWalked_211 : decode cL_isWalked 211 = .ok (.invokevirtual 26, 3) := by decide +kernel
theorem dL_isWalked_214 : decode cL_isWalked 214 = .ok (.iload 6, 2) := by decide +kernel
theorem dL_isWalked_216 : decode cL_isWalked 216 = .ok (.if_icmp .ne 32, 3) := by decide +kernel
theorem dL_isWalked_219 : decode cL_isWalked 219 = .ok (.aload_n 0, 1) := by decide +kernel
theorem dL_isWalked_220 : decode cL_isWalked 220 = .ok (.iload 10, 2) := by decide +kernel
theorem dL_isWalked_222 : decode cL_isWalked 222 = .ok (.invokevirtual 35, 3) := by decide +kernel
theorem dL_isWalked_225 : decode cL_isWalked 225 = .ok (.iload 9, 2) := by decide +kernel
theorem dL_isWalked_227 : decode cL_isWalked 227 = .ok (.if_icmp .gt 21, 3) := by decide +kernel
theorem dL_isWalked_230 : decode cL_isWalked 230 = .ok (.iload 9, 2) := by decide +kernel
theorem dL_isWalked_232 : decode cL_isWalked 232 = .ok (.aload_n 0, 1) := by decide +kernel
theorem dL_isWalked_233 : decode cL_isWalked 233 = .ok (.iload 10, 2) := by decide +kernel
theorem dL_isWalked_235 : decode cL_isWalked 235 = .ok (.invokevirtual 35, 3) := by decide +kernel
theorem dL_isWalked_238 : decode cL_isWalked 238 = .ok (.isub, 1) := by decide +kernel
theorem dL_isWalked_239 : decode cL_isWalked 239 = .ok (.bipush 6, 2) := by decide +kernel
theorem dL_isWalked_241 : decode cL_isWalked 241 = .ok (.if_icmp .ge 7, 3) := by decide +kernel
theorem dL_isWalked_244 : decode cL_isWalked 244 = .ok (.iconst 1, 1) := by decide +kernel
theorem dL_isWalked_245 : decode cL_isWalked 245 = .ok (.goto 4, 3) := by decide +kernel
theorem dL_isWalked_248 : decode cL_isWalked 248 = .ok (.iconst 0, 1) := by decide +kernel
theorem dL_isWalked_249 : decode cL_isWalked 249 = .ok (.istore 4, 2) := by decide +kernel
theorem dL_isWalked_251 : decode cL_isWalked 251 = .ok (.iload 5, 2) := by decide +kernel
theorem dL_isWalked_253 : decode cL_isWalked 253 = .ok (.iload 10, 2) := by decide +kernel
theorem dL_isWalked_255 : decode cL_isWalked 255 = .ok (.ifCond .lt 18, 3) := by decide +kernel
theorem dL_isWalked_258 : decode cL_isWalked 258 = .ok (.aload_n 0, 1) := by decide +kernel
theorem dL_isWalked_259 : decode cL_isWalked 259 = .ok (.iload 10, 2) := by decide +kernel
theorem dL_isWalked_261 : decode cL_isWalked 261 = .ok (.invokevirtual 35, 3) := by decide +kernel
theorem dL_isWalked_264 : decode cL_isWalked 264 = .ok (.iload 9, 2) := by decide +kernel
theorem dL_isWalked_266 : decode cL_isWalked 266 = .ok (.if_icmp .ne 7, 3) := by decide +kernel
theorem dL_isWalked_269 : decode cL_isWalked 269 = .ok (.iconst 1, 1) := by decide +kernel
theorem dL_isWalked_270 : decode cL_isWalked 270 = .ok (.goto 4, 3) := by decide +kernel
theorem dL_isWalked_273 : decode cL_isWalked 273 = .ok (.iconst 0, 1) := by decide +kernel
theorem dL_isWalked_274 : decode cL_isWalked 274 = .ok (.iadd, 1) := by decide +kernel
theorem dL_isWalked_275 : decode cL_isWalked 275 = .ok (.istore 5, 2) := by decide +kernel
theorem dL_isWalked_277 : decode cL_isWalked 277 = .ok (.iinc 9 1, 3) := by decide +kernel
theorem dL_isWalked_280 : decode cL_isWalked 280 = .ok (.goto (-132), 3) := by decide +kernel
theorem dL_isWalked_283 : decode cL_isWalked 283 = .ok (.iload 4, 2) := by decide +kernel
theorem dL_isWalked_285 : decode cL_isWalked 285 = .ok (.ifCond .eq 18, 3) := by decide +kernel
theorem dL_isWalked_288 : decode cL_isWalked 288 = .ok (.aload_n 0, 1) := by decide +kernel
theorem dL_isWalked_289 : decode cL_isWalked 289 = .ok (.iload 6, 2) := by decide +kernel
theorem dL_isWalked_291 : decode cL_isWalked 291 = .ok (.invokevirtual 48, 3) := by decide +kernel
theorem dL_isWalked_294 : decode cL_isWalked 294 = .ok (.iload 8, 2) := by decide +kernel
theorem dL_isWalked_296 : decode cL_isWalked 296 = .ok (.if_icmp .ne 7, 3) := by decide +kernel
theorem dL_isWalked_299 : decode cL_isWalked 299 = .ok (.iconst 1, 1) := by decide +kernel
theorem dL_isWalked_300 : decode cL_isWalked 300 = .ok (.goto 4, 3) := by decide +kernel
theorem dL_isWalked_303 : decode cL_isWalked 303 = .ok (.iconst 0, 1) := by decide +kernel
theorem dL_isWalked_304 : decode cL_isWalked 304 = .ok (.istore 4, 2) := by decide +kernel
theorem dL_isWalked_306 : decode cL_isWalked 306 = .ok (.iinc 6 1, 3) := by decide +kernel
theorem dL_isWalked_309 : decode cL_isWalked 309 = .ok (.goto (-184), 3) := by decide +kernel
theorem dL_isWalked_312 : decode cL_isWalked 312 = .ok (.iload 4, 2) := by decide +kernel
theorem dL_isWalked_314 : decode cL_isWalked 314 = .ok (.ifCond .eq 13, 3) := by decide +kernel
theorem dL_isWalked_317 : decode cL_isWalked 317 = .ok (.iload 5, 2) := by decide +kernel
theorem dL_isWalked_319 : decode cL_isWalked 319 = .ok (.iload_n 2, 1) := by decide +kernel
theorem dL_isWalked_320 : decode cL_isWalked 320 = .ok (.if_icmp .ne 7, 3) := by decide +kernel
theorem dL_isWalked_323 : decode cL_isWalked 323 = .ok (.iconst 1, 1) := by decide +kernel
theorem dL_isWalked_324 : decode cL_isWalked 324 = .ok (.goto 4, 3) := by decide +kernel
theorem dL_isWalked_327 : decode cL_isWalked 327 = .ok (.iconst 0, 1) := by decide +kernel
theorem dL_isWalked_328 : decode cL_isWalked 328 = .ok (.ireturn, 1) := by decide +kernel
theorem dL_isFed_0 : decode cL_isFed 0 = .ok (.iconst 1, 1) := by decide +kernel
theorem dL_isFed_1 : decode cL_isFed 1 = .ok (.istore_n 2, 1) := by decide +kernel
theorem dL_isFed_2 : decode cL_isFed 2 = .ok (.iconst 0, 1) := by decide +kernel
theorem dL_isFed_3 : decode cL_isFed 3 = .ok (.istore_n 3, 1) := by decide +kernel
theorem dL_isFed_4 : decode cL_isFed 4 = .ok (.iconst 0, 1) := by decide +kernel
theorem dL_isFed_5 : decode cL_isFed 5 = .ok (.istore 4, 2) := by decide +kernel
theorem dL_isFed_7 : decode cL_isFed 7 = .ok (.iconst 0, 1) := by decide +kernel
theorem dL_isFed_8 : decode cL_isFed 8 = .ok (.istore 5, 2) := by decide +kernel
theorem dL_isFed_10 : decode cL_isFed 10 = .ok (.iconst 0, 1) := by decide +kernel
theorem dL_isFed_11 : decode cL_isFed 11 = .ok (.istore 6, 2) := by decide +kernel
theorem dL_isFed_13 : decode cL_isFed 13 = .ok (.iload 6, 2) := by decide +kernel
theorem dL_isFed_15 : decode cL_isFed 15 = .ok (.aload_n 0, 1) := by decide +kernel
theorem dL_isFed_16 : decode cL_isFed 16 = .ok (.invokevirtual 45, 3) := by decide +kernel
theorem dL_isFed_19 : decode cL_isFed 19 = .ok (.if_icmp .ge 174, 3) := by decide +kernel
theorem dL_isFed_22 : decode cL_isFed 22 = .ok (.iload_n 2, 1) := by decide +kernel
theorem dL_isFed_23 : decode cL_isFed 23 = .ok (.ifCond .eq 170, 3) := by decide +kernel
theorem dL_isFed_26 : decode cL_isFed 26 = .ok (.aload_n 0, 1) := by decide +kernel
theorem dL_isFed_27 : decode cL_isFed 27 = .ok (.iload 6, 2) := by decide +kernel
theorem dL_isFed_29 : decode cL_isFed 29 = .ok (.iconst 0, 1) := by decide +kernel
theorem dL_isFed_30 : decode cL_isFed 30 = .ok (.invokevirtual 51, 3) := by decide +kernel
theorem dL_isFed_33 : decode cL_isFed 33 = .ok (.aload_n 1, 1) := by decide +kernel
theorem dL_isFed_34 : decode cL_isFed 34 = .ok (.iload 6, 2) := by decide +kernel
theorem dL_isFed_36 : decode cL_isFed 36 = .ok (.iaload, 1) := by decide +kernel
theorem dL_isFed_37 : decode cL_isFed 37 = .ok (.if_icmp .gt 21, 3) := by decide +kernel
theorem dL_isFed_40 : decode cL_isFed 40 = .ok (.aload_n 0, 1) := by decide +kernel
theorem dL_isFed_41 : decode cL_isFed 41 = .ok (.iload 6, 2) := by decide +kernel
theorem dL_isFed_43 : decode cL_isFed 43 = .ok (.iconst 1, 1) := by decide +kernel
theorem dL_isFed_44 : decode cL_isFed 44 = .ok (.invokevirtual 51, 3) := by decide +kernel
theorem dL_isFed_47 : decode cL_isFed 47 = .ok (.aload_n 1, 1) := by decide +kernel
theorem dL_isFed_48 : decode cL_isFed 48 = .ok (.iload 6, 2) := by decide +kernel
theorem dL_isFed_50 : decode cL_isFed 50 = .ok (.iaload, 1) := by decide +kernel
theorem dL_isFed_51 : decode cL_isFed 51 = .ok (.if_icmp .gt 7, 3) := by decide +kernel
theorem dL_isFed_54 : decode cL_isFed 54 = .ok (.iconst 1, 1) := by decide +kernel
theorem dL_isFed_55 : decode cL_isFed 55 = .ok (.goto 4, 3) := by decide +kernel
theorem dL_isFed_58 : decode cL_isFed 58 = .ok (.iconst 0, 1) := by decide +kernel
theorem dL_isFed_59 : decode cL_isFed 59 = .ok (.istore_n 2, 1) := by decide +kernel
theorem dL_isFed_60 : decode cL_isFed 60 = .ok (.iconst 0, 1) := by decide +kernel
theorem dL_isFed_61 : decode cL_isFed 61 = .ok (.istore 7, 2) := by decide +kernel
theorem dL_isFed_63 : decode cL_isFed 63 = .ok (.iload 7, 2) := by decide +kernel
theorem dL_isFed_65 : decode cL_isFed 65 = .ok (.iconst 2, 1) := by decide +kernel
theorem dL_isFed_66 : decode cL_isFed 66 = .ok (.if_icmp .ge 121, 3) := by decide +kernel
theorem dL_isFed_69 : decode cL_isFed 69 = .ok (.iload_n 2, 1) := by decide +kernel
theorem dL_isFed_70 : decode cL_isFed 70 = .ok (.ifCond .eq 85, 3) := by decide +kernel
theorem dL_isFed_73 : decode cL_isFed 73 = .ok (.aload_n 0, 1) := by decide +kernel
theorem dL_isFed_74 : decode cL_isFed 74 = .ok (.iload 6, 2) := by decide +kernel
theorem dL_isFed_76 : decode cL_isFed 76 = .ok (.iload 7, 2) := by decide +kernel
theorem dL_isFed_78 : decode cL_isFed 78 = .ok (.invokevirtual 54, 3) := by decide +kernel
theorem dL_isFed_81 : decode cL_isFed 81 = .ok (.aload_n 0, 1) := by decide +kernel
theorem dL_isFed_82 : decode cL_isFed 82 = .ok (.iload 6, 2) := by decide +kernel
theorem dL_isFed_84 : decode cL_isFed 84 = .ok (.iload 7, 2) := by decide +kernel
theorem dL_isFed_86 : decode cL_isFed 86 = .ok (.invokevirtual 51, 3) := by decide +kernel
theorem dL_isFed_89 : decode cL_isFed 89 = .ok (.if_icmp .gt 66, 3) := by decide +kernel
theorem dL_isFed_92 : decode cL_isFed 92 = .ok (.aload_n 0, 1) := by decide +kernel
theorem dL_isFed_93 : decode cL_isFed 93 = .ok (.iload 7, 2) := by decide +kernel
theorem dL_isFed_95 : decode cL_isFed 95 = .ok (.invokevirtual 57, 3) := by decide +kernel
theorem dL_isFed_98 : decode cL_isFed 98 = .ok (.ifCond .eq 14, 3) := by decide +kernel
theorem dL_isFed_101 : decode cL_isFed 101 = .ok (.aload_n 0, 1) := by decide +kernel
theorem dL_isFed_102 : decode cL_isFed 102 = .ok (.iload 6, 2) := by decide +kernel
theorem dL_isFed_104 : decode cL_isFed 104 = .ok (.iload 7, 2) := by decide +kernel
theorem dL_isFed_106 : decode cL_isFed 106 = .ok (.invokevirtual 54, 3) := by decide +kernel
theorem dL_isFed_109 : decode cL_isFed 109 = .ok (.ifCond .ne 46, 3) := by decide +kernel
theorem dL_isFed_112 : decode cL_isFed 112 = .ok (.aload_n 0, 1) := by decide +kernel
theorem dL_isFed_113 : decode cL_isFed 113 = .ok (.iload 7, 2) := by decide +kernel
theorem dL_isFed_115 : decode cL_isFed 115 = .ok (.invokevirtual 57, 3) := by decide +kernel
theorem dL_isFed_118 : decode cL_isFed 118 = .ok (.ifCond .ne 33, 3) := by decide +kernel
theorem dL_isFed_121 : decode cL_isFed 121 = .ok (.aload_n 0, 1) := by decide +kernel
theorem dL_isFed_122 : decode cL_isFed 122 = .ok (.iconst 1, 1) := by decide +kernel
theorem dL_isFed_123 : decode cL_isFed 123 = .ok (.iload 7, 2) := by decide +kernel
theorem dL_isFed_125 : decode cL_isFed 125 = .ok (.isub, 1) := by decide +kernel
theorem dL_isFed_126 : decode cL_isFed 126 = .ok (.invokevirtual 57, 3) := by decide +kernel
theorem dL_isFed_129 : decode cL_isFed 129 = .ok (.ifCond .eq 22, 3) := by decide +kernel
theorem dL_isFed_132 : decode cL_isFed 132 = .ok (.aload_n 0, 1) := by decide +kernel
theorem dL_isFed_133 : decode cL_isFed 133 = .ok (.iload 6, 2) := by decide +kernel
theorem dL_isFed_135 : decode cL_isFed 135 = .ok (.iload 7, 2) := by decide +kernel
theorem dL_isFed_137 : decode cL_isFed 137 = .ok (.invokevirtual 54, 3) := by decide +kernel
theorem dL_isFed_140 : decode cL_isFed 140 = .ok (.aload_n 0, 1) := by decide +kernel
theorem dL_isFed_141 : decode cL_isFed 141 = .ok (.iload 6, 2) := by decide +kernel
theorem dL_isFed_143 : decode cL_isFed 143 = .ok (.iload 7, 2) := by decide +kernel
theorem dL_isFed_145 : decode cL_isFed 145 = .ok (.invokevirtual 51, 3) := by decide +kernel
theorem dL_isFed_148 : decode cL_isFed 148 = .ok (.if_icmp .ne 7, 3) := by decide +kernel
theorem dL_isFed_151 : decode cL_isFed 151 = .ok (.iconst 1, 1) := by decide +kernel
theorem dL_isFed_152 : decode cL_isFed 152 = .ok (.goto 4, 3) := by decide +kernel
theorem dL_isFed_155 : decode cL_isFed 155 = .ok (.iconst 0, 1) := by decide +kernel
theorem dL_isFed_156 : decode cL_isFed 156 = .ok (.istore_n 2, 1) := by decide +kernel
theorem dL_isFed_157 : decode cL_isFed 157 = .ok (.iload_n 3, 1) := by decide +kernel
theorem dL_isFed_158 : decode cL_isFed 158 = .ok (.aload_n 0, 1) := by decide +kernel
theorem dL_isFed_159 : decode cL_isFed 159 = .ok (.iload 6, 2) := by decide +kernel
theorem dL_isFed_161 : decode cL_isFed 161 = .ok (.iload 7, 2) := by decide +kernel
theorem dL_isFed_163 : decode cL_isFed 163 = .ok (.invokevirtual 54, 3) := by decide +kernel
theorem dL_isFed_166 : decode cL_isFed 166 = .ok (.iadd, 1) := by decide +kernel
theorem dL_isFed_167 : decode cL_isFed 167 = .ok (.istore_n 3, 1) := by decide +kernel
theorem dL_isFed_168 : decode cL_isFed 168 = .ok (.iload 4, 2) := by decide +kernel
theorem dL_isFed_170 : decode cL_isFed 170 = .ok (.aload_n 0, 1) := by decide +kernel
theorem dL_isFed_171 : decode cL_isFed 171 = .ok (.iload 6, 2) := by decide +kernel
theorem dL_isFed_173 : decode cL_isFed 173 = .ok (.iload 7, 2) := by decide +kernel
theorem dL_isFed_175 : decode cL_isFed 175 = .ok (.invokevirtual 51, 3) := by decide +kernel
theorem dL_isFed_178 : decode cL_isFed 178 = .ok (.iadd, 1) := by decide +kernel
theorem dL_isFed_179 : decode cL_isFed 179 = .ok (.istore 4, 2) := by decide +kernel
theorem dL_isFed_181 : decode cL_isFed 181 = .ok (.iinc 7 1, 3) := by decide +kernel
theorem dL_isFed_184 : decode cL_isFed 184 = .ok (.goto (-121), 3) := by decide +kernel
theorem dL_isFed_187 : decode cL_isFed 187 = .ok (.iinc 6 1, 3) := by decide +kernel
theorem dL_isFed_190 : decode cL_isFed 190 = .ok (.goto (-177), 3) := by decide +kernel
theorem dL_isFed_193 : decode cL_isFed 193 = .ok (.iconst 0, 1) := by decide +kernel
theorem dL_isFed_194 : decode cL_isFed 194 = .ok (.istore 6, 2) := by decide +kernel
theorem dL_isFed_196 : decode cL_isFed 196 = .ok (.iload 6, 2) := by decide +kernel
theorem dL_isFed_198 : decode cL_isFed 198 = .ok (.iconst 4, 1) := by decide +kernel
theorem dL_isFed_199 : decode cL_isFed 199 = .ok (.if_icmp .ge 20, 3) := by decide +kernel
theorem dL_isFed_202 : decode cL_isFed 202 = .ok (.iload 5, 2) := by decide +kernel
theorem dL_isFed_204 : decode cL_isFed 204 = .ok (.aload_n 0, 1) := by decide +kernel
theorem dL_isFed_205 : decode cL_isFed 205 = .ok (.iload 6, 2) := by decide +kernel
theorem dL_isFed_207 : decode cL_isFed 207 = .ok (.invokevirtual 61, 3) := by decide +kernel
theorem dL_isFed_210 : decode cL_isFed 210 = .ok (.iadd, 1) := by decide +kernel
theorem dL_isFed_211 : decode cL_isFed 211 = .ok (.istore 5, 2) := by decide +kernel
theorem dL_isFed_213 : decode cL_isFed 213 = .ok (.iinc 6 1, 3) := by decide +kernel
theorem dL_isFed_216 : decode cL_isFed 216 = .ok (.goto (-20), 3) := by decide +kernel
theorem dL_isFed_219 : decode cL_isFed 219 = .ok (.iconst 1, 1) := by decide +kernel
theorem dL_isFed_220 : decode cL_isFed 220 = .ok (.istore 6, 2) := by decide +kernel
theorem dL_isFed_222 : decode cL_isFed 222 = .ok (.aload_n 0, 1) := by decide +kernel
theorem dL_isFed_223 : decode cL_isFed 223 = .ok (.iconst (-1), 1) := by decide +kernel
theorem dL_isFed_224 : decode cL_isFed 224 = .ok (.invokevirtual 32, 3) := by decide +kernel
theorem dL_isFed_227 : decode cL_isFed 227 = .ok (.istore 7, 2) := by decide +kernel
theorem dL_isFed_229 : decode cL_isFed 229 = .ok (.iload 7, 2) := by decide +kernel
theorem dL_isFed_231 : decode cL_isFed 231 = .ok (.ifCond .lt 70, 3) := by decide +kernel
theorem dL_isFed_234 : decode cL_isFed 234 = .ok (.iload 6, 2) := by decide +kernel
theorem dL_isFed_236 : decode cL_isFed 236 = .ok (.ifCond .eq 16, 3) := by decide +kernel
theorem dL_isFed_239 : decode cL_isFed 239 = .ok (.aload_n 0, 1) := by decide +kernel
theorem dL_isFed_240 : decode cL_isFed 240 = .ok (.iload 7, 2) := by decide +kernel
theorem dL_isFed_242 : decode cL_isFed 242 = .ok (.invokevirtual 64, 3) := by decide +kernel
theorem dL_isFed_245 : decode cL_isFed 245 = .ok (.ifCond .eq 7, 3) := by decide +kernel
theorem dL_isFed_248 : decode cL_isFed 248 = .ok (.iconst 1, 1) := by decide +kernel
theorem dL_isFed_249 : decode cL_isFed 249 = .ok (.goto 4, 3) := by decide +kernel
theorem dL_isFed_252 : decode cL_isFed 252 = .ok (.iconst 0, 1) := by decide +kernel
theorem dL_isFed_253 : decode cL_isFed 253 = .ok (.istore 6, 2) := by decide +kernel
theorem dL_isFed_255 : decode cL_isFed 255 = .ok (.iload_n 2, 1) := by decide +kernel
theorem dL_isFed_256 : decode cL_isFed 256 = .ok (.ifCond .eq 32, 3) := by decide +kernel
theorem dL_isFed_259 : decode cL_isFed 259 = .ok (.aload_n 0, 1) := by decide +kernel
theorem dL_isFed_260 : decode cL_isFed 260 = .ok (.iload 7, 2) := by decide +kernel
theorem dL_isFed_262 : decode cL_isFed 262 = .ok (.invokevirtual 64, 3) := by decide +kernel
theorem dL_isFed_265 : decode cL_isFed 265 = .ok (.ifCond .eq 19, 3) := by decide +kernel
theorem dL_isFed_268 : decode cL_isFed 268 = .ok (.aload_n 0, 1) := by decide +kernel
theorem dL_isFed_269 : decode cL_isFed 269 = .ok (.iconst 0, 1) := by decide +kernel
theorem dL_isFed_270 : decode cL_isFed 270 = .ok (.invokevirtual 57, 3) := by decide +kernel
theorem dL_isFed_273 : decode cL_isFed 273 = .ok (.ifCond .ne 11, 3) := by decide +kernel
theorem dL_isFed_276 : decode cL_isFed 276 = .ok (.aload_n 0, 1) := by decide +kernel
theorem dL_isFed_277 : decode cL_isFed 277 = .ok (.iconst 1, 1) := by decide +kernel
theorem dL_isFed_278 : decode cL_isFed 278 = .ok (.invokevirtual 57, 3) := by decide +kernel
theorem dL_isFed_281 : decode cL_isFed 281 = .ok (.ifCond .eq 7, 3) := by decide +kernel
theorem dL_isFed_284 : decode cL_isFed 284 = .ok (.iconst 1, 1) := by decide +kernel
theorem dL_isFed_285 : decode cL_isFed 285 = .ok (.goto 4, 3) := by decide +kernel
theorem dL_isFed_288 : decode cL_isFed 288 = .ok (.iconst 0, 1) := by decide +kernel
theorem dL_isFed_289 : decode cL_isFed 289 = .ok (.istore_n 2, 1) := by decide +kernel
theorem dL_isFed_290 : decode cL_isFed 290 = .ok (.aload_n 0, 1) := by decide +kernel
theorem dL_isFed_291 : decode cL_isFed 291 = .ok (.iload 7, 2) := by decide +kernel
theorem dL_isFed_293 : decode cL_isFed 293 = .ok (.invokevirtual 32, 3) := by decide +kernel
theorem dL_isFed_296 : decode cL_isFed 296 = .ok (.istore 7, 2) := by decide +kernel
theorem dL_isFed_298 : decode cL_isFed 298 = .ok (.goto (-69), 3) := by decide +kernel
theorem dL_isFed_301 : decode cL_isFed 301 = .ok (.iload_n 2, 1) := by decide +kernel
theorem dL_isFed_302 : decode cL_isFed 302 = .ok (.ifCond .eq 44, 3) := by decide +kernel
theorem dL_isFed_305 : decode cL_isFed 305 = .ok (.iload 5, 2) := by decide +kernel
theorem dL_isFed_307 : decode cL_isFed 307 = .ok (.iload_n 3, 1) := by decide +kernel
theorem dL_isFed_308 : decode cL_isFed 308 = .ok (.if_icmp .ne 38, 3) := by decide +kernel
theorem dL_isFed_311 : decode cL_isFed 311 = .ok (.iload_n 3, 1) := by decide +kernel
theorem dL_isFed_312 : decode cL_isFed 312 = .ok (.iload 4, 2) := by decide +kernel
theorem dL_isFed_314 : decode cL_isFed 314 = .ok (.if_icmp .gt 32, 3) := by decide +kernel
theorem dL_isFed_317 : decode cL_isFed 317 = .ok (.aload_n 0, 1) := by decide +kernel
theorem dL_isFed_318 : decode cL_isFed 318 = .ok (.iconst 0, 1) := by decide +kernel
theorem dL_isFed_319 : decode cL_isFed 319 = .ok (.invokevirtual 57, 3) := by decide +kernel
theorem dL_isFed_322 : decode cL_isFed 322 = .ok (.ifCond .eq 20, 3) := by decide +kernel
theorem dL_isFed_325 : decode cL_isFed 325 = .ok (.aload_n 0, 1) := by decide +kernel
theorem dL_isFed_326 : decode cL_isFed 326 = .ok (.iconst 1, 1) := by decide +kernel
theorem dL_isFed_327 : decode cL_isFed 327 = .ok (.invokevirtual 57, 3) := by decide +kernel
theorem dL_isFed_330 : decode cL_isFed 330 = .ok (.ifCond .eq 12, 3) := by decide +kernel
theorem dL_isFed_333 : decode cL_isFed 333 = .ok (.iload 6, 2) := by decide +kernel
theorem dL_isFed_335 : decode cL_isFed 335 = .ok (.ifCond .eq 11, 3) := by decide +kernel
theorem dL_isFed_338 : decode cL_isFed 338 = .ok (.iload_n 3, 1) := by decide +kernel
theorem dL_isFed_339 : decode cL_isFed 339 = .ok (.ifCond .ne 7, 3) := by decide +kernel
theorem dL_isFed_342 : decode cL_isFed 342 = .ok (.iconst 1, 1) := by decide +kernel
theorem dL_isFed_343 : decode cL_isFed 343 = .ok (.goto 4, 3) := by decide +kernel
theorem dL_isFed_346 : decode cL_isFed 346 = .ok (.iconst 0, 1) := by decide +kernel
theorem dL_isFed_347 : decode cL_isFed 347 = .ok (.ireturn, 1) := by decide +kernel
theorem dL_isTold_0 : decode cL_isTold 0 = .ok (.aload_n 0, 1) := by decide +kernel
theorem dL_isTold_1 : decode cL_isTold 1 = .ok (.iload_n 1, 1) := by decide +kernel
theorem dL_isTold_2 : decode cL_isTold 2 = .ok (.iload_n 2, 1) := by decide +kernel
theorem dL_isTold_3 : decode cL_isTold 3 = .ok (.iload_n 3, 1) := by decide +kernel
theorem dL_isTold_4 : decode cL_isTold 4 = .ok (.iload 4, 2) := by decide +kernel
theorem dL_isTold_6 : decode cL_isTold 6 = .ok (.invokevirtual 67, 3) := by decide +kernel
theorem dL_isTold_9 : decode cL_isTold 9 = .ok (.istore 5, 2) := by decide +kernel
theorem dL_isTold_11 : decode cL_isTold 11 = .ok (.aload_n 0, 1) := by decide +kernel
theorem dL_isTold_12 : decode cL_isTold 12 = .ok (.iload_n 1, 1) := by decide +kernel
theorem dL_isTold_13 : decode cL_isTold 13 = .ok (.iload_n 2, 1) := by decide +kernel
theorem dL_isTold_14 : decode cL_isTold 14 = .ok (.iload_n 3, 1) := by decide +kernel
theorem dL_isTold_15 : decode cL_isTold 15 = .ok (.iload 4, 2) := by decide +kernel
theorem dL_isTold_17 : decode cL_isTold 17 = .ok (.invokevirtual 70, 3) := by decide +kernel
theorem dL_isTold_20 : decode cL_isTold 20 = .ok (.istore 6, 2) := by decide +kernel
theorem dL_isTold_22 : decode cL_isTold 22 = .ok (.aload_n 0, 1) := by decide +kernel
theorem dL_isTold_23 : decode cL_isTold 23 = .ok (.invokevirtual 41, 3) := by decide +kernel
theorem dL_isTold_26 : decode cL_isTold 26 = .ok (.istore 7, 2) := by decide +kernel
theorem dL_isTold_28 : decode cL_isTold 28 = .ok (.iload 6, 2) := by decide +kernel
theorem dL_isTold_30 : decode cL_isTold 30 = .ok (.aload_n 0, 1) := by decide +kernel
theorem dL_isTold_31 : decode cL_isTold 31 = .ok (.iload_n 1, 1) := by decide +kernel
theorem dL_isTold_32 : decode cL_isTold 32 = .ok (.iload_n 2, 1) := by decide +kernel
theorem dL_isTold_33 : decode cL_isTold 33 = .ok (.iload_n 3, 1) := by decide +kernel
theorem dL_isTold_34 : decode cL_isTold 34 = .ok (.iload 4, 2) := by decide +kernel
theorem dL_isTold_36 : decode cL_isTold 36 = .ok (.invokevirtual 73, 3) := by decide +kernel
theorem dL_isTold_39 : decode cL_isTold 39 = .ok (.if_icmp .ne 54, 3) := by decide +kernel
theorem dL_isTold_42 : decode cL_isTold 42 = .ok (.iload 6, 2) := by decide +kernel
theorem dL_isTold_44 : decode cL_isTold 44 = .ok (.ifCond .le 7, 3) := by decide +kernel
theorem dL_isTold_47 : decode cL_isTold 47 = .ok (.iconst 1, 1) := by decide +kernel
theorem dL_isTold_48 : decode cL_isTold 48 = .ok (.goto 4, 3) := by decide +kernel
theorem dL_isTold_51 : decode cL_isTold 51 = .ok (.iconst 0, 1) := by decide +kernel
theorem dL_isTold_52 : decode cL_isTold 52 = .ok (.iload 5, 2) := by decide +kernel
theorem dL_isTold_54 : decode cL_isTold 54 = .ok (.ifCond .eq 7, 3) := by decide +kernel
theorem dL_isTold_57 : decode cL_isTold 57 = .ok (.iconst 1, 1) := by decide +kernel
theorem dL_isTold_58 : decode cL_isTold 58 = .ok (.goto 4, 3) := by decide +kernel
theorem dL_isTold_61 : decode cL_isTold 61 = .ok (.iconst 0, 1) := by decide +kernel
theorem dL_isTold_62 : decode cL_isTold 62 = .ok (.if_icmp .ne 31, 3) := by decide +kernel
theorem dL_isTold_65 : decode cL_isTold 65 = .ok (.aload_n 0, 1) := by decide +kernel
theorem dL_isTold_66 : decode cL_isTold 66 = .ok (.iload_n 1, 1) := by decide +kernel
theorem dL_isTold_67 : decode cL_isTold 67 = .ok (.iload_n 2, 1) := by decide +kernel
theorem dL_isTold_68 : decode cL_isTold 68 = .ok (.iload_n 3, 1) := by decide +kernel
theorem dL_isTold_69 : decode cL_isTold 69 = .ok (.iconst 2, 1) := by decide +kernel
theorem dL_isTold_70 : decode cL_isTold 70 = .ok (.invokevirtual 70, 3) := by decide +kernel
theorem dL_isTold_73 : decode cL_isTold 73 = .ok (.iload 6, 2) := by decide +kernel
theorem dL_isTold_75 : decode cL_isTold 75 = .ok (.if_icmp .gt 18, 3) := by decide +kernel
theorem dL_isTold_78 : decode cL_isTold 78 = .ok (.iload 5, 2) := by decide +kernel
theorem dL_isTold_80 : decode cL_isTold 80 = .ok (.iconst 1, 1) := by decide +kernel
theorem dL_isTold_81 : decode cL_isTold 81 = .ok (.aload_n 0, 1) := by decide +kernel
theorem dL_isTold_82 : decode cL_isTold 82 = .ok (.invokevirtual 45, 3) := by decide +kernel
theorem dL_isTold_85 : decode cL_isTold 85 = .ok (.ishl, 1) := by decide +kernel
theorem dL_isTold_86 : decode cL_isTold 86 = .ok (.if_icmp .ge 7, 3) := by decide +kernel
theorem dL_isTold_89 : decode cL_isTold 89 = .ok (.iconst 1, 1) := by decide +kernel
theorem dL_isTold_90 : decode cL_isTold 90 = .ok (.goto 4, 3) := by decide +kernel
theorem dL_isTold_93 : decode cL_isTold 93 = .ok (.iconst 0, 1) := by decide +kernel
theorem dL_isTold_94 : decode cL_isTold 94 = .ok (.istore 8, 2) := by decide +kernel
theorem dL_isTold_96 : decode cL_isTold 96 = .ok (.aload_n 0, 1) := by decide +kernel
theorem dL_isTold_97 : decode cL_isTold 97 = .ok (.iload_n 1, 1) := by decide +kernel
theorem dL_isTold_98 : decode cL_isTold 98 = .ok (.iload_n 2, 1) := by decide +kernel
theorem dL_isTold_99 : decode cL_isTold 99 = .ok (.iload_n 3, 1) := by decide +kernel
theorem dL_isTold_100 : decode cL_isTold 100 = .ok (.iload 4, 2) := by decide +kernel
theorem dL_isTold_102 : decode cL_isTold 102 = .ok (.invokestatic 76, 3) := by decide +kernel
theorem dL_isTold_105 : decode cL_isTold 105 = .ok (.istore 9, 2) := by decide +kernel
theorem dL_isTold_107 : decode cL_isTold 107 = .ok (.iload 9, 2) := by decide +kernel
theorem dL_isTold_109 : decode cL_isTold 109 = .ok (.ifCond .ge 35, 3) := by decide +kernel
theorem dL_isTold_112 : decode cL_isTold 112 = .ok (.iload 8, 2) := by decide +kernel
theorem dL_isTold_114 : decode cL_isTold 114 = .ok (.ifCond .eq 28, 3) := by decide +kernel
theorem dL_isTold_117 : decode cL_isTold 117 = .ok (.iload 6, 2) := by decide +kernel
theorem dL_isTold_119 : decode cL_isTold 119 = .ok (.ifCond .eq 10, 3) := by decide +kernel
theorem dL_isTold_122 : decode cL_isTold 122 = .ok (.iload 7, 2) := by decide +kernel
theorem dL_isTold_124 : decode cL_isTold 124 = .ok (.bipush 60, 2) := by decide +kernel
theorem dL_isTold_126 : decode cL_isTold 126 = .ok (.if_icmp .ne 16, 3) := by decide +kernel
theorem dL_isTold_129 : decode cL_isTold 129 = .ok (.aload_n 0, 1) := by decide +kernel
theorem dL_isTold_130 : decode cL_isTold 130 = .ok (.invokevirtual 41, 3) := by decide +kernel
theorem dL_isTold_133 : decode cL_isTold 133 = .ok (.iload 7, 2) := by decide +kernel
theorem dL_isTold_135 : decode cL_isTold 135 = .ok (.if_icmp .ne 7, 3) := by decide +kernel
theorem dL_isTold_138 : decode cL_isTold 138 = .ok (.iconst 1, 1) := by decide +kernel
theorem dL_isTold_139 : decode cL_isTold 139 = .ok (.goto 4, 3) := by decide +kernel
theorem dL_isTold_142 : decode cL_isTold 142 = .ok (.iconst 0, 1) := by decide +kernel
theorem dL_isTold_143 : decode cL_isTold 143 = .ok (.ireturn, 1) := by decide +kernel
theorem dL_isTold_144 : decode cL_isTold 144 = .ok (.iconst 0, 1) := by decide +kernel
theorem dL_isTold_145 : decode cL_isTold 145 = .ok (.istore 10, 2) := by decide +kernel
theorem dL_isTold_147 : decode cL_isTold 147 = .ok (.iload 5, 2) := by decide +kernel
theorem dL_isTold_149 : decode cL_isTold 149 = .ok (.iload 10, 2) := by decide +kernel
theorem dL_isTold_151 : decode cL_isTold 151 = .ok (.ishr, 1) := by decide +kernel
theorem dL_isTold_152 : decode cL_isTold 152 = .ok (.iconst 1, 1) := by decide +kernel
theorem dL_isTold_153 : decode cL_isTold 153 = .ok (.iand, 1) := by decide +kernel
theorem dL_isTold_154 : decode cL_isTold 154 = .ok (.ifCond .ne 9, 3) := by decide +kernel
theorem dL_isTold_157 : decode cL_isTold 157 = .ok (.iinc 10 1, 3) := by decide +kernel
theorem dL_isTold_160 : decode cL_isTold 160 = .ok (.goto (-13), 3) := by decide +kernel
theorem dL_isTold_163 : decode cL_isTold 163 = .ok (.iload 8, 2) := by decide +kernel
theorem dL_isTold_165 : decode cL_isTold 165 = .ok (.ifCond .eq 45, 3) := by decide +kernel
theorem dL_isTold_168 : decode cL_isTold 168 = .ok (.aload_n 0, 1) := by decide +kernel
theorem dL_isTold_169 : decode cL_isTold 169 = .ok (.iload 9, 2) := by decide +kernel
theorem dL_isTold_171 : decode cL_isTold 171 = .ok (.invokevirtual 26, 3) := by decide +kernel
theorem dL_isTold_174 : decode cL_isTold 174 = .ok (.iload 10, 2) := by decide +kernel
theorem dL_isTold_176 : decode cL_isTold 176 = .ok (.if_icmp .ne 34, 3) := by decide +kernel
theorem dL_isTold_179 : decode cL_isTold 179 = .ok (.aload_n 0, 1) := by decide +kernel
theorem dL_isTold_180 : decode cL_isTold 180 = .ok (.invokevirtual 41, 3) := by decide +kernel
theorem dL_isTold_183 : decode cL_isTold 183 = .ok (.iload 7, 2) := by decide +kernel
theorem dL_isTold_185 : decode cL_isTold 185 = .ok (.iconst 1, 1) := by decide +kernel
theorem dL_isTold_186 : decode cL_isTold 186 = .ok (.iadd, 1) := by decide +kernel
theorem dL_isTold_187 : decode cL_isTold 187 = .ok (.if_icmp .ne 23, 3) := by decide +kernel
theorem dL_isTold_190 : decode cL_isTold 190 = .ok (.aload_n 0, 1) := by decide +kernel
theorem dL_isTold_191 : decode cL_isTold 191 = .ok (.iload_n 1, 1) := by decide +kernel
theorem dL_isTold_192 : decode cL_isTold 192 = .ok (.iload_n 2, 1) := by decide +kernel
theorem dL_isTold_193 : decode cL_isTold 193 = .ok (.iload_n 3, 1) := by decide +kernel
theorem dL_isTold_194 : decode cL_isTold 194 = .ok (.iload 4, 2) := by decide +kernel
theorem dL_isTold_196 : decode cL_isTold 196 = .ok (.invokevirtual 70, 3) := by decide +kernel
theorem dL_isTold_199 : decode cL_isTold 199 = .ok (.iload 6, 2) := by decide +kernel
theorem dL_isTold_201 : decode cL_isTold 201 = .ok (.iconst 1, 1) := by decide +kernel
theorem dL_isTold_202 : decode cL_isTold 202 = .ok (.isub, 1) := by decide +kernel
theorem dL_isTold_203 : decode cL_isTold 203 = .ok (.if_icmp .ne 7, 3) := by decide +kernel
theorem dL_isTold_206 : decode cL_isTold 206 = .ok (.iconst 1, 1) := by decide +kernel
theorem dL_isTold_207 : decode cL_isTold 207 = .ok (.goto 4, 3) := by decide +kernel
theorem dL_isTold_210 : decode cL_isTold 210 = .ok (.iconst 0, 1) := by decide +kernel
theorem dL_isTold_211 : decode cL_isTold 211 = .ok (.istore 8, 2) := by decide +kernel
theorem dL_isTold_213 : decode cL_isTold 213 = .ok (.iload 8, 2) := by decide +kernel
theorem dL_isTold_215 : decode cL_isTold 215 = .ok (.ifCond .eq 42, 3) := by decide +kernel
theorem dL_isTold_218 : decode cL_isTold 218 = .ok (.aload_n 0, 1) := by decide +kernel
theorem dL_isTold_219 : decode cL_isTold 219 = .ok (.iload 9, 2) := by decide +kernel
theorem dL_isTold_221 : decode cL_isTold 221 = .ok (.invokevirtual 82, 3) := by decide +kernel
theorem dL_isTold_224 : decode cL_isTold 224 = .ok (.iload 10, 2) := by decide +kernel
theorem dL_isTold_226 : decode cL_isTold 226 = .ok (.if_icmp .ne 31, 3) := by decide +kernel
theorem dL_isTold_229 : decode cL_isTold 229 = .ok (.aload_n 0, 1) := by decide +kernel
theorem dL_isTold_230 : decode cL_isTold 230 = .ok (.iload_n 1, 1) := by decide +kernel
theorem dL_isTold_231 : decode cL_isTold 231 = .ok (.iload_n 2, 1) := by decide +kernel
theorem dL_isTold_232 : decode cL_isTold 232 = .ok (.iload_n 3, 1) := by decide +kernel
theorem dL_isTold_233 : decode cL_isTold 233 = .ok (.iload 4, 2) := by decide +kernel
theorem dL_isTold_235 : decode cL_isTold 235 = .ok (.invokevirtual 70, 3) := by decide +kernel
theorem dL_isTold_238 : decode cL_isTold 238 = .ok (.iload 6, 2) := by decide +kernel
theorem dL_isTold_240 : decode cL_isTold 240 = .ok (.if_icmp .ne 17, 3) := by decide +kernel
theorem dL_isTold_243 : decode cL_isTold 243 = .ok (.aload_n 0, 1) := by decide +kernel
theorem dL_isTold_244 : decode cL_isTold 244 = .ok (.iload 9, 2) := by decide +kernel
theorem dL_isTold_246 : decode cL_isTold 246 = .ok (.invokestatic 85, 3) := by decide +kernel
theorem dL_isTold_249 : decode cL_isTold 249 = .ok (.iconst (-1), 1) := by decide +kernel
theorem dL_isTold_250 : decode cL_isTold 250 = .ok (.if_icmp .ne 7, 3) := by decide +kernel
theorem dL_isTold_253 : decode cL_isTold 253 = .ok (.iconst 1, 1) := by decide +kernel
theorem dL_isTold_254 : decode cL_isTold 254 = .ok (.goto 4, 3) := by decide +kernel
theorem dL_isTold_257 : decode cL_isTold 257 = .ok (.iconst 0, 1) := by decide +kernel
theorem dL_isTold_258 : decode cL_isTold 258 = .ok (.ireturn, 1) := by decide +kernel
theorem dL_law_0 : decode cL_law 0 = .ok (.new 8, 3) := by decide +kernel
theorem dL_law_3 : decode cL_law 3 = .ok (.dup, 1) := by decide +kernel
theorem dL_law_4 : decode cL_law 4 = .ok (.invokespecial 89, 3) := by decide +kernel
theorem dL_law_7 : decode cL_law 7 = .ok (.astore_n 1, 1) := by decide +kernel
theorem dL_law_8 : decode cL_law 8 = .ok (.bipush 8, 2) := by decide +kernel
theorem dL_law_10 : decode cL_law 10 = .ok (.newarray .int, 2) := by decide +kernel
theorem dL_law_12 : decode cL_law 12 = .ok (.astore_n 2, 1) := by decide +kernel
theorem dL_law_13 : decode cL_law 13 = .ok (.bipush 8, 2) := by decide +kernel
theorem dL_law_15 : decode cL_law 15 = .ok (.newarray .int, 2) := by decide +kernel
theorem dL_law_17 : decode cL_law 17 = .ok (.astore_n 3, 1) := by decide +kernel
theorem dL_law_18 : decode cL_law 18 = .ok (.bipush 8, 2) := by decide +kernel
theorem dL_law_20 : decode cL_law 20 = .ok (.newarray .int, 2) := by decide +kernel
theorem dL_law_22 : decode cL_law 22 = .ok (.astore 4, 2) := by decide +kernel
theorem dL_law_24 : decode cL_law 24 = .ok (.iconst 4, 1) := by decide +kernel
theorem dL_law_25 : decode cL_law 25 = .ok (.newarray .int, 2) := by decide +kernel
theorem dL_law_27 : decode cL_law 27 = .ok (.astore 5, 2) := by decide +kernel
theorem dL_law_29 : decode cL_law 29 = .ok (.iconst 0, 1) := by decide +kernel
theorem dL_law_30 : decode cL_law 30 = .ok (.istore 6, 2) := by decide +kernel
theorem dL_law_32 : decode cL_law 32 = .ok (.iload 6, 2) := by decide +kernel
theorem dL_law_34 : decode cL_law 34 = .ok (.iconst 4, 1) := by decide +kernel
theorem dL_law_35 : decode cL_law 35 = .ok (.if_icmp .ge 17, 3) := by decide +kernel
theorem dL_law_38 : decode cL_law 38 = .ok (.aload 5, 2) := by decide +kernel
theorem dL_law_40 : decode cL_law 40 = .ok (.iload 6, 2) := by decide +kernel
theorem dL_law_42 : decode cL_law 42 = .ok (.sipush 10000, 3) := by decide +kernel
theorem dL_law_45 : decode cL_law 45 = .ok (.iastore, 1) := by decide +kernel
theorem dL_law_46 : decode cL_law 46 = .ok (.iinc 6 1, 3) := by decide +kernel
theorem dL_law_49 : decode cL_law 49 = .ok (.goto (-17), 3) := by decide +kernel
theorem dL_law_52 : decode cL_law 52 = .ok (.iconst 0, 1) := by decide +kernel
theorem dL_law_53 : decode cL_law 53 = .ok (.istore 6, 2) := by decide +kernel
theorem dL_law_55 : decode cL_law 55 = .ok (.aload_n 1, 1) := by decide +kernel
theorem dL_law_56 : decode cL_law 56 = .ok (.aload_n 2, 1) := by decide +kernel
theorem dL_law_57 : decode cL_law 57 = .ok (.invokestatic 90, 3) := by decide +kernel
theorem dL_law_60 : decode cL_law 60 = .ok (.ifCond .eq 15, 3) := by decide +kernel
theorem dL_law_63 : decode cL_law 63 = .ok (.aload_n 1, 1) := by decide +kernel
theorem dL_law_64 : decode cL_law 64 = .ok (.aload_n 3, 1) := by decide +kernel
theorem dL_law_65 : decode cL_law 65 = .ok (.invokestatic 94, 3) := by decide +kernel
theorem dL_law_68 : decode cL_law 68 = .ok (.ifCond .eq 7, 3) := by decide +kernel
theorem dL_law_71 : decode cL_law 71 = .ok (.iconst 1, 1) := by decide +kernel
theorem dL_law_72 : decode cL_law 72 = .ok (.goto 4, 3) := by decide +kernel
theorem dL_law_75 : decode cL_law 75 = .ok (.iconst 0, 1) := by decide +kernel
theorem dL_law_76 : decode cL_law 76 = .ok (.istore 7, 2) := by decide +kernel
theorem dL_law_78 : decode cL_law 78 = .ok (.aload_n 0, 1) := by decide +kernel
theorem dL_law_79 : decode cL_law 79 = .ok (.arraylength, 1) := by decide +kernel
theorem dL_law_80 : decode cL_law 80 = .ok (.bipush 20, 2) := by decide +kernel
theorem dL_law_82 : decode cL_law 82 = .ok (.if_icmp .ge 8, 3) := by decide +kernel
theorem dL_law_85 : decode cL_law 85 = .ok (.bipush 60, 2) := by decide +kernel
theorem dL_law_87 : decode cL_law 87 = .ok (.goto 20, 3) := by decide +kernel
theorem dL_law_90 : decode cL_law 90 = .ok (.aload_n 0, 1) := by decide +kernel
theorem dL_law_91 : decode cL_law 91 = .ok (.arraylength, 1) := by decide +kernel
theorem dL_law_92 : decode cL_law 92 = .ok (.bipush 60, 2) := by decide +kernel
theorem dL_law_94 : decode cL_law 94 = .ok (.if_icmp .ge 10, 3) := by decide +kernel
theorem dL_law_97 : decode cL_law 97 = .ok (.iconst 3, 1) := by decide +kernel
theorem dL_law_98 : decode cL_law 98 = .ok (.aload_n 0, 1) := by decide +kernel
theorem dL_law_99 : decode cL_law 99 = .ok (.arraylength, 1) := by decide +kernel
theorem dL_law_100 : decode cL_law 100 = .ok (.imul, 1) := by decide +kernel
theorem dL_law_101 : decode cL_law 101 = .ok (.goto 6, 3) := by decide +kernel
theorem dL_law_104 : decode cL_law 104 = .ok (.sipush 180, 3) := by decide +kernel
theorem dL_law_107 : decode cL_law 107 = .ok (.istore 8, 2) := by decide +kernel
theorem dL_law_109 : decode cL_law 109 = .ok (.iconst 0, 1) := by decide +kernel
theorem dL_law_110 : decode cL_law 110 = .ok (.istore 9, 2) := by decide +kernel
theorem dL_law_112 : decode cL_law 112 = .ok (.iload 9, 2) := by decide +kernel
theorem dL_law_114 : decode cL_law 114 = .ok (.iload 8, 2) := by decide +kernel
theorem dL_law_116 : decode cL_law 116 = .ok (.if_icmp .ge 1203, 3) := by decide +kernel
theorem dL_law_119 : decode cL_law 119 = .ok (.iload 7, 2) := by decide +kernel
theorem dL_law_121 : decode cL_law 121 = .ok (.ifCond .eq 1198, 3) := by decide +kernel
theorem dL_law_124 : decode cL_law 124 = .ok (.iload 9, 2) := by decide +kernel
theorem dL_law_126 : decode cL_law 126 = .ok (.aload_n 0, 1) := by decide +kernel
theorem dL_law_127 : decode cL_law 127 = .ok (.arraylength, 1) := by decide +kernel
theorem dL_law_128 : decode cL_law 128 = .ok (.if_icmp .ge 10, 3) := by decide +kernel
theorem dL_law_131 : decode cL_law 131 = .ok (.aload_n 0, 1) := by decide +kernel
theorem dL_law_132 : decode cL_law 132 = .ok (.iload 9, 2) := by decide +kernel
theorem dL_law_134 : decode cL_law 134 = .ok (.iaload, 1) := by decide +kernel
theorem dL_law_135 : decode cL_law 135 = .ok (.goto 21, 3) := by decide +kernel
theorem dL_law_138 : decode cL_law 138 = .ok (.ldc 97, 2) := by decide +kernel
theorem dL_law_140 : decode cL_law 140 = .ok (.iload 9, 2) := by decide +kernel
theorem dL_law_142 : decode cL_law 142 = .ok (.imul, 1) := by decide +kernel
theorem dL_law_143 : decode cL_law 143 = .ok (.iload 9, 2) := by decide +kernel
theorem dL_law_145 : decode cL_law 145 = .ok (.imul, 1) := by decide +kernel
theorem dL_law_146 : decode cL_law 146 = .ok (.sipush 19001, 3) := by decide +kernel
theorem dL_law_149 : decode cL_law 149 = .ok (.iload 9, 2) := by decide +kernel
theorem dL_law_151 : decode cL_law 151 = .ok (.imul, 1) := by decide +kernel
theorem dL_law_152 : decode cL_law 152 = .ok (.iadd, 1) := by decide +kernel
theorem dL_law_153 : decode cL_law 153 = .ok (.bipush 12, 2) := by decide +kernel
theorem dL_law_155 : decode cL_law 155 = .ok (.iadd, 1) := by decide +kernel
theorem dL_law_156 : decode cL_law 156 = .ok (.istore 10, 2) := by decide +kernel
theorem dL_law_158 : decode cL_law 158 = .ok (.iload 10, 2) := by decide +kernel
theorem dL_law_160 : decode cL_law 160 = .ok (.iconst 4, 1) := by decide +kernel
theorem dL_law_161 : decode cL_law 161 = .ok (.ishr, 1) := by decide +kernel
theorem dL_law_162 : decode cL_law 162 = .ok (.istore 11, 2) := by decide +kernel
theorem dL_law_164 : decode cL_law 164 = .ok (.iload 9, 2) := by decide +kernel
theorem dL_law_166 : decode cL_law 166 = .ok (.iconst 2, 1) := by decide +kernel
theorem dL_law_167 : decode cL_law 167 = .ok (.if_icmp .ge 7, 3) := by decide +kernel
theorem dL_law_170 : decode cL_law 170 = .ok (.iconst 0, 1) := by decide +kernel
theorem dL_law_171 : decode cL_law 171 = .ok (.goto 8, 3) := by decide +kernel
theorem dL_law_174 : decode cL_law 174 = .ok (.iload 10, 2) := by decide +kernel
theorem dL_law_176 : decode cL_law 176 = .ok (.bipush 15, 2) := by decide +kernel
theorem dL_law_178 : decode cL_law 178 = .ok (.iand, 1) := by decide +kernel
theorem dL_law_179 : decode cL_law 179 = .ok (.istore 12, 2) := by decide +kernel
theorem dL_law_181 : decode cL_law 181 = .ok (.iconst 1, 1) := by decide +kernel
theorem dL_law_182 : decode cL_law 182 = .ok (.iload 11, 2) := by decide +kernel
theorem dL_law_184 : decode cL_law 184 = .ok (.bipush 8, 2) := by decide +kernel
theorem dL_law_186 : decode cL_law 186 = .ok (.ishr, 1) := by decide +kernel
theorem dL_law_187 : decode cL_law 187 = .ok (.sipush 255, 3) := by decide +kernel
theorem dL_law_190 : decode cL_law 190 = .ok (.iand, 1) := by decide +kernel
theorem dL_law_191 : decode cL_law 191 = .ok (.bipush 6, 2) := by decide +kernel
theorem dL_law_193 : decode cL_law 193 = .ok (.irem, 1) := by decide +kernel
theorem dL_law_194 : decode cL_law 194 = .ok (.iadd, 1) := by decide +kernel
theorem dL_law_195 : decode cL_law 195 = .ok (.istore 13, 2) := by decide +kernel
theorem dL_law_197 : decode cL_law 197 = .ok (.iload 11, 2) := by decide +kernel
theorem dL_law_199 : decode cL_law 199 = .ok (.bipush 10, 2) := by decide +kernel
theorem dL_law_201 : decode cL_law 201 = .ok (.ishr, 1) := by decide +kernel
theorem dL_law_202 : decode cL_law 202 = .ok (.bipush 15, 2) := by decide +kernel
theorem dL_law_204 : decode cL_law 204 = .ok (.iand, 1) := by decide +kernel
theorem dL_law_205 : decode cL_law 205 = .ok (.bipush 60, 2) := by decide +kernel
theorem dL_law_207 : decode cL_law 207 = .ok (.imul, 1) := by decide +kernel
theorem dL_law_208 : decode cL_law 208 = .ok (.iload 11, 2) := by decide +kernel
theorem dL_law_210 : decode cL_law 210 = .ok (.iconst 3, 1) := by decide +kernel
theorem dL_law_211 : decode cL_law 211 = .ok (.iand, 1) := by decide +kernel
theorem dL_law_212 : decode cL_law 212 = .ok (.iadd, 1) := by decide +kernel
theorem dL_law_213 : decode cL_law 213 = .ok (.istore 14, 2) := by decide +kernel
theorem dL_law_215 : decode cL_law 215 = .ok (.iload 11, 2) := by decide +kernel
theorem dL_law_217 : decode cL_law 217 = .ok (.bipush 14, 2) := by decide +kernel
theorem dL_law_219 : decode cL_law 219 = .ok (.ishr, 1) := by decide +kernel
theorem dL_law_220 : decode cL_law 220 = .ok (.bipush 7, 2) := by decide +kernel
theorem dL_law_222 : decode cL_law 222 = .ok (.iand, 1) := by decide +kernel
theorem dL_law_223 : decode cL_law 223 = .ok (.bipush 90, 2) := by decide +kernel
theorem dL_law_225 : decode cL_law 225 = .ok (.imul, 1) := by decide +kernel
theorem dL_law_226 : decode cL_law 226 = .ok (.istore 15, 2) := by decide +kernel
theorem dL_law_228 : decode cL_law 228 = .ok (.iload 11, 2) := by decide +kernel
theorem dL_law_230 : decode cL_law 230 = .ok (.bipush 17, 2) := by decide +kernel
theorem dL_law_232 : decode cL_law 232 = .ok (.ishr, 1) := by decide +kernel
theorem dL_law_233 : decode cL_law 233 = .ok (.sipush 255, 3) := by decide +kernel
theorem dL_law_236 : decode cL_law 236 = .ok (.iand, 1) := by decide +kernel
theorem dL_law_237 : decode cL_law 237 = .ok (.iconst 3, 1) := by decide +kernel
theorem dL_law_238 : decode cL_law 238 = .ok (.irem, 1) := by decide +kernel
theorem dL_law_239 : decode cL_law 239 = .ok (.istore 16, 2) := by decide +kernel
theorem dL_law_241 : decode cL_law 241 = .ok (.iload 6, 2) := by decide +kernel
theorem dL_law_243 : decode cL_law 243 = .ok (.ifCond .ne 7, 3) := by decide +kernel
theorem dL_law_246 : decode cL_law 246 = .ok (.iconst (-1), 1) := by decide +kernel
theorem dL_law_247 : decode cL_law 247 = .ok (.goto 11, 3) := by decide +kernel
theorem dL_law_250 : decode cL_law 250 = .ok (.iload 11, 2) := by decide +kernel
theorem dL_law_252 : decode cL_law 252 = .ok (.ldc 98, 2) := by decide +kernel
theorem dL_law_254 : decode cL_law 254 = .ok (.iand, 1) := by decide +kernel
theorem dL_law_255 : decode cL_law 255 = .ok (.iload 6, 2) := by decide +kernel
theorem dL_law_257 : decode cL_law 257 = .ok (.irem, 1) := by decide +kernel
theorem dL_law_258 : decode cL_law 258 = .ok (.istore 17, 2) := by decide +kernel
theorem dL_law_260 : decode cL_law 260 = .ok (.iload 17, 2) := by decide +kernel
theorem dL_law_262 : decode cL_law 262 = .ok (.ifCond .lt 16, 3) := by decide +kernel
theorem dL_law_265 : decode cL_law 265 = .ok (.aload_n 1, 1) := by decide +kernel
theorem dL_law_266 : decode cL_law 266 = .ok (.iload 17, 2) := by decide +kernel
theorem dL_law_268 : decode cL_law 268 = .ok (.invokestatic 85, 3) := by decide +kernel
theorem dL_law_271 : decode cL_law 271 = .ok (.ifCond .lt 7, 3) := by decide +kernel
theorem dL_law_274 : decode cL_law 274 = .ok (.iconst 1, 1) := by decide +kernel
theorem dL_law_275 : decode cL_law 275 = .ok (.goto 4, 3) := by decide +kernel
theorem dL_law_278 : decode cL_law 278 = .ok (.iconst 0, 1) := by decide +kernel
theorem dL_law_279 : decode cL_law 279 = .ok (.istore 18, 2) := by decide +kernel
theorem dL_law_281 : decode cL_law 281 = .ok (.aload_n 1, 1) := by decide +kernel
theorem dL_law_282 : decode cL_law 282 = .ok (.invokevirtual 41, 3) := by decide +kernel
theorem dL_law_285 : decode cL_law 285 = .ok (.istore 19, 2) := by decide +kernel
theorem dL_law_287 : decode cL_law 287 = .ok (.iload 12, 2) := by decide +kernel
theorem dL_law_289 : decode cL_law 289 = .ok (.ifCond .ne 117, 3) := by decide +kernel
theorem dL_law_292 : decode cL_law 292 = .ok (.aload_n 1, 1) := by decide +kernel
theorem dL_law_293 : decode cL_law 293 = .ok (.invokevirtual 45, 3) := by decide +kernel
theorem dL_law_296 : decode cL_law 296 = .ok (.bipush 8, 2) := by decide +kernel
theorem dL_law_298 : decode cL_law 298 = .ok (.if_icmp .ge 108, 3) := by decide +kernel
theorem dL_law_301 : decode cL_law 301 = .ok (.aload_n 1, 1) := by decide +kernel
theorem dL_law_302 : decode cL_law 302 = .ok (.invokevirtual 45, 3) := by decide +kernel
theorem dL_law_305 : decode cL_law 305 = .ok (.istore 20, 2) := by decide +kernel
theorem dL_law_307 : decode cL_law 307 = .ok (.aload_n 2, 1) := by decide +kernel
theorem dL_law_308 : decode cL_law 308 = .ok (.iload 20, 2) := by decide +kernel
theorem dL_law_310 : decode cL_law 310 = .ok (.iconst 1, 1) := by decide +kernel
theorem dL_law_311 : decode cL_law 311 = .ok (.iload 11, 2) := by decide +kernel
theorem dL_law_313 : decode cL_law 313 = .ok (.sipush 255, 3) := by decide +kernel
theorem dL_law_316 : decode cL_law 316 = .ok (.iand, 1) := by decide +kernel
theorem dL_law_317 : decode cL_law 317 = .ok (.bipush 20, 2) := by decide +kernel
theorem dL_law_319 : decode cL_law 319 = .ok (.irem, 1) := by decide +kernel
theorem dL_law_320 : decode cL_law 320 = .ok (.iadd, 1) := by decide +kernel
theorem dL_law_321 : decode cL_law 321 = .ok (.iastore, 1) := by decide +kernel
theorem dL_law_322 : decode cL_law 322 = .ok (.aload_n 3, 1) := by decide +kernel
theorem dL_law_323 : decode cL_law 323 = .ok (.iload 20, 2) := by decide +kernel
theorem dL_law_325 : decode cL_law 325 = .ok (.iload 11, 2) := by decide +kernel
theorem dL_law_327 : decode cL_law 327 = .ok (.iconst 3, 1) := by decide +kernel
theorem dL_law_328 : decode cL_law 328 = .ok (.ishr, 1) := by decide +kernel
theorem dL_law_329 : decode cL_law 329 = .ok (.bipush 15, 2) := by decide +kernel
theorem dL_law_331 : decode cL_law 331 = .ok (.iand, 1) := by decide +kernel
theorem dL_law_332 : decode cL_law 332 = .ok (.sipush 300, 3) := by decide +kernel
theorem dL_law_335 : decode cL_law 335 = .ok (.imul, 1) := by decide +kernel
theorem dL_law_336 : decode cL_law 336 = .ok (.iastore, 1) := by decide +kernel
theorem dL_law_337 : decode cL_law 337 = .ok (.aload 4, 2) := by decide +kernel
theorem dL_law_339 : decode cL_law 339 = .ok (.iload 20, 2) := by decide +kernel
theorem dL_law_341 : decode cL_law 341 = .ok (.iload 11, 2) := by decide +kernel
theorem dL_law_343 : decode cL_law 343 = .ok (.bipush 7, 2) := by decide +kernel
theorem dL_law_345 : decode cL_law 345 = .ok (.ishr, 1) := by decide +kernel
theorem dL_law_346 : decode cL_law 346 = .ok (.iconst 3, 1) := by decide +kernel
theorem dL_law_347 : decode cL_law 347 = .ok (.iand, 1) := by decide +kernel
theorem dL_law_348 : decode cL_law 348 = .ok (.iastore, 1) := by decide +kernel
theorem dL_law_349 : decode cL_law 349 = .ok (.aload_n 1, 1) := by decide +kernel
theorem dL_law_350 : decode cL_law 350 = .ok (.aload 4, 2) := by decide +kernel
theorem dL_law_352 : decode cL_law 352 = .ok (.iload 20, 2) := by decide +kernel
theorem dL_law_354 : decode cL_law 354 = .ok (.iaload, 1) := by decide +kernel
theorem dL_law_355 : decode cL_law 355 = .ok (.aload_n 2, 1) := by decide +kernel
theorem dL_law_356 : decode cL_law 356 = .ok (.iload 20, 2) := by decide +kernel
theorem dL_law_358 : decode cL_law 358 = .ok (.iaload, 1) := by decide +kernel
theorem dL_law_359 : decode cL_law 359 = .ok (.iload 11, 2) := by decide +kernel
theorem dL_law_361 : decode cL_law 361 = .ok (.bipush 9, 2) := by decide +kernel
theorem dL_law_363 : decode cL_law 363 = .ok (.ishr, 1) := by decide +kernel
theorem dL_law_364 : decode cL_law 364 = .ok (.bipush 7, 2) := by decide +kernel
theorem dL_law_366 : decode cL_law 366 = .ok (.iand, 1) := by decide +kernel
theorem dL_law_367 : decode cL_law 367 = .ok (.sipush 500, 3) := by decide +kernel
theorem dL_law_370 : decode cL_law 370 = .ok (.imul, 1) := by decide +kernel
theorem dL_law_371 : decode cL_law 371 = .ok (.aload_n 3, 1) := by decide +kernel
theorem dL_law_372 : decode cL_law 372 = .ok (.iload 20, 2) := by decide +kernel
theorem dL_law_374 : decode cL_law 374 = .ok (.iaload, 1) := by decide +kernel
theorem dL_law_375 : decode cL_law 375 = .ok (.invokevirtual 99, 3) := by decide +kernel
theorem dL_law_378 : decode cL_law 378 = .ok (.iload 20, 2) := by decide +kernel
theorem dL_law_380 : decode cL_law 380 = .ok (.if_icmp .ne 20, 3) := by decide +kernel
theorem dL_law_383 : decode cL_law 383 = .ok (.aload_n 1, 1) := by decide +kernel
theorem dL_law_384 : decode cL_law 384 = .ok (.iload 20, 2) := by decide +kernel
theorem dL_law_386 : decode cL_law 386 = .ok (.invokevirtual 48, 3) := by decide +kernel
theorem dL_law_389 : decode cL_law 389 = .ok (.aload_n 2, 1) := by decide +kernel
theorem dL_law_390 : decode cL_law 390 = .ok (.iload 20, 2) := by decide +kernel
theorem dL_law_392 : decode cL_law 392 = .ok (.iaload, 1) := by decide +kernel
theorem dL_law_393 : decode cL_law 393 = .ok (.if_icmp .ne 7, 3) := by decide +kernel
theorem dL_law_396 : decode cL_law 396 = .ok (.iconst 1, 1) := by decide +kernel
theorem dL_law_397 : decode cL_law 397 = .ok (.goto 4, 3) := by decide +kernel
theorem dL_law_400 : decode cL_law 400 = .ok (.iconst 0, 1) := by decide +kernel
theorem dL_law_401 : decode cL_law 401 = .ok (.istore 7, 2) := by decide +kernel
theorem dL_law_403 : decode cL_law 403 = .ok (.goto 741, 3) := by decide +kernel
theorem dL_law_406 : decode cL_law 406 = .ok (.iload 12, 2) := by decide +kernel
theorem dL_law_408 : decode cL_law 408 = .ok (.bipush 7, 2) := by decide +kernel
theorem dL_law_410 : decode cL_law 410 = .ok (.if_icmp .ge 145, 3) := by decide +kernel
theorem dL_law_413 : decode cL_law 413 = .ok (.aload_n 1, 1) := by decide +kernel
theorem dL_law_414 : decode cL_law 414 = .ok (.iload 13, 2) := by decide +kernel
theorem dL_law_416 : decode cL_law 416 = .ok (.iload 14, 2) := by decide +kernel
theorem dL_law_418 : decode cL_law 418 = .ok (.iload 15, 2) := by decide +kernel
theorem dL_law_420 : decode cL_law 420 = .ok (.iload 16, 2) := by decide +kernel
theorem dL_law_422 : decode cL_law 422 = .ok (.invokestatic 76, 3) := by decide +kernel
theorem dL_law_425 : decode cL_law 425 = .ok (.istore 20, 2) := by decide +kernel
theorem dL_law_427 : decode cL_law 427 = .ok (.iload 20, 2) := by decide +kernel
theorem dL_law_429 : decode cL_law 429 = .ok (.bipush (-3), 2) := by decide +kernel
theorem dL_law_431 : decode cL_law 431 = .ok (.if_icmp .ne 20, 3) := by decide +kernel
theorem dL_law_434 : decode cL_law 434 = .ok (.aload_n 1, 1) := by decide +kernel
theorem dL_law_435 : decode cL_law 435 = .ok (.invokevirtual 41, 3) := by decide +kernel
theorem dL_law_438 : decode cL_law 438 = .ok (.iload 19, 2) := by decide +kernel
theorem dL_law_440 : decode cL_law 440 = .ok (.if_icmp .ne 7, 3) := by decide +kernel
theorem dL_law_443 : decode cL_law 443 = .ok (.iconst 1, 1) := by decide +kernel
theorem dL_law_444 : decode cL_law 444 = .ok (.goto 91, 3) := by decide +kernel
theorem dL_law_447 : decode cL_law 447 = .ok (.iconst 0, 1) := by decide +kernel
theorem dL_law_448 : decode cL_law 448 = .ok (.goto 87, 3) := by decide +kernel
theorem dL_law_451 : decode cL_law 451 = .ok (.iload 20, 2) := by decide +kernel
theorem dL_law_453 : decode cL_law 453 = .ok (.iload 6, 2) := by decide +kernel
theorem dL_law_455 : decode cL_law 455 = .ok (.if_icmp .ne 79, 3) := by decide +kernel
theorem dL_law_458 : decode cL_law 458 = .ok (.aload_n 1, 1) := by decide +kernel
theorem dL_law_459 : decode cL_law 459 = .ok (.invokevirtual 41, 3) := by decide +kernel
theorem dL_law_462 : decode cL_law 462 = .ok (.iload 19, 2) := by decide +kernel
theorem dL_law_464 : decode cL_law 464 = .ok (.iconst 1, 1) := by decide +kernel
theorem dL_law_465 : decode cL_law 465 = .ok (.iadd, 1) := by decide +kernel
theorem dL_law_466 : decode cL_law 466 = .ok (.if_icmp .ne 68, 3) := by decide +kernel
theorem dL_law_469 : decode cL_law 469 = .ok (.aload_n 1, 1) := by decide +kernel
theorem dL_law_470 : decode cL_law 470 = .ok (.iload 20, 2) := by decide +kernel
theorem dL_law_472 : decode cL_law 472 = .ok (.invokevirtual 64, 3) := by decide +kernel
theorem dL_law_475 : decode cL_law 475 = .ok (.ifCond .ne 7, 3) := by decide +kernel
theorem dL_law_478 : decode cL_law 478 = .ok (.iconst 1, 1) := by decide +kernel
theorem dL_law_479 : decode cL_law 479 = .ok (.goto 4, 3) := by decide +kernel
theorem dL_law_482 : decode cL_law 482 = .ok (.iconst 0, 1) := by decide +kernel
theorem dL_law_483 : decode cL_law 483 = .ok (.iload 16, 2) := by decide +kernel
theorem dL_law_485 : decode cL_law 485 = .ok (.iconst 2, 1) := by decide +kernel
theorem dL_law_486 : decode cL_law 486 = .ok (.if_icmp .ne 27, 3) := by decide +kernel
theorem dL_law_489 : decode cL_law 489 = .ok (.aload_n 1, 1) := by decide +kernel
theorem dL_law_490 : decode cL_law 490 = .ok (.iconst 0, 1) := by decide +kernel
theorem dL_law_491 : decode cL_law 491 = .ok (.invokevirtual 57, 3) := by decide +kernel
theorem dL_law_494 : decode cL_law 494 = .ok (.ifCond .eq 11, 3) := by decide +kernel
theorem dL_law_497 : decode cL_law 497 = .ok (.aload_n 1, 1) := by decide +kernel
theorem dL_law_498 : decode cL_law 498 = .ok (.iconst 1, 1) := by decide +kernel
theorem dL_law_499 : decode cL_law 499 = .ok (.invokevirtual 57, 3) := by decide +kernel
theorem dL_law_502 : decode cL_law 502 = .ok (.ifCond .ne 7, 3) := by decide +kernel
theorem dL_law_505 : decode cL_law 505 = .ok (.iconst 1, 1) := by decide +kernel
theorem dL_law_506 : decode cL_law 506 = .ok (.goto 21, 3) := by decide +kernel
theorem dL_law_509 : decode cL_law 509 = .ok (.iconst 0, 1) := by decide +kernel
theorem dL_law_510 : decode cL_law 510 = .ok (.goto 17, 3) := by decide +kernel
theorem dL_law_513 : decode cL_law 513 = .ok (.aload_n 1, 1) := by decide +kernel
theorem dL_law_514 : decode cL_law 514 = .ok (.iload 16, 2) := by decide +kernel
theorem dL_law_516 : decode cL_law 516 = .ok (.invokevirtual 57, 3) := by decide +kernel
theorem dL_law_519 : decode cL_law 519 = .ok (.ifCond .ne 7, 3) := by decide +kernel
theorem dL_law_522 : decode cL_law 522 = .ok (.iconst 1, 1) := by decide +kernel
theorem dL_law_523 : decode cL_law 523 = .ok (.goto 4, 3) := by decide +kernel
theorem dL_law_526 : decode cL_law 526 = .ok (.iconst 0, 1) := by decide +kernel
theorem dL_law_527 : decode cL_law 527 = .ok (.if_icmp .ne 7, 3) := by decide +kernel
theorem dL_law_530 : decode cL_law 530 = .ok (.iconst 1, 1) := by decide +kernel
theorem dL_law_531 : decode cL_law 531 = .ok (.goto 4, 3) := by decide +kernel
theorem dL_law_534 : decode cL_law 534 = .ok (.iconst 0, 1) := by decide +kernel
theorem dL_law_535 : decode cL_law 535 = .ok (.istore 7, 2) := by decide +kernel
theorem dL_law_537 : decode cL_law 537 = .ok (.iload 6, 2) := by decide +kernel
theorem dL_law_539 : decode cL_law 539 = .ok (.iload 20, 2) := by decide +kernel
theorem dL_law_541 : decode cL_law 541 = .ok (.ifCond .lt 7, 3) := by decide +kernel
theorem dL_law_544 : decode cL_law 544 = .ok (.iconst 1, 1) := by decide +kernel
theorem dL_law_545 : decode cL_law 545 = .ok (.goto 4, 3) := by decide +kernel
theorem dL_law_548 : decode cL_law 548 = .ok (.iconst 0, 1) := by decide +kernel
theorem dL_law_549 : decode cL_law 549 = .ok (.iadd, 1) := by decide +kernel
theorem dL_law_550 : decode cL_law 550 = .ok (.istore 6, 2) := by decide +kernel
theorem dL_law_552 : decode cL_law 552 = .ok (.goto 592, 3) := by decide +kernel
theorem dL_law_555 : decode cL_law 555 = .ok (.iload 12, 2) := by decide +kernel
theorem dL_law_557 : decode cL_law 557 = .ok (.bipush 9, 2) := by decide +kernel
theorem dL_law_559 : decode cL_law 559 = .ok (.if_icmp .ge 58, 3) := by decide +kernel
theorem dL_law_562 : decode cL_law 562 = .ok (.iload 18, 2) := by decide +kernel
theorem dL_law_564 : decode cL_law 564 = .ok (.ifCond .eq 53, 3) := by decide +kernel
theorem dL_law_567 : decode cL_law 567 = .ok (.aload_n 1, 1) := by decide +kernel
theorem dL_law_568 : decode cL_law 568 = .ok (.iload 17, 2) := by decide +kernel
theorem dL_law_570 : decode cL_law 570 = .ok (.invokevirtual 26, 3) := by decide +kernel
theorem dL_law_573 : decode cL_law 573 = .ok (.istore 20, 2) := by decide +kernel
theorem dL_law_575 : decode cL_law 575 = .ok (.aload_n 1, 1) := by decide +kernel
theorem dL_law_576 : decode cL_law 576 = .ok (.iload 17, 2) := by decide +kernel
theorem dL_law_578 : decode cL_law 578 = .ok (.invokevirtual 82, 3) := by decide +kernel
theorem dL_law_581 : decode cL_law 581 = .ok (.iload 20, 2) := by decide +kernel
theorem dL_law_583 : decode cL_law 583 = .ok (.if_icmp .ne 28, 3) := by decide +kernel
theorem dL_law_586 : decode cL_law 586 = .ok (.aload_n 1, 1) := by decide +kernel
theorem dL_law_587 : decode cL_law 587 = .ok (.invokevirtual 41, 3) := by decide +kernel
theorem dL_law_590 : decode cL_law 590 = .ok (.iload 19, 2) := by decide +kernel
theorem dL_law_592 : decode cL_law 592 = .ok (.iconst 1, 1) := by decide +kernel
theorem dL_law_593 : decode cL_law 593 = .ok (.isub, 1) := by decide +kernel
theorem dL_law_594 : decode cL_law 594 = .ok (.if_icmp .ne 17, 3) := by decide +kernel
theorem dL_law_597 : decode cL_law 597 = .ok (.aload_n 1, 1) := by decide +kernel
theorem dL_law_598 : decode cL_law 598 = .ok (.iload 17, 2) := by decide +kernel
theorem dL_law_600 : decode cL_law 600 = .ok (.invokestatic 85, 3) := by decide +kernel
theorem dL_law_603 : decode cL_law 603 = .ok (.iconst (-1), 1) := by decide +kernel
theorem dL_law_604 : decode cL_law 604 = .ok (.if_icmp .ne 7, 3) := by decide +kernel
theorem dL_law_607 : decode cL_law 607 = .ok (.iconst 1, 1) := by decide +kernel
theorem dL_law_608 : decode cL_law 608 = .ok (.goto 4, 3) := by decide +kernel
theorem dL_law_611 : decode cL_law 611 = .ok (.iconst 0, 1) := by decide +kernel
theorem dL_law_612 : decode cL_law 612 = .ok (.istore 7, 2) := by decide +kernel
theorem dL_law_614 : decode cL_law 614 = .ok (.goto 530, 3) := by decide +kernel
theorem dL_law_617 : decode cL_law 617 = .ok (.iload 12, 2) := by decide +kernel
theorem dL_law_619 : decode cL_law 619 = .ok (.bipush 9, 2) := by decide +kernel
theorem dL_law_621 : decode cL_law 621 = .ok (.if_icmp .ne 145, 3) := by decide +kernel
theorem dL_law_624 : decode cL_law 624 = .ok (.iload 18, 2) := by decide +kernel
theorem dL_law_626 : decode cL_law 626 = .ok (.ifCond .eq 140, 3) := by decide +kernel
theorem dL_law_629 : decode cL_law 629 = .ok (.aload_n 1, 1) := by decide +kernel
theorem dL_law_630 : decode cL_law 630 = .ok (.iload 17, 2) := by decide +kernel
theorem dL_law_632 : decode cL_law 632 = .ok (.invokevirtual 26, 3) := by decide +kernel
theorem dL_law_635 : decode cL_law 635 = .ok (.istore 20, 2) := by decide +kernel
theorem dL_law_637 : decode cL_law 637 = .ok (.aload_n 1, 1) := by decide +kernel
theorem dL_law_638 : decode cL_law 638 = .ok (.iload 20, 2) := by decide +kernel
theorem dL_law_640 : decode cL_law 640 = .ok (.iconst 0, 1) := by decide +kernel
theorem dL_law_641 : decode cL_law 641 = .ok (.invokevirtual 51, 3) := by decide +kernel
theorem dL_law_644 : decode cL_law 644 = .ok (.aload_n 1, 1) := by decide +kernel
theorem dL_law_645 : decode cL_law 645 = .ok (.iload 20, 2) := by decide +kernel
theorem dL_law_647 : decode cL_law 647 = .ok (.iconst 1, 1) := by decide +kernel
theorem dL_law_648 : decode cL_law 648 = .ok (.invokevirtual 51, 3) := by decide +kernel
theorem dL_law_651 : decode cL_law 651 = .ok (.iadd, 1) := by decide +kernel
theorem dL_law_652 : decode cL_law 652 = .ok (.istore 21, 2) := by decide +kernel
theorem dL_law_654 : decode cL_law 654 = .ok (.aload_n 1, 1) := by decide +kernel
theorem dL_law_655 : decode cL_law 655 = .ok (.iload 17, 2) := by decide +kernel
theorem dL_law_657 : decode cL_law 657 = .ok (.iload 16, 2) := by decide +kernel
theorem dL_law_659 : decode cL_law 659 = .ok (.invokestatic 102, 3) := by decide +kernel
theorem dL_law_662 : decode cL_law 662 = .ok (.istore 22, 2) := by decide +kernel
theorem dL_law_664 : decode cL_law 664 = .ok (.iload 22, 2) := by decide +kernel
theorem dL_law_666 : decode cL_law 666 = .ok (.bipush (-3), 2) := by decide +kernel
theorem dL_law_668 : decode cL_law 668 = .ok (.if_icmp .ne 31, 3) := by decide +kernel
theorem dL_law_671 : decode cL_law 671 = .ok (.aload_n 1, 1) := by decide +kernel
theorem dL_law_672 : decode cL_law 672 = .ok (.iload 20, 2) := by decide +kernel
theorem dL_law_674 : decode cL_law 674 = .ok (.iconst 0, 1) := by decide +kernel
theorem dL_law_675 : decode cL_law 675 = .ok (.invokevirtual 51, 3) := by decide +kernel
theorem dL_law_678 : decode cL_law 678 = .ok (.aload_n 1, 1) := by decide +kernel
theorem dL_law_679 : decode cL_law 679 = .ok (.iload 20, 2) := by decide +kernel
theorem dL_law_681 : decode cL_law 681 = .ok (.iconst 1, 1) := by decide +kernel
theorem dL_law_682 : decode cL_law 682 = .ok (.invokevirtual 51, 3) := by decide +kernel
theorem dL_law_685 : decode cL_law 685 = .ok (.iadd, 1) := by decide +kernel
theorem dL_law_686 : decode cL_law 686 = .ok (.iload 21, 2) := by decide +kernel
theorem dL_law_688 : decode cL_law 688 = .ok (.if_icmp .ne 7, 3) := by decide +kernel
theorem dL_law_691 : decode cL_law 691 = .ok (.iconst 1, 1) := by decide +kernel
theorem dL_law_692 : decode cL_law 692 = .ok (.goto 69, 3) := by decide +kernel
theorem dL_law_695 : decode cL_law 695 = .ok (.iconst 0, 1) := by decide +kernel
theorem dL_law_696 : decode cL_law 696 = .ok (.goto 65, 3) := by decide +kernel
theorem dL_law_699 : decode cL_law 699 = .ok (.iload 22, 2) := by decide +kernel
theorem dL_law_701 : decode cL_law 701 = .ok (.ifCond .lt 59, 3) := by decide +kernel
theorem dL_law_704 : decode cL_law 704 = .ok (.iload 22, 2) := by decide +kernel
theorem dL_law_706 : decode cL_law 706 = .ok (.iconst 2, 1) := by decide +kernel
theorem dL_law_707 : decode cL_law 707 = .ok (.if_icmp .gt 53, 3) := by decide +kernel
theorem dL_law_710 : decode cL_law 710 = .ok (.aload_n 1, 1) := by decide +kernel
theorem dL_law_711 : decode cL_law 711 = .ok (.iload 17, 2) := by decide +kernel
theorem dL_law_713 : decode cL_law 713 = .ok (.iload 22, 2) := by decide +kernel
theorem dL_law_715 : decode cL_law 715 = .ok (.invokestatic 102, 3) := by decide +kernel
theorem dL_law_718 : decode cL_law 718 = .ok (.iload 16, 2) := by decide +kernel
theorem dL_law_720 : decode cL_law 720 = .ok (.if_icmp .ne 40, 3) := by decide +kernel
theorem dL_law_723 : decode cL_law 723 = .ok (.aload_n 1, 1) := by decide +kernel
theorem dL_law_724 : decode cL_law 724 = .ok (.iload 20, 2) := by decide +kernel
theorem dL_law_726 : decode cL_law 726 = .ok (.iconst 0, 1) := by decide +kernel
theorem dL_law_727 : decode cL_law 727 = .ok (.invokevirtual 51, 3) := by decide +kernel
theorem dL_law_730 : decode cL_law 730 = .ok (.aload_n 1, 1) := by decide +kernel
theorem dL_law_731 : decode cL_law 731 = .ok (.iload 20, 2) := by decide +kernel
theorem dL_law_733 : decode cL_law 733 = .ok (.iconst 1, 1) := by decide +kernel
theorem dL_law_734 : decode cL_law 734 = .ok (.invokevirtual 51, 3) := by decide +kernel
theorem dL_law_737 : decode cL_law 737 = .ok (.iadd, 1) := by decide +kernel
theorem dL_law_738 : decode cL_law 738 = .ok (.iload 21, 2) := by decide +kernel
theorem dL_law_740 : decode cL_law 740 = .ok (.if_icmp .ne 20, 3) := by decide +kernel
theorem dL_law_743 : decode cL_law 743 = .ok (.aload_n 1, 1) := by decide +kernel
theorem dL_law_744 : decode cL_law 744 = .ok (.iload 17, 2) := by decide +kernel
theorem dL_law_746 : decode cL_law 746 = .ok (.iload 16, 2) := by decide +kernel
theorem dL_law_748 : decode cL_law 748 = .ok (.invokestatic 102, 3) := by decide +kernel
theorem dL_law_751 : decode cL_law 751 = .ok (.iload 22, 2) := by decide +kernel
theorem dL_law_753 : decode cL_law 753 = .ok (.if_icmp .ne 7, 3) := by decide +kernel
theorem dL_law_756 : decode cL_law 756 = .ok (.iconst 1, 1) := by decide +kernel
theorem dL_law_757 : decode cL_law 757 = .ok (.goto 4, 3) := by decide +kernel
theorem dL_law_760 : decode cL_law 760 = .ok (.iconst 0, 1) := by decide +kernel
theorem dL_law_761 : decode cL_law 761 = .ok (.istore 7, 2) := by decide +kernel
theorem dL_law_763 : decode cL_law 763 = .ok (.goto 381, 3) := by decide +kernel
theorem dL_law_766 : decode cL_law 766 = .ok (.iload 12, 2) := by decide +kernel
theorem dL_law_768 : decode cL_law 768 = .ok (.bipush 10, 2) := by decide +kernel
theorem dL_law_770 : decode cL_law 770 = .ok (.if_icmp .ne 106, 3) := by decide +kernel
theorem dL_law_773 : decode cL_law 773 = .ok (.iconst 0, 1) := by decide +kernel
theorem dL_law_774 : decode cL_law 774 = .ok (.istore 20, 2) := by decide +kernel
theorem dL_law_776 : decode cL_law 776 = .ok (.iconst 0, 1) := by decide +kernel
theorem dL_law_777 : decode cL_law 777 = .ok (.istore 21, 2) := by decide +kernel
theorem dL_law_779 : decode cL_law 779 = .ok (.iload 21, 2) := by decide +kernel
theorem dL_law_781 : decode cL_law 781 = .ok (.aload_n 1, 1) := by decide +kernel
theorem dL_law_782 : decode cL_law 782 = .ok (.invokevirtual 45, 3) := by decide +kernel
theorem dL_law_785 : decode cL_law 785 = .ok (.if_icmp .ge 24, 3) := by decide +kernel
theorem dL_law_788 : decode cL_law 788 = .ok (.iload 20, 2) := by decide +kernel
theorem dL_law_790 : decode cL_law 790 = .ok (.aload_n 1, 1) := by decide +kernel
theorem dL_law_791 : decode cL_law 791 = .ok (.iload 21, 2) := by decide +kernel
theorem dL_law_793 : decode cL_law 793 = .ok (.iload 11, 2) := by decide +kernel
theorem dL_law_795 : decode cL_law 795 = .ok (.iconst 1, 1) := by decide +kernel
theorem dL_law_796 : decode cL_law 796 = .ok (.iand, 1) := by decide +kernel
theorem dL_law_797 : decode cL_law 797 = .ok (.invokevirtual 51, 3) := by decide +kernel
theorem dL_law_800 : decode cL_law 800 = .ok (.iadd, 1) := by decide +kernel
theorem dL_law_801 : decode cL_law 801 = .ok (.istore 20, 2) := by decide +kernel
theorem dL_law_803 : decode cL_law 803 = .ok (.iinc 21 1, 3) := by decide +kernel
theorem dL_law_806 : decode cL_law 806 = .ok (.goto (-27), 3) := by decide +kernel
theorem dL_law_809 : decode cL_law 809 = .ok (.aload_n 1, 1) := by decide +kernel
theorem dL_law_810 : decode cL_law 810 = .ok (.iload 11, 2) := by decide +kernel
theorem dL_law_812 : decode cL_law 812 = .ok (.iconst 1, 1) := by decide +kernel
theorem dL_law_813 : decode cL_law 813 = .ok (.iand, 1) := by decide +kernel
theorem dL_law_814 : decode cL_law 814 = .ok (.iload 11, 2) := by decide +kernel
theorem dL_law_816 : decode cL_law 816 = .ok (.iconst 1, 1) := by decide +kernel
theorem dL_law_817 : decode cL_law 817 = .ok (.ishr, 1) := by decide +kernel
theorem dL_law_818 : decode cL_law 818 = .ok (.bipush 63, 2) := by decide +kernel
theorem dL_law_820 : decode cL_law 820 = .ok (.iand, 1) := by decide +kernel
theorem dL_law_821 : decode cL_law 821 = .ok (.sipush 200, 3) := by decide +kernel
theorem dL_law_824 : decode cL_law 824 = .ok (.imul, 1) := by decide +kernel
theorem dL_law_825 : decode cL_law 825 = .ok (.invokestatic 106, 3) := by decide +kernel
theorem dL_law_828 : decode cL_law 828 = .ok (.istore 21, 2) := by decide +kernel
theorem dL_law_830 : decode cL_law 830 = .ok (.iload 21, 2) := by decide +kernel
theorem dL_law_832 : decode cL_law 832 = .ok (.bipush (-3), 2) := by decide +kernel
theorem dL_law_834 : decode cL_law 834 = .ok (.if_icmp .ne 7, 3) := by decide +kernel
theorem dL_law_837 : decode cL_law 837 = .ok (.iconst 1, 1) := by decide +kernel
theorem dL_law_838 : decode cL_law 838 = .ok (.goto 4, 3) := by decide +kernel
theorem dL_law_841 : decode cL_law 841 = .ok (.iconst 0, 1) := by decide +kernel
theorem dL_law_842 : decode cL_law 842 = .ok (.iload 20, 2) := by decide +kernel
theorem dL_law_844 : decode cL_law 844 = .ok (.iload 11, 2) := by decide +kernel
theorem dL_law_846 : decode cL_law 846 = .ok (.iconst 1, 1) := by decide +kernel
theorem dL_law_847 : decode cL_law 847 = .ok (.ishr, 1) := by decide +kernel
theorem dL_law_848 : decode cL_law 848 = .ok (.bipush 63, 2) := by decide +kernel
theorem dL_law_850 : decode cL_law 850 = .ok (.iand, 1) := by decide +kernel
theorem dL_law_851 : decode cL_law 851 = .ok (.sipush 200, 3) := by decide +kernel
theorem dL_law_854 : decode cL_law 854 = .ok (.imul, 1) := by decide +kernel
theorem dL_law_855 : decode cL_law 855 = .ok (.if_icmp .le 7, 3) := by decide +kernel
theorem dL_law_858 : decode cL_law 858 = .ok (.iconst 1, 1) := by decide +kernel
theorem dL_law_859 : decode cL_law 859 = .ok (.goto 4, 3) := by decide +kernel
theorem dL_law_862 : decode cL_law 862 = .ok (.iconst 0, 1) := by decide +kernel
theorem dL_law_863 : decode cL_law 863 = .ok (.if_icmp .ne 7, 3) := by decide +kernel
theorem dL_law_866 : decode cL_law 866 = .ok (.iconst 1, 1) := by decide +kernel
theorem dL_law_867 : decode cL_law 867 = .ok (.goto 4, 3) := by decide +kernel
theorem dL_law_870 : decode cL_law 870 = .ok (.iconst 0, 1) := by decide +kernel
theorem dL_law_871 : decode cL_law 871 = .ok (.istore 7, 2) := by decide +kernel
theorem dL_law_873 : decode cL_law 873 = .ok (.goto 271, 3) := by decide +kernel
theorem dL_law_876 : decode cL_law 876 = .ok (.iload 12, 2) := by decide +kernel
theorem dL_law_878 : decode cL_law 878 = .ok (.bipush 11, 2) := by decide +kernel
theorem dL_law_880 : decode cL_law 880 = .ok (.if_icmp .ne 138, 3) := by decide +kernel
theorem dL_law_883 : decode cL_law 883 = .ok (.iload 11, 2) := by decide +kernel
theorem dL_law_885 : decode cL_law 885 = .ok (.iconst 3, 1) := by decide +kernel
theorem dL_law_886 : decode cL_law 886 = .ok (.iand, 1) := by decide +kernel
theorem dL_law_887 : decode cL_law 887 = .ok (.istore 20, 2) := by decide +kernel
theorem dL_law_889 : decode cL_law 889 = .ok (.iload 11, 2) := by decide +kernel
theorem dL_law_891 : decode cL_law 891 = .ok (.iconst 2, 1) := by decide +kernel
theorem dL_law_892 : decode cL_law 892 = .ok (.ishr, 1) := by decide +kernel
theorem dL_law_893 : decode cL_law 893 = .ok (.bipush 31, 2) := by decide +kernel
theorem dL_law_895 : decode cL_law 895 = .ok (.iand, 1) := by decide +kernel
theorem dL_law_896 : decode cL_law 896 = .ok (.sipush 200, 3) := by decide +kernel
theorem dL_law_899 : decode cL_law 899 = .ok (.imul, 1) := by decide +kernel
theorem dL_law_900 : decode cL_law 900 = .ok (.istore 21, 2) := by decide +kernel
theorem dL_law_902 : decode cL_law 902 = .ok (.iconst 0, 1) := by decide +kernel
theorem dL_law_903 : decode cL_law 903 = .ok (.istore 22, 2) := by decide +kernel
theorem dL_law_905 : decode cL_law 905 = .ok (.iconst 0, 1) := by decide +kernel
theorem dL_law_906 : decode cL_law 906 = .ok (.istore 23, 2) := by decide +kernel
theorem dL_law_908 : decode cL_law 908 = .ok (.iload 23, 2) := by decide +kernel
theorem dL_law_910 : decode cL_law 910 = .ok (.aload_n 1, 1) := by decide +kernel
theorem dL_law_911 : decode cL_law 911 = .ok (.invokevirtual 45, 3) := by decide +kernel
theorem dL_law_914 : decode cL_law 914 = .ok (.if_icmp .ge 34, 3) := by decide +kernel
theorem dL_law_917 : decode cL_law 917 = .ok (.iload 22, 2) := by decide +kernel
theorem dL_law_919 : decode cL_law 919 = .ok (.aload 4, 2) := by decide +kernel
theorem dL_law_921 : decode cL_law 921 = .ok (.iload 23, 2) := by decide +kernel
theorem dL_law_923 : decode cL_law 923 = .ok (.iaload, 1) := by decide +kernel
theorem dL_law_924 : decode cL_law 924 = .ok (.iload 20, 2) := by decide +kernel
theorem dL_law_926 : decode cL_law 926 = .ok (.if_icmp .ne 12, 3) := by decide +kernel
theorem dL_law_929 : decode cL_law 929 = .ok (.aload_n 1, 1) := by decide +kernel
theorem dL_law_930 : decode cL_law 930 = .ok (.iload 23, 2) := by decide +kernel
theorem dL_law_932 : decode cL_law 932 = .ok (.invokevirtual 109, 3) := by decide +kernel
theorem dL_law_935 : decode cL_law 935 = .ok (.goto 4, 3) := by decide +kernel
theorem dL_law_938 : decode cL_law 938 = .ok (.iconst 0, 1) := by decide +kernel
theorem dL_law_939 : decode cL_law 939 = .ok (.iadd, 1) := by decide +kernel
theorem dL_law_940 : decode cL_law 940 = .ok (.istore 22, 2) := by decide +kernel
theorem dL_law_942 : decode cL_law 942 = .ok (.iinc 23 1, 3) := by decide +kernel
theorem dL_law_945 : decode cL_law 945 = .ok (.goto (-37), 3) := by decide +kernel
theorem dL_law_948 : decode cL_law 948 = .ok (.aload_n 1, 1) := by decide +kernel
theorem dL_law_949 : decode cL_law 949 = .ok (.iload 20, 2) := by decide +kernel
theorem dL_law_951 : decode cL_law 951 = .ok (.sipush 10000, 3) := by decide +kernel
theorem dL_law_954 : decode cL_law 954 = .ok (.iload 21, 2) := by decide +kernel
theorem dL_law_956 : decode cL_law 956 = .ok (.invokestatic 112, 3) := by decide +kernel
theorem dL_law_959 : decode cL_law 959 = .ok (.istore 23, 2) := by decide +kernel
theorem dL_law_961 : decode cL_law 961 = .ok (.iload 23, 2) := by decide +kernel
theorem dL_law_963 : decode cL_law 963 = .ok (.bipush (-3), 2) := by decide +kernel
theorem dL_law_965 : decode cL_law 965 = .ok (.if_icmp .ne 7, 3) := by decide +kernel
theorem dL_law_968 : decode cL_law 968 = .ok (.iconst 1, 1) := by decide +kernel
theorem dL_law_969 : decode cL_law 969 = .ok (.goto 4, 3) := by decide +kernel
theorem dL_law_972 : decode cL_law 972 = .ok (.iconst 0, 1) := by decide +kernel
theorem dL_law_973 : decode cL_law 973 = .ok (.iload 22, 2) := by decide +kernel
theorem dL_law_975 : decode cL_law 975 = .ok (.iload 21, 2) := by decide +kernel
theorem dL_law_977 : decode cL_law 977 = .ok (.if_icmp .le 7, 3) := by decide +kernel
theorem dL_law_980 : decode cL_law 980 = .ok (.iconst 1, 1) := by decide +kernel
theorem dL_law_981 : decode cL_law 981 = .ok (.goto 4, 3) := by decide +kernel
theorem dL_law_984 : decode cL_law 984 = .ok (.iconst 0, 1) := by decide +kernel
theorem dL_law_985 : decode cL_law 985 = .ok (.if_icmp .ne 7, 3) := by decide +kernel
theorem dL_law_988 : decode cL_law 988 = .ok (.iconst 1, 1) := by decide +kernel
theorem dL_law_989 : decode cL_law 989 = .ok (.goto 4, 3) := by decide +kernel
theorem dL_law_992 : decode cL_law 992 = .ok (.iconst 0, 1) := by decide +kernel
theorem dL_law_993 : decode cL_law 993 = .ok (.istore 7, 2) := by decide +kernel
theorem dL_law_995 : decode cL_law 995 = .ok (.aload 5, 2) := by decide +kernel
theorem dL_law_997 : decode cL_law 997 = .ok (.iload 20, 2) := by decide +kernel
theorem dL_law_999 : decode cL_law 999 = .ok (.iload 23, 2) := by decide +kernel
theorem dL_law_1001 : decode cL_law 1001 = .ok (.ifCond .ne 8, 3) := by decide +kernel
theorem dL_law_1004 : decode cL_law 1004 = .ok (.iload 21, 2) := by decide +kernel
theorem dL_law_1006 : decode cL_law 1006 = .ok (.goto 8, 3) := by decide +kernel
theorem dL_law_1009 : decode cL_law 1009 = .ok (.aload 5, 2) := by decide +kernel
theorem dL_law_1011 : decode cL_law 1011 = .ok (.iload 20, 2) := by decide +kernel
theorem dL_law_1013 : decode cL_law 1013 = .ok (.iaload, 1) := by decide +kernel
theorem dL_law_1014 : decode cL_law 1014 = .ok (.iastore, 1) := by decide +kernel
theorem dL_law_1015 : decode cL_law 1015 = .ok (.goto 129, 3) := by decide +kernel
theorem dL_law_1018 : decode cL_law 1018 = .ok (.iload 12, 2) := by decide +kernel
theorem dL_law_1020 : decode cL_law 1020 = .ok (.bipush 14, 2) := by decide +kernel
theorem dL_law_1022 : decode cL_law 1022 = .ok (.if_icmp .ge 70, 3) := by decide +kernel
theorem dL_law_1025 : decode cL_law 1025 = .ok (.aload_n 1, 1) := by decide +kernel
theorem dL_law_1026 : decode cL_law 1026 = .ok (.iload 11, 2) := by decide +kernel
theorem dL_law_1028 : decode cL_law 1028 = .ok (.iconst 1, 1) := by decide +kernel
theorem dL_law_1029 : decode cL_law 1029 = .ok (.iand, 1) := by decide +kernel
theorem dL_law_1030 : decode cL_law 1030 = .ok (.invokevirtual 116, 3) := by decide +kernel
theorem dL_law_1033 : decode cL_law 1033 = .ok (.istore 20, 2) := by decide +kernel
theorem dL_law_1035 : decode cL_law 1035 = .ok (.aload_n 1, 1) := by decide +kernel
theorem dL_law_1036 : decode cL_law 1036 = .ok (.iconst (-1), 1) := by decide +kernel
theorem dL_law_1037 : decode cL_law 1037 = .ok (.invokevirtual 32, 3) := by decide +kernel
theorem dL_law_1040 : decode cL_law 1040 = .ok (.istore 21, 2) := by decide +kernel
theorem dL_law_1042 : decode cL_law 1042 = .ok (.iload 21, 2) := by decide +kernel
theorem dL_law_1044 : decode cL_law 1044 = .ok (.ifCond .lt 33, 3) := by decide +kernel
theorem dL_law_1047 : decode cL_law 1047 = .ok (.iload 20, 2) := by decide +kernel
theorem dL_law_1049 : decode cL_law 1049 = .ok (.aload_n 1, 1) := by decide +kernel
theorem dL_law_1050 : decode cL_law 1050 = .ok (.iload 21, 2) := by decide +kernel
theorem dL_law_1052 : decode cL_law 1052 = .ok (.invokevirtual 64, 3) := by decide +kernel
theorem dL_law_1055 : decode cL_law 1055 = .ok (.ifCond .eq 7, 3) := by decide +kernel
theorem dL_law_1058 : decode cL_law 1058 = .ok (.iconst 1, 1) := by decide +kernel
theorem dL_law_1059 : decode cL_law 1059 = .ok (.goto 4, 3) := by decide +kernel
theorem dL_law_1062 : decode cL_law 1062 = .ok (.iconst 0, 1) := by decide +kernel
theorem dL_law_1063 : decode cL_law 1063 = .ok (.isub, 1) := by decide +kernel
theorem dL_law_1064 : decode cL_law 1064 = .ok (.istore 20, 2) := by decide +kernel
theorem dL_law_1066 : decode cL_law 1066 = .ok (.aload_n 1, 1) := by decide +kernel
theorem dL_law_1067 : decode cL_law 1067 = .ok (.iload 21, 2) := by decide +kernel
theorem dL_law_1069 : decode cL_law 1069 = .ok (.invokevirtual 32, 3) := by decide +kernel
theorem dL_law_1072 : decode cL_law 1072 = .ok (.istore 21, 2) := by decide +kernel
theorem dL_law_1074 : decode cL_law 1074 = .ok (.goto (-32), 3) := by decide +kernel
theorem dL_law_1077 : decode cL_law 1077 = .ok (.iload 20, 2) := by decide +kernel
theorem dL_law_1079 : decode cL_law 1079 = .ok (.ifCond .ne 7, 3) := by decide +kernel
theorem dL_law_1082 : decode cL_law 1082 = .ok (.iconst 1, 1) := by decide +kernel
theorem dL_law_1083 : decode cL_law 1083 = .ok (.goto 4, 3) := by decide +kernel
theorem dL_law_1086 : decode cL_law 1086 = .ok (.iconst 0, 1) := by decide +kernel
theorem dL_law_1087 : decode cL_law 1087 = .ok (.istore 7, 2) := by decide +kernel
theorem dL_law_1089 : decode cL_law 1089 = .ok (.goto 55, 3) := by decide +kernel
theorem dL_law_1092 : decode cL_law 1092 = .ok (.aload_n 1, 1) := by decide +kernel
theorem dL_law_1093 : decode cL_law 1093 = .ok (.invokevirtual 119, 3) := by decide +kernel
theorem dL_law_1096 : decode cL_law 1096 = .ok (.istore 20, 2) := by decide +kernel
theorem dL_law_1098 : decode cL_law 1098 = .ok (.iload 20, 2) := by decide +kernel
theorem dL_law_1100 : decode cL_law 1100 = .ok (.iconst (-1), 1) := by decide +kernel
theorem dL_law_1101 : decode cL_law 1101 = .ok (.if_icmp .lt 40, 3) := by decide +kernel
theorem dL_law_1104 : decode cL_law 1104 = .ok (.iload 20, 2) := by decide +kernel
theorem dL_law_1106 : decode cL_law 1106 = .ok (.iload 19, 2) := by decide +kernel
theorem dL_law_1108 : decode cL_law 1108 = .ok (.if_icmp .gt 33, 3) := by decide +kernel
theorem dL_law_1111 : decode cL_law 1111 = .ok (.aload_n 1, 1) := by decide +kernel
theorem dL_law_1112 : decode cL_law 1112 = .ok (.invokevirtual 41, 3) := by decide +kernel
theorem dL_law_1115 : decode cL_law 1115 = .ok (.iload 19, 2) := by decide +kernel
theorem dL_law_1117 : decode cL_law 1117 = .ok (.if_icmp .ne 24, 3) := by decide +kernel
theorem dL_law_1120 : decode cL_law 1120 = .ok (.aload_n 1, 1) := by decide +kernel
theorem dL_law_1121 : decode cL_law 1121 = .ok (.invokevirtual 119, 3) := by decide +kernel
theorem dL_law_1124 : decode cL_law 1124 = .ok (.iload 20, 2) := by decide +kernel
theorem dL_law_1126 : decode cL_law 1126 = .ok (.ifCond .ge 7, 3) := by decide +kernel
theorem dL_law_1129 : decode cL_law 1129 = .ok (.iconst (-1), 1) := by decide +kernel
theorem dL_law_1130 : decode cL_law 1130 = .ok (.goto 4, 3) := by decide +kernel
theorem dL_law_1133 : decode cL_law 1133 = .ok (.iconst 0, 1) := by decide +kernel
theorem dL_law_1134 : decode cL_law 1134 = .ok (.if_icmp .ne 7, 3) := by decide +kernel
theorem dL_law_1137 : decode cL_law 1137 = .ok (.iconst 1, 1) := by decide +kernel
theorem dL_law_1138 : decode cL_law 1138 = .ok (.goto 4, 3) := by decide +kernel
theorem dL_law_1141 : decode cL_law 1141 = .ok (.iconst 0, 1) := by decide +kernel
theorem dL_law_1142 : decode cL_law 1142 = .ok (.istore 7, 2) := by decide +kernel
theorem dL_law_1144 : decode cL_law 1144 = .ok (.iconst 0, 1) := by decide +kernel
theorem dL_law_1145 : decode cL_law 1145 = .ok (.istore 20, 2) := by decide +kernel
theorem dL_law_1147 : decode cL_law 1147 = .ok (.iload 20, 2) := by decide +kernel
theorem dL_law_1149 : decode cL_law 1149 = .ok (.iconst 4, 1) := by decide +kernel
theorem dL_law_1150 : decode cL_law 1150 = .ok (.if_icmp .ge 77, 3) := by decide +kernel
theorem dL_law_1153 : decode cL_law 1153 = .ok (.iload 7, 2) := by decide +kernel
theorem dL_law_1155 : decode cL_law 1155 = .ok (.ifCond .eq 72, 3) := by decide +kernel
theorem dL_law_1158 : decode cL_law 1158 = .ok (.iconst 0, 1) := by decide +kernel
theorem dL_law_1159 : decode cL_law 1159 = .ok (.istore 21, 2) := by decide +kernel
theorem dL_law_1161 : decode cL_law 1161 = .ok (.iconst 0, 1) := by decide +kernel
theorem dL_law_1162 : decode cL_law 1162 = .ok (.istore 22, 2) := by decide +kernel
theorem dL_law_1164 : decode cL_law 1164 = .ok (.iload 22, 2) := by decide +kernel
theorem dL_law_1166 : decode cL_law 1166 = .ok (.aload_n 1, 1) := by decide +kernel
theorem dL_law_1167 : decode cL_law 1167 = .ok (.invokevirtual 45, 3) := by decide +kernel
theorem dL_law_1170 : decode cL_law 1170 = .ok (.if_icmp .ge 34, 3) := by decide +kernel
theorem dL_law_1173 : decode cL_law 1173 = .ok (.iload 21, 2) := by decide +kernel
theorem dL_law_1175 : decode cL_law 1175 = .ok (.aload 4, 2) := by decide +kernel
theorem dL_law_1177 : decode cL_law 1177 = .ok (.iload 22, 2) := by decide +kernel
theorem dL_law_1179 : decode cL_law 1179 = .ok (.iaload, 1) := by decide +kernel
theorem dL_law_1180 : decode cL_law 1180 = .ok (.iload 20, 2) := by decide +kernel
theorem dL_law_1182 : decode cL_law 1182 = .ok (.if_icmp .ne 12, 3) := by decide +kernel
theorem dL_law_1185 : decode cL_law 1185 = .ok (.aload_n 1, 1) := by decide +kernel
theorem dL_law_1186 : decode cL_law 1186 = .ok (.iload 22, 2) := by decide +kernel
theorem dL_law_1188 : decode cL_law 1188 = .ok (.invokevirtual 109, 3) := by decide +kernel
theorem dL_law_1191 : decode cL_law 1191 = .ok (.goto 4, 3) := by decide +kernel
theorem dL_law_1194 : decode cL_law 1194 = .ok (.iconst 0, 1) := by decide +kernel
theorem dL_law_1195 : decode cL_law 1195 = .ok (.iadd, 1) := by decide +kernel
theorem dL_law_1196 : decode cL_law 1196 = .ok (.istore 21, 2) := by decide +kernel
theorem dL_law_1198 : decode cL_law 1198 = .ok (.iinc 22 1, 3) := by decide +kernel
theorem dL_law_1201 : decode cL_law 1201 = .ok (.goto (-37), 3) := by decide +kernel
theorem dL_law_1204 : decode cL_law 1204 = .ok (.iload 21, 2) := by decide +kernel
theorem dL_law_1206 : decode cL_law 1206 = .ok (.aload 5, 2) := by decide +kernel
theorem dL_law_1208 : decode cL_law 1208 = .ok (.iload 20, 2) := by decide +kernel
theorem dL_law_1210 : decode cL_law 1210 = .ok (.iaload, 1) := by decide +kernel
theorem dL_law_1211 : decode cL_law 1211 = .ok (.if_icmp .gt 7, 3) := by decide +kernel
theorem dL_law_1214 : decode cL_law 1214 = .ok (.iconst 1, 1) := by decide +kernel
theorem dL_law_1215 : decode cL_law 1215 = .ok (.goto 4, 3) := by decide +kernel
theorem dL_law_1218 : decode cL_law 1218 = .ok (.iconst 0, 1) := by decide +kernel
theorem dL_law_1219 : decode cL_law 1219 = .ok (.istore 7, 2) := by decide +kernel
theorem dL_law_1221 : decode cL_law 1221 = .ok (.iinc 20 1, 3) := by decide +kernel
theorem dL_law_1224 : decode cL_law 1224 = .ok (.goto (-77), 3) := by decide +kernel
theorem dL_law_1227 : decode cL_law 1227 = .ok (.aload_n 1, 1) := by decide +kernel
theorem dL_law_1228 : decode cL_law 1228 = .ok (.invokevirtual 41, 3) := by decide +kernel
theorem dL_law_1231 : decode cL_law 1231 = .ok (.istore 20, 2) := by decide +kernel
theorem dL_law_1233 : decode cL_law 1233 = .ok (.iload 7, 2) := by decide +kernel
theorem dL_law_1235 : decode cL_law 1235 = .ok (.ifCond .eq 38, 3) := by decide +kernel
theorem dL_law_1238 : decode cL_law 1238 = .ok (.aload_n 1, 1) := by decide +kernel
theorem dL_law_1239 : decode cL_law 1239 = .ok (.aload_n 2, 1) := by decide +kernel
theorem dL_law_1240 : decode cL_law 1240 = .ok (.invokestatic 90, 3) := by decide +kernel
theorem dL_law_1243 : decode cL_law 1243 = .ok (.ifCond .eq 30, 3) := by decide +kernel
theorem dL_law_1246 : decode cL_law 1246 = .ok (.aload_n 1, 1) := by decide +kernel
theorem dL_law_1247 : decode cL_law 1247 = .ok (.aload_n 3, 1) := by decide +kernel
theorem dL_law_1248 : decode cL_law 1248 = .ok (.invokestatic 94, 3) := by decide +kernel
theorem dL_law_1251 : decode cL_law 1251 = .ok (.ifCond .eq 22, 3) := by decide +kernel
theorem dL_law_1254 : decode cL_law 1254 = .ok (.aload_n 1, 1) := by decide +kernel
theorem dL_law_1255 : decode cL_law 1255 = .ok (.iload 13, 2) := by decide +kernel
theorem dL_law_1257 : decode cL_law 1257 = .ok (.iload 14, 2) := by decide +kernel
theorem dL_law_1259 : decode cL_law 1259 = .ok (.iload 15, 2) := by decide +kernel
theorem dL_law_1261 : decode cL_law 1261 = .ok (.iload 16, 2) := by decide +kernel
theorem dL_law_1263 : decode cL_law 1263 = .ok (.invokestatic 122, 3) := by decide +kernel
theorem dL_law_1266 : decode cL_law 1266 = .ok (.ifCond .eq 7, 3) := by decide +kernel
theorem dL_law_1269 : decode cL_law 1269 = .ok (.iconst 1, 1) := by decide +kernel
theorem dL_law_1270 : decode cL_law 1270 = .ok (.goto 4, 3) := by decide +kernel
theorem dL_law_1273 : decode cL_law 1273 = .ok (.iconst 0, 1) := by decide +kernel
theorem dL_law_1274 : decode cL_law 1274 = .ok (.istore 7, 2) := by decide +kernel
theorem dL_law_1276 : decode cL_law 1276 = .ok (.iload 6, 2) := by decide +kernel
theorem dL_law_1278 : decode cL_law 1278 = .ok (.iload 7, 2) := by decide +kernel
theorem dL_law_1280 : decode cL_law 1280 = .ok (.ifCond .eq 29, 3) := by decide +kernel
theorem dL_law_1283 : decode cL_law 1283 = .ok (.iload 20, 2) := by decide +kernel
theorem dL_law_1285 : decode cL_law 1285 = .ok (.bipush 60, 2) := by decide +kernel
theorem dL_law_1287 : decode cL_law 1287 = .ok (.if_icmp .ge 22, 3) := by decide +kernel
theorem dL_law_1290 : decode cL_law 1290 = .ok (.aload_n 1, 1) := by decide +kernel
theorem dL_law_1291 : decode cL_law 1291 = .ok (.iload 13, 2) := by decide +kernel
theorem dL_law_1293 : decode cL_law 1293 = .ok (.iload 14, 2) := by decide +kernel
theorem dL_law_1295 : decode cL_law 1295 = .ok (.iload 15, 2) := by decide +kernel
theorem dL_law_1297 : decode cL_law 1297 = .ok (.iload 16, 2) := by decide +kernel
theorem dL_law_1299 : decode cL_law 1299 = .ok (.invokevirtual 67, 3) := by decide +kernel
theorem dL_law_1302 : decode cL_law 1302 = .ok (.ifCond .eq 7, 3) := by decide +kernel
theorem dL_law_1305 : decode cL_law 1305 = .ok (.iconst 1, 1) := by decide +kernel
theorem dL_law_1306 : decode cL_law 1306 = .ok (.goto 4, 3) := by decide +kernel
theorem dL_law_1309 : decode cL_law 1309 = .ok (.iconst 0, 1) := by decide +kernel
theorem dL_law_1310 : decode cL_law 1310 = .ok (.iadd, 1) := by decide +kernel
theorem dL_law_1311 : decode cL_law 1311 = .ok (.istore 6, 2) := by decide +kernel
theorem dL_law_1313 : decode cL_law 1313 = .ok (.iinc 9 1, 3) := by decide +kernel
theorem dL_law_1316 : decode cL_law 1316 = .ok (.goto (-1204), 3) := by decide +kernel
theorem dL_law_1319 : decode cL_law 1319 = .ok (.iload 7, 2) := by decide +kernel
theorem dL_law_1321 : decode cL_law 1321 = .ok (.ireturn, 1) := by decide +kernel
