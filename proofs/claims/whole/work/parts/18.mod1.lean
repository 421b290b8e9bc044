abbrev yM_fits : MethodName := ⟨"ArenaNetworkModel", "fits", "(I)Z"⟩
abbrev rmM_fits : Room := { frames := 0, cells := 0, slots := 0, locals := 0 }
theorem ykM_fits : yOk yM_fits 1 := by decide +kernel
theorem dM_fits_0 : decode prog_7_method_10_code 0 = .ok (.aload_n 0, 1) := by decide +kernel
theorem dM_fits_1 : decode prog_7_method_10_code 1 = .ok (.getfield 38, 3) := by decide +kernel
theorem dM_fits_4 : decode prog_7_method_10_code 4 = .ok (.iload_n 1, 1) := by decide +kernel
theorem dM_fits_5 : decode prog_7_method_10_code 5 = .ok (.iaload, 1) := by decide +kernel
theorem dM_fits_6 : decode prog_7_method_10_code 6 = .ok (.istore_n 2, 1) := by decide +kernel
theorem dM_fits_7 : decode prog_7_method_10_code 7 = .ok (.aload_n 0, 1) := by decide +kernel
theorem dM_fits_8 : decode prog_7_method_10_code 8 = .ok (.getfield 41, 3) := by decide +kernel
theorem dM_fits_11 : decode prog_7_method_10_code 11 = .ok (.iload_n 1, 1) := by decide +kernel
theorem dM_fits_12 : decode prog_7_method_10_code 12 = .ok (.iaload, 1) := by decide +kernel
theorem dM_fits_13 : decode prog_7_method_10_code 13 = .ok (.istore_n 3, 1) := by decide +kernel
theorem dM_fits_14 : decode prog_7_method_10_code 14 = .ok (.aload_n 0, 1) := by decide +kernel
theorem dM_fits_15 : decode prog_7_method_10_code 15 = .ok (.getfield 44, 3) := by decide +kernel
theorem dM_fits_18 : decode prog_7_method_10_code 18 = .ok (.iload_n 1, 1) := by decide +kernel
theorem dM_fits_19 : decode prog_7_method_10_code 19 = .ok (.iaload, 1) := by decide +kernel
theorem dM_fits_20 : decode prog_7_method_10_code 20 = .ok (.istore 4, 2) := by decide +kernel
theorem dM_fits_22 : decode prog_7_method_10_code 22 = .ok (.aload_n 0, 1) := by decide +kernel
theorem dM_fits_23 : decode prog_7_method_10_code 23 = .ok (.getfield 47, 3) := by decide +kernel
theorem dM_fits_26 : decode prog_7_method_10_code 26 = .ok (.iload_n 1, 1) := by decide +kernel
theorem dM_fits_27 : decode prog_7_method_10_code 27 = .ok (.iaload, 1) := by decide +kernel
theorem dM_fits_28 : decode prog_7_method_10_code 28 = .ok (.istore 5, 2) := by decide +kernel
theorem dM_fits_30 : decode prog_7_method_10_code 30 = .ok (.aload_n 0, 1) := by decide +kernel
theorem dM_fits_31 : decode prog_7_method_10_code 31 = .ok (.getfield 13, 3) := by decide +kernel
theorem dM_fits_34 : decode prog_7_method_10_code 34 = .ok (.iload_n 2, 1) := by decide +kernel
theorem dM_fits_35 : decode prog_7_method_10_code 35 = .ok (.iaload, 1) := by decide +kernel
theorem dM_fits_36 : decode prog_7_method_10_code 36 = .ok (.istore 6, 2) := by decide +kernel
theorem dM_fits_38 : decode prog_7_method_10_code 38 = .ok (.aload_n 0, 1) := by decide +kernel
theorem dM_fits_39 : decode prog_7_method_10_code 39 = .ok (.getfield 13, 3) := by decide +kernel
theorem dM_fits_42 : decode prog_7_method_10_code 42 = .ok (.iload_n 3, 1) := by decide +kernel
theorem dM_fits_43 : decode prog_7_method_10_code 43 = .ok (.iaload, 1) := by decide +kernel
theorem dM_fits_44 : decode prog_7_method_10_code 44 = .ok (.istore 7, 2) := by decide +kernel
theorem dM_fits_46 : decode prog_7_method_10_code 46 = .ok (.aload_n 0, 1) := by decide +kernel
theorem dM_fits_47 : decode prog_7_method_10_code 47 = .ok (.getfield 13, 3) := by decide +kernel
theorem dM_fits_50 : decode prog_7_method_10_code 50 = .ok (.iload 4, 2) := by decide +kernel
theorem dM_fits_52 : decode prog_7_method_10_code 52 = .ok (.iaload, 1) := by decide +kernel
theorem dM_fits_53 : decode prog_7_method_10_code 53 = .ok (.istore 8, 2) := by decide +kernel
theorem dM_fits_55 : decode prog_7_method_10_code 55 = .ok (.aload_n 0, 1) := by decide +kernel
theorem dM_fits_56 : decode prog_7_method_10_code 56 = .ok (.getfield 35, 3) := by decide +kernel
theorem dM_fits_59 : decode prog_7_method_10_code 59 = .ok (.iload_n 1, 1) := by decide +kernel
theorem dM_fits_60 : decode prog_7_method_10_code 60 = .ok (.iaload, 1) := by decide +kernel
theorem dM_fits_61 : decode prog_7_method_10_code 61 = .ok (.ifCond .ne (28), 3) := by decide +kernel
theorem dM_fits_64 : decode prog_7_method_10_code 64 = .ok (.aload_n 0, 1) := by decide +kernel
theorem dM_fits_65 : decode prog_7_method_10_code 65 = .ok (.getfield 7, 3) := by decide +kernel
theorem dM_fits_68 : decode prog_7_method_10_code 68 = .ok (.iload_n 3, 1) := by decide +kernel
theorem dM_fits_69 : decode prog_7_method_10_code 69 = .ok (.iaload, 1) := by decide +kernel
theorem dM_fits_70 : decode prog_7_method_10_code 70 = .ok (.ifCond .ne (17), 3) := by decide +kernel
theorem dM_fits_73 : decode prog_7_method_10_code 73 = .ok (.iload 7, 2) := by decide +kernel
theorem dM_fits_75 : decode prog_7_method_10_code 75 = .ok (.iload 6, 2) := by decide +kernel
theorem dM_fits_77 : decode prog_7_method_10_code 77 = .ok (.iload 8, 2) := by decide +kernel
theorem dM_fits_79 : decode prog_7_method_10_code 79 = .ok (.imul, 1) := by decide +kernel
theorem dM_fits_80 : decode prog_7_method_10_code 80 = .ok (.if_icmp .ne (7), 3) := by decide +kernel
theorem dM_fits_83 : decode prog_7_method_10_code 83 = .ok (.iconst (1), 1) := by decide +kernel
theorem dM_fits_84 : decode prog_7_method_10_code 84 = .ok (.goto (4), 3) := by decide +kernel
theorem dM_fits_87 : decode prog_7_method_10_code 87 = .ok (.iconst (0), 1) := by decide +kernel
theorem dM_fits_88 : decode prog_7_method_10_code 88 = .ok (.ireturn, 1) := by decide +kernel
theorem dM_fits_89 : decode prog_7_method_10_code 89 = .ok (.aload_n 0, 1) := by decide +kernel
theorem dM_fits_90 : decode prog_7_method_10_code 90 = .ok (.getfield 35, 3) := by decide +kernel
theorem dM_fits_93 : decode prog_7_method_10_code 93 = .ok (.iload_n 1, 1) := by decide +kernel
theorem dM_fits_94 : decode prog_7_method_10_code 94 = .ok (.iaload, 1) := by decide +kernel
theorem dM_fits_95 : decode prog_7_method_10_code 95 = .ok (.iconst (3), 1) := by decide +kernel
theorem dM_fits_96 : decode prog_7_method_10_code 96 = .ok (.if_icmp .ge (23), 3) := by decide +kernel
theorem dM_fits_99 : decode prog_7_method_10_code 99 = .ok (.iload 6, 2) := by decide +kernel
theorem dM_fits_101 : decode prog_7_method_10_code 101 = .ok (.iload 7, 2) := by decide +kernel
theorem dM_fits_103 : decode prog_7_method_10_code 103 = .ok (.if_icmp .ne (14), 3) := by decide +kernel
theorem dM_fits_106 : decode prog_7_method_10_code 106 = .ok (.iload 7, 2) := by decide +kernel
theorem dM_fits_108 : decode prog_7_method_10_code 108 = .ok (.iload 8, 2) := by decide +kernel
theorem dM_fits_110 : decode prog_7_method_10_code 110 = .ok (.if_icmp .ne (7), 3) := by decide +kernel
theorem dM_fits_113 : decode prog_7_method_10_code 113 = .ok (.iconst (1), 1) := by decide +kernel
theorem dM_fits_114 : decode prog_7_method_10_code 114 = .ok (.goto (4), 3) := by decide +kernel
theorem dM_fits_117 : decode prog_7_method_10_code 117 = .ok (.iconst (0), 1) := by decide +kernel
theorem dM_fits_118 : decode prog_7_method_10_code 118 = .ok (.ireturn, 1) := by decide +kernel
theorem dM_fits_119 : decode prog_7_method_10_code 119 = .ok (.aload_n 0, 1) := by decide +kernel
theorem dM_fits_120 : decode prog_7_method_10_code 120 = .ok (.getfield 35, 3) := by decide +kernel
theorem dM_fits_123 : decode prog_7_method_10_code 123 = .ok (.iload_n 1, 1) := by decide +kernel
theorem dM_fits_124 : decode prog_7_method_10_code 124 = .ok (.iaload, 1) := by decide +kernel
theorem dM_fits_125 : decode prog_7_method_10_code 125 = .ok (.iconst (5), 1) := by decide +kernel
theorem dM_fits_126 : decode prog_7_method_10_code 126 = .ok (.if_icmp .ge (52), 3) := by decide +kernel
theorem dM_fits_129 : decode prog_7_method_10_code 129 = .ok (.iload_n 2, 1) := by decide +kernel
theorem dM_fits_130 : decode prog_7_method_10_code 130 = .ok (.iload_n 3, 1) := by decide +kernel
theorem dM_fits_131 : decode prog_7_method_10_code 131 = .ok (.if_icmp .ne (45), 3) := by decide +kernel
theorem dM_fits_134 : decode prog_7_method_10_code 134 = .ok (.iload 5, 2) := by decide +kernel
theorem dM_fits_136 : decode prog_7_method_10_code 136 = .ok (.iconst (2), 1) := by decide +kernel
theorem dM_fits_137 : decode prog_7_method_10_code 137 = .ok (.if_icmp .lt (39), 3) := by decide +kernel
theorem dM_fits_140 : decode prog_7_method_10_code 140 = .ok (.iload 5, 2) := by decide +kernel
theorem dM_fits_142 : decode prog_7_method_10_code 142 = .ok (.iconst (4), 1) := by decide +kernel
theorem dM_fits_143 : decode prog_7_method_10_code 143 = .ok (.if_icmp .gt (33), 3) := by decide +kernel
theorem dM_fits_146 : decode prog_7_method_10_code 146 = .ok (.iload 6, 2) := by decide +kernel
theorem dM_fits_148 : decode prog_7_method_10_code 148 = .ok (.iload 8, 2) := by decide +kernel
theorem dM_fits_150 : decode prog_7_method_10_code 150 = .ok (.iload 5, 2) := by decide +kernel
theorem dM_fits_152 : decode prog_7_method_10_code 152 = .ok (.imul, 1) := by decide +kernel
theorem dM_fits_153 : decode prog_7_method_10_code 153 = .ok (.if_icmp .ne (23), 3) := by decide +kernel
theorem dM_fits_156 : decode prog_7_method_10_code 156 = .ok (.aload_n 0, 1) := by decide +kernel
theorem dM_fits_157 : decode prog_7_method_10_code 157 = .ok (.getfield 16, 3) := by decide +kernel
theorem dM_fits_160 : decode prog_7_method_10_code 160 = .ok (.iload_n 2, 1) := by decide +kernel
theorem dM_fits_161 : decode prog_7_method_10_code 161 = .ok (.iaload, 1) := by decide +kernel
theorem dM_fits_162 : decode prog_7_method_10_code 162 = .ok (.aload_n 0, 1) := by decide +kernel
theorem dM_fits_163 : decode prog_7_method_10_code 163 = .ok (.getfield 16, 3) := by decide +kernel
theorem dM_fits_166 : decode prog_7_method_10_code 166 = .ok (.iload 4, 2) := by decide +kernel
theorem dM_fits_168 : decode prog_7_method_10_code 168 = .ok (.iaload, 1) := by decide +kernel
theorem dM_fits_169 : decode prog_7_method_10_code 169 = .ok (.if_icmp .ne (7), 3) := by decide +kernel
theorem dM_fits_172 : decode prog_7_method_10_code 172 = .ok (.iconst (1), 1) := by decide +kernel
theorem dM_fits_173 : decode prog_7_method_10_code 173 = .ok (.goto (4), 3) := by decide +kernel
theorem dM_fits_176 : decode prog_7_method_10_code 176 = .ok (.iconst (0), 1) := by decide +kernel
theorem dM_fits_177 : decode prog_7_method_10_code 177 = .ok (.ireturn, 1) := by decide +kernel
theorem dM_fits_178 : decode prog_7_method_10_code 178 = .ok (.iload 5, 2) := by decide +kernel
theorem dM_fits_180 : decode prog_7_method_10_code 180 = .ok (.ifCond .eq (5), 3) := by decide +kernel
theorem dM_fits_183 : decode prog_7_method_10_code 183 = .ok (.iconst (0), 1) := by decide +kernel
theorem dM_fits_184 : decode prog_7_method_10_code 184 = .ok (.ireturn, 1) := by decide +kernel
theorem dM_fits_185 : decode prog_7_method_10_code 185 = .ok (.aload_n 0, 1) := by decide +kernel
theorem dM_fits_186 : decode prog_7_method_10_code 186 = .ok (.getfield 35, 3) := by decide +kernel
theorem dM_fits_189 : decode prog_7_method_10_code 189 = .ok (.iload_n 1, 1) := by decide +kernel
theorem dM_fits_190 : decode prog_7_method_10_code 190 = .ok (.iaload, 1) := by decide +kernel
theorem dM_fits_191 : decode prog_7_method_10_code 191 = .ok (.iconst (5), 1) := by decide +kernel
theorem dM_fits_192 : decode prog_7_method_10_code 192 = .ok (.if_icmp .ne (48), 3) := by decide +kernel
theorem dM_fits_195 : decode prog_7_method_10_code 195 = .ok (.aload_n 0, 1) := by decide +kernel
theorem dM_fits_196 : decode prog_7_method_10_code 196 = .ok (.getfield 7, 3) := by decide +kernel
theorem dM_fits_199 : decode prog_7_method_10_code 199 = .ok (.iload_n 3, 1) := by decide +kernel
theorem dM_fits_200 : decode prog_7_method_10_code 200 = .ok (.iaload, 1) := by decide +kernel
theorem dM_fits_201 : decode prog_7_method_10_code 201 = .ok (.ifCond .ne (37), 3) := by decide +kernel
theorem dM_fits_204 : decode prog_7_method_10_code 204 = .ok (.iload 7, 2) := by decide +kernel
theorem dM_fits_206 : decode prog_7_method_10_code 206 = .ok (.bipush (16), 2) := by decide +kernel
theorem dM_fits_208 : decode prog_7_method_10_code 208 = .ok (.if_icmp .ne (30), 3) := by decide +kernel
theorem dM_fits_211 : decode prog_7_method_10_code 211 = .ok (.iload 6, 2) := by decide +kernel
theorem dM_fits_213 : decode prog_7_method_10_code 213 = .ok (.iload 8, 2) := by decide +kernel
theorem dM_fits_215 : decode prog_7_method_10_code 215 = .ok (.if_icmp .ne (23), 3) := by decide +kernel
theorem dM_fits_218 : decode prog_7_method_10_code 218 = .ok (.aload_n 0, 1) := by decide +kernel
theorem dM_fits_219 : decode prog_7_method_10_code 219 = .ok (.getfield 16, 3) := by decide +kernel
theorem dM_fits_222 : decode prog_7_method_10_code 222 = .ok (.iload_n 3, 1) := by decide +kernel
theorem dM_fits_223 : decode prog_7_method_10_code 223 = .ok (.iaload, 1) := by decide +kernel
theorem dM_fits_224 : decode prog_7_method_10_code 224 = .ok (.aload_n 0, 1) := by decide +kernel
theorem dM_fits_225 : decode prog_7_method_10_code 225 = .ok (.getfield 16, 3) := by decide +kernel
theorem dM_fits_228 : decode prog_7_method_10_code 228 = .ok (.iload 4, 2) := by decide +kernel
theorem dM_fits_230 : decode prog_7_method_10_code 230 = .ok (.iaload, 1) := by decide +kernel
theorem dM_fits_231 : decode prog_7_method_10_code 231 = .ok (.if_icmp .ne (7), 3) := by decide +kernel
theorem dM_fits_234 : decode prog_7_method_10_code 234 = .ok (.iconst (1), 1) := by decide +kernel
theorem dM_fits_235 : decode prog_7_method_10_code 235 = .ok (.goto (4), 3) := by decide +kernel
theorem dM_fits_238 : decode prog_7_method_10_code 238 = .ok (.iconst (0), 1) := by decide +kernel
theorem dM_fits_239 : decode prog_7_method_10_code 239 = .ok (.ireturn, 1) := by decide +kernel
theorem dM_fits_240 : decode prog_7_method_10_code 240 = .ok (.aload_n 0, 1) := by decide +kernel
theorem dM_fits_241 : decode prog_7_method_10_code 241 = .ok (.getfield 35, 3) := by decide +kernel
theorem dM_fits_244 : decode prog_7_method_10_code 244 = .ok (.iload_n 1, 1) := by decide +kernel
theorem dM_fits_245 : decode prog_7_method_10_code 245 = .ok (.iaload, 1) := by decide +kernel
theorem dM_fits_246 : decode prog_7_method_10_code 246 = .ok (.bipush (6), 2) := by decide +kernel
theorem dM_fits_248 : decode prog_7_method_10_code 248 = .ok (.if_icmp .ne (50), 3) := by decide +kernel
theorem dM_fits_251 : decode prog_7_method_10_code 251 = .ok (.iload 8, 2) := by decide +kernel
theorem dM_fits_253 : decode prog_7_method_10_code 253 = .ok (.iload 6, 2) := by decide +kernel
theorem dM_fits_255 : decode prog_7_method_10_code 255 = .ok (.iload 7, 2) := by decide +kernel
theorem dM_fits_257 : decode prog_7_method_10_code 257 = .ok (.iadd, 1) := by decide +kernel
theorem dM_fits_258 : decode prog_7_method_10_code 258 = .ok (.if_icmp .ne (38), 3) := by decide +kernel
theorem dM_fits_261 : decode prog_7_method_10_code 261 = .ok (.aload_n 0, 1) := by decide +kernel
theorem dM_fits_262 : decode prog_7_method_10_code 262 = .ok (.getfield 16, 3) := by decide +kernel
theorem dM_fits_265 : decode prog_7_method_10_code 265 = .ok (.iload_n 2, 1) := by decide +kernel
theorem dM_fits_266 : decode prog_7_method_10_code 266 = .ok (.iaload, 1) := by decide +kernel
theorem dM_fits_267 : decode prog_7_method_10_code 267 = .ok (.aload_n 0, 1) := by decide +kernel
theorem dM_fits_268 : decode prog_7_method_10_code 268 = .ok (.getfield 16, 3) := by decide +kernel
theorem dM_fits_271 : decode prog_7_method_10_code 271 = .ok (.iload_n 3, 1) := by decide +kernel
theorem dM_fits_272 : decode prog_7_method_10_code 272 = .ok (.iaload, 1) := by decide +kernel
theorem dM_fits_273 : decode prog_7_method_10_code 273 = .ok (.if_icmp .ne (23), 3) := by decide +kernel
theorem dM_fits_276 : decode prog_7_method_10_code 276 = .ok (.aload_n 0, 1) := by decide +kernel
theorem dM_fits_277 : decode prog_7_method_10_code 277 = .ok (.getfield 16, 3) := by decide +kernel
theorem dM_fits_280 : decode prog_7_method_10_code 280 = .ok (.iload_n 3, 1) := by decide +kernel
theorem dM_fits_281 : decode prog_7_method_10_code 281 = .ok (.iaload, 1) := by decide +kernel
theorem dM_fits_282 : decode prog_7_method_10_code 282 = .ok (.aload_n 0, 1) := by decide +kernel
theorem dM_fits_283 : decode prog_7_method_10_code 283 = .ok (.getfield 16, 3) := by decide +kernel
theorem dM_fits_286 : decode prog_7_method_10_code 286 = .ok (.iload 4, 2) := by decide +kernel
theorem dM_fits_288 : decode prog_7_method_10_code 288 = .ok (.iaload, 1) := by decide +kernel
theorem dM_fits_289 : decode prog_7_method_10_code 289 = .ok (.if_icmp .ne (7), 3) := by decide +kernel
theorem dM_fits_292 : decode prog_7_method_10_code 292 = .ok (.iconst (1), 1) := by decide +kernel
theorem dM_fits_293 : decode prog_7_method_10_code 293 = .ok (.goto (4), 3) := by decide +kernel
theorem dM_fits_296 : decode prog_7_method_10_code 296 = .ok (.iconst (0), 1) := by decide +kernel
theorem dM_fits_297 : decode prog_7_method_10_code 297 = .ok (.ireturn, 1) := by decide +kernel
theorem dM_fits_298 : decode prog_7_method_10_code 298 = .ok (.iload_n 2, 1) := by decide +kernel
theorem dM_fits_299 : decode prog_7_method_10_code 299 = .ok (.iload_n 3, 1) := by decide +kernel
theorem dM_fits_300 : decode prog_7_method_10_code 300 = .ok (.if_icmp .ne (30), 3) := by decide +kernel
theorem dM_fits_303 : decode prog_7_method_10_code 303 = .ok (.iload 6, 2) := by decide +kernel
theorem dM_fits_305 : decode prog_7_method_10_code 305 = .ok (.iload 8, 2) := by decide +kernel
theorem dM_fits_307 : decode prog_7_method_10_code 307 = .ok (.if_icmp .ne (23), 3) := by decide +kernel
theorem dM_fits_310 : decode prog_7_method_10_code 310 = .ok (.aload_n 0, 1) := by decide +kernel
theorem dM_fits_311 : decode prog_7_method_10_code 311 = .ok (.getfield 16, 3) := by decide +kernel
theorem dM_fits_314 : decode prog_7_method_10_code 314 = .ok (.iload_n 2, 1) := by decide +kernel
theorem dM_fits_315 : decode prog_7_method_10_code 315 = .ok (.iaload, 1) := by decide +kernel
theorem dM_fits_316 : decode prog_7_method_10_code 316 = .ok (.aload_n 0, 1) := by decide +kernel
theorem dM_fits_317 : decode prog_7_method_10_code 317 = .ok (.getfield 16, 3) := by decide +kernel
theorem dM_fits_320 : decode prog_7_method_10_code 320 = .ok (.iload 4, 2) := by decide +kernel
theorem dM_fits_322 : decode prog_7_method_10_code 322 = .ok (.iaload, 1) := by decide +kernel
theorem dM_fits_323 : decode prog_7_method_10_code 323 = .ok (.if_icmp .ne (7), 3) := by decide +kernel
theorem dM_fits_326 : decode prog_7_method_10_code 326 = .ok (.iconst (1), 1) := by decide +kernel
theorem dM_fits_327 : decode prog_7_method_10_code 327 = .ok (.goto (4), 3) := by decide +kernel
theorem dM_fits_330 : decode prog_7_method_10_code 330 = .ok (.iconst (0), 1) := by decide +kernel
theorem dM_fits_331 : decode prog_7_method_10_code 331 = .ok (.ireturn, 1) := by decide +kernel
abbrev yM_begin : MethodName := ⟨"ArenaNetworkModel", "begin", "(I)I"⟩
abbrev rmM_begin : Room := { frames := 1, cells := 0, slots := 0, locals := 23 }
theorem ykM_begin : yOk yM_begin 1 := by decide +kernel
theorem dM_begin_0 : decode prog_7_method_13_code 0 = .ok (.aload_n 0, 1) := by decide +kernel
theorem dM_begin_1 : decode prog_7_method_13_code 1 = .ok (.getfield 7, 3) := by decide +kernel
theorem dM_begin_4 : decode prog_7_method_13_code 4 = .ok (.iload_n 1, 1) := by decide +kernel
theorem dM_begin_5 : decode prog_7_method_13_code 5 = .ok (.iaload, 1) := by decide +kernel
theorem dM_begin_6 : decode prog_7_method_13_code 6 = .ok (.iconst (1), 1) := by decide +kernel
theorem dM_begin_7 : decode prog_7_method_13_code 7 = .ok (.if_icmp .ne (7), 3) := by decide +kernel
theorem dM_begin_10 : decode prog_7_method_13_code 10 = .ok (.iconst (-1), 1) := by decide +kernel
theorem dM_begin_11 : decode prog_7_method_13_code 11 = .ok (.goto (12), 3) := by decide +kernel
theorem dM_begin_14 : decode prog_7_method_13_code 14 = .ok (.aload_n 0, 1) := by decide +kernel
theorem dM_begin_15 : decode prog_7_method_13_code 15 = .ok (.iload_n 1, 1) := by decide +kernel
theorem dM_begin_16 : decode prog_7_method_13_code 16 = .ok (.aload_n 0, 1) := by decide +kernel
theorem dM_begin_17 : decode prog_7_method_13_code 17 = .ok (.getfield 75, 3) := by decide +kernel
theorem dM_begin_20 : decode prog_7_method_13_code 20 = .ok (.invokevirtual 78, 3) := by decide +kernel
theorem dM_begin_23 : decode prog_7_method_13_code 23 = .ok (.ireturn, 1) := by decide +kernel
abbrev yM_end : MethodName := ⟨"ArenaNetworkModel", "end", "(I)I"⟩
abbrev rmM_end : Room := { frames := 2, cells := 0, slots := 0, locals := 44 }
theorem ykM_end : yOk yM_end 1 := by decide +kernel
theorem dM_end_0 : decode prog_7_method_15_code 0 = .ok (.aload_n 0, 1) := by decide +kernel
theorem dM_end_1 : decode prog_7_method_15_code 1 = .ok (.getfield 19, 3) := by decide +kernel
theorem dM_end_4 : decode prog_7_method_15_code 4 = .ok (.iload_n 1, 1) := by decide +kernel
theorem dM_end_5 : decode prog_7_method_15_code 5 = .ok (.baload, 1) := by decide +kernel
theorem dM_end_6 : decode prog_7_method_15_code 6 = .ok (.ifCond .eq (8), 3) := by decide +kernel
theorem dM_end_9 : decode prog_7_method_15_code 9 = .ok (.aload_n 0, 1) := by decide +kernel
theorem dM_end_10 : decode prog_7_method_15_code 10 = .ok (.getfield 75, 3) := by decide +kernel
theorem dM_end_13 : decode prog_7_method_15_code 13 = .ok (.ireturn, 1) := by decide +kernel
theorem dM_end_14 : decode prog_7_method_15_code 14 = .ok (.aload_n 0, 1) := by decide +kernel
theorem dM_end_15 : decode prog_7_method_15_code 15 = .ok (.iload_n 1, 1) := by decide +kernel
theorem dM_end_16 : decode prog_7_method_15_code 16 = .ok (.invokevirtual 89, 3) := by decide +kernel
theorem dM_end_19 : decode prog_7_method_15_code 19 = .ok (.istore_n 2, 1) := by decide +kernel
theorem dM_end_20 : decode prog_7_method_15_code 20 = .ok (.iconst (0), 1) := by decide +kernel
theorem dM_end_21 : decode prog_7_method_15_code 21 = .ok (.istore_n 3, 1) := by decide +kernel
theorem dM_end_22 : decode prog_7_method_15_code 22 = .ok (.iload_n 3, 1) := by decide +kernel
theorem dM_end_23 : decode prog_7_method_15_code 23 = .ok (.aload_n 0, 1) := by decide +kernel
theorem dM_end_24 : decode prog_7_method_15_code 24 = .ok (.getfield 75, 3) := by decide +kernel
theorem dM_end_27 : decode prog_7_method_15_code 27 = .ok (.if_icmp .ge (31), 3) := by decide +kernel
theorem dM_end_30 : decode prog_7_method_15_code 30 = .ok (.aload_n 0, 1) := by decide +kernel
theorem dM_end_31 : decode prog_7_method_15_code 31 = .ok (.getfield 38, 3) := by decide +kernel
theorem dM_end_34 : decode prog_7_method_15_code 34 = .ok (.iload_n 3, 1) := by decide +kernel
theorem dM_end_35 : decode prog_7_method_15_code 35 = .ok (.iaload, 1) := by decide +kernel
theorem dM_end_36 : decode prog_7_method_15_code 36 = .ok (.iload_n 1, 1) := by decide +kernel
theorem dM_end_37 : decode prog_7_method_15_code 37 = .ok (.if_icmp .eq (13), 3) := by decide +kernel
theorem dM_end_40 : decode prog_7_method_15_code 40 = .ok (.aload_n 0, 1) := by decide +kernel
theorem dM_end_41 : decode prog_7_method_15_code 41 = .ok (.getfield 41, 3) := by decide +kernel
theorem dM_end_44 : decode prog_7_method_15_code 44 = .ok (.iload_n 3, 1) := by decide +kernel
theorem dM_end_45 : decode prog_7_method_15_code 45 = .ok (.iaload, 1) := by decide +kernel
theorem dM_end_46 : decode prog_7_method_15_code 46 = .ok (.iload_n 1, 1) := by decide +kernel
theorem dM_end_47 : decode prog_7_method_15_code 47 = .ok (.if_icmp .ne (5), 3) := by decide +kernel
theorem dM_end_50 : decode prog_7_method_15_code 50 = .ok (.iload_n 3, 1) := by decide +kernel
theorem dM_end_51 : decode prog_7_method_15_code 51 = .ok (.istore_n 2, 1) := by decide +kernel
theorem dM_end_52 : decode prog_7_method_15_code 52 = .ok (.iinc 3 (1), 3) := by decide +kernel
theorem dM_end_55 : decode prog_7_method_15_code 55 = .ok (.goto (-33), 3) := by decide +kernel
theorem dM_end_58 : decode prog_7_method_15_code 58 = .ok (.iload_n 2, 1) := by decide +kernel
theorem dM_end_59 : decode prog_7_method_15_code 59 = .ok (.ireturn, 1) := by decide +kernel
abbrev yM_reopen : MethodName := ⟨"ArenaNetworkModel", "reopen", "()I"⟩
abbrev rmM_reopen : Room := { frames := 0, cells := 0, slots := 0, locals := 0 }
theorem ykM_reopen : yOk yM_reopen 0 := by decide +kernel
theorem dM_reopen_0 : decode prog_7_method_20_code 0 = .ok (.aload_n 0, 1) := by decide +kernel
theorem dM_reopen_1 : decode prog_7_method_20_code 1 = .ok (.getfield 68, 3) := by decide +kernel
theorem dM_reopen_4 : decode prog_7_method_20_code 4 = .ok (.ifCond .ne (6), 3) := by decide +kernel
theorem dM_reopen_7 : decode prog_7_method_20_code 7 = .ok (.bipush (-3), 2) := by decide +kernel
theorem dM_reopen_9 : decode prog_7_method_20_code 9 = .ok (.ireturn, 1) := by decide +kernel
theorem dM_reopen_10 : decode prog_7_method_20_code 10 = .ok (.aload_n 0, 1) := by decide +kernel
theorem dM_reopen_11 : decode prog_7_method_20_code 11 = .ok (.iconst (0), 1) := by decide +kernel
theorem dM_reopen_12 : decode prog_7_method_20_code 12 = .ok (.putfield 68, 3) := by decide +kernel
theorem dM_reopen_15 : decode prog_7_method_20_code 15 = .ok (.aload_n 0, 1) := by decide +kernel
theorem dM_reopen_16 : decode prog_7_method_20_code 16 = .ok (.iconst (-1), 1) := by decide +kernel
theorem dM_reopen_17 : decode prog_7_method_20_code 17 = .ok (.putfield 56, 3) := by decide +kernel
theorem dM_reopen_20 : decode prog_7_method_20_code 20 = .ok (.iconst (0), 1) := by decide +kernel
theorem dM_reopen_21 : decode prog_7_method_20_code 21 = .ok (.ireturn, 1) := by decide +kernel
abbrev yM_start : MethodName := ⟨"ArenaNetworkModel", "start", "()I"⟩
abbrev rmM_start : Room := { frames := 0, cells := 0, slots := 0, locals := 0 }
theorem ykM_start : yOk yM_start 0 := by decide +kernel
theorem dM_start_0 : decode prog_7_method_21_code 0 = .ok (.aload_n 0, 1) := by decide +kernel
theorem dM_start_1 : decode prog_7_method_21_code 1 = .ok (.getfield 68, 3) := by decide +kernel
theorem dM_start_4 : decode prog_7_method_21_code 4 = .ok (.ifCond .ne (6), 3) := by decide +kernel
theorem dM_start_7 : decode prog_7_method_21_code 7 = .ok (.bipush (-3), 2) := by decide +kernel
theorem dM_start_9 : decode prog_7_method_21_code 9 = .ok (.ireturn, 1) := by decide +kernel
theorem dM_start_10 : decode prog_7_method_21_code 10 = .ok (.iconst (0), 1) := by decide +kernel
theorem dM_start_11 : decode prog_7_method_21_code 11 = .ok (.istore_n 1, 1) := by decide +kernel
theorem dM_start_12 : decode prog_7_method_21_code 12 = .ok (.iload_n 1, 1) := by decide +kernel
theorem dM_start_13 : decode prog_7_method_21_code 13 = .ok (.sipush (1280), 3) := by decide +kernel
theorem dM_start_16 : decode prog_7_method_21_code 16 = .ok (.if_icmp .ge (21), 3) := by decide +kernel
theorem dM_start_19 : decode prog_7_method_21_code 19 = .ok (.aload_n 0, 1) := by decide +kernel
theorem dM_start_20 : decode prog_7_method_21_code 20 = .ok (.getfield 26, 3) := by decide +kernel
theorem dM_start_23 : decode prog_7_method_21_code 23 = .ok (.iload_n 1, 1) := by decide +kernel
theorem dM_start_24 : decode prog_7_method_21_code 24 = .ok (.aload_n 0, 1) := by decide +kernel
theorem dM_start_25 : decode prog_7_method_21_code 25 = .ok (.getfield 23, 3) := by decide +kernel
theorem dM_start_28 : decode prog_7_method_21_code 28 = .ok (.iload_n 1, 1) := by decide +kernel
theorem dM_start_29 : decode prog_7_method_21_code 29 = .ok (.iaload, 1) := by decide +kernel
theorem dM_start_30 : decode prog_7_method_21_code 30 = .ok (.iastore, 1) := by decide +kernel
theorem dM_start_31 : decode prog_7_method_21_code 31 = .ok (.iinc 1 (1), 3) := by decide +kernel
theorem dM_start_34 : decode prog_7_method_21_code 34 = .ok (.goto (-22), 3) := by decide +kernel
theorem dM_start_37 : decode prog_7_method_21_code 37 = .ok (.aload_n 0, 1) := by decide +kernel
theorem dM_start_38 : decode prog_7_method_21_code 38 = .ok (.iconst (0), 1) := by decide +kernel
theorem dM_start_39 : decode prog_7_method_21_code 39 = .ok (.putfield 56, 3) := by decide +kernel
theorem dM_start_42 : decode prog_7_method_21_code 42 = .ok (.aload_n 0, 1) := by decide +kernel
theorem dM_start_43 : decode prog_7_method_21_code 43 = .ok (.getfield 75, 3) := by decide +kernel
theorem dM_start_46 : decode prog_7_method_21_code 46 = .ok (.ireturn, 1) := by decide +kernel
def fM_fits (b : Nat) (a1 : Int32) (w : cW) : Option (Int32 × cW) :=
  (gQ w (some b) 5 10).bind fun r1 =>
  (ldI w r1 .int a1).bind fun x2 =>
  (gQ w (some b) 5 11).bind fun r3 =>
  (ldI w r3 .int a1).bind fun x4 =>
  (gQ w (some b) 5 12).bind fun r5 =>
  (ldI w r5 .int a1).bind fun x6 =>
  (gQ w (some b) 5 13).bind fun r7 =>
  (ldI w r7 .int a1).bind fun x8 =>
  (gQ w (some b) 5 1).bind fun r9 =>
  (ldI w r9 .int x2).bind fun x10 =>
  (gQ w (some b) 5 1).bind fun r11 =>
  (ldI w r11 .int x4).bind fun x12 =>
  (gQ w (some b) 5 1).bind fun r13 =>
  (ldI w r13 .int x6).bind fun x14 =>
  (gQ w (some b) 5 9).bind fun r15 =>
  (ldI w r15 .int a1).bind fun x16 =>
  if x16 = 0 then (
    (gQ w (some b) 5 0).bind fun r47 =>
    (ldI w r47 .int x4).bind fun x48 =>
    if x48 = 0 then (
      if x12 = (x10 * x14) then (
        some ((1 : Int32), w)) else
      some ((0 : Int32), w)) else
    some ((0 : Int32), w)) else
  (gQ w (some b) 5 9).bind fun r17 =>
  (ldI w r17 .int a1).bind fun x18 =>
  if (3 : Int32) ≤ x18 then (
    (gQ w (some b) 5 9).bind fun r19 =>
    (ldI w r19 .int a1).bind fun x20 =>
    if (5 : Int32) ≤ x20 then (
      if x8 = 0 then (
        (gQ w (some b) 5 9).bind fun r21 =>
        (ldI w r21 .int a1).bind fun x22 =>
        if x22 = (5 : Int32) then (
          (gQ w (some b) 5 0).bind fun r37 =>
          (ldI w r37 .int x4).bind fun x38 =>
          if x38 = 0 then (
            if x12 = (16 : Int32) then (
              if x10 = x14 then (
                (gQ w (some b) 5 2).bind fun r39 =>
                (ldI w r39 .int x4).bind fun x40 =>
                (gQ w (some b) 5 2).bind fun r41 =>
                (ldI w r41 .int x6).bind fun x42 =>
                if x40 = x42 then (
                  some ((1 : Int32), w)) else
                some ((0 : Int32), w)) else
              some ((0 : Int32), w)) else
            some ((0 : Int32), w)) else
          some ((0 : Int32), w)) else
        (gQ w (some b) 5 9).bind fun r23 =>
        (ldI w r23 .int a1).bind fun x24 =>
        if x24 = (6 : Int32) then (
          if x14 = (x10 + x12) then (
            (gQ w (some b) 5 2).bind fun r29 =>
            (ldI w r29 .int x2).bind fun x30 =>
            (gQ w (some b) 5 2).bind fun r31 =>
            (ldI w r31 .int x4).bind fun x32 =>
            if x30 = x32 then (
              (gQ w (some b) 5 2).bind fun r33 =>
              (ldI w r33 .int x4).bind fun x34 =>
              (gQ w (some b) 5 2).bind fun r35 =>
              (ldI w r35 .int x6).bind fun x36 =>
              if x34 = x36 then (
                some ((1 : Int32), w)) else
              some ((0 : Int32), w)) else
            some ((0 : Int32), w)) else
          some ((0 : Int32), w)) else
        if x2 = x4 then (
          if x10 = x14 then (
            (gQ w (some b) 5 2).bind fun r25 =>
            (ldI w r25 .int x2).bind fun x26 =>
            (gQ w (some b) 5 2).bind fun r27 =>
            (ldI w r27 .int x6).bind fun x28 =>
            if x26 = x28 then (
              some ((1 : Int32), w)) else
            some ((0 : Int32), w)) else
          some ((0 : Int32), w)) else
        some ((0 : Int32), w)) else
      some ((0 : Int32), w)) else
    if x2 = x4 then (
      if x8 < (2 : Int32) then (
        some ((0 : Int32), w)) else
      if (4 : Int32) < x8 then (
        some ((0 : Int32), w)) else
      if x10 = (x14 * x8) then (
        (gQ w (some b) 5 2).bind fun r43 =>
        (ldI w r43 .int x2).bind fun x44 =>
        (gQ w (some b) 5 2).bind fun r45 =>
        (ldI w r45 .int x6).bind fun x46 =>
        if x44 = x46 then (
          some ((1 : Int32), w)) else
        some ((0 : Int32), w)) else
      some ((0 : Int32), w)) else
    some ((0 : Int32), w)) else
  if x10 = x12 then (
    if x12 = x14 then (
      some ((1 : Int32), w)) else
    some ((0 : Int32), w)) else
  some ((0 : Int32), w)
def fM_begin (b : Nat) (a1 : Int32) (w : cW) : Option (Int32 × cW) :=
  (gQ w (some b) 5 0).bind fun r1 =>
  (ldI w r1 .int a1).bind fun x2 =>
  if x2 = (1 : Int32) then (
    some ((-1 : Int32), w)) else
  (gI w (some b) 5 14).bind fun x3 =>
  (cRcv w (some b) 5).bind fun b6 => cbd (fM_maker b6 a1 x3 w) fun x4 w5 =>
  some (x4, w5)
def fM_end_b22 (b : Nat)  (rec22 : Int32 → Int32 → Int32 → cW → Option (Int32 × cW)) (a1 : Int32) (a2 : Int32) (a3 : Int32) (w : cW) : Option (Int32 × cW) :=
  (gI w (some b) 5 14).bind fun x1 =>
  if x1 ≤ a3 then (
    some (a2, w)) else
  (gQ w (some b) 5 10).bind fun r2 =>
  (ldI w r2 .int a3).bind fun x3 =>
  if x3 = a1 then (
    bnd (a3 + (1 : Int32)) fun x4 =>
    rec22 a1 a3 x4 w) else
  (gQ w (some b) 5 11).bind fun r5 =>
  (ldI w r5 .int a3).bind fun x6 =>
  if x6 = a1 then (
    bnd (a3 + (1 : Int32)) fun x8 =>
    rec22 a1 a3 x8 w) else
  bnd (a3 + (1 : Int32)) fun x7 =>
  rec22 a1 a2 x7 w
def fM_end_l22 (b : Nat)  (n : Nat) : Int32 → Int32 → Int32 → cW → Option (Int32 × cW) := lp (fun _ _ _ _ => none) (fM_end_b22 b ) n
def fM_end (b : Nat) (a1 : Int32) (w : cW) : Option (Int32 × cW) :=
  (gQ w (some b) 5 3).bind fun r1 =>
  (ldI w r1 .boolean a1).bind fun x2 =>
  if x2 = 0 then (
    (cRcv w (some b) 5).bind fun b5 => cbd (fM_begin b5 a1 w) fun x3 w4 =>
    fM_end_l22 b FU a1 x3 (0 : Int32) w4) else
  (gI w (some b) 5 14).bind fun x6 =>
  some (x6, w)
def fM_reopen (b : Nat)  (w : cW) : Option (Int32 × cW) :=
  (gI w (some b) 5 15).bind fun x1 =>
  if x1 = 0 then (
    some ((-3 : Int32), w)) else
  (pZ w (some b) 5 15 (0 : Int32)).bind fun w2 =>
  (pI w2 (some b) 5 18 (-1 : Int32)).bind fun w3 =>
  some ((0 : Int32), w3)
def fM_start_b37 (b : Nat)   (w : cW) : Option (Int32 × cW) :=
  (pI w (some b) 5 18 (0 : Int32)).bind fun w1 =>
  (gI w1 (some b) 5 14).bind fun x2 =>
  some (x2, w1)
def fM_start_b12 (b : Nat)  (rec12 : Int32 → cW → Option (Int32 × cW)) (a1 : Int32) (w : cW) : Option (Int32 × cW) :=
  if (1280 : Int32) ≤ a1 then (
    fM_start_b37 b w) else
  (gQ w (some b) 5 5).bind fun r1 =>
  (gQ w (some b) 5 4).bind fun r2 =>
  (ldI w r2 .int a1).bind fun x3 =>
  (stI w r1 .int a1 x3).bind fun w4 =>
  bnd (a1 + (1 : Int32)) fun x5 =>
  rec12 x5 w4
def fM_start_l12 (b : Nat)  (n : Nat) : Int32 → cW → Option (Int32 × cW) := lp (fun _ _ => none) (fM_start_b12 b ) n
def fM_start (b : Nat)  (w : cW) : Option (Int32 × cW) :=
  (gI w (some b) 5 15).bind fun x1 =>
  if x1 = 0 then (
    some ((-3 : Int32), w)) else
  fM_start_l12 b FU (0 : Int32) w
set_option maxHeartbeats 4000000 in
set_option maxRecDepth 100000 in
theorem tM_fits {C : xC} {G : cG} {w0 w' : cW} {r : Int32} {b : Nat} (hC : okC C prog_7_method_10_code 9 "ArenaNetworkModel" lw_gd) (hE : xE C (some .boolean) mkI G w0 w' r) (hR : xR C = rmM_fits) (a1 : Int32) (w : cW) (hf : fM_fits b a1 w = some (r, w')) : V C w 0 0 0 [(0, va_rf (some b)), (1, .int a1)] [] := by
  unfold fM_fits at hf
  refine v_aload_n (pc := 0) (i := 0) (r := (some b)) hC dM_fits_0 rfl 0 rfl ?_
  refine v_getQ (pc := 1) (r := (some b)) hC dM_fits_1 inM rfl 10 (by decide) q485 (Or.inl rfl) hf (fun r1 hf => ?_)
  refine v_iload_n (pc := 4) (i := 1) (x := a1) hC dM_fits_4 rfl 1 rfl ?_
  refine v_iald (pc := 5) hC dM_fits_5 hf (fun x2 hf => ?_)
  refine v_istore_n (pc := 6) (i := 2) (x := x2) hC dM_fits_6 rfl (by decide) [(2, .int x2), (0, va_rf (some b)), (1, .int a1)] rfl ?_
  refine v_aload_n (pc := 7) (i := 0) (r := (some b)) hC dM_fits_7 rfl 1 rfl ?_
  refine v_getQ (pc := 8) (r := (some b)) hC dM_fits_8 inM rfl 11 (by decide) q486 (Or.inl rfl) hf (fun r3 hf => ?_)
  refine v_iload_n (pc := 11) (i := 1) (x := a1) hC dM_fits_11 rfl 2 rfl ?_
  refine v_iald (pc := 12) hC dM_fits_12 hf (fun x4 hf => ?_)
  refine v_istore_n (pc := 13) (i := 3) (x := x4) hC dM_fits_13 rfl (by decide) [(3, .int x4), (2, .int x2), (0, va_rf (some b)), (1, .int a1)] rfl ?_
  refine v_aload_n (pc := 14) (i := 0) (r := (some b)) hC dM_fits_14 rfl 2 rfl ?_
  refine v_getQ (pc := 15) (r := (some b)) hC dM_fits_15 inM rfl 12 (by decide) q487 (Or.inl rfl) hf (fun r5 hf => ?_)
  refine v_iload_n (pc := 18) (i := 1) (x := a1) hC dM_fits_18 rfl 3 rfl ?_
  refine v_iald (pc := 19) hC dM_fits_19 hf (fun x6 hf => ?_)
  refine v_istore (pc := 20) (i := 4) (x := x6) hC dM_fits_20 (by decide) [(4, .int x6), (3, .int x4), (2, .int x2), (0, va_rf (some b)), (1, .int a1)] rfl ?_
  refine v_aload_n (pc := 22) (i := 0) (r := (some b)) hC dM_fits_22 rfl 3 rfl ?_
  refine v_getQ (pc := 23) (r := (some b)) hC dM_fits_23 inM rfl 13 (by decide) q488 (Or.inl rfl) hf (fun r7 hf => ?_)
  refine v_iload_n (pc := 26) (i := 1) (x := a1) hC dM_fits_26 rfl 4 rfl ?_
  refine v_iald (pc := 27) hC dM_fits_27 hf (fun x8 hf => ?_)
  refine v_istore (pc := 28) (i := 5) (x := x8) hC dM_fits_28 (by decide) [(5, .int x8), (4, .int x6), (3, .int x4), (2, .int x2), (0, va_rf (some b)), (1, .int a1)] rfl ?_
  refine v_aload_n (pc := 30) (i := 0) (r := (some b)) hC dM_fits_30 rfl 4 rfl ?_
  refine v_getQ (pc := 31) (r := (some b)) hC dM_fits_31 inM rfl 1 (by decide) q476 (Or.inl rfl) hf (fun r9 hf => ?_)
  refine v_iload_n (pc := 34) (i := 2) (x := x2) hC dM_fits_34 rfl 3 rfl ?_
  refine v_iald (pc := 35) hC dM_fits_35 hf (fun x10 hf => ?_)
  refine v_istore (pc := 36) (i := 6) (x := x10) hC dM_fits_36 (by decide) [(6, .int x10), (5, .int x8), (4, .int x6), (3, .int x4), (2, .int x2), (0, va_rf (some b)), (1, .int a1)] rfl ?_
  refine v_aload_n (pc := 38) (i := 0) (r := (some b)) hC dM_fits_38 rfl 5 rfl ?_
  refine v_getQ (pc := 39) (r := (some b)) hC dM_fits_39 inM rfl 1 (by decide) q476 (Or.inl rfl) hf (fun r11 hf => ?_)
  refine v_iload_n (pc := 42) (i := 3) (x := x4) hC dM_fits_42 rfl 3 rfl ?_
  refine v_iald (pc := 43) hC dM_fits_43 hf (fun x12 hf => ?_)
  refine v_istore (pc := 44) (i := 7) (x := x12) hC dM_fits_44 (by decide) [(7, .int x12), (6, .int x10), (5, .int x8), (4, .int x6), (3, .int x4), (2, .int x2), (0, va_rf (some b)), (1, .int a1)] rfl ?_
  refine v_aload_n (pc := 46) (i := 0) (r := (some b)) hC dM_fits_46 rfl 6 rfl ?_
  refine v_getQ (pc := 47) (r := (some b)) hC dM_fits_47 inM rfl 1 (by decide) q476 (Or.inl rfl) hf (fun r13 hf => ?_)
  refine v_iload (pc := 50) (i := 4) (x := x6) hC dM_fits_50 3 rfl ?_
  refine v_iald (pc := 52) hC dM_fits_52 hf (fun x14 hf => ?_)
  refine v_istore (pc := 53) (i := 8) (x := x14) hC dM_fits_53 (by decide) [(8, .int x14), (7, .int x12), (6, .int x10), (5, .int x8), (4, .int x6), (3, .int x4), (2, .int x2), (0, va_rf (some b)), (1, .int a1)] rfl ?_
  refine v_aload_n (pc := 55) (i := 0) (r := (some b)) hC dM_fits_55 rfl 7 rfl ?_
  refine v_getQ (pc := 56) (r := (some b)) hC dM_fits_56 inM rfl 9 (by decide) q484 (Or.inl rfl) hf (fun r15 hf => ?_)
  refine v_iload_n (pc := 59) (i := 1) (x := a1) hC dM_fits_59 rfl 8 rfl ?_
  refine v_iald (pc := 60) hC dM_fits_60 hf (fun x16 hf => ?_)
  refine v_if_ne (pc := 61) (tgt := 89) hC dM_fits_61 (by decide) hf (fun hf => ?_) (fun hf => ?_)
  · refine v_aload_n (pc := 89) (i := 0) (r := (some b)) hC dM_fits_89 rfl 7 rfl ?_
    refine v_getQ (pc := 90) (r := (some b)) hC dM_fits_90 inM rfl 9 (by decide) q484 (Or.inl rfl) hf (fun r17 hf => ?_)
    refine v_iload_n (pc := 93) (i := 1) (x := a1) hC dM_fits_93 rfl 8 rfl ?_
    refine v_iald (pc := 94) hC dM_fits_94 hf (fun x18 hf => ?_)
    refine v_iconst (pc := 95) (v := (3 : Int32)) hC dM_fits_95 (by decide) ?_
    refine v_icmp_ge (pc := 96) (tgt := 119) hC dM_fits_96 (by decide) hf (fun hf => ?_) (fun hf => ?_)
    · refine v_aload_n (pc := 119) (i := 0) (r := (some b)) hC dM_fits_119 rfl 7 rfl ?_
      refine v_getQ (pc := 120) (r := (some b)) hC dM_fits_120 inM rfl 9 (by decide) q484 (Or.inl rfl) hf (fun r19 hf => ?_)
      refine v_iload_n (pc := 123) (i := 1) (x := a1) hC dM_fits_123 rfl 8 rfl ?_
      refine v_iald (pc := 124) hC dM_fits_124 hf (fun x20 hf => ?_)
      refine v_iconst (pc := 125) (v := (5 : Int32)) hC dM_fits_125 (by decide) ?_
      refine v_icmp_ge (pc := 126) (tgt := 178) hC dM_fits_126 (by decide) hf (fun hf => ?_) (fun hf => ?_)
      · refine v_iload (pc := 178) (i := 5) (x := x8) hC dM_fits_178 3 rfl ?_
        refine v_if_eq (pc := 180) (tgt := 185) hC dM_fits_180 (by decide) hf (fun hf => ?_) (fun hf => ?_)
        · refine v_aload_n (pc := 185) (i := 0) (r := (some b)) hC dM_fits_185 rfl 7 rfl ?_
          refine v_getQ (pc := 186) (r := (some b)) hC dM_fits_186 inM rfl 9 (by decide) q484 (Or.inl rfl) hf (fun r21 hf => ?_)
          refine v_iload_n (pc := 189) (i := 1) (x := a1) hC dM_fits_189 rfl 8 rfl ?_
          refine v_iald (pc := 190) hC dM_fits_190 hf (fun x22 hf => ?_)
          refine v_iconst (pc := 191) (v := (5 : Int32)) hC dM_fits_191 (by decide) ?_
          refine v_icmp_ne (pc := 192) (tgt := 240) hC dM_fits_192 (by decide) hf (fun hf => ?_) (fun hf => ?_)
          · refine v_aload_n (pc := 240) (i := 0) (r := (some b)) hC dM_fits_240 rfl 7 rfl ?_
            refine v_getQ (pc := 241) (r := (some b)) hC dM_fits_241 inM rfl 9 (by decide) q484 (Or.inl rfl) hf (fun r23 hf => ?_)
            refine v_iload_n (pc := 244) (i := 1) (x := a1) hC dM_fits_244 rfl 8 rfl ?_
            refine v_iald (pc := 245) hC dM_fits_245 hf (fun x24 hf => ?_)
            refine v_bipush (pc := 246) (v := (6 : Int32)) hC dM_fits_246 (by decide) ?_
            refine v_icmp_ne (pc := 248) (tgt := 298) hC dM_fits_248 (by decide) hf (fun hf => ?_) (fun hf => ?_)
            · refine v_iload_n (pc := 298) (i := 2) (x := x2) hC dM_fits_298 rfl 6 rfl ?_
              refine v_iload_n (pc := 299) (i := 3) (x := x4) hC dM_fits_299 rfl 5 rfl ?_
              refine v_icmp_ne (pc := 300) (tgt := 330) hC dM_fits_300 (by decide) hf (fun hf => ?_) (fun hf => ?_)
              · refine v_iconst (pc := 330) (v := (0 : Int32)) hC dM_fits_330 (by decide) ?_
                exact v_zret (pc := 331) hC hE dM_fits_331 (by rw [hR]; decide) (by rw [hR]; decide) (by rw [if_pos (by decide)]; exact hf)
              · refine v_iload (pc := 303) (i := 6) (x := x10) hC dM_fits_303 2 rfl ?_
                refine v_iload (pc := 305) (i := 8) (x := x14) hC dM_fits_305 0 rfl ?_
                refine v_icmp_ne (pc := 307) (tgt := 330) hC dM_fits_307 (by decide) hf (fun hf => ?_) (fun hf => ?_)
                · refine v_iconst (pc := 330) (v := (0 : Int32)) hC dM_fits_330 (by decide) ?_
                  exact v_zret (pc := 331) hC hE dM_fits_331 (by rw [hR]; decide) (by rw [hR]; decide) (by rw [if_pos (by decide)]; exact hf)
                · refine v_aload_n (pc := 310) (i := 0) (r := (some b)) hC dM_fits_310 rfl 7 rfl ?_
                  refine v_getQ (pc := 311) (r := (some b)) hC dM_fits_311 inM rfl 2 (by decide) q477 (Or.inl rfl) hf (fun r25 hf => ?_)
                  refine v_iload_n (pc := 314) (i := 2) (x := x2) hC dM_fits_314 rfl 6 rfl ?_
                  refine v_iald (pc := 315) hC dM_fits_315 hf (fun x26 hf => ?_)
                  refine v_aload_n (pc := 316) (i := 0) (r := (some b)) hC dM_fits_316 rfl 7 rfl ?_
                  refine v_getQ (pc := 317) (r := (some b)) hC dM_fits_317 inM rfl 2 (by decide) q477 (Or.inl rfl) hf (fun r27 hf => ?_)
                  refine v_iload (pc := 320) (i := 4) (x := x6) hC dM_fits_320 4 rfl ?_
                  refine v_iald (pc := 322) hC dM_fits_322 hf (fun x28 hf => ?_)
                  refine v_icmp_ne (pc := 323) (tgt := 330) hC dM_fits_323 (by decide) hf (fun hf => ?_) (fun hf => ?_)
                  · refine v_iconst (pc := 330) (v := (0 : Int32)) hC dM_fits_330 (by decide) ?_
                    exact v_zret (pc := 331) hC hE dM_fits_331 (by rw [hR]; decide) (by rw [hR]; decide) (by rw [if_pos (by decide)]; exact hf)
                  · refine v_iconst (pc := 326) (v := (1 : Int32)) hC dM_fits_326 (by decide) ?_
                    refine v_goto (pc := 327) (tgt := 331) hC dM_fits_327 (by decide) ?_
                    exact v_zret (pc := 331) hC hE dM_fits_331 (by rw [hR]; decide) (by rw [hR]; decide) (by rw [if_pos (by decide)]; exact hf)
            · refine v_iload (pc := 251) (i := 8) (x := x14) hC dM_fits_251 0 rfl ?_
              refine v_iload (pc := 253) (i := 6) (x := x10) hC dM_fits_253 2 rfl ?_
              refine v_iload (pc := 255) (i := 7) (x := x12) hC dM_fits_255 1 rfl ?_
              refine v_iadd (pc := 257) hC dM_fits_257 ?_
              refine v_icmp_ne (pc := 258) (tgt := 296) hC dM_fits_258 (by decide) hf (fun hf => ?_) (fun hf => ?_)
              · refine v_iconst (pc := 296) (v := (0 : Int32)) hC dM_fits_296 (by decide) ?_
                exact v_zret (pc := 297) hC hE dM_fits_297 (by rw [hR]; decide) (by rw [hR]; decide) (by rw [if_pos (by decide)]; exact hf)
              · refine v_aload_n (pc := 261) (i := 0) (r := (some b)) hC dM_fits_261 rfl 7 rfl ?_
                refine v_getQ (pc := 262) (r := (some b)) hC dM_fits_262 inM rfl 2 (by decide) q477 (Or.inl rfl) hf (fun r29 hf => ?_)
                refine v_iload_n (pc := 265) (i := 2) (x := x2) hC dM_fits_265 rfl 6 rfl ?_
                refine v_iald (pc := 266) hC dM_fits_266 hf (fun x30 hf => ?_)
                refine v_aload_n (pc := 267) (i := 0) (r := (some b)) hC dM_fits_267 rfl 7 rfl ?_
                refine v_getQ (pc := 268) (r := (some b)) hC dM_fits_268 inM rfl 2 (by decide) q477 (Or.inl rfl) hf (fun r31 hf => ?_)
                refine v_iload_n (pc := 271) (i := 3) (x := x4) hC dM_fits_271 rfl 5 rfl ?_
                refine v_iald (pc := 272) hC dM_fits_272 hf (fun x32 hf => ?_)
                refine v_icmp_ne (pc := 273) (tgt := 296) hC dM_fits_273 (by decide) hf (fun hf => ?_) (fun hf => ?_)
                · refine v_iconst (pc := 296) (v := (0 : Int32)) hC dM_fits_296 (by decide) ?_
                  exact v_zret (pc := 297) hC hE dM_fits_297 (by rw [hR]; decide) (by rw [hR]; decide) (by rw [if_pos (by decide)]; exact hf)
                · refine v_aload_n (pc := 276) (i := 0) (r := (some b)) hC dM_fits_276 rfl 7 rfl ?_
                  refine v_getQ (pc := 277) (r := (some b)) hC dM_fits_277 inM rfl 2 (by decide) q477 (Or.inl rfl) hf (fun r33 hf => ?_)
                  refine v_iload_n (pc := 280) (i := 3) (x := x4) hC dM_fits_280 rfl 5 rfl ?_
                  refine v_iald (pc := 281) hC dM_fits_281 hf (fun x34 hf => ?_)
                  refine v_aload_n (pc := 282) (i := 0) (r := (some b)) hC dM_fits_282 rfl 7 rfl ?_
                  refine v_getQ (pc := 283) (r := (some b)) hC dM_fits_283 inM rfl 2 (by decide) q477 (Or.inl rfl) hf (fun r35 hf => ?_)
                  refine v_iload (pc := 286) (i := 4) (x := x6) hC dM_fits_286 4 rfl ?_
                  refine v_iald (pc := 288) hC dM_fits_288 hf (fun x36 hf => ?_)
                  refine v_icmp_ne (pc := 289) (tgt := 296) hC dM_fits_289 (by decide) hf (fun hf => ?_) (fun hf => ?_)
                  · refine v_iconst (pc := 296) (v := (0 : Int32)) hC dM_fits_296 (by decide) ?_
                    exact v_zret (pc := 297) hC hE dM_fits_297 (by rw [hR]; decide) (by rw [hR]; decide) (by rw [if_pos (by decide)]; exact hf)
                  · refine v_iconst (pc := 292) (v := (1 : Int32)) hC dM_fits_292 (by decide) ?_
                    refine v_goto (pc := 293) (tgt := 297) hC dM_fits_293 (by decide) ?_
                    exact v_zret (pc := 297) hC hE dM_fits_297 (by rw [hR]; decide) (by rw [hR]; decide) (by rw [if_pos (by decide)]; exact hf)
          · refine v_aload_n (pc := 195) (i := 0) (r := (some b)) hC dM_fits_195 rfl 7 rfl ?_
            refine v_getQ (pc := 196) (r := (some b)) hC dM_fits_196 inM rfl 0 (by decide) q475 (Or.inl rfl) hf (fun r37 hf => ?_)
            refine v_iload_n (pc := 199) (i := 3) (x := x4) hC dM_fits_199 rfl 5 rfl ?_
            refine v_iald (pc := 200) hC dM_fits_200 hf (fun x38 hf => ?_)
            refine v_if_ne (pc := 201) (tgt := 238) hC dM_fits_201 (by decide) hf (fun hf => ?_) (fun hf => ?_)
            · refine v_iconst (pc := 238) (v := (0 : Int32)) hC dM_fits_238 (by decide) ?_
              exact v_zret (pc := 239) hC hE dM_fits_239 (by rw [hR]; decide) (by rw [hR]; decide) (by rw [if_pos (by decide)]; exact hf)
            · refine v_iload (pc := 204) (i := 7) (x := x12) hC dM_fits_204 1 rfl ?_
              refine v_bipush (pc := 206) (v := (16 : Int32)) hC dM_fits_206 (by decide) ?_
              refine v_icmp_ne (pc := 208) (tgt := 238) hC dM_fits_208 (by decide) hf (fun hf => ?_) (fun hf => ?_)
              · refine v_iconst (pc := 238) (v := (0 : Int32)) hC dM_fits_238 (by decide) ?_
                exact v_zret (pc := 239) hC hE dM_fits_239 (by rw [hR]; decide) (by rw [hR]; decide) (by rw [if_pos (by decide)]; exact hf)
              · refine v_iload (pc := 211) (i := 6) (x := x10) hC dM_fits_211 2 rfl ?_
                refine v_iload (pc := 213) (i := 8) (x := x14) hC dM_fits_213 0 rfl ?_
                refine v_icmp_ne (pc := 215) (tgt := 238) hC dM_fits_215 (by decide) hf (fun hf => ?_) (fun hf => ?_)
                · refine v_iconst (pc := 238) (v := (0 : Int32)) hC dM_fits_238 (by decide) ?_
                  exact v_zret (pc := 239) hC hE dM_fits_239 (by rw [hR]; decide) (by rw [hR]; decide) (by rw [if_pos (by decide)]; exact hf)
                · refine v_aload_n (pc := 218) (i := 0) (r := (some b)) hC dM_fits_218 rfl 7 rfl ?_
                  refine v_getQ (pc := 219) (r := (some b)) hC dM_fits_219 inM rfl 2 (by decide) q477 (Or.inl rfl) hf (fun r39 hf => ?_)
                  refine v_iload_n (pc := 222) (i := 3) (x := x4) hC dM_fits_222 rfl 5 rfl ?_
                  refine v_iald (pc := 223) hC dM_fits_223 hf (fun x40 hf => ?_)
                  refine v_aload_n (pc := 224) (i := 0) (r := (some b)) hC dM_fits_224 rfl 7 rfl ?_
                  refine v_getQ (pc := 225) (r := (some b)) hC dM_fits_225 inM rfl 2 (by decide) q477 (Or.inl rfl) hf (fun r41 hf => ?_)
                  refine v_iload (pc := 228) (i := 4) (x := x6) hC dM_fits_228 4 rfl ?_
                  refine v_iald (pc := 230) hC dM_fits_230 hf (fun x42 hf => ?_)
                  refine v_icmp_ne (pc := 231) (tgt := 238) hC dM_fits_231 (by decide) hf (fun hf => ?_) (fun hf => ?_)
                  · refine v_iconst (pc := 238) (v := (0 : Int32)) hC dM_fits_238 (by decide) ?_
                    exact v_zret (pc := 239) hC hE dM_fits_239 (by rw [hR]; decide) (by rw [hR]; decide) (by rw [if_pos (by decide)]; exact hf)
                  · refine v_iconst (pc := 234) (v := (1 : Int32)) hC dM_fits_234 (by decide) ?_
                    refine v_goto (pc := 235) (tgt := 239) hC dM_fits_235 (by decide) ?_
                    exact v_zret (pc := 239) hC hE dM_fits_239 (by rw [hR]; decide) (by rw [hR]; decide) (by rw [if_pos (by decide)]; exact hf)
        · refine v_iconst (pc := 183) (v := (0 : Int32)) hC dM_fits_183 (by decide) ?_
          exact v_zret (pc := 184) hC hE dM_fits_184 (by rw [hR]; decide) (by rw [hR]; decide) (by rw [if_pos (by decide)]; exact hf)
      · refine v_iload_n (pc := 129) (i := 2) (x := x2) hC dM_fits_129 rfl 6 rfl ?_
        refine v_iload_n (pc := 130) (i := 3) (x := x4) hC dM_fits_130 rfl 5 rfl ?_
        refine v_icmp_ne (pc := 131) (tgt := 176) hC dM_fits_131 (by decide) hf (fun hf => ?_) (fun hf => ?_)
        · refine v_iconst (pc := 176) (v := (0 : Int32)) hC dM_fits_176 (by decide) ?_
          exact v_zret (pc := 177) hC hE dM_fits_177 (by rw [hR]; decide) (by rw [hR]; decide) (by rw [if_pos (by decide)]; exact hf)
        · refine v_iload (pc := 134) (i := 5) (x := x8) hC dM_fits_134 3 rfl ?_
          refine v_iconst (pc := 136) (v := (2 : Int32)) hC dM_fits_136 (by decide) ?_
          refine v_icmp_lt (pc := 137) (tgt := 176) hC dM_fits_137 (by decide) hf (fun hf => ?_) (fun hf => ?_)
          · refine v_iconst (pc := 176) (v := (0 : Int32)) hC dM_fits_176 (by decide) ?_
            exact v_zret (pc := 177) hC hE dM_fits_177 (by rw [hR]; decide) (by rw [hR]; decide) (by rw [if_pos (by decide)]; exact hf)
          · refine v_iload (pc := 140) (i := 5) (x := x8) hC dM_fits_140 3 rfl ?_
            refine v_iconst (pc := 142) (v := (4 : Int32)) hC dM_fits_142 (by decide) ?_
            refine v_icmp_gt (pc := 143) (tgt := 176) hC dM_fits_143 (by decide) hf (fun hf => ?_) (fun hf => ?_)
            · refine v_iconst (pc := 176) (v := (0 : Int32)) hC dM_fits_176 (by decide) ?_
              exact v_zret (pc := 177) hC hE dM_fits_177 (by rw [hR]; decide) (by rw [hR]; decide) (by rw [if_pos (by decide)]; exact hf)
            · refine v_iload (pc := 146) (i := 6) (x := x10) hC dM_fits_146 2 rfl ?_
              refine v_iload (pc := 148) (i := 8) (x := x14) hC dM_fits_148 0 rfl ?_
              refine v_iload (pc := 150) (i := 5) (x := x8) hC dM_fits_150 3 rfl ?_
              refine v_imul (pc := 152) hC dM_fits_152 ?_
              refine v_icmp_ne (pc := 153) (tgt := 176) hC dM_fits_153 (by decide) hf (fun hf => ?_) (fun hf => ?_)
              · refine v_iconst (pc := 176) (v := (0 : Int32)) hC dM_fits_176 (by decide) ?_
                exact v_zret (pc := 177) hC hE dM_fits_177 (by rw [hR]; decide) (by rw [hR]; decide) (by rw [if_pos (by decide)]; exact hf)
              · refine v_aload_n (pc := 156) (i := 0) (r := (some b)) hC dM_fits_156 rfl 7 rfl ?_
                refine v_getQ (pc := 157) (r := (some b)) hC dM_fits_157 inM rfl 2 (by decide) q477 (Or.inl rfl) hf (fun r43 hf => ?_)
                refine v_iload_n (pc := 160) (i := 2) (x := x2) hC dM_fits_160 rfl 6 rfl ?_
                refine v_iald (pc := 161) hC dM_fits_161 hf (fun x44 hf => ?_)
                refine v_aload_n (pc := 162) (i := 0) (r := (some b)) hC dM_fits_162 rfl 7 rfl ?_
                refine v_getQ (pc := 163) (r := (some b)) hC dM_fits_163 inM rfl 2 (by decide) q477 (Or.inl rfl) hf (fun r45 hf => ?_)
                refine v_iload (pc := 166) (i := 4) (x := x6) hC dM_fits_166 4 rfl ?_
                refine v_iald (pc := 168) hC dM_fits_168 hf (fun x46 hf => ?_)
                refine v_icmp_ne (pc := 169) (tgt := 176) hC dM_fits_169 (by decide) hf (fun hf => ?_) (fun hf => ?_)
                · refine v_iconst (pc := 176) (v := (0 : Int32)) hC dM_fits_176 (by decide) ?_
                  exact v_zret (pc := 177) hC hE dM_fits_177 (by rw [hR]; decide) (by rw [hR]; decide) (by rw [if_pos (by decide)]; exact hf)
                · refine v_iconst (pc := 172) (v := (1 : Int32)) hC dM_fits_172 (by decide) ?_
                  refine v_goto (pc := 173) (tgt := 177) hC dM_fits_173 (by decide) ?_
                  exact v_zret (pc := 177) hC hE dM_fits_177 (by rw [hR]; decide) (by rw [hR]; decide) (by rw [if_pos (by decide)]; exact hf)
    · refine v_iload (pc := 99) (i := 6) (x := x10) hC dM_fits_99 2 rfl ?_
      refine v_iload (pc := 101) (i := 7) (x := x12) hC dM_fits_101 1 rfl ?_
      refine v_icmp_ne (pc := 103) (tgt := 117) hC dM_fits_103 (by decide) hf (fun hf => ?_) (fun hf => ?_)
      · refine v_iconst (pc := 117) (v := (0 : Int32)) hC dM_fits_117 (by decide) ?_
        exact v_zret (pc := 118) hC hE dM_fits_118 (by rw [hR]; decide) (by rw [hR]; decide) (by rw [if_pos (by decide)]; exact hf)
      · refine v_iload (pc := 106) (i := 7) (x := x12) hC dM_fits_106 1 rfl ?_
        refine v_iload (pc := 108) (i := 8) (x := x14) hC dM_fits_108 0 rfl ?_
        refine v_icmp_ne (pc := 110) (tgt := 117) hC dM_fits_110 (by decide) hf (fun hf => ?_) (fun hf => ?_)
        · refine v_iconst (pc := 117) (v := (0 : Int32)) hC dM_fits_117 (by decide) ?_
          exact v_zret (pc := 118) hC hE dM_fits_118 (by rw [hR]; decide) (by rw [hR]; decide) (by rw [if_pos (by decide)]; exact hf)
        · refine v_iconst (pc := 113) (v := (1 : Int32)) hC dM_fits_113 (by decide) ?_
          refine v_goto (pc := 114) (tgt := 118) hC dM_fits_114 (by decide) ?_
          exact v_zret (pc := 118) hC hE dM_fits_118 (by rw [hR]; decide) (by rw [hR]; decide) (by rw [if_pos (by decide)]; exact hf)
  · refine v_aload_n (pc := 64) (i := 0) (r := (some b)) hC dM_fits_64 rfl 7 rfl ?_
    refine v_getQ (pc := 65) (r := (some b)) hC dM_fits_65 inM rfl 0 (by decide) q475 (Or.inl rfl) hf (fun r47 hf => ?_)
    refine v_iload_n (pc := 68) (i := 3) (x := x4) hC dM_fits_68 rfl 5 rfl ?_
    refine v_iald (pc := 69) hC dM_fits_69 hf (fun x48 hf => ?_)
    refine v_if_ne (pc := 70) (tgt := 87) hC dM_fits_70 (by decide) hf (fun hf => ?_) (fun hf => ?_)
    · refine v_iconst (pc := 87) (v := (0 : Int32)) hC dM_fits_87 (by decide) ?_
      exact v_zret (pc := 88) hC hE dM_fits_88 (by rw [hR]; decide) (by rw [hR]; decide) (by rw [if_pos (by decide)]; exact hf)
    · refine v_iload (pc := 73) (i := 7) (x := x12) hC dM_fits_73 1 rfl ?_
      refine v_iload (pc := 75) (i := 6) (x := x10) hC dM_fits_75 2 rfl ?_
      refine v_iload (pc := 77) (i := 8) (x := x14) hC dM_fits_77 0 rfl ?_
      refine v_imul (pc := 79) hC dM_fits_79 ?_
      refine v_icmp_ne (pc := 80) (tgt := 87) hC dM_fits_80 (by decide) hf (fun hf => ?_) (fun hf => ?_)
      · refine v_iconst (pc := 87) (v := (0 : Int32)) hC dM_fits_87 (by decide) ?_
        exact v_zret (pc := 88) hC hE dM_fits_88 (by rw [hR]; decide) (by rw [hR]; decide) (by rw [if_pos (by decide)]; exact hf)
      · refine v_iconst (pc := 83) (v := (1 : Int32)) hC dM_fits_83 (by decide) ?_
        refine v_goto (pc := 84) (tgt := 88) hC dM_fits_84 (by decide) ?_
        exact v_zret (pc := 88) hC hE dM_fits_88 (by rw [hR]; decide) (by rw [hR]; decide) (by rw [if_pos (by decide)]; exact hf)
theorem mM_fits (l : Launch) (G : cG) (b : Nat) (a1 : Int32) (w : cW) (r : Int32) (w' : cW) (hf : fM_fits b a1 w = some (r, w')) : Met l yM_fits (wsM yM_fits prog_7_method_10_code 9 (some .boolean)) rmM_fits (mP G w [va_rf (some b), .int a1]) (mQ mkI G w w' r) (rmM_fits).cells (rmM_fits).slots (Aw w) :=
  met_of (by decide +kernel) rfl (Nat.le_of_ble_eq_true rfl) (fun C hC hR _ _ _ hts hE => tM_fits (okC.tbl hC) hE hR a1 w hf)
set_option maxHeartbeats 4000000 in
set_option maxRecDepth 100000 in
theorem tM_begin {C : xC} {G : cG} {w0 w' : cW} {r : Int32} {b : Nat} (hC : okC C prog_7_method_13_code 2 "ArenaNetworkModel" lw_gd) (hE : xE C (some .int) mkI G w0 w' r) (hR : xR C = rmM_begin) (a1 : Int32) (w : cW) (hf : fM_begin b a1 w = some (r, w')) : V C w 0 0 0 [(0, va_rf (some b)), (1, .int a1)] [] := by
  unfold fM_begin at hf
  refine v_aload_n (pc := 0) (i := 0) (r := (some b)) hC dM_begin_0 rfl 0 rfl ?_
  refine v_getQ (pc := 1) (r := (some b)) hC dM_begin_1 inM rfl 0 (by decide) q475 (Or.inl rfl) hf (fun r1 hf => ?_)
  refine v_iload_n (pc := 4) (i := 1) (x := a1) hC dM_begin_4 rfl 1 rfl ?_
  refine v_iald (pc := 5) hC dM_begin_5 hf (fun x2 hf => ?_)
  refine v_iconst (pc := 6) (v := (1 : Int32)) hC dM_begin_6 (by decide) ?_
  refine v_icmp_ne (pc := 7) (tgt := 14) hC dM_begin_7 (by decide) hf (fun hf => ?_) (fun hf => ?_)
  · refine v_aload_n (pc := 14) (i := 0) (r := (some b)) hC dM_begin_14 rfl 0 rfl ?_
    refine v_iload_n (pc := 15) (i := 1) (x := a1) hC dM_begin_15 rfl 1 rfl ?_
    refine v_aload_n (pc := 16) (i := 0) (r := (some b)) hC dM_begin_16 rfl 0 rfl ?_
    refine v_getI (pc := 17) (r := (some b)) hC dM_begin_17 inM rfl 14 (by decide) q489 (Or.inl rfl) hf (fun x3 hf => ?_)
    refine v_callV (pc := 20) (r := (some b)) (As := [.int a1, .int x3]) (rest := []) (k' := 0) (n' := 0) (st1 := (fun yq => [.int yq])) hC dM_begin_20 q570 q572 p21 q7 q573 ykM_maker rfl rfl (fun bq rq wq hq => mM_maker _ _ bq a1 x3 _ rq wq hq) (by rw [hR]; decide) (by simp only [List.map_cons, List.map_nil, va_cat]; exact Nat.le_of_ble_eq_true rfl) (by decide) (by rw [hR]; decide) hf rfl (fun _ => rfl) (fun x4 w5 hf => ?_)
    exact v_iret (pc := 23) hC hE dM_begin_23 (by rw [hR]; decide) (by rw [hR]; decide) hf
  · refine v_iconst (pc := 10) (v := (-1 : Int32)) hC dM_begin_10 (by decide) ?_
    refine v_goto (pc := 11) (tgt := 23) hC dM_begin_11 (by decide) ?_
    exact v_iret (pc := 23) hC hE dM_begin_23 (by rw [hR]; decide) (by rw [hR]; decide) hf
theorem mM_begin (l : Launch) (G : cG) (b : Nat) (a1 : Int32) (w : cW) (r : Int32) (w' : cW) (hf : fM_begin b a1 w = some (r, w')) : Met l yM_begin (wsM yM_begin prog_7_method_13_code 2 (some .int)) rmM_begin (mP G w [va_rf (some b), .int a1]) (mQ mkI G w w' r) (rmM_begin).cells (rmM_begin).slots (Aw w) :=
  met_of (by decide +kernel) rfl (Nat.le_of_ble_eq_true rfl) (fun C hC hR _ _ _ hts hE => tM_begin (okC.tbl hC) hE hR a1 w hf)
set_option maxHeartbeats 4000000 in
set_option maxRecDepth 100000 in
theorem tM_end_l22 {C : xC} {G : cG} {w0 w' : cW} {r : Int32} {b : Nat} (hC : okC C prog_7_method_15_code 4 "ArenaNetworkModel" lw_gd) (hE : xE C (some .int) mkI G w0 w' r) (hR : xR C = rmM_end)  : ∀ n : Nat, ∀ (a1 : Int32) (a2 : Int32) (a3 : Int32) (w : cW), fM_end_l22 b n a1 a2 a3 w = some (r, w') → V C w 0 0 22 [(0, va_rf (some b)), (1, .int a1), (2, .int a2), (3, .int a3)] [] := by
  refine lp_P (P := fun (f : Int32 → Int32 → Int32 → cW → Option (Int32 × cW)) => ∀ (a1 : Int32) (a2 : Int32) (a3 : Int32) (w : cW), f a1 a2 a3 w = some (r, w') → V C w 0 0 22 [(0, va_rf (some b)), (1, .int a1), (2, .int a2), (3, .int a3)] []) ?_ ?_
  · intro a1 a2 a3 w hf
    cases hf
  · intro rec22 hrec22 a1 a2 a3 w hf
    unfold fM_end_b22 at hf
    refine v_iload_n (pc := 22) (i := 3) (x := a3) hC dM_end_22 rfl 3 rfl ?_
    refine v_aload_n (pc := 23) (i := 0) (r := (some b)) hC dM_end_23 rfl 0 rfl ?_
    refine v_getI (pc := 24) (r := (some b)) hC dM_end_24 inM rfl 14 (by decide) q489 (Or.inl rfl) hf (fun x1 hf => ?_)
    refine v_icmp_ge (pc := 27) (tgt := 58) hC dM_end_27 (by decide) hf (fun hf => ?_) (fun hf => ?_)
    · refine v_iload_n (pc := 58) (i := 2) (x := a2) hC dM_end_58 rfl 2 rfl ?_
      exact v_iret (pc := 59) hC hE dM_end_59 (by rw [hR]; decide) (by rw [hR]; decide) hf
    · refine v_aload_n (pc := 30) (i := 0) (r := (some b)) hC dM_end_30 rfl 0 rfl ?_
      refine v_getQ (pc := 31) (r := (some b)) hC dM_end_31 inM rfl 10 (by decide) q485 (Or.inl rfl) hf (fun r2 hf => ?_)
      refine v_iload_n (pc := 34) (i := 3) (x := a3) hC dM_end_34 rfl 3 rfl ?_
      refine v_iald (pc := 35) hC dM_end_35 hf (fun x3 hf => ?_)
      refine v_iload_n (pc := 36) (i := 1) (x := a1) hC dM_end_36 rfl 1 rfl ?_
      refine v_icmp_eq (pc := 37) (tgt := 50) hC dM_end_37 (by decide) hf (fun hf => ?_) (fun hf => ?_)
      · refine v_iload_n (pc := 50) (i := 3) (x := a3) hC dM_end_50 rfl 3 rfl ?_
        refine v_istore_n (pc := 51) (i := 2) (x := a3) hC dM_end_51 rfl (by decide) [(2, .int a3), (0, va_rf (some b)), (1, .int a1), (3, .int a3)] rfl ?_
        refine v_iincB (pc := 52) (i := 3) (x := a3) (v := (1 : Int32)) hC dM_end_52 3 rfl (by decide) (by decide) (fun x4 => [(3, .int x4), (2, .int a3), (0, va_rf (some b)), (1, .int a1)]) (fun _ => rfl) hf (fun x4 hf => ?_)
        refine v_goto (pc := 55) (tgt := 22) hC dM_end_55 (by decide) ?_
        exact V.sub [2, 3, 1, 0] rfl (hrec22 _ _ _ _ hf)
      · refine v_aload_n (pc := 40) (i := 0) (r := (some b)) hC dM_end_40 rfl 0 rfl ?_
        refine v_getQ (pc := 41) (r := (some b)) hC dM_end_41 inM rfl 11 (by decide) q486 (Or.inl rfl) hf (fun r5 hf => ?_)
        refine v_iload_n (pc := 44) (i := 3) (x := a3) hC dM_end_44 rfl 3 rfl ?_
        refine v_iald (pc := 45) hC dM_end_45 hf (fun x6 hf => ?_)
        refine v_iload_n (pc := 46) (i := 1) (x := a1) hC dM_end_46 rfl 1 rfl ?_
        refine v_icmp_ne (pc := 47) (tgt := 52) hC dM_end_47 (by decide) hf (fun hf => ?_) (fun hf => ?_)
        · refine v_iincB (pc := 52) (i := 3) (x := a3) (v := (1 : Int32)) hC dM_end_52 3 rfl (by decide) (by decide) (fun x7 => [(3, .int x7), (0, va_rf (some b)), (1, .int a1), (2, .int a2)]) (fun _ => rfl) hf (fun x7 hf => ?_)
          refine v_goto (pc := 55) (tgt := 22) hC dM_end_55 (by decide) ?_
          exact V.sub [1, 2, 3, 0] rfl (hrec22 _ _ _ _ hf)
        · refine v_iload_n (pc := 50) (i := 3) (x := a3) hC dM_end_50 rfl 3 rfl ?_
          refine v_istore_n (pc := 51) (i := 2) (x := a3) hC dM_end_51 rfl (by decide) [(2, .int a3), (0, va_rf (some b)), (1, .int a1), (3, .int a3)] rfl ?_
          refine v_iincB (pc := 52) (i := 3) (x := a3) (v := (1 : Int32)) hC dM_end_52 3 rfl (by decide) (by decide) (fun x8 => [(3, .int x8), (2, .int a3), (0, va_rf (some b)), (1, .int a1)]) (fun _ => rfl) hf (fun x8 hf => ?_)
          refine v_goto (pc := 55) (tgt := 22) hC dM_end_55 (by decide) ?_
          exact V.sub [2, 3, 1, 0] rfl (hrec22 _ _ _ _ hf)
set_option maxHeartbeats 4000000 in
set_option maxRecDepth 100000 in
theorem tM_end {C : xC} {G : cG} {w0 w' : cW} {r : Int32} {b : Nat} (hC : okC C prog_7_method_15_code 4 "ArenaNetworkModel" lw_gd) (hE : xE C (some .int) mkI G w0 w' r) (hR : xR C = rmM_end) (a1 : Int32) (w : cW) (hf : fM_end b a1 w = some (r, w')) : V C w 0 0 0 [(0, va_rf (some b)), (1, .int a1)] [] := by
  unfold fM_end at hf
  refine v_aload_n (pc := 0) (i := 0) (r := (some b)) hC dM_end_0 rfl 0 rfl ?_
  refine v_getQ (pc := 1) (r := (some b)) hC dM_end_1 inM rfl 3 (by decide) q478 (Or.inl rfl) hf (fun r1 hf => ?_)
  refine v_iload_n (pc := 4) (i := 1) (x := a1) hC dM_end_4 rfl 1 rfl ?_
  refine v_zald (pc := 5) hC dM_end_5 hf (fun x2 hf => ?_)
  refine v_if_eq (pc := 6) (tgt := 14) hC dM_end_6 (by decide) hf (fun hf => ?_) (fun hf => ?_)
  · refine v_aload_n (pc := 14) (i := 0) (r := (some b)) hC dM_end_14 rfl 0 rfl ?_
    refine v_iload_n (pc := 15) (i := 1) (x := a1) hC dM_end_15 rfl 1 rfl ?_
    refine v_callV (pc := 16) (r := (some b)) (As := [.int a1]) (rest := []) (k' := 0) (n' := 0) (st1 := (fun yq => [.int yq])) hC dM_end_16 q595 q597 p26 q7 q598 ykM_begin rfl rfl (fun bq rq wq hq => mM_begin _ _ bq a1 _ rq wq hq) (by rw [hR]; decide) (by simp only [List.map_cons, List.map_nil, va_cat]; exact Nat.le_of_ble_eq_true rfl) (by decide) (by rw [hR]; decide) hf rfl (fun _ => rfl) (fun x3 w4 hf => ?_)
    refine v_istore_n (pc := 19) (i := 2) (x := x3) hC dM_end_19 rfl (by decide) [(2, .int x3), (0, va_rf (some b)), (1, .int a1)] rfl ?_
    refine v_iconst (pc := 20) (v := (0 : Int32)) hC dM_end_20 (by decide) ?_
    refine v_istore_n (pc := 21) (i := 3) (x := (0 : Int32)) hC dM_end_21 rfl (by decide) [(3, .int (0 : Int32)), (2, .int x3), (0, va_rf (some b)), (1, .int a1)] rfl ?_
    exact V.sub [2, 3, 1, 0] rfl (tM_end_l22 hC hE hR  FU _ _ _ _ hf)
  · refine v_aload_n (pc := 9) (i := 0) (r := (some b)) hC dM_end_9 rfl 0 rfl ?_
    refine v_getI (pc := 10) (r := (some b)) hC dM_end_10 inM rfl 14 (by decide) q489 (Or.inl rfl) hf (fun x6 hf => ?_)
    exact v_iret (pc := 13) hC hE dM_end_13 (by rw [hR]; decide) (by rw [hR]; decide) hf
theorem mM_end (l : Launch) (G : cG) (b : Nat) (a1 : Int32) (w : cW) (r : Int32) (w' : cW) (hf : fM_end b a1 w = some (r, w')) : Met l yM_end (wsM yM_end prog_7_method_15_code 4 (some .int)) rmM_end (mP G w [va_rf (some b), .int a1]) (mQ mkI G w w' r) (rmM_end).cells (rmM_end).slots (Aw w) :=
  met_of (by decide +kernel) rfl (Nat.le_of_ble_eq_true rfl) (fun C hC hR _ _ _ hts hE => tM_end (okC.tbl hC) hE hR a1 w hf)
set_option maxHeartbeats 4000000 in
set_option maxRecDepth 100000 in
theorem tM_reopen {C : xC} {G : cG} {w0 w' : cW} {r : Int32} {b : Nat} (hC : okC C prog_7_method_20_code 1 "ArenaNetworkModel" lw_gd) (hE : xE C (some .int) mkI G w0 w' r) (hR : xR C = rmM_reopen)  (w : cW) (hf : fM_reopen b w = some (r, w')) : V C w 0 0 0 [(0, va_rf (some b))] [] := by
  unfold fM_reopen at hf
  refine v_aload_n (pc := 0) (i := 0) (r := (some b)) hC dM_reopen_0 rfl 0 rfl ?_
  refine v_getI (pc := 1) (r := (some b)) hC dM_reopen_1 inM rfl 15 (by decide) q490 (Or.inl rfl) hf (fun x1 hf => ?_)
  refine v_if_ne (pc := 4) (tgt := 10) hC dM_reopen_4 (by decide) hf (fun hf => ?_) (fun hf => ?_)
  · refine v_aload_n (pc := 10) (i := 0) (r := (some b)) hC dM_reopen_10 rfl 0 rfl ?_
    refine v_iconst (pc := 11) (v := (0 : Int32)) hC dM_reopen_11 (by decide) ?_
    refine v_putZ (pc := 12) (r := (some b)) hC dM_reopen_12 inM rfl tyM tkM nmM 15 (by decide) q490 (Or.inl rfl) rfl (tkM 15 (by decide)) hf (fun w2 hf => ?_)
    refine v_aload_n (pc := 15) (i := 0) (r := (some b)) hC dM_reopen_15 rfl 0 rfl ?_
    refine v_iconst (pc := 16) (v := (-1 : Int32)) hC dM_reopen_16 (by decide) ?_
    refine v_putI (pc := 17) (r := (some b)) hC dM_reopen_17 inM rfl tyM tkM nmM 18 (by decide) q493 (Or.inl rfl) rfl (tkM 18 (by decide)) hf (fun w3 hf => ?_)
    refine v_iconst (pc := 20) (v := (0 : Int32)) hC dM_reopen_20 (by decide) ?_
    exact v_iret (pc := 21) hC hE dM_reopen_21 (by rw [hR]; decide) (by rw [hR]; decide) hf
  · refine v_bipush (pc := 7) (v := (-3 : Int32)) hC dM_reopen_7 (by decide) ?_
    exact v_iret (pc := 9) hC hE dM_reopen_9 (by rw [hR]; decide) (by rw [hR]; decide) hf
theorem mM_reopen (l : Launch) (G : cG) (b : Nat)  (w : cW) (r : Int32) (w' : cW) (hf : fM_reopen b w = some (r, w')) : Met l yM_reopen (wsM yM_reopen prog_7_method_20_code 1 (some .int)) rmM_reopen (mP G w [va_rf (some b)]) (mQ mkI G w w' r) (rmM_reopen).cells (rmM_reopen).slots (Aw w) :=
  met_of (by decide +kernel) rfl (Nat.le_of_ble_eq_true rfl) (fun C hC hR _ _ _ hts hE => tM_reopen (okC.tbl hC) hE hR  w hf)
set_option maxHeartbeats 4000000 in
set_option maxRecDepth 100000 in
theorem tM_start_b37 {C : xC} {G : cG} {w0 w' : cW} {r : Int32} {b : Nat} (hC : okC C prog_7_method_21_code 2 "ArenaNetworkModel" lw_gd) (hE : xE C (some .int) mkI G w0 w' r) (hR : xR C = rmM_start)   (w : cW) (hf : fM_start_b37 b w = some (r, w')) : V C w 0 0 37 [(0, va_rf (some b))] [] := by
  unfold fM_start_b37 at hf
  refine v_aload_n (pc := 37) (i := 0) (r := (some b)) hC dM_start_37 rfl 0 rfl ?_
  refine v_iconst (pc := 38) (v := (0 : Int32)) hC dM_start_38 (by decide) ?_
  refine v_putI (pc := 39) (r := (some b)) hC dM_start_39 inM rfl tyM tkM nmM 18 (by decide) q493 (Or.inl rfl) rfl (tkM 18 (by decide)) hf (fun w1 hf => ?_)
  refine v_aload_n (pc := 42) (i := 0) (r := (some b)) hC dM_start_42 rfl 0 rfl ?_
  refine v_getI (pc := 43) (r := (some b)) hC dM_start_43 inM rfl 14 (by decide) q489 (Or.inl rfl) hf (fun x2 hf => ?_)
  exact v_iret (pc := 46) hC hE dM_start_46 (by rw [hR]; decide) (by rw [hR]; decide) hf
set_option maxHeartbeats 4000000 in
set_option maxRecDepth 100000 in
theorem tM_start_l12 {C : xC} {G : cG} {w0 w' : cW} {r : Int32} {b : Nat} (hC : okC C prog_7_method_21_code 2 "ArenaNetworkModel" lw_gd) (hE : xE C (some .int) mkI G w0 w' r) (hR : xR C = rmM_start)  : ∀ n : Nat, ∀ (a1 : Int32) (w : cW), fM_start_l12 b n a1 w = some (r, w') → V C w 0 0 12 [(0, va_rf (some b)), (1, .int a1)] [] := by
  refine lp_P (P := fun (f : Int32 → cW → Option (Int32 × cW)) => ∀ (a1 : Int32) (w : cW), f a1 w = some (r, w') → V C w 0 0 12 [(0, va_rf (some b)), (1, .int a1)] []) ?_ ?_
  · intro a1 w hf
    cases hf
  · intro rec12 hrec12 a1 w hf
    unfold fM_start_b12 at hf
    refine v_iload_n (pc := 12) (i := 1) (x := a1) hC dM_start_12 rfl 1 rfl ?_
    refine v_sipush (pc := 13) (v := (1280 : Int32)) hC dM_start_13 (by decide) ?_
    refine v_icmp_ge (pc := 16) (tgt := 37) hC dM_start_16 (by decide) hf (fun hf => ?_) (fun hf => ?_)
    · exact V.sub [0] rfl (tM_start_b37 hC hE hR  _ hf)
    · refine v_aload_n (pc := 19) (i := 0) (r := (some b)) hC dM_start_19 rfl 0 rfl ?_
      refine v_getQ (pc := 20) (r := (some b)) hC dM_start_20 inM rfl 5 (by decide) q480 (Or.inl rfl) hf (fun r1 hf => ?_)
      refine v_iload_n (pc := 23) (i := 1) (x := a1) hC dM_start_23 rfl 1 rfl ?_
      refine v_aload_n (pc := 24) (i := 0) (r := (some b)) hC dM_start_24 rfl 0 rfl ?_
      refine v_getQ (pc := 25) (r := (some b)) hC dM_start_25 inM rfl 4 (by decide) q479 (Or.inl rfl) hf (fun r2 hf => ?_)
      refine v_iload_n (pc := 28) (i := 1) (x := a1) hC dM_start_28 rfl 1 rfl ?_
      refine v_iald (pc := 29) hC dM_start_29 hf (fun x3 hf => ?_)
      refine v_iast (pc := 30) hC dM_start_30 hf (fun w4 hf => ?_)
      refine v_iincB (pc := 31) (i := 1) (x := a1) (v := (1 : Int32)) hC dM_start_31 1 rfl (by decide) (by decide) (fun x5 => [(1, .int x5), (0, va_rf (some b))]) (fun _ => rfl) hf (fun x5 hf => ?_)
      refine v_goto (pc := 34) (tgt := 12) hC dM_start_34 (by decide) ?_
      exact V.sub [1, 0] rfl (hrec12 _ _ hf)
set_option maxHeartbeats 4000000 in
set_option maxRecDepth 100000 in
theorem tM_start {C : xC} {G : cG} {w0 w' : cW} {r : Int32} {b : Nat} (hC : okC C prog_7_method_21_code 2 "ArenaNetworkModel" lw_gd) (hE : xE C (some .int) mkI G w0 w' r) (hR : xR C = rmM_start)  (w : cW) (hf : fM_start b w = some (r, w')) : V C w 0 0 0 [(0, va_rf (some b))] [] := by
  unfold fM_start at hf
  refine v_aload_n (pc := 0) (i := 0) (r := (some b)) hC dM_start_0 rfl 0 rfl ?_
  refine v_getI (pc := 1) (r := (some b)) hC dM_start_1 inM rfl 15 (by decide) q490 (Or.inl rfl) hf (fun x1 hf => ?_)
  refine v_if_ne (pc := 4) (tgt := 10) hC dM_start_4 (by decide) hf (fun hf => ?_) (fun hf => ?_)
  · refine v_iconst (pc := 10) (v := (0 : Int32)) hC dM_start_10 (by decide) ?_
    refine v_istore_n (pc := 11) (i := 1) (x := (0 : Int32)) hC dM_start_11 rfl (by decide) [(1, .int (0 : Int32)), (0, va_rf (some b))] rfl ?_
    exact V.sub [1, 0] rfl (tM_start_l12 hC hE hR  FU _ _ hf)
  · refine v_bipush (pc := 7) (v := (-3 : Int32)) hC dM_start_7 (by decide) ?_
    exact v_iret (pc := 9) hC hE dM_start_9 (by rw [hR]; decide) (by rw [hR]; decide) hf
theorem mM_start (l : Launch) (G : cG) (b : Nat)  (w : cW) (r : Int32) (w' : cW) (hf : fM_start b w = some (r, w')) : Met l yM_start (wsM yM_start prog_7_method_21_code 2 (some .int)) rmM_start (mP G w [va_rf (some b)]) (mQ mkI G w w' r) (rmM_start).cells (rmM_start).slots (Aw w) :=
  met_of (by decide +kernel) rfl (Nat.le_of_ble_eq_true rfl) (fun C hC hR _ _ _ hts hE => tM_start (okC.tbl hC) hE hR  w hf)
