theorem dX7_layRows_164 : decode cX7_layRows 164 = .ok (.invokevirtual 133, 3) := by decide +kernel
theorem dX7_layRows_167 : decode cX7_layRows 167 = .ok (.iadd, 1) := by decide +kernel
theorem dX7_layRows_168 : decode cX7_layRows 168 = .ok (.aload_n 0, 1) := by decide +kernel
theorem dX7_layRows_169 : decode cX7_layRows 169 = .ok (.getfield 52, 3) := by decide +kernel
theorem dX7_layRows_172 : decode cX7_layRows 172 = .ok (.bipush 12, 2) := by decide +kernel
theorem dX7_layRows_174 : decode cX7_layRows 174 = .ok (.iload 8, 2) := by decide +kernel
theorem dX7_layRows_176 : decode cX7_layRows 176 = .ok (.imul, 1) := by decide +kernel
theorem dX7_layRows_177 : decode cX7_layRows 177 = .ok (.iload 9, 2) := by decide +kernel
theorem dX7_layRows_179 : decode cX7_layRows 179 = .ok (.iadd, 1) := by decide +kernel
theorem dX7_layRows_180 : decode cX7_layRows 180 = .ok (.iaload, 1) := by decide +kernel
theorem dX7_layRows_181 : decode cX7_layRows 181 = .ok (.iadd, 1) := by decide +kernel
theorem dX7_layRows_182 : decode cX7_layRows 182 = .ok (.istore 10, 2) := by decide +kernel
theorem dX7_layRows_184 : decode cX7_layRows 184 = .ok (.bipush 16, 2) := by decide +kernel
theorem dX7_layRows_186 : decode cX7_layRows 186 = .ok (.iload 8, 2) := by decide +kernel
theorem dX7_layRows_188 : decode cX7_layRows 188 = .ok (.imul, 1) := by decide +kernel
theorem dX7_layRows_189 : decode cX7_layRows 189 = .ok (.iload 9, 2) := by decide +kernel
theorem dX7_layRows_191 : decode cX7_layRows 191 = .ok (.iadd, 1) := by decide +kernel
theorem dX7_layRows_192 : decode cX7_layRows 192 = .ok (.istore 11, 2) := by decide +kernel
theorem dX7_layRows_194 : decode cX7_layRows 194 = .ok (.iload 10, 2) := by decide +kernel
theorem dX7_layRows_196 : decode cX7_layRows 196 = .ok (.iload 4, 2) := by decide +kernel
theorem dX7_layRows_198 : decode cX7_layRows 198 = .ok (.if_icmp .gt 17, 3) := by decide +kernel
theorem dX7_layRows_201 : decode cX7_layRows 201 = .ok (.iload 10, 2) := by decide +kernel
theorem dX7_layRows_203 : decode cX7_layRows 203 = .ok (.iload 4, 2) := by decide +kernel
theorem dX7_layRows_205 : decode cX7_layRows 205 = .ok (.if_icmp .ne 14, 3) := by decide +kernel
theorem dX7_layRows_208 : decode cX7_layRows 208 = .ok (.iload 11, 2) := by decide +kernel
theorem dX7_layRows_210 : decode cX7_layRows 210 = .ok (.iload 5, 2) := by decide +kernel
theorem dX7_layRows_212 : decode cX7_layRows 212 = .ok (.if_icmp .le 7, 3) := by decide +kernel
theorem dX7_layRows_215 : decode cX7_layRows 215 = .ok (.iconst 1, 1) := by decide +kernel
theorem dX7_layRows_216 : decode cX7_layRows 216 = .ok (.goto 4, 3) := by decide +kernel
theorem dX7_layRows_219 : decode cX7_layRows 219 = .ok (.iconst 0, 1) := by decide +kernel
theorem dX7_layRows_220 : decode cX7_layRows 220 = .ok (.istore 12, 2) := by decide +kernel
theorem dX7_layRows_222 : decode cX7_layRows 222 = .ok (.iload 12, 2) := by decide +kernel
theorem dX7_layRows_224 : decode cX7_layRows 224 = .ok (.ifCond .eq 37, 3) := by decide +kernel
theorem dX7_layRows_227 : decode cX7_layRows 227 = .ok (.iload 7, 2) := by decide +kernel
theorem dX7_layRows_229 : decode cX7_layRows 229 = .ok (.ifCond .lt 24, 3) := by decide +kernel
theorem dX7_layRows_232 : decode cX7_layRows 232 = .ok (.iload 10, 2) := by decide +kernel
theorem dX7_layRows_234 : decode cX7_layRows 234 = .ok (.iload 6, 2) := by decide +kernel
theorem dX7_layRows_236 : decode cX7_layRows 236 = .ok (.if_icmp .lt 17, 3) := by decide +kernel
theorem dX7_layRows_239 : decode cX7_layRows 239 = .ok (.iload 10, 2) := by decide +kernel
theorem dX7_layRows_241 : decode cX7_layRows 241 = .ok (.iload 6, 2) := by decide +kernel
theorem dX7_layRows_243 : decode cX7_layRows 243 = .ok (.if_icmp .ne 18, 3) := by decide +kernel
theorem dX7_layRows_246 : decode cX7_layRows 246 = .ok (.iload 11, 2) := by decide +kernel
theorem dX7_layRows_248 : decode cX7_layRows 248 = .ok (.iload 7, 2) := by decide +kernel
theorem dX7_layRows_250 : decode cX7_layRows 250 = .ok (.if_icmp .ge 11, 3) := by decide +kernel
theorem dX7_layRows_253 : decode cX7_layRows 253 = .ok (.iload 11, 2) := by decide +kernel
theorem dX7_layRows_255 : decode cX7_layRows 255 = .ok (.istore 7, 2) := by decide +kernel
theorem dX7_layRows_257 : decode cX7_layRows 257 = .ok (.iload 10, 2) := by decide +kernel
theorem dX7_layRows_259 : decode cX7_layRows 259 = .ok (.istore 6, 2) := by decide +kernel
theorem dX7_layRows_261 : decode cX7_layRows 261 = .ok (.iinc 9 1, 3) := by decide +kernel
theorem dX7_layRows_264 : decode cX7_layRows 264 = .ok (.goto (-122), 3) := by decide +kernel
theorem dX7_layRows_267 : decode cX7_layRows 267 = .ok (.iinc 8 1, 3) := by decide +kernel
theorem dX7_layRows_270 : decode cX7_layRows 270 = .ok (.goto (-144), 3) := by decide +kernel
theorem dX7_layRows_273 : decode cX7_layRows 273 = .ok (.iload 7, 2) := by decide +kernel
theorem dX7_layRows_275 : decode cX7_layRows 275 = .ok (.ifCond .lt 7, 3) := by decide +kernel
theorem dX7_layRows_278 : decode cX7_layRows 278 = .ok (.iconst 1, 1) := by decide +kernel
theorem dX7_layRows_279 : decode cX7_layRows 279 = .ok (.goto 4, 3) := by decide +kernel
theorem dX7_layRows_282 : decode cX7_layRows 282 = .ok (.iconst 0, 1) := by decide +kernel
theorem dX7_layRows_283 : decode cX7_layRows 283 = .ok (.istore_n 3, 1) := by decide +kernel
theorem dX7_layRows_284 : decode cX7_layRows 284 = .ok (.iload_n 3, 1) := by decide +kernel
theorem dX7_layRows_285 : decode cX7_layRows 285 = .ok (.ifCond .eq 57, 3) := by decide +kernel
theorem dX7_layRows_288 : decode cX7_layRows 288 = .ok (.aload_n 0, 1) := by decide +kernel
theorem dX7_layRows_289 : decode cX7_layRows 289 = .ok (.getfield 52, 3) := by decide +kernel
theorem dX7_layRows_292 : decode cX7_layRows 292 = .ok (.bipush 12, 2) := by decide +kernel
theorem dX7_layRows_294 : decode cX7_layRows 294 = .ok (.iload_n 1, 1) := by decide +kernel
theorem dX7_layRows_295 : decode cX7_layRows 295 = .ok (.imul, 1) := by decide +kernel
theorem dX7_layRows_296 : decode cX7_layRows 296 = .ok (.aload_n 0, 1) := by decide +kernel
theorem dX7_layRows_297 : decode cX7_layRows 297 = .ok (.getfield 58, 3) := by decide +kernel
theorem dX7_layRows_300 : decode cX7_layRows 300 = .ok (.iload_n 1, 1) := by decide +kernel
theorem dX7_layRows_301 : decode cX7_layRows 301 = .ok (.iaload, 1) := by decide +kernel
theorem dX7_layRows_302 : decode cX7_layRows 302 = .ok (.iadd, 1) := by decide +kernel
theorem dX7_layRows_303 : decode cX7_layRows 303 = .ok (.iload 6, 2) := by decide +kernel
theorem dX7_layRows_305 : decode cX7_layRows 305 = .ok (.iastore, 1) := by decide +kernel
theorem dX7_layRows_306 : decode cX7_layRows 306 = .ok (.aload_n 0, 1) := by decide +kernel
theorem dX7_layRows_307 : decode cX7_layRows 307 = .ok (.getfield 55, 3) := by decide +kernel
theorem dX7_layRows_310 : decode cX7_layRows 310 = .ok (.bipush 12, 2) := by decide +kernel
theorem dX7_layRows_312 : decode cX7_layRows 312 = .ok (.iload_n 1, 1) := by decide +kernel
theorem dX7_layRows_313 : decode cX7_layRows 313 = .ok (.imul, 1) := by decide +kernel
theorem dX7_layRows_314 : decode cX7_layRows 314 = .ok (.aload_n 0, 1) := by decide +kernel
theorem dX7_layRows_315 : decode cX7_layRows 315 = .ok (.getfield 58, 3) := by decide +kernel
theorem dX7_layRows_318 : decode cX7_layRows 318 = .ok (.iload_n 1, 1) := by decide +kernel
theorem dX7_layRows_319 : decode cX7_layRows 319 = .ok (.iaload, 1) := by decide +kernel
theorem dX7_layRows_320 : decode cX7_layRows 320 = .ok (.iadd, 1) := by decide +kernel
theorem dX7_layRows_321 : decode cX7_layRows 321 = .ok (.iload 7, 2) := by decide +kernel
theorem dX7_layRows_323 : decode cX7_layRows 323 = .ok (.iastore, 1) := by decide +kernel
theorem dX7_layRows_324 : decode cX7_layRows 324 = .ok (.aload_n 0, 1) := by decide +kernel
theorem dX7_layRows_325 : decode cX7_layRows 325 = .ok (.getfield 58, 3) := by decide +kernel
theorem dX7_layRows_328 : decode cX7_layRows 328 = .ok (.iload_n 1, 1) := by decide +kernel
theorem dX7_layRows_329 : decode cX7_layRows 329 = .ok (.dup2, 1) := by decide +kernel
theorem dX7_layRows_330 : decode cX7_layRows 330 = .ok (.iaload, 1) := by decide +kernel
theorem dX7_layRows_331 : decode cX7_layRows 331 = .ok (.iconst 1, 1) := by decide +kernel
theorem dX7_layRows_332 : decode cX7_layRows 332 = .ok (.iadd, 1) := by decide +kernel
theorem dX7_layRows_333 : decode cX7_layRows 333 = .ok (.iastore, 1) := by decide +kernel
theorem dX7_layRows_334 : decode cX7_layRows 334 = .ok (.iload 6, 2) := by decide +kernel
theorem dX7_layRows_336 : decode cX7_layRows 336 = .ok (.istore 4, 2) := by decide +kernel
theorem dX7_layRows_338 : decode cX7_layRows 338 = .ok (.iload 7, 2) := by decide +kernel
theorem dX7_layRows_340 : decode cX7_layRows 340 = .ok (.istore 5, 2) := by decide +kernel
theorem dX7_layRows_342 : decode cX7_layRows 342 = .ok (.goto (-246), 3) := by decide +kernel
theorem dX7_layRows_345 : decode cX7_layRows 345 = .ok (.iinc 1 (-1), 3) := by decide +kernel
theorem dX7_layRows_348 : decode cX7_layRows 348 = .ok (.goto (-337), 3) := by decide +kernel
theorem dX7_layRows_351 : decode cX7_layRows 351 = .ok (.return_, 1) := by decide +kernel
theorem dX7_cuttingOf_0 : decode cX7_cuttingOf 0 = .ok (.iconst (-1), 1) := by decide +kernel
theorem dX7_cuttingOf_1 : decode cX7_cuttingOf 1 = .ok (.istore_n 2, 1) := by decide +kernel
theorem dX7_cuttingOf_2 : decode cX7_cuttingOf 2 = .ok (.iconst (-1), 1) := by decide +kernel
theorem dX7_cuttingOf_3 : decode cX7_cuttingOf 3 = .ok (.istore_n 3, 1) := by decide +kernel
theorem dX7_cuttingOf_4 : decode cX7_cuttingOf 4 = .ok (.bipush (-6), 2) := by decide +kernel
theorem dX7_cuttingOf_6 : decode cX7_cuttingOf 6 = .ok (.istore 4, 2) := by decide +kernel
theorem dX7_cuttingOf_8 : decode cX7_cuttingOf 8 = .ok (.iconst 0, 1) := by decide +kernel
theorem dX7_cuttingOf_9 : decode cX7_cuttingOf 9 = .ok (.istore 5, 2) := by decide +kernel
theorem dX7_cuttingOf_11 : decode cX7_cuttingOf 11 = .ok (.iload 5, 2) := by decide +kernel
theorem dX7_cuttingOf_13 : decode cX7_cuttingOf 13 = .ok (.iload_n 1, 1) := by decide +kernel
theorem dX7_cuttingOf_14 : decode cX7_cuttingOf 14 = .ok (.if_icmp .gt 181, 3) := by decide +kernel
theorem dX7_cuttingOf_17 : decode cX7_cuttingOf 17 = .ok (.iconst 0, 1) := by decide +kernel
theorem dX7_cuttingOf_18 : decode cX7_cuttingOf 18 = .ok (.istore 6, 2) := by decide +kernel
theorem dX7_cuttingOf_20 : decode cX7_cuttingOf 20 = .ok (.bipush (-6), 2) := by decide +kernel
theorem dX7_cuttingOf_22 : decode cX7_cuttingOf 22 = .ok (.istore 4, 2) := by decide +kernel
theorem dX7_cuttingOf_24 : decode cX7_cuttingOf 24 = .ok (.aload_n 0, 1) := by decide +kernel
theorem dX7_cuttingOf_25 : decode cX7_cuttingOf 25 = .ok (.getfield 49, 3) := by decide +kernel
theorem dX7_cuttingOf_28 : decode cX7_cuttingOf 28 = .ok (.iconst 0, 1) := by decide +kernel
theorem dX7_cuttingOf_29 : decode cX7_cuttingOf 29 = .ok (.iaload, 1) := by decide +kernel
theorem dX7_cuttingOf_30 : decode cX7_cuttingOf 30 = .ok (.istore 7, 2) := by decide +kernel
theorem dX7_cuttingOf_32 : decode cX7_cuttingOf 32 = .ok (.iload 7, 2) := by decide +kernel
theorem dX7_cuttingOf_34 : decode cX7_cuttingOf 34 = .ok (.aload_n 0, 1) := by decide +kernel
theorem dX7_cuttingOf_35 : decode cX7_cuttingOf 35 = .ok (.getfield 49, 3) := by decide +kernel
theorem dX7_cuttingOf_38 : decode cX7_cuttingOf 38 = .ok (.iconst 1, 1) := by decide +kernel
theorem dX7_cuttingOf_39 : decode cX7_cuttingOf 39 = .ok (.iaload, 1) := by decide +kernel
theorem dX7_cuttingOf_40 : decode cX7_cuttingOf 40 = .ok (.if_icmp .ge 135, 3) := by decide +kernel
theorem dX7_cuttingOf_43 : decode cX7_cuttingOf 43 = .ok (.iconst 0, 1) := by decide +kernel
theorem dX7_cuttingOf_44 : decode cX7_cuttingOf 44 = .ok (.istore 8, 2) := by decide +kernel
theorem dX7_cuttingOf_46 : decode cX7_cuttingOf 46 = .ok (.iload 8, 2) := by decide +kernel
theorem dX7_cuttingOf_48 : decode cX7_cuttingOf 48 = .ok (.aload_n 0, 1) := by decide +kernel
theorem dX7_cuttingOf_49 : decode cX7_cuttingOf 49 = .ok (.getfield 58, 3) := by decide +kernel
theorem dX7_cuttingOf_52 : decode cX7_cuttingOf 52 = .ok (.iload 7, 2) := by decide +kernel
theorem dX7_cuttingOf_54 : decode cX7_cuttingOf 54 = .ok (.iaload, 1) := by decide +kernel
theorem dX7_cuttingOf_55 : decode cX7_cuttingOf 55 = .ok (.if_icmp .ge 114, 3) := by decide +kernel
theorem dX7_cuttingOf_58 : decode cX7_cuttingOf 58 = .ok (.aload_n 0, 1) := by decide +kernel
theorem dX7_cuttingOf_59 : decode cX7_cuttingOf 59 = .ok (.getfield 22, 3) := by decide +kernel
theorem dX7_cuttingOf_62 : decode cX7_cuttingOf 62 = .ok (.bipush 20, 2) := by decide +kernel
theorem dX7_cuttingOf_64 : decode cX7_cuttingOf 64 = .ok (.aload_n 0, 1) := by decide +kernel
theorem dX7_cuttingOf_65 : decode cX7_cuttingOf 65 = .ok (.getfield 40, 3) := by decide +kernel
theorem dX7_cuttingOf_68 : decode cX7_cuttingOf 68 = .ok (.iload 7, 2) := by decide +kernel
theorem dX7_cuttingOf_70 : decode cX7_cuttingOf 70 = .ok (.iaload, 1) := by decide +kernel
theorem dX7_cuttingOf_71 : decode cX7_cuttingOf 71 = .ok (.iadd, 1) := by decide +kernel
theorem dX7_cuttingOf_72 : decode cX7_cuttingOf 72 = .ok (.iaload, 1) := by decide +kernel
theorem dX7_cuttingOf_73 : decode cX7_cuttingOf 73 = .ok (.aload_n 0, 1) := by decide +kernel
theorem dX7_cuttingOf_74 : decode cX7_cuttingOf 74 = .ok (.getfield 52, 3) := by decide +kernel
theorem dX7_cuttingOf_77 : decode cX7_cuttingOf 77 = .ok (.bipush 12, 2) := by decide +kernel
theorem dX7_cuttingOf_79 : decode cX7_cuttingOf 79 = .ok (.iload 7, 2) := by decide +kernel
theorem dX7_cuttingOf_81 : decode cX7_cuttingOf 81 = .ok (.imul, 1) := by decide +kernel
theorem dX7_cuttingOf_82 : decode cX7_cuttingOf 82 = .ok (.iload 8, 2) := by decide +kernel
theorem dX7_cuttingOf_84 : decode cX7_cuttingOf 84 = .ok (.iadd, 1) := by decide +kernel
theorem dX7_cuttingOf_85 : decode cX7_cuttingOf 85 = .ok (.iaload, 1) := by decide +kernel
theorem dX7_cuttingOf_86 : decode cX7_cuttingOf 86 = .ok (.iadd, 1) := by decide +kernel
theorem dX7_cuttingOf_87 : decode cX7_cuttingOf 87 = .ok (.istore 9, 2) := by decide +kernel
theorem dX7_cuttingOf_89 : decode cX7_cuttingOf 89 = .ok (.bipush 16, 2) := by decide +kernel
theorem dX7_cuttingOf_91 : decode cX7_cuttingOf 91 = .ok (.iload 7, 2) := by decide +kernel
theorem dX7_cuttingOf_93 : decode cX7_cuttingOf 93 = .ok (.imul, 1) := by decide +kernel
theorem dX7_cuttingOf_94 : decode cX7_cuttingOf 94 = .ok (.iload 8, 2) := by decide +kernel
theorem dX7_cuttingOf_96 : decode cX7_cuttingOf 96 = .ok (.iadd, 1) := by decide +kernel
theorem dX7_cuttingOf_97 : decode cX7_cuttingOf 97 = .ok (.istore 10, 2) := by decide +kernel
theorem dX7_cuttingOf_99 : decode cX7_cuttingOf 99 = .ok (.iload 9, 2) := by decide +kernel
theorem dX7_cuttingOf_101 : decode cX7_cuttingOf 101 = .ok (.iload_n 2, 1) := by decide +kernel
theorem dX7_cuttingOf_102 : decode cX7_cuttingOf 102 = .ok (.if_icmp .gt 15, 3) := by decide +kernel
theorem dX7_cuttingOf_105 : decode cX7_cuttingOf 105 = .ok (.iload 9, 2) := by decide +kernel
theorem dX7_cuttingOf_107 : decode cX7_cuttingOf 107 = .ok (.iload_n 2, 1) := by decide +kernel
theorem dX7_cuttingOf_108 : decode cX7_cuttingOf 108 = .ok (.if_icmp .ne 13, 3) := by decide +kernel
theorem dX7_cuttingOf_111 : decode cX7_cuttingOf 111 = .ok (.iload 10, 2) := by decide +kernel
theorem dX7_cuttingOf_113 : decode cX7_cuttingOf 113 = .ok (.iload_n 3, 1) := by decide +kernel
theorem dX7_cuttingOf_114 : decode cX7_cuttingOf 114 = .ok (.if_icmp .le 7, 3) := by decide +kernel
theorem dX7_cuttingOf_117 : decode cX7_cuttingOf 117 = .ok (.iconst 1, 1) := by decide +kernel
theorem dX7_cuttingOf_118 : decode cX7_cuttingOf 118 = .ok (.goto 4, 3) := by decide +kernel
theorem dX7_cuttingOf_121 : decode cX7_cuttingOf 121 = .ok (.iconst 0, 1) := by decide +kernel
theorem dX7_cuttingOf_122 : decode cX7_cuttingOf 122 = .ok (.istore 11, 2) := by decide +kernel
theorem dX7_cuttingOf_124 : decode cX7_cuttingOf 124 = .ok (.iload 11, 2) := by decide +kernel
theorem dX7_cuttingOf_126 : decode cX7_cuttingOf 126 = .ok (.ifCond .eq 37, 3) := by decide +kernel
theorem dX7_cuttingOf_129 : decode cX7_cuttingOf 129 = .ok (.iload 4, 2) := by decide +kernel
theorem dX7_cuttingOf_131 : decode cX7_cuttingOf 131 = .ok (.ifCond .lt 24, 3) := by decide +kernel
theorem dX7_cuttingOf_134 : decode cX7_cuttingOf 134 = .ok (.iload 9, 2) := by decide +kernel
theorem dX7_cuttingOf_136 : decode cX7_cuttingOf 136 = .ok (.iload 6, 2) := by decide +kernel
theorem dX7_cuttingOf_138 : decode cX7_cuttingOf 138 = .ok (.if_icmp .lt 17, 3) := by decide +kernel
theorem dX7_cuttingOf_141 : decode cX7_cuttingOf 141 = .ok (.iload 9, 2) := by decide +kernel
theorem dX7_cuttingOf_143 : decode cX7_cuttingOf 143 = .ok (.iload 6, 2) := by decide +kernel
theorem dX7_cuttingOf_145 : decode cX7_cuttingOf 145 = .ok (.if_icmp .ne 18, 3) := by decide +kernel
theorem dX7_cuttingOf_148 : decode cX7_cuttingOf 148 = .ok (.iload 10, 2) := by decide +kernel
theorem dX7_cuttingOf_150 : decode cX7_cuttingOf 150 = .ok (.iload 4, 2) := by decide +kernel
theorem dX7_cuttingOf_152 : decode cX7_cuttingOf 152 = .ok (.if_icmp .ge 11, 3) := by decide +kernel
theorem dX7_cuttingOf_155 : decode cX7_cuttingOf 155 = .ok (.iload 10, 2) := by decide +kernel
theorem dX7_cuttingOf_157 : decode cX7_cuttingOf 157 = .ok (.istore 4, 2) := by decide +kernel
theorem dX7_cuttingOf_159 : decode cX7_cuttingOf 159 = .ok (.iload 9, 2) := by decide +kernel
theorem dX7_cuttingOf_161 : decode cX7_cuttingOf 161 = .ok (.istore 6, 2) := by decide +kernel
theorem dX7_cuttingOf_163 : decode cX7_cuttingOf 163 = .ok (.iinc 8 1, 3) := by decide +kernel
theorem dX7_cuttingOf_166 : decode cX7_cuttingOf 166 = .ok (.goto (-120), 3) := by decide +kernel
theorem dX7_cuttingOf_169 : decode cX7_cuttingOf 169 = .ok (.iinc 7 1, 3) := by decide +kernel
theorem dX7_cuttingOf_172 : decode cX7_cuttingOf 172 = .ok (.goto (-140), 3) := by decide +kernel
theorem dX7_cuttingOf_175 : decode cX7_cuttingOf 175 = .ok (.iload 4, 2) := by decide +kernel
theorem dX7_cuttingOf_177 : decode cX7_cuttingOf 177 = .ok (.ifCond .ge 6, 3) := by decide +kernel
theorem dX7_cuttingOf_180 : decode cX7_cuttingOf 180 = .ok (.bipush (-6), 2) := by decide +kernel
theorem dX7_cuttingOf_182 : decode cX7_cuttingOf 182 = .ok (.ireturn, 1) := by decide +kernel
theorem dX7_cuttingOf_183 : decode cX7_cuttingOf 183 = .ok (.iload 6, 2) := by decide +kernel
theorem dX7_cuttingOf_185 : decode cX7_cuttingOf 185 = .ok (.istore_n 2, 1) := by decide +kernel
theorem dX7_cuttingOf_186 : decode cX7_cuttingOf 186 = .ok (.iload 4, 2) := by decide +kernel
theorem dX7_cuttingOf_188 : decode cX7_cuttingOf 188 = .ok (.istore_n 3, 1) := by decide +kernel
theorem dX7_cuttingOf_189 : decode cX7_cuttingOf 189 = .ok (.iinc 5 1, 3) := by decide +kernel
theorem dX7_cuttingOf_192 : decode cX7_cuttingOf 192 = .ok (.goto (-181), 3) := by decide +kernel
theorem dX7_cuttingOf_195 : decode cX7_cuttingOf 195 = .ok (.iload 4, 2) := by decide +kernel
theorem dX7_cuttingOf_197 : decode cX7_cuttingOf 197 = .ok (.ireturn, 1) := by decide +kernel
theorem dX7_costOf_0 : decode cX7_costOf 0 = .ok (.aload_n 0, 1) := by decide +kernel
theorem dX7_costOf_1 : decode cX7_costOf 1 = .ok (.getfield 22, 3) := by decide +kernel
theorem dX7_costOf_4 : decode cX7_costOf 4 = .ok (.bipush 20, 2) := by decide +kernel
theorem dX7_costOf_6 : decode cX7_costOf 6 = .ok (.aload_n 0, 1) := by decide +kernel
theorem dX7_costOf_7 : decode cX7_costOf 7 = .ok (.getfield 40, 3) := by decide +kernel
theorem dX7_costOf_10 : decode cX7_costOf 10 = .ok (.iload_n 1, 1) := by decide +kernel
theorem dX7_costOf_11 : decode cX7_costOf 11 = .ok (.bipush 16, 2) := by decide +kernel
theorem dX7_costOf_13 : decode cX7_costOf 13 = .ok (.idiv, 1) := by decide +kernel
theorem dX7_costOf_14 : decode cX7_costOf 14 = .ok (.iaload, 1) := by decide +kernel
theorem dX7_costOf_15 : decode cX7_costOf 15 = .ok (.iadd, 1) := by decide +kernel
theorem dX7_costOf_16 : decode cX7_costOf 16 = .ok (.iaload, 1) := by decide +kernel
theorem dX7_costOf_17 : decode cX7_costOf 17 = .ok (.aload_n 0, 1) := by decide +kernel
theorem dX7_costOf_18 : decode cX7_costOf 18 = .ok (.getfield 52, 3) := by decide +kernel
theorem dX7_costOf_21 : decode cX7_costOf 21 = .ok (.bipush 12, 2) := by decide +kernel
theorem dX7_costOf_23 : decode cX7_costOf 23 = .ok (.iload_n 1, 1) := by decide +kernel
theorem dX7_costOf_24 : decode cX7_costOf 24 = .ok (.bipush 16, 2) := by decide +kernel
theorem dX7_costOf_26 : decode cX7_costOf 26 = .ok (.idiv, 1) := by decide +kernel
theorem dX7_costOf_27 : decode cX7_costOf 27 = .ok (.imul, 1) := by decide +kernel
theorem dX7_costOf_28 : decode cX7_costOf 28 = .ok (.iload_n 1, 1) := by decide +kernel
theorem dX7_costOf_29 : decode cX7_costOf 29 = .ok (.bipush 16, 2) := by decide +kernel
theorem dX7_costOf_31 : decode cX7_costOf 31 = .ok (.irem, 1) := by decide +kernel
theorem dX7_costOf_32 : decode cX7_costOf 32 = .ok (.iadd, 1) := by decide +kernel
theorem dX7_costOf_33 : decode cX7_costOf 33 = .ok (.iaload, 1) := by decide +kernel
theorem dX7_costOf_34 : decode cX7_costOf 34 = .ok (.iadd, 1) := by decide +kernel
theorem dX7_costOf_35 : decode cX7_costOf 35 = .ok (.ireturn, 1) := by decide +kernel
theorem dX7_next_0 : decode cX7_next 0 = .ok (.aload_n 0, 1) := by decide +kernel
theorem dX7_next_1 : decode cX7_next 1 = .ok (.getfield 55, 3) := by decide +kernel
theorem dX7_next_4 : decode cX7_next 4 = .ok (.bipush 12, 2) := by decide +kernel
theorem dX7_next_6 : decode cX7_next 6 = .ok (.iload_n 1, 1) := by decide +kernel
theorem dX7_next_7 : decode cX7_next 7 = .ok (.bipush 16, 2) := by decide +kernel
theorem dX7_next_9 : decode cX7_next 9 = .ok (.idiv, 1) := by decide +kernel
theorem dX7_next_10 : decode cX7_next 10 = .ok (.imul, 1) := by decide +kernel
theorem dX7_next_11 : decode cX7_next 11 = .ok (.iload_n 1, 1) := by decide +kernel
theorem dX7_next_12 : decode cX7_next 12 = .ok (.bipush 16, 2) := by decide +kernel
theorem dX7_next_14 : decode cX7_next 14 = .ok (.irem, 1) := by decide +kernel
theorem dX7_next_15 : decode cX7_next 15 = .ok (.iadd, 1) := by decide +kernel
theorem dX7_next_16 : decode cX7_next 16 = .ok (.iaload, 1) := by decide +kernel
theorem dX7_next_17 : decode cX7_next 17 = .ok (.ireturn, 1) := by decide +kernel
theorem dX7_pieces_0 : decode cX7_pieces 0 = .ok (.aload_n 0, 1) := by decide +kernel
theorem dX7_pieces_1 : decode cX7_pieces 1 = .ok (.getfield 109, 3) := by decide +kernel
theorem dX7_pieces_4 : decode cX7_pieces 4 = .ok (.ifCond .ne 6, 3) := by decide +kernel
theorem dX7_pieces_7 : decode cX7_pieces 7 = .ok (.bipush (-5), 2) := by decide +kernel
theorem dX7_pieces_9 : decode cX7_pieces 9 = .ok (.ireturn, 1) := by decide +kernel
theorem dX7_pieces_10 : decode cX7_pieces 10 = .ok (.aload_n 0, 1) := by decide +kernel
theorem dX7_pieces_11 : decode cX7_pieces 11 = .ok (.invokevirtual 127, 3) := by decide +kernel
theorem dX7_pieces_14 : decode cX7_pieces 14 = .ok (.aload_n 0, 1) := by decide +kernel
theorem dX7_pieces_15 : decode cX7_pieces 15 = .ok (.getfield 112, 3) := by decide +kernel
theorem dX7_pieces_18 : decode cX7_pieces 18 = .ok (.ireturn, 1) := by decide +kernel
theorem dX7_leastOf_0 : decode cX7_leastOf 0 = .ok (.iconst 0, 1) := by decide +kernel
theorem dX7_leastOf_1 : decode cX7_leastOf 1 = .ok (.istore_n 2, 1) := by decide +kernel
theorem dX7_leastOf_2 : decode cX7_leastOf 2 = .ok (.iload_n 2, 1) := by decide +kernel
theorem dX7_leastOf_3 : decode cX7_leastOf 3 = .ok (.iload_n 1, 1) := by decide +kernel
theorem dX7_leastOf_4 : decode cX7_leastOf 4 = .ok (.if_icmp .gt 145, 3) := by decide +kernel
theorem dX7_leastOf_7 : decode cX7_leastOf 7 = .ok (.aload_n 0, 1) := by decide +kernel
theorem dX7_leastOf_8 : decode cX7_leastOf 8 = .ok (.getfield 61, 3) := by decide +kernel
theorem dX7_leastOf_11 : decode cX7_leastOf 11 = .ok (.iload_n 2, 1) := by decide +kernel
theorem dX7_leastOf_12 : decode cX7_leastOf 12 = .ok (.aload_n 0, 1) := by decide +kernel
theorem dX7_leastOf_13 : decode cX7_leastOf 13 = .ok (.getfield 34, 3) := by decide +kernel
theorem dX7_leastOf_16 : decode cX7_leastOf 16 = .ok (.iload_n 2, 1) := by decide +kernel
theorem dX7_leastOf_17 : decode cX7_leastOf 17 = .ok (.iaload, 1) := by decide +kernel
theorem dX7_leastOf_18 : decode cX7_leastOf 18 = .ok (.ifCond .ne 27, 3) := by decide +kernel
theorem dX7_leastOf_21 : decode cX7_leastOf 21 = .ok (.aload_n 0, 1) := by decide +kernel
theorem dX7_leastOf_22 : decode cX7_leastOf 22 = .ok (.getfield 22, 3) := by decide +kernel
theorem dX7_leastOf_25 : decode cX7_leastOf 25 = .ok (.bipush 20, 2) := by decide +kernel
theorem dX7_leastOf_27 : decode cX7_leastOf 27 = .ok (.aload_n 0, 1) := by decide +kernel
theorem dX7_leastOf_28 : decode cX7_leastOf 28 = .ok (.getfield 40, 3) := by decide +kernel
theorem dX7_leastOf_31 : decode cX7_leastOf 31 = .ok (.iload_n 2, 1) := by decide +kernel
theorem dX7_leastOf_32 : decode cX7_leastOf 32 = .ok (.iaload, 1) := by decide +kernel
theorem dX7_leastOf_33 : decode cX7_leastOf 33 = .ok (.iadd, 1) := by decide +kernel
theorem dX7_leastOf_34 : decode cX7_leastOf 34 = .ok (.iaload, 1) := by decide +kernel
theorem dX7_leastOf_35 : decode cX7_leastOf 35 = .ok (.aload_n 0, 1) := by decide +kernel
theorem dX7_leastOf_36 : decode cX7_leastOf 36 = .ok (.getfield 43, 3) := by decide +kernel
theorem dX7_leastOf_39 : decode cX7_leastOf 39 = .ok (.iload_n 2, 1) := by decide +kernel
theorem dX7_leastOf_40 : decode cX7_leastOf 40 = .ok (.iaload, 1) := by decide +kernel
theorem dX7_leastOf_41 : decode cX7_leastOf 41 = .ok (.iadd, 1) := by decide +kernel
theorem dX7_leastOf_42 : decode cX7_leastOf 42 = .ok (.goto 5, 3) := by decide +kernel
theorem dX7_leastOf_45 : decode cX7_leastOf 45 = .ok (.bipush (-6), 2) := by decide +kernel
theorem dX7_leastOf_47 : decode cX7_leastOf 47 = .ok (.iastore, 1) := by decide +kernel
theorem dX7_leastOf_48 : decode cX7_leastOf 48 = .ok (.iconst 0, 1) := by decide +kernel
theorem dX7_leastOf_49 : decode cX7_leastOf 49 = .ok (.istore_n 3, 1) := by decide +kernel
theorem dX7_leastOf_50 : decode cX7_leastOf 50 = .ok (.iload_n 3, 1) := by decide +kernel
theorem dX7_leastOf_51 : decode cX7_leastOf 51 = .ok (.iload_n 2, 1) := by decide +kernel
theorem dX7_leastOf_52 : decode cX7_leastOf 52 = .ok (.if_icmp .ge 91, 3) := by decide +kernel
theorem dX7_leastOf_55 : decode cX7_leastOf 55 = .ok (.aload_n 0, 1) := by decide +kernel
theorem dX7_leastOf_56 : decode cX7_leastOf 56 = .ok (.iload_n 3, 1) := by decide +kernel
theorem dX7_leastOf_57 : decode cX7_leastOf 57 = .ok (.invokevirtual 130, 3) := by decide +kernel
theorem dX7_leastOf_60 : decode cX7_leastOf 60 = .ok (.aload_n 0, 1) := by decide +kernel
theorem dX7_leastOf_61 : decode cX7_leastOf 61 = .ok (.getfield 34, 3) := by decide +kernel
theorem dX7_leastOf_64 : decode cX7_leastOf 64 = .ok (.iload_n 2, 1) := by decide +kernel
theorem dX7_leastOf_65 : decode cX7_leastOf 65 = .ok (.iaload, 1) := by decide +kernel
theorem dX7_leastOf_66 : decode cX7_leastOf 66 = .ok (.if_icmp .ne 71, 3) := by decide +kernel
theorem dX7_leastOf_69 : decode cX7_leastOf 69 = .ok (.aload_n 0, 1) := by decide +kernel
theorem dX7_leastOf_70 : decode cX7_leastOf 70 = .ok (.getfield 61, 3) := by decide +kernel
theorem dX7_leastOf_73 : decode cX7_leastOf 73 = .ok (.iload_n 3, 1) := by decide +kernel
theorem dX7_leastOf_74 : decode cX7_leastOf 74 = .ok (.iaload, 1) := by decide +kernel
theorem dX7_leastOf_75 : decode cX7_leastOf 75 = .ok (.ifCond .lt 62, 3) := by decide +kernel
theorem dX7_leastOf_78 : decode cX7_leastOf 78 = .ok (.aload_n 0, 1) := by decide +kernel
theorem dX7_leastOf_79 : decode cX7_leastOf 79 = .ok (.getfield 61, 3) := by decide +kernel
theorem dX7_leastOf_82 : decode cX7_leastOf 82 = .ok (.iload_n 3, 1) := by decide +kernel
theorem dX7_leastOf_83 : decode cX7_leastOf 83 = .ok (.iaload, 1) := by decide +kernel
theorem dX7_leastOf_84 : decode cX7_leastOf 84 = .ok (.aload_n 0, 1) := by decide +kernel
theorem dX7_leastOf_85 : decode cX7_leastOf 85 = .ok (.iload_n 3, 1) := by decide +kernel
theorem dX7_leastOf_86 : decode cX7_leastOf 86 = .ok (.iload_n 2, 1) := by decide +kernel
theorem dX7_leastOf_87 : decode cX7_leastOf 87 = .ok (.invokevirtual 133, 3) := by decide +kernel
theorem dX7_leastOf_90 : decode cX7_leastOf 90 = .ok (.iadd, 1) := by decide +kernel
theorem dX7_leastOf_91 : decode cX7_leastOf 91 = .ok (.aload_n 0, 1) := by decide +kernel
theorem dX7_leastOf_92 : decode cX7_leastOf 92 = .ok (.getfield 43, 3) := by decide +kernel
theorem dX7_leastOf_95 : decode cX7_leastOf 95 = .ok (.iload_n 2, 1) := by decide +kernel
theorem dX7_leastOf_96 : decode cX7_leastOf 96 = .ok (.iaload, 1) := by decide +kernel
theorem dX7_leastOf_97 : decode cX7_leastOf 97 = .ok (.iadd, 1) := by decide +kernel
theorem dX7_leastOf_98 : decode cX7_leastOf 98 = .ok (.istore 4, 2) := by decide +kernel
theorem dX7_leastOf_100 : decode cX7_leastOf 100 = .ok (.aload_n 0, 1) := by decide +kernel
theorem dX7_leastOf_101 : decode cX7_leastOf 101 = .ok (.getfield 61, 3) := by decide +kernel
theorem dX7_leastOf_104 : decode cX7_leastOf 104 = .ok (.iload_n 2, 1) := by decide +kernel
theorem dX7_leastOf_105 : decode cX7_leastOf 105 = .ok (.aload_n 0, 1) := by decide +kernel
theorem dX7_leastOf_106 : decode cX7_leastOf 106 = .ok (.getfield 61, 3) := by decide +kernel
theorem dX7_leastOf_109 : decode cX7_leastOf 109 = .ok (.iload_n 2, 1) := by decide +kernel
theorem dX7_leastOf_110 : decode cX7_leastOf 110 = .ok (.iaload, 1) := by decide +kernel
theorem dX7_leastOf_111 : decode cX7_leastOf 111 = .ok (.ifCond .lt 14, 3) := by decide +kernel
theorem dX7_leastOf_114 : decode cX7_leastOf 114 = .ok (.iload 4, 2) := by decide +kernel
theorem dX7_leastOf_116 : decode cX7_leastOf 116 = .ok (.aload_n 0, 1) := by decide +kernel
theorem dX7_leastOf_117 : decode cX7_leastOf 117 = .ok (.getfield 61, 3) := by decide +kernel
theorem dX7_leastOf_120 : decode cX7_leastOf 120 = .ok (.iload_n 2, 1) := by decide +kernel
theorem dX7_leastOf_121 : decode cX7_leastOf 121 = .ok (.iaload, 1) := by decide +kernel
theorem dX7_leastOf_122 : decode cX7_leastOf 122 = .ok (.if_icmp .ge 8, 3) := by decide +kernel
theorem dX7_leastOf_125 : decode cX7_leastOf 125 = .ok (.iload 4, 2) := by decide +kernel
theorem dX7_leastOf_127 : decode cX7_leastOf 127 = .ok (.goto 9, 3) := by decide +kernel
theorem dX7_leastOf_130 : decode cX7_leastOf 130 = .ok (.aload_n 0, 1) := by decide +kernel
theorem dX7_leastOf_131 : decode cX7_leastOf 131 = .ok (.getfield 61, 3) := by decide +kernel
theorem dX7_leastOf_134 : decode cX7_leastOf 134 = .ok (.iload_n 2, 1) := by decide +kernel
theorem dX7_leastOf_135 : decode cX7_leastOf 135 = .ok (.iaload, 1) := by decide +kernel
theorem dX7_leastOf_136 : decode cX7_leastOf 136 = .ok (.iastore, 1) := by decide +kernel
theorem dX7_leastOf_137 : decode cX7_leastOf 137 = .ok (.iinc 3 1, 3) := by decide +kernel
theorem dX7_leastOf_140 : decode cX7_leastOf 140 = .ok (.goto (-90), 3) := by decide +kernel
theorem dX7_leastOf_143 : decode cX7_leastOf 143 = .ok (.iinc 2 1, 3) := by decide +kernel
theorem dX7_leastOf_146 : decode cX7_leastOf 146 = .ok (.goto (-144), 3) := by decide +kernel
theorem dX7_leastOf_149 : decode cX7_leastOf 149 = .ok (.aload_n 0, 1) := by decide +kernel
theorem dX7_leastOf_150 : decode cX7_leastOf 150 = .ok (.getfield 61, 3) := by decide +kernel
theorem dX7_leastOf_153 : decode cX7_leastOf 153 = .ok (.iload_n 1, 1) := by decide +kernel
theorem dX7_leastOf_154 : decode cX7_leastOf 154 = .ok (.iaload, 1) := by decide +kernel
theorem dX7_leastOf_155 : decode cX7_leastOf 155 = .ok (.ifCond .lt 12, 3) := by decide +kernel
theorem dX7_leastOf_158 : decode cX7_leastOf 158 = .ok (.aload_n 0, 1) := by decide +kernel
theorem dX7_leastOf_159 : decode cX7_leastOf 159 = .ok (.getfield 58, 3) := by decide +kernel
theorem dX7_leastOf_162 : decode cX7_leastOf 162 = .ok (.iload_n 1, 1) := by decide +kernel
theorem dX7_leastOf_163 : decode cX7_leastOf 163 = .ok (.iaload, 1) := by decide +kernel
theorem dX7_leastOf_164 : decode cX7_leastOf 164 = .ok (.ifCond .ne 8, 3) := by decide +kernel
theorem dX7_leastOf_167 : decode cX7_leastOf 167 = .ok (.bipush (-6), 2) := by decide +kernel
theorem dX7_leastOf_169 : decode cX7_leastOf 169 = .ok (.goto 26, 3) := by decide +kernel
theorem dX7_leastOf_172 : decode cX7_leastOf 172 = .ok (.aload_n 0, 1) := by decide +kernel
theorem dX7_leastOf_173 : decode cX7_leastOf 173 = .ok (.getfield 61, 3) := by decide +kernel
theorem dX7_leastOf_176 : decode cX7_leastOf 176 = .ok (.iload_n 1, 1) := by decide +kernel
theorem dX7_leastOf_177 : decode cX7_leastOf 177 = .ok (.iaload, 1) := by decide +kernel
theorem dX7_leastOf_178 : decode cX7_leastOf 178 = .ok (.aload_n 0, 1) := by decide +kernel
theorem dX7_leastOf_179 : decode cX7_leastOf 179 = .ok (.getfield 52, 3) := by decide +kernel
theorem dX7_leastOf_182 : decode cX7_leastOf 182 = .ok (.bipush 12, 2) := by decide +kernel
theorem dX7_leastOf_184 : decode cX7_leastOf 184 = .ok (.iload_n 1, 1) := by decide +kernel
theorem dX7_leastOf_185 : decode cX7_leastOf 185 = .ok (.imul, 1) := by decide +kernel
theorem dX7_leastOf_186 : decode cX7_leastOf 186 = .ok (.iaload, 1) := by decide +kernel
theorem dX7_leastOf_187 : decode cX7_leastOf 187 = .ok (.iadd, 1) := by decide +kernel
theorem dX7_leastOf_188 : decode cX7_leastOf 188 = .ok (.aload_n 0, 1) := by decide +kernel
theorem dX7_leastOf_189 : decode cX7_leastOf 189 = .ok (.getfield 43, 3) := by decide +kernel
theorem dX7_leastOf_192 : decode cX7_leastOf 192 = .ok (.iload_n 1, 1) := by decide +kernel
theorem dX7_leastOf_193 : decode cX7_leastOf 193 = .ok (.iaload, 1) := by decide +kernel
theorem dX7_leastOf_194 : decode cX7_leastOf 194 = .ok (.isub, 1) := by decide +kernel
theorem dX7_leastOf_195 : decode cX7_leastOf 195 = .ok (.ireturn, 1) := by decide +kernel
theorem dX7_piece_0 : decode cX7_piece 0 = .ok (.aload_n 0, 1) := by decide +kernel
theorem dX7_piece_1 : decode cX7_piece 1 = .ok (.getfield 109, 3) := by decide +kernel
theorem dX7_piece_4 : decode cX7_piece 4 = .ok (.ifCond .ne 6, 3) := by decide +kernel
theorem dX7_piece_7 : decode cX7_piece 7 = .ok (.bipush (-5), 2) := by decide +kernel
theorem dX7_piece_9 : decode cX7_piece 9 = .ok (.ireturn, 1) := by decide +kernel
theorem dX7_piece_10 : decode cX7_piece 10 = .ok (.aload_n 0, 1) := by decide +kernel
theorem dX7_piece_11 : decode cX7_piece 11 = .ok (.invokevirtual 136, 3) := by decide +kernel
theorem dX7_piece_14 : decode cX7_piece 14 = .ok (.iload_n 1, 1) := by decide +kernel
theorem dX7_piece_15 : decode cX7_piece 15 = .ok (.iconst 0, 1) := by decide +kernel
theorem dX7_piece_16 : decode cX7_piece 16 = .ok (.aload_n 0, 1) := by decide +kernel
theorem dX7_piece_17 : decode cX7_piece 17 = .ok (.getfield 112, 3) := by decide +kernel
theorem dX7_piece_20 : decode cX7_piece 20 = .ok (.iconst 1, 1) := by decide +kernel
theorem dX7_piece_21 : decode cX7_piece 21 = .ok (.isub, 1) := by decide +kernel
theorem dX7_piece_22 : decode cX7_piece 22 = .ok (.invokestatic 74, 3) := by decide +kernel
theorem dX7_piece_25 : decode cX7_piece 25 = .ok (.ifCond .ne 5, 3) := by decide +kernel
theorem dX7_piece_28 : decode cX7_piece 28 = .ok (.iconst (-1), 1) := by decide +kernel
theorem dX7_piece_29 : decode cX7_piece 29 = .ok (.ireturn, 1) := by decide +kernel
theorem dX7_piece_30 : decode cX7_piece 30 = .ok (.iload_n 2, 1) := by decide +kernel
theorem dX7_piece_31 : decode cX7_piece 31 = .ok (.tableswitch 68 0 4 #[33, 40, 47, 54, 61], 33) := by decide +kernel
theorem dX7_piece_64 : decode cX7_piece 64 = .ok (.aload_n 0, 1) := by decide +kernel
theorem dX7_piece_65 : decode cX7_piece 65 = .ok (.getfield 34, 3) := by decide +kernel
theorem dX7_piece_68 : decode cX7_piece 68 = .ok (.iload_n 1, 1) := by decide +kernel
theorem dX7_piece_69 : decode cX7_piece 69 = .ok (.iaload, 1) := by decide +kernel
theorem dX7_piece_70 : decode cX7_piece 70 = .ok (.ireturn, 1) := by decide +kernel
theorem dX7_piece_71 : decode cX7_piece 71 = .ok (.aload_n 0, 1) := by decide +kernel
theorem dX7_piece_72 : decode cX7_piece 72 = .ok (.getfield 37, 3) := by decide +kernel
theorem dX7_piece_75 : decode cX7_piece 75 = .ok (.iload_n 1, 1) := by decide +kernel
theorem dX7_piece_76 : decode cX7_piece 76 = .ok (.iaload, 1) := by decide +kernel
theorem dX7_piece_77 : decode cX7_piece 77 = .ok (.ireturn, 1) := by decide +kernel
theorem dX7_piece_78 : decode cX7_piece 78 = .ok (.aload_n 0, 1) := by decide +kernel
theorem dX7_piece_79 : decode cX7_piece 79 = .ok (.getfield 40, 3) := by decide +kernel
theorem dX7_piece_82 : decode cX7_piece 82 = .ok (.iload_n 1, 1) := by decide +kernel
theorem dX7_piece_83 : decode cX7_piece 83 = .ok (.iaload, 1) := by decide +kernel
theorem dX7_piece_84 : decode cX7_piece 84 = .ok (.ireturn, 1) := by decide +kernel
theorem dX7_piece_85 : decode cX7_piece 85 = .ok (.aload_n 0, 1) := by decide +kernel
theorem dX7_piece_86 : decode cX7_piece 86 = .ok (.getfield 43, 3) := by decide +kernel
theorem dX7_piece_89 : decode cX7_piece 89 = .ok (.iload_n 1, 1) := by decide +kernel
theorem dX7_piece_90 : decode cX7_piece 90 = .ok (.iaload, 1) := by decide +kernel
theorem dX7_piece_91 : decode cX7_piece 91 = .ok (.ireturn, 1) := by decide +kernel
theorem dX7_piece_92 : decode cX7_piece 92 = .ok (.aload_n 0, 1) := by decide +kernel
theorem dX7_piece_93 : decode cX7_piece 93 = .ok (.getfield 46, 3) := by decide +kernel
theorem dX7_piece_96 : decode cX7_piece 96 = .ok (.iload_n 1, 1) := by decide +kernel
theorem dX7_piece_97 : decode cX7_piece 97 = .ok (.iaload, 1) := by decide +kernel
theorem dX7_piece_98 : decode cX7_piece 98 = .ok (.ireturn, 1) := by decide +kernel
theorem dX7_piece_99 : decode cX7_piece 99 = .ok (.iload_n 2, 1) := by decide +kernel
theorem dX7_piece_100 : decode cX7_piece 100 = .ok (.iconst 5, 1) := by decide +kernel
theorem dX7_piece_101 : decode cX7_piece 101 = .ok (.if_icmp .ne 11, 3) := by decide +kernel
theorem dX7_piece_104 : decode cX7_piece 104 = .ok (.aload_n 0, 1) := by decide +kernel
theorem dX7_piece_105 : decode cX7_piece 105 = .ok (.iload_n 1, 1) := by decide +kernel
theorem dX7_piece_106 : decode cX7_piece 106 = .ok (.invokevirtual 139, 3) := by decide +kernel
theorem dX7_piece_109 : decode cX7_piece 109 = .ok (.goto 5, 3) := by decide +kernel
theorem dX7_piece_112 : decode cX7_piece 112 = .ok (.bipush (-2), 2) := by decide +kernel
theorem dX7_piece_114 : decode cX7_piece 114 = .ok (.ireturn, 1) := by decide +kernel
theorem dX7_ways_0 : decode cX7_ways 0 = .ok (.aload_n 0, 1) := by decide +kernel
theorem dX7_ways_1 : decode cX7_ways 1 = .ok (.getfield 109, 3) := by decide +kernel
theorem dX7_ways_4 : decode cX7_ways 4 = .ok (.ifCond .ne 6, 3) := by decide +kernel
theorem dX7_ways_7 : decode cX7_ways 7 = .ok (.bipush (-5), 2) := by decide +kernel
theorem dX7_ways_9 : decode cX7_ways 9 = .ok (.ireturn, 1) := by decide +kernel
theorem dX7_ways_10 : decode cX7_ways 10 = .ok (.aload_n 0, 1) := by decide +kernel
theorem dX7_ways_11 : decode cX7_ways 11 = .ok (.invokevirtual 127, 3) := by decide +kernel
theorem dX7_ways_14 : decode cX7_ways 14 = .ok (.iconst 0, 1) := by decide +kernel
theorem dX7_ways_15 : decode cX7_ways 15 = .ok (.istore_n 1, 1) := by decide +kernel
theorem dX7_ways_16 : decode cX7_ways 16 = .ok (.iload_n 1, 1) := by decide +kernel
theorem dX7_ways_17 : decode cX7_ways 17 = .ok (.aload_n 0, 1) := by decide +kernel
theorem dX7_ways_18 : decode cX7_ways 18 = .ok (.getfield 109, 3) := by decide +kernel
theorem dX7_ways_21 : decode cX7_ways 21 = .ok (.if_icmp .gt 85, 3) := by decide +kernel
theorem dX7_ways_24 : decode cX7_ways 24 = .ok (.aload_n 0, 1) := by decide +kernel
theorem dX7_ways_25 : decode cX7_ways 25 = .ok (.getfield 64, 3) := by decide +kernel
theorem dX7_ways_28 : decode cX7_ways 28 = .ok (.iload_n 1, 1) := by decide +kernel
theorem dX7_ways_29 : decode cX7_ways 29 = .ok (.iload_n 1, 1) := by decide +kernel
theorem dX7_ways_30 : decode cX7_ways 30 = .ok (.ifCond .ne 7, 3) := by decide +kernel
theorem dX7_ways_33 : decode cX7_ways 33 = .ok (.iconst 1, 1) := by decide +kernel
theorem dX7_ways_34 : decode cX7_ways 34 = .ok (.goto 4, 3) := by decide +kernel
theorem dX7_ways_37 : decode cX7_ways 37 = .ok (.iconst 0, 1) := by decide +kernel
theorem dX7_ways_38 : decode cX7_ways 38 = .ok (.iastore, 1) := by decide +kernel
theorem dX7_ways_39 : decode cX7_ways 39 = .ok (.iconst 0, 1) := by decide +kernel
theorem dX7_ways_40 : decode cX7_ways 40 = .ok (.istore_n 2, 1) := by decide +kernel
theorem dX7_ways_41 : decode cX7_ways 41 = .ok (.iload_n 2, 1) := by decide +kernel
theorem dX7_ways_42 : decode cX7_ways 42 = .ok (.aload_n 0, 1) := by decide +kernel
theorem dX7_ways_43 : decode cX7_ways 43 = .ok (.getfield 112, 3) := by decide +kernel
theorem dX7_ways_46 : decode cX7_ways 46 = .ok (.if_icmp .ge 54, 3) := by decide +kernel
theorem dX7_ways_49 : decode cX7_ways 49 = .ok (.aload_n 0, 1) := by decide +kernel
theorem dX7_ways_50 : decode cX7_ways 50 = .ok (.getfield 64, 3) := by decide +kernel
theorem dX7_ways_53 : decode cX7_ways 53 = .ok (.iload_n 1, 1) := by decide +kernel
theorem dX7_ways_54 : decode cX7_ways 54 = .ok (.aload_n 0, 1) := by decide +kernel
theorem dX7_ways_55 : decode cX7_ways 55 = .ok (.iload_n 2, 1) := by decide +kernel
theorem dX7_ways_56 : decode cX7_ways 56 = .ok (.invokevirtual 130, 3) := by decide +kernel
theorem dX7_ways_59 : decode cX7_ways 59 = .ok (.iload_n 1, 1) := by decide +kernel
theorem dX7_ways_60 : decode cX7_ways 60 = .ok (.if_icmp .ne 27, 3) := by decide +kernel
theorem dX7_ways_63 : decode cX7_ways 63 = .ok (.aload_n 0, 1) := by decide +kernel
theorem dX7_ways_64 : decode cX7_ways 64 = .ok (.getfield 64, 3) := by decide +kernel
theorem dX7_ways_67 : decode cX7_ways 67 = .ok (.iload_n 1, 1) := by decide +kernel
theorem dX7_ways_68 : decode cX7_ways 68 = .ok (.iaload, 1) := by decide +kernel
theorem dX7_ways_69 : decode cX7_ways 69 = .ok (.aload_n 0, 1) := by decide +kernel
theorem dX7_ways_70 : decode cX7_ways 70 = .ok (.getfield 64, 3) := by decide +kernel
theorem dX7_ways_73 : decode cX7_ways 73 = .ok (.aload_n 0, 1) := by decide +kernel
theorem dX7_ways_74 : decode cX7_ways 74 = .ok (.getfield 34, 3) := by decide +kernel
theorem dX7_ways_77 : decode cX7_ways 77 = .ok (.iload_n 2, 1) := by decide +kernel
theorem dX7_ways_78 : decode cX7_ways 78 = .ok (.iaload, 1) := by decide +kernel
theorem dX7_ways_79 : decode cX7_ways 79 = .ok (.iaload, 1) := by decide +kernel
theorem dX7_ways_80 : decode cX7_ways 80 = .ok (.iadd, 1) := by decide +kernel
theorem dX7_ways_81 : decode cX7_ways 81 = .ok (.ldc 142, 2) := by decide +kernel
theorem dX7_ways_83 : decode cX7_ways 83 = .ok (.irem, 1) := by decide +kernel
theorem dX7_ways_84 : decode cX7_ways 84 = .ok (.goto 9, 3) := by decide +kernel
theorem dX7_ways_87 : decode cX7_ways 87 = .ok (.aload_n 0, 1) := by decide +kernel
theorem dX7_ways_88 : decode cX7_ways 88 = .ok (.getfield 64, 3) := by decide +kernel
theorem dX7_ways_91 : decode cX7_ways 91 = .ok (.iload_n 1, 1) := by decide +kernel
theorem dX7_ways_92 : decode cX7_ways 92 = .ok (.iaload, 1) := by decide +kernel
theorem dX7_ways_93 : decode cX7_ways 93 = .ok (.iastore, 1) := by decide +kernel
theorem dX7_ways_94 : decode cX7_ways 94 = .ok (.iinc 2 1, 3) := by decide +kernel
theorem dX7_ways_97 : decode cX7_ways 97 = .ok (.goto (-56), 3) := by decide +kernel
theorem dX7_ways_100 : decode cX7_ways 100 = .ok (.iinc 1 1, 3) := by decide +kernel
theorem dX7_ways_103 : decode cX7_ways 103 = .ok (.goto (-87), 3) := by decide +kernel
theorem dX7_ways_106 : decode cX7_ways 106 = .ok (.aload_n 0, 1) := by decide +kernel
theorem dX7_ways_107 : decode cX7_ways 107 = .ok (.getfield 64, 3) := by decide +kernel
theorem dX7_ways_110 : decode cX7_ways 110 = .ok (.aload_n 0, 1) := by decide +kernel
theorem dX7_ways_111 : decode cX7_ways 111 = .ok (.getfield 109, 3) := by decide +kernel
theorem dX7_ways_114 : decode cX7_ways 114 = .ok (.iaload, 1) := by decide +kernel
theorem dX7_ways_115 : decode cX7_ways 115 = .ok (.ireturn, 1) := by decide +kernel
theorem dX7_cutting_0 : decode cX7_cutting 0 = .ok (.aload_n 0, 1) := by decide +kernel
theorem dX7_cutting_1 : decode cX7_cutting 1 = .ok (.getfield 109, 3) := by decide +kernel
theorem dX7_cutting_4 : decode cX7_cutting 4 = .ok (.ifCond .ne 6, 3) := by decide +kernel
theorem dX7_cutting_7 : decode cX7_cutting 7 = .ok (.bipush (-5), 2) := by decide +kernel
theorem dX7_cutting_9 : decode cX7_cutting 9 = .ok (.ireturn, 1) := by decide +kernel
theorem dX7_cutting_10 : decode cX7_cutting 10 = .ok (.iload_n 1, 1) := by decide +kernel
theorem dX7_cutting_11 : decode cX7_cutting 11 = .ok (.iconst 0, 1) := by decide +kernel
theorem dX7_cutting_12 : decode cX7_cutting 12 = .ok (.bipush 11, 2) := by decide +kernel
theorem dX7_cutting_14 : decode cX7_cutting 14 = .ok (.invokestatic 74, 3) := by decide +kernel
theorem dX7_cutting_17 : decode cX7_cutting 17 = .ok (.ifCond .ne 5, 3) := by decide +kernel
theorem dX7_cutting_20 : decode cX7_cutting 20 = .ok (.iconst (-1), 1) := by decide +kernel
theorem dX7_cutting_21 : decode cX7_cutting 21 = .ok (.ireturn, 1) := by decide +kernel
theorem dX7_cutting_22 : decode cX7_cutting 22 = .ok (.iload_n 2, 1) := by decide +kernel
theorem dX7_cutting_23 : decode cX7_cutting 23 = .ok (.bipush (-2), 2) := by decide +kernel
theorem dX7_cutting_25 : decode cX7_cutting 25 = .ok (.if_icmp .ge 6, 3) := by decide +kernel
theorem dX7_cutting_28 : decode cX7_cutting 28 = .ok (.bipush (-2), 2) := by decide +kernel
theorem dX7_cutting_30 : decode cX7_cutting 30 = .ok (.ireturn, 1) := by decide +kernel
theorem dX7_cutting_31 : decode cX7_cutting 31 = .ok (.aload_n 0, 1) := by decide +kernel
theorem dX7_cutting_32 : decode cX7_cutting 32 = .ok (.invokevirtual 136, 3) := by decide +kernel
theorem dX7_cutting_35 : decode cX7_cutting 35 = .ok (.aload_n 0, 1) := by decide +kernel
theorem dX7_cutting_36 : decode cX7_cutting 36 = .ok (.iload_n 1, 1) := by decide +kernel
theorem dX7_cutting_37 : decode cX7_cutting 37 = .ok (.invokevirtual 143, 3) := by decide +kernel
theorem dX7_cutting_40 : decode cX7_cutting 40 = .ok (.istore_n 3, 1) := by decide +kernel
theorem dX7_cutting_41 : decode cX7_cutting 41 = .ok (.iload_n 3, 1) := by decide +kernel
theorem dX7_cutting_42 : decode cX7_cutting 42 = .ok (.ifCond .ge 6, 3) := by decide +kernel
theorem dX7_cutting_45 : decode cX7_cutting 45 = .ok (.bipush (-6), 2) := by decide +kernel
theorem dX7_cutting_47 : decode cX7_cutting 47 = .ok (.ireturn, 1) := by decide +kernel
theorem dX7_cutting_48 : decode cX7_cutting 48 = .ok (.iload_n 2, 1) := by decide +kernel
theorem dX7_cutting_49 : decode cX7_cutting 49 = .ok (.iconst (-1), 1) := by decide +kernel
theorem dX7_cutting_50 : decode cX7_cutting 50 = .ok (.if_icmp .ne 9, 3) := by decide +kernel
theorem dX7_cutting_53 : decode cX7_cutting 53 = .ok (.aload_n 0, 1) := by decide +kernel
theorem dX7_cutting_54 : decode cX7_cutting 54 = .ok (.iload_n 3, 1) := by decide +kernel
theorem dX7_cutting_55 : decode cX7_cutting 55 = .ok (.invokevirtual 146, 3) := by decide +kernel
theorem dX7_cutting_58 : decode cX7_cutting 58 = .ok (.ireturn, 1) := by decide +kernel
theorem dX7_cutting_59 : decode cX7_cutting 59 = .ok (.iconst 0, 1) := by decide +kernel
theorem dX7_cutting_60 : decode cX7_cutting 60 = .ok (.istore 4, 2) := by decide +kernel
theorem dX7_cutting_62 : decode cX7_cutting 62 = .ok (.iload_n 3, 1) := by decide +kernel
theorem dX7_cutting_63 : decode cX7_cutting 63 = .ok (.istore 5, 2) := by decide +kernel
theorem dX7_cutting_65 : decode cX7_cutting 65 = .ok (.iload 5, 2) := by decide +kernel
theorem dX7_cutting_67 : decode cX7_cutting 67 = .ok (.ifCond .lt 29, 3) := by decide +kernel
theorem dX7_cutting_70 : decode cX7_cutting 70 = .ok (.iload 4, 2) := by decide +kernel
theorem dX7_cutting_72 : decode cX7_cutting 72 = .ok (.iload_n 2, 1) := by decide +kernel
theorem dX7_cutting_73 : decode cX7_cutting 73 = .ok (.if_icmp .ne 9, 3) := by decide +kernel
theorem dX7_cutting_76 : decode cX7_cutting 76 = .ok (.iload 5, 2) := by decide +kernel
theorem dX7_cutting_78 : decode cX7_cutting 78 = .ok (.bipush 16, 2) := by decide +kernel
theorem dX7_cutting_80 : decode cX7_cutting 80 = .ok (.idiv, 1) := by decide +kernel
theorem dX7_cutting_81 : decode cX7_cutting 81 = .ok (.ireturn, 1) := by decide +kernel
theorem dX7_cutting_82 : decode cX7_cutting 82 = .ok (.iinc 4 1, 3) := by decide +kernel
theorem dX7_cutting_85 : decode cX7_cutting 85 = .ok (.aload_n 0, 1) := by decide +kernel
theorem dX7_cutting_86 : decode cX7_cutting 86 = .ok (.iload 5, 2) := by decide +kernel
theorem dX7_cutting_88 : decode cX7_cutting 88 = .ok (.invokevirtual 149, 3) := by decide +kernel
theorem dX7_cutting_91 : decode cX7_cutting 91 = .ok (.istore 5, 2) := by decide +kernel
theorem dX7_cutting_93 : decode cX7_cutting 93 = .ok (.goto (-28), 3) := by decide +kernel
theorem dX7_cutting_96 : decode cX7_cutting 96 = .ok (.iload_n 2, 1) := by decide +kernel
theorem dX7_cutting_97 : decode cX7_cutting 97 = .ok (.bipush (-2), 2) := by decide +kernel
theorem dX7_cutting_99 : decode cX7_cutting 99 = .ok (.if_icmp .ne 8, 3) := by decide +kernel
theorem dX7_cutting_102 : decode cX7_cutting 102 = .ok (.iload 4, 2) := by decide +kernel
theorem dX7_cutting_104 : decode cX7_cutting 104 = .ok (.goto 5, 3) := by decide +kernel
theorem dX7_cutting_107 : decode cX7_cutting 107 = .ok (.bipush (-6), 2) := by decide +kernel
theorem dX7_cutting_109 : decode cX7_cutting 109 = .ok (.ireturn, 1) := by decide +kernel
theorem dX7_sure_0 : decode cX7_sure 0 = .ok (.aload_n 0, 1) := by decide +kernel
theorem dX7_sure_1 : decode cX7_sure 1 = .ok (.getfield 109, 3) := by decide +kernel
theorem dX7_sure_4 : decode cX7_sure 4 = .ok (.ifCond .ne 6, 3) := by decide +kernel
theorem dX7_sure_7 : decode cX7_sure 7 = .ok (.bipush (-5), 2) := by decide +kernel
theorem dX7_sure_9 : decode cX7_sure 9 = .ok (.ireturn, 1) := by decide +kernel
theorem dX7_sure_10 : decode cX7_sure 10 = .ok (.iload_n 1, 1) := by decide +kernel
theorem dX7_sure_11 : decode cX7_sure 11 = .ok (.iconst 0, 1) := by decide +kernel
theorem dX7_sure_12 : decode cX7_sure 12 = .ok (.sipush 999, 3) := by decide +kernel
theorem dX7_sure_15 : decode cX7_sure 15 = .ok (.invokestatic 74, 3) := by decide +kernel
theorem dX7_sure_18 : decode cX7_sure 18 = .ok (.ifCond .ne 6, 3) := by decide +kernel
theorem dX7_sure_21 : decode cX7_sure 21 = .ok (.bipush (-2), 2) := by decide +kernel
theorem dX7_sure_23 : decode cX7_sure 23 = .ok (.ireturn, 1) := by decide +kernel
theorem dX7_sure_24 : decode cX7_sure 24 = .ok (.aload_n 0, 1) := by decide +kernel
theorem dX7_sure_25 : decode cX7_sure 25 = .ok (.invokevirtual 136, 3) := by decide +kernel
theorem dX7_sure_28 : decode cX7_sure 28 = .ok (.aload_n 0, 1) := by decide +kernel
theorem dX7_sure_29 : decode cX7_sure 29 = .ok (.iconst 0, 1) := by decide +kernel
theorem dX7_sure_30 : decode cX7_sure 30 = .ok (.invokevirtual 143, 3) := by decide +kernel
theorem dX7_sure_33 : decode cX7_sure 33 = .ok (.istore_n 2, 1) := by decide +kernel
theorem dX7_sure_34 : decode cX7_sure 34 = .ok (.iload_n 2, 1) := by decide +kernel
theorem dX7_sure_35 : decode cX7_sure 35 = .ok (.ifCond .ge 6, 3) := by decide +kernel
theorem dX7_sure_38 : decode cX7_sure 38 = .ok (.bipush (-6), 2) := by decide +kernel
theorem dX7_sure_40 : decode cX7_sure 40 = .ok (.ireturn, 1) := by decide +kernel
theorem dX7_sure_41 : decode cX7_sure 41 = .ok (.aload_n 0, 1) := by decide +kernel
theorem dX7_sure_42 : decode cX7_sure 42 = .ok (.iload_n 2, 1) := by decide +kernel
theorem dX7_sure_43 : decode cX7_sure 43 = .ok (.invokevirtual 146, 3) := by decide +kernel
theorem dX7_sure_46 : decode cX7_sure 46 = .ok (.iload_n 1, 1) := by decide +kernel
theorem dX7_sure_47 : decode cX7_sure 47 = .ok (.iadd, 1) := by decide +kernel
theorem dX7_sure_48 : decode cX7_sure 48 = .ok (.istore_n 3, 1) := by decide +kernel
theorem dX7_sure_49 : decode cX7_sure 49 = .ok (.iconst 0, 1) := by decide +kernel
theorem dX7_sure_50 : decode cX7_sure 50 = .ok (.istore 4, 2) := by decide +kernel
theorem dX7_sure_52 : decode cX7_sure 52 = .ok (.iconst 1, 1) := by decide +kernel
theorem dX7_sure_53 : decode cX7_sure 53 = .ok (.istore 5, 2) := by decide +kernel
theorem dX7_sure_55 : decode cX7_sure 55 = .ok (.iload 5, 2) := by decide +kernel
theorem dX7_sure_57 : decode cX7_sure 57 = .ok (.aload_n 0, 1) := by decide +kernel
theorem dX7_sure_58 : decode cX7_sure 58 = .ok (.getfield 109, 3) := by decide +kernel
theorem dX7_sure_61 : decode cX7_sure 61 = .ok (.if_icmp .ge 18, 3) := by decide +kernel
theorem dX7_sure_64 : decode cX7_sure 64 = .ok (.iload 4, 2) := by decide +kernel
theorem dX7_sure_66 : decode cX7_sure 66 = .ok (.iconst 1, 1) := by decide +kernel
theorem dX7_sure_67 : decode cX7_sure 67 = .ok (.iload 5, 2) := by decide +kernel
theorem dX7_sure_69 : decode cX7_sure 69 = .ok (.ishl, 1) := by decide +kernel
theorem dX7_sure_70 : decode cX7_sure 70 = .ok (.ior, 1) := by decide +kernel
theorem dX7_sure_71 : decode cX7_sure 71 = .ok (.istore 4, 2) := by decide +kernel
theorem dX7_sure_73 : decode cX7_sure 73 = .ok (.iinc 5 1, 3) := by decide +kernel
theorem dX7_sure_76 : decode cX7_sure 76 = .ok (.goto (-21), 3) := by decide +kernel
theorem dX7_sure_79 : decode cX7_sure 79 = .ok (.aload_n 0, 1) := by decide +kernel
theorem dX7_sure_80 : decode cX7_sure 80 = .ok (.aload_n 0, 1) := by decide +kernel
theorem dX7_sure_81 : decode cX7_sure 81 = .ok (.getfield 112, 3) := by decide +kernel
theorem dX7_sure_84 : decode cX7_sure 84 = .ok (.iconst 1, 1) := by decide +kernel
theorem dX7_sure_85 : decode cX7_sure 85 = .ok (.isub, 1) := by decide +kernel
theorem dX7_sure_86 : decode cX7_sure 86 = .ok (.invokevirtual 139, 3) := by decide +kernel
theorem dX7_sure_89 : decode cX7_sure 89 = .ok (.pop, 1) := by decide +kernel
theorem dX7_sure_90 : decode cX7_sure 90 = .ok (.iconst 0, 1) := by decide +kernel
theorem dX7_sure_91 : decode cX7_sure 91 = .ok (.istore 5, 2) := by decide +kernel
theorem dX7_sure_93 : decode cX7_sure 93 = .ok (.iload 5, 2) := by decide +kernel
theorem dX7_sure_95 : decode cX7_sure 95 = .ok (.aload_n 0, 1) := by decide +kernel
theorem dX7_sure_96 : decode cX7_sure 96 = .ok (.getfield 112, 3) := by decide +kernel
theorem dX7_sure_99 : decode cX7_sure 99 = .ok (.if_icmp .ge 112, 3) := by decide +kernel
theorem dX7_sure_102 : decode cX7_sure 102 = .ok (.aload_n 0, 1) := by decide +kernel
theorem dX7_sure_103 : decode cX7_sure 103 = .ok (.getfield 61, 3) := by decide +kernel
theorem dX7_sure_106 : decode cX7_sure 106 = .ok (.iload 5, 2) := by decide +kernel
theorem dX7_sure_108 : decode cX7_sure 108 = .ok (.iaload, 1) := by decide +kernel
theorem dX7_sure_109 : decode cX7_sure 109 = .ok (.ifCond .lt 13, 3) := by decide +kernel
theorem dX7_sure_112 : decode cX7_sure 112 = .ok (.aload_n 0, 1) := by decide +kernel
theorem dX7_sure_113 : decode cX7_sure 113 = .ok (.getfield 58, 3) := by decide +kernel
theorem dX7_sure_116 : decode cX7_sure 116 = .ok (.iload 5, 2) := by decide +kernel
theorem dX7_sure_118 : decode cX7_sure 118 = .ok (.iaload, 1) := by decide +kernel
theorem dX7_sure_119 : decode cX7_sure 119 = .ok (.ifCond .ne 8, 3) := by decide +kernel
theorem dX7_sure_122 : decode cX7_sure 122 = .ok (.bipush (-6), 2) := by decide +kernel
theorem dX7_sure_124 : decode cX7_sure 124 = .ok (.goto 29, 3) := by decide +kernel
theorem dX7_sure_127 : decode cX7_sure 127 = .ok (.aload_n 0, 1) := by decide +kernel
theorem dX7_sure_128 : decode cX7_sure 128 = .ok (.getfield 61, 3) := by decide +kernel
theorem dX7_sure_131 : decode cX7_sure 131 = .ok (.iload 5, 2) := by decide +kernel
theorem dX7_sure_133 : decode cX7_sure 133 = .ok (.iaload, 1) := by decide +kernel
theorem dX7_sure_134 : decode cX7_sure 134 = .ok (.aload_n 0, 1) := by decide +kernel
theorem dX7_sure_135 : decode cX7_sure 135 = .ok (.getfield 52, 3) := by decide +kernel
theorem dX7_sure_138 : decode cX7_sure 138 = .ok (.bipush 12, 2) := by decide +kernel
theorem dX7_sure_140 : decode cX7_sure 140 = .ok (.iload 5, 2) := by decide +kernel
theorem dX7_sure_142 : decode cX7_sure 142 = .ok (.imul, 1) := by decide +kernel
theorem dX7_sure_143 : decode cX7_sure 143 = .ok (.iaload, 1) := by decide +kernel
theorem dX7_sure_144 : decode cX7_sure 144 = .ok (.iadd, 1) := by decide +kernel
theorem dX7_sure_145 : decode cX7_sure 145 = .ok (.aload_n 0, 1) := by decide +kernel
theorem dX7_sure_146 : decode cX7_sure 146 = .ok (.getfield 43, 3) := by decide +kernel
theorem dX7_sure_149 : decode cX7_sure 149 = .ok (.iload 5, 2) := by decide +kernel
theorem dX7_sure_151 : decode cX7_sure 151 = .ok (.iaload, 1) := by decide +kernel
theorem dX7_sure_152 : decode cX7_sure 152 = .ok (.isub, 1) := by decide +kernel
theorem dX7_sure_153 : decode cX7_sure 153 = .ok (.istore 6, 2) := by decide +kernel
theorem dX7_sure_155 : decode cX7_sure 155 = .ok (.aload_n 0, 1) := by decide +kernel
theorem dX7_sure_156 : decode cX7_sure 156 = .ok (.getfield 34, 3) := by decide +kernel
theorem dX7_sure_159 : decode cX7_sure 159 = .ok (.iload 5, 2) := by decide +kernel
theorem dX7_sure_161 : decode cX7_sure 161 = .ok (.iaload, 1) := by decide +kernel
theorem dX7_sure_162 : decode cX7_sure 162 = .ok (.iconst 1, 1) := by decide +kernel
theorem dX7_sure_163 : decode cX7_sure 163 = .ok (.iadd, 1) := by decide +kernel
theorem dX7_sure_164 : decode cX7_sure 164 = .ok (.istore 7, 2) := by decide +kernel
theorem dX7_sure_166 : decode cX7_sure 166 = .ok (.iload 7, 2) := by decide +kernel
theorem dX7_sure_168 : decode cX7_sure 168 = .ok (.aload_n 0, 1) := by decide +kernel
theorem dX7_sure_169 : decode cX7_sure 169 = .ok (.iload 5, 2) := by decide +kernel
theorem dX7_sure_171 : decode cX7_sure 171 = .ok (.invokevirtual 130, 3) := by decide +kernel
theorem dX7_sure_174 : decode cX7_sure 174 = .ok (.if_icmp .ge 31, 3) := by decide +kernel
theorem dX7_sure_177 : decode cX7_sure 177 = .ok (.iload 6, 2) := by decide +kernel
theorem dX7_sure_179 : decode cX7_sure 179 = .ok (.ifCond .lt 26, 3) := by decide +kernel
theorem dX7_sure_182 : decode cX7_sure 182 = .ok (.iload 6, 2) := by decide +kernel
theorem dX7_sure_184 : decode cX7_sure 184 = .ok (.iload_n 3, 1) := by decide +kernel
theorem dX7_sure_185 : decode cX7_sure 185 = .ok (.if_icmp .gt 20, 3) := by decide +kernel
theorem dX7_sure_188 : decode cX7_sure 188 = .ok (.iload 4, 2) := by decide +kernel
theorem dX7_sure_190 : decode cX7_sure 190 = .ok (.iconst 1, 1) := by decide +kernel
theorem dX7_sure_191 : decode cX7_sure 191 = .ok (.iload 7, 2) := by decide +kernel
theorem dX7_sure_193 : decode cX7_sure 193 = .ok (.ishl, 1) := by decide +kernel
theorem dX7_sure_194 : decode cX7_sure 194 = .ok (.iconst (-1), 1) := by decide +kernel
theorem dX7_sure_195 : decode cX7_sure 195 = .ok (.ixor, 1) := by decide +kernel
theorem dX7_sure_196 : decode cX7_sure 196 = .ok (.iand, 1) := by decide +kernel
theorem dX7_sure_197 : decode cX7_sure 197 = .ok (.istore 4, 2) := by decide +kernel
theorem dX7_sure_199 : decode cX7_sure 199 = .ok (.iinc 7 1, 3) := by decide +kernel
theorem dX7_sure_202 : decode cX7_sure 202 = .ok (.goto (-36), 3) := by decide +kernel
theorem dX7_sure_205 : decode cX7_sure 205 = .ok (.iinc 5 1, 3) := by decide +kernel
theorem dX7_sure_208 : decode cX7_sure 208 = .ok (.goto (-115), 3) := by decide +kernel
theorem dX7_sure_211 : decode cX7_sure 211 = .ok (.iload 4, 2) := by decide +kernel
theorem dX7_sure_213 : decode cX7_sure 213 = .ok (.ireturn, 1) := by decide +kernel
theorem dX7_sign_0 : decode cX7_sign 0 = .ok (.aload_n 0, 1) := by decide +kernel
theorem dX7_sign_1 : decode cX7_sign 1 = .ok (.getfield 109, 3) := by decide +kernel
theorem dX7_sign_4 : decode cX7_sign 4 = .ok (.ifCond .ne 6, 3) := by decide +kernel
theorem dX7_sign_7 : decode cX7_sign 7 = .ok (.bipush (-5), 2) := by decide +kernel
theorem dX7_sign_9 : decode cX7_sign 9 = .ok (.ireturn, 1) := by decide +kernel
theorem dX7_sign_10 : decode cX7_sign 10 = .ok (.iload_n 1, 1) := by decide +kernel
theorem dX7_sign_11 : decode cX7_sign 11 = .ok (.iconst 0, 1) := by decide +kernel
theorem dX7_sign_12 : decode cX7_sign 12 = .ok (.bipush 11, 2) := by decide +kernel
theorem dX7_sign_14 : decode cX7_sign 14 = .ok (.invokestatic 74, 3) := by decide +kernel
theorem dX7_sign_17 : decode cX7_sign 17 = .ok (.ifCond .ne 5, 3) := by decide +kernel
theorem dX7_sign_20 : decode cX7_sign 20 = .ok (.iconst (-1), 1) := by decide +kernel
theorem dX7_sign_21 : decode cX7_sign 21 = .ok (.ireturn, 1) := by decide +kernel
theorem dX7_sign_22 : decode cX7_sign 22 = .ok (.aload_n 0, 1) := by decide +kernel
theorem dX7_sign_23 : decode cX7_sign 23 = .ok (.invokevirtual 136, 3) := by decide +kernel
theorem dX7_sign_26 : decode cX7_sign 26 = .ok (.aload_n 0, 1) := by decide +kernel
theorem dX7_sign_27 : decode cX7_sign 27 = .ok (.iload_n 1, 1) := by decide +kernel
theorem dX7_sign_28 : decode cX7_sign 28 = .ok (.invokevirtual 143, 3) := by decide +kernel
theorem dX7_sign_31 : decode cX7_sign 31 = .ok (.istore_n 3, 1) := by decide +kernel
theorem dX7_sign_32 : decode cX7_sign 32 = .ok (.iload_n 3, 1) := by decide +kernel
theorem dX7_sign_33 : decode cX7_sign 33 = .ok (.ifCond .ge 6, 3) := by decide +kernel
theorem dX7_sign_36 : decode cX7_sign 36 = .ok (.bipush (-6), 2) := by decide +kernel
theorem dX7_sign_38 : decode cX7_sign 38 = .ok (.ireturn, 1) := by decide +kernel
theorem dX7_sign_39 : decode cX7_sign 39 = .ok (.iconst 0, 1) := by decide +kernel
theorem dX7_sign_40 : decode cX7_sign 40 = .ok (.istore 4, 2) := by decide +kernel
theorem dX7_sign_42 : decode cX7_sign 42 = .ok (.iload_n 3, 1) := by decide +kernel
theorem dX7_sign_43 : decode cX7_sign 43 = .ok (.istore 5, 2) := by decide +kernel
theorem dX7_sign_45 : decode cX7_sign 45 = .ok (.iload 5, 2) := by decide +kernel
theorem dX7_sign_47 : decode cX7_sign 47 = .ok (.ifCond .lt 151, 3) := by decide +kernel
theorem dX7_sign_50 : decode cX7_sign 50 = .ok (.iload 5, 2) := by decide +kernel
theorem dX7_sign_52 : decode cX7_sign 52 = .ok (.bipush 16, 2) := by decide +kernel
theorem dX7_sign_54 : decode cX7_sign 54 = .ok (.idiv, 1) := by decide +kernel
theorem dX7_sign_55 : decode cX7_sign 55 = .ok (.istore 6, 2) := by decide +kernel
theorem dX7_sign_57 : decode cX7_sign 57 = .ok (.aload_n 0, 1) := by decide +kernel
theorem dX7_sign_58 : decode cX7_sign 58 = .ok (.getfield 37, 3) := by decide +kernel
theorem dX7_sign_61 : decode cX7_sign 61 = .ok (.iload 6, 2) := by decide +kernel
theorem dX7_sign_63 : decode cX7_sign 63 = .ok (.iaload, 1) := by decide +kernel
theorem dX7_sign_64 : decode cX7_sign 64 = .ok (.aload_n 0, 1) := by decide +kernel
theorem dX7_sign_65 : decode cX7_sign 65 = .ok (.getfield 40, 3) := by decide +kernel
theorem dX7_sign_68 : decode cX7_sign 68 = .ok (.iload 6, 2) := by decide +kernel
theorem dX7_sign_70 : decode cX7_sign 70 = .ok (.iaload, 1) := by decide +kernel
theorem dX7_sign_71 : decode cX7_sign 71 = .ok (.iconst 3, 1) := by decide +kernel
theorem dX7_sign_72 : decode cX7_sign 72 = .ok (.if_icmp .ne 7, 3) := by decide +kernel
theorem dX7_sign_75 : decode cX7_sign 75 = .ok (.iconst 1, 1) := by decide +kernel
theorem dX7_sign_76 : decode cX7_sign 76 = .ok (.goto 4, 3) := by decide +kernel
theorem dX7_sign_79 : decode cX7_sign 79 = .ok (.iconst 0, 1) := by decide +kernel
theorem dX7_sign_80 : decode cX7_sign 80 = .ok (.iadd, 1) := by decide +kernel
theorem dX7_sign_81 : decode cX7_sign 81 = .ok (.aload_n 0, 1) := by decide +kernel
theorem dX7_sign_82 : decode cX7_sign 82 = .ok (.iload 5, 2) := by decide +kernel
theorem dX7_sign_84 : decode cX7_sign 84 = .ok (.invokevirtual 149, 3) := by decide +kernel
theorem dX7_sign_87 : decode cX7_sign 87 = .ok (.ifCond .lt 7, 3) := by decide +kernel
theorem dX7_sign_90 : decode cX7_sign 90 = .ok (.iconst 1, 1) := by decide +kernel
theorem dX7_sign_91 : decode cX7_sign 91 = .ok (.goto 4, 3) := by decide +kernel
theorem dX7_sign_94 : decode cX7_sign 94 = .ok (.iconst 0, 1) := by decide +kernel
theorem dX7_sign_95 : decode cX7_sign 95 = .ok (.iadd, 1) := by decide +kernel
theorem dX7_sign_96 : decode cX7_sign 96 = .ok (.istore 7, 2) := by decide +kernel
theorem dX7_sign_98 : decode cX7_sign 98 = .ok (.iload_n 2, 1) := by decide +kernel
theorem dX7_sign_99 : decode cX7_sign 99 = .ok (.iload 4, 2) := by decide +kernel
theorem dX7_sign_101 : decode cX7_sign 101 = .ok (.if_icmp .lt 79, 3) := by decide +kernel
theorem dX7_sign_104 : decode cX7_sign 104 = .ok (.iload_n 2, 1) := by decide +kernel
theorem dX7_sign_105 : decode cX7_sign 105 = .ok (.iload 4, 2) := by decide +kernel
theorem dX7_sign_107 : decode cX7_sign 107 = .ok (.iload 7, 2) := by decide +kernel
theorem dX7_sign_109 : decode cX7_sign 109 = .ok (.iadd, 1) := by decide +kernel
theorem dX7_sign_110 : decode cX7_sign 110 = .ok (.if_icmp .ge 70, 3) := by decide +kernel
theorem dX7_sign_113 : decode cX7_sign 113 = .ok (.iload_n 2, 1) := by decide +kernel
theorem dX7_sign_114 : decode cX7_sign 114 = .ok (.iload 4, 2) := by decide +kernel
theorem dX7_sign_116 : decode cX7_sign 116 = .ok (.isub, 1) := by decide +kernel
theorem dX7_sign_117 : decode cX7_sign 117 = .ok (.istore 8, 2) := by decide +kernel
theorem dX7_sign_119 : decode cX7_sign 119 = .ok (.iload 8, 2) := by decide +kernel
theorem dX7_sign_121 : decode cX7_sign 121 = .ok (.aload_n 0, 1) := by decide +kernel
theorem dX7_sign_122 : decode cX7_sign 122 = .ok (.getfield 37, 3) := by decide +kernel
theorem dX7_sign_125 : decode cX7_sign 125 = .ok (.iload 6, 2) := by decide +kernel
theorem dX7_sign_127 : decode cX7_sign 127 = .ok (.iaload, 1) := by decide +kernel
theorem dX7_sign_128 : decode cX7_sign 128 = .ok (.if_icmp .ge 21, 3) := by decide +kernel
theorem dX7_sign_131 : decode cX7_sign 131 = .ok (.aload_n 0, 1) := by decide +kernel
theorem dX7_sign_132 : decode cX7_sign 132 = .ok (.getfield 28, 3) := by decide +kernel
theorem dX7_sign_135 : decode cX7_sign 135 = .ok (.aload_n 0, 1) := by decide +kernel
theorem dX7_sign_136 : decode cX7_sign 136 = .ok (.getfield 34, 3) := by decide +kernel
theorem dX7_sign_139 : decode cX7_sign 139 = .ok (.iload 6, 2) := by decide +kernel
theorem dX7_sign_141 : decode cX7_sign 141 = .ok (.iaload, 1) := by decide +kernel
theorem dX7_sign_142 : decode cX7_sign 142 = .ok (.iload 8, 2) := by decide +kernel
theorem dX7_sign_144 : decode cX7_sign 144 = .ok (.iadd, 1) := by decide +kernel
theorem dX7_sign_145 : decode cX7_sign 145 = .ok (.iaload, 1) := by decide +kernel
theorem dX7_sign_146 : decode cX7_sign 146 = .ok (.goto 33, 3) := by decide +kernel
theorem dX7_sign_149 : decode cX7_sign 149 = .ok (.iload 8, 2) := by decide +kernel
theorem dX7_sign_151 : decode cX7_sign 151 = .ok (.aload_n 0, 1) := by decide +kernel
theorem dX7_sign_152 : decode cX7_sign 152 = .ok (.getfield 37, 3) := by decide +kernel
theorem dX7_sign_155 : decode cX7_sign 155 = .ok (.iload 6, 2) := by decide +kernel
theorem dX7_sign_157 : decode cX7_sign 157 = .ok (.iaload, 1) := by decide +kernel
theorem dX7_sign_158 : decode cX7_sign 158 = .ok (.if_icmp .ne 19, 3) := by decide +kernel
theorem dX7_sign_161 : decode cX7_sign 161 = .ok (.aload_n 0, 1) := by decide +kernel
theorem dX7_sign_162 : decode cX7_sign 162 = .ok (.getfield 40, 3) := by decide +kernel
theorem dX7_sign_165 : decode cX7_sign 165 = .ok (.iload 6, 2) := by decide +kernel
theorem dX7_sign_167 : decode cX7_sign 167 = .ok (.iaload, 1) := by decide +kernel
theorem dX7_sign_168 : decode cX7_sign 168 = .ok (.iconst 3, 1) := by decide +kernel
theorem dX7_sign_169 : decode cX7_sign 169 = .ok (.if_icmp .ne 8, 3) := by decide +kernel
theorem dX7_sign_172 : decode cX7_sign 172 = .ok (.bipush 63, 2) := by decide +kernel
theorem dX7_sign_174 : decode cX7_sign 174 = .ok (.goto 5, 3) := by decide +kernel
theorem dX7_sign_177 : decode cX7_sign 177 = .ok (.bipush 124, 2) := by decide +kernel
theorem dX7_sign_179 : decode cX7_sign 179 = .ok (.ireturn, 1) := by decide +kernel
theorem dX7_sign_180 : decode cX7_sign 180 = .ok (.iload 4, 2) := by decide +kernel
theorem dX7_sign_182 : decode cX7_sign 182 = .ok (.iload 7, 2) := by decide +kernel
theorem dX7_sign_184 : decode cX7_sign 184 = .ok (.iadd, 1) := by decide +kernel
theorem dX7_sign_185 : decode cX7_sign 185 = .ok (.istore 4, 2) := by decide +kernel
theorem dX7_sign_187 : decode cX7_sign 187 = .ok (.aload_n 0, 1) := by decide +kernel
theorem dX7_sign_188 : decode cX7_sign 188 = .ok (.iload 5, 2) := by decide +kernel
theorem dX7_sign_190 : decode cX7_sign 190 = .ok (.invokevirtual 149, 3) := by decide +kernel
theorem dX7_sign_193 : decode cX7_sign 193 = .ok (.istore 5, 2) := by decide +kernel
theorem dX7_sign_195 : decode cX7_sign 195 = .ok (.goto (-150), 3) := by decide +kernel
theorem dX7_sign_198 : decode cX7_sign 198 = .ok (.iload_n 2, 1) := by decide +kernel
theorem dX7_sign_199 : decode cX7_sign 199 = .ok (.iconst (-1), 1) := by decide +kernel
theorem dX7_sign_200 : decode cX7_sign 200 = .ok (.if_icmp .ne 8, 3) := by decide +kernel
theorem dX7_sign_203 : decode cX7_sign 203 = .ok (.iload 4, 2) := by decide +kernel
theorem dX7_sign_205 : decode cX7_sign 205 = .ok (.goto 5, 3) := by decide +kernel
theorem dX7_sign_208 : decode cX7_sign 208 = .ok (.bipush (-6), 2) := by decide +kernel
theorem dX7_sign_210 : decode cX7_sign 210 = .ok (.ireturn, 1) := by decide +kernel
theorem dX7_image_0 : decode cX7_image 0 = .ok (.iload_n 1, 1) := by decide +kernel
theorem dX7_image_1 : decode cX7_image 1 = .ok (.iconst 0, 1) := by decide +kernel
theorem dX7_image_2 : decode cX7_image 2 = .ok (.iconst 1, 1) := by decide +kernel
theorem dX7_image_3 : decode cX7_image 3 = .ok (.invokestatic 74, 3) := by decide +kernel
theorem dX7_image_6 : decode cX7_image 6 = .ok (.ifCond .ne 6, 3) := by decide +kernel
theorem dX7_image_9 : decode cX7_image 9 = .ok (.bipush (-2), 2) := by decide +kernel
theorem dX7_image_11 : decode cX7_image 11 = .ok (.ireturn, 1) := by decide +kernel
theorem dX7_image_12 : decode cX7_image 12 = .ok (.sipush 230, 3) := by decide +kernel
theorem dX7_image_15 : decode cX7_image 15 = .ok (.iload_n 1, 1) := by decide +kernel
theorem dX7_image_16 : decode cX7_image 16 = .ok (.imul, 1) := by decide +kernel
theorem dX7_image_17 : decode cX7_image 17 = .ok (.istore_n 2, 1) := by decide +kernel
theorem dX7_image_18 : decode cX7_image 18 = .ok (.iconst 0, 1) := by decide +kernel
theorem dX7_image_19 : decode cX7_image 19 = .ok (.istore_n 3, 1) := by decide +kernel
theorem dX7_image_20 : decode cX7_image 20 = .ok (.iload_n 3, 1) := by decide +kernel
theorem dX7_image_21 : decode cX7_image 21 = .ok (.bipush 96, 2) := by decide +kernel
theorem dX7_image_23 : decode cX7_image 23 = .ok (.if_icmp .ge 23, 3) := by decide +kernel
theorem dX7_image_26 : decode cX7_image 26 = .ok (.aload_n 0, 1) := by decide +kernel
theorem dX7_image_27 : decode cX7_image 27 = .ok (.getfield 67, 3) := by decide +kernel
theorem dX7_image_30 : decode cX7_image 30 = .ok (.iload_n 2, 1) := by decide +kernel
theorem dX7_image_31 : decode cX7_image 31 = .ok (.iload_n 3, 1) := by decide +kernel
theorem dX7_image_32 : decode cX7_image 32 = .ok (.iadd, 1) := by decide +kernel
theorem dX7_image_33 : decode cX7_image 33 = .ok (.aload_n 0, 1) := by decide +kernel
theorem dX7_image_34 : decode cX7_image 34 = .ok (.getfield 7, 3) := by decide +kernel
theorem dX7_image_37 : decode cX7_image 37 = .ok (.iload_n 3, 1) := by decide +kernel
theorem dX7_image_38 : decode cX7_image 38 = .ok (.iaload, 1) := by decide +kernel
theorem dX7_image_39 : decode cX7_image 39 = .ok (.iastore, 1) := by decide +kernel
theorem dX7_image_40 : decode cX7_image 40 = .ok (.iinc 3 1, 3) := by decide +kernel
theorem dX7_image_43 : decode cX7_image 43 = .ok (.goto (-23), 3) := by decide +kernel
theorem dX7_image_46 : decode cX7_image 46 = .ok (.iconst 0, 1) := by decide +kernel
theorem dX7_image_47 : decode cX7_image 47 = .ok (.istore_n 3, 1) := by decide +kernel
theorem dX7_image_48 : decode cX7_image 48 = .ok (.iload_n 3, 1) := by decide +kernel
theorem dX7_image_49 : decode cX7_image 49 = .ok (.bipush 16, 2) := by decide +kernel
theorem dX7_image_51 : decode cX7_image 51 = .ok (.if_icmp .ge 61, 3) := by decide +kernel
theorem dX7_image_54 : decode cX7_image 54 = .ok (.aload_n 0, 1) := by decide +kernel
theorem dX7_image_55 : decode cX7_image 55 = .ok (.getfield 67, 3) := by decide +kernel
theorem dX7_image_58 : decode cX7_image 58 = .ok (.iload_n 2, 1) := by decide +kernel
theorem dX7_image_59 : decode cX7_image 59 = .ok (.bipush 96, 2) := by decide +kernel
theorem dX7_image_61 : decode cX7_image 61 = .ok (.iadd, 1) := by decide +kernel
theorem dX7_image_62 : decode cX7_image 62 = .ok (.iload_n 3, 1) := by decide +kernel
theorem dX7_image_63 : decode cX7_image 63 = .ok (.iadd, 1) := by decide +kernel
theorem dX7_image_64 : decode cX7_image 64 = .ok (.aload_n 0, 1) := by decide +kernel
theorem dX7_image_65 : decode cX7_image 65 = .ok (.getfield 13, 3) := by decide +kernel
theorem dX7_image_68 : decode cX7_image 68 = .ok (.iload_n 3, 1) := by decide +kernel
theorem dX7_image_69 : decode cX7_image 69 = .ok (.iaload, 1) := by decide +kernel
theorem dX7_image_70 : decode cX7_image 70 = .ok (.iastore, 1) := by decide +kernel
theorem dX7_image_71 : decode cX7_image 71 = .ok (.aload_n 0, 1) := by decide +kernel
theorem dX7_image_72 : decode cX7_image 72 = .ok (.getfield 67, 3) := by decide +kernel
theorem dX7_image_75 : decode cX7_image 75 = .ok (.iload_n 2, 1) := by decide +kernel
theorem dX7_image_76 : decode cX7_image 76 = .ok (.bipush 112, 2) := by decide +kernel
theorem dX7_image_78 : decode cX7_image 78 = .ok (.iadd, 1) := by decide +kernel
theorem dX7_image_79 : decode cX7_image 79 = .ok (.iload_n 3, 1) := by decide +kernel
theorem dX7_image_80 : decode cX7_image 80 = .ok (.iadd, 1) := by decide +kernel
theorem dX7_image_81 : decode cX7_image 81 = .ok (.aload_n 0, 1) := by decide +kernel
theorem dX7_image_82 : decode cX7_image 82 = .ok (.getfield 16, 3) := by decide +kernel
theorem dX7_image_85 : decode cX7_image 85 = .ok (.iload_n 3, 1) := by decide +kernel
theorem dX7_image_86 : decode cX7_image 86 = .ok (.iaload, 1) := by decide +kernel
theorem dX7_image_87 : decode cX7_image 87 = .ok (.iastore, 1) := by decide +kernel
theorem dX7_image_88 : decode cX7_image 88 = .ok (.aload_n 0, 1) := by decide +kernel
theorem dX7_image_89 : decode cX7_image 89 = .ok (.getfield 67, 3) := by decide +kernel
theorem dX7_image_92 : decode cX7_image 92 = .ok (.iload_n 2, 1) := by decide +kernel
theorem dX7_image_93 : decode cX7_image 93 = .ok (.sipush 128, 3) := by decide +kernel
theorem dX7_image_96 : decode cX7_image 96 = .ok (.iadd, 1) := by decide +kernel
theorem dX7_image_97 : decode cX7_image 97 = .ok (.iload_n 3, 1) := by decide +kernel
theorem dX7_image_98 : decode cX7_image 98 = .ok (.iadd, 1) := by decide +kernel
theorem dX7_image_99 : decode cX7_image 99 = .ok (.aload_n 0, 1) := by decide +kernel
theorem dX7_image_100 : decode cX7_image 100 = .ok (.getfield 19, 3) := by decide +kernel
theorem dX7_image_103 : decode cX7_image 103 = .ok (.iload_n 3, 1) := by decide +kernel
theorem dX7_image_104 : decode cX7_image 104 = .ok (.iaload, 1) := by decide +kernel
theorem dX7_image_105 : decode cX7_image 105 = .ok (.iastore, 1) := by decide +kernel
theorem dX7_image_106 : decode cX7_image 106 = .ok (.iinc 3 1, 3) := by decide +kernel
theorem dX7_image_109 : decode cX7_image 109 = .ok (.goto (-61), 3) := by decide +kernel
theorem dX7_image_112 : decode cX7_image 112 = .ok (.iconst 0, 1) := by decide +kernel
theorem dX7_image_113 : decode cX7_image 113 = .ok (.istore_n 3, 1) := by decide +kernel
theorem dX7_image_114 : decode cX7_image 114 = .ok (.iload_n 3, 1) := by decide +kernel
theorem dX7_image_115 : decode cX7_image 115 = .ok (.bipush 25, 2) := by decide +kernel
theorem dX7_image_117 : decode cX7_image 117 = .ok (.if_icmp .ge 27, 3) := by decide +kernel
theorem dX7_image_120 : decode cX7_image 120 = .ok (.aload_n 0, 1) := by decide +kernel
theorem dX7_image_121 : decode cX7_image 121 = .ok (.getfield 67, 3) := by decide +kernel
theorem dX7_image_124 : decode cX7_image 124 = .ok (.iload_n 2, 1) := by decide +kernel
theorem dX7_image_125 : decode cX7_image 125 = .ok (.sipush 144, 3) := by decide +kernel
theorem dX7_image_128 : decode cX7_image 128 = .ok (.iadd, 1) := by decide +kernel
theorem dX7_image_129 : decode cX7_image 129 = .ok (.iload_n 3, 1) := by decide +kernel
theorem dX7_image_130 : decode cX7_image 130 = .ok (.iadd, 1) := by decide +kernel
theorem dX7_image_131 : decode cX7_image 131 = .ok (.aload_n 0, 1) := by decide +kernel
theorem dX7_image_132 : decode cX7_image 132 = .ok (.getfield 22, 3) := by decide +kernel
theorem dX7_image_135 : decode cX7_image 135 = .ok (.iload_n 3, 1) := by decide +kernel
theorem dX7_image_136 : decode cX7_image 136 = .ok (.iaload, 1) := by decide +kernel
theorem dX7_image_137 : decode cX7_image 137 = .ok (.iastore, 1) := by decide +kernel
theorem dX7_image_138 : decode cX7_image 138 = .ok (.iinc 3 1, 3) := by decide +kernel
theorem dX7_image_141 : decode cX7_image 141 = .ok (.goto (-27), 3) := by decide +kernel
theorem dX7_image_144 : decode cX7_image 144 = .ok (.iconst 0, 1) := by decide +kernel
theorem dX7_image_145 : decode cX7_image 145 = .ok (.istore_n 3, 1) := by decide +kernel
theorem dX7_image_146 : decode cX7_image 146 = .ok (.iload_n 3, 1) := by decide +kernel
theorem dX7_image_147 : decode cX7_image 147 = .ok (.iconst 4, 1) := by decide +kernel
theorem dX7_image_148 : decode cX7_image 148 = .ok (.if_icmp .ge 27, 3) := by decide +kernel
theorem dX7_image_151 : decode cX7_image 151 = .ok (.aload_n 0, 1) := by decide +kernel
theorem dX7_image_152 : decode cX7_image 152 = .ok (.getfield 67, 3) := by decide +kernel
theorem dX7_image_155 : decode cX7_image 155 = .ok (.iload_n 2, 1) := by decide +kernel
theorem dX7_image_156 : decode cX7_image 156 = .ok (.sipush 170, 3) := by decide +kernel
theorem dX7_image_159 : decode cX7_image 159 = .ok (.iadd, 1) := by decide +kernel
theorem dX7_image_160 : decode cX7_image 160 = .ok (.iload_n 3, 1) := by decide +kernel
theorem dX7_image_161 : decode cX7_image 161 = .ok (.iadd, 1) := by decide +kernel
theorem dX7_image_162 : decode cX7_image 162 = .ok (.aload_n 0, 1) := by decide +kernel
theorem dX7_image_163 : decode cX7_image 163 = .ok (.getfield 25, 3) := by decide +kernel
theorem dX7_image_166 : decode cX7_image 166 = .ok (.iload_n 3, 1) := by decide +kernel
theorem dX7_image_167 : decode cX7_image 167 = .ok (.iaload, 1) := by decide +kernel
theorem dX7_image_168 : decode cX7_image 168 = .ok (.iastore, 1) := by decide +kernel
theorem dX7_image_169 : decode cX7_image 169 = .ok (.iinc 3 1, 3) := by decide +kernel
theorem dX7_image_172 : decode cX7_image 172 = .ok (.goto (-26), 3) := by decide +kernel
theorem dX7_image_175 : decode cX7_image 175 = .ok (.iconst 0, 1) := by decide +kernel
theorem dX7_image_176 : decode cX7_image 176 = .ok (.istore_n 3, 1) := by decide +kernel
theorem dX7_image_177 : decode cX7_image 177 = .ok (.iload_n 3, 1) := by decide +kernel
theorem dX7_image_178 : decode cX7_image 178 = .ok (.bipush 24, 2) := by decide +kernel
theorem dX7_image_180 : decode cX7_image 180 = .ok (.if_icmp .ge 27, 3) := by decide +kernel
theorem dX7_image_183 : decode cX7_image 183 = .ok (.aload_n 0, 1) := by decide +kernel
theorem dX7_image_184 : decode cX7_image 184 = .ok (.getfield 67, 3) := by decide +kernel
theorem dX7_image_187 : decode cX7_image 187 = .ok (.iload_n 2, 1) := by decide +kernel
theorem dX7_image_188 : decode cX7_image 188 = .ok (.sipush 180, 3) := by decide +kernel
theorem dX7_image_191 : decode cX7_image 191 = .ok (.iadd, 1) := by decide +kernel
theorem dX7_image_192 : decode cX7_image 192 = .ok (.iload_n 3, 1) := by decide +kernel
theorem dX7_image_193 : decode cX7_image 193 = .ok (.iadd, 1) := by decide +kernel
theorem dX7_image_194 : decode cX7_image 194 = .ok (.aload_n 0, 1) := by decide +kernel
theorem dX7_image_195 : decode cX7_image 195 = .ok (.getfield 28, 3) := by decide +kernel
theorem dX7_image_198 : decode cX7_image 198 = .ok (.iload_n 3, 1) := by decide +kernel
theorem dX7_image_199 : decode cX7_image 199 = .ok (.iaload, 1) := by decide +kernel
theorem dX7_image_200 : decode cX7_image 200 = .ok (.iastore, 1) := by decide +kernel
theorem dX7_image_201 : decode cX7_image 201 = .ok (.iinc 3 1, 3) := by decide +kernel
theorem dX7_image_204 : decode cX7_image 204 = .ok (.goto (-27), 3) := by decide +kernel
theorem dX7_image_207 : decode cX7_image 207 = .ok (.aload_n 0, 1) := by decide +kernel
theorem dX7_image_208 : decode cX7_image 208 = .ok (.getfield 67, 3) := by decide +kernel
theorem dX7_image_211 : decode cX7_image 211 = .ok (.iload_n 2, 1) := by decide +kernel
theorem dX7_image_212 : decode cX7_image 212 = .ok (.sipush 210, 3) := by decide +kernel
theorem dX7_image_215 : decode cX7_image 215 = .ok (.iadd, 1) := by decide +kernel
theorem dX7_image_216 : decode cX7_image 216 = .ok (.aload_n 0, 1) := by decide +kernel
theorem dX7_image_217 : decode cX7_image 217 = .ok (.getfield 106, 3) := by decide +kernel
theorem dX7_image_220 : decode cX7_image 220 = .ok (.iastore, 1) := by decide +kernel
theorem dX7_image_221 : decode cX7_image 221 = .ok (.aload_n 0, 1) := by decide +kernel
theorem dX7_image_222 : decode cX7_image 222 = .ok (.getfield 67, 3) := by decide +kernel
theorem dX7_image_225 : decode cX7_image 225 = .ok (.iload_n 2, 1) := by decide +kernel
theorem dX7_image_226 : decode cX7_image 226 = .ok (.sipush 211, 3) := by decide +kernel
theorem dX7_image_229 : decode cX7_image 229 = .ok (.iadd, 1) := by decide +kernel
theorem dX7_image_230 : decode cX7_image 230 = .ok (.aload_n 0, 1) := by decide +kernel
theorem dX7_image_231 : decode cX7_image 231 = .ok (.getfield 109, 3) := by decide +kernel
theorem dX7_image_234 : decode cX7_image 234 = .ok (.iastore, 1) := by decide +kernel
theorem dX7_image_235 : decode cX7_image 235 = .ok (.aload_n 0, 1) := by decide +kernel
theorem dX7_image_236 : decode cX7_image 236 = .ok (.getfield 70, 3) := by decide +kernel
theorem dX7_image_239 : decode cX7_image 239 = .ok (.iload_n 1, 1) := by decide +kernel
theorem dX7_image_240 : decode cX7_image 240 = .ok (.iconst 1, 1) := by decide +kernel
theorem dX7_image_241 : decode cX7_image 241 = .ok (.bastore, 1) := by decide +kernel
theorem dX7_image_242 : decode cX7_image 242 = .ok (.iconst 1, 1) := by decide +kernel
theorem dX7_image_243 : decode cX7_image 243 = .ok (.ireturn, 1) := by decide +kernel
theorem dX7_restore_0 : decode cX7_restore 0 = .ok (.iload_n 1, 1) := by decide +kernel
theorem dX7_restore_1 : decode cX7_restore 1 = .ok (.iconst 0, 1) := by decide +kernel
theorem dX7_restore_2 : decode cX7_restore 2 = .ok (.iconst 1, 1) := by decide +kernel
theorem dX7_restore_3 : decode cX7_restore 3 = .ok (.invokestatic 74, 3) := by decide +kernel
theorem dX7_restore_6 : decode cX7_restore 6 = .ok (.ifCond .ne 6, 3) := by decide +kernel
theorem dX7_restore_9 : decode cX7_restore 9 = .ok (.bipush (-2), 2) := by decide +kernel
theorem dX7_restore_11 : decode cX7_restore 11 = .ok (.ireturn, 1) := by decide +kernel
theorem dX7_restore_12 : decode cX7_restore 12 = .ok (.aload_n 0, 1) := by decide +kernel
theorem dX7_restore_13 : decode cX7_restore 13 = .ok (.getfield 70, 3) := by decide +kernel
theorem dX7_restore_16 : decode cX7_restore 16 = .ok (.iload_n 1, 1) := by decide +kernel
theorem dX7_restore_17 : decode cX7_restore 17 = .ok (.baload, 1) := by decide +kernel
theorem dX7_restore_18 : decode cX7_restore 18 = .ok (.ifCond .ne 6, 3) := by decide +kernel
theorem dX7_restore_21 : decode cX7_restore 21 = .ok (.bipush (-3), 2) := by decide +kernel
theorem dX7_restore_23 : decode cX7_restore 23 = .ok (.ireturn, 1) := by decide +kernel
theorem dX7_restore_24 : decode cX7_restore 24 = .ok (.sipush 230, 3) := by decide +kernel
theorem dX7_restore_27 : decode cX7_restore 27 = .ok (.iload_n 1, 1) := by decide +kernel
theorem dX7_restore_28 : decode cX7_restore 28 = .ok (.imul, 1) := by decide +kernel
theorem dX7_restore_29 : decode cX7_restore 29 = .ok (.istore_n 2, 1) := by decide +kernel
theorem dX7_restore_30 : decode cX7_restore 30 = .ok (.iconst 0, 1) := by decide +kernel
theorem dX7_restore_31 : decode cX7_restore 31 = .ok (.istore_n 3, 1) := by decide +kernel
theorem dX7_restore_32 : decode cX7_restore 32 = .ok (.iload_n 3, 1) := by decide +kernel
theorem dX7_restore_33 : decode cX7_restore 33 = .ok (.bipush 96, 2) := by decide +kernel
theorem dX7_restore_35 : decode cX7_restore 35 = .ok (.if_icmp .ge 23, 3) := by decide +kernel
theorem dX7_restore_38 : decode cX7_restore 38 = .ok (.aload_n 0, 1) := by decide +kernel
theorem dX7_restore_39 : decode cX7_restore 39 = .ok (.getfield 7, 3) := by decide +kernel
theorem dX7_restore_42 : decode cX7_restore 42 = .ok (.iload_n 3, 1) := by decide +kernel
theorem dX7_restore_43 : decode cX7_restore 43 = .ok (.aload_n 0, 1) := by decide +kernel
theorem dX7_restore_44 : decode cX7_restore 44 = .ok (.getfield 67, 3) := by decide +kernel
theorem dX7_restore_47 : decode cX7_restore 47 = .ok (.iload_n 2, 1) := by decide +kernel
theorem dX7_restore_48 : decode cX7_restore 48 = .ok (.iload_n 3, 1) := by decide +kernel
theorem dX7_restore_49 : decode cX7_restore 49 = .ok (.iadd, 1) := by decide +kernel
theorem dX7_restore_50 : decode cX7_restore 50 = .ok (.iaload, 1) := by decide +kernel
theorem dX7_restore_51 : decode cX7_restore 51 = .ok (.iastore, 1) := by decide +kernel
theorem dX7_restore_52 : decode cX7_restore 52 = .ok (.iinc 3 1, 3) := by decide +kernel
theorem dX7_restore_55 : decode cX7_restore 55 = .ok (.goto (-23), 3) := by decide +kernel
theorem dX7_restore_58 : decode cX7_restore 58 = .ok (.iconst 0, 1) := by decide +kernel
theorem dX7_restore_59 : decode cX7_restore 59 = .ok (.istore_n 3, 1) := by decide +kernel
theorem dX7_restore_60 : decode cX7_restore 60 = .ok (.iload_n 3, 1) := by decide +kernel
theorem dX7_restore_61 : decode cX7_restore 61 = .ok (.bipush 16, 2) := by decide +kernel
theorem dX7_restore_63 : decode cX7_restore 63 = .ok (.if_icmp .ge 61, 3) := by decide +kernel
theorem dX7_restore_66 : decode cX7_restore 66 = .ok (.aload_n 0, 1) := by decide +kernel
theorem dX7_restore_67 : decode cX7_restore 67 = .ok (.getfield 13, 3) := by decide +kernel
theorem dX7_restore_70 : decode cX7_restore 70 = .ok (.iload_n 3, 1) := by decide +kernel
theorem dX7_restore_71 : decode cX7_restore 71 = .ok (.aload_n 0, 1) := by decide +kernel
theorem dX7_restore_72 : decode cX7_restore 72 = .ok (.getfield 67, 3) := by decide +kernel
theorem dX7_restore_75 : decode cX7_restore 75 = .ok (.iload_n 2, 1) := by decide +kernel
theorem dX7_restore_76 : decode cX7_restore 76 = .ok (.bipush 96, 2) := by decide +kernel
theorem dX7_restore_78 : decode cX7_restore 78 = .ok (.iadd, 1) := by decide +kernel
theorem dX7_restore_79 : decode cX7_restore 79 = .ok (.iload_n 3, 1) := by decide +kernel
theorem dX7_restore_80 : decode cX7_restore 80 = .ok (.iadd, 1) := by decide +kernel
theorem dX7_restore_81 : decode cX7_restore 81 = .ok (.iaload, 1) := by decide +kernel
theorem dX7_restore_82 : decode cX7_restore 82 = .ok (.iastore, 1) := by decide +kernel
theorem dX7_restore_83 : decode cX7_restore 83 = .ok (.aload_n 0, 1) := by decide +kernel
theorem dX7_restore_84 : decode cX7_restore 84 = .ok (.getfield 16, 3) := by decide +kernel
theorem dX7_restore_87 : decode cX7_restore 87 = .ok (.iload_n 3, 1) := by decide +kernel
theorem dX7_restore_88 : decode cX7_restore 88 = .ok (.aload_n 0, 1) := by decide +kernel
theorem dX7_restore_89 : decode cX7_restore 89 = .ok (.getfield 67, 3) := by decide +kernel
theorem dX7_restore_92 : decode cX7_restore 92 = .ok (.iload_n 2, 1) := by decide +kernel
theorem dX7_restore_93 : decode cX7_restore 93 = .ok (.bipush 112, 2) := by decide +kernel
theorem dX7_restore_95 : decode cX7_restore 95 = .ok (.iadd, 1) := by decide +kernel
theorem dX7_restore_96 : decode cX7_restore 96 = .ok (.iload_n 3, 1) := by decide +kernel
theorem dX7_restore_97 : decode cX7_restore 97 = .ok (.iadd, 1) := by decide +kernel
theorem dX7_restore_98 : decode cX7_restore 98 = .ok (.iaload, 1) := by decide +kernel
theorem dX7_restore_99 : decode cX7_restore 99 = .ok (.iastore, 1) := by decide +kernel
theorem dX7_restore_100 : decode cX7_restore 100 = .ok (.aload_n 0, 1) := by decide +kernel
theorem dX7_restore_101 : decode cX7_restore 101 = .ok (.getfield 19, 3) := by decide +kernel
theorem dX7_restore_104 : decode cX7_restore 104 = .ok (.iload_n 3, 1) := by decide +kernel
theorem dX7_restore_105 : decode cX7_restore 105 = .ok (.aload_n 0, 1) := by decide +kernel
theorem dX7_restore_106 : decode cX7_restore 106 = .ok (.getfield 67, 3) := by decide +kernel
theorem dX7_restore_109 : decode cX7_restore 109 = .ok (.iload_n 2, 1) := by decide +kernel
theorem dX7_restore_110 : decode cX7_restore 110 = .ok (.sipush 128, 3) := by decide +kernel
theorem dX7_restore_113 : decode cX7_restore 113 = .ok (.iadd, 1) := by decide +kernel
theorem dX7_restore_114 : decode cX7_restore 114 = .ok (.iload_n 3, 1) := by decide +kernel
theorem dX7_restore_115 : decode cX7_restore 115 = .ok (.iadd, 1) := by decide +kernel
theorem dX7_restore_116 : decode cX7_restore 116 = .ok (.iaload, 1) := by decide +kernel
theorem dX7_restore_117 : decode cX7_restore 117 = .ok (.iastore, 1) := by decide +kernel
theorem dX7_restore_118 : decode cX7_restore 118 = .ok (.iinc 3 1, 3) := by decide +kernel
theorem dX7_restore_121 : decode cX7_restore 121 = .ok (.goto (-61), 3) := by decide +kernel
theorem dX7_restore_124 : decode cX7_restore 124 = .ok (.iconst 0, 1) := by decide +kernel
theorem dX7_restore_125 : decode cX7_restore 125 = .ok (.istore_n 3, 1) := by decide +kernel
theorem dX7_restore_126 : decode cX7_restore 126 = .ok (.iload_n 3, 1) := by decide +kernel
theorem dX7_restore_127 : decode cX7_restore 127 = .ok (.bipush 25, 2) := by decide +kernel
theorem dX7_restore_129 : decode cX7_restore 129 = .ok (.if_icmp .ge 27, 3) := by decide +kernel
theorem dX7_restore_132 : decode cX7_restore 132 = .ok (.aload_n 0, 1) := by decide +kernel
theorem dX7_restore_133 : decode cX7_restore 133 = .ok (.getfield 22, 3) := by decide +kernel
theorem dX7_restore_136 : decode cX7_restore 136 = .ok (.iload_n 3, 1) := by decide +kernel
theorem dX7_restore_137 : decode cX7_restore 137 = .ok (.aload_n 0, 1) := by decide +kernel
theorem dX7_restore_138 : decode cX7_restore 138 = .ok (.getfield 67, 3) := by decide +kernel
theorem dX7_restore_141 : decode cX7_restore 141 = .ok (.iload_n 2, 1) := by decide +kernel
theorem dX7_restore_142 : decode cX7_restore 142 = .ok (.sipush 144, 3) := by decide +kernel
theorem dX7_restore_145 : decode cX7_restore 145 = .ok (.iadd, 1) := by decide +kernel
theorem dX7_restore_146 : decode cX7_restore 146 = .ok (.iload_n 3, 1) := by decide +kernel
theorem dX7_restore_147 : decode cX7_restore 147 = .ok (.iadd, 1) := by decide +kernel
theorem dX7_restore_148 : decode cX7_restore 148 = .ok (.iaload, 1) := by decide +kernel
theorem dX7_restore_149 : decode cX7_restore 149 = .ok (.iastore, 1) := by decide +kernel
theorem dX7_restore_150 : decode cX7_restore 150 = .ok (.iinc 3 1, 3) := by decide +kernel
theorem dX7_restore_153 : decode cX7_restore 153 = .ok (.goto (-27), 3) := by decide +kernel
theorem dX7_restore_156 : decode cX7_restore 156 = .ok (.iconst 0, 1) := by decide +kernel
theorem dX7_restore_157 : decode cX7_restore 157 = .ok (.istore_n 3, 1) := by decide +kernel
theorem dX7_restore_158 : decode cX7_restore 158 = .ok (.iload_n 3, 1) := by decide +kernel
theorem dX7_restore_159 : decode cX7_restore 159 = .ok (.iconst 4, 1) := by decide +kernel
theorem dX7_restore_160 : decode cX7_restore 160 = .ok (.if_icmp .ge 27, 3) := by decide +kernel
theorem dX7_restore_163 : decode cX7_restore 163 = .ok (.aload_n 0, 1) := by decide +kernel
theorem dX7_restore_164 : decode cX7_restore 164 = .ok (.getfield 25, 3) := by decide +kernel
theorem dX7_restore_167 : decode cX7_restore 167 = .ok (.iload_n 3, 1) := by decide +kernel
theorem dX7_restore_168 : decode cX7_restore 168 = .ok (.aload_n 0, 1) := by decide +kernel
theorem dX7_restore_169 : decode cX7_restore 169 = .ok (.getfield 67, 3) := by decide +kernel
theorem dX7_restore_172 : decode cX7_restore 172 = .ok (.iload_n 2, 1) := by decide +kernel
theorem dX7_restore_173 : decode cX7_restore 173 = .ok (.sipush 170, 3) := by decide +kernel
theorem dX7_restore_176 : decode cX7_restore 176 = .ok (.iadd, 1) := by decide +kernel
theorem dX7_restore_177 : decode cX7_restore 177 = .ok (.iload_n 3, 1) := by decide +kernel
theorem dX7_restore_178 : decode cX7_restore 178 = .ok (.iadd, 1) := by decide +kernel
theorem dX7_restore_179 : decode cX7_restore 179 = .ok (.iaload, 1) := by decide +kernel
theorem dX7_restore_180 : decode cX7_restore 180 = .ok (.iastore, 1) := by decide +kernel
theorem dX7_restore_181 : decode cX7_restore 181 = .ok (.iinc 3 1, 3) := by decide +kernel
theorem dX7_restore_184 : decode cX7_restore 184 = .ok (.goto (-26), 3) := by decide +kernel
theorem dX7_restore_187 : decode cX7_restore 187 = .ok (.iconst 0, 1) := by decide +kernel
theorem dX7_restore_188 : decode cX7_restore 188 = .ok (.istore_n 3, 1) := by decide +kernel
theorem dX7_restore_189 : decode cX7_restore 189 = .ok (.iload_n 3, 1) := by decide +kernel
theorem dX7_restore_190 : decode cX7_restore 190 = .ok (.bipush 24, 2) := by decide +kernel
theorem dX7_restore_192 : decode cX7_restore 192 = .ok (.if_icmp .ge 27, 3) := by decide +kernel
theorem dX7_restore_195 : decode cX7_restore 195 = .ok (.aload_n 0, 1) := by decide +kernel
theorem dX7_restore_196 : decode cX7_restore 196 = .ok (.getfield 28, 3) := by decide +kernel
theorem dX7_restore_199 : decode cX7_restore 199 = .ok (.iload_n 3, 1) := by decide +kernel
theorem dX7_restore_200 : decode cX7_restore 200 = .ok (.aload_n 0, 1) := by decide +kernel
theorem dX7_restore_201 : decode cX7_restore 201 = .ok (.getfield 67, 3) := by decide +kernel
theorem dX7_restore_204 : decode cX7_restore 204 = .ok (.iload_n 2, 1) := by decide +kernel
theorem dX7_restore_205 : decode cX7_restore 205 = .ok (.sipush 180, 3) := by decide +kernel
theorem dX7_restore_208 : decode cX7_restore 208 = .ok (.iadd, 1) := by decide +kernel
theorem dX7_restore_209 : decode cX7_restore 209 = .ok (.iload_n 3, 1) := by decide +kernel
theorem dX7_restore_210 : decode cX7_restore 210 = .ok (.iadd, 1) := by decide +kernel
theorem dX7_restore_211 : decode cX7_restore 211 = .ok (.iaload, 1) := by decide +kernel
theorem dX7_restore_212 : decode cX7_restore 212 = .ok (.iastore, 1) := by decide +kernel
theorem dX7_restore_213 : decode cX7_restore 213 = .ok (.iinc 3 1, 3) := by decide +kernel
theorem dX7_restore_216 : decode cX7_restore 216 = .ok (.goto (-27), 3) := by decide +kernel
theorem dX7_restore_219 : decode cX7_restore 219 = .ok (.aload_n 0, 1) := by decide +kernel
theorem dX7_restore_220 : decode cX7_restore 220 = .ok (.aload_n 0, 1) := by decide +kernel
theorem dX7_restore_221 : decode cX7_restore 221 = .ok (.getfield 67, 3) := by decide +kernel
theorem dX7_restore_224 : decode cX7_restore 224 = .ok (.iload_n 2, 1) := by decide +kernel
theorem dX7_restore_225 : decode cX7_restore 225 = .ok (.sipush 210, 3) := by decide +kernel
theorem dX7_restore_228 : decode cX7_restore 228 = .ok (.iadd, 1) := by decide +kernel
theorem dX7_restore_229 : decode cX7_restore 229 = .ok (.iaload, 1) := by decide +kernel
theorem dX7_restore_230 : decode cX7_restore 230 = .ok (.putfield 106, 3) := by decide +kernel
theorem dX7_restore_233 : decode cX7_restore 233 = .ok (.aload_n 0, 1) := by decide +kernel
theorem dX7_restore_234 : decode cX7_restore 234 = .ok (.aload_n 0, 1) := by decide +kernel
theorem dX7_restore_235 : decode cX7_restore 235 = .ok (.getfield 67, 3) := by decide +kernel
theorem dX7_restore_238 : decode cX7_restore 238 = .ok (.iload_n 2, 1) := by decide +kernel
theorem dX7_restore_239 : decode cX7_restore 239 = .ok (.sipush 211, 3) := by decide +kernel
theorem dX7_restore_242 : decode cX7_restore 242 = .ok (.iadd, 1) := by decide +kernel
theorem dX7_restore_243 : decode cX7_restore 243 = .ok (.iaload, 1) := by decide +kernel
theorem dX7_restore_244 : decode cX7_restore 244 = .ok (.putfield 109, 3) := by decide +kernel
theorem dX7_restore_247 : decode cX7_restore 247 = .ok (.iconst 1, 1) := by decide +kernel
theorem dX7_restore_248 : decode cX7_restore 248 = .ok (.ireturn, 1) := by decide +kernel
theorem dX7_told_0 : decode cX7_told 0 = .ok (.iload_n 1, 1) := by decide +kernel
theorem dX7_told_1 : decode cX7_told 1 = .ok (.bipush 100, 2) := by decide +kernel
theorem dX7_told_3 : decode cX7_told 3 = .ok (.if_icmp .lt 29, 3) := by decide +kernel
theorem dX7_told_6 : decode cX7_told 6 = .ok (.iload_n 1, 1) := by decide +kernel
theorem dX7_told_7 : decode cX7_told 7 = .ok (.bipush 100, 2) := by decide +kernel
theorem dX7_told_9 : decode cX7_told 9 = .ok (.isub, 1) := by decide +kernel
theorem dX7_told_10 : decode cX7_told 10 = .ok (.aload_n 0, 1) := by decide +kernel
theorem dX7_told_11 : decode cX7_told 11 = .ok (.getfield 109, 3) := by decide +kernel
theorem dX7_told_14 : decode cX7_told 14 = .ok (.if_icmp .ge 15, 3) := by decide +kernel
theorem dX7_told_17 : decode cX7_told 17 = .ok (.aload_n 0, 1) := by decide +kernel
theorem dX7_told_18 : decode cX7_told 18 = .ok (.getfield 28, 3) := by decide +kernel
theorem dX7_told_21 : decode cX7_told 21 = .ok (.iload_n 1, 1) := by decide +kernel
theorem dX7_told_22 : decode cX7_told 22 = .ok (.bipush 100, 2) := by decide +kernel
theorem dX7_told_24 : decode cX7_told 24 = .ok (.isub, 1) := by decide +kernel
theorem dX7_told_25 : decode cX7_told 25 = .ok (.iaload, 1) := by decide +kernel
theorem dX7_told_26 : decode cX7_told 26 = .ok (.goto 5, 3) := by decide +kernel
theorem dX7_told_29 : decode cX7_told 29 = .ok (.bipush (-2), 2) := by decide +kernel
theorem dX7_told_31 : decode cX7_told 31 = .ok (.ireturn, 1) := by decide +kernel
theorem dX7_told_32 : decode cX7_told 32 = .ok (.iload_n 1, 1) := by decide +kernel
theorem dX7_told_33 : decode cX7_told 33 = .ok (.bipush 10, 2) := by decide +kernel
theorem dX7_told_35 : decode cX7_told 35 = .ok (.if_icmp .lt 24, 3) := by decide +kernel
theorem dX7_told_38 : decode cX7_told 38 = .ok (.iload_n 1, 1) := by decide +kernel
theorem dX7_told_39 : decode cX7_told 39 = .ok (.bipush 34, 2) := by decide +kernel
theorem dX7_told_41 : decode cX7_told 41 = .ok (.if_icmp .ge 15, 3) := by decide +kernel
theorem dX7_told_44 : decode cX7_told 44 = .ok (.aload_n 0, 1) := by decide +kernel
theorem dX7_told_45 : decode cX7_told 45 = .ok (.getfield 22, 3) := by decide +kernel
theorem dX7_told_48 : decode cX7_told 48 = .ok (.iload_n 1, 1) := by decide +kernel
theorem dX7_told_49 : decode cX7_told 49 = .ok (.bipush 10, 2) := by decide +kernel
theorem dX7_told_51 : decode cX7_told 51 = .ok (.isub, 1) := by decide +kernel
theorem dX7_told_52 : decode cX7_told 52 = .ok (.iaload, 1) := by decide +kernel
theorem dX7_told_53 : decode cX7_told 53 = .ok (.goto 5, 3) := by decide +kernel
theorem dX7_told_56 : decode cX7_told 56 = .ok (.bipush (-2), 2) := by decide +kernel
theorem dX7_told_58 : decode cX7_told 58 = .ok (.ireturn, 1) := by decide +kernel
theorem dX7_told_59 : decode cX7_told 59 = .ok (.iload_n 1, 1) := by decide +kernel
theorem dX7_told_60 : decode cX7_told 60 = .ok (.tableswitch 43 0 2 #[28, 33, 38], 28) := by decide +kernel
theorem dX7_told_88 : decode cX7_told 88 = .ok (.aload_n 0, 1) := by decide +kernel
theorem dX7_told_89 : decode cX7_told 89 = .ok (.getfield 78, 3) := by decide +kernel
theorem dX7_told_92 : decode cX7_told 92 = .ok (.ireturn, 1) := by decide +kernel
theorem dX7_told_93 : decode cX7_told 93 = .ok (.aload_n 0, 1) := by decide +kernel
theorem dX7_told_94 : decode cX7_told 94 = .ok (.getfield 106, 3) := by decide +kernel
theorem dX7_told_97 : decode cX7_told 97 = .ok (.ireturn, 1) := by decide +kernel
theorem dX7_told_98 : decode cX7_told 98 = .ok (.aload_n 0, 1) := by decide +kernel
theorem dX7_told_99 : decode cX7_told 99 = .ok (.getfield 109, 3) := by decide +kernel
theorem dX7_told_102 : decode cX7_told 102 = .ok (.ireturn, 1) := by decide +kernel
theorem dX7_told_103 : decode cX7_told 103 = .ok (.iload_n 1, 1) := by decide +kernel
theorem dX7_told_104 : decode cX7_told 104 = .ok (.iconst 3, 1) := by decide +kernel
theorem dX7_told_105 : decode cX7_told 105 = .ok (.bipush 6, 2) := by decide +kernel
theorem dX7_told_107 : decode cX7_told 107 = .ok (.invokestatic 74, 3) := by decide +kernel
theorem dX7_told_110 : decode cX7_told 110 = .ok (.ifCond .eq 14, 3) := by decide +kernel
theorem dX7_told_113 : decode cX7_told 113 = .ok (.aload_n 0, 1) := by decide +kernel
theorem dX7_told_114 : decode cX7_told 114 = .ok (.getfield 25, 3) := by decide +kernel
theorem dX7_told_117 : decode cX7_told 117 = .ok (.iload_n 1, 1) := by decide +kernel
theorem dX7_told_118 : decode cX7_told 118 = .ok (.iconst 3, 1) := by decide +kernel
theorem dX7_told_119 : decode cX7_told 119 = .ok (.isub, 1) := by decide +kernel
theorem dX7_told_120 : decode cX7_told 120 = .ok (.iaload, 1) := by decide +kernel
theorem dX7_told_121 : decode cX7_told 121 = .ok (.goto 5, 3) := by decide +kernel
theorem dX7_told_124 : decode cX7_told 124 = .ok (.bipush (-2), 2) := by decide +kernel
theorem dX7_told_126 : decode cX7_told 126 = .ok (.ireturn, 1) := by decide +kernel
