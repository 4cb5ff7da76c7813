/-! by program (wip/p1): the law, instruction by instruction; the frame of the skeleton (kit/laws) -/
abbrev b_Law_law : ByteArray := code
theorem d_Law_law_0 : decode b_Law_law 0 = .ok (.new 8, 3) := by decide +kernel
theorem d_Law_law_3 : decode b_Law_law 3 = .ok (.dup, 1) := by decide +kernel
theorem d_Law_law_4 : decode b_Law_law 4 = .ok (.invokespecial 48, 3) := by decide +kernel
theorem d_Law_law_7 : decode b_Law_law 7 = .ok (.astore_n 1, 1) := by decide +kernel
theorem d_Law_law_8 : decode b_Law_law 8 = .ok (.new 49, 3) := by decide +kernel
theorem d_Law_law_11 : decode b_Law_law 11 = .ok (.dup, 1) := by decide +kernel
theorem d_Law_law_12 : decode b_Law_law 12 = .ok (.invokespecial 51, 3) := by decide +kernel
theorem d_Law_law_15 : decode b_Law_law 15 = .ok (.astore_n 2, 1) := by decide +kernel
theorem d_Law_law_16 : decode b_Law_law 16 = .ok (.iconst 1, 1) := by decide +kernel
theorem d_Law_law_17 : decode b_Law_law 17 = .ok (.newarray .long, 2) := by decide +kernel
theorem d_Law_law_19 : decode b_Law_law 19 = .ok (.astore_n 3, 1) := by decide +kernel
theorem d_Law_law_20 : decode b_Law_law 20 = .ok (.iconst 0, 1) := by decide +kernel
theorem d_Law_law_21 : decode b_Law_law 21 = .ok (.istore 4, 2) := by decide +kernel
theorem d_Law_law_23 : decode b_Law_law 23 = .ok (.iload 4, 2) := by decide +kernel
theorem d_Law_law_25 : decode b_Law_law 25 = .ok (.aload_n 0, 1) := by decide +kernel
theorem d_Law_law_26 : decode b_Law_law 26 = .ok (.arraylength, 1) := by decide +kernel
theorem d_Law_law_27 : decode b_Law_law 27 = .ok (.bipush 6, 2) := by decide +kernel
theorem d_Law_law_29 : decode b_Law_law 29 = .ok (.isub, 1) := by decide +kernel
theorem d_Law_law_30 : decode b_Law_law 30 = .ok (.if_icmp .gt 570, 3) := by decide +kernel
theorem d_Law_law_33 : decode b_Law_law 33 = .ok (.aload_n 0, 1) := by decide +kernel
theorem d_Law_law_34 : decode b_Law_law 34 = .ok (.iload 4, 2) := by decide +kernel
theorem d_Law_law_36 : decode b_Law_law 36 = .ok (.iaload, 1) := by decide +kernel
theorem d_Law_law_37 : decode b_Law_law 37 = .ok (.bipush 7, 2) := by decide +kernel
theorem d_Law_law_39 : decode b_Law_law 39 = .ok (.iand, 1) := by decide +kernel
theorem d_Law_law_40 : decode b_Law_law 40 = .ok (.tableswitch 554 0 7 #[48, 152, 208, 252, 320, 388, 443, 498], 48) := by decide +kernel
theorem d_Law_law_88 : decode b_Law_law 88 = .ok (.aload_n 1, 1) := by decide +kernel
theorem d_Law_law_89 : decode b_Law_law 89 = .ok (.aload_n 0, 1) := by decide +kernel
theorem d_Law_law_90 : decode b_Law_law 90 = .ok (.iload 4, 2) := by decide +kernel
theorem d_Law_law_92 : decode b_Law_law 92 = .ok (.iconst 1, 1) := by decide +kernel
theorem d_Law_law_93 : decode b_Law_law 93 = .ok (.iadd, 1) := by decide +kernel
theorem d_Law_law_94 : decode b_Law_law 94 = .ok (.iaload, 1) := by decide +kernel
theorem d_Law_law_95 : decode b_Law_law 95 = .ok (.aload_n 0, 1) := by decide +kernel
theorem d_Law_law_96 : decode b_Law_law 96 = .ok (.iload 4, 2) := by decide +kernel
theorem d_Law_law_98 : decode b_Law_law 98 = .ok (.iconst 2, 1) := by decide +kernel
theorem d_Law_law_99 : decode b_Law_law 99 = .ok (.iadd, 1) := by decide +kernel
theorem d_Law_law_100 : decode b_Law_law 100 = .ok (.iaload, 1) := by decide +kernel
theorem d_Law_law_101 : decode b_Law_law 101 = .ok (.aload_n 0, 1) := by decide +kernel
theorem d_Law_law_102 : decode b_Law_law 102 = .ok (.iload 4, 2) := by decide +kernel
theorem d_Law_law_104 : decode b_Law_law 104 = .ok (.iconst 3, 1) := by decide +kernel
theorem d_Law_law_105 : decode b_Law_law 105 = .ok (.iadd, 1) := by decide +kernel
theorem d_Law_law_106 : decode b_Law_law 106 = .ok (.iaload, 1) := by decide +kernel
theorem d_Law_law_107 : decode b_Law_law 107 = .ok (.aload_n 0, 1) := by decide +kernel
theorem d_Law_law_108 : decode b_Law_law 108 = .ok (.iload 4, 2) := by decide +kernel
theorem d_Law_law_110 : decode b_Law_law 110 = .ok (.iconst 4, 1) := by decide +kernel
theorem d_Law_law_111 : decode b_Law_law 111 = .ok (.iadd, 1) := by decide +kernel
theorem d_Law_law_112 : decode b_Law_law 112 = .ok (.iaload, 1) := by decide +kernel
theorem d_Law_law_113 : decode b_Law_law 113 = .ok (.aload_n 0, 1) := by decide +kernel
theorem d_Law_law_114 : decode b_Law_law 114 = .ok (.iload 4, 2) := by decide +kernel
theorem d_Law_law_116 : decode b_Law_law 116 = .ok (.iconst 5, 1) := by decide +kernel
theorem d_Law_law_117 : decode b_Law_law 117 = .ok (.iadd, 1) := by decide +kernel
theorem d_Law_law_118 : decode b_Law_law 118 = .ok (.iaload, 1) := by decide +kernel
theorem d_Law_law_119 : decode b_Law_law 119 = .ok (.aload_n 3, 1) := by decide +kernel
theorem d_Law_law_120 : decode b_Law_law 120 = .ok (.invokestatic 52, 3) := by decide +kernel
theorem d_Law_law_123 : decode b_Law_law 123 = .ok (.istore 5, 2) := by decide +kernel
theorem d_Law_law_125 : decode b_Law_law 125 = .ok (.aload_n 2, 1) := by decide +kernel
theorem d_Law_law_126 : decode b_Law_law 126 = .ok (.aload_n 0, 1) := by decide +kernel
theorem d_Law_law_127 : decode b_Law_law 127 = .ok (.iload 4, 2) := by decide +kernel
theorem d_Law_law_129 : decode b_Law_law 129 = .ok (.iconst 1, 1) := by decide +kernel
theorem d_Law_law_130 : decode b_Law_law 130 = .ok (.iadd, 1) := by decide +kernel
theorem d_Law_law_131 : decode b_Law_law 131 = .ok (.iaload, 1) := by decide +kernel
theorem d_Law_law_132 : decode b_Law_law 132 = .ok (.aload_n 0, 1) := by decide +kernel
theorem d_Law_law_133 : decode b_Law_law 133 = .ok (.iload 4, 2) := by decide +kernel
theorem d_Law_law_135 : decode b_Law_law 135 = .ok (.iconst 2, 1) := by decide +kernel
theorem d_Law_law_136 : decode b_Law_law 136 = .ok (.iadd, 1) := by decide +kernel
theorem d_Law_law_137 : decode b_Law_law 137 = .ok (.iaload, 1) := by decide +kernel
theorem d_Law_law_138 : decode b_Law_law 138 = .ok (.aload_n 0, 1) := by decide +kernel
theorem d_Law_law_139 : decode b_Law_law 139 = .ok (.iload 4, 2) := by decide +kernel
theorem d_Law_law_141 : decode b_Law_law 141 = .ok (.iconst 3, 1) := by decide +kernel
theorem d_Law_law_142 : decode b_Law_law 142 = .ok (.iadd, 1) := by decide +kernel
theorem d_Law_law_143 : decode b_Law_law 143 = .ok (.iaload, 1) := by decide +kernel
theorem d_Law_law_144 : decode b_Law_law 144 = .ok (.aload_n 0, 1) := by decide +kernel
theorem d_Law_law_145 : decode b_Law_law 145 = .ok (.iload 4, 2) := by decide +kernel
theorem d_Law_law_147 : decode b_Law_law 147 = .ok (.iconst 4, 1) := by decide +kernel
theorem d_Law_law_148 : decode b_Law_law 148 = .ok (.iadd, 1) := by decide +kernel
theorem d_Law_law_149 : decode b_Law_law 149 = .ok (.iaload, 1) := by decide +kernel
theorem d_Law_law_150 : decode b_Law_law 150 = .ok (.aload_n 0, 1) := by decide +kernel
theorem d_Law_law_151 : decode b_Law_law 151 = .ok (.iload 4, 2) := by decide +kernel
theorem d_Law_law_153 : decode b_Law_law 153 = .ok (.iconst 5, 1) := by decide +kernel
theorem d_Law_law_154 : decode b_Law_law 154 = .ok (.iadd, 1) := by decide +kernel
theorem d_Law_law_155 : decode b_Law_law 155 = .ok (.iaload, 1) := by decide +kernel
theorem d_Law_law_156 : decode b_Law_law 156 = .ok (.invokevirtual 57, 3) := by decide +kernel
theorem d_Law_law_159 : decode b_Law_law 159 = .ok (.istore 6, 2) := by decide +kernel
theorem d_Law_law_161 : decode b_Law_law 161 = .ok (.aload_n 2, 1) := by decide +kernel
theorem d_Law_law_162 : decode b_Law_law 162 = .ok (.invokevirtual 58, 3) := by decide +kernel
theorem d_Law_law_165 : decode b_Law_law 165 = .ok (.iload 5, 2) := by decide +kernel
theorem d_Law_law_167 : decode b_Law_law 167 = .ok (.if_icmp .eq 5, 3) := by decide +kernel
theorem d_Law_law_170 : decode b_Law_law 170 = .ok (.iconst 0, 1) := by decide +kernel
theorem d_Law_law_171 : decode b_Law_law 171 = .ok (.ireturn, 1) := by decide +kernel
theorem d_Law_law_172 : decode b_Law_law 172 = .ok (.iload 5, 2) := by decide +kernel
theorem d_Law_law_174 : decode b_Law_law 174 = .ok (.ifCond .ne 15, 3) := by decide +kernel
theorem d_Law_law_177 : decode b_Law_law 177 = .ok (.aload_n 3, 1) := by decide +kernel
theorem d_Law_law_178 : decode b_Law_law 178 = .ok (.iconst 0, 1) := by decide +kernel
theorem d_Law_law_179 : decode b_Law_law 179 = .ok (.laload, 1) := by decide +kernel
theorem d_Law_law_180 : decode b_Law_law 180 = .ok (.iload 6, 2) := by decide +kernel
theorem d_Law_law_182 : decode b_Law_law 182 = .ok (.i2l, 1) := by decide +kernel
theorem d_Law_law_183 : decode b_Law_law 183 = .ok (.lcmp, 1) := by decide +kernel
theorem d_Law_law_184 : decode b_Law_law 184 = .ok (.ifCond .eq 5, 3) := by decide +kernel
theorem d_Law_law_187 : decode b_Law_law 187 = .ok (.iconst 0, 1) := by decide +kernel
theorem d_Law_law_188 : decode b_Law_law 188 = .ok (.ireturn, 1) := by decide +kernel
theorem d_Law_law_189 : decode b_Law_law 189 = .ok (.goto 405, 3) := by decide +kernel
theorem d_Law_law_192 : decode b_Law_law 192 = .ok (.aload_n 1, 1) := by decide +kernel
theorem d_Law_law_193 : decode b_Law_law 193 = .ok (.aload_n 0, 1) := by decide +kernel
theorem d_Law_law_194 : decode b_Law_law 194 = .ok (.iload 4, 2) := by decide +kernel
theorem d_Law_law_196 : decode b_Law_law 196 = .ok (.iconst 1, 1) := by decide +kernel
theorem d_Law_law_197 : decode b_Law_law 197 = .ok (.iadd, 1) := by decide +kernel
theorem d_Law_law_198 : decode b_Law_law 198 = .ok (.iaload, 1) := by decide +kernel
theorem d_Law_law_199 : decode b_Law_law 199 = .ok (.aload_n 3, 1) := by decide +kernel
theorem d_Law_law_200 : decode b_Law_law 200 = .ok (.invokestatic 61, 3) := by decide +kernel
theorem d_Law_law_203 : decode b_Law_law 203 = .ok (.istore 5, 2) := by decide +kernel
theorem d_Law_law_205 : decode b_Law_law 205 = .ok (.aload_n 2, 1) := by decide +kernel
theorem d_Law_law_206 : decode b_Law_law 206 = .ok (.aload_n 0, 1) := by decide +kernel
theorem d_Law_law_207 : decode b_Law_law 207 = .ok (.iload 4, 2) := by decide +kernel
theorem d_Law_law_209 : decode b_Law_law 209 = .ok (.iconst 1, 1) := by decide +kernel
theorem d_Law_law_210 : decode b_Law_law 210 = .ok (.iadd, 1) := by decide +kernel
theorem d_Law_law_211 : decode b_Law_law 211 = .ok (.iaload, 1) := by decide +kernel
theorem d_Law_law_212 : decode b_Law_law 212 = .ok (.invokevirtual 64, 3) := by decide +kernel
theorem d_Law_law_215 : decode b_Law_law 215 = .ok (.istore 6, 2) := by decide +kernel
theorem d_Law_law_217 : decode b_Law_law 217 = .ok (.aload_n 2, 1) := by decide +kernel
theorem d_Law_law_218 : decode b_Law_law 218 = .ok (.invokevirtual 58, 3) := by decide +kernel
theorem d_Law_law_221 : decode b_Law_law 221 = .ok (.iload 5, 2) := by decide +kernel
theorem d_Law_law_223 : decode b_Law_law 223 = .ok (.if_icmp .eq 5, 3) := by decide +kernel
theorem d_Law_law_226 : decode b_Law_law 226 = .ok (.iconst 0, 1) := by decide +kernel
theorem d_Law_law_227 : decode b_Law_law 227 = .ok (.ireturn, 1) := by decide +kernel
theorem d_Law_law_228 : decode b_Law_law 228 = .ok (.iload 5, 2) := by decide +kernel
theorem d_Law_law_230 : decode b_Law_law 230 = .ok (.ifCond .ne 15, 3) := by decide +kernel
theorem d_Law_law_233 : decode b_Law_law 233 = .ok (.aload_n 3, 1) := by decide +kernel
theorem d_Law_law_234 : decode b_Law_law 234 = .ok (.iconst 0, 1) := by decide +kernel
theorem d_Law_law_235 : decode b_Law_law 235 = .ok (.laload, 1) := by decide +kernel
theorem d_Law_law_236 : decode b_Law_law 236 = .ok (.iload 6, 2) := by decide +kernel
theorem d_Law_law_238 : decode b_Law_law 238 = .ok (.i2l, 1) := by decide +kernel
theorem d_Law_law_239 : decode b_Law_law 239 = .ok (.lcmp, 1) := by decide +kernel
theorem d_Law_law_240 : decode b_Law_law 240 = .ok (.ifCond .eq 5, 3) := by decide +kernel
theorem d_Law_law_243 : decode b_Law_law 243 = .ok (.iconst 0, 1) := by decide +kernel
theorem d_Law_law_244 : decode b_Law_law 244 = .ok (.ireturn, 1) := by decide +kernel
theorem d_Law_law_245 : decode b_Law_law 245 = .ok (.goto 349, 3) := by decide +kernel
theorem d_Law_law_248 : decode b_Law_law 248 = .ok (.aload_n 1, 1) := by decide +kernel
theorem d_Law_law_249 : decode b_Law_law 249 = .ok (.aload_n 3, 1) := by decide +kernel
theorem d_Law_law_250 : decode b_Law_law 250 = .ok (.invokestatic 65, 3) := by decide +kernel
theorem d_Law_law_253 : decode b_Law_law 253 = .ok (.istore 5, 2) := by decide +kernel
theorem d_Law_law_255 : decode b_Law_law 255 = .ok (.aload_n 2, 1) := by decide +kernel
theorem d_Law_law_256 : decode b_Law_law 256 = .ok (.invokevirtual 68, 3) := by decide +kernel
theorem d_Law_law_259 : decode b_Law_law 259 = .ok (.istore 6, 2) := by decide +kernel
theorem d_Law_law_261 : decode b_Law_law 261 = .ok (.aload_n 2, 1) := by decide +kernel
theorem d_Law_law_262 : decode b_Law_law 262 = .ok (.invokevirtual 58, 3) := by decide +kernel
theorem d_Law_law_265 : decode b_Law_law 265 = .ok (.iload 5, 2) := by decide +kernel
theorem d_Law_law_267 : decode b_Law_law 267 = .ok (.if_icmp .eq 5, 3) := by decide +kernel
theorem d_Law_law_270 : decode b_Law_law 270 = .ok (.iconst 0, 1) := by decide +kernel
theorem d_Law_law_271 : decode b_Law_law 271 = .ok (.ireturn, 1) := by decide +kernel
theorem d_Law_law_272 : decode b_Law_law 272 = .ok (.iload 5, 2) := by decide +kernel
theorem d_Law_law_274 : decode b_Law_law 274 = .ok (.ifCond .ne 15, 3) := by decide +kernel
theorem d_Law_law_277 : decode b_Law_law 277 = .ok (.aload_n 3, 1) := by decide +kernel
theorem d_Law_law_278 : decode b_Law_law 278 = .ok (.iconst 0, 1) := by decide +kernel
theorem d_Law_law_279 : decode b_Law_law 279 = .ok (.laload, 1) := by decide +kernel
theorem d_Law_law_280 : decode b_Law_law 280 = .ok (.iload 6, 2) := by decide +kernel
theorem d_Law_law_282 : decode b_Law_law 282 = .ok (.i2l, 1) := by decide +kernel
theorem d_Law_law_283 : decode b_Law_law 283 = .ok (.lcmp, 1) := by decide +kernel
theorem d_Law_law_284 : decode b_Law_law 284 = .ok (.ifCond .eq 5, 3) := by decide +kernel
theorem d_Law_law_287 : decode b_Law_law 287 = .ok (.iconst 0, 1) := by decide +kernel
theorem d_Law_law_288 : decode b_Law_law 288 = .ok (.ireturn, 1) := by decide +kernel
theorem d_Law_law_289 : decode b_Law_law 289 = .ok (.goto 305, 3) := by decide +kernel
theorem d_Law_law_292 : decode b_Law_law 292 = .ok (.aload_n 1, 1) := by decide +kernel
theorem d_Law_law_293 : decode b_Law_law 293 = .ok (.aload_n 0, 1) := by decide +kernel
theorem d_Law_law_294 : decode b_Law_law 294 = .ok (.iload 4, 2) := by decide +kernel
theorem d_Law_law_296 : decode b_Law_law 296 = .ok (.iconst 1, 1) := by decide +kernel
theorem d_Law_law_297 : decode b_Law_law 297 = .ok (.iadd, 1) := by decide +kernel
theorem d_Law_law_298 : decode b_Law_law 298 = .ok (.iaload, 1) := by decide +kernel
theorem d_Law_law_299 : decode b_Law_law 299 = .ok (.aload_n 0, 1) := by decide +kernel
theorem d_Law_law_300 : decode b_Law_law 300 = .ok (.iload 4, 2) := by decide +kernel
theorem d_Law_law_302 : decode b_Law_law 302 = .ok (.iconst 2, 1) := by decide +kernel
theorem d_Law_law_303 : decode b_Law_law 303 = .ok (.iadd, 1) := by decide +kernel
theorem d_Law_law_304 : decode b_Law_law 304 = .ok (.iaload, 1) := by decide +kernel
theorem d_Law_law_305 : decode b_Law_law 305 = .ok (.aload_n 3, 1) := by decide +kernel
theorem d_Law_law_306 : decode b_Law_law 306 = .ok (.invokestatic 69, 3) := by decide +kernel
theorem d_Law_law_309 : decode b_Law_law 309 = .ok (.istore 5, 2) := by decide +kernel
theorem d_Law_law_311 : decode b_Law_law 311 = .ok (.aload_n 2, 1) := by decide +kernel
theorem d_Law_law_312 : decode b_Law_law 312 = .ok (.aload_n 0, 1) := by decide +kernel
theorem d_Law_law_313 : decode b_Law_law 313 = .ok (.iload 4, 2) := by decide +kernel
theorem d_Law_law_315 : decode b_Law_law 315 = .ok (.iconst 1, 1) := by decide +kernel
theorem d_Law_law_316 : decode b_Law_law 316 = .ok (.iadd, 1) := by decide +kernel
theorem d_Law_law_317 : decode b_Law_law 317 = .ok (.iaload, 1) := by decide +kernel
theorem d_Law_law_318 : decode b_Law_law 318 = .ok (.aload_n 0, 1) := by decide +kernel
theorem d_Law_law_319 : decode b_Law_law 319 = .ok (.iload 4, 2) := by decide +kernel
theorem d_Law_law_321 : decode b_Law_law 321 = .ok (.iconst 2, 1) := by decide +kernel
theorem d_Law_law_322 : decode b_Law_law 322 = .ok (.iadd, 1) := by decide +kernel
theorem d_Law_law_323 : decode b_Law_law 323 = .ok (.iaload, 1) := by decide +kernel
theorem d_Law_law_324 : decode b_Law_law 324 = .ok (.invokevirtual 72, 3) := by decide +kernel
theorem d_Law_law_327 : decode b_Law_law 327 = .ok (.istore 6, 2) := by decide +kernel
theorem d_Law_law_329 : decode b_Law_law 329 = .ok (.aload_n 2, 1) := by decide +kernel
theorem d_Law_law_330 : decode b_Law_law 330 = .ok (.invokevirtual 58, 3) := by decide +kernel
theorem d_Law_law_333 : decode b_Law_law 333 = .ok (.iload 5, 2) := by decide +kernel
theorem d_Law_law_335 : decode b_Law_law 335 = .ok (.if_icmp .eq 5, 3) := by decide +kernel
theorem d_Law_law_338 : decode b_Law_law 338 = .ok (.iconst 0, 1) := by decide +kernel
theorem d_Law_law_339 : decode b_Law_law 339 = .ok (.ireturn, 1) := by decide +kernel
theorem d_Law_law_340 : decode b_Law_law 340 = .ok (.iload 5, 2) := by decide +kernel
theorem d_Law_law_342 : decode b_Law_law 342 = .ok (.ifCond .ne 15, 3) := by decide +kernel
theorem d_Law_law_345 : decode b_Law_law 345 = .ok (.aload_n 3, 1) := by decide +kernel
theorem d_Law_law_346 : decode b_Law_law 346 = .ok (.iconst 0, 1) := by decide +kernel
theorem d_Law_law_347 : decode b_Law_law 347 = .ok (.laload, 1) := by decide +kernel
theorem d_Law_law_348 : decode b_Law_law 348 = .ok (.iload 6, 2) := by decide +kernel
theorem d_Law_law_350 : decode b_Law_law 350 = .ok (.i2l, 1) := by decide +kernel
theorem d_Law_law_351 : decode b_Law_law 351 = .ok (.lcmp, 1) := by decide +kernel
theorem d_Law_law_352 : decode b_Law_law 352 = .ok (.ifCond .eq 5, 3) := by decide +kernel
theorem d_Law_law_355 : decode b_Law_law 355 = .ok (.iconst 0, 1) := by decide +kernel
theorem d_Law_law_356 : decode b_Law_law 356 = .ok (.ireturn, 1) := by decide +kernel
theorem d_Law_law_357 : decode b_Law_law 357 = .ok (.goto 237, 3) := by decide +kernel
theorem d_Law_law_360 : decode b_Law_law 360 = .ok (.aload_n 1, 1) := by decide +kernel
theorem d_Law_law_361 : decode b_Law_law 361 = .ok (.aload_n 0, 1) := by decide +kernel
theorem d_Law_law_362 : decode b_Law_law 362 = .ok (.iload 4, 2) := by decide +kernel
theorem d_Law_law_364 : decode b_Law_law 364 = .ok (.iconst 1, 1) := by decide +kernel
theorem d_Law_law_365 : decode b_Law_law 365 = .ok (.iadd, 1) := by decide +kernel
theorem d_Law_law_366 : decode b_Law_law 366 = .ok (.iaload, 1) := by decide +kernel
theorem d_Law_law_367 : decode b_Law_law 367 = .ok (.aload_n 0, 1) := by decide +kernel
theorem d_Law_law_368 : decode b_Law_law 368 = .ok (.iload 4, 2) := by decide +kernel
theorem d_Law_law_370 : decode b_Law_law 370 = .ok (.iconst 2, 1) := by decide +kernel
theorem d_Law_law_371 : decode b_Law_law 371 = .ok (.iadd, 1) := by decide +kernel
theorem d_Law_law_372 : decode b_Law_law 372 = .ok (.iaload, 1) := by decide +kernel
theorem d_Law_law_373 : decode b_Law_law 373 = .ok (.aload_n 3, 1) := by decide +kernel
theorem d_Law_law_374 : decode b_Law_law 374 = .ok (.invokestatic 73, 3) := by decide +kernel
theorem d_Law_law_377 : decode b_Law_law 377 = .ok (.istore 5, 2) := by decide +kernel
theorem d_Law_law_379 : decode b_Law_law 379 = .ok (.aload_n 2, 1) := by decide +kernel
theorem d_Law_law_380 : decode b_Law_law 380 = .ok (.aload_n 0, 1) := by decide +kernel
theorem d_Law_law_381 : decode b_Law_law 381 = .ok (.iload 4, 2) := by decide +kernel
theorem d_Law_law_383 : decode b_Law_law 383 = .ok (.iconst 1, 1) := by decide +kernel
theorem d_Law_law_384 : decode b_Law_law 384 = .ok (.iadd, 1) := by decide +kernel
theorem d_Law_law_385 : decode b_Law_law 385 = .ok (.iaload, 1) := by decide +kernel
theorem d_Law_law_386 : decode b_Law_law 386 = .ok (.aload_n 0, 1) := by decide +kernel
theorem d_Law_law_387 : decode b_Law_law 387 = .ok (.iload 4, 2) := by decide +kernel
theorem d_Law_law_389 : decode b_Law_law 389 = .ok (.iconst 2, 1) := by decide +kernel
theorem d_Law_law_390 : decode b_Law_law 390 = .ok (.iadd, 1) := by decide +kernel
theorem d_Law_law_391 : decode b_Law_law 391 = .ok (.iaload, 1) := by decide +kernel
theorem d_Law_law_392 : decode b_Law_law 392 = .ok (.invokevirtual 75, 3) := by decide +kernel
theorem d_Law_law_395 : decode b_Law_law 395 = .ok (.istore 6, 2) := by decide +kernel
theorem d_Law_law_397 : decode b_Law_law 397 = .ok (.aload_n 2, 1) := by decide +kernel
theorem d_Law_law_398 : decode b_Law_law 398 = .ok (.invokevirtual 58, 3) := by decide +kernel
theorem d_Law_law_401 : decode b_Law_law 401 = .ok (.iload 5, 2) := by decide +kernel
theorem d_Law_law_403 : decode b_Law_law 403 = .ok (.if_icmp .eq 5, 3) := by decide +kernel
theorem d_Law_law_406 : decode b_Law_law 406 = .ok (.iconst 0, 1) := by decide +kernel
theorem d_Law_law_407 : decode b_Law_law 407 = .ok (.ireturn, 1) := by decide +kernel
theorem d_Law_law_408 : decode b_Law_law 408 = .ok (.iload 5, 2) := by decide +kernel
theorem d_Law_law_410 : decode b_Law_law 410 = .ok (.ifCond .ne 15, 3) := by decide +kernel
theorem d_Law_law_413 : decode b_Law_law 413 = .ok (.aload_n 3, 1) := by decide +kernel
theorem d_Law_law_414 : decode b_Law_law 414 = .ok (.iconst 0, 1) := by decide +kernel
theorem d_Law_law_415 : decode b_Law_law 415 = .ok (.laload, 1) := by decide +kernel
theorem d_Law_law_416 : decode b_Law_law 416 = .ok (.iload 6, 2) := by decide +kernel
theorem d_Law_law_418 : decode b_Law_law 418 = .ok (.i2l, 1) := by decide +kernel
theorem d_Law_law_419 : decode b_Law_law 419 = .ok (.lcmp, 1) := by decide +kernel
theorem d_Law_law_420 : decode b_Law_law 420 = .ok (.ifCond .eq 5, 3) := by decide +kernel
theorem d_Law_law_423 : decode b_Law_law 423 = .ok (.iconst 0, 1) := by decide +kernel
theorem d_Law_law_424 : decode b_Law_law 424 = .ok (.ireturn, 1) := by decide +kernel
theorem d_Law_law_425 : decode b_Law_law 425 = .ok (.goto 169, 3) := by decide +kernel
theorem d_Law_law_428 : decode b_Law_law 428 = .ok (.aload_n 1, 1) := by decide +kernel
theorem d_Law_law_429 : decode b_Law_law 429 = .ok (.aload_n 0, 1) := by decide +kernel
theorem d_Law_law_430 : decode b_Law_law 430 = .ok (.iload 4, 2) := by decide +kernel
theorem d_Law_law_432 : decode b_Law_law 432 = .ok (.iconst 1, 1) := by decide +kernel
theorem d_Law_law_433 : decode b_Law_law 433 = .ok (.iadd, 1) := by decide +kernel
theorem d_Law_law_434 : decode b_Law_law 434 = .ok (.iaload, 1) := by decide +kernel
theorem d_Law_law_435 : decode b_Law_law 435 = .ok (.aload_n 3, 1) := by decide +kernel
theorem d_Law_law_436 : decode b_Law_law 436 = .ok (.invokestatic 76, 3) := by decide +kernel
theorem d_Law_law_439 : decode b_Law_law 439 = .ok (.istore 5, 2) := by decide +kernel
theorem d_Law_law_441 : decode b_Law_law 441 = .ok (.aload_n 2, 1) := by decide +kernel
theorem d_Law_law_442 : decode b_Law_law 442 = .ok (.aload_n 0, 1) := by decide +kernel
theorem d_Law_law_443 : decode b_Law_law 443 = .ok (.iload 4, 2) := by decide +kernel
theorem d_Law_law_445 : decode b_Law_law 445 = .ok (.iconst 1, 1) := by decide +kernel
theorem d_Law_law_446 : decode b_Law_law 446 = .ok (.iadd, 1) := by decide +kernel
theorem d_Law_law_447 : decode b_Law_law 447 = .ok (.iaload, 1) := by decide +kernel
theorem d_Law_law_448 : decode b_Law_law 448 = .ok (.invokevirtual 78, 3) := by decide +kernel
theorem d_Law_law_451 : decode b_Law_law 451 = .ok (.lstore 6, 2) := by decide +kernel
theorem d_Law_law_453 : decode b_Law_law 453 = .ok (.aload_n 2, 1) := by decide +kernel
theorem d_Law_law_454 : decode b_Law_law 454 = .ok (.invokevirtual 58, 3) := by decide +kernel
theorem d_Law_law_457 : decode b_Law_law 457 = .ok (.iload 5, 2) := by decide +kernel
theorem d_Law_law_459 : decode b_Law_law 459 = .ok (.if_icmp .eq 5, 3) := by decide +kernel
theorem d_Law_law_462 : decode b_Law_law 462 = .ok (.iconst 0, 1) := by decide +kernel
theorem d_Law_law_463 : decode b_Law_law 463 = .ok (.ireturn, 1) := by decide +kernel
theorem d_Law_law_464 : decode b_Law_law 464 = .ok (.iload 5, 2) := by decide +kernel
theorem d_Law_law_466 : decode b_Law_law 466 = .ok (.ifCond .ne 14, 3) := by decide +kernel
theorem d_Law_law_469 : decode b_Law_law 469 = .ok (.aload_n 3, 1) := by decide +kernel
theorem d_Law_law_470 : decode b_Law_law 470 = .ok (.iconst 0, 1) := by decide +kernel
theorem d_Law_law_471 : decode b_Law_law 471 = .ok (.laload, 1) := by decide +kernel
theorem d_Law_law_472 : decode b_Law_law 472 = .ok (.lload 6, 2) := by decide +kernel
theorem d_Law_law_474 : decode b_Law_law 474 = .ok (.lcmp, 1) := by decide +kernel
theorem d_Law_law_475 : decode b_Law_law 475 = .ok (.ifCond .eq 5, 3) := by decide +kernel
theorem d_Law_law_478 : decode b_Law_law 478 = .ok (.iconst 0, 1) := by decide +kernel
theorem d_Law_law_479 : decode b_Law_law 479 = .ok (.ireturn, 1) := by decide +kernel
theorem d_Law_law_480 : decode b_Law_law 480 = .ok (.goto 114, 3) := by decide +kernel
theorem d_Law_law_483 : decode b_Law_law 483 = .ok (.aload_n 1, 1) := by decide +kernel
theorem d_Law_law_484 : decode b_Law_law 484 = .ok (.aload_n 0, 1) := by decide +kernel
theorem d_Law_law_485 : decode b_Law_law 485 = .ok (.iload 4, 2) := by decide +kernel
theorem d_Law_law_487 : decode b_Law_law 487 = .ok (.iconst 1, 1) := by decide +kernel
theorem d_Law_law_488 : decode b_Law_law 488 = .ok (.iadd, 1) := by decide +kernel
theorem d_Law_law_489 : decode b_Law_law 489 = .ok (.iaload, 1) := by decide +kernel
theorem d_Law_law_490 : decode b_Law_law 490 = .ok (.aload_n 3, 1) := by decide +kernel
theorem d_Law_law_491 : decode b_Law_law 491 = .ok (.invokestatic 79, 3) := by decide +kernel
theorem d_Law_law_494 : decode b_Law_law 494 = .ok (.istore 5, 2) := by decide +kernel
theorem d_Law_law_496 : decode b_Law_law 496 = .ok (.aload_n 2, 1) := by decide +kernel
theorem d_Law_law_497 : decode b_Law_law 497 = .ok (.aload_n 0, 1) := by decide +kernel
theorem d_Law_law_498 : decode b_Law_law 498 = .ok (.iload 4, 2) := by decide +kernel
theorem d_Law_law_500 : decode b_Law_law 500 = .ok (.iconst 1, 1) := by decide +kernel
theorem d_Law_law_501 : decode b_Law_law 501 = .ok (.iadd, 1) := by decide +kernel
theorem d_Law_law_502 : decode b_Law_law 502 = .ok (.iaload, 1) := by decide +kernel
theorem d_Law_law_503 : decode b_Law_law 503 = .ok (.invokevirtual 81, 3) := by decide +kernel
theorem d_Law_law_506 : decode b_Law_law 506 = .ok (.lstore 6, 2) := by decide +kernel
theorem d_Law_law_508 : decode b_Law_law 508 = .ok (.aload_n 2, 1) := by decide +kernel
theorem d_Law_law_509 : decode b_Law_law 509 = .ok (.invokevirtual 58, 3) := by decide +kernel
theorem d_Law_law_512 : decode b_Law_law 512 = .ok (.iload 5, 2) := by decide +kernel
theorem d_Law_law_514 : decode b_Law_law 514 = .ok (.if_icmp .eq 5, 3) := by decide +kernel
theorem d_Law_law_517 : decode b_Law_law 517 = .ok (.iconst 0, 1) := by decide +kernel
theorem d_Law_law_518 : decode b_Law_law 518 = .ok (.ireturn, 1) := by decide +kernel
theorem d_Law_law_519 : decode b_Law_law 519 = .ok (.iload 5, 2) := by decide +kernel
theorem d_Law_law_521 : decode b_Law_law 521 = .ok (.ifCond .ne 14, 3) := by decide +kernel
theorem d_Law_law_524 : decode b_Law_law 524 = .ok (.aload_n 3, 1) := by decide +kernel
theorem d_Law_law_525 : decode b_Law_law 525 = .ok (.iconst 0, 1) := by decide +kernel
theorem d_Law_law_526 : decode b_Law_law 526 = .ok (.laload, 1) := by decide +kernel
theorem d_Law_law_527 : decode b_Law_law 527 = .ok (.lload 6, 2) := by decide +kernel
theorem d_Law_law_529 : decode b_Law_law 529 = .ok (.lcmp, 1) := by decide +kernel
theorem d_Law_law_530 : decode b_Law_law 530 = .ok (.ifCond .eq 5, 3) := by decide +kernel
theorem d_Law_law_533 : decode b_Law_law 533 = .ok (.iconst 0, 1) := by decide +kernel
theorem d_Law_law_534 : decode b_Law_law 534 = .ok (.ireturn, 1) := by decide +kernel
theorem d_Law_law_535 : decode b_Law_law 535 = .ok (.goto 59, 3) := by decide +kernel
theorem d_Law_law_538 : decode b_Law_law 538 = .ok (.aload_n 1, 1) := by decide +kernel
theorem d_Law_law_539 : decode b_Law_law 539 = .ok (.aload_n 0, 1) := by decide +kernel
theorem d_Law_law_540 : decode b_Law_law 540 = .ok (.iload 4, 2) := by decide +kernel
theorem d_Law_law_542 : decode b_Law_law 542 = .ok (.iconst 1, 1) := by decide +kernel
theorem d_Law_law_543 : decode b_Law_law 543 = .ok (.iadd, 1) := by decide +kernel
theorem d_Law_law_544 : decode b_Law_law 544 = .ok (.iaload, 1) := by decide +kernel
theorem d_Law_law_545 : decode b_Law_law 545 = .ok (.aload_n 3, 1) := by decide +kernel
theorem d_Law_law_546 : decode b_Law_law 546 = .ok (.invokestatic 82, 3) := by decide +kernel
theorem d_Law_law_549 : decode b_Law_law 549 = .ok (.istore 5, 2) := by decide +kernel
theorem d_Law_law_551 : decode b_Law_law 551 = .ok (.aload_n 2, 1) := by decide +kernel
theorem d_Law_law_552 : decode b_Law_law 552 = .ok (.aload_n 0, 1) := by decide +kernel
theorem d_Law_law_553 : decode b_Law_law 553 = .ok (.iload 4, 2) := by decide +kernel
theorem d_Law_law_555 : decode b_Law_law 555 = .ok (.iconst 1, 1) := by decide +kernel
theorem d_Law_law_556 : decode b_Law_law 556 = .ok (.iadd, 1) := by decide +kernel
theorem d_Law_law_557 : decode b_Law_law 557 = .ok (.iaload, 1) := by decide +kernel
theorem d_Law_law_558 : decode b_Law_law 558 = .ok (.invokevirtual 84, 3) := by decide +kernel
theorem d_Law_law_561 : decode b_Law_law 561 = .ok (.istore 6, 2) := by decide +kernel
theorem d_Law_law_563 : decode b_Law_law 563 = .ok (.aload_n 2, 1) := by decide +kernel
theorem d_Law_law_564 : decode b_Law_law 564 = .ok (.invokevirtual 58, 3) := by decide +kernel
theorem d_Law_law_567 : decode b_Law_law 567 = .ok (.iload 5, 2) := by decide +kernel
theorem d_Law_law_569 : decode b_Law_law 569 = .ok (.if_icmp .eq 5, 3) := by decide +kernel
theorem d_Law_law_572 : decode b_Law_law 572 = .ok (.iconst 0, 1) := by decide +kernel
theorem d_Law_law_573 : decode b_Law_law 573 = .ok (.ireturn, 1) := by decide +kernel
theorem d_Law_law_574 : decode b_Law_law 574 = .ok (.iload 5, 2) := by decide +kernel
theorem d_Law_law_576 : decode b_Law_law 576 = .ok (.ifCond .ne 15, 3) := by decide +kernel
theorem d_Law_law_579 : decode b_Law_law 579 = .ok (.aload_n 3, 1) := by decide +kernel
theorem d_Law_law_580 : decode b_Law_law 580 = .ok (.iconst 0, 1) := by decide +kernel
theorem d_Law_law_581 : decode b_Law_law 581 = .ok (.laload, 1) := by decide +kernel
theorem d_Law_law_582 : decode b_Law_law 582 = .ok (.iload 6, 2) := by decide +kernel
theorem d_Law_law_584 : decode b_Law_law 584 = .ok (.i2l, 1) := by decide +kernel
theorem d_Law_law_585 : decode b_Law_law 585 = .ok (.lcmp, 1) := by decide +kernel
theorem d_Law_law_586 : decode b_Law_law 586 = .ok (.ifCond .eq 5, 3) := by decide +kernel
theorem d_Law_law_589 : decode b_Law_law 589 = .ok (.iconst 0, 1) := by decide +kernel
theorem d_Law_law_590 : decode b_Law_law 590 = .ok (.ireturn, 1) := by decide +kernel
theorem d_Law_law_591 : decode b_Law_law 591 = .ok (.goto 3, 3) := by decide +kernel
theorem d_Law_law_594 : decode b_Law_law 594 = .ok (.iinc 4 6, 3) := by decide +kernel
theorem d_Law_law_597 : decode b_Law_law 597 = .ok (.goto (-574), 3) := by decide +kernel
theorem d_Law_law_600 : decode b_Law_law 600 = .ok (.iconst 1, 1) := by decide +kernel
theorem d_Law_law_601 : decode b_Law_law 601 = .ok (.ireturn, 1) := by decide +kernel
theorem tz_and7 (x : Int32) : ∃ k, k < 8 ∧ x &&& 7 = Int32.ofNat k := by
  refine ⟨x.toBitVec.toNat % 8, Nat.mod_lt _ (by omega), Int32.toBitVec_inj.mp (BitVec.eq_of_toNat_eq ?_)⟩
  show (x.toBitVec &&& 7#32).toNat = (BitVec.ofNat 32 (x.toBitVec.toNat % 8)).toNat
  have h : x.toBitVec.toNat % 8 < 2 ^ 32 := by omega
  have e1 : (x.toBitVec &&& 7#32).toNat = x.toBitVec.toNat % 8 := by
    rw [BitVec.toNat_and]
    exact Nat.and_two_pow_sub_one_eq_mod _ 3
  rw [e1, BitVec.toNat_ofNat, Nat.mod_eq_of_lt h]
theorem tz_L6 {L : Nat} (hL : L ≤ 6) (h : ¬ Int32.ofNat L - 6 < 0) : L = 6 := by
  rcases (by omega : L = 0 ∨ L = 1 ∨ L = 2 ∨ L = 3 ∨ L = 4 ∨ L = 5 ∨ L = 6) with rfl | rfl | rfl | rfl | rfl | rfl | rfl
  · exact absurd (by decide) h
  · exact absurd (by decide) h
  · exact absurd (by decide) h
  · exact absurd (by decide) h
  · exact absurd (by decide) h
  · exact absurd (by decide) h
  · rfl
theorem tz_c4 {z : Int32} (h0 : ¬ z = 0) (h1 : ¬ z = 1) (h2 : ¬ z = 2) (h3 : ¬ z = 3) : z.toInt < 0 ∨ 3 < z.toInt := by
  have a0 : z.toInt ≠ 0 := fun h => h0 (Int32.toInt_inj.mp h)
  have a1 : z.toInt ≠ 1 := fun h => h1 (Int32.toInt_inj.mp h)
  have a2 : z.toInt ≠ 2 := fun h => h2 (Int32.toInt_inj.mp h)
  have a3 : z.toInt ≠ 3 := fun h => h3 (Int32.toInt_inj.mp h)
  omega
/-! THE CLAIM OUT OF ONE WALK OF THE LAW'S BODY. Your part is whole_start (and what it stands on); all else here is the same for every law, but numbers. -/
def R_law : String := "SyntaxForgeLaw"
def lw_P (b : Addr) (xs : List Int32) (args : Array Value) (s : State) : Prop := args = #[.ref b] ∧ s.IntsAt b xs ∧ xs.length ≤ 3072 ∧ (Jvm.Cond.and given_1 narrow_1).before args s = true
def lw_Q (_ : Array Value) (s : State) (o : Outcome) (t : State) : Prop := o = .returned (some (.int 1)) ∧ Framed s o t [] 601024 7293034
def lw_Z (below : List Frame) (a : Array Value) (s : State) : State → Prop := fun t => ∃ o, t.status = .running ∧ Ended t below o ∧ lw_Q a s o t
/-- the law's own end, with 1 on the stack, nothing written that was there before, its room as the claim has it -/
theorem lw_ret {p : Program} {l : Launch} {e : Env} {s : State} {m : MethodId} {below : List Frame} {meth : Method} {c : Code} {b : Nat} (hx : p.tables.exec = Jvm.exec) (hb : c.code = code) (hr : meth.sig.returnType = ret) (hlocks : meth.locks = false) {pc : Nat} {H : Heap} {ls : Array Slot} (hdg : decode code pc = .ok (.ireturn, 1)) : W p l e room_1 s m #[Value.ref b] below meth c H [] 601024 7293034 (lw_Z below #[Value.ref b] s) (F0 m pc ls [.int 1]) := by
  intro T hT X
  obtain ⟨fs, hret, hrun, hended, hW, hframe⟩ := X.leave (v := some (.int 1)) (hlocks := hlocks) (fun h => by rw [hr] at h; cases h)
  have hmeth' : T.vm.method? m = some meth := X.method'
  refine ⟨T.setFrames fs, ?_, .returned (some (.int 1)), hrun, hended, rfl, ⟨_, rfl⟩, hW, hframe⟩
  jvm_step X.here [X.here.top, hx, hb, hdg, hmeth', hr, ret, narrow_b1]
  (try refine ⟨rfl, ?_⟩); (try refine ⟨rfl, ?_⟩)
  first | (intro acts; rw [hret _ acts rfl rfl rfl]) | rw [hret _ _ rfl rfl rfl]
  exact Steps.refl _
/-- what holds at the law's entry: the machine, the code, the tables' words (any of lw_tbl by 'hts w (by decide +kernel)'), the script of L ints xs at the cell b, what the Statement gives of the start (any of its parts by flat_of_before) -/
def lw_At (p : Program) (s : State) (m : MethodId) (meth : Method) (c : Code) (b L : Nat) (xs : Nat → Int32) : Prop :=
  p.tables.exec = Jvm.exec ∧ c.code = code ∧ meth.sig.returnType = ret ∧ c.maxLocals = 8 ∧ s.vm.findClass R_law = some m.cls ∧ (∀ w ∈ lw_tbl, w.before #[Value.ref b] s = true) ∧ va_X b L xs s s.heap ∧ b < s.heap.size ∧ meth.locks = false ∧ (Jvm.Cond.and given_1 narrow_1).before #[Value.ref b] s = true
