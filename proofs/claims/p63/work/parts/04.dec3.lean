theorem dL_areStretches_209 : decode cL_areStretches 209 = .ok (.goto 4, 3) := by decide +kernel
theorem dL_areStretches_212 : decode cL_areStretches 212 = .ok (.iconst 0, 1) := by decide +kernel
theorem dL_areStretches_213 : decode cL_areStretches 213 = .ok (.ireturn, 1) := by decide +kernel
theorem dL_act_0 : decode cL_act 0 = .ok (.iload_n 1, 1) := by decide +kernel
theorem dL_act_1 : decode cL_act 1 = .ok (.bipush 15, 2) := by decide +kernel
theorem dL_act_3 : decode cL_act 3 = .ok (.invokestatic 103, 3) := by decide +kernel
theorem dL_act_6 : decode cL_act 6 = .ok (.istore_n 2, 1) := by decide +kernel
theorem dL_act_7 : decode cL_act 7 = .ok (.iload_n 1, 1) := by decide +kernel
theorem dL_act_8 : decode cL_act 8 = .ok (.iconst 4, 1) := by decide +kernel
theorem dL_act_9 : decode cL_act 9 = .ok (.ishr, 1) := by decide +kernel
theorem dL_act_10 : decode cL_act 10 = .ok (.istore_n 3, 1) := by decide +kernel
theorem dL_act_11 : decode cL_act 11 = .ok (.aload_n 0, 1) := by decide +kernel
theorem dL_act_12 : decode cL_act 12 = .ok (.iconst 3, 1) := by decide +kernel
theorem dL_act_13 : decode cL_act 13 = .ok (.invokevirtual 30, 3) := by decide +kernel
theorem dL_act_16 : decode cL_act 16 = .ok (.istore 4, 2) := by decide +kernel
theorem dL_act_18 : decode cL_act 18 = .ok (.aload_n 0, 1) := by decide +kernel
theorem dL_act_19 : decode cL_act 19 = .ok (.iconst 4, 1) := by decide +kernel
theorem dL_act_20 : decode cL_act 20 = .ok (.invokevirtual 30, 3) := by decide +kernel
theorem dL_act_23 : decode cL_act 23 = .ok (.istore 5, 2) := by decide +kernel
theorem dL_act_25 : decode cL_act 25 = .ok (.iload_n 2, 1) := by decide +kernel
theorem dL_act_26 : decode cL_act 26 = .ok (.iconst 2, 1) := by decide +kernel
theorem dL_act_27 : decode cL_act 27 = .ok (.if_icmp .ge 108, 3) := by decide +kernel
theorem dL_act_30 : decode cL_act 30 = .ok (.iconst 1, 1) := by decide +kernel
theorem dL_act_31 : decode cL_act 31 = .ok (.iload_n 3, 1) := by decide +kernel
theorem dL_act_32 : decode cL_act 32 = .ok (.bipush 40, 2) := by decide +kernel
theorem dL_act_34 : decode cL_act 34 = .ok (.invokestatic 103, 3) := by decide +kernel
theorem dL_act_37 : decode cL_act 37 = .ok (.iadd, 1) := by decide +kernel
theorem dL_act_38 : decode cL_act 38 = .ok (.istore 6, 2) := by decide +kernel
theorem dL_act_40 : decode cL_act 40 = .ok (.aload_n 0, 1) := by decide +kernel
theorem dL_act_41 : decode cL_act 41 = .ok (.iconst 2, 1) := by decide +kernel
theorem dL_act_42 : decode cL_act 42 = .ok (.invokevirtual 30, 3) := by decide +kernel
theorem dL_act_45 : decode cL_act 45 = .ok (.istore 7, 2) := by decide +kernel
theorem dL_act_47 : decode cL_act 47 = .ok (.aload_n 0, 1) := by decide +kernel
theorem dL_act_48 : decode cL_act 48 = .ok (.iload 6, 2) := by decide +kernel
theorem dL_act_50 : decode cL_act 50 = .ok (.invokevirtual 106, 3) := by decide +kernel
theorem dL_act_53 : decode cL_act 53 = .ok (.istore 8, 2) := by decide +kernel
theorem dL_act_55 : decode cL_act 55 = .ok (.iload 7, 2) := by decide +kernel
theorem dL_act_57 : decode cL_act 57 = .ok (.sipush 260, 3) := by decide +kernel
theorem dL_act_60 : decode cL_act 60 = .ok (.if_icmp .le 5, 3) := by decide +kernel
theorem dL_act_63 : decode cL_act 63 = .ok (.iconst 1, 1) := by decide +kernel
theorem dL_act_64 : decode cL_act 64 = .ok (.ireturn, 1) := by decide +kernel
theorem dL_act_65 : decode cL_act 65 = .ok (.aload_n 0, 1) := by decide +kernel
theorem dL_act_66 : decode cL_act 66 = .ok (.iconst 1, 1) := by decide +kernel
theorem dL_act_67 : decode cL_act 67 = .ok (.invokevirtual 30, 3) := by decide +kernel
theorem dL_act_70 : decode cL_act 70 = .ok (.bipush 12, 2) := by decide +kernel
theorem dL_act_72 : decode cL_act 72 = .ok (.if_icmp .ne 20, 3) := by decide +kernel
theorem dL_act_75 : decode cL_act 75 = .ok (.aload_n 0, 1) := by decide +kernel
theorem dL_act_76 : decode cL_act 76 = .ok (.iload 6, 2) := by decide +kernel
theorem dL_act_78 : decode cL_act 78 = .ok (.invokevirtual 109, 3) := by decide +kernel
theorem dL_act_81 : decode cL_act 81 = .ok (.bipush (-2), 2) := by decide +kernel
theorem dL_act_83 : decode cL_act 83 = .ok (.if_icmp .ne 7, 3) := by decide +kernel
theorem dL_act_86 : decode cL_act 86 = .ok (.iconst 1, 1) := by decide +kernel
theorem dL_act_87 : decode cL_act 87 = .ok (.goto 4, 3) := by decide +kernel
theorem dL_act_90 : decode cL_act 90 = .ok (.iconst 0, 1) := by decide +kernel
theorem dL_act_91 : decode cL_act 91 = .ok (.ireturn, 1) := by decide +kernel
theorem dL_act_92 : decode cL_act 92 = .ok (.aload_n 0, 1) := by decide +kernel
theorem dL_act_93 : decode cL_act 93 = .ok (.iload 6, 2) := by decide +kernel
theorem dL_act_95 : decode cL_act 95 = .ok (.invokevirtual 109, 3) := by decide +kernel
theorem dL_act_98 : decode cL_act 98 = .ok (.iload 8, 2) := by decide +kernel
theorem dL_act_100 : decode cL_act 100 = .ok (.if_icmp .ne 33, 3) := by decide +kernel
theorem dL_act_103 : decode cL_act 103 = .ok (.aload_n 0, 1) := by decide +kernel
theorem dL_act_104 : decode cL_act 104 = .ok (.iconst 2, 1) := by decide +kernel
theorem dL_act_105 : decode cL_act 105 = .ok (.invokevirtual 30, 3) := by decide +kernel
theorem dL_act_108 : decode cL_act 108 = .ok (.iload 7, 2) := by decide +kernel
theorem dL_act_110 : decode cL_act 110 = .ok (.iload 6, 2) := by decide +kernel
theorem dL_act_112 : decode cL_act 112 = .ok (.iadd, 1) := by decide +kernel
theorem dL_act_113 : decode cL_act 113 = .ok (.if_icmp .ne 20, 3) := by decide +kernel
theorem dL_act_116 : decode cL_act 116 = .ok (.aload_n 0, 1) := by decide +kernel
theorem dL_act_117 : decode cL_act 117 = .ok (.iconst 4, 1) := by decide +kernel
theorem dL_act_118 : decode cL_act 118 = .ok (.invokevirtual 30, 3) := by decide +kernel
theorem dL_act_121 : decode cL_act 121 = .ok (.iload 5, 2) := by decide +kernel
theorem dL_act_123 : decode cL_act 123 = .ok (.iload 8, 2) := by decide +kernel
theorem dL_act_125 : decode cL_act 125 = .ok (.iadd, 1) := by decide +kernel
theorem dL_act_126 : decode cL_act 126 = .ok (.if_icmp .ne 7, 3) := by decide +kernel
theorem dL_act_129 : decode cL_act 129 = .ok (.iconst 1, 1) := by decide +kernel
theorem dL_act_130 : decode cL_act 130 = .ok (.goto 4, 3) := by decide +kernel
theorem dL_act_133 : decode cL_act 133 = .ok (.iconst 0, 1) := by decide +kernel
theorem dL_act_134 : decode cL_act 134 = .ok (.ireturn, 1) := by decide +kernel
theorem dL_act_135 : decode cL_act 135 = .ok (.iload_n 2, 1) := by decide +kernel
theorem dL_act_136 : decode cL_act 136 = .ok (.bipush 6, 2) := by decide +kernel
theorem dL_act_138 : decode cL_act 138 = .ok (.if_icmp .ge 142, 3) := by decide +kernel
theorem dL_act_141 : decode cL_act 141 = .ok (.iconst 2, 1) := by decide +kernel
theorem dL_act_142 : decode cL_act 142 = .ok (.iload_n 3, 1) := by decide +kernel
theorem dL_act_143 : decode cL_act 143 = .ok (.iload_n 3, 1) := by decide +kernel
theorem dL_act_144 : decode cL_act 144 = .ok (.iconst 3, 1) := by decide +kernel
theorem dL_act_145 : decode cL_act 145 = .ok (.ishr, 1) := by decide +kernel
theorem dL_act_146 : decode cL_act 146 = .ok (.iconst 3, 1) := by decide +kernel
theorem dL_act_147 : decode cL_act 147 = .ok (.invokestatic 103, 3) := by decide +kernel
theorem dL_act_150 : decode cL_act 150 = .ok (.ifCond .ne 8, 3) := by decide +kernel
theorem dL_act_153 : decode cL_act 153 = .ok (.bipush 119, 2) := by decide +kernel
theorem dL_act_155 : decode cL_act 155 = .ok (.goto 5, 3) := by decide +kernel
theorem dL_act_158 : decode cL_act 158 = .ok (.bipush 14, 2) := by decide +kernel
theorem dL_act_160 : decode cL_act 160 = .ok (.invokestatic 103, 3) := by decide +kernel
theorem dL_act_163 : decode cL_act 163 = .ok (.iadd, 1) := by decide +kernel
theorem dL_act_164 : decode cL_act 164 = .ok (.istore 6, 2) := by decide +kernel
theorem dL_act_166 : decode cL_act 166 = .ok (.aload_n 0, 1) := by decide +kernel
theorem dL_act_167 : decode cL_act 167 = .ok (.iload 6, 2) := by decide +kernel
theorem dL_act_169 : decode cL_act 169 = .ok (.invokevirtual 94, 3) := by decide +kernel
theorem dL_act_172 : decode cL_act 172 = .ok (.istore 7, 2) := by decide +kernel
theorem dL_act_174 : decode cL_act 174 = .ok (.aload_n 0, 1) := by decide +kernel
theorem dL_act_175 : decode cL_act 175 = .ok (.iload 6, 2) := by decide +kernel
theorem dL_act_177 : decode cL_act 177 = .ok (.invokevirtual 60, 3) := by decide +kernel
theorem dL_act_180 : decode cL_act 180 = .ok (.ifCond .lt 7, 3) := by decide +kernel
theorem dL_act_183 : decode cL_act 183 = .ok (.iconst 1, 1) := by decide +kernel
theorem dL_act_184 : decode cL_act 184 = .ok (.goto 4, 3) := by decide +kernel
theorem dL_act_187 : decode cL_act 187 = .ok (.iconst 0, 1) := by decide +kernel
theorem dL_act_188 : decode cL_act 188 = .ok (.istore 8, 2) := by decide +kernel
theorem dL_act_190 : decode cL_act 190 = .ok (.aload_n 0, 1) := by decide +kernel
theorem dL_act_191 : decode cL_act 191 = .ok (.iload 6, 2) := by decide +kernel
theorem dL_act_193 : decode cL_act 193 = .ok (.invokevirtual 112, 3) := by decide +kernel
theorem dL_act_196 : decode cL_act 196 = .ok (.istore 9, 2) := by decide +kernel
theorem dL_act_198 : decode cL_act 198 = .ok (.iload 8, 2) := by decide +kernel
theorem dL_act_200 : decode cL_act 200 = .ok (.ifCond .eq 21, 3) := by decide +kernel
theorem dL_act_203 : decode cL_act 203 = .ok (.iload 9, 2) := by decide +kernel
theorem dL_act_205 : decode cL_act 205 = .ok (.bipush (-2), 2) := by decide +kernel
theorem dL_act_207 : decode cL_act 207 = .ok (.if_icmp .ne 12, 3) := by decide +kernel
theorem dL_act_210 : decode cL_act 210 = .ok (.iload 7, 2) := by decide +kernel
theorem dL_act_212 : decode cL_act 212 = .ok (.ifCond .ne 7, 3) := by decide +kernel
theorem dL_act_215 : decode cL_act 215 = .ok (.iconst 1, 1) := by decide +kernel
theorem dL_act_216 : decode cL_act 216 = .ok (.goto 4, 3) := by decide +kernel
theorem dL_act_219 : decode cL_act 219 = .ok (.iconst 0, 1) := by decide +kernel
theorem dL_act_220 : decode cL_act 220 = .ok (.ireturn, 1) := by decide +kernel
theorem dL_act_221 : decode cL_act 221 = .ok (.iload 4, 2) := by decide +kernel
theorem dL_act_223 : decode cL_act 223 = .ok (.bipush 30, 2) := by decide +kernel
theorem dL_act_225 : decode cL_act 225 = .ok (.if_icmp .ne 18, 3) := by decide +kernel
theorem dL_act_228 : decode cL_act 228 = .ok (.iload 9, 2) := by decide +kernel
theorem dL_act_230 : decode cL_act 230 = .ok (.bipush (-3), 2) := by decide +kernel
theorem dL_act_232 : decode cL_act 232 = .ok (.if_icmp .ne 7, 3) := by decide +kernel
theorem dL_act_235 : decode cL_act 235 = .ok (.iconst 1, 1) := by decide +kernel
theorem dL_act_236 : decode cL_act 236 = .ok (.goto 43, 3) := by decide +kernel
theorem dL_act_239 : decode cL_act 239 = .ok (.iconst 0, 1) := by decide +kernel
theorem dL_act_240 : decode cL_act 240 = .ok (.goto 39, 3) := by decide +kernel
theorem dL_act_243 : decode cL_act 243 = .ok (.iload 9, 2) := by decide +kernel
theorem dL_act_245 : decode cL_act 245 = .ok (.iload 7, 2) := by decide +kernel
theorem dL_act_247 : decode cL_act 247 = .ok (.if_icmp .ne 31, 3) := by decide +kernel
theorem dL_act_250 : decode cL_act 250 = .ok (.aload_n 0, 1) := by decide +kernel
theorem dL_act_251 : decode cL_act 251 = .ok (.iconst 4, 1) := by decide +kernel
theorem dL_act_252 : decode cL_act 252 = .ok (.invokevirtual 30, 3) := by decide +kernel
theorem dL_act_255 : decode cL_act 255 = .ok (.iload 5, 2) := by decide +kernel
theorem dL_act_257 : decode cL_act 257 = .ok (.iload 7, 2) := by decide +kernel
theorem dL_act_259 : decode cL_act 259 = .ok (.isub, 1) := by decide +kernel
theorem dL_act_260 : decode cL_act 260 = .ok (.if_icmp .ne 18, 3) := by decide +kernel
theorem dL_act_263 : decode cL_act 263 = .ok (.aload_n 0, 1) := by decide +kernel
theorem dL_act_264 : decode cL_act 264 = .ok (.iload 6, 2) := by decide +kernel
theorem dL_act_266 : decode cL_act 266 = .ok (.invokevirtual 60, 3) := by decide +kernel
theorem dL_act_269 : decode cL_act 269 = .ok (.iload 4, 2) := by decide +kernel
theorem dL_act_271 : decode cL_act 271 = .ok (.if_icmp .ne 7, 3) := by decide +kernel
theorem dL_act_274 : decode cL_act 274 = .ok (.iconst 1, 1) := by decide +kernel
theorem dL_act_275 : decode cL_act 275 = .ok (.goto 4, 3) := by decide +kernel
theorem dL_act_278 : decode cL_act 278 = .ok (.iconst 0, 1) := by decide +kernel
theorem dL_act_279 : decode cL_act 279 = .ok (.ireturn, 1) := by decide +kernel
theorem dL_act_280 : decode cL_act 280 = .ok (.iload_n 2, 1) := by decide +kernel
theorem dL_act_281 : decode cL_act 281 = .ok (.bipush 8, 2) := by decide +kernel
theorem dL_act_283 : decode cL_act 283 = .ok (.if_icmp .ge 97, 3) := by decide +kernel
theorem dL_act_286 : decode cL_act 286 = .ok (.iload 4, 2) := by decide +kernel
theorem dL_act_288 : decode cL_act 288 = .ok (.ifCond .ne 26, 3) := by decide +kernel
theorem dL_act_291 : decode cL_act 291 = .ok (.aload_n 0, 1) := by decide +kernel
theorem dL_act_292 : decode cL_act 292 = .ok (.iconst 2, 1) := by decide +kernel
theorem dL_act_293 : decode cL_act 293 = .ok (.iload_n 3, 1) := by decide +kernel
theorem dL_act_294 : decode cL_act 294 = .ok (.bipush 119, 2) := by decide +kernel
theorem dL_act_296 : decode cL_act 296 = .ok (.invokestatic 103, 3) := by decide +kernel
theorem dL_act_299 : decode cL_act 299 = .ok (.iadd, 1) := by decide +kernel
theorem dL_act_300 : decode cL_act 300 = .ok (.invokevirtual 114, 3) := by decide +kernel
theorem dL_act_303 : decode cL_act 303 = .ok (.bipush (-2), 2) := by decide +kernel
theorem dL_act_305 : decode cL_act 305 = .ok (.if_icmp .ne 7, 3) := by decide +kernel
theorem dL_act_308 : decode cL_act 308 = .ok (.iconst 1, 1) := by decide +kernel
theorem dL_act_309 : decode cL_act 309 = .ok (.goto 4, 3) := by decide +kernel
theorem dL_act_312 : decode cL_act 312 = .ok (.iconst 0, 1) := by decide +kernel
theorem dL_act_313 : decode cL_act 313 = .ok (.ireturn, 1) := by decide +kernel
theorem dL_act_314 : decode cL_act 314 = .ok (.iload_n 3, 1) := by decide +kernel
theorem dL_act_315 : decode cL_act 315 = .ok (.iload 4, 2) := by decide +kernel
theorem dL_act_317 : decode cL_act 317 = .ok (.invokestatic 103, 3) := by decide +kernel
theorem dL_act_320 : decode cL_act 320 = .ok (.istore 6, 2) := by decide +kernel
theorem dL_act_322 : decode cL_act 322 = .ok (.aload_n 0, 1) := by decide +kernel
theorem dL_act_323 : decode cL_act 323 = .ok (.iload 6, 2) := by decide +kernel
theorem dL_act_325 : decode cL_act 325 = .ok (.invokevirtual 117, 3) := by decide +kernel
theorem dL_act_328 : decode cL_act 328 = .ok (.istore 7, 2) := by decide +kernel
theorem dL_act_330 : decode cL_act 330 = .ok (.aload_n 0, 1) := by decide +kernel
theorem dL_act_331 : decode cL_act 331 = .ok (.iload 6, 2) := by decide +kernel
theorem dL_act_333 : decode cL_act 333 = .ok (.iconst 0, 1) := by decide +kernel
theorem dL_act_334 : decode cL_act 334 = .ok (.invokevirtual 38, 3) := by decide +kernel
theorem dL_act_337 : decode cL_act 337 = .ok (.istore 8, 2) := by decide +kernel
theorem dL_act_339 : decode cL_act 339 = .ok (.aload_n 0, 1) := by decide +kernel
theorem dL_act_340 : decode cL_act 340 = .ok (.iload 8, 2) := by decide +kernel
theorem dL_act_342 : decode cL_act 342 = .ok (.invokevirtual 114, 3) := by decide +kernel
theorem dL_act_345 : decode cL_act 345 = .ok (.iload 7, 2) := by decide +kernel
theorem dL_act_347 : decode cL_act 347 = .ok (.if_icmp .ne 31, 3) := by decide +kernel
theorem dL_act_350 : decode cL_act 350 = .ok (.aload_n 0, 1) := by decide +kernel
theorem dL_act_351 : decode cL_act 351 = .ok (.iconst 4, 1) := by decide +kernel
theorem dL_act_352 : decode cL_act 352 = .ok (.invokevirtual 30, 3) := by decide +kernel
theorem dL_act_355 : decode cL_act 355 = .ok (.iload 5, 2) := by decide +kernel
theorem dL_act_357 : decode cL_act 357 = .ok (.iload 7, 2) := by decide +kernel
theorem dL_act_359 : decode cL_act 359 = .ok (.iadd, 1) := by decide +kernel
theorem dL_act_360 : decode cL_act 360 = .ok (.if_icmp .ne 18, 3) := by decide +kernel
theorem dL_act_363 : decode cL_act 363 = .ok (.aload_n 0, 1) := by decide +kernel
theorem dL_act_364 : decode cL_act 364 = .ok (.iload 8, 2) := by decide +kernel
theorem dL_act_366 : decode cL_act 366 = .ok (.invokevirtual 94, 3) := by decide +kernel
theorem dL_act_369 : decode cL_act 369 = .ok (.iload 7, 2) := by decide +kernel
theorem dL_act_371 : decode cL_act 371 = .ok (.if_icmp .ne 7, 3) := by decide +kernel
theorem dL_act_374 : decode cL_act 374 = .ok (.iconst 1, 1) := by decide +kernel
theorem dL_act_375 : decode cL_act 375 = .ok (.goto 4, 3) := by decide +kernel
theorem dL_act_378 : decode cL_act 378 = .ok (.iconst 0, 1) := by decide +kernel
theorem dL_act_379 : decode cL_act 379 = .ok (.ireturn, 1) := by decide +kernel
theorem dL_act_380 : decode cL_act 380 = .ok (.iload_n 2, 1) := by decide +kernel
theorem dL_act_381 : decode cL_act 381 = .ok (.bipush 10, 2) := by decide +kernel
theorem dL_act_383 : decode cL_act 383 = .ok (.if_icmp .ge 78, 3) := by decide +kernel
theorem dL_act_386 : decode cL_act 386 = .ok (.iload 4, 2) := by decide +kernel
theorem dL_act_388 : decode cL_act 388 = .ok (.ifCond .ne 20, 3) := by decide +kernel
theorem dL_act_391 : decode cL_act 391 = .ok (.aload_n 0, 1) := by decide +kernel
theorem dL_act_392 : decode cL_act 392 = .ok (.bipush 7, 2) := by decide +kernel
theorem dL_act_394 : decode cL_act 394 = .ok (.invokevirtual 120, 3) := by decide +kernel
theorem dL_act_397 : decode cL_act 397 = .ok (.bipush (-2), 2) := by decide +kernel
theorem dL_act_399 : decode cL_act 399 = .ok (.if_icmp .ne 7, 3) := by decide +kernel
theorem dL_act_402 : decode cL_act 402 = .ok (.iconst 1, 1) := by decide +kernel
theorem dL_act_403 : decode cL_act 403 = .ok (.goto 4, 3) := by decide +kernel
theorem dL_act_406 : decode cL_act 406 = .ok (.iconst 0, 1) := by decide +kernel
theorem dL_act_407 : decode cL_act 407 = .ok (.ireturn, 1) := by decide +kernel
theorem dL_act_408 : decode cL_act 408 = .ok (.iload_n 3, 1) := by decide +kernel
theorem dL_act_409 : decode cL_act 409 = .ok (.iload 4, 2) := by decide +kernel
theorem dL_act_411 : decode cL_act 411 = .ok (.invokestatic 103, 3) := by decide +kernel
theorem dL_act_414 : decode cL_act 414 = .ok (.istore 6, 2) := by decide +kernel
theorem dL_act_416 : decode cL_act 416 = .ok (.aload_n 0, 1) := by decide +kernel
theorem dL_act_417 : decode cL_act 417 = .ok (.iload 6, 2) := by decide +kernel
theorem dL_act_419 : decode cL_act 419 = .ok (.iconst 0, 1) := by decide +kernel
theorem dL_act_420 : decode cL_act 420 = .ok (.invokevirtual 38, 3) := by decide +kernel
theorem dL_act_423 : decode cL_act 423 = .ok (.istore 7, 2) := by decide +kernel
theorem dL_act_425 : decode cL_act 425 = .ok (.aload_n 0, 1) := by decide +kernel
theorem dL_act_426 : decode cL_act 426 = .ok (.iload 7, 2) := by decide +kernel
theorem dL_act_428 : decode cL_act 428 = .ok (.invokevirtual 120, 3) := by decide +kernel
theorem dL_act_431 : decode cL_act 431 = .ok (.iload 6, 2) := by decide +kernel
theorem dL_act_433 : decode cL_act 433 = .ok (.if_icmp .ne 26, 3) := by decide +kernel
theorem dL_act_436 : decode cL_act 436 = .ok (.aload_n 0, 1) := by decide +kernel
theorem dL_act_437 : decode cL_act 437 = .ok (.iload 7, 2) := by decide +kernel
theorem dL_act_439 : decode cL_act 439 = .ok (.invokevirtual 60, 3) := by decide +kernel
theorem dL_act_442 : decode cL_act 442 = .ok (.ifCond .ne 17, 3) := by decide +kernel
theorem dL_act_445 : decode cL_act 445 = .ok (.aload_n 0, 1) := by decide +kernel
theorem dL_act_446 : decode cL_act 446 = .ok (.iconst 4, 1) := by decide +kernel
theorem dL_act_447 : decode cL_act 447 = .ok (.invokevirtual 30, 3) := by decide +kernel
theorem dL_act_450 : decode cL_act 450 = .ok (.iload 5, 2) := by decide +kernel
theorem dL_act_452 : decode cL_act 452 = .ok (.if_icmp .ne 7, 3) := by decide +kernel
theorem dL_act_455 : decode cL_act 455 = .ok (.iconst 1, 1) := by decide +kernel
theorem dL_act_456 : decode cL_act 456 = .ok (.goto 4, 3) := by decide +kernel
theorem dL_act_459 : decode cL_act 459 = .ok (.iconst 0, 1) := by decide +kernel
theorem dL_act_460 : decode cL_act 460 = .ok (.ireturn, 1) := by decide +kernel
theorem dL_act_461 : decode cL_act 461 = .ok (.iload_n 2, 1) := by decide +kernel
theorem dL_act_462 : decode cL_act 462 = .ok (.bipush 10, 2) := by decide +kernel
theorem dL_act_464 : decode cL_act 464 = .ok (.if_icmp .ne 128, 3) := by decide +kernel
theorem dL_act_467 : decode cL_act 467 = .ok (.iload 4, 2) := by decide +kernel
theorem dL_act_469 : decode cL_act 469 = .ok (.iconst 2, 1) := by decide +kernel
theorem dL_act_470 : decode cL_act 470 = .ok (.if_icmp .ge 5, 3) := by decide +kernel
theorem dL_act_473 : decode cL_act 473 = .ok (.iconst 1, 1) := by decide +kernel
theorem dL_act_474 : decode cL_act 474 = .ok (.ireturn, 1) := by decide +kernel
theorem dL_act_475 : decode cL_act 475 = .ok (.aload_n 0, 1) := by decide +kernel
theorem dL_act_476 : decode cL_act 476 = .ok (.iload_n 3, 1) := by decide +kernel
theorem dL_act_477 : decode cL_act 477 = .ok (.iload 4, 2) := by decide +kernel
theorem dL_act_479 : decode cL_act 479 = .ok (.invokestatic 103, 3) := by decide +kernel
theorem dL_act_482 : decode cL_act 482 = .ok (.iconst 0, 1) := by decide +kernel
theorem dL_act_483 : decode cL_act 483 = .ok (.invokevirtual 38, 3) := by decide +kernel
theorem dL_act_486 : decode cL_act 486 = .ok (.istore 6, 2) := by decide +kernel
theorem dL_act_488 : decode cL_act 488 = .ok (.aload_n 0, 1) := by decide +kernel
theorem dL_act_489 : decode cL_act 489 = .ok (.iload_n 3, 1) := by decide +kernel
theorem dL_act_490 : decode cL_act 490 = .ok (.iconst 2, 1) := by decide +kernel
theorem dL_act_491 : decode cL_act 491 = .ok (.ishr, 1) := by decide +kernel
theorem dL_act_492 : decode cL_act 492 = .ok (.iload 4, 2) := by decide +kernel
theorem dL_act_494 : decode cL_act 494 = .ok (.invokestatic 103, 3) := by decide +kernel
theorem dL_act_497 : decode cL_act 497 = .ok (.iconst 0, 1) := by decide +kernel
theorem dL_act_498 : decode cL_act 498 = .ok (.invokevirtual 38, 3) := by decide +kernel
theorem dL_act_501 : decode cL_act 501 = .ok (.istore 7, 2) := by decide +kernel
theorem dL_act_503 : decode cL_act 503 = .ok (.aload_n 0, 1) := by decide +kernel
theorem dL_act_504 : decode cL_act 504 = .ok (.iload 6, 2) := by decide +kernel
theorem dL_act_506 : decode cL_act 506 = .ok (.invokevirtual 60, 3) := by decide +kernel
theorem dL_act_509 : decode cL_act 509 = .ok (.istore 8, 2) := by decide +kernel
theorem dL_act_511 : decode cL_act 511 = .ok (.aload_n 0, 1) := by decide +kernel
theorem dL_act_512 : decode cL_act 512 = .ok (.iload 7, 2) := by decide +kernel
theorem dL_act_514 : decode cL_act 514 = .ok (.invokevirtual 60, 3) := by decide +kernel
theorem dL_act_517 : decode cL_act 517 = .ok (.istore 9, 2) := by decide +kernel
theorem dL_act_519 : decode cL_act 519 = .ok (.aload_n 0, 1) := by decide +kernel
theorem dL_act_520 : decode cL_act 520 = .ok (.iload 6, 2) := by decide +kernel
theorem dL_act_522 : decode cL_act 522 = .ok (.iload 7, 2) := by decide +kernel
theorem dL_act_524 : decode cL_act 524 = .ok (.invokevirtual 123, 3) := by decide +kernel
theorem dL_act_527 : decode cL_act 527 = .ok (.istore 10, 2) := by decide +kernel
theorem dL_act_529 : decode cL_act 529 = .ok (.iload 10, 2) := by decide +kernel
theorem dL_act_531 : decode cL_act 531 = .ok (.ifCond .lt 59, 3) := by decide +kernel
theorem dL_act_534 : decode cL_act 534 = .ok (.iload 10, 2) := by decide +kernel
theorem dL_act_536 : decode cL_act 536 = .ok (.aload_n 0, 1) := by decide +kernel
theorem dL_act_537 : decode cL_act 537 = .ok (.iload 8, 2) := by decide +kernel
theorem dL_act_539 : decode cL_act 539 = .ok (.iload 9, 2) := by decide +kernel
theorem dL_act_541 : decode cL_act 541 = .ok (.invokevirtual 126, 3) := by decide +kernel
theorem dL_act_544 : decode cL_act 544 = .ok (.aload_n 0, 1) := by decide +kernel
theorem dL_act_545 : decode cL_act 545 = .ok (.iconst 5, 1) := by decide +kernel
theorem dL_act_546 : decode cL_act 546 = .ok (.invokevirtual 30, 3) := by decide +kernel
theorem dL_act_549 : decode cL_act 549 = .ok (.iadd, 1) := by decide +kernel
theorem dL_act_550 : decode cL_act 550 = .ok (.if_icmp .gt 40, 3) := by decide +kernel
theorem dL_act_553 : decode cL_act 553 = .ok (.aload_n 0, 1) := by decide +kernel
theorem dL_act_554 : decode cL_act 554 = .ok (.iload 6, 2) := by decide +kernel
theorem dL_act_556 : decode cL_act 556 = .ok (.invokevirtual 60, 3) := by decide +kernel
theorem dL_act_559 : decode cL_act 559 = .ok (.iload 9, 2) := by decide +kernel
theorem dL_act_561 : decode cL_act 561 = .ok (.if_icmp .ne 29, 3) := by decide +kernel
theorem dL_act_564 : decode cL_act 564 = .ok (.aload_n 0, 1) := by decide +kernel
theorem dL_act_565 : decode cL_act 565 = .ok (.iconst 4, 1) := by decide +kernel
theorem dL_act_566 : decode cL_act 566 = .ok (.invokevirtual 30, 3) := by decide +kernel
theorem dL_act_569 : decode cL_act 569 = .ok (.iload 5, 2) := by decide +kernel
theorem dL_act_571 : decode cL_act 571 = .ok (.if_icmp .ne 19, 3) := by decide +kernel
theorem dL_act_574 : decode cL_act 574 = .ok (.iload 8, 2) := by decide +kernel
theorem dL_act_576 : decode cL_act 576 = .ok (.iload 9, 2) := by decide +kernel
theorem dL_act_578 : decode cL_act 578 = .ok (.if_icmp .ne 8, 3) := by decide +kernel
theorem dL_act_581 : decode cL_act 581 = .ok (.iload 10, 2) := by decide +kernel
theorem dL_act_583 : decode cL_act 583 = .ok (.ifCond .ne 7, 3) := by decide +kernel
theorem dL_act_586 : decode cL_act 586 = .ok (.iconst 1, 1) := by decide +kernel
theorem dL_act_587 : decode cL_act 587 = .ok (.goto 4, 3) := by decide +kernel
theorem dL_act_590 : decode cL_act 590 = .ok (.iconst 0, 1) := by decide +kernel
theorem dL_act_591 : decode cL_act 591 = .ok (.ireturn, 1) := by decide +kernel
theorem dL_act_592 : decode cL_act 592 = .ok (.iload_n 2, 1) := by decide +kernel
theorem dL_act_593 : decode cL_act 593 = .ok (.bipush 11, 2) := by decide +kernel
theorem dL_act_595 : decode cL_act 595 = .ok (.if_icmp .ne 43, 3) := by decide +kernel
theorem dL_act_598 : decode cL_act 598 = .ok (.aload_n 0, 1) := by decide +kernel
theorem dL_act_599 : decode cL_act 599 = .ok (.iconst 0, 1) := by decide +kernel
theorem dL_act_600 : decode cL_act 600 = .ok (.invokevirtual 30, 3) := by decide +kernel
theorem dL_act_603 : decode cL_act 603 = .ok (.istore 6, 2) := by decide +kernel
theorem dL_act_605 : decode cL_act 605 = .ok (.aload_n 0, 1) := by decide +kernel
theorem dL_act_606 : decode cL_act 606 = .ok (.iload_n 3, 1) := by decide +kernel
theorem dL_act_607 : decode cL_act 607 = .ok (.iconst 5, 1) := by decide +kernel
theorem dL_act_608 : decode cL_act 608 = .ok (.invokestatic 103, 3) := by decide +kernel
theorem dL_act_611 : decode cL_act 611 = .ok (.invokevirtual 129, 3) := by decide +kernel
theorem dL_act_614 : decode cL_act 614 = .ok (.iload 6, 2) := by decide +kernel
theorem dL_act_616 : decode cL_act 616 = .ok (.if_icmp .ne 20, 3) := by decide +kernel
theorem dL_act_619 : decode cL_act 619 = .ok (.aload_n 0, 1) := by decide +kernel
theorem dL_act_620 : decode cL_act 620 = .ok (.iconst 0, 1) := by decide +kernel
theorem dL_act_621 : decode cL_act 621 = .ok (.invokevirtual 30, 3) := by decide +kernel
theorem dL_act_624 : decode cL_act 624 = .ok (.iload_n 3, 1) := by decide +kernel
theorem dL_act_625 : decode cL_act 625 = .ok (.iconst 5, 1) := by decide +kernel
theorem dL_act_626 : decode cL_act 626 = .ok (.invokestatic 103, 3) := by decide +kernel
theorem dL_act_629 : decode cL_act 629 = .ok (.if_icmp .ne 7, 3) := by decide +kernel
theorem dL_act_632 : decode cL_act 632 = .ok (.iconst 1, 1) := by decide +kernel
theorem dL_act_633 : decode cL_act 633 = .ok (.goto 4, 3) := by decide +kernel
theorem dL_act_636 : decode cL_act 636 = .ok (.iconst 0, 1) := by decide +kernel
theorem dL_act_637 : decode cL_act 637 = .ok (.ireturn, 1) := by decide +kernel
theorem dL_act_638 : decode cL_act 638 = .ok (.iload_n 2, 1) := by decide +kernel
theorem dL_act_639 : decode cL_act 639 = .ok (.bipush 12, 2) := by decide +kernel
theorem dL_act_641 : decode cL_act 641 = .ok (.if_icmp .ne 70, 3) := by decide +kernel
theorem dL_act_644 : decode cL_act 644 = .ok (.aload_n 0, 1) := by decide +kernel
theorem dL_act_645 : decode cL_act 645 = .ok (.bipush 8, 2) := by decide +kernel
theorem dL_act_647 : decode cL_act 647 = .ok (.invokevirtual 30, 3) := by decide +kernel
theorem dL_act_650 : decode cL_act 650 = .ok (.istore 6, 2) := by decide +kernel
theorem dL_act_652 : decode cL_act 652 = .ok (.aload_n 0, 1) := by decide +kernel
theorem dL_act_653 : decode cL_act 653 = .ok (.iconst 1, 1) := by decide +kernel
theorem dL_act_654 : decode cL_act 654 = .ok (.iload_n 3, 1) := by decide +kernel
theorem dL_act_655 : decode cL_act 655 = .ok (.iconst 4, 1) := by decide +kernel
theorem dL_act_656 : decode cL_act 656 = .ok (.invokestatic 103, 3) := by decide +kernel
theorem dL_act_659 : decode cL_act 659 = .ok (.iadd, 1) := by decide +kernel
theorem dL_act_660 : decode cL_act 660 = .ok (.invokevirtual 132, 3) := by decide +kernel
theorem dL_act_663 : decode cL_act 663 = .ok (.istore 7, 2) := by decide +kernel
theorem dL_act_665 : decode cL_act 665 = .ok (.iload 7, 2) := by decide +kernel
theorem dL_act_667 : decode cL_act 667 = .ok (.ifCond .lt 42, 3) := by decide +kernel
theorem dL_act_670 : decode cL_act 670 = .ok (.iload 7, 2) := by decide +kernel
theorem dL_act_672 : decode cL_act 672 = .ok (.iconst 1, 1) := by decide +kernel
theorem dL_act_673 : decode cL_act 673 = .ok (.iload_n 3, 1) := by decide +kernel
theorem dL_act_674 : decode cL_act 674 = .ok (.iconst 4, 1) := by decide +kernel
theorem dL_act_675 : decode cL_act 675 = .ok (.invokestatic 103, 3) := by decide +kernel
theorem dL_act_678 : decode cL_act 678 = .ok (.iadd, 1) := by decide +kernel
theorem dL_act_679 : decode cL_act 679 = .ok (.if_icmp .gt 30, 3) := by decide +kernel
theorem dL_act_682 : decode cL_act 682 = .ok (.iload 6, 2) := by decide +kernel
theorem dL_act_684 : decode cL_act 684 = .ok (.ifCond .gt 8, 3) := by decide +kernel
theorem dL_act_687 : decode cL_act 687 = .ok (.iload 7, 2) := by decide +kernel
theorem dL_act_689 : decode cL_act 689 = .ok (.ifCond .ne 20, 3) := by decide +kernel
theorem dL_act_692 : decode cL_act 692 = .ok (.aload_n 0, 1) := by decide +kernel
theorem dL_act_693 : decode cL_act 693 = .ok (.iconst 3, 1) := by decide +kernel
theorem dL_act_694 : decode cL_act 694 = .ok (.invokevirtual 30, 3) := by decide +kernel
theorem dL_act_697 : decode cL_act 697 = .ok (.iload 4, 2) := by decide +kernel
theorem dL_act_699 : decode cL_act 699 = .ok (.iload 7, 2) := by decide +kernel
theorem dL_act_701 : decode cL_act 701 = .ok (.iadd, 1) := by decide +kernel
theorem dL_act_702 : decode cL_act 702 = .ok (.if_icmp .ne 7, 3) := by decide +kernel
theorem dL_act_705 : decode cL_act 705 = .ok (.iconst 1, 1) := by decide +kernel
theorem dL_act_706 : decode cL_act 706 = .ok (.goto 4, 3) := by decide +kernel
theorem dL_act_709 : decode cL_act 709 = .ok (.iconst 0, 1) := by decide +kernel
theorem dL_act_710 : decode cL_act 710 = .ok (.ireturn, 1) := by decide +kernel
theorem dL_act_711 : decode cL_act 711 = .ok (.iload_n 2, 1) := by decide +kernel
theorem dL_act_712 : decode cL_act 712 = .ok (.bipush 13, 2) := by decide +kernel
theorem dL_act_714 : decode cL_act 714 = .ok (.if_icmp .ne 45, 3) := by decide +kernel
theorem dL_act_717 : decode cL_act 717 = .ok (.aload_n 0, 1) := by decide +kernel
theorem dL_act_718 : decode cL_act 718 = .ok (.bipush 9, 2) := by decide +kernel
theorem dL_act_720 : decode cL_act 720 = .ok (.invokevirtual 30, 3) := by decide +kernel
theorem dL_act_723 : decode cL_act 723 = .ok (.istore 6, 2) := by decide +kernel
theorem dL_act_725 : decode cL_act 725 = .ok (.aload_n 0, 1) := by decide +kernel
theorem dL_act_726 : decode cL_act 726 = .ok (.invokevirtual 135, 3) := by decide +kernel
theorem dL_act_729 : decode cL_act 729 = .ok (.iload 6, 2) := by decide +kernel
theorem dL_act_731 : decode cL_act 731 = .ok (.if_icmp .ne 26, 3) := by decide +kernel
theorem dL_act_734 : decode cL_act 734 = .ok (.aload_n 0, 1) := by decide +kernel
theorem dL_act_735 : decode cL_act 735 = .ok (.bipush 9, 2) := by decide +kernel
theorem dL_act_737 : decode cL_act 737 = .ok (.invokevirtual 30, 3) := by decide +kernel
theorem dL_act_740 : decode cL_act 740 = .ok (.ifCond .ne 17, 3) := by decide +kernel
theorem dL_act_743 : decode cL_act 743 = .ok (.aload_n 0, 1) := by decide +kernel
theorem dL_act_744 : decode cL_act 744 = .ok (.iconst 4, 1) := by decide +kernel
theorem dL_act_745 : decode cL_act 745 = .ok (.invokevirtual 30, 3) := by decide +kernel
theorem dL_act_748 : decode cL_act 748 = .ok (.iload 5, 2) := by decide +kernel
theorem dL_act_750 : decode cL_act 750 = .ok (.if_icmp .ne 7, 3) := by decide +kernel
theorem dL_act_753 : decode cL_act 753 = .ok (.iconst 1, 1) := by decide +kernel
theorem dL_act_754 : decode cL_act 754 = .ok (.goto 4, 3) := by decide +kernel
theorem dL_act_757 : decode cL_act 757 = .ok (.iconst 0, 1) := by decide +kernel
theorem dL_act_758 : decode cL_act 758 = .ok (.ireturn, 1) := by decide +kernel
theorem dL_act_759 : decode cL_act 759 = .ok (.aload_n 0, 1) := by decide +kernel
theorem dL_act_760 : decode cL_act 760 = .ok (.iconst 1, 1) := by decide +kernel
theorem dL_act_761 : decode cL_act 761 = .ok (.invokevirtual 30, 3) := by decide +kernel
theorem dL_act_764 : decode cL_act 764 = .ok (.istore 6, 2) := by decide +kernel
theorem dL_act_766 : decode cL_act 766 = .ok (.iload 6, 2) := by decide +kernel
theorem dL_act_768 : decode cL_act 768 = .ok (.iconst 2, 1) := by decide +kernel
theorem dL_act_769 : decode cL_act 769 = .ok (.if_icmp .ge 5, 3) := by decide +kernel
theorem dL_act_772 : decode cL_act 772 = .ok (.iconst 1, 1) := by decide +kernel
theorem dL_act_773 : decode cL_act 773 = .ok (.ireturn, 1) := by decide +kernel
theorem dL_act_774 : decode cL_act 774 = .ok (.aload_n 0, 1) := by decide +kernel
theorem dL_act_775 : decode cL_act 775 = .ok (.iload 6, 2) := by decide +kernel
theorem dL_act_777 : decode cL_act 777 = .ok (.iconst 1, 1) := by decide +kernel
theorem dL_act_778 : decode cL_act 778 = .ok (.isub, 1) := by decide +kernel
theorem dL_act_779 : decode cL_act 779 = .ok (.iconst 0, 1) := by decide +kernel
theorem dL_act_780 : decode cL_act 780 = .ok (.invokevirtual 34, 3) := by decide +kernel
theorem dL_act_783 : decode cL_act 783 = .ok (.istore 7, 2) := by decide +kernel
theorem dL_act_785 : decode cL_act 785 = .ok (.aload_n 0, 1) := by decide +kernel
theorem dL_act_786 : decode cL_act 786 = .ok (.invokevirtual 138, 3) := by decide +kernel
theorem dL_act_789 : decode cL_act 789 = .ok (.iload 7, 2) := by decide +kernel
theorem dL_act_791 : decode cL_act 791 = .ok (.iconst 1, 1) := by decide +kernel
theorem dL_act_792 : decode cL_act 792 = .ok (.isub, 1) := by decide +kernel
theorem dL_act_793 : decode cL_act 793 = .ok (.if_icmp .ne 19, 3) := by decide +kernel
theorem dL_act_796 : decode cL_act 796 = .ok (.aload_n 0, 1) := by decide +kernel
theorem dL_act_797 : decode cL_act 797 = .ok (.iconst 1, 1) := by decide +kernel
theorem dL_act_798 : decode cL_act 798 = .ok (.invokevirtual 30, 3) := by decide +kernel
theorem dL_act_801 : decode cL_act 801 = .ok (.iload 6, 2) := by decide +kernel
theorem dL_act_803 : decode cL_act 803 = .ok (.iconst 1, 1) := by decide +kernel
theorem dL_act_804 : decode cL_act 804 = .ok (.isub, 1) := by decide +kernel
theorem dL_act_805 : decode cL_act 805 = .ok (.if_icmp .ne 7, 3) := by decide +kernel
theorem dL_act_808 : decode cL_act 808 = .ok (.iconst 1, 1) := by decide +kernel
theorem dL_act_809 : decode cL_act 809 = .ok (.goto 4, 3) := by decide +kernel
theorem dL_act_812 : decode cL_act 812 = .ok (.iconst 0, 1) := by decide +kernel
theorem dL_act_813 : decode cL_act 813 = .ok (.ireturn, 1) := by decide +kernel
theorem dL_law_0 : decode cL_law 0 = .ok (.new 9, 3) := by decide +kernel
theorem dL_law_3 : decode cL_law 3 = .ok (.dup, 1) := by decide +kernel
theorem dL_law_4 : decode cL_law 4 = .ok (.invokespecial 141, 3) := by decide +kernel
theorem dL_law_7 : decode cL_law 7 = .ok (.astore_n 1, 1) := by decide +kernel
theorem dL_law_8 : decode cL_law 8 = .ok (.bipush 6, 2) := by decide +kernel
theorem dL_law_10 : decode cL_law 10 = .ok (.newarray .int, 2) := by decide +kernel
theorem dL_law_12 : decode cL_law 12 = .ok (.astore_n 2, 1) := by decide +kernel
theorem dL_law_13 : decode cL_law 13 = .ok (.aload_n 0, 1) := by decide +kernel
theorem dL_law_14 : decode cL_law 14 = .ok (.iconst 0, 1) := by decide +kernel
theorem dL_law_15 : decode cL_law 15 = .ok (.invokestatic 142, 3) := by decide +kernel
theorem dL_law_18 : decode cL_law 18 = .ok (.istore_n 3, 1) := by decide +kernel
theorem dL_law_19 : decode cL_law 19 = .ok (.new 146, 3) := by decide +kernel
theorem dL_law_22 : decode cL_law 22 = .ok (.dup, 1) := by decide +kernel
theorem dL_law_23 : decode cL_law 23 = .ok (.ldc 148, 2) := by decide +kernel
theorem dL_law_25 : decode cL_law 25 = .ok (.invokespecial 150, 3) := by decide +kernel
theorem dL_law_28 : decode cL_law 28 = .ok (.iload_n 3, 1) := by decide +kernel
theorem dL_law_29 : decode cL_law 29 = .ok (.iconst 5, 1) := by decide +kernel
theorem dL_law_30 : decode cL_law 30 = .ok (.invokestatic 103, 3) := by decide +kernel
theorem dL_law_33 : decode cL_law 33 = .ok (.invokevirtual 153, 3) := by decide +kernel
theorem dL_law_36 : decode cL_law 36 = .ok (.bipush 59, 2) := by decide +kernel
theorem dL_law_38 : decode cL_law 38 = .ok (.invokevirtual 157, 3) := by decide +kernel
theorem dL_law_41 : decode cL_law 41 = .ok (.astore 4, 2) := by decide +kernel
theorem dL_law_43 : decode cL_law 43 = .ok (.iconst 1, 1) := by decide +kernel
theorem dL_law_44 : decode cL_law 44 = .ok (.istore 5, 2) := by decide +kernel
theorem dL_law_46 : decode cL_law 46 = .ok (.iconst 0, 1) := by decide +kernel
theorem dL_law_47 : decode cL_law 47 = .ok (.istore 6, 2) := by decide +kernel
theorem dL_law_49 : decode cL_law 49 = .ok (.iload 6, 2) := by decide +kernel
theorem dL_law_51 : decode cL_law 51 = .ok (.iconst 1, 1) := by decide +kernel
theorem dL_law_52 : decode cL_law 52 = .ok (.iload_n 3, 1) := by decide +kernel
theorem dL_law_53 : decode cL_law 53 = .ok (.iconst 1, 1) := by decide +kernel
theorem dL_law_54 : decode cL_law 54 = .ok (.ishr, 1) := by decide +kernel
theorem dL_law_55 : decode cL_law 55 = .ok (.iconst 4, 1) := by decide +kernel
theorem dL_law_56 : decode cL_law 56 = .ok (.invokestatic 103, 3) := by decide +kernel
theorem dL_law_59 : decode cL_law 59 = .ok (.iadd, 1) := by decide +kernel
theorem dL_law_60 : decode cL_law 60 = .ok (.if_icmp .ge 51, 3) := by decide +kernel
theorem dL_law_63 : decode cL_law 63 = .ok (.iconst 1, 1) := by decide +kernel
theorem dL_law_64 : decode cL_law 64 = .ok (.aload_n 0, 1) := by decide +kernel
theorem dL_law_65 : decode cL_law 65 = .ok (.iconst 1, 1) := by decide +kernel
theorem dL_law_66 : decode cL_law 66 = .ok (.iload 6, 2) := by decide +kernel
theorem dL_law_68 : decode cL_law 68 = .ok (.iadd, 1) := by decide +kernel
theorem dL_law_69 : decode cL_law 69 = .ok (.invokestatic 142, 3) := by decide +kernel
theorem dL_law_72 : decode cL_law 72 = .ok (.bipush 50, 2) := by decide +kernel
theorem dL_law_74 : decode cL_law 74 = .ok (.invokestatic 103, 3) := by decide +kernel
theorem dL_law_77 : decode cL_law 77 = .ok (.iadd, 1) := by decide +kernel
theorem dL_law_78 : decode cL_law 78 = .ok (.istore 7, 2) := by decide +kernel
theorem dL_law_80 : decode cL_law 80 = .ok (.iload 5, 2) := by decide +kernel
theorem dL_law_82 : decode cL_law 82 = .ok (.iload 7, 2) := by decide +kernel
theorem dL_law_84 : decode cL_law 84 = .ok (.iadd, 1) := by decide +kernel
theorem dL_law_85 : decode cL_law 85 = .ok (.istore 5, 2) := by decide +kernel
theorem dL_law_87 : decode cL_law 87 = .ok (.aload 4, 2) := by decide +kernel
theorem dL_law_89 : decode cL_law 89 = .ok (.ldc 160, 2) := by decide +kernel
theorem dL_law_91 : decode cL_law 91 = .ok (.invokevirtual 162, 3) := by decide +kernel
theorem dL_law_94 : decode cL_law 94 = .ok (.iload 7, 2) := by decide +kernel
theorem dL_law_96 : decode cL_law 96 = .ok (.invokevirtual 153, 3) := by decide +kernel
theorem dL_law_99 : decode cL_law 99 = .ok (.bipush 59, 2) := by decide +kernel
theorem dL_law_101 : decode cL_law 101 = .ok (.invokevirtual 157, 3) := by decide +kernel
theorem dL_law_104 : decode cL_law 104 = .ok (.pop, 1) := by decide +kernel
theorem dL_law_105 : decode cL_law 105 = .ok (.iinc 6 1, 3) := by decide +kernel
theorem dL_law_108 : decode cL_law 108 = .ok (.goto (-59), 3) := by decide +kernel
theorem dL_law_111 : decode cL_law 111 = .ok (.iconst 0, 1) := by decide +kernel
theorem dL_law_112 : decode cL_law 112 = .ok (.istore 6, 2) := by decide +kernel
theorem dL_law_114 : decode cL_law 114 = .ok (.iconst 0, 1) := by decide +kernel
theorem dL_law_115 : decode cL_law 115 = .ok (.istore 7, 2) := by decide +kernel
theorem dL_law_117 : decode cL_law 117 = .ok (.iload 7, 2) := by decide +kernel
theorem dL_law_119 : decode cL_law 119 = .ok (.iload_n 3, 1) := by decide +kernel
theorem dL_law_120 : decode cL_law 120 = .ok (.iconst 3, 1) := by decide +kernel
theorem dL_law_121 : decode cL_law 121 = .ok (.ishr, 1) := by decide +kernel
theorem dL_law_122 : decode cL_law 122 = .ok (.bipush 6, 2) := by decide +kernel
theorem dL_law_124 : decode cL_law 124 = .ok (.invokestatic 103, 3) := by decide +kernel
theorem dL_law_127 : decode cL_law 127 = .ok (.if_icmp .ge 67, 3) := by decide +kernel
theorem dL_law_130 : decode cL_law 130 = .ok (.iconst 2, 1) := by decide +kernel
theorem dL_law_131 : decode cL_law 131 = .ok (.aload_n 0, 1) := by decide +kernel
theorem dL_law_132 : decode cL_law 132 = .ok (.iconst 5, 1) := by decide +kernel
theorem dL_law_133 : decode cL_law 133 = .ok (.iload 7, 2) := by decide +kernel
theorem dL_law_135 : decode cL_law 135 = .ok (.iadd, 1) := by decide +kernel
theorem dL_law_136 : decode cL_law 136 = .ok (.invokestatic 142, 3) := by decide +kernel
theorem dL_law_139 : decode cL_law 139 = .ok (.bipush 25, 2) := by decide +kernel
theorem dL_law_141 : decode cL_law 141 = .ok (.invokestatic 103, 3) := by decide +kernel
theorem dL_law_144 : decode cL_law 144 = .ok (.iadd, 1) := by decide +kernel
theorem dL_law_145 : decode cL_law 145 = .ok (.istore 8, 2) := by decide +kernel
theorem dL_law_147 : decode cL_law 147 = .ok (.iload 6, 2) := by decide +kernel
theorem dL_law_149 : decode cL_law 149 = .ok (.iload 8, 2) := by decide +kernel
theorem dL_law_151 : decode cL_law 151 = .ok (.ishr, 1) := by decide +kernel
theorem dL_law_152 : decode cL_law 152 = .ok (.iconst 1, 1) := by decide +kernel
theorem dL_law_153 : decode cL_law 153 = .ok (.iand, 1) := by decide +kernel
theorem dL_law_154 : decode cL_law 154 = .ok (.iconst 1, 1) := by decide +kernel
theorem dL_law_155 : decode cL_law 155 = .ok (.if_icmp .ne 6, 3) := by decide +kernel
theorem dL_law_158 : decode cL_law 158 = .ok (.goto 30, 3) := by decide +kernel
theorem dL_law_161 : decode cL_law 161 = .ok (.iload 6, 2) := by decide +kernel
theorem dL_law_163 : decode cL_law 163 = .ok (.iconst 1, 1) := by decide +kernel
theorem dL_law_164 : decode cL_law 164 = .ok (.iload 8, 2) := by decide +kernel
theorem dL_law_166 : decode cL_law 166 = .ok (.ishl, 1) := by decide +kernel
theorem dL_law_167 : decode cL_law 167 = .ok (.ior, 1) := by decide +kernel
theorem dL_law_168 : decode cL_law 168 = .ok (.istore 6, 2) := by decide +kernel
theorem dL_law_170 : decode cL_law 170 = .ok (.aload 4, 2) := by decide +kernel
theorem dL_law_172 : decode cL_law 172 = .ok (.ldc 165, 2) := by decide +kernel
theorem dL_law_174 : decode cL_law 174 = .ok (.invokevirtual 162, 3) := by decide +kernel
theorem dL_law_177 : decode cL_law 177 = .ok (.iload 8, 2) := by decide +kernel
theorem dL_law_179 : decode cL_law 179 = .ok (.invokevirtual 153, 3) := by decide +kernel
theorem dL_law_182 : decode cL_law 182 = .ok (.bipush 59, 2) := by decide +kernel
theorem dL_law_184 : decode cL_law 184 = .ok (.invokevirtual 157, 3) := by decide +kernel
theorem dL_law_187 : decode cL_law 187 = .ok (.pop, 1) := by decide +kernel
theorem dL_law_188 : decode cL_law 188 = .ok (.iinc 7 1, 3) := by decide +kernel
theorem dL_law_191 : decode cL_law 191 = .ok (.goto (-74), 3) := by decide +kernel
theorem dL_law_194 : decode cL_law 194 = .ok (.aload_n 1, 1) := by decide +kernel
theorem dL_law_195 : decode cL_law 195 = .ok (.aload_n 2, 1) := by decide +kernel
theorem dL_law_196 : decode cL_law 196 = .ok (.aload 4, 2) := by decide +kernel
theorem dL_law_198 : decode cL_law 198 = .ok (.invokevirtual 167, 3) := by decide +kernel
theorem dL_law_201 : decode cL_law 201 = .ok (.invokestatic 171, 3) := by decide +kernel
theorem dL_law_204 : decode cL_law 204 = .ok (.aload_n 1, 1) := by decide +kernel
theorem dL_law_205 : decode cL_law 205 = .ok (.aload_n 1, 1) := by decide +kernel
theorem dL_law_206 : decode cL_law 206 = .ok (.aload_n 2, 1) := by decide +kernel
theorem dL_law_207 : decode cL_law 207 = .ok (.invokestatic 175, 3) := by decide +kernel
theorem dL_law_210 : decode cL_law 210 = .ok (.invokevirtual 179, 3) := by decide +kernel
theorem dL_law_213 : decode cL_law 213 = .ok (.iload 5, 2) := by decide +kernel
theorem dL_law_215 : decode cL_law 215 = .ok (.if_icmp .eq 5, 3) := by decide +kernel
theorem dL_law_218 : decode cL_law 218 = .ok (.iconst 0, 1) := by decide +kernel
theorem dL_law_219 : decode cL_law 219 = .ok (.ireturn, 1) := by decide +kernel
theorem dL_law_220 : decode cL_law 220 = .ok (.iconst 0, 1) := by decide +kernel
theorem dL_law_221 : decode cL_law 221 = .ok (.istore 7, 2) := by decide +kernel
theorem dL_law_223 : decode cL_law 223 = .ok (.iload 7, 2) := by decide +kernel
theorem dL_law_225 : decode cL_law 225 = .ok (.bipush 28, 2) := by decide +kernel
theorem dL_law_227 : decode cL_law 227 = .ok (.if_icmp .ge 181, 3) := by decide +kernel
theorem dL_law_230 : decode cL_law 230 = .ok (.iload 7, 2) := by decide +kernel
theorem dL_law_232 : decode cL_law 232 = .ok (.iconst 5, 1) := by decide +kernel
theorem dL_law_233 : decode cL_law 233 = .ok (.irem, 1) := by decide +kernel
theorem dL_law_234 : decode cL_law 234 = .ok (.ifCond .ne 10, 3) := by decide +kernel
theorem dL_law_237 : decode cL_law 237 = .ok (.aload_n 1, 1) := by decide +kernel
theorem dL_law_238 : decode cL_law 238 = .ok (.invokestatic 182, 3) := by decide +kernel
theorem dL_law_241 : decode cL_law 241 = .ok (.ifCond .eq 18, 3) := by decide +kernel
theorem dL_law_244 : decode cL_law 244 = .ok (.iload 7, 2) := by decide +kernel
theorem dL_law_246 : decode cL_law 246 = .ok (.iconst 2, 1) := by decide +kernel
theorem dL_law_247 : decode cL_law 247 = .ok (.irem, 1) := by decide +kernel
theorem dL_law_248 : decode cL_law 248 = .ok (.iconst 1, 1) := by decide +kernel
theorem dL_law_249 : decode cL_law 249 = .ok (.if_icmp .ne 12, 3) := by decide +kernel
theorem dL_law_252 : decode cL_law 252 = .ok (.aload_n 1, 1) := by decide +kernel
theorem dL_law_253 : decode cL_law 253 = .ok (.invokestatic 186, 3) := by decide +kernel
theorem dL_law_256 : decode cL_law 256 = .ok (.ifCond .ne 5, 3) := by decide +kernel
theorem dL_law_259 : decode cL_law 259 = .ok (.iconst 0, 1) := by decide +kernel
theorem dL_law_260 : decode cL_law 260 = .ok (.ireturn, 1) := by decide +kernel
theorem dL_law_261 : decode cL_law 261 = .ok (.aload_n 0, 1) := by decide +kernel
theorem dL_law_262 : decode cL_law 262 = .ok (.bipush 12, 2) := by decide +kernel
theorem dL_law_264 : decode cL_law 264 = .ok (.iload 7, 2) := by decide +kernel
theorem dL_law_266 : decode cL_law 266 = .ok (.bipush 24, 2) := by decide +kernel
theorem dL_law_268 : decode cL_law 268 = .ok (.irem, 1) := by decide +kernel
theorem dL_law_269 : decode cL_law 269 = .ok (.iadd, 1) := by decide +kernel
theorem dL_law_270 : decode cL_law 270 = .ok (.invokestatic 142, 3) := by decide +kernel
theorem dL_law_273 : decode cL_law 273 = .ok (.iload 7, 2) := by decide +kernel
theorem dL_law_275 : decode cL_law 275 = .ok (.bipush 24, 2) := by decide +kernel
theorem dL_law_277 : decode cL_law 277 = .ok (.idiv, 1) := by decide +kernel
theorem dL_law_278 : decode cL_law 278 = .ok (.iconst 2, 1) := by decide +kernel
theorem dL_law_279 : decode cL_law 279 = .ok (.imul, 1) := by decide +kernel
theorem dL_law_280 : decode cL_law 280 = .ok (.ishr, 1) := by decide +kernel
theorem dL_law_281 : decode cL_law 281 = .ok (.istore 8, 2) := by decide +kernel
theorem dL_law_283 : decode cL_law 283 = .ok (.aload_n 1, 1) := by decide +kernel
theorem dL_law_284 : decode cL_law 284 = .ok (.invokestatic 189, 3) := by decide +kernel
theorem dL_law_287 : decode cL_law 287 = .ok (.astore 9, 2) := by decide +kernel
theorem dL_law_289 : decode cL_law 289 = .ok (.aload_n 1, 1) := by decide +kernel
theorem dL_law_290 : decode cL_law 290 = .ok (.invokevirtual 193, 3) := by decide +kernel
theorem dL_law_293 : decode cL_law 293 = .ok (.istore 10, 2) := by decide +kernel
theorem dL_law_295 : decode cL_law 295 = .ok (.aload_n 1, 1) := by decide +kernel
theorem dL_law_296 : decode cL_law 296 = .ok (.iload 8, 2) := by decide +kernel
theorem dL_law_298 : decode cL_law 298 = .ok (.invokestatic 196, 3) := by decide +kernel
theorem dL_law_301 : decode cL_law 301 = .ok (.ifCond .ne 5, 3) := by decide +kernel
theorem dL_law_304 : decode cL_law 304 = .ok (.iconst 0, 1) := by decide +kernel
theorem dL_law_305 : decode cL_law 305 = .ok (.ireturn, 1) := by decide +kernel
theorem dL_law_306 : decode cL_law 306 = .ok (.aload_n 1, 1) := by decide +kernel
theorem dL_law_307 : decode cL_law 307 = .ok (.invokestatic 189, 3) := by decide +kernel
theorem dL_law_310 : decode cL_law 310 = .ok (.astore 11, 2) := by decide +kernel
theorem dL_law_312 : decode cL_law 312 = .ok (.aload_n 1, 1) := by decide +kernel
theorem dL_law_313 : decode cL_law 313 = .ok (.invokevirtual 193, 3) := by decide +kernel
theorem dL_law_316 : decode cL_law 316 = .ok (.iload 10, 2) := by decide +kernel
theorem dL_law_318 : decode cL_law 318 = .ok (.iconst 1, 1) := by decide +kernel
theorem dL_law_319 : decode cL_law 319 = .ok (.iadd, 1) := by decide +kernel
theorem dL_law_320 : decode cL_law 320 = .ok (.if_icmp .ne 54, 3) := by decide +kernel
theorem dL_law_323 : decode cL_law 323 = .ok (.iload 7, 2) := by decide +kernel
theorem dL_law_325 : decode cL_law 325 = .ok (.iconst 3, 1) := by decide +kernel
theorem dL_law_326 : decode cL_law 326 = .ok (.irem, 1) := by decide +kernel
theorem dL_law_327 : decode cL_law 327 = .ok (.ifCond .ne 47, 3) := by decide +kernel
theorem dL_law_330 : decode cL_law 330 = .ok (.aload_n 1, 1) := by decide +kernel
theorem dL_law_331 : decode cL_law 331 = .ok (.invokevirtual 200, 3) := by decide +kernel
theorem dL_law_334 : decode cL_law 334 = .ok (.iload 10, 2) := by decide +kernel
theorem dL_law_336 : decode cL_law 336 = .ok (.if_icmp .ne 36, 3) := by decide +kernel
theorem dL_law_339 : decode cL_law 339 = .ok (.aload_n 1, 1) := by decide +kernel
theorem dL_law_340 : decode cL_law 340 = .ok (.invokestatic 189, 3) := by decide +kernel
theorem dL_law_343 : decode cL_law 343 = .ok (.aload 9, 2) := by decide +kernel
theorem dL_law_345 : decode cL_law 345 = .ok (.invokestatic 203, 3) := by decide +kernel
theorem dL_law_348 : decode cL_law 348 = .ok (.ifCond .eq 24, 3) := by decide +kernel
theorem dL_law_351 : decode cL_law 351 = .ok (.aload_n 1, 1) := by decide +kernel
theorem dL_law_352 : decode cL_law 352 = .ok (.iload 8, 2) := by decide +kernel
theorem dL_law_354 : decode cL_law 354 = .ok (.invokestatic 196, 3) := by decide +kernel
theorem dL_law_357 : decode cL_law 357 = .ok (.ifCond .eq 15, 3) := by decide +kernel
theorem dL_law_360 : decode cL_law 360 = .ok (.aload_n 1, 1) := by decide +kernel
theorem dL_law_361 : decode cL_law 361 = .ok (.invokestatic 189, 3) := by decide +kernel
theorem dL_law_364 : decode cL_law 364 = .ok (.aload 11, 2) := by decide +kernel
theorem dL_law_366 : decode cL_law 366 = .ok (.invokestatic 203, 3) := by decide +kernel
theorem dL_law_369 : decode cL_law 369 = .ok (.ifCond .ne 5, 3) := by decide +kernel
theorem dL_law_372 : decode cL_law 372 = .ok (.iconst 0, 1) := by decide +kernel
theorem dL_law_373 : decode cL_law 373 = .ok (.ireturn, 1) := by decide +kernel
theorem dL_law_374 : decode cL_law 374 = .ok (.aload_n 1, 1) := by decide +kernel
theorem dL_law_375 : decode cL_law 375 = .ok (.invokevirtual 193, 3) := by decide +kernel
theorem dL_law_378 : decode cL_law 378 = .ok (.iload 10, 2) := by decide +kernel
theorem dL_law_380 : decode cL_law 380 = .ok (.if_icmp .ne 22, 3) := by decide +kernel
theorem dL_law_383 : decode cL_law 383 = .ok (.iload 10, 2) := by decide +kernel
theorem dL_law_385 : decode cL_law 385 = .ok (.bipush 8, 2) := by decide +kernel
theorem dL_law_387 : decode cL_law 387 = .ok (.if_icmp .ge 15, 3) := by decide +kernel
theorem dL_law_390 : decode cL_law 390 = .ok (.aload 9, 2) := by decide +kernel
theorem dL_law_392 : decode cL_law 392 = .ok (.aload 11, 2) := by decide +kernel
theorem dL_law_394 : decode cL_law 394 = .ok (.invokestatic 203, 3) := by decide +kernel
theorem dL_law_397 : decode cL_law 397 = .ok (.ifCond .ne 5, 3) := by decide +kernel
theorem dL_law_400 : decode cL_law 400 = .ok (.iconst 0, 1) := by decide +kernel
theorem dL_law_401 : decode cL_law 401 = .ok (.ireturn, 1) := by decide +kernel
theorem dL_law_402 : decode cL_law 402 = .ok (.iinc 7 1, 3) := by decide +kernel
theorem dL_law_405 : decode cL_law 405 = .ok (.goto (-182), 3) := by decide +kernel
theorem dL_law_408 : decode cL_law 408 = .ok (.aload_n 1, 1) := by decide +kernel
theorem dL_law_409 : decode cL_law 409 = .ok (.invokevirtual 207, 3) := by decide +kernel
theorem dL_law_412 : decode cL_law 412 = .ok (.aload_n 1, 1) := by decide +kernel
theorem dL_law_413 : decode cL_law 413 = .ok (.invokestatic 189, 3) := by decide +kernel
theorem dL_law_416 : decode cL_law 416 = .ok (.astore 7, 2) := by decide +kernel
theorem dL_law_418 : decode cL_law 418 = .ok (.iconst 0, 1) := by decide +kernel
theorem dL_law_419 : decode cL_law 419 = .ok (.istore 8, 2) := by decide +kernel
theorem dL_law_421 : decode cL_law 421 = .ok (.iload 8, 2) := by decide +kernel
theorem dL_law_423 : decode cL_law 423 = .ok (.iconst 5, 1) := by decide +kernel
theorem dL_law_424 : decode cL_law 424 = .ok (.if_icmp .ge 27, 3) := by decide +kernel
theorem dL_law_427 : decode cL_law 427 = .ok (.aload_n 1, 1) := by decide +kernel
theorem dL_law_428 : decode cL_law 428 = .ok (.aload_n 0, 1) := by decide +kernel
theorem dL_law_429 : decode cL_law 429 = .ok (.bipush 36, 2) := by decide +kernel
theorem dL_law_431 : decode cL_law 431 = .ok (.iload 8, 2) := by decide +kernel
theorem dL_law_433 : decode cL_law 433 = .ok (.iadd, 1) := by decide +kernel
theorem dL_law_434 : decode cL_law 434 = .ok (.invokestatic 142, 3) := by decide +kernel
theorem dL_law_437 : decode cL_law 437 = .ok (.invokestatic 196, 3) := by decide +kernel
theorem dL_law_440 : decode cL_law 440 = .ok (.ifCond .ne 5, 3) := by decide +kernel
theorem dL_law_443 : decode cL_law 443 = .ok (.iconst 0, 1) := by decide +kernel
theorem dL_law_444 : decode cL_law 444 = .ok (.ireturn, 1) := by decide +kernel
theorem dL_law_445 : decode cL_law 445 = .ok (.iinc 8 1, 3) := by decide +kernel
theorem dL_law_448 : decode cL_law 448 = .ok (.goto (-27), 3) := by decide +kernel
theorem dL_law_451 : decode cL_law 451 = .ok (.aload_n 1, 1) := by decide +kernel
theorem dL_law_452 : decode cL_law 452 = .ok (.invokevirtual 210, 3) := by decide +kernel
theorem dL_law_455 : decode cL_law 455 = .ok (.ifCond .eq 34, 3) := by decide +kernel
theorem dL_law_458 : decode cL_law 458 = .ok (.aload_n 1, 1) := by decide +kernel
theorem dL_law_459 : decode cL_law 459 = .ok (.invokestatic 189, 3) := by decide +kernel
theorem dL_law_462 : decode cL_law 462 = .ok (.aload 7, 2) := by decide +kernel
theorem dL_law_464 : decode cL_law 464 = .ok (.invokestatic 203, 3) := by decide +kernel
theorem dL_law_467 : decode cL_law 467 = .ok (.ifCond .eq 22, 3) := by decide +kernel
theorem dL_law_470 : decode cL_law 470 = .ok (.aload_n 1, 1) := by decide +kernel
theorem dL_law_471 : decode cL_law 471 = .ok (.invokevirtual 193, 3) := by decide +kernel
theorem dL_law_474 : decode cL_law 474 = .ok (.ifCond .ne 15, 3) := by decide +kernel
theorem dL_law_477 : decode cL_law 477 = .ok (.aload_n 1, 1) := by decide +kernel
theorem dL_law_478 : decode cL_law 478 = .ok (.invokevirtual 200, 3) := by decide +kernel
theorem dL_law_481 : decode cL_law 481 = .ok (.iconst (-1), 1) := by decide +kernel
theorem dL_law_482 : decode cL_law 482 = .ok (.if_icmp .ne 7, 3) := by decide +kernel
theorem dL_law_485 : decode cL_law 485 = .ok (.iconst 1, 1) := by decide +kernel
theorem dL_law_486 : decode cL_law 486 = .ok (.goto 4, 3) := by decide +kernel
theorem dL_law_489 : decode cL_law 489 = .ok (.iconst 0, 1) := by decide +kernel
theorem dL_law_490 : decode cL_law 490 = .ok (.ireturn, 1) := by decide +kernel
