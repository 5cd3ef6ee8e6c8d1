theorem dL_isSound_39 : decode cL_isSound 39 = .ok (.iload 4, 2) := by decide +kernel
theorem dL_isSound_41 : decode cL_isSound 41 = .ok (.invokevirtual 112, 3) := by decide +kernel
theorem dL_isSound_44 : decode cL_isSound 44 = .ok (.if_icmp .ge 185, 3) := by decide +kernel
theorem dL_isSound_47 : decode cL_isSound 47 = .ok (.aload_n 0, 1) := by decide +kernel
theorem dL_isSound_48 : decode cL_isSound 48 = .ok (.iload 4, 2) := by decide +kernel
theorem dL_isSound_50 : decode cL_isSound 50 = .ok (.iload 6, 2) := by decide +kernel
theorem dL_isSound_52 : decode cL_isSound 52 = .ok (.invokevirtual 115, 3) := by decide +kernel
theorem dL_isSound_55 : decode cL_isSound 55 = .ok (.istore 7, 2) := by decide +kernel
theorem dL_isSound_57 : decode cL_isSound 57 = .ok (.aload_n 0, 1) := by decide +kernel
theorem dL_isSound_58 : decode cL_isSound 58 = .ok (.iload 7, 2) := by decide +kernel
theorem dL_isSound_60 : decode cL_isSound 60 = .ok (.invokevirtual 118, 3) := by decide +kernel
theorem dL_isSound_63 : decode cL_isSound 63 = .ok (.iload 4, 2) := by decide +kernel
theorem dL_isSound_65 : decode cL_isSound 65 = .ok (.if_icmp .ne 26, 3) := by decide +kernel
theorem dL_isSound_68 : decode cL_isSound 68 = .ok (.aload_n 3, 1) := by decide +kernel
theorem dL_isSound_69 : decode cL_isSound 69 = .ok (.iload 7, 2) := by decide +kernel
theorem dL_isSound_71 : decode cL_isSound 71 = .ok (.iaload, 1) := by decide +kernel
theorem dL_isSound_72 : decode cL_isSound 72 = .ok (.aload_n 0, 1) := by decide +kernel
theorem dL_isSound_73 : decode cL_isSound 73 = .ok (.iload 4, 2) := by decide +kernel
theorem dL_isSound_75 : decode cL_isSound 75 = .ok (.iload 6, 2) := by decide +kernel
theorem dL_isSound_77 : decode cL_isSound 77 = .ok (.invokevirtual 121, 3) := by decide +kernel
theorem dL_isSound_80 : decode cL_isSound 80 = .ok (.ifCond .eq 7, 3) := by decide +kernel
theorem dL_isSound_83 : decode cL_isSound 83 = .ok (.iconst 0, 1) := by decide +kernel
theorem dL_isSound_84 : decode cL_isSound 84 = .ok (.goto 4, 3) := by decide +kernel
theorem dL_isSound_87 : decode cL_isSound 87 = .ok (.iconst 1, 1) := by decide +kernel
theorem dL_isSound_88 : decode cL_isSound 88 = .ok (.if_icmp .eq 5, 3) := by decide +kernel
theorem dL_isSound_91 : decode cL_isSound 91 = .ok (.iconst 0, 1) := by decide +kernel
theorem dL_isSound_92 : decode cL_isSound 92 = .ok (.ireturn, 1) := by decide +kernel
theorem dL_isSound_93 : decode cL_isSound 93 = .ok (.aload_n 3, 1) := by decide +kernel
theorem dL_isSound_94 : decode cL_isSound 94 = .ok (.iload 7, 2) := by decide +kernel
theorem dL_isSound_96 : decode cL_isSound 96 = .ok (.dup2, 1) := by decide +kernel
theorem dL_isSound_97 : decode cL_isSound 97 = .ok (.iaload, 1) := by decide +kernel
theorem dL_isSound_98 : decode cL_isSound 98 = .ok (.iconst 1, 1) := by decide +kernel
theorem dL_isSound_99 : decode cL_isSound 99 = .ok (.iadd, 1) := by decide +kernel
theorem dL_isSound_100 : decode cL_isSound 100 = .ok (.iastore, 1) := by decide +kernel
theorem dL_isSound_101 : decode cL_isSound 101 = .ok (.aload_n 0, 1) := by decide +kernel
theorem dL_isSound_102 : decode cL_isSound 102 = .ok (.iload 4, 2) := by decide +kernel
theorem dL_isSound_104 : decode cL_isSound 104 = .ok (.iload 6, 2) := by decide +kernel
theorem dL_isSound_106 : decode cL_isSound 106 = .ok (.invokevirtual 125, 3) := by decide +kernel
theorem dL_isSound_109 : decode cL_isSound 109 = .ok (.iload 5, 2) := by decide +kernel
theorem dL_isSound_111 : decode cL_isSound 111 = .ok (.if_icmp .lt 53, 3) := by decide +kernel
theorem dL_isSound_114 : decode cL_isSound 114 = .ok (.aload_n 0, 1) := by decide +kernel
theorem dL_isSound_115 : decode cL_isSound 115 = .ok (.iload 4, 2) := by decide +kernel
theorem dL_isSound_117 : decode cL_isSound 117 = .ok (.iload 6, 2) := by decide +kernel
theorem dL_isSound_119 : decode cL_isSound 119 = .ok (.invokevirtual 128, 3) := by decide +kernel
theorem dL_isSound_122 : decode cL_isSound 122 = .ok (.aload_n 0, 1) := by decide +kernel
theorem dL_isSound_123 : decode cL_isSound 123 = .ok (.iload 4, 2) := by decide +kernel
theorem dL_isSound_125 : decode cL_isSound 125 = .ok (.iload 6, 2) := by decide +kernel
theorem dL_isSound_127 : decode cL_isSound 127 = .ok (.invokevirtual 125, 3) := by decide +kernel
theorem dL_isSound_130 : decode cL_isSound 130 = .ok (.if_icmp .lt 34, 3) := by decide +kernel
theorem dL_isSound_133 : decode cL_isSound 133 = .ok (.aload_n 0, 1) := by decide +kernel
theorem dL_isSound_134 : decode cL_isSound 134 = .ok (.iload 4, 2) := by decide +kernel
theorem dL_isSound_136 : decode cL_isSound 136 = .ok (.iload 6, 2) := by decide +kernel
theorem dL_isSound_138 : decode cL_isSound 138 = .ok (.invokevirtual 131, 3) := by decide +kernel
theorem dL_isSound_141 : decode cL_isSound 141 = .ok (.ifCond .lt 23, 3) := by decide +kernel
theorem dL_isSound_144 : decode cL_isSound 144 = .ok (.aload_n 0, 1) := by decide +kernel
theorem dL_isSound_145 : decode cL_isSound 145 = .ok (.iload 4, 2) := by decide +kernel
theorem dL_isSound_147 : decode cL_isSound 147 = .ok (.invokevirtual 87, 3) := by decide +kernel
theorem dL_isSound_150 : decode cL_isSound 150 = .ok (.ifCond .eq 16, 3) := by decide +kernel
theorem dL_isSound_153 : decode cL_isSound 153 = .ok (.aload_n 0, 1) := by decide +kernel
theorem dL_isSound_154 : decode cL_isSound 154 = .ok (.iload 4, 2) := by decide +kernel
theorem dL_isSound_156 : decode cL_isSound 156 = .ok (.iload 6, 2) := by decide +kernel
theorem dL_isSound_158 : decode cL_isSound 158 = .ok (.invokevirtual 134, 3) := by decide +kernel
theorem dL_isSound_161 : decode cL_isSound 161 = .ok (.ifCond .ge 5, 3) := by decide +kernel
theorem dL_isSound_164 : decode cL_isSound 164 = .ok (.iconst 0, 1) := by decide +kernel
theorem dL_isSound_165 : decode cL_isSound 165 = .ok (.ireturn, 1) := by decide +kernel
theorem dL_isSound_166 : decode cL_isSound 166 = .ok (.aload_n 0, 1) := by decide +kernel
theorem dL_isSound_167 : decode cL_isSound 167 = .ok (.iload 7, 2) := by decide +kernel
theorem dL_isSound_169 : decode cL_isSound 169 = .ok (.invokevirtual 137, 3) := by decide +kernel
theorem dL_isSound_172 : decode cL_isSound 172 = .ok (.aload_n 0, 1) := by decide +kernel
theorem dL_isSound_173 : decode cL_isSound 173 = .ok (.iload 4, 2) := by decide +kernel
theorem dL_isSound_175 : decode cL_isSound 175 = .ok (.iload 6, 2) := by decide +kernel
theorem dL_isSound_177 : decode cL_isSound 177 = .ok (.invokevirtual 121, 3) := by decide +kernel
theorem dL_isSound_180 : decode cL_isSound 180 = .ok (.ifCond .eq 22, 3) := by decide +kernel
theorem dL_isSound_183 : decode cL_isSound 183 = .ok (.iload 6, 2) := by decide +kernel
theorem dL_isSound_185 : decode cL_isSound 185 = .ok (.aload_n 0, 1) := by decide +kernel
theorem dL_isSound_186 : decode cL_isSound 186 = .ok (.iload 4, 2) := by decide +kernel
theorem dL_isSound_188 : decode cL_isSound 188 = .ok (.invokevirtual 91, 3) := by decide +kernel
theorem dL_isSound_191 : decode cL_isSound 191 = .ok (.if_icmp .ge 7, 3) := by decide +kernel
theorem dL_isSound_194 : decode cL_isSound 194 = .ok (.iconst 1, 1) := by decide +kernel
theorem dL_isSound_195 : decode cL_isSound 195 = .ok (.goto 13, 3) := by decide +kernel
theorem dL_isSound_198 : decode cL_isSound 198 = .ok (.iconst 0, 1) := by decide +kernel
theorem dL_isSound_199 : decode cL_isSound 199 = .ok (.goto 9, 3) := by decide +kernel
theorem dL_isSound_202 : decode cL_isSound 202 = .ok (.aload_n 0, 1) := by decide +kernel
theorem dL_isSound_203 : decode cL_isSound 203 = .ok (.iload 7, 2) := by decide +kernel
theorem dL_isSound_205 : decode cL_isSound 205 = .ok (.invokevirtual 137, 3) := by decide +kernel
theorem dL_isSound_208 : decode cL_isSound 208 = .ok (.if_icmp .eq 5, 3) := by decide +kernel
theorem dL_isSound_211 : decode cL_isSound 211 = .ok (.iconst 0, 1) := by decide +kernel
theorem dL_isSound_212 : decode cL_isSound 212 = .ok (.ireturn, 1) := by decide +kernel
theorem dL_isSound_213 : decode cL_isSound 213 = .ok (.aload_n 0, 1) := by decide +kernel
theorem dL_isSound_214 : decode cL_isSound 214 = .ok (.iload 4, 2) := by decide +kernel
theorem dL_isSound_216 : decode cL_isSound 216 = .ok (.iload 6, 2) := by decide +kernel
theorem dL_isSound_218 : decode cL_isSound 218 = .ok (.invokevirtual 128, 3) := by decide +kernel
theorem dL_isSound_221 : decode cL_isSound 221 = .ok (.istore 5, 2) := by decide +kernel
theorem dL_isSound_223 : decode cL_isSound 223 = .ok (.iinc 6 1, 3) := by decide +kernel
theorem dL_isSound_226 : decode cL_isSound 226 = .ok (.goto (-190), 3) := by decide +kernel
theorem dL_isSound_229 : decode cL_isSound 229 = .ok (.aload_n 0, 1) := by decide +kernel
theorem dL_isSound_230 : decode cL_isSound 230 = .ok (.iload 4, 2) := by decide +kernel
theorem dL_isSound_232 : decode cL_isSound 232 = .ok (.invokevirtual 112, 3) := by decide +kernel
theorem dL_isSound_235 : decode cL_isSound 235 = .ok (.ifCond .le 31, 3) := by decide +kernel
theorem dL_isSound_238 : decode cL_isSound 238 = .ok (.aload_n 0, 1) := by decide +kernel
theorem dL_isSound_239 : decode cL_isSound 239 = .ok (.iload 4, 2) := by decide +kernel
theorem dL_isSound_241 : decode cL_isSound 241 = .ok (.aload_n 0, 1) := by decide +kernel
theorem dL_isSound_242 : decode cL_isSound 242 = .ok (.iload 4, 2) := by decide +kernel
theorem dL_isSound_244 : decode cL_isSound 244 = .ok (.invokevirtual 112, 3) := by decide +kernel
theorem dL_isSound_247 : decode cL_isSound 247 = .ok (.iconst 1, 1) := by decide +kernel
theorem dL_isSound_248 : decode cL_isSound 248 = .ok (.isub, 1) := by decide +kernel
theorem dL_isSound_249 : decode cL_isSound 249 = .ok (.invokevirtual 131, 3) := by decide +kernel
theorem dL_isSound_252 : decode cL_isSound 252 = .ok (.ifCond .ne 50, 3) := by decide +kernel
theorem dL_isSound_255 : decode cL_isSound 255 = .ok (.aload_n 0, 1) := by decide +kernel
theorem dL_isSound_256 : decode cL_isSound 256 = .ok (.iload 4, 2) := by decide +kernel
theorem dL_isSound_258 : decode cL_isSound 258 = .ok (.invokevirtual 140, 3) := by decide +kernel
theorem dL_isSound_261 : decode cL_isSound 261 = .ok (.iload 5, 2) := by decide +kernel
theorem dL_isSound_263 : decode cL_isSound 263 = .ok (.if_icmp .lt 39, 3) := by decide +kernel
theorem dL_isSound_266 : decode cL_isSound 266 = .ok (.aload_n 0, 1) := by decide +kernel
theorem dL_isSound_267 : decode cL_isSound 267 = .ok (.iload 4, 2) := by decide +kernel
theorem dL_isSound_269 : decode cL_isSound 269 = .ok (.invokevirtual 112, 3) := by decide +kernel
theorem dL_isSound_272 : decode cL_isSound 272 = .ok (.ifCond .ne 21, 3) := by decide +kernel
theorem dL_isSound_275 : decode cL_isSound 275 = .ok (.aload_n 0, 1) := by decide +kernel
theorem dL_isSound_276 : decode cL_isSound 276 = .ok (.iload 4, 2) := by decide +kernel
theorem dL_isSound_278 : decode cL_isSound 278 = .ok (.invokevirtual 109, 3) := by decide +kernel
theorem dL_isSound_281 : decode cL_isSound 281 = .ok (.ifCond .ne 21, 3) := by decide +kernel
theorem dL_isSound_284 : decode cL_isSound 284 = .ok (.aload_n 0, 1) := by decide +kernel
theorem dL_isSound_285 : decode cL_isSound 285 = .ok (.iload 4, 2) := by decide +kernel
theorem dL_isSound_287 : decode cL_isSound 287 = .ok (.invokevirtual 87, 3) := by decide +kernel
theorem dL_isSound_290 : decode cL_isSound 290 = .ok (.ifCond .eq 12, 3) := by decide +kernel
theorem dL_isSound_293 : decode cL_isSound 293 = .ok (.aload_n 0, 1) := by decide +kernel
theorem dL_isSound_294 : decode cL_isSound 294 = .ok (.iload 4, 2) := by decide +kernel
theorem dL_isSound_296 : decode cL_isSound 296 = .ok (.invokevirtual 143, 3) := by decide +kernel
theorem dL_isSound_299 : decode cL_isSound 299 = .ok (.ifCond .ge 5, 3) := by decide +kernel
theorem dL_isSound_302 : decode cL_isSound 302 = .ok (.iconst 0, 1) := by decide +kernel
theorem dL_isSound_303 : decode cL_isSound 303 = .ok (.ireturn, 1) := by decide +kernel
theorem dL_isSound_304 : decode cL_isSound 304 = .ok (.iload_n 2, 1) := by decide +kernel
theorem dL_isSound_305 : decode cL_isSound 305 = .ok (.aload_n 0, 1) := by decide +kernel
theorem dL_isSound_306 : decode cL_isSound 306 = .ok (.iload 4, 2) := by decide +kernel
theorem dL_isSound_308 : decode cL_isSound 308 = .ok (.invokevirtual 112, 3) := by decide +kernel
theorem dL_isSound_311 : decode cL_isSound 311 = .ok (.iadd, 1) := by decide +kernel
theorem dL_isSound_312 : decode cL_isSound 312 = .ok (.istore_n 2, 1) := by decide +kernel
theorem dL_isSound_313 : decode cL_isSound 313 = .ok (.iinc 4 1, 3) := by decide +kernel
theorem dL_isSound_316 : decode cL_isSound 316 = .ok (.goto (-304), 3) := by decide +kernel
theorem dL_isSound_319 : decode cL_isSound 319 = .ok (.iconst 0, 1) := by decide +kernel
theorem dL_isSound_320 : decode cL_isSound 320 = .ok (.istore 4, 2) := by decide +kernel
theorem dL_isSound_322 : decode cL_isSound 322 = .ok (.iload 4, 2) := by decide +kernel
theorem dL_isSound_324 : decode cL_isSound 324 = .ok (.aload_n 0, 1) := by decide +kernel
theorem dL_isSound_325 : decode cL_isSound 325 = .ok (.invokevirtual 30, 3) := by decide +kernel
theorem dL_isSound_328 : decode cL_isSound 328 = .ok (.if_icmp .ge 72, 3) := by decide +kernel
theorem dL_isSound_331 : decode cL_isSound 331 = .ok (.aload_n 3, 1) := by decide +kernel
theorem dL_isSound_332 : decode cL_isSound 332 = .ok (.iload 4, 2) := by decide +kernel
theorem dL_isSound_334 : decode cL_isSound 334 = .ok (.iaload, 1) := by decide +kernel
theorem dL_isSound_335 : decode cL_isSound 335 = .ok (.aload_n 0, 1) := by decide +kernel
theorem dL_isSound_336 : decode cL_isSound 336 = .ok (.iload 4, 2) := by decide +kernel
theorem dL_isSound_338 : decode cL_isSound 338 = .ok (.invokevirtual 118, 3) := by decide +kernel
theorem dL_isSound_341 : decode cL_isSound 341 = .ok (.ifCond .ge 7, 3) := by decide +kernel
theorem dL_isSound_344 : decode cL_isSound 344 = .ok (.iconst 0, 1) := by decide +kernel
theorem dL_isSound_345 : decode cL_isSound 345 = .ok (.goto 4, 3) := by decide +kernel
theorem dL_isSound_348 : decode cL_isSound 348 = .ok (.iconst 2, 1) := by decide +kernel
theorem dL_isSound_349 : decode cL_isSound 349 = .ok (.if_icmp .eq 5, 3) := by decide +kernel
theorem dL_isSound_352 : decode cL_isSound 352 = .ok (.iconst 0, 1) := by decide +kernel
theorem dL_isSound_353 : decode cL_isSound 353 = .ok (.ireturn, 1) := by decide +kernel
theorem dL_isSound_354 : decode cL_isSound 354 = .ok (.iload_n 2, 1) := by decide +kernel
theorem dL_isSound_355 : decode cL_isSound 355 = .ok (.aload_n 3, 1) := by decide +kernel
theorem dL_isSound_356 : decode cL_isSound 356 = .ok (.iload 4, 2) := by decide +kernel
theorem dL_isSound_358 : decode cL_isSound 358 = .ok (.iaload, 1) := by decide +kernel
theorem dL_isSound_359 : decode cL_isSound 359 = .ok (.isub, 1) := by decide +kernel
theorem dL_isSound_360 : decode cL_isSound 360 = .ok (.istore_n 2, 1) := by decide +kernel
theorem dL_isSound_361 : decode cL_isSound 361 = .ok (.aload_n 0, 1) := by decide +kernel
theorem dL_isSound_362 : decode cL_isSound 362 = .ok (.iload 4, 2) := by decide +kernel
theorem dL_isSound_364 : decode cL_isSound 364 = .ok (.invokevirtual 146, 3) := by decide +kernel
theorem dL_isSound_367 : decode cL_isSound 367 = .ok (.aload_n 0, 1) := by decide +kernel
theorem dL_isSound_368 : decode cL_isSound 368 = .ok (.invokevirtual 46, 3) := by decide +kernel
theorem dL_isSound_371 : decode cL_isSound 371 = .ok (.if_icmp .gt 21, 3) := by decide +kernel
theorem dL_isSound_374 : decode cL_isSound 374 = .ok (.aload_n 0, 1) := by decide +kernel
theorem dL_isSound_375 : decode cL_isSound 375 = .ok (.iload 4, 2) := by decide +kernel
theorem dL_isSound_377 : decode cL_isSound 377 = .ok (.invokevirtual 118, 3) := by decide +kernel
theorem dL_isSound_380 : decode cL_isSound 380 = .ok (.ifCond .ge 14, 3) := by decide +kernel
theorem dL_isSound_383 : decode cL_isSound 383 = .ok (.aload_n 0, 1) := by decide +kernel
theorem dL_isSound_384 : decode cL_isSound 384 = .ok (.iload 4, 2) := by decide +kernel
theorem dL_isSound_386 : decode cL_isSound 386 = .ok (.invokevirtual 137, 3) := by decide +kernel
theorem dL_isSound_389 : decode cL_isSound 389 = .ok (.ifCond .eq 5, 3) := by decide +kernel
theorem dL_isSound_392 : decode cL_isSound 392 = .ok (.iconst 0, 1) := by decide +kernel
theorem dL_isSound_393 : decode cL_isSound 393 = .ok (.ireturn, 1) := by decide +kernel
theorem dL_isSound_394 : decode cL_isSound 394 = .ok (.iinc 4 1, 3) := by decide +kernel
theorem dL_isSound_397 : decode cL_isSound 397 = .ok (.goto (-75), 3) := by decide +kernel
theorem dL_isSound_400 : decode cL_isSound 400 = .ok (.iconst 0, 1) := by decide +kernel
theorem dL_isSound_401 : decode cL_isSound 401 = .ok (.istore 4, 2) := by decide +kernel
theorem dL_isSound_403 : decode cL_isSound 403 = .ok (.iload 4, 2) := by decide +kernel
theorem dL_isSound_405 : decode cL_isSound 405 = .ok (.iconst 4, 1) := by decide +kernel
theorem dL_isSound_406 : decode cL_isSound 406 = .ok (.if_icmp .ge 20, 3) := by decide +kernel
theorem dL_isSound_409 : decode cL_isSound 409 = .ok (.aload_n 0, 1) := by decide +kernel
theorem dL_isSound_410 : decode cL_isSound 410 = .ok (.iload 4, 2) := by decide +kernel
theorem dL_isSound_412 : decode cL_isSound 412 = .ok (.invokevirtual 94, 3) := by decide +kernel
theorem dL_isSound_415 : decode cL_isSound 415 = .ok (.ifCond .ge 5, 3) := by decide +kernel
theorem dL_isSound_418 : decode cL_isSound 418 = .ok (.iconst 0, 1) := by decide +kernel
theorem dL_isSound_419 : decode cL_isSound 419 = .ok (.ireturn, 1) := by decide +kernel
theorem dL_isSound_420 : decode cL_isSound 420 = .ok (.iinc 4 1, 3) := by decide +kernel
theorem dL_isSound_423 : decode cL_isSound 423 = .ok (.goto (-20), 3) := by decide +kernel
theorem dL_isSound_426 : decode cL_isSound 426 = .ok (.iload_n 2, 1) := by decide +kernel
theorem dL_isSound_427 : decode cL_isSound 427 = .ok (.ifCond .ne 33, 3) := by decide +kernel
theorem dL_isSound_430 : decode cL_isSound 430 = .ok (.aload_n 0, 1) := by decide +kernel
theorem dL_isSound_431 : decode cL_isSound 431 = .ok (.invokevirtual 46, 3) := by decide +kernel
theorem dL_isSound_434 : decode cL_isSound 434 = .ok (.iload_n 1, 1) := by decide +kernel
theorem dL_isSound_435 : decode cL_isSound 435 = .ok (.if_icmp .lt 25, 3) := by decide +kernel
theorem dL_isSound_438 : decode cL_isSound 438 = .ok (.aload_n 0, 1) := by decide +kernel
theorem dL_isSound_439 : decode cL_isSound 439 = .ok (.invokevirtual 149, 3) := by decide +kernel
theorem dL_isSound_442 : decode cL_isSound 442 = .ok (.dconst 0, 1) := by decide +kernel
theorem dL_isSound_443 : decode cL_isSound 443 = .ok (.dcmp .l, 1) := by decide +kernel
theorem dL_isSound_444 : decode cL_isSound 444 = .ok (.ifCond .lt 16, 3) := by decide +kernel
theorem dL_isSound_447 : decode cL_isSound 447 = .ok (.aload_n 0, 1) := by decide +kernel
theorem dL_isSound_448 : decode cL_isSound 448 = .ok (.invokevirtual 149, 3) := by decide +kernel
theorem dL_isSound_451 : decode cL_isSound 451 = .ok (.dconst 1, 1) := by decide +kernel
theorem dL_isSound_452 : decode cL_isSound 452 = .ok (.dcmp .g, 1) := by decide +kernel
theorem dL_isSound_453 : decode cL_isSound 453 = .ok (.ifCond .gt 7, 3) := by decide +kernel
theorem dL_isSound_456 : decode cL_isSound 456 = .ok (.iconst 1, 1) := by decide +kernel
theorem dL_isSound_457 : decode cL_isSound 457 = .ok (.goto 4, 3) := by decide +kernel
theorem dL_isSound_460 : decode cL_isSound 460 = .ok (.iconst 0, 1) := by decide +kernel
theorem dL_isSound_461 : decode cL_isSound 461 = .ok (.ireturn, 1) := by decide +kernel
