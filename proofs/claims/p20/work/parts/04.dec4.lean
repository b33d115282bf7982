theorem dL_isRefused_54 : decode cL_isRefused 54 = .ok (.goto 5, 3) := by decide +kernel
theorem dL_isRefused_57 : decode cL_isRefused 57 = .ok (.ldc 121, 2) := by decide +kernel
theorem dL_isRefused_59 : decode cL_isRefused 59 = .ok (.iconst 0, 1) := by decide +kernel
theorem dL_isRefused_60 : decode cL_isRefused 60 = .ok (.invokestatic 99, 3) := by decide +kernel
theorem dL_isRefused_63 : decode cL_isRefused 63 = .ok (.sipush (-972), 3) := by decide +kernel
theorem dL_isRefused_66 : decode cL_isRefused 66 = .ok (.if_icmp .ne 195, 3) := by decide +kernel
theorem dL_isRefused_69 : decode cL_isRefused 69 = .ok (.aload_n 0, 1) := by decide +kernel
theorem dL_isRefused_70 : decode cL_isRefused 70 = .ok (.iconst 1, 1) := by decide +kernel
theorem dL_isRefused_71 : decode cL_isRefused 71 = .ok (.iload 4, 2) := by decide +kernel
theorem dL_isRefused_73 : decode cL_isRefused 73 = .ok (.iconst 0, 1) := by decide +kernel
theorem dL_isRefused_74 : decode cL_isRefused 74 = .ok (.invokestatic 99, 3) := by decide +kernel
theorem dL_isRefused_77 : decode cL_isRefused 77 = .ok (.sipush (-971), 3) := by decide +kernel
theorem dL_isRefused_80 : decode cL_isRefused 80 = .ok (.if_icmp .ne 181, 3) := by decide +kernel
theorem dL_isRefused_83 : decode cL_isRefused 83 = .ok (.aload_n 0, 1) := by decide +kernel
theorem dL_isRefused_84 : decode cL_isRefused 84 = .ok (.iconst 2, 1) := by decide +kernel
theorem dL_isRefused_85 : decode cL_isRefused 85 = .ok (.iload 4, 2) := by decide +kernel
theorem dL_isRefused_87 : decode cL_isRefused 87 = .ok (.iconst (-1), 1) := by decide +kernel
theorem dL_isRefused_88 : decode cL_isRefused 88 = .ok (.invokestatic 99, 3) := by decide +kernel
theorem dL_isRefused_91 : decode cL_isRefused 91 = .ok (.sipush (-971), 3) := by decide +kernel
theorem dL_isRefused_94 : decode cL_isRefused 94 = .ok (.if_icmp .ne 167, 3) := by decide +kernel
theorem dL_isRefused_97 : decode cL_isRefused 97 = .ok (.aload_n 0, 1) := by decide +kernel
theorem dL_isRefused_98 : decode cL_isRefused 98 = .ok (.iconst 3, 1) := by decide +kernel
theorem dL_isRefused_99 : decode cL_isRefused 99 = .ok (.iload 4, 2) := by decide +kernel
theorem dL_isRefused_101 : decode cL_isRefused 101 = .ok (.iconst 0, 1) := by decide +kernel
theorem dL_isRefused_102 : decode cL_isRefused 102 = .ok (.invokestatic 99, 3) := by decide +kernel
theorem dL_isRefused_105 : decode cL_isRefused 105 = .ok (.sipush (-971), 3) := by decide +kernel
theorem dL_isRefused_108 : decode cL_isRefused 108 = .ok (.if_icmp .ne 153, 3) := by decide +kernel
theorem dL_isRefused_111 : decode cL_isRefused 111 = .ok (.aload_n 0, 1) := by decide +kernel
theorem dL_isRefused_112 : decode cL_isRefused 112 = .ok (.iconst 5, 1) := by decide +kernel
theorem dL_isRefused_113 : decode cL_isRefused 113 = .ok (.iload 4, 2) := by decide +kernel
theorem dL_isRefused_115 : decode cL_isRefused 115 = .ok (.iconst 0, 1) := by decide +kernel
theorem dL_isRefused_116 : decode cL_isRefused 116 = .ok (.invokestatic 99, 3) := by decide +kernel
theorem dL_isRefused_119 : decode cL_isRefused 119 = .ok (.sipush (-971), 3) := by decide +kernel
theorem dL_isRefused_122 : decode cL_isRefused 122 = .ok (.if_icmp .ne 139, 3) := by decide +kernel
theorem dL_isRefused_125 : decode cL_isRefused 125 = .ok (.aload_n 0, 1) := by decide +kernel
theorem dL_isRefused_126 : decode cL_isRefused 126 = .ok (.iload 4, 2) := by decide +kernel
theorem dL_isRefused_128 : decode cL_isRefused 128 = .ok (.iconst (-1), 1) := by decide +kernel
theorem dL_isRefused_129 : decode cL_isRefused 129 = .ok (.iconst (-1), 1) := by decide +kernel
theorem dL_isRefused_130 : decode cL_isRefused 130 = .ok (.invokestatic 122, 3) := by decide +kernel
theorem dL_isRefused_133 : decode cL_isRefused 133 = .ok (.sipush (-971), 3) := by decide +kernel
theorem dL_isRefused_136 : decode cL_isRefused 136 = .ok (.if_icmp .ne 125, 3) := by decide +kernel
theorem dL_isRefused_139 : decode cL_isRefused 139 = .ok (.aload_n 0, 1) := by decide +kernel
theorem dL_isRefused_140 : decode cL_isRefused 140 = .ok (.iload_n 3, 1) := by decide +kernel
theorem dL_isRefused_141 : decode cL_isRefused 141 = .ok (.iload 4, 2) := by decide +kernel
theorem dL_isRefused_143 : decode cL_isRefused 143 = .ok (.invokestatic 85, 3) := by decide +kernel
theorem dL_isRefused_146 : decode cL_isRefused 146 = .ok (.ldc 69, 2) := by decide +kernel
theorem dL_isRefused_148 : decode cL_isRefused 148 = .ok (.if_icmp .ne 113, 3) := by decide +kernel
theorem dL_isRefused_151 : decode cL_isRefused 151 = .ok (.aload_n 0, 1) := by decide +kernel
theorem dL_isRefused_152 : decode cL_isRefused 152 = .ok (.iconst 4, 1) := by decide +kernel
theorem dL_isRefused_153 : decode cL_isRefused 153 = .ok (.iload_n 3, 1) := by decide +kernel
theorem dL_isRefused_154 : decode cL_isRefused 154 = .ok (.ifCond .eq 12, 3) := by decide +kernel
theorem dL_isRefused_157 : decode cL_isRefused 157 = .ok (.iconst 0, 1) := by decide +kernel
theorem dL_isRefused_158 : decode cL_isRefused 158 = .ok (.iload_n 2, 1) := by decide +kernel
theorem dL_isRefused_159 : decode cL_isRefused 159 = .ok (.bipush 30, 2) := by decide +kernel
theorem dL_isRefused_161 : decode cL_isRefused 161 = .ok (.irem, 1) := by decide +kernel
theorem dL_isRefused_162 : decode cL_isRefused 162 = .ok (.isub, 1) := by decide +kernel
theorem dL_isRefused_163 : decode cL_isRefused 163 = .ok (.goto 10, 3) := by decide +kernel
theorem dL_isRefused_166 : decode cL_isRefused 166 = .ok (.bipush 101, 2) := by decide +kernel
theorem dL_isRefused_168 : decode cL_isRefused 168 = .ok (.iload_n 2, 1) := by decide +kernel
theorem dL_isRefused_169 : decode cL_isRefused 169 = .ok (.bipush 30, 2) := by decide +kernel
theorem dL_isRefused_171 : decode cL_isRefused 171 = .ok (.irem, 1) := by decide +kernel
theorem dL_isRefused_172 : decode cL_isRefused 172 = .ok (.iadd, 1) := by decide +kernel
theorem dL_isRefused_173 : decode cL_isRefused 173 = .ok (.iconst 0, 1) := by decide +kernel
theorem dL_isRefused_174 : decode cL_isRefused 174 = .ok (.invokestatic 99, 3) := by decide +kernel
theorem dL_isRefused_177 : decode cL_isRefused 177 = .ok (.sipush (-972), 3) := by decide +kernel
theorem dL_isRefused_180 : decode cL_isRefused 180 = .ok (.if_icmp .ne 81, 3) := by decide +kernel
theorem dL_isRefused_183 : decode cL_isRefused 183 = .ok (.aload_n 0, 1) := by decide +kernel
theorem dL_isRefused_184 : decode cL_isRefused 184 = .ok (.bipush 6, 2) := by decide +kernel
theorem dL_isRefused_186 : decode cL_isRefused 186 = .ok (.iload_n 3, 1) := by decide +kernel
theorem dL_isRefused_187 : decode cL_isRefused 187 = .ok (.ifCond .eq 7, 3) := by decide +kernel
theorem dL_isRefused_190 : decode cL_isRefused 190 = .ok (.iconst 0, 1) := by decide +kernel
theorem dL_isRefused_191 : decode cL_isRefused 191 = .ok (.goto 13, 3) := by decide +kernel
theorem dL_isRefused_194 : decode cL_isRefused 194 = .ok (.iconst 1, 1) := by decide +kernel
theorem dL_isRefused_195 : decode cL_isRefused 195 = .ok (.aload_n 1, 1) := by decide +kernel
theorem dL_isRefused_196 : decode cL_isRefused 196 = .ok (.iconst 0, 1) := by decide +kernel
theorem dL_isRefused_197 : decode cL_isRefused 197 = .ok (.iaload, 1) := by decide +kernel
theorem dL_isRefused_198 : decode cL_isRefused 198 = .ok (.iload_n 2, 1) := by decide +kernel
theorem dL_isRefused_199 : decode cL_isRefused 199 = .ok (.bipush 9, 2) := by decide +kernel
theorem dL_isRefused_201 : decode cL_isRefused 201 = .ok (.irem, 1) := by decide +kernel
theorem dL_isRefused_202 : decode cL_isRefused 202 = .ok (.iadd, 1) := by decide +kernel
theorem dL_isRefused_203 : decode cL_isRefused 203 = .ok (.ishl, 1) := by decide +kernel
theorem dL_isRefused_204 : decode cL_isRefused 204 = .ok (.iconst 0, 1) := by decide +kernel
theorem dL_isRefused_205 : decode cL_isRefused 205 = .ok (.invokestatic 99, 3) := by decide +kernel
theorem dL_isRefused_208 : decode cL_isRefused 208 = .ok (.sipush (-972), 3) := by decide +kernel
theorem dL_isRefused_211 : decode cL_isRefused 211 = .ok (.if_icmp .ne 50, 3) := by decide +kernel
theorem dL_isRefused_214 : decode cL_isRefused 214 = .ok (.aload_n 0, 1) := by decide +kernel
theorem dL_isRefused_215 : decode cL_isRefused 215 = .ok (.bipush 6, 2) := by decide +kernel
theorem dL_isRefused_217 : decode cL_isRefused 217 = .ok (.iconst (-1), 1) := by decide +kernel
theorem dL_isRefused_218 : decode cL_isRefused 218 = .ok (.iload_n 2, 1) := by decide +kernel
theorem dL_isRefused_219 : decode cL_isRefused 219 = .ok (.bipush 30, 2) := by decide +kernel
theorem dL_isRefused_221 : decode cL_isRefused 221 = .ok (.irem, 1) := by decide +kernel
theorem dL_isRefused_222 : decode cL_isRefused 222 = .ok (.isub, 1) := by decide +kernel
theorem dL_isRefused_223 : decode cL_isRefused 223 = .ok (.iconst 0, 1) := by decide +kernel
theorem dL_isRefused_224 : decode cL_isRefused 224 = .ok (.invokestatic 99, 3) := by decide +kernel
theorem dL_isRefused_227 : decode cL_isRefused 227 = .ok (.sipush (-972), 3) := by decide +kernel
theorem dL_isRefused_230 : decode cL_isRefused 230 = .ok (.if_icmp .ne 31, 3) := by decide +kernel
theorem dL_isRefused_233 : decode cL_isRefused 233 = .ok (.aload_n 0, 1) := by decide +kernel
theorem dL_isRefused_234 : decode cL_isRefused 234 = .ok (.invokevirtual 71, 3) := by decide +kernel
theorem dL_isRefused_237 : decode cL_isRefused 237 = .ok (.sipush 1901, 3) := by decide +kernel
theorem dL_isRefused_240 : decode cL_isRefused 240 = .ok (.if_icmp .lt 17, 3) := by decide +kernel
theorem dL_isRefused_243 : decode cL_isRefused 243 = .ok (.aload_n 0, 1) := by decide +kernel
theorem dL_isRefused_244 : decode cL_isRefused 244 = .ok (.iconst 4, 1) := by decide +kernel
theorem dL_isRefused_245 : decode cL_isRefused 245 = .ok (.bipush 100, 2) := by decide +kernel
theorem dL_isRefused_247 : decode cL_isRefused 247 = .ok (.iconst 0, 1) := by decide +kernel
theorem dL_isRefused_248 : decode cL_isRefused 248 = .ok (.invokestatic 99, 3) := by decide +kernel
theorem dL_isRefused_251 : decode cL_isRefused 251 = .ok (.sipush (-973), 3) := by decide +kernel
theorem dL_isRefused_254 : decode cL_isRefused 254 = .ok (.if_icmp .ne 7, 3) := by decide +kernel
theorem dL_isRefused_257 : decode cL_isRefused 257 = .ok (.iconst 1, 1) := by decide +kernel
theorem dL_isRefused_258 : decode cL_isRefused 258 = .ok (.goto 4, 3) := by decide +kernel
theorem dL_isRefused_261 : decode cL_isRefused 261 = .ok (.iconst 0, 1) := by decide +kernel
theorem dL_isRefused_262 : decode cL_isRefused 262 = .ok (.istore 7, 2) := by decide +kernel
theorem dL_isRefused_264 : decode cL_isRefused 264 = .ok (.iconst 0, 1) := by decide +kernel
theorem dL_isRefused_265 : decode cL_isRefused 265 = .ok (.istore 8, 2) := by decide +kernel
theorem dL_isRefused_267 : decode cL_isRefused 267 = .ok (.iload 8, 2) := by decide +kernel
theorem dL_isRefused_269 : decode cL_isRefused 269 = .ok (.bipush 6, 2) := by decide +kernel
theorem dL_isRefused_271 : decode cL_isRefused 271 = .ok (.if_icmp .ge 35, 3) := by decide +kernel
theorem dL_isRefused_274 : decode cL_isRefused 274 = .ok (.iload 7, 2) := by decide +kernel
theorem dL_isRefused_276 : decode cL_isRefused 276 = .ok (.ifCond .eq 30, 3) := by decide +kernel
theorem dL_isRefused_279 : decode cL_isRefused 279 = .ok (.aload_n 0, 1) := by decide +kernel
theorem dL_isRefused_280 : decode cL_isRefused 280 = .ok (.iload 8, 2) := by decide +kernel
theorem dL_isRefused_282 : decode cL_isRefused 282 = .ok (.iload 4, 2) := by decide +kernel
theorem dL_isRefused_284 : decode cL_isRefused 284 = .ok (.invokestatic 124, 3) := by decide +kernel
theorem dL_isRefused_287 : decode cL_isRefused 287 = .ok (.sipush (-971), 3) := by decide +kernel
theorem dL_isRefused_290 : decode cL_isRefused 290 = .ok (.if_icmp .ne 7, 3) := by decide +kernel
theorem dL_isRefused_293 : decode cL_isRefused 293 = .ok (.iconst 1, 1) := by decide +kernel
theorem dL_isRefused_294 : decode cL_isRefused 294 = .ok (.goto 4, 3) := by decide +kernel
theorem dL_isRefused_297 : decode cL_isRefused 297 = .ok (.iconst 0, 1) := by decide +kernel
theorem dL_isRefused_298 : decode cL_isRefused 298 = .ok (.istore 7, 2) := by decide +kernel
theorem dL_isRefused_300 : decode cL_isRefused 300 = .ok (.iinc 8 1, 3) := by decide +kernel
theorem dL_isRefused_303 : decode cL_isRefused 303 = .ok (.goto (-36), 3) := by decide +kernel
theorem dL_isRefused_306 : decode cL_isRefused 306 = .ok (.iconst 0, 1) := by decide +kernel
theorem dL_isRefused_307 : decode cL_isRefused 307 = .ok (.istore 8, 2) := by decide +kernel
theorem dL_isRefused_309 : decode cL_isRefused 309 = .ok (.iload 8, 2) := by decide +kernel
theorem dL_isRefused_311 : decode cL_isRefused 311 = .ok (.aload_n 1, 1) := by decide +kernel
theorem dL_isRefused_312 : decode cL_isRefused 312 = .ok (.iconst 0, 1) := by decide +kernel
theorem dL_isRefused_313 : decode cL_isRefused 313 = .ok (.iaload, 1) := by decide +kernel
theorem dL_isRefused_314 : decode cL_isRefused 314 = .ok (.if_icmp .ge 137, 3) := by decide +kernel
theorem dL_isRefused_317 : decode cL_isRefused 317 = .ok (.iload 7, 2) := by decide +kernel
theorem dL_isRefused_319 : decode cL_isRefused 319 = .ok (.ifCond .eq 132, 3) := by decide +kernel
theorem dL_isRefused_322 : decode cL_isRefused 322 = .ok (.aload_n 0, 1) := by decide +kernel
theorem dL_isRefused_323 : decode cL_isRefused 323 = .ok (.iconst 1, 1) := by decide +kernel
theorem dL_isRefused_324 : decode cL_isRefused 324 = .ok (.iload 8, 2) := by decide +kernel
theorem dL_isRefused_326 : decode cL_isRefused 326 = .ok (.iload_n 3, 1) := by decide +kernel
theorem dL_isRefused_327 : decode cL_isRefused 327 = .ok (.ifCond .eq 7, 3) := by decide +kernel
theorem dL_isRefused_330 : decode cL_isRefused 330 = .ok (.iconst 0, 1) := by decide +kernel
theorem dL_isRefused_331 : decode cL_isRefused 331 = .ok (.goto 5, 3) := by decide +kernel
theorem dL_isRefused_334 : decode cL_isRefused 334 = .ok (.ldc 121, 2) := by decide +kernel
theorem dL_isRefused_336 : decode cL_isRefused 336 = .ok (.invokestatic 99, 3) := by decide +kernel
theorem dL_isRefused_339 : decode cL_isRefused 339 = .ok (.sipush (-972), 3) := by decide +kernel
theorem dL_isRefused_342 : decode cL_isRefused 342 = .ok (.if_icmp .ne 100, 3) := by decide +kernel
theorem dL_isRefused_345 : decode cL_isRefused 345 = .ok (.aload_n 0, 1) := by decide +kernel
theorem dL_isRefused_346 : decode cL_isRefused 346 = .ok (.iconst 2, 1) := by decide +kernel
theorem dL_isRefused_347 : decode cL_isRefused 347 = .ok (.iload 8, 2) := by decide +kernel
theorem dL_isRefused_349 : decode cL_isRefused 349 = .ok (.iload_n 3, 1) := by decide +kernel
theorem dL_isRefused_350 : decode cL_isRefused 350 = .ok (.ifCond .eq 7, 3) := by decide +kernel
theorem dL_isRefused_353 : decode cL_isRefused 353 = .ok (.iconst (-1), 1) := by decide +kernel
theorem dL_isRefused_354 : decode cL_isRefused 354 = .ok (.goto 5, 3) := by decide +kernel
theorem dL_isRefused_357 : decode cL_isRefused 357 = .ok (.ldc 121, 2) := by decide +kernel
theorem dL_isRefused_359 : decode cL_isRefused 359 = .ok (.invokestatic 99, 3) := by decide +kernel
theorem dL_isRefused_362 : decode cL_isRefused 362 = .ok (.sipush (-972), 3) := by decide +kernel
theorem dL_isRefused_365 : decode cL_isRefused 365 = .ok (.if_icmp .ne 77, 3) := by decide +kernel
theorem dL_isRefused_368 : decode cL_isRefused 368 = .ok (.aload_n 0, 1) := by decide +kernel
theorem dL_isRefused_369 : decode cL_isRefused 369 = .ok (.iconst 3, 1) := by decide +kernel
theorem dL_isRefused_370 : decode cL_isRefused 370 = .ok (.iload 8, 2) := by decide +kernel
theorem dL_isRefused_372 : decode cL_isRefused 372 = .ok (.iload_n 3, 1) := by decide +kernel
theorem dL_isRefused_373 : decode cL_isRefused 373 = .ok (.ifCond .eq 7, 3) := by decide +kernel
theorem dL_isRefused_376 : decode cL_isRefused 376 = .ok (.iconst 0, 1) := by decide +kernel
theorem dL_isRefused_377 : decode cL_isRefused 377 = .ok (.goto 5, 3) := by decide +kernel
theorem dL_isRefused_380 : decode cL_isRefused 380 = .ok (.ldc 128, 2) := by decide +kernel
theorem dL_isRefused_382 : decode cL_isRefused 382 = .ok (.invokestatic 99, 3) := by decide +kernel
theorem dL_isRefused_385 : decode cL_isRefused 385 = .ok (.sipush (-972), 3) := by decide +kernel
theorem dL_isRefused_388 : decode cL_isRefused 388 = .ok (.if_icmp .ne 54, 3) := by decide +kernel
theorem dL_isRefused_391 : decode cL_isRefused 391 = .ok (.aload_n 0, 1) := by decide +kernel
theorem dL_isRefused_392 : decode cL_isRefused 392 = .ok (.iload 8, 2) := by decide +kernel
theorem dL_isRefused_394 : decode cL_isRefused 394 = .ok (.iload_n 3, 1) := by decide +kernel
theorem dL_isRefused_395 : decode cL_isRefused 395 = .ok (.ifCond .eq 7, 3) := by decide +kernel
theorem dL_isRefused_398 : decode cL_isRefused 398 = .ok (.iconst (-1), 1) := by decide +kernel
theorem dL_isRefused_399 : decode cL_isRefused 399 = .ok (.goto 6, 3) := by decide +kernel
theorem dL_isRefused_402 : decode cL_isRefused 402 = .ok (.sipush 3001, 3) := by decide +kernel
theorem dL_isRefused_405 : decode cL_isRefused 405 = .ok (.iconst 5, 1) := by decide +kernel
theorem dL_isRefused_406 : decode cL_isRefused 406 = .ok (.invokestatic 122, 3) := by decide +kernel
theorem dL_isRefused_409 : decode cL_isRefused 409 = .ok (.sipush (-972), 3) := by decide +kernel
theorem dL_isRefused_412 : decode cL_isRefused 412 = .ok (.if_icmp .ne 30, 3) := by decide +kernel
theorem dL_isRefused_415 : decode cL_isRefused 415 = .ok (.aload_n 0, 1) := by decide +kernel
theorem dL_isRefused_416 : decode cL_isRefused 416 = .ok (.iload 8, 2) := by decide +kernel
theorem dL_isRefused_418 : decode cL_isRefused 418 = .ok (.iconst 5, 1) := by decide +kernel
theorem dL_isRefused_419 : decode cL_isRefused 419 = .ok (.iload_n 3, 1) := by decide +kernel
theorem dL_isRefused_420 : decode cL_isRefused 420 = .ok (.ifCond .eq 7, 3) := by decide +kernel
theorem dL_isRefused_423 : decode cL_isRefused 423 = .ok (.iconst (-1), 1) := by decide +kernel
theorem dL_isRefused_424 : decode cL_isRefused 424 = .ok (.goto 5, 3) := by decide +kernel
theorem dL_isRefused_427 : decode cL_isRefused 427 = .ok (.bipush 101, 2) := by decide +kernel
theorem dL_isRefused_429 : decode cL_isRefused 429 = .ok (.invokestatic 122, 3) := by decide +kernel
theorem dL_isRefused_432 : decode cL_isRefused 432 = .ok (.sipush (-972), 3) := by decide +kernel
theorem dL_isRefused_435 : decode cL_isRefused 435 = .ok (.if_icmp .ne 7, 3) := by decide +kernel
theorem dL_isRefused_438 : decode cL_isRefused 438 = .ok (.iconst 1, 1) := by decide +kernel
theorem dL_isRefused_439 : decode cL_isRefused 439 = .ok (.goto 4, 3) := by decide +kernel
theorem dL_isRefused_442 : decode cL_isRefused 442 = .ok (.iconst 0, 1) := by decide +kernel
theorem dL_isRefused_443 : decode cL_isRefused 443 = .ok (.istore 7, 2) := by decide +kernel
theorem dL_isRefused_445 : decode cL_isRefused 445 = .ok (.iinc 8 1, 3) := by decide +kernel
theorem dL_isRefused_448 : decode cL_isRefused 448 = .ok (.goto (-139), 3) := by decide +kernel
theorem dL_isRefused_451 : decode cL_isRefused 451 = .ok (.iload 7, 2) := by decide +kernel
theorem dL_isRefused_453 : decode cL_isRefused 453 = .ok (.ifCond .eq 18, 3) := by decide +kernel
theorem dL_isRefused_456 : decode cL_isRefused 456 = .ok (.aload_n 0, 1) := by decide +kernel
theorem dL_isRefused_457 : decode cL_isRefused 457 = .ok (.aload_n 1, 1) := by decide +kernel
theorem dL_isRefused_458 : decode cL_isRefused 458 = .ok (.invokestatic 117, 3) := by decide +kernel
theorem dL_isRefused_461 : decode cL_isRefused 461 = .ok (.lload 5, 2) := by decide +kernel
theorem dL_isRefused_463 : decode cL_isRefused 463 = .ok (.lcmp, 1) := by decide +kernel
theorem dL_isRefused_464 : decode cL_isRefused 464 = .ok (.ifCond .ne 7, 3) := by decide +kernel
theorem dL_isRefused_467 : decode cL_isRefused 467 = .ok (.iconst 1, 1) := by decide +kernel
theorem dL_isRefused_468 : decode cL_isRefused 468 = .ok (.goto 4, 3) := by decide +kernel
theorem dL_isRefused_471 : decode cL_isRefused 471 = .ok (.iconst 0, 1) := by decide +kernel
theorem dL_isRefused_472 : decode cL_isRefused 472 = .ok (.ireturn, 1) := by decide +kernel
theorem dL_isSampled_0 : decode cL_isSampled 0 = .ok (.aload_n 2, 1) := by decide +kernel
theorem dL_isSampled_1 : decode cL_isSampled 1 = .ok (.bipush 8, 2) := by decide +kernel
theorem dL_isSampled_3 : decode cL_isSampled 3 = .ok (.iload_n 3, 1) := by decide +kernel
theorem dL_isSampled_4 : decode cL_isSampled 4 = .ok (.imul, 1) := by decide +kernel
theorem dL_isSampled_5 : decode cL_isSampled 5 = .ok (.iconst 1, 1) := by decide +kernel
theorem dL_isSampled_6 : decode cL_isSampled 6 = .ok (.iadd, 1) := by decide +kernel
theorem dL_isSampled_7 : decode cL_isSampled 7 = .ok (.iaload, 1) := by decide +kernel
theorem dL_isSampled_8 : decode cL_isSampled 8 = .ok (.istore 5, 2) := by decide +kernel
theorem dL_isSampled_10 : decode cL_isSampled 10 = .ok (.iload 5, 2) := by decide +kernel
theorem dL_isSampled_12 : decode cL_isSampled 12 = .ok (.ifCond .le 23, 3) := by decide +kernel
theorem dL_isSampled_15 : decode cL_isSampled 15 = .ok (.aload_n 1, 1) := by decide +kernel
theorem dL_isSampled_16 : decode cL_isSampled 16 = .ok (.iload_n 3, 1) := by decide +kernel
theorem dL_isSampled_17 : decode cL_isSampled 17 = .ok (.iload 5, 2) := by decide +kernel
theorem dL_isSampled_19 : decode cL_isSampled 19 = .ok (.iconst 1, 1) := by decide +kernel
theorem dL_isSampled_20 : decode cL_isSampled 20 = .ok (.isub, 1) := by decide +kernel
theorem dL_isSampled_21 : decode cL_isSampled 21 = .ok (.invokestatic 93, 3) := by decide +kernel
theorem dL_isSampled_24 : decode cL_isSampled 24 = .ok (.aload_n 0, 1) := by decide +kernel
theorem dL_isSampled_25 : decode cL_isSampled 25 = .ok (.invokevirtual 71, 3) := by decide +kernel
theorem dL_isSampled_28 : decode cL_isSampled 28 = .ok (.if_icmp .ne 7, 3) := by decide +kernel
theorem dL_isSampled_31 : decode cL_isSampled 31 = .ok (.iconst 1, 1) := by decide +kernel
theorem dL_isSampled_32 : decode cL_isSampled 32 = .ok (.goto 4, 3) := by decide +kernel
theorem dL_isSampled_35 : decode cL_isSampled 35 = .ok (.iconst 0, 1) := by decide +kernel
theorem dL_isSampled_36 : decode cL_isSampled 36 = .ok (.istore 6, 2) := by decide +kernel
theorem dL_isSampled_38 : decode cL_isSampled 38 = .ok (.iload 6, 2) := by decide +kernel
theorem dL_isSampled_40 : decode cL_isSampled 40 = .ok (.ifCond .ne 47, 3) := by decide +kernel
theorem dL_isSampled_43 : decode cL_isSampled 43 = .ok (.iload 5, 2) := by decide +kernel
theorem dL_isSampled_45 : decode cL_isSampled 45 = .ok (.bipush 12, 2) := by decide +kernel
theorem dL_isSampled_47 : decode cL_isSampled 47 = .ok (.if_icmp .ne 40, 3) := by decide +kernel
theorem dL_isSampled_50 : decode cL_isSampled 50 = .ok (.iinc 5 (-1), 3) := by decide +kernel
theorem dL_isSampled_53 : decode cL_isSampled 53 = .ok (.bipush 12, 2) := by decide +kernel
theorem dL_isSampled_55 : decode cL_isSampled 55 = .ok (.iload_n 3, 1) := by decide +kernel
theorem dL_isSampled_56 : decode cL_isSampled 56 = .ok (.imul, 1) := by decide +kernel
theorem dL_isSampled_57 : decode cL_isSampled 57 = .ok (.istore 7, 2) := by decide +kernel
theorem dL_isSampled_59 : decode cL_isSampled 59 = .ok (.iload 7, 2) := by decide +kernel
theorem dL_isSampled_61 : decode cL_isSampled 61 = .ok (.bipush 12, 2) := by decide +kernel
theorem dL_isSampled_63 : decode cL_isSampled 63 = .ok (.iload_n 3, 1) := by decide +kernel
theorem dL_isSampled_64 : decode cL_isSampled 64 = .ok (.imul, 1) := by decide +kernel
theorem dL_isSampled_65 : decode cL_isSampled 65 = .ok (.bipush 11, 2) := by decide +kernel
theorem dL_isSampled_67 : decode cL_isSampled 67 = .ok (.iadd, 1) := by decide +kernel
theorem dL_isSampled_68 : decode cL_isSampled 68 = .ok (.if_icmp .ge 19, 3) := by decide +kernel
theorem dL_isSampled_71 : decode cL_isSampled 71 = .ok (.aload_n 1, 1) := by decide +kernel
theorem dL_isSampled_72 : decode cL_isSampled 72 = .ok (.iload 7, 2) := by decide +kernel
theorem dL_isSampled_74 : decode cL_isSampled 74 = .ok (.aload_n 1, 1) := by decide +kernel
theorem dL_isSampled_75 : decode cL_isSampled 75 = .ok (.iload 7, 2) := by decide +kernel
theorem dL_isSampled_77 : decode cL_isSampled 77 = .ok (.iconst 1, 1) := by decide +kernel
theorem dL_isSampled_78 : decode cL_isSampled 78 = .ok (.iadd, 1) := by decide +kernel
theorem dL_isSampled_79 : decode cL_isSampled 79 = .ok (.laload, 1) := by decide +kernel
theorem dL_isSampled_80 : decode cL_isSampled 80 = .ok (.lastore, 1) := by decide +kernel
theorem dL_isSampled_81 : decode cL_isSampled 81 = .ok (.iinc 7 1, 3) := by decide +kernel
theorem dL_isSampled_84 : decode cL_isSampled 84 = .ok (.goto (-25), 3) := by decide +kernel
theorem dL_isSampled_87 : decode cL_isSampled 87 = .ok (.iload 5, 2) := by decide +kernel
theorem dL_isSampled_89 : decode cL_isSampled 89 = .ok (.iload 6, 2) := by decide +kernel
theorem dL_isSampled_91 : decode cL_isSampled 91 = .ok (.ifCond .eq 7, 3) := by decide +kernel
theorem dL_isSampled_94 : decode cL_isSampled 94 = .ok (.iconst 0, 1) := by decide +kernel
theorem dL_isSampled_95 : decode cL_isSampled 95 = .ok (.goto 4, 3) := by decide +kernel
theorem dL_isSampled_98 : decode cL_isSampled 98 = .ok (.iconst 1, 1) := by decide +kernel
theorem dL_isSampled_99 : decode cL_isSampled 99 = .ok (.iadd, 1) := by decide +kernel
theorem dL_isSampled_100 : decode cL_isSampled 100 = .ok (.istore 5, 2) := by decide +kernel
theorem dL_isSampled_102 : decode cL_isSampled 102 = .ok (.aload_n 1, 1) := by decide +kernel
theorem dL_isSampled_103 : decode cL_isSampled 103 = .ok (.bipush 12, 2) := by decide +kernel
theorem dL_isSampled_105 : decode cL_isSampled 105 = .ok (.iload_n 3, 1) := by decide +kernel
theorem dL_isSampled_106 : decode cL_isSampled 106 = .ok (.imul, 1) := by decide +kernel
theorem dL_isSampled_107 : decode cL_isSampled 107 = .ok (.iload 5, 2) := by decide +kernel
theorem dL_isSampled_109 : decode cL_isSampled 109 = .ok (.iadd, 1) := by decide +kernel
theorem dL_isSampled_110 : decode cL_isSampled 110 = .ok (.iconst 1, 1) := by decide +kernel
theorem dL_isSampled_111 : decode cL_isSampled 111 = .ok (.isub, 1) := by decide +kernel
theorem dL_isSampled_112 : decode cL_isSampled 112 = .ok (.aload_n 0, 1) := by decide +kernel
theorem dL_isSampled_113 : decode cL_isSampled 113 = .ok (.invokevirtual 71, 3) := by decide +kernel
theorem dL_isSampled_116 : decode cL_isSampled 116 = .ok (.i2l, 1) := by decide +kernel
theorem dL_isSampled_117 : decode cL_isSampled 117 = .ok (.iload 4, 2) := by decide +kernel
theorem dL_isSampled_119 : decode cL_isSampled 119 = .ok (.i2l, 1) := by decide +kernel
theorem dL_isSampled_120 : decode cL_isSampled 120 = .ok (.bipush 11, 2) := by decide +kernel
theorem dL_isSampled_122 : decode cL_isSampled 122 = .ok (.lshl, 1) := by decide +kernel
theorem dL_isSampled_123 : decode cL_isSampled 123 = .ok (.lor, 1) := by decide +kernel
theorem dL_isSampled_124 : decode cL_isSampled 124 = .ok (.lastore, 1) := by decide +kernel
theorem dL_isSampled_125 : decode cL_isSampled 125 = .ok (.aload_n 2, 1) := by decide +kernel
theorem dL_isSampled_126 : decode cL_isSampled 126 = .ok (.bipush 8, 2) := by decide +kernel
theorem dL_isSampled_128 : decode cL_isSampled 128 = .ok (.iload_n 3, 1) := by decide +kernel
theorem dL_isSampled_129 : decode cL_isSampled 129 = .ok (.imul, 1) := by decide +kernel
theorem dL_isSampled_130 : decode cL_isSampled 130 = .ok (.iconst 1, 1) := by decide +kernel
theorem dL_isSampled_131 : decode cL_isSampled 131 = .ok (.iadd, 1) := by decide +kernel
theorem dL_isSampled_132 : decode cL_isSampled 132 = .ok (.iload 5, 2) := by decide +kernel
theorem dL_isSampled_134 : decode cL_isSampled 134 = .ok (.iastore, 1) := by decide +kernel
theorem dL_isSampled_135 : decode cL_isSampled 135 = .ok (.aload_n 0, 1) := by decide +kernel
theorem dL_isSampled_136 : decode cL_isSampled 136 = .ok (.iconst 2, 1) := by decide +kernel
theorem dL_isSampled_137 : decode cL_isSampled 137 = .ok (.iload_n 3, 1) := by decide +kernel
theorem dL_isSampled_138 : decode cL_isSampled 138 = .ok (.iload 4, 2) := by decide +kernel
theorem dL_isSampled_140 : decode cL_isSampled 140 = .ok (.invokestatic 99, 3) := by decide +kernel
theorem dL_isSampled_143 : decode cL_isSampled 143 = .ok (.iload 5, 2) := by decide +kernel
theorem dL_isSampled_145 : decode cL_isSampled 145 = .ok (.if_icmp .ne 17, 3) := by decide +kernel
theorem dL_isSampled_148 : decode cL_isSampled 148 = .ok (.aload_n 0, 1) := by decide +kernel
theorem dL_isSampled_149 : decode cL_isSampled 149 = .ok (.iload_n 3, 1) := by decide +kernel
theorem dL_isSampled_150 : decode cL_isSampled 150 = .ok (.invokevirtual 44, 3) := by decide +kernel
theorem dL_isSampled_153 : decode cL_isSampled 153 = .ok (.iload 5, 2) := by decide +kernel
theorem dL_isSampled_155 : decode cL_isSampled 155 = .ok (.if_icmp .ne 7, 3) := by decide +kernel
theorem dL_isSampled_158 : decode cL_isSampled 158 = .ok (.iconst 1, 1) := by decide +kernel
theorem dL_isSampled_159 : decode cL_isSampled 159 = .ok (.goto 4, 3) := by decide +kernel
theorem dL_isSampled_162 : decode cL_isSampled 162 = .ok (.iconst 0, 1) := by decide +kernel
theorem dL_isSampled_163 : decode cL_isSampled 163 = .ok (.ireturn, 1) := by decide +kernel
theorem dL_isPassed_0 : decode cL_isPassed 0 = .ok (.iconst 1, 1) := by decide +kernel
theorem dL_isPassed_1 : decode cL_isPassed 1 = .ok (.istore 4, 2) := by decide +kernel
theorem dL_isPassed_3 : decode cL_isPassed 3 = .ok (.iconst 0, 1) := by decide +kernel
theorem dL_isPassed_4 : decode cL_isPassed 4 = .ok (.istore 5, 2) := by decide +kernel
theorem dL_isPassed_6 : decode cL_isPassed 6 = .ok (.iload 5, 2) := by decide +kernel
theorem dL_isPassed_8 : decode cL_isPassed 8 = .ok (.iload_n 3, 1) := by decide +kernel
theorem dL_isPassed_9 : decode cL_isPassed 9 = .ok (.if_icmp .ge 276, 3) := by decide +kernel
theorem dL_isPassed_12 : decode cL_isPassed 12 = .ok (.iload 4, 2) := by decide +kernel
theorem dL_isPassed_14 : decode cL_isPassed 14 = .ok (.ifCond .eq 271, 3) := by decide +kernel
theorem dL_isPassed_17 : decode cL_isPassed 17 = .ok (.iconst 0, 1) := by decide +kernel
theorem dL_isPassed_18 : decode cL_isPassed 18 = .ok (.istore 6, 2) := by decide +kernel
theorem dL_isPassed_20 : decode cL_isPassed 20 = .ok (.iconst 0, 1) := by decide +kernel
theorem dL_isPassed_21 : decode cL_isPassed 21 = .ok (.istore 7, 2) := by decide +kernel
theorem dL_isPassed_23 : decode cL_isPassed 23 = .ok (.aload_n 0, 1) := by decide +kernel
theorem dL_isPassed_24 : decode cL_isPassed 24 = .ok (.invokevirtual 71, 3) := by decide +kernel
theorem dL_isPassed_27 : decode cL_isPassed 27 = .ok (.iconst 1, 1) := by decide +kernel
theorem dL_isPassed_28 : decode cL_isPassed 28 = .ok (.iadd, 1) := by decide +kernel
theorem dL_isPassed_29 : decode cL_isPassed 29 = .ok (.istore 8, 2) := by decide +kernel
theorem dL_isPassed_31 : decode cL_isPassed 31 = .ok (.iconst 0, 1) := by decide +kernel
theorem dL_isPassed_32 : decode cL_isPassed 32 = .ok (.istore 9, 2) := by decide +kernel
theorem dL_isPassed_34 : decode cL_isPassed 34 = .ok (.iload 9, 2) := by decide +kernel
theorem dL_isPassed_36 : decode cL_isPassed 36 = .ok (.aload_n 2, 1) := by decide +kernel
theorem dL_isPassed_37 : decode cL_isPassed 37 = .ok (.iconst 0, 1) := by decide +kernel
theorem dL_isPassed_38 : decode cL_isPassed 38 = .ok (.iaload, 1) := by decide +kernel
theorem dL_isPassed_39 : decode cL_isPassed 39 = .ok (.if_icmp .ge 158, 3) := by decide +kernel
theorem dL_isPassed_42 : decode cL_isPassed 42 = .ok (.aload_n 0, 1) := by decide +kernel
theorem dL_isPassed_43 : decode cL_isPassed 43 = .ok (.iload 9, 2) := by decide +kernel
theorem dL_isPassed_45 : decode cL_isPassed 45 = .ok (.invokevirtual 53, 3) := by decide +kernel
theorem dL_isPassed_48 : decode cL_isPassed 48 = .ok (.ifCond .ge 8, 3) := by decide +kernel
theorem dL_isPassed_51 : decode cL_isPassed 51 = .ok (.ldc 129, 2) := by decide +kernel
theorem dL_isPassed_53 : decode cL_isPassed 53 = .ok (.goto 9, 3) := by decide +kernel
theorem dL_isPassed_56 : decode cL_isPassed 56 = .ok (.aload_n 0, 1) := by decide +kernel
theorem dL_isPassed_57 : decode cL_isPassed 57 = .ok (.iload 9, 2) := by decide +kernel
theorem dL_isPassed_59 : decode cL_isPassed 59 = .ok (.invokevirtual 53, 3) := by decide +kernel
theorem dL_isPassed_62 : decode cL_isPassed 62 = .ok (.istore 10, 2) := by decide +kernel
theorem dL_isPassed_64 : decode cL_isPassed 64 = .ok (.iload 10, 2) := by decide +kernel
theorem dL_isPassed_66 : decode cL_isPassed 66 = .ok (.iload 8, 2) := by decide +kernel
theorem dL_isPassed_68 : decode cL_isPassed 68 = .ok (.bipush 14, 2) := by decide +kernel
theorem dL_isPassed_70 : decode cL_isPassed 70 = .ok (.iadd, 1) := by decide +kernel
theorem dL_isPassed_71 : decode cL_isPassed 71 = .ok (.if_icmp .gt 7, 3) := by decide +kernel
theorem dL_isPassed_74 : decode cL_isPassed 74 = .ok (.iconst 1, 1) := by decide +kernel
theorem dL_isPassed_75 : decode cL_isPassed 75 = .ok (.goto 4, 3) := by decide +kernel
theorem dL_isPassed_78 : decode cL_isPassed 78 = .ok (.iconst 0, 1) := by decide +kernel
theorem dL_isPassed_79 : decode cL_isPassed 79 = .ok (.istore 11, 2) := by decide +kernel
theorem dL_isPassed_81 : decode cL_isPassed 81 = .ok (.aload_n 0, 1) := by decide +kernel
theorem dL_isPassed_82 : decode cL_isPassed 82 = .ok (.iload 9, 2) := by decide +kernel
theorem dL_isPassed_84 : decode cL_isPassed 84 = .ok (.invokevirtual 59, 3) := by decide +kernel
theorem dL_isPassed_87 : decode cL_isPassed 87 = .ok (.istore 12, 2) := by decide +kernel
theorem dL_isPassed_89 : decode cL_isPassed 89 = .ok (.iload 12, 2) := by decide +kernel
theorem dL_isPassed_91 : decode cL_isPassed 91 = .ok (.ifCond .eq 21, 3) := by decide +kernel
theorem dL_isPassed_94 : decode cL_isPassed 94 = .ok (.iload 10, 2) := by decide +kernel
theorem dL_isPassed_96 : decode cL_isPassed 96 = .ok (.iload 8, 2) := by decide +kernel
theorem dL_isPassed_98 : decode cL_isPassed 98 = .ok (.bipush 21, 2) := by decide +kernel
theorem dL_isPassed_100 : decode cL_isPassed 100 = .ok (.iadd, 1) := by decide +kernel
theorem dL_isPassed_101 : decode cL_isPassed 101 = .ok (.if_icmp .gt 7, 3) := by decide +kernel
theorem dL_isPassed_104 : decode cL_isPassed 104 = .ok (.iconst 1, 1) := by decide +kernel
theorem dL_isPassed_105 : decode cL_isPassed 105 = .ok (.goto 30, 3) := by decide +kernel
theorem dL_isPassed_108 : decode cL_isPassed 108 = .ok (.iconst 0, 1) := by decide +kernel
theorem dL_isPassed_109 : decode cL_isPassed 109 = .ok (.goto 26, 3) := by decide +kernel
theorem dL_isPassed_112 : decode cL_isPassed 112 = .ok (.iload 11, 2) := by decide +kernel
theorem dL_isPassed_114 : decode cL_isPassed 114 = .ok (.ifCond .eq 20, 3) := by decide +kernel
theorem dL_isPassed_117 : decode cL_isPassed 117 = .ok (.aload_n 1, 1) := by decide +kernel
theorem dL_isPassed_118 : decode cL_isPassed 118 = .ok (.bipush 8, 2) := by decide +kernel
theorem dL_isPassed_120 : decode cL_isPassed 120 = .ok (.iload 9, 2) := by decide +kernel
theorem dL_isPassed_122 : decode cL_isPassed 122 = .ok (.imul, 1) := by decide +kernel
theorem dL_isPassed_123 : decode cL_isPassed 123 = .ok (.iconst 5, 1) := by decide +kernel
theorem dL_isPassed_124 : decode cL_isPassed 124 = .ok (.iadd, 1) := by decide +kernel
theorem dL_isPassed_125 : decode cL_isPassed 125 = .ok (.iaload, 1) := by decide +kernel
theorem dL_isPassed_126 : decode cL_isPassed 126 = .ok (.iconst 1, 1) := by decide +kernel
theorem dL_isPassed_127 : decode cL_isPassed 127 = .ok (.if_icmp .ne 7, 3) := by decide +kernel
theorem dL_isPassed_130 : decode cL_isPassed 130 = .ok (.iconst 1, 1) := by decide +kernel
theorem dL_isPassed_131 : decode cL_isPassed 131 = .ok (.goto 4, 3) := by decide +kernel
theorem dL_isPassed_134 : decode cL_isPassed 134 = .ok (.iconst 0, 1) := by decide +kernel
theorem dL_isPassed_135 : decode cL_isPassed 135 = .ok (.istore 13, 2) := by decide +kernel
theorem dL_isPassed_137 : decode cL_isPassed 137 = .ok (.iload 6, 2) := by decide +kernel
theorem dL_isPassed_139 : decode cL_isPassed 139 = .ok (.iload 13, 2) := by decide +kernel
theorem dL_isPassed_141 : decode cL_isPassed 141 = .ok (.iload 12, 2) := by decide +kernel
theorem dL_isPassed_143 : decode cL_isPassed 143 = .ok (.if_icmp .ne 7, 3) := by decide +kernel
theorem dL_isPassed_146 : decode cL_isPassed 146 = .ok (.iconst 0, 1) := by decide +kernel
theorem dL_isPassed_147 : decode cL_isPassed 147 = .ok (.goto 4, 3) := by decide +kernel
theorem dL_isPassed_150 : decode cL_isPassed 150 = .ok (.iconst 1, 1) := by decide +kernel
theorem dL_isPassed_151 : decode cL_isPassed 151 = .ok (.iadd, 1) := by decide +kernel
theorem dL_isPassed_152 : decode cL_isPassed 152 = .ok (.istore 6, 2) := by decide +kernel
theorem dL_isPassed_154 : decode cL_isPassed 154 = .ok (.iload 7, 2) := by decide +kernel
theorem dL_isPassed_156 : decode cL_isPassed 156 = .ok (.iload 13, 2) := by decide +kernel
theorem dL_isPassed_158 : decode cL_isPassed 158 = .ok (.ifCond .eq 10, 3) := by decide +kernel
theorem dL_isPassed_161 : decode cL_isPassed 161 = .ok (.iconst 1, 1) := by decide +kernel
theorem dL_isPassed_162 : decode cL_isPassed 162 = .ok (.iload 9, 2) := by decide +kernel
theorem dL_isPassed_164 : decode cL_isPassed 164 = .ok (.ishl, 1) := by decide +kernel
theorem dL_isPassed_165 : decode cL_isPassed 165 = .ok (.goto 4, 3) := by decide +kernel
theorem dL_isPassed_168 : decode cL_isPassed 168 = .ok (.iconst 0, 1) := by decide +kernel
theorem dL_isPassed_169 : decode cL_isPassed 169 = .ok (.ior, 1) := by decide +kernel
theorem dL_isPassed_170 : decode cL_isPassed 170 = .ok (.istore 7, 2) := by decide +kernel
theorem dL_isPassed_172 : decode cL_isPassed 172 = .ok (.aload_n 1, 1) := by decide +kernel
theorem dL_isPassed_173 : decode cL_isPassed 173 = .ok (.bipush 8, 2) := by decide +kernel
theorem dL_isPassed_175 : decode cL_isPassed 175 = .ok (.iload 9, 2) := by decide +kernel
theorem dL_isPassed_177 : decode cL_isPassed 177 = .ok (.imul, 1) := by decide +kernel
theorem dL_isPassed_178 : decode cL_isPassed 178 = .ok (.iconst 5, 1) := by decide +kernel
theorem dL_isPassed_179 : decode cL_isPassed 179 = .ok (.iadd, 1) := by decide +kernel
theorem dL_isPassed_180 : decode cL_isPassed 180 = .ok (.iload 11, 2) := by decide +kernel
theorem dL_isPassed_182 : decode cL_isPassed 182 = .ok (.ifCond .eq 7, 3) := by decide +kernel
theorem dL_isPassed_185 : decode cL_isPassed 185 = .ok (.iconst 1, 1) := by decide +kernel
theorem dL_isPassed_186 : decode cL_isPassed 186 = .ok (.goto 4, 3) := by decide +kernel
theorem dL_isPassed_189 : decode cL_isPassed 189 = .ok (.iconst 0, 1) := by decide +kernel
theorem dL_isPassed_190 : decode cL_isPassed 190 = .ok (.iastore, 1) := by decide +kernel
theorem dL_isPassed_191 : decode cL_isPassed 191 = .ok (.iinc 9 1, 3) := by decide +kernel
theorem dL_isPassed_194 : decode cL_isPassed 194 = .ok (.goto (-160), 3) := by decide +kernel
theorem dL_isPassed_197 : decode cL_isPassed 197 = .ok (.aload_n 0, 1) := by decide +kernel
theorem dL_isPassed_198 : decode cL_isPassed 198 = .ok (.iconst 4, 1) := by decide +kernel
theorem dL_isPassed_199 : decode cL_isPassed 199 = .ok (.iconst 1, 1) := by decide +kernel
theorem dL_isPassed_200 : decode cL_isPassed 200 = .ok (.iconst 0, 1) := by decide +kernel
theorem dL_isPassed_201 : decode cL_isPassed 201 = .ok (.invokestatic 99, 3) := by decide +kernel
theorem dL_isPassed_204 : decode cL_isPassed 204 = .ok (.iload 6, 2) := by decide +kernel
theorem dL_isPassed_206 : decode cL_isPassed 206 = .ok (.if_icmp .ne 16, 3) := by decide +kernel
theorem dL_isPassed_209 : decode cL_isPassed 209 = .ok (.aload_n 0, 1) := by decide +kernel
theorem dL_isPassed_210 : decode cL_isPassed 210 = .ok (.invokevirtual 71, 3) := by decide +kernel
theorem dL_isPassed_213 : decode cL_isPassed 213 = .ok (.iload 8, 2) := by decide +kernel
theorem dL_isPassed_215 : decode cL_isPassed 215 = .ok (.if_icmp .ne 7, 3) := by decide +kernel
theorem dL_isPassed_218 : decode cL_isPassed 218 = .ok (.iconst 1, 1) := by decide +kernel
theorem dL_isPassed_219 : decode cL_isPassed 219 = .ok (.goto 4, 3) := by decide +kernel
theorem dL_isPassed_222 : decode cL_isPassed 222 = .ok (.iconst 0, 1) := by decide +kernel
theorem dL_isPassed_223 : decode cL_isPassed 223 = .ok (.istore 4, 2) := by decide +kernel
theorem dL_isPassed_225 : decode cL_isPassed 225 = .ok (.iconst 0, 1) := by decide +kernel
theorem dL_isPassed_226 : decode cL_isPassed 226 = .ok (.istore 9, 2) := by decide +kernel
theorem dL_isPassed_228 : decode cL_isPassed 228 = .ok (.iload 9, 2) := by decide +kernel
theorem dL_isPassed_230 : decode cL_isPassed 230 = .ok (.aload_n 2, 1) := by decide +kernel
theorem dL_isPassed_231 : decode cL_isPassed 231 = .ok (.iconst 0, 1) := by decide +kernel
theorem dL_isPassed_232 : decode cL_isPassed 232 = .ok (.iaload, 1) := by decide +kernel
theorem dL_isPassed_233 : decode cL_isPassed 233 = .ok (.if_icmp .ge 46, 3) := by decide +kernel
theorem dL_isPassed_236 : decode cL_isPassed 236 = .ok (.iload 4, 2) := by decide +kernel
theorem dL_isPassed_238 : decode cL_isPassed 238 = .ok (.ifCond .eq 41, 3) := by decide +kernel
theorem dL_isPassed_241 : decode cL_isPassed 241 = .ok (.aload_n 0, 1) := by decide +kernel
theorem dL_isPassed_242 : decode cL_isPassed 242 = .ok (.iload 9, 2) := by decide +kernel
theorem dL_isPassed_244 : decode cL_isPassed 244 = .ok (.invokevirtual 59, 3) := by decide +kernel
theorem dL_isPassed_247 : decode cL_isPassed 247 = .ok (.iload 7, 2) := by decide +kernel
theorem dL_isPassed_249 : decode cL_isPassed 249 = .ok (.iload 9, 2) := by decide +kernel
theorem dL_isPassed_251 : decode cL_isPassed 251 = .ok (.ishr, 1) := by decide +kernel
theorem dL_isPassed_252 : decode cL_isPassed 252 = .ok (.iconst 1, 1) := by decide +kernel
theorem dL_isPassed_253 : decode cL_isPassed 253 = .ok (.iand, 1) := by decide +kernel
theorem dL_isPassed_254 : decode cL_isPassed 254 = .ok (.iconst 1, 1) := by decide +kernel
theorem dL_isPassed_255 : decode cL_isPassed 255 = .ok (.if_icmp .ne 7, 3) := by decide +kernel
theorem dL_isPassed_258 : decode cL_isPassed 258 = .ok (.iconst 1, 1) := by decide +kernel
theorem dL_isPassed_259 : decode cL_isPassed 259 = .ok (.goto 4, 3) := by decide +kernel
theorem dL_isPassed_262 : decode cL_isPassed 262 = .ok (.iconst 0, 1) := by decide +kernel
theorem dL_isPassed_263 : decode cL_isPassed 263 = .ok (.if_icmp .ne 7, 3) := by decide +kernel
theorem dL_isPassed_266 : decode cL_isPassed 266 = .ok (.iconst 1, 1) := by decide +kernel
theorem dL_isPassed_267 : decode cL_isPassed 267 = .ok (.goto 4, 3) := by decide +kernel
theorem dL_isPassed_270 : decode cL_isPassed 270 = .ok (.iconst 0, 1) := by decide +kernel
theorem dL_isPassed_271 : decode cL_isPassed 271 = .ok (.istore 4, 2) := by decide +kernel
theorem dL_isPassed_273 : decode cL_isPassed 273 = .ok (.iinc 9 1, 3) := by decide +kernel
theorem dL_isPassed_276 : decode cL_isPassed 276 = .ok (.goto (-48), 3) := by decide +kernel
theorem dL_isPassed_279 : decode cL_isPassed 279 = .ok (.iinc 5 1, 3) := by decide +kernel
theorem dL_isPassed_282 : decode cL_isPassed 282 = .ok (.goto (-276), 3) := by decide +kernel
theorem dL_isPassed_285 : decode cL_isPassed 285 = .ok (.iload 4, 2) := by decide +kernel
theorem dL_isPassed_287 : decode cL_isPassed 287 = .ok (.ireturn, 1) := by decide +kernel
theorem dL_law_0 : decode cL_law 0 = .ok (.new 10, 3) := by decide +kernel
theorem dL_law_3 : decode cL_law 3 = .ok (.dup, 1) := by decide +kernel
theorem dL_law_4 : decode cL_law 4 = .ok (.invokespecial 130, 3) := by decide +kernel
theorem dL_law_7 : decode cL_law 7 = .ok (.astore_n 1, 1) := by decide +kernel
theorem dL_law_8 : decode cL_law 8 = .ok (.bipush 36, 2) := by decide +kernel
theorem dL_law_10 : decode cL_law 10 = .ok (.newarray .long, 2) := by decide +kernel
theorem dL_law_12 : decode cL_law 12 = .ok (.astore_n 2, 1) := by decide +kernel
theorem dL_law_13 : decode cL_law 13 = .ok (.bipush 60, 2) := by decide +kernel
theorem dL_law_15 : decode cL_law 15 = .ok (.newarray .long, 2) := by decide +kernel
theorem dL_law_17 : decode cL_law 17 = .ok (.astore_n 3, 1) := by decide +kernel
theorem dL_law_18 : decode cL_law 18 = .ok (.bipush 24, 2) := by decide +kernel
theorem dL_law_20 : decode cL_law 20 = .ok (.newarray .int, 2) := by decide +kernel
theorem dL_law_22 : decode cL_law 22 = .ok (.astore 4, 2) := by decide +kernel
theorem dL_law_24 : decode cL_law 24 = .ok (.iconst 1, 1) := by decide +kernel
theorem dL_law_25 : decode cL_law 25 = .ok (.newarray .int, 2) := by decide +kernel
theorem dL_law_27 : decode cL_law 27 = .ok (.astore 5, 2) := by decide +kernel
theorem dL_law_29 : decode cL_law 29 = .ok (.aload_n 1, 1) := by decide +kernel
theorem dL_law_30 : decode cL_law 30 = .ok (.aload 5, 2) := by decide +kernel
theorem dL_law_32 : decode cL_law 32 = .ok (.iconst 0, 1) := by decide +kernel
theorem dL_law_33 : decode cL_law 33 = .ok (.invokestatic 131, 3) := by decide +kernel
theorem dL_law_36 : decode cL_law 36 = .ok (.ifCond .eq 17, 3) := by decide +kernel
theorem dL_law_39 : decode cL_law 39 = .ok (.aload_n 1, 1) := by decide +kernel
theorem dL_law_40 : decode cL_law 40 = .ok (.aload 5, 2) := by decide +kernel
theorem dL_law_42 : decode cL_law 42 = .ok (.iconst 1, 1) := by decide +kernel
theorem dL_law_43 : decode cL_law 43 = .ok (.invokestatic 131, 3) := by decide +kernel
theorem dL_law_46 : decode cL_law 46 = .ok (.ifCond .eq 7, 3) := by decide +kernel
theorem dL_law_49 : decode cL_law 49 = .ok (.iconst 1, 1) := by decide +kernel
theorem dL_law_50 : decode cL_law 50 = .ok (.goto 4, 3) := by decide +kernel
theorem dL_law_53 : decode cL_law 53 = .ok (.iconst 0, 1) := by decide +kernel
theorem dL_law_54 : decode cL_law 54 = .ok (.istore 6, 2) := by decide +kernel
theorem dL_law_56 : decode cL_law 56 = .ok (.iconst 0, 1) := by decide +kernel
theorem dL_law_57 : decode cL_law 57 = .ok (.istore 7, 2) := by decide +kernel
theorem dL_law_59 : decode cL_law 59 = .ok (.iload 7, 2) := by decide +kernel
theorem dL_law_61 : decode cL_law 61 = .ok (.bipush 45, 2) := by decide +kernel
theorem dL_law_63 : decode cL_law 63 = .ok (.if_icmp .ge 735, 3) := by decide +kernel
theorem dL_law_66 : decode cL_law 66 = .ok (.iload 6, 2) := by decide +kernel
theorem dL_law_68 : decode cL_law 68 = .ok (.ifCond .eq 730, 3) := by decide +kernel
theorem dL_law_71 : decode cL_law 71 = .ok (.aload_n 0, 1) := by decide +kernel
theorem dL_law_72 : decode cL_law 72 = .ok (.iload 7, 2) := by decide +kernel
theorem dL_law_74 : decode cL_law 74 = .ok (.invokestatic 135, 3) := by decide +kernel
theorem dL_law_77 : decode cL_law 77 = .ok (.istore 8, 2) := by decide +kernel
theorem dL_law_79 : decode cL_law 79 = .ok (.iload 8, 2) := by decide +kernel
theorem dL_law_81 : decode cL_law 81 = .ok (.bipush 32, 2) := by decide +kernel
theorem dL_law_83 : decode cL_law 83 = .ok (.idiv, 1) := by decide +kernel
theorem dL_law_84 : decode cL_law 84 = .ok (.istore 9, 2) := by decide +kernel
theorem dL_law_86 : decode cL_law 86 = .ok (.iload 8, 2) := by decide +kernel
theorem dL_law_88 : decode cL_law 88 = .ok (.bipush 32, 2) := by decide +kernel
theorem dL_law_90 : decode cL_law 90 = .ok (.irem, 1) := by decide +kernel
theorem dL_law_91 : decode cL_law 91 = .ok (.istore 10, 2) := by decide +kernel
theorem dL_law_93 : decode cL_law 93 = .ok (.aload 5, 2) := by decide +kernel
theorem dL_law_95 : decode cL_law 95 = .ok (.iconst 0, 1) := by decide +kernel
theorem dL_law_96 : decode cL_law 96 = .ok (.iaload, 1) := by decide +kernel
theorem dL_law_97 : decode cL_law 97 = .ok (.ifCond .ne 7, 3) := by decide +kernel
theorem dL_law_100 : decode cL_law 100 = .ok (.iconst 0, 1) := by decide +kernel
theorem dL_law_101 : decode cL_law 101 = .ok (.goto 10, 3) := by decide +kernel
theorem dL_law_104 : decode cL_law 104 = .ok (.iload 9, 2) := by decide +kernel
theorem dL_law_106 : decode cL_law 106 = .ok (.aload 5, 2) := by decide +kernel
theorem dL_law_108 : decode cL_law 108 = .ok (.iconst 0, 1) := by decide +kernel
theorem dL_law_109 : decode cL_law 109 = .ok (.iaload, 1) := by decide +kernel
theorem dL_law_110 : decode cL_law 110 = .ok (.irem, 1) := by decide +kernel
theorem dL_law_111 : decode cL_law 111 = .ok (.istore 11, 2) := by decide +kernel
theorem dL_law_113 : decode cL_law 113 = .ok (.aload 5, 2) := by decide +kernel
theorem dL_law_115 : decode cL_law 115 = .ok (.iconst 0, 1) := by decide +kernel
theorem dL_law_116 : decode cL_law 116 = .ok (.iaload, 1) := by decide +kernel
theorem dL_law_117 : decode cL_law 117 = .ok (.ifCond .eq 16, 3) := by decide +kernel
theorem dL_law_120 : decode cL_law 120 = .ok (.iload 10, 2) := by decide +kernel
theorem dL_law_122 : decode cL_law 122 = .ok (.ifCond .ne 117, 3) := by decide +kernel
theorem dL_law_125 : decode cL_law 125 = .ok (.aload 5, 2) := by decide +kernel
theorem dL_law_127 : decode cL_law 127 = .ok (.iconst 0, 1) := by decide +kernel
theorem dL_law_128 : decode cL_law 128 = .ok (.iaload, 1) := by decide +kernel
theorem dL_law_129 : decode cL_law 129 = .ok (.iconst 3, 1) := by decide +kernel
theorem dL_law_130 : decode cL_law 130 = .ok (.if_icmp .ge 109, 3) := by decide +kernel
theorem dL_law_133 : decode cL_law 133 = .ok (.iload 9, 2) := by decide +kernel
theorem dL_law_135 : decode cL_law 135 = .ok (.iconst 3, 1) := by decide +kernel
theorem dL_law_136 : decode cL_law 136 = .ok (.irem, 1) := by decide +kernel
theorem dL_law_137 : decode cL_law 137 = .ok (.ifCond .ne 15, 3) := by decide +kernel
theorem dL_law_140 : decode cL_law 140 = .ok (.iconst 1, 1) := by decide +kernel
theorem dL_law_141 : decode cL_law 141 = .ok (.iload 9, 2) := by decide +kernel
theorem dL_law_143 : decode cL_law 143 = .ok (.iconst 3, 1) := by decide +kernel
theorem dL_law_144 : decode cL_law 144 = .ok (.idiv, 1) := by decide +kernel
theorem dL_law_145 : decode cL_law 145 = .ok (.ldc 129, 2) := by decide +kernel
theorem dL_law_147 : decode cL_law 147 = .ok (.irem, 1) := by decide +kernel
theorem dL_law_148 : decode cL_law 148 = .ok (.iadd, 1) := by decide +kernel
theorem dL_law_149 : decode cL_law 149 = .ok (.goto 15, 3) := by decide +kernel
theorem dL_law_152 : decode cL_law 152 = .ok (.sipush 500, 3) := by decide +kernel
theorem dL_law_155 : decode cL_law 155 = .ok (.iload 9, 2) := by decide +kernel
theorem dL_law_157 : decode cL_law 157 = .ok (.iconst 3, 1) := by decide +kernel
theorem dL_law_158 : decode cL_law 158 = .ok (.idiv, 1) := by decide +kernel
theorem dL_law_159 : decode cL_law 159 = .ok (.sipush 3000, 3) := by decide +kernel
theorem dL_law_162 : decode cL_law 162 = .ok (.irem, 1) := by decide +kernel
theorem dL_law_163 : decode cL_law 163 = .ok (.iadd, 1) := by decide +kernel
theorem dL_law_164 : decode cL_law 164 = .ok (.istore 12, 2) := by decide +kernel
theorem dL_law_166 : decode cL_law 166 = .ok (.aload 4, 2) := by decide +kernel
theorem dL_law_168 : decode cL_law 168 = .ok (.bipush 8, 2) := by decide +kernel
theorem dL_law_170 : decode cL_law 170 = .ok (.aload 5, 2) := by decide +kernel
theorem dL_law_172 : decode cL_law 172 = .ok (.iconst 0, 1) := by decide +kernel
theorem dL_law_173 : decode cL_law 173 = .ok (.iaload, 1) := by decide +kernel
theorem dL_law_174 : decode cL_law 174 = .ok (.imul, 1) := by decide +kernel
theorem dL_law_175 : decode cL_law 175 = .ok (.iload 12, 2) := by decide +kernel
theorem dL_law_177 : decode cL_law 177 = .ok (.iastore, 1) := by decide +kernel
theorem dL_law_178 : decode cL_law 178 = .ok (.aload 5, 2) := by decide +kernel
theorem dL_law_180 : decode cL_law 180 = .ok (.iconst 0, 1) := by decide +kernel
theorem dL_law_181 : decode cL_law 181 = .ok (.dup2, 1) := by decide +kernel
theorem dL_law_182 : decode cL_law 182 = .ok (.iaload, 1) := by decide +kernel
theorem dL_law_183 : decode cL_law 183 = .ok (.iconst 1, 1) := by decide +kernel
theorem dL_law_184 : decode cL_law 184 = .ok (.iadd, 1) := by decide +kernel
theorem dL_law_185 : decode cL_law 185 = .ok (.iastore, 1) := by decide +kernel
theorem dL_law_186 : decode cL_law 186 = .ok (.aload_n 1, 1) := by decide +kernel
theorem dL_law_187 : decode cL_law 187 = .ok (.iconst 0, 1) := by decide +kernel
theorem dL_law_188 : decode cL_law 188 = .ok (.iload 12, 2) := by decide +kernel
theorem dL_law_190 : decode cL_law 190 = .ok (.iconst 0, 1) := by decide +kernel
theorem dL_law_191 : decode cL_law 191 = .ok (.invokestatic 99, 3) := by decide +kernel
theorem dL_law_194 : decode cL_law 194 = .ok (.aload 5, 2) := by decide +kernel
theorem dL_law_196 : decode cL_law 196 = .ok (.iconst 0, 1) := by decide +kernel
theorem dL_law_197 : decode cL_law 197 = .ok (.iaload, 1) := by decide +kernel
theorem dL_law_198 : decode cL_law 198 = .ok (.iconst 1, 1) := by decide +kernel
theorem dL_law_199 : decode cL_law 199 = .ok (.isub, 1) := by decide +kernel
theorem dL_law_200 : decode cL_law 200 = .ok (.if_icmp .ne 33, 3) := by decide +kernel
theorem dL_law_203 : decode cL_law 203 = .ok (.aload_n 1, 1) := by decide +kernel
theorem dL_law_204 : decode cL_law 204 = .ok (.aload 5, 2) := by decide +kernel
theorem dL_law_206 : decode cL_law 206 = .ok (.iconst 0, 1) := by decide +kernel
theorem dL_law_207 : decode cL_law 207 = .ok (.iaload, 1) := by decide +kernel
theorem dL_law_208 : decode cL_law 208 = .ok (.iconst 1, 1) := by decide +kernel
theorem dL_law_209 : decode cL_law 209 = .ok (.isub, 1) := by decide +kernel
theorem dL_law_210 : decode cL_law 210 = .ok (.invokevirtual 59, 3) := by decide +kernel
theorem dL_law_213 : decode cL_law 213 = .ok (.ifCond .ne 20, 3) := by decide +kernel
theorem dL_law_216 : decode cL_law 216 = .ok (.aload_n 1, 1) := by decide +kernel
theorem dL_law_217 : decode cL_law 217 = .ok (.aload 5, 2) := by decide +kernel
theorem dL_law_219 : decode cL_law 219 = .ok (.iconst 0, 1) := by decide +kernel
theorem dL_law_220 : decode cL_law 220 = .ok (.iaload, 1) := by decide +kernel
theorem dL_law_221 : decode cL_law 221 = .ok (.iconst 1, 1) := by decide +kernel
theorem dL_law_222 : decode cL_law 222 = .ok (.isub, 1) := by decide +kernel
theorem dL_law_223 : decode cL_law 223 = .ok (.invokevirtual 44, 3) := by decide +kernel
theorem dL_law_226 : decode cL_law 226 = .ok (.ifCond .ne 7, 3) := by decide +kernel
theorem dL_law_229 : decode cL_law 229 = .ok (.iconst 1, 1) := by decide +kernel
theorem dL_law_230 : decode cL_law 230 = .ok (.goto 4, 3) := by decide +kernel
theorem dL_law_233 : decode cL_law 233 = .ok (.iconst 0, 1) := by decide +kernel
theorem dL_law_234 : decode cL_law 234 = .ok (.istore 6, 2) := by decide +kernel
theorem dL_law_236 : decode cL_law 236 = .ok (.goto 437, 3) := by decide +kernel
theorem dL_law_239 : decode cL_law 239 = .ok (.iload 10, 2) := by decide +kernel
theorem dL_law_241 : decode cL_law 241 = .ok (.iconst 1, 1) := by decide +kernel
theorem dL_law_242 : decode cL_law 242 = .ok (.if_icmp .ne 84, 3) := by decide +kernel
theorem dL_law_245 : decode cL_law 245 = .ok (.aload 4, 2) := by decide +kernel
theorem dL_law_247 : decode cL_law 247 = .ok (.bipush 8, 2) := by decide +kernel
theorem dL_law_249 : decode cL_law 249 = .ok (.iload 11, 2) := by decide +kernel
theorem dL_law_251 : decode cL_law 251 = .ok (.imul, 1) := by decide +kernel
theorem dL_law_252 : decode cL_law 252 = .ok (.iaload, 1) := by decide +kernel
theorem dL_law_253 : decode cL_law 253 = .ok (.istore 12, 2) := by decide +kernel
theorem dL_law_255 : decode cL_law 255 = .ok (.aload 4, 2) := by decide +kernel
theorem dL_law_257 : decode cL_law 257 = .ok (.bipush 8, 2) := by decide +kernel
theorem dL_law_259 : decode cL_law 259 = .ok (.iload 11, 2) := by decide +kernel
theorem dL_law_261 : decode cL_law 261 = .ok (.imul, 1) := by decide +kernel
theorem dL_law_262 : decode cL_law 262 = .ok (.iload 9, 2) := by decide +kernel
theorem dL_law_264 : decode cL_law 264 = .ok (.iconst 3, 1) := by decide +kernel
theorem dL_law_265 : decode cL_law 265 = .ok (.irem, 1) := by decide +kernel
theorem dL_law_266 : decode cL_law 266 = .ok (.ifCond .ne 16, 3) := by decide +kernel
theorem dL_law_269 : decode cL_law 269 = .ok (.iconst 1, 1) := by decide +kernel
theorem dL_law_270 : decode cL_law 270 = .ok (.iload 9, 2) := by decide +kernel
theorem dL_law_272 : decode cL_law 272 = .ok (.bipush 9, 2) := by decide +kernel
theorem dL_law_274 : decode cL_law 274 = .ok (.idiv, 1) := by decide +kernel
theorem dL_law_275 : decode cL_law 275 = .ok (.ldc 129, 2) := by decide +kernel
theorem dL_law_277 : decode cL_law 277 = .ok (.irem, 1) := by decide +kernel
theorem dL_law_278 : decode cL_law 278 = .ok (.iadd, 1) := by decide +kernel
theorem dL_law_279 : decode cL_law 279 = .ok (.goto 16, 3) := by decide +kernel
theorem dL_law_282 : decode cL_law 282 = .ok (.sipush 500, 3) := by decide +kernel
theorem dL_law_285 : decode cL_law 285 = .ok (.iload 9, 2) := by decide +kernel
theorem dL_law_287 : decode cL_law 287 = .ok (.bipush 9, 2) := by decide +kernel
theorem dL_law_289 : decode cL_law 289 = .ok (.idiv, 1) := by decide +kernel
theorem dL_law_290 : decode cL_law 290 = .ok (.sipush 3000, 3) := by decide +kernel
theorem dL_law_293 : decode cL_law 293 = .ok (.irem, 1) := by decide +kernel
theorem dL_law_294 : decode cL_law 294 = .ok (.iadd, 1) := by decide +kernel
theorem dL_law_295 : decode cL_law 295 = .ok (.iastore, 1) := by decide +kernel
theorem dL_law_296 : decode cL_law 296 = .ok (.aload_n 1, 1) := by decide +kernel
theorem dL_law_297 : decode cL_law 297 = .ok (.iconst 1, 1) := by decide +kernel
theorem dL_law_298 : decode cL_law 298 = .ok (.iload 11, 2) := by decide +kernel
theorem dL_law_300 : decode cL_law 300 = .ok (.aload 4, 2) := by decide +kernel
theorem dL_law_302 : decode cL_law 302 = .ok (.bipush 8, 2) := by decide +kernel
theorem dL_law_304 : decode cL_law 304 = .ok (.iload 11, 2) := by decide +kernel
theorem dL_law_306 : decode cL_law 306 = .ok (.imul, 1) := by decide +kernel
theorem dL_law_307 : decode cL_law 307 = .ok (.iaload, 1) := by decide +kernel
theorem dL_law_308 : decode cL_law 308 = .ok (.invokestatic 99, 3) := by decide +kernel
theorem dL_law_311 : decode cL_law 311 = .ok (.iload 12, 2) := by decide +kernel
theorem dL_law_313 : decode cL_law 313 = .ok (.if_icmp .ne 7, 3) := by decide +kernel
theorem dL_law_316 : decode cL_law 316 = .ok (.iconst 1, 1) := by decide +kernel
theorem dL_law_317 : decode cL_law 317 = .ok (.goto 4, 3) := by decide +kernel
theorem dL_law_320 : decode cL_law 320 = .ok (.iconst 0, 1) := by decide +kernel
theorem dL_law_321 : decode cL_law 321 = .ok (.istore 6, 2) := by decide +kernel
theorem dL_law_323 : decode cL_law 323 = .ok (.goto 350, 3) := by decide +kernel
theorem dL_law_326 : decode cL_law 326 = .ok (.iload 10, 2) := by decide +kernel
theorem dL_law_328 : decode cL_law 328 = .ok (.bipush 14, 2) := by decide +kernel
theorem dL_law_330 : decode cL_law 330 = .ok (.if_icmp .ge 82, 3) := by decide +kernel
theorem dL_law_333 : decode cL_law 333 = .ok (.aload_n 1, 1) := by decide +kernel
theorem dL_law_334 : decode cL_law 334 = .ok (.aload_n 2, 1) := by decide +kernel
theorem dL_law_335 : decode cL_law 335 = .ok (.aload 4, 2) := by decide +kernel
theorem dL_law_337 : decode cL_law 337 = .ok (.iload 11, 2) := by decide +kernel
theorem dL_law_339 : decode cL_law 339 = .ok (.iload 9, 2) := by decide +kernel
theorem dL_law_341 : decode cL_law 341 = .ok (.bipush 9, 2) := by decide +kernel
theorem dL_law_343 : decode cL_law 343 = .ok (.irem, 1) := by decide +kernel
theorem dL_law_344 : decode cL_law 344 = .ok (.ifCond .ne 14, 3) := by decide +kernel
theorem dL_law_347 : decode cL_law 347 = .ok (.iload 9, 2) := by decide +kernel
theorem dL_law_349 : decode cL_law 349 = .ok (.bipush 9, 2) := by decide +kernel
theorem dL_law_351 : decode cL_law 351 = .ok (.idiv, 1) := by decide +kernel
theorem dL_law_352 : decode cL_law 352 = .ok (.ldc 121, 2) := by decide +kernel
theorem dL_law_354 : decode cL_law 354 = .ok (.irem, 1) := by decide +kernel
theorem dL_law_355 : decode cL_law 355 = .ok (.goto 49, 3) := by decide +kernel
theorem dL_law_358 : decode cL_law 358 = .ok (.iload 9, 2) := by decide +kernel
theorem dL_law_360 : decode cL_law 360 = .ok (.bipush 9, 2) := by decide +kernel
theorem dL_law_362 : decode cL_law 362 = .ok (.irem, 1) := by decide +kernel
theorem dL_law_363 : decode cL_law 363 = .ok (.bipush 6, 2) := by decide +kernel
theorem dL_law_365 : decode cL_law 365 = .ok (.if_icmp .ge 30, 3) := by decide +kernel
theorem dL_law_368 : decode cL_law 368 = .ok (.sipush 200, 3) := by decide +kernel
theorem dL_law_371 : decode cL_law 371 = .ok (.bipush 20, 2) := by decide +kernel
theorem dL_law_373 : decode cL_law 373 = .ok (.aload_n 1, 1) := by decide +kernel
theorem dL_law_374 : decode cL_law 374 = .ok (.invokevirtual 71, 3) := by decide +kernel
theorem dL_law_377 : decode cL_law 377 = .ok (.imul, 1) := by decide +kernel
theorem dL_law_378 : decode cL_law 378 = .ok (.sipush 3000, 3) := by decide +kernel
theorem dL_law_381 : decode cL_law 381 = .ok (.irem, 1) := by decide +kernel
theorem dL_law_382 : decode cL_law 382 = .ok (.iadd, 1) := by decide +kernel
theorem dL_law_383 : decode cL_law 383 = .ok (.iload 9, 2) := by decide +kernel
theorem dL_law_385 : decode cL_law 385 = .ok (.bipush 99, 2) := by decide +kernel
theorem dL_law_387 : decode cL_law 387 = .ok (.idiv, 1) := by decide +kernel
theorem dL_law_388 : decode cL_law 388 = .ok (.bipush 60, 2) := by decide +kernel
theorem dL_law_390 : decode cL_law 390 = .ok (.irem, 1) := by decide +kernel
theorem dL_law_391 : decode cL_law 391 = .ok (.iadd, 1) := by decide +kernel
theorem dL_law_392 : decode cL_law 392 = .ok (.goto 12, 3) := by decide +kernel
theorem dL_law_395 : decode cL_law 395 = .ok (.iload 9, 2) := by decide +kernel
theorem dL_law_397 : decode cL_law 397 = .ok (.bipush 9, 2) := by decide +kernel
theorem dL_law_399 : decode cL_law 399 = .ok (.idiv, 1) := by decide +kernel
theorem dL_law_400 : decode cL_law 400 = .ok (.sipush 3000, 3) := by decide +kernel
theorem dL_law_403 : decode cL_law 403 = .ok (.irem, 1) := by decide +kernel
theorem dL_law_404 : decode cL_law 404 = .ok (.invokestatic 139, 3) := by decide +kernel
theorem dL_law_407 : decode cL_law 407 = .ok (.istore 6, 2) := by decide +kernel
theorem dL_law_409 : decode cL_law 409 = .ok (.goto 264, 3) := by decide +kernel
theorem dL_law_412 : decode cL_law 412 = .ok (.iload 10, 2) := by decide +kernel
theorem dL_law_414 : decode cL_law 414 = .ok (.bipush 17, 2) := by decide +kernel
theorem dL_law_416 : decode cL_law 416 = .ok (.if_icmp .ge 125, 3) := by decide +kernel
theorem dL_law_419 : decode cL_law 419 = .ok (.iload 9, 2) := by decide +kernel
theorem dL_law_421 : decode cL_law 421 = .ok (.iconst 4, 1) := by decide +kernel
theorem dL_law_422 : decode cL_law 422 = .ok (.irem, 1) := by decide +kernel
theorem dL_law_423 : decode cL_law 423 = .ok (.ifCond .ne 15, 3) := by decide +kernel
theorem dL_law_426 : decode cL_law 426 = .ok (.iconst 1, 1) := by decide +kernel
theorem dL_law_427 : decode cL_law 427 = .ok (.iload 9, 2) := by decide +kernel
theorem dL_law_429 : decode cL_law 429 = .ok (.iconst 4, 1) := by decide +kernel
theorem dL_law_430 : decode cL_law 430 = .ok (.idiv, 1) := by decide +kernel
theorem dL_law_431 : decode cL_law 431 = .ok (.ldc 143, 2) := by decide +kernel
theorem dL_law_433 : decode cL_law 433 = .ok (.irem, 1) := by decide +kernel
theorem dL_law_434 : decode cL_law 434 = .ok (.iadd, 1) := by decide +kernel
theorem dL_law_435 : decode cL_law 435 = .ok (.goto 13, 3) := by decide +kernel
theorem dL_law_438 : decode cL_law 438 = .ok (.iconst 1, 1) := by decide +kernel
theorem dL_law_439 : decode cL_law 439 = .ok (.iload 9, 2) := by decide +kernel
theorem dL_law_441 : decode cL_law 441 = .ok (.iconst 4, 1) := by decide +kernel
theorem dL_law_442 : decode cL_law 442 = .ok (.idiv, 1) := by decide +kernel
theorem dL_law_443 : decode cL_law 443 = .ok (.sipush 300, 3) := by decide +kernel
theorem dL_law_446 : decode cL_law 446 = .ok (.irem, 1) := by decide +kernel
theorem dL_law_447 : decode cL_law 447 = .ok (.iadd, 1) := by decide +kernel
theorem dL_law_448 : decode cL_law 448 = .ok (.istore 12, 2) := by decide +kernel
theorem dL_law_450 : decode cL_law 450 = .ok (.aload 4, 2) := by decide +kernel
theorem dL_law_452 : decode cL_law 452 = .ok (.bipush 8, 2) := by decide +kernel
theorem dL_law_454 : decode cL_law 454 = .ok (.iload 11, 2) := by decide +kernel
theorem dL_law_456 : decode cL_law 456 = .ok (.imul, 1) := by decide +kernel
theorem dL_law_457 : decode cL_law 457 = .ok (.iconst 2, 1) := by decide +kernel
theorem dL_law_458 : decode cL_law 458 = .ok (.iadd, 1) := by decide +kernel
theorem dL_law_459 : decode cL_law 459 = .ok (.iaload, 1) := by decide +kernel
theorem dL_law_460 : decode cL_law 460 = .ok (.bipush 20, 2) := by decide +kernel
theorem dL_law_462 : decode cL_law 462 = .ok (.if_icmp .ge 76, 3) := by decide +kernel
theorem dL_law_465 : decode cL_law 465 = .ok (.aload_n 3, 1) := by decide +kernel
theorem dL_law_466 : decode cL_law 466 = .ok (.bipush 20, 2) := by decide +kernel
theorem dL_law_468 : decode cL_law 468 = .ok (.iload 11, 2) := by decide +kernel
theorem dL_law_470 : decode cL_law 470 = .ok (.imul, 1) := by decide +kernel
theorem dL_law_471 : decode cL_law 471 = .ok (.aload 4, 2) := by decide +kernel
theorem dL_law_473 : decode cL_law 473 = .ok (.bipush 8, 2) := by decide +kernel
theorem dL_law_475 : decode cL_law 475 = .ok (.iload 11, 2) := by decide +kernel
theorem dL_law_477 : decode cL_law 477 = .ok (.imul, 1) := by decide +kernel
theorem dL_law_478 : decode cL_law 478 = .ok (.iconst 2, 1) := by decide +kernel
theorem dL_law_479 : decode cL_law 479 = .ok (.iadd, 1) := by decide +kernel
theorem dL_law_480 : decode cL_law 480 = .ok (.iaload, 1) := by decide +kernel
theorem dL_law_481 : decode cL_law 481 = .ok (.iadd, 1) := by decide +kernel
theorem dL_law_482 : decode cL_law 482 = .ok (.aload_n 1, 1) := by decide +kernel
theorem dL_law_483 : decode cL_law 483 = .ok (.invokevirtual 71, 3) := by decide +kernel
theorem dL_law_486 : decode cL_law 486 = .ok (.i2l, 1) := by decide +kernel
theorem dL_law_487 : decode cL_law 487 = .ok (.iload 12, 2) := by decide +kernel
theorem dL_law_489 : decode cL_law 489 = .ok (.i2l, 1) := by decide +kernel
theorem dL_law_490 : decode cL_law 490 = .ok (.bipush 11, 2) := by decide +kernel
theorem dL_law_492 : decode cL_law 492 = .ok (.lshl, 1) := by decide +kernel
theorem dL_law_493 : decode cL_law 493 = .ok (.lor, 1) := by decide +kernel
theorem dL_law_494 : decode cL_law 494 = .ok (.lastore, 1) := by decide +kernel
theorem dL_law_495 : decode cL_law 495 = .ok (.aload 4, 2) := by decide +kernel
theorem dL_law_497 : decode cL_law 497 = .ok (.bipush 8, 2) := by decide +kernel
theorem dL_law_499 : decode cL_law 499 = .ok (.iload 11, 2) := by decide +kernel
theorem dL_law_501 : decode cL_law 501 = .ok (.imul, 1) := by decide +kernel
theorem dL_law_502 : decode cL_law 502 = .ok (.iconst 2, 1) := by decide +kernel
theorem dL_law_503 : decode cL_law 503 = .ok (.iadd, 1) := by decide +kernel
theorem dL_law_504 : decode cL_law 504 = .ok (.dup2, 1) := by decide +kernel
theorem dL_law_505 : decode cL_law 505 = .ok (.iaload, 1) := by decide +kernel
theorem dL_law_506 : decode cL_law 506 = .ok (.iconst 1, 1) := by decide +kernel
theorem dL_law_507 : decode cL_law 507 = .ok (.iadd, 1) := by decide +kernel
theorem dL_law_508 : decode cL_law 508 = .ok (.iastore, 1) := by decide +kernel
theorem dL_law_509 : decode cL_law 509 = .ok (.aload_n 1, 1) := by decide +kernel
theorem dL_law_510 : decode cL_law 510 = .ok (.iconst 3, 1) := by decide +kernel
theorem dL_law_511 : decode cL_law 511 = .ok (.iload 11, 2) := by decide +kernel
theorem dL_law_513 : decode cL_law 513 = .ok (.iload 12, 2) := by decide +kernel
theorem dL_law_515 : decode cL_law 515 = .ok (.invokestatic 99, 3) := by decide +kernel
theorem dL_law_518 : decode cL_law 518 = .ok (.aload 4, 2) := by decide +kernel
theorem dL_law_520 : decode cL_law 520 = .ok (.bipush 8, 2) := by decide +kernel
theorem dL_law_522 : decode cL_law 522 = .ok (.iload 11, 2) := by decide +kernel
theorem dL_law_524 : decode cL_law 524 = .ok (.imul, 1) := by decide +kernel
theorem dL_law_525 : decode cL_law 525 = .ok (.iconst 2, 1) := by decide +kernel
theorem dL_law_526 : decode cL_law 526 = .ok (.iadd, 1) := by decide +kernel
theorem dL_law_527 : decode cL_law 527 = .ok (.iaload, 1) := by decide +kernel
theorem dL_law_528 : decode cL_law 528 = .ok (.if_icmp .ne 7, 3) := by decide +kernel
theorem dL_law_531 : decode cL_law 531 = .ok (.iconst 1, 1) := by decide +kernel
theorem dL_law_532 : decode cL_law 532 = .ok (.goto 4, 3) := by decide +kernel
theorem dL_law_535 : decode cL_law 535 = .ok (.iconst 0, 1) := by decide +kernel
theorem dL_law_536 : decode cL_law 536 = .ok (.istore 6, 2) := by decide +kernel
theorem dL_law_538 : decode cL_law 538 = .ok (.goto 135, 3) := by decide +kernel
theorem dL_law_541 : decode cL_law 541 = .ok (.iload 10, 2) := by decide +kernel
theorem dL_law_543 : decode cL_law 543 = .ok (.bipush 17, 2) := by decide +kernel
theorem dL_law_545 : decode cL_law 545 = .ok (.if_icmp .ne 100, 3) := by decide +kernel
theorem dL_law_548 : decode cL_law 548 = .ok (.aload 4, 2) := by decide +kernel
theorem dL_law_550 : decode cL_law 550 = .ok (.bipush 8, 2) := by decide +kernel
theorem dL_law_552 : decode cL_law 552 = .ok (.iload 11, 2) := by decide +kernel
theorem dL_law_554 : decode cL_law 554 = .ok (.imul, 1) := by decide +kernel
theorem dL_law_555 : decode cL_law 555 = .ok (.iconst 3, 1) := by decide +kernel
theorem dL_law_556 : decode cL_law 556 = .ok (.iadd, 1) := by decide +kernel
theorem dL_law_557 : decode cL_law 557 = .ok (.iload 9, 2) := by decide +kernel
theorem dL_law_559 : decode cL_law 559 = .ok (.iload 9, 2) := by decide +kernel
theorem dL_law_561 : decode cL_law 561 = .ok (.iconst 3, 1) := by decide +kernel
theorem dL_law_562 : decode cL_law 562 = .ok (.irem, 1) := by decide +kernel
theorem dL_law_563 : decode cL_law 563 = .ok (.ifCond .ne 9, 3) := by decide +kernel
theorem dL_law_566 : decode cL_law 566 = .ok (.sipush 3001, 3) := by decide +kernel
theorem dL_law_569 : decode cL_law 569 = .ok (.goto 5, 3) := by decide +kernel
theorem dL_law_572 : decode cL_law 572 = .ok (.bipush 60, 2) := by decide +kernel
theorem dL_law_574 : decode cL_law 574 = .ok (.irem, 1) := by decide +kernel
theorem dL_law_575 : decode cL_law 575 = .ok (.iastore, 1) := by decide +kernel
theorem dL_law_576 : decode cL_law 576 = .ok (.aload 4, 2) := by decide +kernel
theorem dL_law_578 : decode cL_law 578 = .ok (.bipush 8, 2) := by decide +kernel
theorem dL_law_580 : decode cL_law 580 = .ok (.iload 11, 2) := by decide +kernel
theorem dL_law_582 : decode cL_law 582 = .ok (.imul, 1) := by decide +kernel
theorem dL_law_583 : decode cL_law 583 = .ok (.iconst 4, 1) := by decide +kernel
theorem dL_law_584 : decode cL_law 584 = .ok (.iadd, 1) := by decide +kernel
theorem dL_law_585 : decode cL_law 585 = .ok (.iload 9, 2) := by decide +kernel
theorem dL_law_587 : decode cL_law 587 = .ok (.bipush 7, 2) := by decide +kernel
theorem dL_law_589 : decode cL_law 589 = .ok (.idiv, 1) := by decide +kernel
theorem dL_law_590 : decode cL_law 590 = .ok (.iload 9, 2) := by decide +kernel
theorem dL_law_592 : decode cL_law 592 = .ok (.iconst 4, 1) := by decide +kernel
theorem dL_law_593 : decode cL_law 593 = .ok (.irem, 1) := by decide +kernel
theorem dL_law_594 : decode cL_law 594 = .ok (.ifCond .ne 8, 3) := by decide +kernel
theorem dL_law_597 : decode cL_law 597 = .ok (.bipush 101, 2) := by decide +kernel
theorem dL_law_599 : decode cL_law 599 = .ok (.goto 5, 3) := by decide +kernel
theorem dL_law_602 : decode cL_law 602 = .ok (.bipush 20, 2) := by decide +kernel
theorem dL_law_604 : decode cL_law 604 = .ok (.irem, 1) := by decide +kernel
theorem dL_law_605 : decode cL_law 605 = .ok (.iastore, 1) := by decide +kernel
theorem dL_law_606 : decode cL_law 606 = .ok (.aload_n 1, 1) := by decide +kernel
theorem dL_law_607 : decode cL_law 607 = .ok (.iload 11, 2) := by decide +kernel
theorem dL_law_609 : decode cL_law 609 = .ok (.aload 4, 2) := by decide +kernel
theorem dL_law_611 : decode cL_law 611 = .ok (.bipush 8, 2) := by decide +kernel
theorem dL_law_613 : decode cL_law 613 = .ok (.iload 11, 2) := by decide +kernel
theorem dL_law_615 : decode cL_law 615 = .ok (.imul, 1) := by decide +kernel
theorem dL_law_616 : decode cL_law 616 = .ok (.iconst 3, 1) := by decide +kernel
theorem dL_law_617 : decode cL_law 617 = .ok (.iadd, 1) := by decide +kernel
theorem dL_law_618 : decode cL_law 618 = .ok (.iaload, 1) := by decide +kernel
theorem dL_law_619 : decode cL_law 619 = .ok (.aload 4, 2) := by decide +kernel
theorem dL_law_621 : decode cL_law 621 = .ok (.bipush 8, 2) := by decide +kernel
theorem dL_law_623 : decode cL_law 623 = .ok (.iload 11, 2) := by decide +kernel
theorem dL_law_625 : decode cL_law 625 = .ok (.imul, 1) := by decide +kernel
theorem dL_law_626 : decode cL_law 626 = .ok (.iconst 4, 1) := by decide +kernel
theorem dL_law_627 : decode cL_law 627 = .ok (.iadd, 1) := by decide +kernel
theorem dL_law_628 : decode cL_law 628 = .ok (.iaload, 1) := by decide +kernel
theorem dL_law_629 : decode cL_law 629 = .ok (.invokestatic 122, 3) := by decide +kernel
theorem dL_law_632 : decode cL_law 632 = .ok (.ifCond .ne 7, 3) := by decide +kernel
theorem dL_law_635 : decode cL_law 635 = .ok (.iconst 1, 1) := by decide +kernel
theorem dL_law_636 : decode cL_law 636 = .ok (.goto 4, 3) := by decide +kernel
theorem dL_law_639 : decode cL_law 639 = .ok (.iconst 0, 1) := by decide +kernel
theorem dL_law_640 : decode cL_law 640 = .ok (.istore 6, 2) := by decide +kernel
theorem dL_law_642 : decode cL_law 642 = .ok (.goto 31, 3) := by decide +kernel
theorem dL_law_645 : decode cL_law 645 = .ok (.aload_n 1, 1) := by decide +kernel
theorem dL_law_646 : decode cL_law 646 = .ok (.aload 4, 2) := by decide +kernel
theorem dL_law_648 : decode cL_law 648 = .ok (.aload 5, 2) := by decide +kernel
theorem dL_law_650 : decode cL_law 650 = .ok (.iload 10, 2) := by decide +kernel
theorem dL_law_652 : decode cL_law 652 = .ok (.bipush 29, 2) := by decide +kernel
theorem dL_law_654 : decode cL_law 654 = .ok (.if_icmp .le 13, 3) := by decide +kernel
theorem dL_law_657 : decode cL_law 657 = .ok (.iconst 1, 1) := by decide +kernel
theorem dL_law_658 : decode cL_law 658 = .ok (.iload 9, 2) := by decide +kernel
theorem dL_law_660 : decode cL_law 660 = .ok (.bipush 8, 2) := by decide +kernel
theorem dL_law_662 : decode cL_law 662 = .ok (.irem, 1) := by decide +kernel
theorem dL_law_663 : decode cL_law 663 = .ok (.iadd, 1) := by decide +kernel
theorem dL_law_664 : decode cL_law 664 = .ok (.goto 4, 3) := by decide +kernel
theorem dL_law_667 : decode cL_law 667 = .ok (.iconst 1, 1) := by decide +kernel
theorem dL_law_668 : decode cL_law 668 = .ok (.invokestatic 144, 3) := by decide +kernel
theorem dL_law_671 : decode cL_law 671 = .ok (.istore 6, 2) := by decide +kernel
theorem dL_law_673 : decode cL_law 673 = .ok (.iload 9, 2) := by decide +kernel
theorem dL_law_675 : decode cL_law 675 = .ok (.aload 5, 2) := by decide +kernel
theorem dL_law_677 : decode cL_law 677 = .ok (.iconst 0, 1) := by decide +kernel
theorem dL_law_678 : decode cL_law 678 = .ok (.iaload, 1) := by decide +kernel
theorem dL_law_679 : decode cL_law 679 = .ok (.irem, 1) := by decide +kernel
theorem dL_law_680 : decode cL_law 680 = .ok (.istore 12, 2) := by decide +kernel
theorem dL_law_682 : decode cL_law 682 = .ok (.iload 6, 2) := by decide +kernel
theorem dL_law_684 : decode cL_law 684 = .ok (.ifCond .eq 105, 3) := by decide +kernel
theorem dL_law_687 : decode cL_law 687 = .ok (.aload_n 1, 1) := by decide +kernel
theorem dL_law_688 : decode cL_law 688 = .ok (.aload_n 2, 1) := by decide +kernel
theorem dL_law_689 : decode cL_law 689 = .ok (.aload_n 3, 1) := by decide +kernel
theorem dL_law_690 : decode cL_law 690 = .ok (.aload 4, 2) := by decide +kernel
theorem dL_law_692 : decode cL_law 692 = .ok (.iload 12, 2) := by decide +kernel
theorem dL_law_694 : decode cL_law 694 = .ok (.invokestatic 148, 3) := by decide +kernel
theorem dL_law_697 : decode cL_law 697 = .ok (.ifCond .eq 92, 3) := by decide +kernel
theorem dL_law_700 : decode cL_law 700 = .ok (.aload_n 1, 1) := by decide +kernel
theorem dL_law_701 : decode cL_law 701 = .ok (.aload_n 3, 1) := by decide +kernel
theorem dL_law_702 : decode cL_law 702 = .ok (.aload 4, 2) := by decide +kernel
theorem dL_law_704 : decode cL_law 704 = .ok (.iload 12, 2) := by decide +kernel
theorem dL_law_706 : decode cL_law 706 = .ok (.invokestatic 152, 3) := by decide +kernel
theorem dL_law_709 : decode cL_law 709 = .ok (.ifCond .eq 80, 3) := by decide +kernel
theorem dL_law_712 : decode cL_law 712 = .ok (.aload_n 1, 1) := by decide +kernel
theorem dL_law_713 : decode cL_law 713 = .ok (.aload_n 2, 1) := by decide +kernel
theorem dL_law_714 : decode cL_law 714 = .ok (.aload 4, 2) := by decide +kernel
theorem dL_law_716 : decode cL_law 716 = .ok (.iload 12, 2) := by decide +kernel
theorem dL_law_718 : decode cL_law 718 = .ok (.iload 9, 2) := by decide +kernel
theorem dL_law_720 : decode cL_law 720 = .ok (.iconst 5, 1) := by decide +kernel
theorem dL_law_721 : decode cL_law 721 = .ok (.idiv, 1) := by decide +kernel
theorem dL_law_722 : decode cL_law 722 = .ok (.invokestatic 156, 3) := by decide +kernel
theorem dL_law_725 : decode cL_law 725 = .ok (.ifCond .eq 64, 3) := by decide +kernel
theorem dL_law_728 : decode cL_law 728 = .ok (.iload 7, 2) := by decide +kernel
theorem dL_law_730 : decode cL_law 730 = .ok (.bipush 9, 2) := by decide +kernel
theorem dL_law_732 : decode cL_law 732 = .ok (.irem, 1) := by decide +kernel
theorem dL_law_733 : decode cL_law 733 = .ok (.ifCond .gt 31, 3) := by decide +kernel
theorem dL_law_736 : decode cL_law 736 = .ok (.aload_n 1, 1) := by decide +kernel
theorem dL_law_737 : decode cL_law 737 = .ok (.aload 4, 2) := by decide +kernel
theorem dL_law_739 : decode cL_law 739 = .ok (.aload 5, 2) := by decide +kernel
theorem dL_law_741 : decode cL_law 741 = .ok (.aload_n 2, 1) := by decide +kernel
theorem dL_law_742 : decode cL_law 742 = .ok (.iconst 1, 1) := by decide +kernel
theorem dL_law_743 : decode cL_law 743 = .ok (.iload 9, 2) := by decide +kernel
theorem dL_law_745 : decode cL_law 745 = .ok (.bipush 11, 2) := by decide +kernel
theorem dL_law_747 : decode cL_law 747 = .ok (.idiv, 1) := by decide +kernel
theorem dL_law_748 : decode cL_law 748 = .ok (.iconst 1, 1) := by decide +kernel
theorem dL_law_749 : decode cL_law 749 = .ok (.aload 5, 2) := by decide +kernel
theorem dL_law_751 : decode cL_law 751 = .ok (.iconst 0, 1) := by decide +kernel
theorem dL_law_752 : decode cL_law 752 = .ok (.iaload, 1) := by decide +kernel
theorem dL_law_753 : decode cL_law 753 = .ok (.ishl, 1) := by decide +kernel
theorem dL_law_754 : decode cL_law 754 = .ok (.iconst 1, 1) := by decide +kernel
theorem dL_law_755 : decode cL_law 755 = .ok (.isub, 1) := by decide +kernel
theorem dL_law_756 : decode cL_law 756 = .ok (.irem, 1) := by decide +kernel
theorem dL_law_757 : decode cL_law 757 = .ok (.iadd, 1) := by decide +kernel
theorem dL_law_758 : decode cL_law 758 = .ok (.invokestatic 159, 3) := by decide +kernel
theorem dL_law_761 : decode cL_law 761 = .ok (.ifCond .eq 28, 3) := by decide +kernel
theorem dL_law_764 : decode cL_law 764 = .ok (.iload 7, 2) := by decide +kernel
theorem dL_law_766 : decode cL_law 766 = .ok (.bipush 15, 2) := by decide +kernel
theorem dL_law_768 : decode cL_law 768 = .ok (.irem, 1) := by decide +kernel
theorem dL_law_769 : decode cL_law 769 = .ok (.ifCond .gt 16, 3) := by decide +kernel
theorem dL_law_772 : decode cL_law 772 = .ok (.aload_n 1, 1) := by decide +kernel
theorem dL_law_773 : decode cL_law 773 = .ok (.aload 5, 2) := by decide +kernel
theorem dL_law_775 : decode cL_law 775 = .ok (.iload 8, 2) := by decide +kernel
theorem dL_law_777 : decode cL_law 777 = .ok (.iconst 3, 1) := by decide +kernel
theorem dL_law_778 : decode cL_law 778 = .ok (.idiv, 1) := by decide +kernel
theorem dL_law_779 : decode cL_law 779 = .ok (.invokestatic 131, 3) := by decide +kernel
theorem dL_law_782 : decode cL_law 782 = .ok (.ifCond .eq 7, 3) := by decide +kernel
theorem dL_law_785 : decode cL_law 785 = .ok (.iconst 1, 1) := by decide +kernel
theorem dL_law_786 : decode cL_law 786 = .ok (.goto 4, 3) := by decide +kernel
theorem dL_law_789 : decode cL_law 789 = .ok (.iconst 0, 1) := by decide +kernel
theorem dL_law_790 : decode cL_law 790 = .ok (.istore 6, 2) := by decide +kernel
theorem dL_law_792 : decode cL_law 792 = .ok (.iinc 7 1, 3) := by decide +kernel
theorem dL_law_795 : decode cL_law 795 = .ok (.goto (-736), 3) := by decide +kernel
theorem dL_law_798 : decode cL_law 798 = .ok (.iload 6, 2) := by decide +kernel
theorem dL_law_800 : decode cL_law 800 = .ok (.ireturn, 1) := by decide +kernel
