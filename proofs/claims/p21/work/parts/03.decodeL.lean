theorem dL_below_0 : decode cL_below 0 = .ok (.iload_n 0, 1) := by decide +kernel
theorem dL_below_1 : decode cL_below 1 = .ok (.ldc 7, 2) := by decide +kernel
theorem dL_below_3 : decode cL_below 3 = .ok (.iand, 1) := by decide +kernel
theorem dL_below_4 : decode cL_below 4 = .ok (.iload_n 1, 1) := by decide +kernel
theorem dL_below_5 : decode cL_below 5 = .ok (.irem, 1) := by decide +kernel
theorem dL_below_6 : decode cL_below 6 = .ok (.ireturn, 1) := by decide +kernel
theorem dL_cell_0 : decode cL_cell 0 = .ok (.iload_n 1, 1) := by decide +kernel
theorem dL_cell_1 : decode cL_cell 1 = .ok (.aload_n 0, 1) := by decide +kernel
theorem dL_cell_2 : decode cL_cell 2 = .ok (.arraylength, 1) := by decide +kernel
theorem dL_cell_3 : decode cL_cell 3 = .ok (.if_icmp .ge 9, 3) := by decide +kernel
theorem dL_cell_6 : decode cL_cell 6 = .ok (.aload_n 0, 1) := by decide +kernel
theorem dL_cell_7 : decode cL_cell 7 = .ok (.iload_n 1, 1) := by decide +kernel
theorem dL_cell_8 : decode cL_cell 8 = .ok (.iaload, 1) := by decide +kernel
theorem dL_cell_9 : decode cL_cell 9 = .ok (.goto 9, 3) := by decide +kernel
theorem dL_cell_12 : decode cL_cell 12 = .ok (.ldc 8, 2) := by decide +kernel
theorem dL_cell_14 : decode cL_cell 14 = .ok (.iload_n 1, 1) := by decide +kernel
theorem dL_cell_15 : decode cL_cell 15 = .ok (.iconst 3, 1) := by decide +kernel
theorem dL_cell_16 : decode cL_cell 16 = .ok (.iadd, 1) := by decide +kernel
theorem dL_cell_17 : decode cL_cell 17 = .ok (.imul, 1) := by decide +kernel
theorem dL_cell_18 : decode cL_cell 18 = .ok (.ireturn, 1) := by decide +kernel
theorem dL_act_0 : decode cL_act 0 = .ok (.aload_n 1, 1) := by decide +kernel
theorem dL_act_1 : decode cL_act 1 = .ok (.getfield 9, 3) := by decide +kernel
theorem dL_act_4 : decode cL_act 4 = .ok (.arraylength, 1) := by decide +kernel
theorem dL_act_5 : decode cL_act 5 = .ok (.istore_n 3, 1) := by decide +kernel
theorem dL_act_6 : decode cL_act 6 = .ok (.iload_n 3, 1) := by decide +kernel
theorem dL_act_7 : decode cL_act 7 = .ok (.ifCond .ne 7, 3) := by decide +kernel
theorem dL_act_10 : decode cL_act 10 = .ok (.iconst (-1), 1) := by decide +kernel
theorem dL_act_11 : decode cL_act 11 = .ok (.goto 8, 3) := by decide +kernel
theorem dL_act_14 : decode cL_act 14 = .ok (.iload_n 2, 1) := by decide +kernel
theorem dL_act_15 : decode cL_act 15 = .ok (.iload_n 3, 1) := by decide +kernel
theorem dL_act_16 : decode cL_act 16 = .ok (.invokestatic 15, 3) := by decide +kernel
theorem dL_act_19 : decode cL_act 19 = .ok (.istore 4, 2) := by decide +kernel
theorem dL_act_21 : decode cL_act 21 = .ok (.iload_n 3, 1) := by decide +kernel
theorem dL_act_22 : decode cL_act 22 = .ok (.iconst 2, 1) := by decide +kernel
theorem dL_act_23 : decode cL_act 23 = .ok (.if_icmp .ge 7, 3) := by decide +kernel
theorem dL_act_26 : decode cL_act 26 = .ok (.iconst (-1), 1) := by decide +kernel
theorem dL_act_27 : decode cL_act 27 = .ok (.goto 19, 3) := by decide +kernel
theorem dL_act_30 : decode cL_act 30 = .ok (.iload 4, 2) := by decide +kernel
theorem dL_act_32 : decode cL_act 32 = .ok (.iconst 1, 1) := by decide +kernel
theorem dL_act_33 : decode cL_act 33 = .ok (.iadd, 1) := by decide +kernel
theorem dL_act_34 : decode cL_act 34 = .ok (.iload_n 2, 1) := by decide +kernel
theorem dL_act_35 : decode cL_act 35 = .ok (.iconst 3, 1) := by decide +kernel
theorem dL_act_36 : decode cL_act 36 = .ok (.ishr, 1) := by decide +kernel
theorem dL_act_37 : decode cL_act 37 = .ok (.iload_n 3, 1) := by decide +kernel
theorem dL_act_38 : decode cL_act 38 = .ok (.iconst 1, 1) := by decide +kernel
theorem dL_act_39 : decode cL_act 39 = .ok (.isub, 1) := by decide +kernel
theorem dL_act_40 : decode cL_act 40 = .ok (.invokestatic 15, 3) := by decide +kernel
theorem dL_act_43 : decode cL_act 43 = .ok (.iadd, 1) := by decide +kernel
theorem dL_act_44 : decode cL_act 44 = .ok (.iload_n 3, 1) := by decide +kernel
theorem dL_act_45 : decode cL_act 45 = .ok (.irem, 1) := by decide +kernel
theorem dL_act_46 : decode cL_act 46 = .ok (.istore 5, 2) := by decide +kernel
theorem dL_act_48 : decode cL_act 48 = .ok (.iconst 1, 1) := by decide +kernel
theorem dL_act_49 : decode cL_act 49 = .ok (.iload_n 2, 1) := by decide +kernel
theorem dL_act_50 : decode cL_act 50 = .ok (.iconst 2, 1) := by decide +kernel
theorem dL_act_51 : decode cL_act 51 = .ok (.ishr, 1) := by decide +kernel
theorem dL_act_52 : decode cL_act 52 = .ok (.iload_n 2, 1) := by decide +kernel
theorem dL_act_53 : decode cL_act 53 = .ok (.bipush 6, 2) := by decide +kernel
theorem dL_act_55 : decode cL_act 55 = .ok (.ishr, 1) := by decide +kernel
theorem dL_act_56 : decode cL_act 56 = .ok (.iconst 3, 1) := by decide +kernel
theorem dL_act_57 : decode cL_act 57 = .ok (.invokestatic 15, 3) := by decide +kernel
theorem dL_act_60 : decode cL_act 60 = .ok (.ifCond .ne 8, 3) := by decide +kernel
theorem dL_act_63 : decode cL_act 63 = .ok (.bipush 20, 2) := by decide +kernel
theorem dL_act_65 : decode cL_act 65 = .ok (.goto 5, 3) := by decide +kernel
theorem dL_act_68 : decode cL_act 68 = .ok (.bipush 6, 2) := by decide +kernel
theorem dL_act_70 : decode cL_act 70 = .ok (.invokestatic 15, 3) := by decide +kernel
theorem dL_act_73 : decode cL_act 73 = .ok (.iadd, 1) := by decide +kernel
theorem dL_act_74 : decode cL_act 74 = .ok (.istore 6, 2) := by decide +kernel
theorem dL_act_76 : decode cL_act 76 = .ok (.iconst 1, 1) := by decide +kernel
theorem dL_act_77 : decode cL_act 77 = .ok (.iload_n 2, 1) := by decide +kernel
theorem dL_act_78 : decode cL_act 78 = .ok (.iconst 4, 1) := by decide +kernel
theorem dL_act_79 : decode cL_act 79 = .ok (.ishr, 1) := by decide +kernel
theorem dL_act_80 : decode cL_act 80 = .ok (.iload_n 2, 1) := by decide +kernel
theorem dL_act_81 : decode cL_act 81 = .ok (.iconst 5, 1) := by decide +kernel
theorem dL_act_82 : decode cL_act 82 = .ok (.ishr, 1) := by decide +kernel
theorem dL_act_83 : decode cL_act 83 = .ok (.iconst 3, 1) := by decide +kernel
theorem dL_act_84 : decode cL_act 84 = .ok (.invokestatic 15, 3) := by decide +kernel
theorem dL_act_87 : decode cL_act 87 = .ok (.ifCond .ne 8, 3) := by decide +kernel
theorem dL_act_90 : decode cL_act 90 = .ok (.bipush 20, 2) := by decide +kernel
theorem dL_act_92 : decode cL_act 92 = .ok (.goto 5, 3) := by decide +kernel
theorem dL_act_95 : decode cL_act 95 = .ok (.bipush 60, 2) := by decide +kernel
theorem dL_act_97 : decode cL_act 97 = .ok (.invokestatic 15, 3) := by decide +kernel
theorem dL_act_100 : decode cL_act 100 = .ok (.iadd, 1) := by decide +kernel
theorem dL_act_101 : decode cL_act 101 = .ok (.istore 7, 2) := by decide +kernel
theorem dL_act_103 : decode cL_act 103 = .ok (.iload_n 3, 1) := by decide +kernel
theorem dL_act_104 : decode cL_act 104 = .ok (.ifCond .ne 7, 3) := by decide +kernel
theorem dL_act_107 : decode cL_act 107 = .ok (.iconst 0, 1) := by decide +kernel
theorem dL_act_108 : decode cL_act 108 = .ok (.goto 12, 3) := by decide +kernel
theorem dL_act_111 : decode cL_act 111 = .ok (.iload_n 2, 1) := by decide +kernel
theorem dL_act_112 : decode cL_act 112 = .ok (.bipush 9, 2) := by decide +kernel
theorem dL_act_114 : decode cL_act 114 = .ok (.ishr, 1) := by decide +kernel
theorem dL_act_115 : decode cL_act 115 = .ok (.bipush 11, 2) := by decide +kernel
theorem dL_act_117 : decode cL_act 117 = .ok (.invokestatic 15, 3) := by decide +kernel
theorem dL_act_120 : decode cL_act 120 = .ok (.tableswitch 558 0 9 #[56, 110, 110, 110, 110, 245, 245, 332, 419, 419], 56) := by decide +kernel
theorem dL_act_176 : decode cL_act 176 = .ok (.iload_n 3, 1) := by decide +kernel
theorem dL_act_177 : decode cL_act 177 = .ok (.bipush 40, 2) := by decide +kernel
theorem dL_act_179 : decode cL_act 179 = .ok (.if_icmp .ne 5, 3) := by decide +kernel
theorem dL_act_182 : decode cL_act 182 = .ok (.iconst 1, 1) := by decide +kernel
theorem dL_act_183 : decode cL_act 183 = .ok (.ireturn, 1) := by decide +kernel
theorem dL_act_184 : decode cL_act 184 = .ok (.iconst 1, 1) := by decide +kernel
theorem dL_act_185 : decode cL_act 185 = .ok (.iload_n 2, 1) := by decide +kernel
theorem dL_act_186 : decode cL_act 186 = .ok (.iconst 3, 1) := by decide +kernel
theorem dL_act_187 : decode cL_act 187 = .ok (.ishr, 1) := by decide +kernel
theorem dL_act_188 : decode cL_act 188 = .ok (.sipush 200, 3) := by decide +kernel
theorem dL_act_191 : decode cL_act 191 = .ok (.invokestatic 15, 3) := by decide +kernel
theorem dL_act_194 : decode cL_act 194 = .ok (.iadd, 1) := by decide +kernel
theorem dL_act_195 : decode cL_act 195 = .ok (.istore 8, 2) := by decide +kernel
theorem dL_act_197 : decode cL_act 197 = .ok (.aload_n 1, 1) := by decide +kernel
theorem dL_act_198 : decode cL_act 198 = .ok (.iload 6, 2) := by decide +kernel
theorem dL_act_200 : decode cL_act 200 = .ok (.iload 7, 2) := by decide +kernel
theorem dL_act_202 : decode cL_act 202 = .ok (.iload 8, 2) := by decide +kernel
theorem dL_act_204 : decode cL_act 204 = .ok (.iconst 0, 1) := by decide +kernel
theorem dL_act_205 : decode cL_act 205 = .ok (.newarray .int, 2) := by decide +kernel
theorem dL_act_207 : decode cL_act 207 = .ok (.invokevirtual 21, 3) := by decide +kernel
theorem dL_act_210 : decode cL_act 210 = .ok (.aload_n 0, 1) := by decide +kernel
theorem dL_act_211 : decode cL_act 211 = .ok (.iload 6, 2) := by decide +kernel
theorem dL_act_213 : decode cL_act 213 = .ok (.iload 7, 2) := by decide +kernel
theorem dL_act_215 : decode cL_act 215 = .ok (.iload 8, 2) := by decide +kernel
theorem dL_act_217 : decode cL_act 217 = .ok (.invokevirtual 25, 3) := by decide +kernel
theorem dL_act_220 : decode cL_act 220 = .ok (.iload_n 3, 1) := by decide +kernel
theorem dL_act_221 : decode cL_act 221 = .ok (.if_icmp .ne 7, 3) := by decide +kernel
theorem dL_act_224 : decode cL_act 224 = .ok (.iconst 1, 1) := by decide +kernel
theorem dL_act_225 : decode cL_act 225 = .ok (.goto 4, 3) := by decide +kernel
theorem dL_act_228 : decode cL_act 228 = .ok (.iconst 0, 1) := by decide +kernel
theorem dL_act_229 : decode cL_act 229 = .ok (.ireturn, 1) := by decide +kernel
theorem dL_act_230 : decode cL_act 230 = .ok (.iload_n 3, 1) := by decide +kernel
theorem dL_act_231 : decode cL_act 231 = .ok (.bipush 40, 2) := by decide +kernel
theorem dL_act_233 : decode cL_act 233 = .ok (.if_icmp .eq 16, 3) := by decide +kernel
theorem dL_act_236 : decode cL_act 236 = .ok (.aload_n 1, 1) := by decide +kernel
theorem dL_act_237 : decode cL_act 237 = .ok (.getfield 9, 3) := by decide +kernel
theorem dL_act_240 : decode cL_act 240 = .ok (.iload 4, 2) := by decide +kernel
theorem dL_act_242 : decode cL_act 242 = .ok (.aaload, 1) := by decide +kernel
theorem dL_act_243 : decode cL_act 243 = .ok (.getfield 31, 3) := by decide +kernel
theorem dL_act_246 : decode cL_act 246 = .ok (.ifCond .ne 5, 3) := by decide +kernel
theorem dL_act_249 : decode cL_act 249 = .ok (.iconst 1, 1) := by decide +kernel
theorem dL_act_250 : decode cL_act 250 = .ok (.ireturn, 1) := by decide +kernel
theorem dL_act_251 : decode cL_act 251 = .ok (.iload 5, 2) := by decide +kernel
theorem dL_act_253 : decode cL_act 253 = .ok (.ifCond .lt 31, 3) := by decide +kernel
theorem dL_act_256 : decode cL_act 256 = .ok (.aload_n 1, 1) := by decide +kernel
theorem dL_act_257 : decode cL_act 257 = .ok (.getfield 9, 3) := by decide +kernel
theorem dL_act_260 : decode cL_act 260 = .ok (.iload 5, 2) := by decide +kernel
theorem dL_act_262 : decode cL_act 262 = .ok (.aaload, 1) := by decide +kernel
theorem dL_act_263 : decode cL_act 263 = .ok (.getfield 31, 3) := by decide +kernel
theorem dL_act_266 : decode cL_act 266 = .ok (.ifCond .eq 18, 3) := by decide +kernel
theorem dL_act_269 : decode cL_act 269 = .ok (.iload_n 2, 1) := by decide +kernel
theorem dL_act_270 : decode cL_act 270 = .ok (.bipush 7, 2) := by decide +kernel
theorem dL_act_272 : decode cL_act 272 = .ok (.ishr, 1) := by decide +kernel
theorem dL_act_273 : decode cL_act 273 = .ok (.iconst 2, 1) := by decide +kernel
theorem dL_act_274 : decode cL_act 274 = .ok (.invokestatic 15, 3) := by decide +kernel
theorem dL_act_277 : decode cL_act 277 = .ok (.ifCond .ne 7, 3) := by decide +kernel
theorem dL_act_280 : decode cL_act 280 = .ok (.iconst 1, 1) := by decide +kernel
theorem dL_act_281 : decode cL_act 281 = .ok (.goto 4, 3) := by decide +kernel
theorem dL_act_284 : decode cL_act 284 = .ok (.iconst 0, 1) := by decide +kernel
theorem dL_act_285 : decode cL_act 285 = .ok (.istore 9, 2) := by decide +kernel
theorem dL_act_287 : decode cL_act 287 = .ok (.iload 9, 2) := by decide +kernel
theorem dL_act_289 : decode cL_act 289 = .ok (.ifCond .eq 28, 3) := by decide +kernel
theorem dL_act_292 : decode cL_act 292 = .ok (.aload_n 1, 1) := by decide +kernel
theorem dL_act_293 : decode cL_act 293 = .ok (.iload 6, 2) := by decide +kernel
theorem dL_act_295 : decode cL_act 295 = .ok (.iload 7, 2) := by decide +kernel
theorem dL_act_297 : decode cL_act 297 = .ok (.iconst 0, 1) := by decide +kernel
theorem dL_act_298 : decode cL_act 298 = .ok (.iconst 2, 1) := by decide +kernel
theorem dL_act_299 : decode cL_act 299 = .ok (.newarray .int, 2) := by decide +kernel
theorem dL_act_301 : decode cL_act 301 = .ok (.dup, 1) := by decide +kernel
theorem dL_act_302 : decode cL_act 302 = .ok (.iconst 0, 1) := by decide +kernel
theorem dL_act_303 : decode cL_act 303 = .ok (.iload 4, 2) := by decide +kernel
theorem dL_act_305 : decode cL_act 305 = .ok (.iastore, 1) := by decide +kernel
theorem dL_act_306 : decode cL_act 306 = .ok (.dup, 1) := by decide +kernel
theorem dL_act_307 : decode cL_act 307 = .ok (.iconst 1, 1) := by decide +kernel
theorem dL_act_308 : decode cL_act 308 = .ok (.iload 5, 2) := by decide +kernel
theorem dL_act_310 : decode cL_act 310 = .ok (.iastore, 1) := by decide +kernel
theorem dL_act_311 : decode cL_act 311 = .ok (.invokevirtual 21, 3) := by decide +kernel
theorem dL_act_314 : decode cL_act 314 = .ok (.goto 20, 3) := by decide +kernel
theorem dL_act_317 : decode cL_act 317 = .ok (.aload_n 1, 1) := by decide +kernel
theorem dL_act_318 : decode cL_act 318 = .ok (.iload 6, 2) := by decide +kernel
theorem dL_act_320 : decode cL_act 320 = .ok (.iload 7, 2) := by decide +kernel
theorem dL_act_322 : decode cL_act 322 = .ok (.iconst 0, 1) := by decide +kernel
theorem dL_act_323 : decode cL_act 323 = .ok (.iconst 1, 1) := by decide +kernel
theorem dL_act_324 : decode cL_act 324 = .ok (.newarray .int, 2) := by decide +kernel
theorem dL_act_326 : decode cL_act 326 = .ok (.dup, 1) := by decide +kernel
theorem dL_act_327 : decode cL_act 327 = .ok (.iconst 0, 1) := by decide +kernel
theorem dL_act_328 : decode cL_act 328 = .ok (.iload 4, 2) := by decide +kernel
theorem dL_act_330 : decode cL_act 330 = .ok (.iastore, 1) := by decide +kernel
theorem dL_act_331 : decode cL_act 331 = .ok (.invokevirtual 21, 3) := by decide +kernel
theorem dL_act_334 : decode cL_act 334 = .ok (.aload_n 0, 1) := by decide +kernel
theorem dL_act_335 : decode cL_act 335 = .ok (.iload 6, 2) := by decide +kernel
theorem dL_act_337 : decode cL_act 337 = .ok (.iload 7, 2) := by decide +kernel
theorem dL_act_339 : decode cL_act 339 = .ok (.iload 4, 2) := by decide +kernel
theorem dL_act_341 : decode cL_act 341 = .ok (.iload 9, 2) := by decide +kernel
theorem dL_act_343 : decode cL_act 343 = .ok (.ifCond .eq 8, 3) := by decide +kernel
theorem dL_act_346 : decode cL_act 346 = .ok (.iload 5, 2) := by decide +kernel
theorem dL_act_348 : decode cL_act 348 = .ok (.goto 4, 3) := by decide +kernel
theorem dL_act_351 : decode cL_act 351 = .ok (.iconst (-1), 1) := by decide +kernel
theorem dL_act_352 : decode cL_act 352 = .ok (.invokevirtual 37, 3) := by decide +kernel
theorem dL_act_355 : decode cL_act 355 = .ok (.iload_n 3, 1) := by decide +kernel
theorem dL_act_356 : decode cL_act 356 = .ok (.if_icmp .ne 7, 3) := by decide +kernel
theorem dL_act_359 : decode cL_act 359 = .ok (.iconst 1, 1) := by decide +kernel
theorem dL_act_360 : decode cL_act 360 = .ok (.goto 4, 3) := by decide +kernel
theorem dL_act_363 : decode cL_act 363 = .ok (.iconst 0, 1) := by decide +kernel
theorem dL_act_364 : decode cL_act 364 = .ok (.ireturn, 1) := by decide +kernel
theorem dL_act_365 : decode cL_act 365 = .ok (.aload_n 1, 1) := by decide +kernel
theorem dL_act_366 : decode cL_act 366 = .ok (.getfield 9, 3) := by decide +kernel
theorem dL_act_369 : decode cL_act 369 = .ok (.iload 4, 2) := by decide +kernel
theorem dL_act_371 : decode cL_act 371 = .ok (.aaload, 1) := by decide +kernel
theorem dL_act_372 : decode cL_act 372 = .ok (.getfield 31, 3) := by decide +kernel
theorem dL_act_375 : decode cL_act 375 = .ok (.ifCond .ne 5, 3) := by decide +kernel
theorem dL_act_378 : decode cL_act 378 = .ok (.iconst 1, 1) := by decide +kernel
theorem dL_act_379 : decode cL_act 379 = .ok (.ireturn, 1) := by decide +kernel
theorem dL_act_380 : decode cL_act 380 = .ok (.iload_n 2, 1) := by decide +kernel
theorem dL_act_381 : decode cL_act 381 = .ok (.iconst 3, 1) := by decide +kernel
theorem dL_act_382 : decode cL_act 382 = .ok (.ishr, 1) := by decide +kernel
theorem dL_act_383 : decode cL_act 383 = .ok (.iload_n 2, 1) := by decide +kernel
theorem dL_act_384 : decode cL_act 384 = .ok (.bipush 6, 2) := by decide +kernel
theorem dL_act_386 : decode cL_act 386 = .ok (.ishr, 1) := by decide +kernel
theorem dL_act_387 : decode cL_act 387 = .ok (.iconst 2, 1) := by decide +kernel
theorem dL_act_388 : decode cL_act 388 = .ok (.invokestatic 15, 3) := by decide +kernel
theorem dL_act_391 : decode cL_act 391 = .ok (.ifCond .ne 8, 3) := by decide +kernel
theorem dL_act_394 : decode cL_act 394 = .ok (.bipush 61, 2) := by decide +kernel
theorem dL_act_396 : decode cL_act 396 = .ok (.goto 5, 3) := by decide +kernel
theorem dL_act_399 : decode cL_act 399 = .ok (.bipush 12, 2) := by decide +kernel
theorem dL_act_401 : decode cL_act 401 = .ok (.invokestatic 15, 3) := by decide +kernel
theorem dL_act_404 : decode cL_act 404 = .ok (.istore 10, 2) := by decide +kernel
theorem dL_act_406 : decode cL_act 406 = .ok (.aload_n 1, 1) := by decide +kernel
theorem dL_act_407 : decode cL_act 407 = .ok (.invokevirtual 41, 3) := by decide +kernel
theorem dL_act_410 : decode cL_act 410 = .ok (.istore 11, 2) := by decide +kernel
theorem dL_act_412 : decode cL_act 412 = .ok (.aload_n 1, 1) := by decide +kernel
theorem dL_act_413 : decode cL_act 413 = .ok (.getfield 9, 3) := by decide +kernel
theorem dL_act_416 : decode cL_act 416 = .ok (.iload 4, 2) := by decide +kernel
theorem dL_act_418 : decode cL_act 418 = .ok (.aaload, 1) := by decide +kernel
theorem dL_act_419 : decode cL_act 419 = .ok (.iload 10, 2) := by decide +kernel
theorem dL_act_421 : decode cL_act 421 = .ok (.putfield 45, 3) := by decide +kernel
theorem dL_act_424 : decode cL_act 424 = .ok (.aload_n 1, 1) := by decide +kernel
theorem dL_act_425 : decode cL_act 425 = .ok (.invokevirtual 49, 3) := by decide +kernel
theorem dL_act_428 : decode cL_act 428 = .ok (.aload_n 0, 1) := by decide +kernel
theorem dL_act_429 : decode cL_act 429 = .ok (.iload 4, 2) := by decide +kernel
theorem dL_act_431 : decode cL_act 431 = .ok (.iload 10, 2) := by decide +kernel
theorem dL_act_433 : decode cL_act 433 = .ok (.invokevirtual 52, 3) := by decide +kernel
theorem dL_act_436 : decode cL_act 436 = .ok (.iload 11, 2) := by decide +kernel
theorem dL_act_438 : decode cL_act 438 = .ok (.aload_n 1, 1) := by decide +kernel
theorem dL_act_439 : decode cL_act 439 = .ok (.invokevirtual 41, 3) := by decide +kernel
theorem dL_act_442 : decode cL_act 442 = .ok (.isub, 1) := by decide +kernel
theorem dL_act_443 : decode cL_act 443 = .ok (.if_icmp .ne 7, 3) := by decide +kernel
theorem dL_act_446 : decode cL_act 446 = .ok (.iconst 1, 1) := by decide +kernel
theorem dL_act_447 : decode cL_act 447 = .ok (.goto 4, 3) := by decide +kernel
theorem dL_act_450 : decode cL_act 450 = .ok (.iconst 0, 1) := by decide +kernel
theorem dL_act_451 : decode cL_act 451 = .ok (.ireturn, 1) := by decide +kernel
theorem dL_act_452 : decode cL_act 452 = .ok (.aload_n 1, 1) := by decide +kernel
theorem dL_act_453 : decode cL_act 453 = .ok (.getfield 9, 3) := by decide +kernel
theorem dL_act_456 : decode cL_act 456 = .ok (.iload 4, 2) := by decide +kernel
theorem dL_act_458 : decode cL_act 458 = .ok (.aaload, 1) := by decide +kernel
theorem dL_act_459 : decode cL_act 459 = .ok (.astore 12, 2) := by decide +kernel
theorem dL_act_461 : decode cL_act 461 = .ok (.iconst 1, 1) := by decide +kernel
theorem dL_act_462 : decode cL_act 462 = .ok (.iload_n 2, 1) := by decide +kernel
theorem dL_act_463 : decode cL_act 463 = .ok (.iconst 2, 1) := by decide +kernel
theorem dL_act_464 : decode cL_act 464 = .ok (.ishr, 1) := by decide +kernel
theorem dL_act_465 : decode cL_act 465 = .ok (.sipush 200, 3) := by decide +kernel
theorem dL_act_468 : decode cL_act 468 = .ok (.invokestatic 15, 3) := by decide +kernel
theorem dL_act_471 : decode cL_act 471 = .ok (.iadd, 1) := by decide +kernel
theorem dL_act_472 : decode cL_act 472 = .ok (.istore 13, 2) := by decide +kernel
theorem dL_act_474 : decode cL_act 474 = .ok (.aload 12, 2) := by decide +kernel
theorem dL_act_476 : decode cL_act 476 = .ok (.getfield 31, 3) := by decide +kernel
theorem dL_act_479 : decode cL_act 479 = .ok (.ifCond .eq 25, 3) := by decide +kernel
theorem dL_act_482 : decode cL_act 482 = .ok (.aload 12, 2) := by decide +kernel
theorem dL_act_484 : decode cL_act 484 = .ok (.getfield 54, 3) := by decide +kernel
theorem dL_act_487 : decode cL_act 487 = .ok (.ifCond .eq 17, 3) := by decide +kernel
theorem dL_act_490 : decode cL_act 490 = .ok (.iload 13, 2) := by decide +kernel
theorem dL_act_492 : decode cL_act 492 = .ok (.aload_n 1, 1) := by decide +kernel
theorem dL_act_493 : decode cL_act 493 = .ok (.invokevirtual 57, 3) := by decide +kernel
theorem dL_act_496 : decode cL_act 496 = .ok (.iconst 0, 1) := by decide +kernel
theorem dL_act_497 : decode cL_act 497 = .ok (.aaload, 1) := by decide +kernel
theorem dL_act_498 : decode cL_act 498 = .ok (.iload 4, 2) := by decide +kernel
theorem dL_act_500 : decode cL_act 500 = .ok (.iaload, 1) := by decide +kernel
theorem dL_act_501 : decode cL_act 501 = .ok (.if_icmp .ge 5, 3) := by decide +kernel
theorem dL_act_504 : decode cL_act 504 = .ok (.iconst 1, 1) := by decide +kernel
theorem dL_act_505 : decode cL_act 505 = .ok (.ireturn, 1) := by decide +kernel
theorem dL_act_506 : decode cL_act 506 = .ok (.aload 12, 2) := by decide +kernel
theorem dL_act_508 : decode cL_act 508 = .ok (.getfield 54, 3) := by decide +kernel
theorem dL_act_511 : decode cL_act 511 = .ok (.istore 14, 2) := by decide +kernel
theorem dL_act_513 : decode cL_act 513 = .ok (.aload 12, 2) := by decide +kernel
theorem dL_act_515 : decode cL_act 515 = .ok (.iload 13, 2) := by decide +kernel
theorem dL_act_517 : decode cL_act 517 = .ok (.putfield 54, 3) := by decide +kernel
theorem dL_act_520 : decode cL_act 520 = .ok (.aload_n 0, 1) := by decide +kernel
theorem dL_act_521 : decode cL_act 521 = .ok (.iload 4, 2) := by decide +kernel
theorem dL_act_523 : decode cL_act 523 = .ok (.iload 13, 2) := by decide +kernel
theorem dL_act_525 : decode cL_act 525 = .ok (.invokevirtual 61, 3) := by decide +kernel
theorem dL_act_528 : decode cL_act 528 = .ok (.iload 14, 2) := by decide +kernel
theorem dL_act_530 : decode cL_act 530 = .ok (.if_icmp .ne 7, 3) := by decide +kernel
theorem dL_act_533 : decode cL_act 533 = .ok (.iconst 1, 1) := by decide +kernel
theorem dL_act_534 : decode cL_act 534 = .ok (.goto 4, 3) := by decide +kernel
theorem dL_act_537 : decode cL_act 537 = .ok (.iconst 0, 1) := by decide +kernel
theorem dL_act_538 : decode cL_act 538 = .ok (.ireturn, 1) := by decide +kernel
theorem dL_act_539 : decode cL_act 539 = .ok (.iload 5, 2) := by decide +kernel
theorem dL_act_541 : decode cL_act 541 = .ok (.ifCond .lt 39, 3) := by decide +kernel
theorem dL_act_544 : decode cL_act 544 = .ok (.aload_n 1, 1) := by decide +kernel
theorem dL_act_545 : decode cL_act 545 = .ok (.getfield 64, 3) := by decide +kernel
theorem dL_act_548 : decode cL_act 548 = .ok (.arraylength, 1) := by decide +kernel
theorem dL_act_549 : decode cL_act 549 = .ok (.bipush 30, 2) := by decide +kernel
theorem dL_act_551 : decode cL_act 551 = .ok (.if_icmp .eq 29, 3) := by decide +kernel
theorem dL_act_554 : decode cL_act 554 = .ok (.aload_n 1, 1) := by decide +kernel
theorem dL_act_555 : decode cL_act 555 = .ok (.getfield 9, 3) := by decide +kernel
theorem dL_act_558 : decode cL_act 558 = .ok (.iload 4, 2) := by decide +kernel
theorem dL_act_560 : decode cL_act 560 = .ok (.aaload, 1) := by decide +kernel
theorem dL_act_561 : decode cL_act 561 = .ok (.getfield 31, 3) := by decide +kernel
theorem dL_act_564 : decode cL_act 564 = .ok (.ifCond .eq 16, 3) := by decide +kernel
theorem dL_act_567 : decode cL_act 567 = .ok (.aload_n 1, 1) := by decide +kernel
theorem dL_act_568 : decode cL_act 568 = .ok (.getfield 9, 3) := by decide +kernel
theorem dL_act_571 : decode cL_act 571 = .ok (.iload 5, 2) := by decide +kernel
theorem dL_act_573 : decode cL_act 573 = .ok (.aaload, 1) := by decide +kernel
theorem dL_act_574 : decode cL_act 574 = .ok (.getfield 31, 3) := by decide +kernel
theorem dL_act_577 : decode cL_act 577 = .ok (.ifCond .ne 5, 3) := by decide +kernel
theorem dL_act_580 : decode cL_act 580 = .ok (.iconst 1, 1) := by decide +kernel
theorem dL_act_581 : decode cL_act 581 = .ok (.ireturn, 1) := by decide +kernel
theorem dL_act_582 : decode cL_act 582 = .ok (.aload_n 1, 1) := by decide +kernel
theorem dL_act_583 : decode cL_act 583 = .ok (.getfield 64, 3) := by decide +kernel
theorem dL_act_586 : decode cL_act 586 = .ok (.arraylength, 1) := by decide +kernel
theorem dL_act_587 : decode cL_act 587 = .ok (.iconst 1, 1) := by decide +kernel
theorem dL_act_588 : decode cL_act 588 = .ok (.iadd, 1) := by decide +kernel
theorem dL_act_589 : decode cL_act 589 = .ok (.anewarray 68, 3) := by decide +kernel
theorem dL_act_592 : decode cL_act 592 = .ok (.astore 15, 2) := by decide +kernel
theorem dL_act_594 : decode cL_act 594 = .ok (.iconst 0, 1) := by decide +kernel
theorem dL_act_595 : decode cL_act 595 = .ok (.istore 16, 2) := by decide +kernel
theorem dL_act_597 : decode cL_act 597 = .ok (.iload 16, 2) := by decide +kernel
theorem dL_act_599 : decode cL_act 599 = .ok (.aload_n 1, 1) := by decide +kernel
theorem dL_act_600 : decode cL_act 600 = .ok (.getfield 64, 3) := by decide +kernel
theorem dL_act_603 : decode cL_act 603 = .ok (.arraylength, 1) := by decide +kernel
theorem dL_act_604 : decode cL_act 604 = .ok (.if_icmp .ge 21, 3) := by decide +kernel
theorem dL_act_607 : decode cL_act 607 = .ok (.aload 15, 2) := by decide +kernel
theorem dL_act_609 : decode cL_act 609 = .ok (.iload 16, 2) := by decide +kernel
theorem dL_act_611 : decode cL_act 611 = .ok (.aload_n 1, 1) := by decide +kernel
theorem dL_act_612 : decode cL_act 612 = .ok (.getfield 64, 3) := by decide +kernel
theorem dL_act_615 : decode cL_act 615 = .ok (.iload 16, 2) := by decide +kernel
theorem dL_act_617 : decode cL_act 617 = .ok (.aaload, 1) := by decide +kernel
theorem dL_act_618 : decode cL_act 618 = .ok (.aastore, 1) := by decide +kernel
theorem dL_act_619 : decode cL_act 619 = .ok (.iinc 16 1, 3) := by decide +kernel
theorem dL_act_622 : decode cL_act 622 = .ok (.goto (-25), 3) := by decide +kernel
theorem dL_act_625 : decode cL_act 625 = .ok (.aload 15, 2) := by decide +kernel
theorem dL_act_627 : decode cL_act 627 = .ok (.aload_n 1, 1) := by decide +kernel
theorem dL_act_628 : decode cL_act 628 = .ok (.getfield 64, 3) := by decide +kernel
theorem dL_act_631 : decode cL_act 631 = .ok (.arraylength, 1) := by decide +kernel
theorem dL_act_632 : decode cL_act 632 = .ok (.iconst 3, 1) := by decide +kernel
theorem dL_act_633 : decode cL_act 633 = .ok (.newarray .int, 2) := by decide +kernel
theorem dL_act_635 : decode cL_act 635 = .ok (.dup, 1) := by decide +kernel
theorem dL_act_636 : decode cL_act 636 = .ok (.iconst 0, 1) := by decide +kernel
theorem dL_act_637 : decode cL_act 637 = .ok (.iload 4, 2) := by decide +kernel
theorem dL_act_639 : decode cL_act 639 = .ok (.iastore, 1) := by decide +kernel
theorem dL_act_640 : decode cL_act 640 = .ok (.dup, 1) := by decide +kernel
theorem dL_act_641 : decode cL_act 641 = .ok (.iconst 1, 1) := by decide +kernel
theorem dL_act_642 : decode cL_act 642 = .ok (.iload 5, 2) := by decide +kernel
theorem dL_act_644 : decode cL_act 644 = .ok (.iastore, 1) := by decide +kernel
theorem dL_act_645 : decode cL_act 645 = .ok (.dup, 1) := by decide +kernel
theorem dL_act_646 : decode cL_act 646 = .ok (.iconst 2, 1) := by decide +kernel
theorem dL_act_647 : decode cL_act 647 = .ok (.iconst 0, 1) := by decide +kernel
theorem dL_act_648 : decode cL_act 648 = .ok (.iastore, 1) := by decide +kernel
theorem dL_act_649 : decode cL_act 649 = .ok (.aastore, 1) := by decide +kernel
theorem dL_act_650 : decode cL_act 650 = .ok (.aload_n 1, 1) := by decide +kernel
theorem dL_act_651 : decode cL_act 651 = .ok (.aload 15, 2) := by decide +kernel
theorem dL_act_653 : decode cL_act 653 = .ok (.putfield 64, 3) := by decide +kernel
theorem dL_act_656 : decode cL_act 656 = .ok (.aload_n 0, 1) := by decide +kernel
theorem dL_act_657 : decode cL_act 657 = .ok (.iload 4, 2) := by decide +kernel
theorem dL_act_659 : decode cL_act 659 = .ok (.iload 5, 2) := by decide +kernel
theorem dL_act_661 : decode cL_act 661 = .ok (.invokevirtual 70, 3) := by decide +kernel
theorem dL_act_664 : decode cL_act 664 = .ok (.aload 15, 2) := by decide +kernel
theorem dL_act_666 : decode cL_act 666 = .ok (.arraylength, 1) := by decide +kernel
theorem dL_act_667 : decode cL_act 667 = .ok (.iconst 1, 1) := by decide +kernel
theorem dL_act_668 : decode cL_act 668 = .ok (.isub, 1) := by decide +kernel
theorem dL_act_669 : decode cL_act 669 = .ok (.if_icmp .ne 7, 3) := by decide +kernel
theorem dL_act_672 : decode cL_act 672 = .ok (.iconst 1, 1) := by decide +kernel
theorem dL_act_673 : decode cL_act 673 = .ok (.goto 4, 3) := by decide +kernel
theorem dL_act_676 : decode cL_act 676 = .ok (.iconst 0, 1) := by decide +kernel
theorem dL_act_677 : decode cL_act 677 = .ok (.ireturn, 1) := by decide +kernel
theorem dL_act_678 : decode cL_act 678 = .ok (.aload_n 1, 1) := by decide +kernel
theorem dL_act_679 : decode cL_act 679 = .ok (.getfield 64, 3) := by decide +kernel
theorem dL_act_682 : decode cL_act 682 = .ok (.arraylength, 1) := by decide +kernel
theorem dL_act_683 : decode cL_act 683 = .ok (.istore 16, 2) := by decide +kernel
theorem dL_act_685 : decode cL_act 685 = .ok (.iload 16, 2) := by decide +kernel
theorem dL_act_687 : decode cL_act 687 = .ok (.iconst 2, 1) := by decide +kernel
theorem dL_act_688 : decode cL_act 688 = .ok (.if_icmp .ge 5, 3) := by decide +kernel
theorem dL_act_691 : decode cL_act 691 = .ok (.iconst 1, 1) := by decide +kernel
theorem dL_act_692 : decode cL_act 692 = .ok (.ireturn, 1) := by decide +kernel
theorem dL_act_693 : decode cL_act 693 = .ok (.iload_n 2, 1) := by decide +kernel
theorem dL_act_694 : decode cL_act 694 = .ok (.iload 16, 2) := by decide +kernel
theorem dL_act_696 : decode cL_act 696 = .ok (.invokestatic 15, 3) := by decide +kernel
theorem dL_act_699 : decode cL_act 699 = .ok (.istore 17, 2) := by decide +kernel
theorem dL_act_701 : decode cL_act 701 = .ok (.iload 17, 2) := by decide +kernel
theorem dL_act_703 : decode cL_act 703 = .ok (.iconst 1, 1) := by decide +kernel
theorem dL_act_704 : decode cL_act 704 = .ok (.iadd, 1) := by decide +kernel
theorem dL_act_705 : decode cL_act 705 = .ok (.iload_n 2, 1) := by decide +kernel
theorem dL_act_706 : decode cL_act 706 = .ok (.iconst 3, 1) := by decide +kernel
theorem dL_act_707 : decode cL_act 707 = .ok (.ishr, 1) := by decide +kernel
theorem dL_act_708 : decode cL_act 708 = .ok (.iload 16, 2) := by decide +kernel
theorem dL_act_710 : decode cL_act 710 = .ok (.iconst 1, 1) := by decide +kernel
theorem dL_act_711 : decode cL_act 711 = .ok (.isub, 1) := by decide +kernel
theorem dL_act_712 : decode cL_act 712 = .ok (.invokestatic 15, 3) := by decide +kernel
theorem dL_act_715 : decode cL_act 715 = .ok (.iadd, 1) := by decide +kernel
theorem dL_act_716 : decode cL_act 716 = .ok (.iload 16, 2) := by decide +kernel
theorem dL_act_718 : decode cL_act 718 = .ok (.irem, 1) := by decide +kernel
theorem dL_act_719 : decode cL_act 719 = .ok (.istore 18, 2) := by decide +kernel
theorem dL_act_721 : decode cL_act 721 = .ok (.aload_n 1, 1) := by decide +kernel
theorem dL_act_722 : decode cL_act 722 = .ok (.getfield 64, 3) := by decide +kernel
theorem dL_act_725 : decode cL_act 725 = .ok (.iload 17, 2) := by decide +kernel
theorem dL_act_727 : decode cL_act 727 = .ok (.aaload, 1) := by decide +kernel
theorem dL_act_728 : decode cL_act 728 = .ok (.astore 19, 2) := by decide +kernel
theorem dL_act_730 : decode cL_act 730 = .ok (.aload_n 1, 1) := by decide +kernel
theorem dL_act_731 : decode cL_act 731 = .ok (.getfield 64, 3) := by decide +kernel
theorem dL_act_734 : decode cL_act 734 = .ok (.iload 18, 2) := by decide +kernel
theorem dL_act_736 : decode cL_act 736 = .ok (.aaload, 1) := by decide +kernel
theorem dL_act_737 : decode cL_act 737 = .ok (.astore 20, 2) := by decide +kernel
theorem dL_act_739 : decode cL_act 739 = .ok (.aload 19, 2) := by decide +kernel
theorem dL_act_741 : decode cL_act 741 = .ok (.iconst 2, 1) := by decide +kernel
theorem dL_act_742 : decode cL_act 742 = .ok (.iaload, 1) := by decide +kernel
theorem dL_act_743 : decode cL_act 743 = .ok (.iconst 1, 1) := by decide +kernel
theorem dL_act_744 : decode cL_act 744 = .ok (.if_icmp .eq 11, 3) := by decide +kernel
theorem dL_act_747 : decode cL_act 747 = .ok (.aload 20, 2) := by decide +kernel
theorem dL_act_749 : decode cL_act 749 = .ok (.iconst 2, 1) := by decide +kernel
theorem dL_act_750 : decode cL_act 750 = .ok (.iaload, 1) := by decide +kernel
theorem dL_act_751 : decode cL_act 751 = .ok (.iconst 1, 1) := by decide +kernel
theorem dL_act_752 : decode cL_act 752 = .ok (.if_icmp .ne 5, 3) := by decide +kernel
theorem dL_act_755 : decode cL_act 755 = .ok (.iconst 1, 1) := by decide +kernel
theorem dL_act_756 : decode cL_act 756 = .ok (.ireturn, 1) := by decide +kernel
theorem dL_act_757 : decode cL_act 757 = .ok (.aload 19, 2) := by decide +kernel
theorem dL_act_759 : decode cL_act 759 = .ok (.iconst 0, 1) := by decide +kernel
theorem dL_act_760 : decode cL_act 760 = .ok (.iaload, 1) := by decide +kernel
theorem dL_act_761 : decode cL_act 761 = .ok (.aload 20, 2) := by decide +kernel
theorem dL_act_763 : decode cL_act 763 = .ok (.iconst 1, 1) := by decide +kernel
theorem dL_act_764 : decode cL_act 764 = .ok (.iaload, 1) := by decide +kernel
theorem dL_act_765 : decode cL_act 765 = .ok (.if_icmp .eq 18, 3) := by decide +kernel
theorem dL_act_768 : decode cL_act 768 = .ok (.aload 20, 2) := by decide +kernel
theorem dL_act_770 : decode cL_act 770 = .ok (.iconst 0, 1) := by decide +kernel
theorem dL_act_771 : decode cL_act 771 = .ok (.iaload, 1) := by decide +kernel
theorem dL_act_772 : decode cL_act 772 = .ok (.aload 19, 2) := by decide +kernel
theorem dL_act_774 : decode cL_act 774 = .ok (.iconst 1, 1) := by decide +kernel
theorem dL_act_775 : decode cL_act 775 = .ok (.iaload, 1) := by decide +kernel
theorem dL_act_776 : decode cL_act 776 = .ok (.if_icmp .eq 7, 3) := by decide +kernel
theorem dL_act_779 : decode cL_act 779 = .ok (.iconst 1, 1) := by decide +kernel
theorem dL_act_780 : decode cL_act 780 = .ok (.goto 4, 3) := by decide +kernel
theorem dL_act_783 : decode cL_act 783 = .ok (.iconst 0, 1) := by decide +kernel
theorem dL_act_784 : decode cL_act 784 = .ok (.istore 21, 2) := by decide +kernel
theorem dL_act_786 : decode cL_act 786 = .ok (.iload 21, 2) := by decide +kernel
theorem dL_act_788 : decode cL_act 788 = .ok (.ifCond .eq 23, 3) := by decide +kernel
theorem dL_act_791 : decode cL_act 791 = .ok (.aload 19, 2) := by decide +kernel
theorem dL_act_793 : decode cL_act 793 = .ok (.iconst 1, 1) := by decide +kernel
theorem dL_act_794 : decode cL_act 794 = .ok (.iaload, 1) := by decide +kernel
theorem dL_act_795 : decode cL_act 795 = .ok (.istore 22, 2) := by decide +kernel
theorem dL_act_797 : decode cL_act 797 = .ok (.aload 19, 2) := by decide +kernel
theorem dL_act_799 : decode cL_act 799 = .ok (.iconst 1, 1) := by decide +kernel
theorem dL_act_800 : decode cL_act 800 = .ok (.aload 20, 2) := by decide +kernel
theorem dL_act_802 : decode cL_act 802 = .ok (.iconst 1, 1) := by decide +kernel
theorem dL_act_803 : decode cL_act 803 = .ok (.iaload, 1) := by decide +kernel
theorem dL_act_804 : decode cL_act 804 = .ok (.iastore, 1) := by decide +kernel
theorem dL_act_805 : decode cL_act 805 = .ok (.aload 20, 2) := by decide +kernel
theorem dL_act_807 : decode cL_act 807 = .ok (.iconst 1, 1) := by decide +kernel
theorem dL_act_808 : decode cL_act 808 = .ok (.iload 22, 2) := by decide +kernel
theorem dL_act_810 : decode cL_act 810 = .ok (.iastore, 1) := by decide +kernel
theorem dL_act_811 : decode cL_act 811 = .ok (.aload_n 0, 1) := by decide +kernel
theorem dL_act_812 : decode cL_act 812 = .ok (.iload 17, 2) := by decide +kernel
theorem dL_act_814 : decode cL_act 814 = .ok (.iload 18, 2) := by decide +kernel
theorem dL_act_816 : decode cL_act 816 = .ok (.invokevirtual 73, 3) := by decide +kernel
theorem dL_act_819 : decode cL_act 819 = .ok (.iload 21, 2) := by decide +kernel
theorem dL_act_821 : decode cL_act 821 = .ok (.if_icmp .ne 7, 3) := by decide +kernel
theorem dL_act_824 : decode cL_act 824 = .ok (.iconst 1, 1) := by decide +kernel
theorem dL_act_825 : decode cL_act 825 = .ok (.goto 4, 3) := by decide +kernel
theorem dL_act_828 : decode cL_act 828 = .ok (.iconst 0, 1) := by decide +kernel
theorem dL_act_829 : decode cL_act 829 = .ok (.ireturn, 1) := by decide +kernel
theorem dL_build_0 : decode cL_build 0 = .ok (.new 10, 3) := by decide +kernel
theorem dL_build_3 : decode cL_build 3 = .ok (.dup, 1) := by decide +kernel
theorem dL_build_4 : decode cL_build 4 = .ok (.invokespecial 77, 3) := by decide +kernel
theorem dL_build_7 : decode cL_build 7 = .ok (.astore_n 2, 1) := by decide +kernel
theorem dL_build_8 : decode cL_build 8 = .ok (.iconst 0, 1) := by decide +kernel
theorem dL_build_9 : decode cL_build 9 = .ok (.istore_n 3, 1) := by decide +kernel
theorem dL_build_10 : decode cL_build 10 = .ok (.iload_n 3, 1) := by decide +kernel
theorem dL_build_11 : decode cL_build 11 = .ok (.bipush 20, 2) := by decide +kernel
theorem dL_build_13 : decode cL_build 13 = .ok (.if_icmp .ge 59, 3) := by decide +kernel
theorem dL_build_16 : decode cL_build 16 = .ok (.aload_n 0, 1) := by decide +kernel
theorem dL_build_17 : decode cL_build 17 = .ok (.aload_n 2, 1) := by decide +kernel
theorem dL_build_18 : decode cL_build 18 = .ok (.aload_n 1, 1) := by decide +kernel
theorem dL_build_19 : decode cL_build 19 = .ok (.iload_n 3, 1) := by decide +kernel
theorem dL_build_20 : decode cL_build 20 = .ok (.bipush 16, 2) := by decide +kernel
theorem dL_build_22 : decode cL_build 22 = .ok (.irem, 1) := by decide +kernel
theorem dL_build_23 : decode cL_build 23 = .ok (.invokestatic 78, 3) := by decide +kernel
theorem dL_build_26 : decode cL_build 26 = .ok (.iload_n 3, 1) := by decide +kernel
theorem dL_build_27 : decode cL_build 27 = .ok (.bipush 16, 2) := by decide +kernel
theorem dL_build_29 : decode cL_build 29 = .ok (.idiv, 1) := by decide +kernel
theorem dL_build_30 : decode cL_build 30 = .ok (.iconst 3, 1) := by decide +kernel
theorem dL_build_31 : decode cL_build 31 = .ok (.imul, 1) := by decide +kernel
theorem dL_build_32 : decode cL_build 32 = .ok (.ishr, 1) := by decide +kernel
theorem dL_build_33 : decode cL_build 33 = .ok (.bipush 113, 2) := by decide +kernel
theorem dL_build_35 : decode cL_build 35 = .ok (.iload_n 3, 1) := by decide +kernel
theorem dL_build_36 : decode cL_build 36 = .ok (.imul, 1) := by decide +kernel
theorem dL_build_37 : decode cL_build 37 = .ok (.iadd, 1) := by decide +kernel
theorem dL_build_38 : decode cL_build 38 = .ok (.iload_n 3, 1) := by decide +kernel
theorem dL_build_39 : decode cL_build 39 = .ok (.bipush 8, 2) := by decide +kernel
theorem dL_build_41 : decode cL_build 41 = .ok (.if_icmp .ge 15, 3) := by decide +kernel
theorem dL_build_44 : decode cL_build 44 = .ok (.sipush 512, 3) := by decide +kernel
theorem dL_build_47 : decode cL_build 47 = .ok (.iconst 1, 1) := by decide +kernel
theorem dL_build_48 : decode cL_build 48 = .ok (.iload_n 3, 1) := by decide +kernel
theorem dL_build_49 : decode cL_build 49 = .ok (.iconst 4, 1) := by decide +kernel
theorem dL_build_50 : decode cL_build 50 = .ok (.irem, 1) := by decide +kernel
theorem dL_build_51 : decode cL_build 51 = .ok (.iadd, 1) := by decide +kernel
theorem dL_build_52 : decode cL_build 52 = .ok (.imul, 1) := by decide +kernel
theorem dL_build_53 : decode cL_build 53 = .ok (.goto 4, 3) := by decide +kernel
theorem dL_build_56 : decode cL_build 56 = .ok (.iconst 0, 1) := by decide +kernel
theorem dL_build_57 : decode cL_build 57 = .ok (.iadd, 1) := by decide +kernel
theorem dL_build_58 : decode cL_build 58 = .ok (.invokestatic 82, 3) := by decide +kernel
theorem dL_build_61 : decode cL_build 61 = .ok (.ifCond .ne 5, 3) := by decide +kernel
theorem dL_build_64 : decode cL_build 64 = .ok (.aconst_null, 1) := by decide +kernel
theorem dL_build_65 : decode cL_build 65 = .ok (.areturn, 1) := by decide +kernel
theorem dL_build_66 : decode cL_build 66 = .ok (.iinc 3 1, 3) := by decide +kernel
theorem dL_build_69 : decode cL_build 69 = .ok (.goto (-59), 3) := by decide +kernel
theorem dL_build_72 : decode cL_build 72 = .ok (.aload_n 2, 1) := by decide +kernel
theorem dL_build_73 : decode cL_build 73 = .ok (.areturn, 1) := by decide +kernel
theorem dL_law_0 : decode cL_law 0 = .ok (.new 26, 3) := by decide +kernel
theorem dL_law_3 : decode cL_law 3 = .ok (.dup, 1) := by decide +kernel
theorem dL_law_4 : decode cL_law 4 = .ok (.invokespecial 86, 3) := by decide +kernel
theorem dL_law_7 : decode cL_law 7 = .ok (.astore_n 1, 1) := by decide +kernel
theorem dL_law_8 : decode cL_law 8 = .ok (.aload_n 1, 1) := by decide +kernel
theorem dL_law_9 : decode cL_law 9 = .ok (.aload_n 0, 1) := by decide +kernel
theorem dL_law_10 : decode cL_law 10 = .ok (.invokestatic 87, 3) := by decide +kernel
theorem dL_law_13 : decode cL_law 13 = .ok (.astore_n 2, 1) := by decide +kernel
theorem dL_law_14 : decode cL_law 14 = .ok (.aload_n 2, 1) := by decide +kernel
theorem dL_law_15 : decode cL_law 15 = .ok (.ifnonnull 5, 3) := by decide +kernel
theorem dL_law_18 : decode cL_law 18 = .ok (.iconst 0, 1) := by decide +kernel
theorem dL_law_19 : decode cL_law 19 = .ok (.ireturn, 1) := by decide +kernel
theorem dL_law_20 : decode cL_law 20 = .ok (.iconst 0, 1) := by decide +kernel
theorem dL_law_21 : decode cL_law 21 = .ok (.istore_n 3, 1) := by decide +kernel
theorem dL_law_22 : decode cL_law 22 = .ok (.iload_n 3, 1) := by decide +kernel
theorem dL_law_23 : decode cL_law 23 = .ok (.bipush 30, 2) := by decide +kernel
theorem dL_law_25 : decode cL_law 25 = .ok (.if_icmp .ge 969, 3) := by decide +kernel
theorem dL_law_28 : decode cL_law 28 = .ok (.aload_n 0, 1) := by decide +kernel
theorem dL_law_29 : decode cL_law 29 = .ok (.iload_n 3, 1) := by decide +kernel
theorem dL_law_30 : decode cL_law 30 = .ok (.bipush 16, 2) := by decide +kernel
theorem dL_law_32 : decode cL_law 32 = .ok (.irem, 1) := by decide +kernel
theorem dL_law_33 : decode cL_law 33 = .ok (.invokestatic 78, 3) := by decide +kernel
theorem dL_law_36 : decode cL_law 36 = .ok (.iload_n 3, 1) := by decide +kernel
theorem dL_law_37 : decode cL_law 37 = .ok (.bipush 16, 2) := by decide +kernel
theorem dL_law_39 : decode cL_law 39 = .ok (.idiv, 1) := by decide +kernel
theorem dL_law_40 : decode cL_law 40 = .ok (.iconst 3, 1) := by decide +kernel
theorem dL_law_41 : decode cL_law 41 = .ok (.imul, 1) := by decide +kernel
theorem dL_law_42 : decode cL_law 42 = .ok (.ishr, 1) := by decide +kernel
theorem dL_law_43 : decode cL_law 43 = .ok (.bipush 113, 2) := by decide +kernel
theorem dL_law_45 : decode cL_law 45 = .ok (.iload_n 3, 1) := by decide +kernel
theorem dL_law_46 : decode cL_law 46 = .ok (.imul, 1) := by decide +kernel
theorem dL_law_47 : decode cL_law 47 = .ok (.iadd, 1) := by decide +kernel
theorem dL_law_48 : decode cL_law 48 = .ok (.istore 4, 2) := by decide +kernel
theorem dL_law_50 : decode cL_law 50 = .ok (.aload_n 1, 1) := by decide +kernel
theorem dL_law_51 : decode cL_law 51 = .ok (.iconst 1, 1) := by decide +kernel
theorem dL_law_52 : decode cL_law 52 = .ok (.invokevirtual 91, 3) := by decide +kernel
theorem dL_law_55 : decode cL_law 55 = .ok (.istore 5, 2) := by decide +kernel
theorem dL_law_57 : decode cL_law 57 = .ok (.iload 5, 2) := by decide +kernel
theorem dL_law_59 : decode cL_law 59 = .ok (.newarray .boolean, 2) := by decide +kernel
theorem dL_law_61 : decode cL_law 61 = .ok (.astore 6, 2) := by decide +kernel
theorem dL_law_63 : decode cL_law 63 = .ok (.iconst 0, 1) := by decide +kernel
theorem dL_law_64 : decode cL_law 64 = .ok (.istore 7, 2) := by decide +kernel
theorem dL_law_66 : decode cL_law 66 = .ok (.iload 7, 2) := by decide +kernel
theorem dL_law_68 : decode cL_law 68 = .ok (.iload 5, 2) := by decide +kernel
theorem dL_law_70 : decode cL_law 70 = .ok (.if_icmp .ge 30, 3) := by decide +kernel
theorem dL_law_73 : decode cL_law 73 = .ok (.aload 6, 2) := by decide +kernel
theorem dL_law_75 : decode cL_law 75 = .ok (.iload 7, 2) := by decide +kernel
theorem dL_law_77 : decode cL_law 77 = .ok (.aload_n 1, 1) := by decide +kernel
theorem dL_law_78 : decode cL_law 78 = .ok (.iload 7, 2) := by decide +kernel
theorem dL_law_80 : decode cL_law 80 = .ok (.iconst 2, 1) := by decide +kernel
theorem dL_law_81 : decode cL_law 81 = .ok (.invokevirtual 95, 3) := by decide +kernel
theorem dL_law_84 : decode cL_law 84 = .ok (.iconst 1, 1) := by decide +kernel
theorem dL_law_85 : decode cL_law 85 = .ok (.if_icmp .ne 7, 3) := by decide +kernel
theorem dL_law_88 : decode cL_law 88 = .ok (.iconst 1, 1) := by decide +kernel
theorem dL_law_89 : decode cL_law 89 = .ok (.goto 4, 3) := by decide +kernel
theorem dL_law_92 : decode cL_law 92 = .ok (.iconst 0, 1) := by decide +kernel
theorem dL_law_93 : decode cL_law 93 = .ok (.bastore, 1) := by decide +kernel
theorem dL_law_94 : decode cL_law 94 = .ok (.iinc 7 1, 3) := by decide +kernel
theorem dL_law_97 : decode cL_law 97 = .ok (.goto (-31), 3) := by decide +kernel
theorem dL_law_100 : decode cL_law 100 = .ok (.aload_n 1, 1) := by decide +kernel
theorem dL_law_101 : decode cL_law 101 = .ok (.aload_n 2, 1) := by decide +kernel
theorem dL_law_102 : decode cL_law 102 = .ok (.iload 4, 2) := by decide +kernel
theorem dL_law_104 : decode cL_law 104 = .ok (.invokestatic 82, 3) := by decide +kernel
theorem dL_law_107 : decode cL_law 107 = .ok (.ifCond .ne 5, 3) := by decide +kernel
theorem dL_law_110 : decode cL_law 110 = .ok (.iconst 0, 1) := by decide +kernel
theorem dL_law_111 : decode cL_law 111 = .ok (.ireturn, 1) := by decide +kernel
theorem dL_law_112 : decode cL_law 112 = .ok (.iconst 0, 1) := by decide +kernel
theorem dL_law_113 : decode cL_law 113 = .ok (.istore 7, 2) := by decide +kernel
theorem dL_law_115 : decode cL_law 115 = .ok (.iload 7, 2) := by decide +kernel
theorem dL_law_117 : decode cL_law 117 = .ok (.iload 5, 2) := by decide +kernel
theorem dL_law_119 : decode cL_law 119 = .ok (.if_icmp .ge 30, 3) := by decide +kernel
theorem dL_law_122 : decode cL_law 122 = .ok (.aload 6, 2) := by decide +kernel
theorem dL_law_124 : decode cL_law 124 = .ok (.iload 7, 2) := by decide +kernel
theorem dL_law_126 : decode cL_law 126 = .ok (.baload, 1) := by decide +kernel
theorem dL_law_127 : decode cL_law 127 = .ok (.ifCond .ne 16, 3) := by decide +kernel
theorem dL_law_130 : decode cL_law 130 = .ok (.aload_n 1, 1) := by decide +kernel
theorem dL_law_131 : decode cL_law 131 = .ok (.iload 7, 2) := by decide +kernel
theorem dL_law_133 : decode cL_law 133 = .ok (.iconst 2, 1) := by decide +kernel
theorem dL_law_134 : decode cL_law 134 = .ok (.invokevirtual 95, 3) := by decide +kernel
theorem dL_law_137 : decode cL_law 137 = .ok (.iconst 1, 1) := by decide +kernel
theorem dL_law_138 : decode cL_law 138 = .ok (.if_icmp .ne 5, 3) := by decide +kernel
theorem dL_law_141 : decode cL_law 141 = .ok (.iconst 0, 1) := by decide +kernel
theorem dL_law_142 : decode cL_law 142 = .ok (.ireturn, 1) := by decide +kernel
theorem dL_law_143 : decode cL_law 143 = .ok (.iinc 7 1, 3) := by decide +kernel
theorem dL_law_146 : decode cL_law 146 = .ok (.goto (-31), 3) := by decide +kernel
theorem dL_law_149 : decode cL_law 149 = .ok (.aload_n 1, 1) := by decide +kernel
theorem dL_law_150 : decode cL_law 150 = .ok (.iconst 1, 1) := by decide +kernel
theorem dL_law_151 : decode cL_law 151 = .ok (.invokevirtual 91, 3) := by decide +kernel
theorem dL_law_154 : decode cL_law 154 = .ok (.istore 5, 2) := by decide +kernel
theorem dL_law_156 : decode cL_law 156 = .ok (.iload 4, 2) := by decide +kernel
theorem dL_law_158 : decode cL_law 158 = .ok (.iconst 2, 1) := by decide +kernel
theorem dL_law_159 : decode cL_law 159 = .ok (.ishr, 1) := by decide +kernel
theorem dL_law_160 : decode cL_law 160 = .ok (.iload 5, 2) := by decide +kernel
theorem dL_law_162 : decode cL_law 162 = .ok (.invokestatic 15, 3) := by decide +kernel
theorem dL_law_165 : decode cL_law 165 = .ok (.istore 7, 2) := by decide +kernel
theorem dL_law_167 : decode cL_law 167 = .ok (.aload_n 1, 1) := by decide +kernel
theorem dL_law_168 : decode cL_law 168 = .ok (.iload 7, 2) := by decide +kernel
theorem dL_law_170 : decode cL_law 170 = .ok (.invokevirtual 98, 3) := by decide +kernel
theorem dL_law_173 : decode cL_law 173 = .ok (.istore 8, 2) := by decide +kernel
theorem dL_law_175 : decode cL_law 175 = .ok (.aload_n 1, 1) := by decide +kernel
theorem dL_law_176 : decode cL_law 176 = .ok (.iload 7, 2) := by decide +kernel
theorem dL_law_178 : decode cL_law 178 = .ok (.invokevirtual 101, 3) := by decide +kernel
theorem dL_law_181 : decode cL_law 181 = .ok (.istore 9, 2) := by decide +kernel
theorem dL_law_183 : decode cL_law 183 = .ok (.aload_n 1, 1) := by decide +kernel
theorem dL_law_184 : decode cL_law 184 = .ok (.iconst 1, 1) := by decide +kernel
theorem dL_law_185 : decode cL_law 185 = .ok (.iconst 0, 1) := by decide +kernel
theorem dL_law_186 : decode cL_law 186 = .ok (.invokevirtual 104, 3) := by decide +kernel
theorem dL_law_189 : decode cL_law 189 = .ok (.istore 10, 2) := by decide +kernel
theorem dL_law_191 : decode cL_law 191 = .ok (.aload_n 1, 1) := by decide +kernel
theorem dL_law_192 : decode cL_law 192 = .ok (.iconst 1, 1) := by decide +kernel
theorem dL_law_193 : decode cL_law 193 = .ok (.iconst 1, 1) := by decide +kernel
theorem dL_law_194 : decode cL_law 194 = .ok (.invokevirtual 104, 3) := by decide +kernel
theorem dL_law_197 : decode cL_law 197 = .ok (.istore 11, 2) := by decide +kernel
theorem dL_law_199 : decode cL_law 199 = .ok (.aload_n 1, 1) := by decide +kernel
theorem dL_law_200 : decode cL_law 200 = .ok (.iconst 1, 1) := by decide +kernel
theorem dL_law_201 : decode cL_law 201 = .ok (.iconst 2, 1) := by decide +kernel
theorem dL_law_202 : decode cL_law 202 = .ok (.invokevirtual 104, 3) := by decide +kernel
theorem dL_law_205 : decode cL_law 205 = .ok (.istore 12, 2) := by decide +kernel
theorem dL_law_207 : decode cL_law 207 = .ok (.aload_n 1, 1) := by decide +kernel
theorem dL_law_208 : decode cL_law 208 = .ok (.iconst 2, 1) := by decide +kernel
theorem dL_law_209 : decode cL_law 209 = .ok (.invokevirtual 91, 3) := by decide +kernel
theorem dL_law_212 : decode cL_law 212 = .ok (.istore 13, 2) := by decide +kernel
theorem dL_law_214 : decode cL_law 214 = .ok (.iload 9, 2) := by decide +kernel
theorem dL_law_216 : decode cL_law 216 = .ok (.aload_n 1, 1) := by decide +kernel
theorem dL_law_217 : decode cL_law 217 = .ok (.iload 7, 2) := by decide +kernel
theorem dL_law_219 : decode cL_law 219 = .ok (.iconst 2, 1) := by decide +kernel
theorem dL_law_220 : decode cL_law 220 = .ok (.invokevirtual 95, 3) := by decide +kernel
theorem dL_law_223 : decode cL_law 223 = .ok (.if_icmp .lt 23, 3) := by decide +kernel
theorem dL_law_226 : decode cL_law 226 = .ok (.iload 9, 2) := by decide +kernel
theorem dL_law_228 : decode cL_law 228 = .ok (.iload 13, 2) := by decide +kernel
theorem dL_law_230 : decode cL_law 230 = .ok (.if_icmp .gt 16, 3) := by decide +kernel
theorem dL_law_233 : decode cL_law 233 = .ok (.aload_n 1, 1) := by decide +kernel
theorem dL_law_234 : decode cL_law 234 = .ok (.iconst 1, 1) := by decide +kernel
theorem dL_law_235 : decode cL_law 235 = .ok (.invokevirtual 107, 3) := by decide +kernel
theorem dL_law_238 : decode cL_law 238 = .ok (.iload 13, 2) := by decide +kernel
theorem dL_law_240 : decode cL_law 240 = .ok (.iload 10, 2) := by decide +kernel
theorem dL_law_242 : decode cL_law 242 = .ok (.isub, 1) := by decide +kernel
theorem dL_law_243 : decode cL_law 243 = .ok (.if_icmp .eq 5, 3) := by decide +kernel
theorem dL_law_246 : decode cL_law 246 = .ok (.iconst 0, 1) := by decide +kernel
theorem dL_law_247 : decode cL_law 247 = .ok (.ireturn, 1) := by decide +kernel
theorem dL_law_248 : decode cL_law 248 = .ok (.aload_n 2, 1) := by decide +kernel
theorem dL_law_249 : decode cL_law 249 = .ok (.invokevirtual 110, 3) := by decide +kernel
theorem dL_law_252 : decode cL_law 252 = .ok (.aload_n 1, 1) := by decide +kernel
theorem dL_law_253 : decode cL_law 253 = .ok (.iconst 2, 1) := by decide +kernel
theorem dL_law_254 : decode cL_law 254 = .ok (.invokevirtual 91, 3) := by decide +kernel
theorem dL_law_257 : decode cL_law 257 = .ok (.iload 10, 2) := by decide +kernel
theorem dL_law_259 : decode cL_law 259 = .ok (.if_icmp .ne 69, 3) := by decide +kernel
theorem dL_law_262 : decode cL_law 262 = .ok (.aload_n 1, 1) := by decide +kernel
theorem dL_law_263 : decode cL_law 263 = .ok (.iconst 4, 1) := by decide +kernel
theorem dL_law_264 : decode cL_law 264 = .ok (.invokevirtual 91, 3) := by decide +kernel
theorem dL_law_267 : decode cL_law 267 = .ok (.iload 11, 2) := by decide +kernel
theorem dL_law_269 : decode cL_law 269 = .ok (.if_icmp .ne 59, 3) := by decide +kernel
theorem dL_law_272 : decode cL_law 272 = .ok (.aload_n 1, 1) := by decide +kernel
theorem dL_law_273 : decode cL_law 273 = .ok (.iconst 5, 1) := by decide +kernel
theorem dL_law_274 : decode cL_law 274 = .ok (.invokevirtual 91, 3) := by decide +kernel
theorem dL_law_277 : decode cL_law 277 = .ok (.iload 12, 2) := by decide +kernel
theorem dL_law_279 : decode cL_law 279 = .ok (.if_icmp .ne 49, 3) := by decide +kernel
theorem dL_law_282 : decode cL_law 282 = .ok (.iload 8, 2) := by decide +kernel
theorem dL_law_284 : decode cL_law 284 = .ok (.iconst 1, 1) := by decide +kernel
theorem dL_law_285 : decode cL_law 285 = .ok (.if_icmp .le 16, 3) := by decide +kernel
theorem dL_law_288 : decode cL_law 288 = .ok (.aload_n 1, 1) := by decide +kernel
theorem dL_law_289 : decode cL_law 289 = .ok (.iload 7, 2) := by decide +kernel
theorem dL_law_291 : decode cL_law 291 = .ok (.invokevirtual 98, 3) := by decide +kernel
theorem dL_law_294 : decode cL_law 294 = .ok (.iload 8, 2) := by decide +kernel
theorem dL_law_296 : decode cL_law 296 = .ok (.iconst 1, 1) := by decide +kernel
theorem dL_law_297 : decode cL_law 297 = .ok (.isub, 1) := by decide +kernel
theorem dL_law_298 : decode cL_law 298 = .ok (.if_icmp .ne 30, 3) := by decide +kernel
theorem dL_law_301 : decode cL_law 301 = .ok (.iload 8, 2) := by decide +kernel
theorem dL_law_303 : decode cL_law 303 = .ok (.iconst 1, 1) := by decide +kernel
theorem dL_law_304 : decode cL_law 304 = .ok (.if_icmp .ne 13, 3) := by decide +kernel
theorem dL_law_307 : decode cL_law 307 = .ok (.aload_n 1, 1) := by decide +kernel
theorem dL_law_308 : decode cL_law 308 = .ok (.iload 7, 2) := by decide +kernel
theorem dL_law_310 : decode cL_law 310 = .ok (.iconst 2, 1) := by decide +kernel
theorem dL_law_311 : decode cL_law 311 = .ok (.invokevirtual 95, 3) := by decide +kernel
theorem dL_law_314 : decode cL_law 314 = .ok (.ifCond .ne 14, 3) := by decide +kernel
theorem dL_law_317 : decode cL_law 317 = .ok (.aload_n 1, 1) := by decide +kernel
theorem dL_law_318 : decode cL_law 318 = .ok (.iconst 0, 1) := by decide +kernel
theorem dL_law_319 : decode cL_law 319 = .ok (.invokevirtual 91, 3) := by decide +kernel
theorem dL_law_322 : decode cL_law 322 = .ok (.iload_n 3, 1) := by decide +kernel
theorem dL_law_323 : decode cL_law 323 = .ok (.iconst 1, 1) := by decide +kernel
theorem dL_law_324 : decode cL_law 324 = .ok (.iadd, 1) := by decide +kernel
theorem dL_law_325 : decode cL_law 325 = .ok (.if_icmp .eq 5, 3) := by decide +kernel
theorem dL_law_328 : decode cL_law 328 = .ok (.iconst 0, 1) := by decide +kernel
theorem dL_law_329 : decode cL_law 329 = .ok (.ireturn, 1) := by decide +kernel
theorem dL_law_330 : decode cL_law 330 = .ok (.iconst 0, 1) := by decide +kernel
theorem dL_law_331 : decode cL_law 331 = .ok (.istore 14, 2) := by decide +kernel
theorem dL_law_333 : decode cL_law 333 = .ok (.iconst 0, 1) := by decide +kernel
theorem dL_law_334 : decode cL_law 334 = .ok (.istore 15, 2) := by decide +kernel
theorem dL_law_336 : decode cL_law 336 = .ok (.iconst 0, 1) := by decide +kernel
theorem dL_law_337 : decode cL_law 337 = .ok (.istore 16, 2) := by decide +kernel
theorem dL_law_339 : decode cL_law 339 = .ok (.iload 5, 2) := by decide +kernel
theorem dL_law_341 : decode cL_law 341 = .ok (.newarray .int, 2) := by decide +kernel
theorem dL_law_343 : decode cL_law 343 = .ok (.astore 17, 2) := by decide +kernel
theorem dL_law_345 : decode cL_law 345 = .ok (.iload 5, 2) := by decide +kernel
theorem dL_law_347 : decode cL_law 347 = .ok (.iconst 1, 1) := by decide +kernel
theorem dL_law_348 : decode cL_law 348 = .ok (.isub, 1) := by decide +kernel
theorem dL_law_349 : decode cL_law 349 = .ok (.istore 18, 2) := by decide +kernel
theorem dL_law_351 : decode cL_law 351 = .ok (.iload 18, 2) := by decide +kernel
theorem dL_law_353 : decode cL_law 353 = .ok (.ifCond .lt 435, 3) := by decide +kernel
theorem dL_law_356 : decode cL_law 356 = .ok (.aload_n 1, 1) := by decide +kernel
theorem dL_law_357 : decode cL_law 357 = .ok (.iload 18, 2) := by decide +kernel
theorem dL_law_359 : decode cL_law 359 = .ok (.iconst 4, 1) := by decide +kernel
theorem dL_law_360 : decode cL_law 360 = .ok (.invokevirtual 95, 3) := by decide +kernel
theorem dL_law_363 : decode cL_law 363 = .ok (.istore 19, 2) := by decide +kernel
theorem dL_law_365 : decode cL_law 365 = .ok (.aload_n 1, 1) := by decide +kernel
theorem dL_law_366 : decode cL_law 366 = .ok (.iload 18, 2) := by decide +kernel
theorem dL_law_368 : decode cL_law 368 = .ok (.iconst 5, 1) := by decide +kernel
theorem dL_law_369 : decode cL_law 369 = .ok (.invokevirtual 95, 3) := by decide +kernel
theorem dL_law_372 : decode cL_law 372 = .ok (.istore 20, 2) := by decide +kernel
theorem dL_law_374 : decode cL_law 374 = .ok (.aload_n 1, 1) := by decide +kernel
theorem dL_law_375 : decode cL_law 375 = .ok (.iload 18, 2) := by decide +kernel
theorem dL_law_377 : decode cL_law 377 = .ok (.bipush 7, 2) := by decide +kernel
theorem dL_law_379 : decode cL_law 379 = .ok (.invokevirtual 95, 3) := by decide +kernel
theorem dL_law_382 : decode cL_law 382 = .ok (.istore 21, 2) := by decide +kernel
theorem dL_law_384 : decode cL_law 384 = .ok (.aload_n 1, 1) := by decide +kernel
theorem dL_law_385 : decode cL_law 385 = .ok (.iload 18, 2) := by decide +kernel
theorem dL_law_387 : decode cL_law 387 = .ok (.iconst 2, 1) := by decide +kernel
theorem dL_law_388 : decode cL_law 388 = .ok (.invokevirtual 95, 3) := by decide +kernel
theorem dL_law_391 : decode cL_law 391 = .ok (.ifCond .ne 82, 3) := by decide +kernel
theorem dL_law_394 : decode cL_law 394 = .ok (.iload 19, 2) := by decide +kernel
theorem dL_law_396 : decode cL_law 396 = .ok (.iconst (-1), 1) := by decide +kernel
theorem dL_law_397 : decode cL_law 397 = .ok (.if_icmp .ne 74, 3) := by decide +kernel
theorem dL_law_400 : decode cL_law 400 = .ok (.iload 20, 2) := by decide +kernel
theorem dL_law_402 : decode cL_law 402 = .ok (.iconst (-1), 1) := by decide +kernel
theorem dL_law_403 : decode cL_law 403 = .ok (.if_icmp .ne 68, 3) := by decide +kernel
theorem dL_law_406 : decode cL_law 406 = .ok (.iload 21, 2) := by decide +kernel
theorem dL_law_408 : decode cL_law 408 = .ok (.ifCond .ne 63, 3) := by decide +kernel
theorem dL_law_411 : decode cL_law 411 = .ok (.aload_n 1, 1) := by decide +kernel
theorem dL_law_412 : decode cL_law 412 = .ok (.iload 18, 2) := by decide +kernel
theorem dL_law_414 : decode cL_law 414 = .ok (.iconst 3, 1) := by decide +kernel
theorem dL_law_415 : decode cL_law 415 = .ok (.invokevirtual 95, 3) := by decide +kernel
theorem dL_law_418 : decode cL_law 418 = .ok (.ifCond .ne 53, 3) := by decide +kernel
theorem dL_law_421 : decode cL_law 421 = .ok (.aload_n 1, 1) := by decide +kernel
theorem dL_law_422 : decode cL_law 422 = .ok (.iload 18, 2) := by decide +kernel
theorem dL_law_424 : decode cL_law 424 = .ok (.bipush 8, 2) := by decide +kernel
theorem dL_law_426 : decode cL_law 426 = .ok (.invokevirtual 95, 3) := by decide +kernel
theorem dL_law_429 : decode cL_law 429 = .ok (.ifCond .ne 42, 3) := by decide +kernel
theorem dL_law_432 : decode cL_law 432 = .ok (.aload_n 1, 1) := by decide +kernel
theorem dL_law_433 : decode cL_law 433 = .ok (.iload 18, 2) := by decide +kernel
theorem dL_law_435 : decode cL_law 435 = .ok (.bipush 9, 2) := by decide +kernel
theorem dL_law_437 : decode cL_law 437 = .ok (.invokevirtual 95, 3) := by decide +kernel
theorem dL_law_440 : decode cL_law 440 = .ok (.ifCond .ne 31, 3) := by decide +kernel
theorem dL_law_443 : decode cL_law 443 = .ok (.aload_n 1, 1) := by decide +kernel
theorem dL_law_444 : decode cL_law 444 = .ok (.iload 18, 2) := by decide +kernel
theorem dL_law_446 : decode cL_law 446 = .ok (.invokevirtual 112, 3) := by decide +kernel
theorem dL_law_449 : decode cL_law 449 = .ok (.iconst (-1), 1) := by decide +kernel
theorem dL_law_450 : decode cL_law 450 = .ok (.if_icmp .ne 21, 3) := by decide +kernel
theorem dL_law_453 : decode cL_law 453 = .ok (.aload_n 1, 1) := by decide +kernel
theorem dL_law_454 : decode cL_law 454 = .ok (.iload 18, 2) := by decide +kernel
theorem dL_law_456 : decode cL_law 456 = .ok (.invokevirtual 101, 3) := by decide +kernel
theorem dL_law_459 : decode cL_law 459 = .ok (.ifCond .ne 12, 3) := by decide +kernel
theorem dL_law_462 : decode cL_law 462 = .ok (.aload_n 1, 1) := by decide +kernel
theorem dL_law_463 : decode cL_law 463 = .ok (.iload 18, 2) := by decide +kernel
theorem dL_law_465 : decode cL_law 465 = .ok (.invokevirtual 98, 3) := by decide +kernel
theorem dL_law_468 : decode cL_law 468 = .ok (.ifCond .eq 314, 3) := by decide +kernel
theorem dL_law_471 : decode cL_law 471 = .ok (.iconst 0, 1) := by decide +kernel
theorem dL_law_472 : decode cL_law 472 = .ok (.ireturn, 1) := by decide +kernel
theorem dL_law_473 : decode cL_law 473 = .ok (.iinc 14 1, 3) := by decide +kernel
theorem dL_law_476 : decode cL_law 476 = .ok (.iload 15, 2) := by decide +kernel
theorem dL_law_478 : decode cL_law 478 = .ok (.aload_n 1, 1) := by decide +kernel
theorem dL_law_479 : decode cL_law 479 = .ok (.iload 18, 2) := by decide +kernel
theorem dL_law_481 : decode cL_law 481 = .ok (.iconst 3, 1) := by decide +kernel
theorem dL_law_482 : decode cL_law 482 = .ok (.invokevirtual 95, 3) := by decide +kernel
theorem dL_law_485 : decode cL_law 485 = .ok (.ifCond .le 7, 3) := by decide +kernel
theorem dL_law_488 : decode cL_law 488 = .ok (.iconst 1, 1) := by decide +kernel
theorem dL_law_489 : decode cL_law 489 = .ok (.goto 4, 3) := by decide +kernel
theorem dL_law_492 : decode cL_law 492 = .ok (.iconst 0, 1) := by decide +kernel
theorem dL_law_493 : decode cL_law 493 = .ok (.iadd, 1) := by decide +kernel
theorem dL_law_494 : decode cL_law 494 = .ok (.istore 15, 2) := by decide +kernel
theorem dL_law_496 : decode cL_law 496 = .ok (.iload 16, 2) := by decide +kernel
theorem dL_law_498 : decode cL_law 498 = .ok (.aload_n 1, 1) := by decide +kernel
theorem dL_law_499 : decode cL_law 499 = .ok (.iload 18, 2) := by decide +kernel
theorem dL_law_501 : decode cL_law 501 = .ok (.iconst 3, 1) := by decide +kernel
theorem dL_law_502 : decode cL_law 502 = .ok (.invokevirtual 95, 3) := by decide +kernel
theorem dL_law_505 : decode cL_law 505 = .ok (.iadd, 1) := by decide +kernel
theorem dL_law_506 : decode cL_law 506 = .ok (.istore 16, 2) := by decide +kernel
theorem dL_law_508 : decode cL_law 508 = .ok (.aload_n 1, 1) := by decide +kernel
theorem dL_law_509 : decode cL_law 509 = .ok (.iload 18, 2) := by decide +kernel
theorem dL_law_511 : decode cL_law 511 = .ok (.iconst 3, 1) := by decide +kernel
theorem dL_law_512 : decode cL_law 512 = .ok (.invokevirtual 95, 3) := by decide +kernel
theorem dL_law_515 : decode cL_law 515 = .ok (.ifCond .le 7, 3) := by decide +kernel
theorem dL_law_518 : decode cL_law 518 = .ok (.iconst 1, 1) := by decide +kernel
theorem dL_law_519 : decode cL_law 519 = .ok (.goto 4, 3) := by decide +kernel
theorem dL_law_522 : decode cL_law 522 = .ok (.iconst 0, 1) := by decide +kernel
theorem dL_law_523 : decode cL_law 523 = .ok (.iload 19, 2) := by decide +kernel
theorem dL_law_525 : decode cL_law 525 = .ok (.ifCond .lt 7, 3) := by decide +kernel
theorem dL_law_528 : decode cL_law 528 = .ok (.iconst 1, 1) := by decide +kernel
theorem dL_law_529 : decode cL_law 529 = .ok (.goto 4, 3) := by decide +kernel
theorem dL_law_532 : decode cL_law 532 = .ok (.iconst 0, 1) := by decide +kernel
theorem dL_law_533 : decode cL_law 533 = .ok (.if_icmp .eq 42, 3) := by decide +kernel
theorem dL_law_536 : decode cL_law 536 = .ok (.aload_n 1, 1) := by decide +kernel
theorem dL_law_537 : decode cL_law 537 = .ok (.iload 18, 2) := by decide +kernel
theorem dL_law_539 : decode cL_law 539 = .ok (.iconst 3, 1) := by decide +kernel
theorem dL_law_540 : decode cL_law 540 = .ok (.invokevirtual 95, 3) := by decide +kernel
theorem dL_law_543 : decode cL_law 543 = .ok (.ifCond .le 15, 3) := by decide +kernel
theorem dL_law_546 : decode cL_law 546 = .ok (.aload_n 1, 1) := by decide +kernel
theorem dL_law_547 : decode cL_law 547 = .ok (.iload 18, 2) := by decide +kernel
theorem dL_law_549 : decode cL_law 549 = .ok (.iconst 3, 1) := by decide +kernel
theorem dL_law_550 : decode cL_law 550 = .ok (.invokevirtual 95, 3) := by decide +kernel
theorem dL_law_553 : decode cL_law 553 = .ok (.iload 21, 2) := by decide +kernel
theorem dL_law_555 : decode cL_law 555 = .ok (.if_icmp .lt 20, 3) := by decide +kernel
theorem dL_law_558 : decode cL_law 558 = .ok (.iload 20, 2) := by decide +kernel
theorem dL_law_560 : decode cL_law 560 = .ok (.ifCond .lt 17, 3) := by decide +kernel
theorem dL_law_563 : decode cL_law 563 = .ok (.iload 19, 2) := by decide +kernel
theorem dL_law_565 : decode cL_law 565 = .ok (.ifCond .lt 10, 3) := by decide +kernel
theorem dL_law_568 : decode cL_law 568 = .ok (.iload 19, 2) := by decide +kernel
theorem dL_law_570 : decode cL_law 570 = .ok (.iload 20, 2) := by decide +kernel
theorem dL_law_572 : decode cL_law 572 = .ok (.if_icmp .ne 5, 3) := by decide +kernel
theorem dL_law_575 : decode cL_law 575 = .ok (.iconst 0, 1) := by decide +kernel
theorem dL_law_576 : decode cL_law 576 = .ok (.ireturn, 1) := by decide +kernel
theorem dL_law_577 : decode cL_law 577 = .ok (.aload_n 1, 1) := by decide +kernel
theorem dL_law_578 : decode cL_law 578 = .ok (.iload 18, 2) := by decide +kernel
theorem dL_law_580 : decode cL_law 580 = .ok (.bipush 8, 2) := by decide +kernel
theorem dL_law_582 : decode cL_law 582 = .ok (.invokevirtual 95, 3) := by decide +kernel
theorem dL_law_585 : decode cL_law 585 = .ok (.aload 17, 2) := by decide +kernel
theorem dL_law_587 : decode cL_law 587 = .ok (.iload 18, 2) := by decide +kernel
theorem dL_law_589 : decode cL_law 589 = .ok (.iaload, 1) := by decide +kernel
theorem dL_law_590 : decode cL_law 590 = .ok (.if_icmp .ne 49, 3) := by decide +kernel
theorem dL_law_593 : decode cL_law 593 = .ok (.aload 17, 2) := by decide +kernel
theorem dL_law_595 : decode cL_law 595 = .ok (.iload 18, 2) := by decide +kernel
theorem dL_law_597 : decode cL_law 597 = .ok (.iaload, 1) := by decide +kernel
theorem dL_law_598 : decode cL_law 598 = .ok (.aload_n 1, 1) := by decide +kernel
theorem dL_law_599 : decode cL_law 599 = .ok (.iload 18, 2) := by decide +kernel
theorem dL_law_601 : decode cL_law 601 = .ok (.iconst 1, 1) := by decide +kernel
theorem dL_law_602 : decode cL_law 602 = .ok (.invokevirtual 95, 3) := by decide +kernel
theorem dL_law_605 : decode cL_law 605 = .ok (.if_icmp .gt 34, 3) := by decide +kernel
theorem dL_law_608 : decode cL_law 608 = .ok (.iload 21, 2) := by decide +kernel
theorem dL_law_610 : decode cL_law 610 = .ok (.iconst 0, 1) := by decide +kernel
theorem dL_law_611 : decode cL_law 611 = .ok (.aload_n 1, 1) := by decide +kernel
theorem dL_law_612 : decode cL_law 612 = .ok (.iload 18, 2) := by decide +kernel
theorem dL_law_614 : decode cL_law 614 = .ok (.iconst 0, 1) := by decide +kernel
theorem dL_law_615 : decode cL_law 615 = .ok (.invokevirtual 95, 3) := by decide +kernel
theorem dL_law_618 : decode cL_law 618 = .ok (.aload 17, 2) := by decide +kernel
theorem dL_law_620 : decode cL_law 620 = .ok (.iload 18, 2) := by decide +kernel
theorem dL_law_622 : decode cL_law 622 = .ok (.iaload, 1) := by decide +kernel
theorem dL_law_623 : decode cL_law 623 = .ok (.iadd, 1) := by decide +kernel
theorem dL_law_624 : decode cL_law 624 = .ok (.aload_n 1, 1) := by decide +kernel
theorem dL_law_625 : decode cL_law 625 = .ok (.iload 18, 2) := by decide +kernel
theorem dL_law_627 : decode cL_law 627 = .ok (.bipush 6, 2) := by decide +kernel
theorem dL_law_629 : decode cL_law 629 = .ok (.invokevirtual 95, 3) := by decide +kernel
theorem dL_law_632 : decode cL_law 632 = .ok (.isub, 1) := by decide +kernel
theorem dL_law_633 : decode cL_law 633 = .ok (.invokestatic 115, 3) := by decide +kernel
theorem dL_law_636 : decode cL_law 636 = .ok (.if_icmp .eq 5, 3) := by decide +kernel
theorem dL_law_639 : decode cL_law 639 = .ok (.iconst 0, 1) := by decide +kernel
theorem dL_law_640 : decode cL_law 640 = .ok (.ireturn, 1) := by decide +kernel
theorem dL_law_641 : decode cL_law 641 = .ok (.iload 19, 2) := by decide +kernel
theorem dL_law_643 : decode cL_law 643 = .ok (.ifCond .lt 88, 3) := by decide +kernel
theorem dL_law_646 : decode cL_law 646 = .ok (.iload 19, 2) := by decide +kernel
theorem dL_law_648 : decode cL_law 648 = .ok (.iload 18, 2) := by decide +kernel
theorem dL_law_650 : decode cL_law 650 = .ok (.if_icmp .ge 37, 3) := by decide +kernel
theorem dL_law_653 : decode cL_law 653 = .ok (.aload_n 1, 1) := by decide +kernel
theorem dL_law_654 : decode cL_law 654 = .ok (.iload 19, 2) := by decide +kernel
theorem dL_law_656 : decode cL_law 656 = .ok (.iconst 2, 1) := by decide +kernel
theorem dL_law_657 : decode cL_law 657 = .ok (.invokevirtual 95, 3) := by decide +kernel
theorem dL_law_660 : decode cL_law 660 = .ok (.iconst 1, 1) := by decide +kernel
theorem dL_law_661 : decode cL_law 661 = .ok (.if_icmp .ne 26, 3) := by decide +kernel
theorem dL_law_664 : decode cL_law 664 = .ok (.iload 20, 2) := by decide +kernel
theorem dL_law_666 : decode cL_law 666 = .ok (.iload 18, 2) := by decide +kernel
theorem dL_law_668 : decode cL_law 668 = .ok (.if_icmp .ge 19, 3) := by decide +kernel
theorem dL_law_671 : decode cL_law 671 = .ok (.iload 20, 2) := by decide +kernel
theorem dL_law_673 : decode cL_law 673 = .ok (.ifCond .lt 16, 3) := by decide +kernel
theorem dL_law_676 : decode cL_law 676 = .ok (.aload_n 1, 1) := by decide +kernel
theorem dL_law_677 : decode cL_law 677 = .ok (.iload 20, 2) := by decide +kernel
theorem dL_law_679 : decode cL_law 679 = .ok (.iconst 2, 1) := by decide +kernel
theorem dL_law_680 : decode cL_law 680 = .ok (.invokevirtual 95, 3) := by decide +kernel
theorem dL_law_683 : decode cL_law 683 = .ok (.iconst 1, 1) := by decide +kernel
theorem dL_law_684 : decode cL_law 684 = .ok (.if_icmp .eq 5, 3) := by decide +kernel
theorem dL_law_687 : decode cL_law 687 = .ok (.iconst 0, 1) := by decide +kernel
theorem dL_law_688 : decode cL_law 688 = .ok (.ireturn, 1) := by decide +kernel
theorem dL_law_689 : decode cL_law 689 = .ok (.aload 17, 2) := by decide +kernel
theorem dL_law_691 : decode cL_law 691 = .ok (.iload 19, 2) := by decide +kernel
theorem dL_law_693 : decode cL_law 693 = .ok (.dup2, 1) := by decide +kernel
theorem dL_law_694 : decode cL_law 694 = .ok (.iaload, 1) := by decide +kernel
theorem dL_law_695 : decode cL_law 695 = .ok (.iload 20, 2) := by decide +kernel
theorem dL_law_697 : decode cL_law 697 = .ok (.ifCond .ge 8, 3) := by decide +kernel
theorem dL_law_700 : decode cL_law 700 = .ok (.iload 21, 2) := by decide +kernel
theorem dL_law_702 : decode cL_law 702 = .ok (.goto 10, 3) := by decide +kernel
theorem dL_law_705 : decode cL_law 705 = .ok (.iload 21, 2) := by decide +kernel
theorem dL_law_707 : decode cL_law 707 = .ok (.iload 21, 2) := by decide +kernel
theorem dL_law_709 : decode cL_law 709 = .ok (.iconst 2, 1) := by decide +kernel
theorem dL_law_710 : decode cL_law 710 = .ok (.idiv, 1) := by decide +kernel
theorem dL_law_711 : decode cL_law 711 = .ok (.isub, 1) := by decide +kernel
theorem dL_law_712 : decode cL_law 712 = .ok (.iadd, 1) := by decide +kernel
theorem dL_law_713 : decode cL_law 713 = .ok (.iastore, 1) := by decide +kernel
theorem dL_law_714 : decode cL_law 714 = .ok (.iload 20, 2) := by decide +kernel
theorem dL_law_716 : decode cL_law 716 = .ok (.ifCond .lt 15, 3) := by decide +kernel
theorem dL_law_719 : decode cL_law 719 = .ok (.aload 17, 2) := by decide +kernel
theorem dL_law_721 : decode cL_law 721 = .ok (.iload 20, 2) := by decide +kernel
theorem dL_law_723 : decode cL_law 723 = .ok (.dup2, 1) := by decide +kernel
theorem dL_law_724 : decode cL_law 724 = .ok (.iaload, 1) := by decide +kernel
theorem dL_law_725 : decode cL_law 725 = .ok (.iload 21, 2) := by decide +kernel
theorem dL_law_727 : decode cL_law 727 = .ok (.iconst 2, 1) := by decide +kernel
theorem dL_law_728 : decode cL_law 728 = .ok (.idiv, 1) := by decide +kernel
theorem dL_law_729 : decode cL_law 729 = .ok (.iadd, 1) := by decide +kernel
theorem dL_law_730 : decode cL_law 730 = .ok (.iastore, 1) := by decide +kernel
theorem dL_law_731 : decode cL_law 731 = .ok (.aload_n 1, 1) := by decide +kernel
theorem dL_law_732 : decode cL_law 732 = .ok (.iload 18, 2) := by decide +kernel
theorem dL_law_734 : decode cL_law 734 = .ok (.invokevirtual 112, 3) := by decide +kernel
theorem dL_law_737 : decode cL_law 737 = .ok (.istore 22, 2) := by decide +kernel
theorem dL_law_739 : decode cL_law 739 = .ok (.iload 22, 2) := by decide +kernel
theorem dL_law_741 : decode cL_law 741 = .ok (.ifCond .lt 39, 3) := by decide +kernel
theorem dL_law_744 : decode cL_law 744 = .ok (.aload_n 1, 1) := by decide +kernel
theorem dL_law_745 : decode cL_law 745 = .ok (.iload 22, 2) := by decide +kernel
theorem dL_law_747 : decode cL_law 747 = .ok (.iconst 3, 1) := by decide +kernel
theorem dL_law_748 : decode cL_law 748 = .ok (.invokevirtual 95, 3) := by decide +kernel
theorem dL_law_751 : decode cL_law 751 = .ok (.ifCond .eq 29, 3) := by decide +kernel
theorem dL_law_754 : decode cL_law 754 = .ok (.iload 19, 2) := by decide +kernel
theorem dL_law_756 : decode cL_law 756 = .ok (.ifCond .ge 13, 3) := by decide +kernel
theorem dL_law_759 : decode cL_law 759 = .ok (.iload 22, 2) := by decide +kernel
theorem dL_law_761 : decode cL_law 761 = .ok (.iload 18, 2) := by decide +kernel
theorem dL_law_763 : decode cL_law 763 = .ok (.if_icmp .eq 19, 3) := by decide +kernel
theorem dL_law_766 : decode cL_law 766 = .ok (.goto 14, 3) := by decide +kernel
theorem dL_law_769 : decode cL_law 769 = .ok (.iload 22, 2) := by decide +kernel
theorem dL_law_771 : decode cL_law 771 = .ok (.aload_n 1, 1) := by decide +kernel
theorem dL_law_772 : decode cL_law 772 = .ok (.iload 19, 2) := by decide +kernel
theorem dL_law_774 : decode cL_law 774 = .ok (.invokevirtual 112, 3) := by decide +kernel
theorem dL_law_777 : decode cL_law 777 = .ok (.if_icmp .eq 5, 3) := by decide +kernel
theorem dL_law_780 : decode cL_law 780 = .ok (.iconst 0, 1) := by decide +kernel
theorem dL_law_781 : decode cL_law 781 = .ok (.ireturn, 1) := by decide +kernel
theorem dL_law_782 : decode cL_law 782 = .ok (.iinc 18 (-1), 3) := by decide +kernel
theorem dL_law_785 : decode cL_law 785 = .ok (.goto (-434), 3) := by decide +kernel
theorem dL_law_788 : decode cL_law 788 = .ok (.iload 14, 2) := by decide +kernel
theorem dL_law_790 : decode cL_law 790 = .ok (.iload 10, 2) := by decide +kernel
theorem dL_law_792 : decode cL_law 792 = .ok (.if_icmp .ne 23, 3) := by decide +kernel
theorem dL_law_795 : decode cL_law 795 = .ok (.aload_n 1, 1) := by decide +kernel
theorem dL_law_796 : decode cL_law 796 = .ok (.iconst 3, 1) := by decide +kernel
theorem dL_law_797 : decode cL_law 797 = .ok (.invokevirtual 91, 3) := by decide +kernel
theorem dL_law_800 : decode cL_law 800 = .ok (.iload 15, 2) := by decide +kernel
theorem dL_law_802 : decode cL_law 802 = .ok (.if_icmp .ne 13, 3) := by decide +kernel
theorem dL_law_805 : decode cL_law 805 = .ok (.aload_n 1, 1) := by decide +kernel
theorem dL_law_806 : decode cL_law 806 = .ok (.iconst 5, 1) := by decide +kernel
theorem dL_law_807 : decode cL_law 807 = .ok (.invokevirtual 91, 3) := by decide +kernel
theorem dL_law_810 : decode cL_law 810 = .ok (.iload 16, 2) := by decide +kernel
theorem dL_law_812 : decode cL_law 812 = .ok (.if_icmp .eq 5, 3) := by decide +kernel
theorem dL_law_815 : decode cL_law 815 = .ok (.iconst 0, 1) := by decide +kernel
theorem dL_law_816 : decode cL_law 816 = .ok (.ireturn, 1) := by decide +kernel
theorem dL_law_817 : decode cL_law 817 = .ok (.iconst 0, 1) := by decide +kernel
theorem dL_law_818 : decode cL_law 818 = .ok (.istore 18, 2) := by decide +kernel
theorem dL_law_820 : decode cL_law 820 = .ok (.iload 18, 2) := by decide +kernel
theorem dL_law_822 : decode cL_law 822 = .ok (.aload_n 2, 1) := by decide +kernel
theorem dL_law_823 : decode cL_law 823 = .ok (.getfield 64, 3) := by decide +kernel
theorem dL_law_826 : decode cL_law 826 = .ok (.arraylength, 1) := by decide +kernel
theorem dL_law_827 : decode cL_law 827 = .ok (.if_icmp .ge 161, 3) := by decide +kernel
theorem dL_law_830 : decode cL_law 830 = .ok (.aload_n 1, 1) := by decide +kernel
theorem dL_law_831 : decode cL_law 831 = .ok (.iload 18, 2) := by decide +kernel
theorem dL_law_833 : decode cL_law 833 = .ok (.iconst 0, 1) := by decide +kernel
theorem dL_law_834 : decode cL_law 834 = .ok (.invokevirtual 120, 3) := by decide +kernel
theorem dL_law_837 : decode cL_law 837 = .ok (.istore 19, 2) := by decide +kernel
theorem dL_law_839 : decode cL_law 839 = .ok (.aload_n 1, 1) := by decide +kernel
theorem dL_law_840 : decode cL_law 840 = .ok (.iload 18, 2) := by decide +kernel
theorem dL_law_842 : decode cL_law 842 = .ok (.iconst 1, 1) := by decide +kernel
theorem dL_law_843 : decode cL_law 843 = .ok (.invokevirtual 120, 3) := by decide +kernel
theorem dL_law_846 : decode cL_law 846 = .ok (.istore 20, 2) := by decide +kernel
theorem dL_law_848 : decode cL_law 848 = .ok (.aload_n 1, 1) := by decide +kernel
theorem dL_law_849 : decode cL_law 849 = .ok (.iload 19, 2) := by decide +kernel
theorem dL_law_851 : decode cL_law 851 = .ok (.iconst 2, 1) := by decide +kernel
theorem dL_law_852 : decode cL_law 852 = .ok (.invokevirtual 95, 3) := by decide +kernel
theorem dL_law_855 : decode cL_law 855 = .ok (.iconst 1, 1) := by decide +kernel
theorem dL_law_856 : decode cL_law 856 = .ok (.if_icmp .ne 18, 3) := by decide +kernel
theorem dL_law_859 : decode cL_law 859 = .ok (.aload_n 1, 1) := by decide +kernel
theorem dL_law_860 : decode cL_law 860 = .ok (.iload 20, 2) := by decide +kernel
theorem dL_law_862 : decode cL_law 862 = .ok (.iconst 2, 1) := by decide +kernel
theorem dL_law_863 : decode cL_law 863 = .ok (.invokevirtual 95, 3) := by decide +kernel
theorem dL_law_866 : decode cL_law 866 = .ok (.iconst 1, 1) := by decide +kernel
theorem dL_law_867 : decode cL_law 867 = .ok (.if_icmp .ne 7, 3) := by decide +kernel
theorem dL_law_870 : decode cL_law 870 = .ok (.iconst 1, 1) := by decide +kernel
theorem dL_law_871 : decode cL_law 871 = .ok (.goto 4, 3) := by decide +kernel
theorem dL_law_874 : decode cL_law 874 = .ok (.iconst 0, 1) := by decide +kernel
theorem dL_law_875 : decode cL_law 875 = .ok (.istore 21, 2) := by decide +kernel
theorem dL_law_877 : decode cL_law 877 = .ok (.iload 19, 2) := by decide +kernel
theorem dL_law_879 : decode cL_law 879 = .ok (.iload 20, 2) := by decide +kernel
theorem dL_law_881 : decode cL_law 881 = .ok (.if_icmp .eq 99, 3) := by decide +kernel
theorem dL_law_884 : decode cL_law 884 = .ok (.aload_n 1, 1) := by decide +kernel
theorem dL_law_885 : decode cL_law 885 = .ok (.iload 18, 2) := by decide +kernel
theorem dL_law_887 : decode cL_law 887 = .ok (.iconst 2, 1) := by decide +kernel
theorem dL_law_888 : decode cL_law 888 = .ok (.invokevirtual 120, 3) := by decide +kernel
theorem dL_law_891 : decode cL_law 891 = .ok (.ifCond .ne 7, 3) := by decide +kernel
theorem dL_law_894 : decode cL_law 894 = .ok (.iconst 1, 1) := by decide +kernel
theorem dL_law_895 : decode cL_law 895 = .ok (.goto 4, 3) := by decide +kernel
theorem dL_law_898 : decode cL_law 898 = .ok (.iconst 0, 1) := by decide +kernel
theorem dL_law_899 : decode cL_law 899 = .ok (.iload 21, 2) := by decide +kernel
theorem dL_law_901 : decode cL_law 901 = .ok (.if_icmp .ne 79, 3) := by decide +kernel
theorem dL_law_904 : decode cL_law 904 = .ok (.iload 21, 2) := by decide +kernel
theorem dL_law_906 : decode cL_law 906 = .ok (.ifCond .eq 76, 3) := by decide +kernel
theorem dL_law_909 : decode cL_law 909 = .ok (.aload_n 1, 1) := by decide +kernel
theorem dL_law_910 : decode cL_law 910 = .ok (.iload 19, 2) := by decide +kernel
theorem dL_law_912 : decode cL_law 912 = .ok (.iload 20, 2) := by decide +kernel
theorem dL_law_914 : decode cL_law 914 = .ok (.invokevirtual 123, 3) := by decide +kernel
theorem dL_law_917 : decode cL_law 917 = .ok (.iconst 1, 1) := by decide +kernel
theorem dL_law_918 : decode cL_law 918 = .ok (.if_icmp .ne 62, 3) := by decide +kernel
theorem dL_law_921 : decode cL_law 921 = .ok (.aload_n 1, 1) := by decide +kernel
theorem dL_law_922 : decode cL_law 922 = .ok (.iload 7, 2) := by decide +kernel
theorem dL_law_924 : decode cL_law 924 = .ok (.iload 19, 2) := by decide +kernel
theorem dL_law_926 : decode cL_law 926 = .ok (.invokevirtual 123, 3) := by decide +kernel
theorem dL_law_929 : decode cL_law 929 = .ok (.ifCond .lt 7, 3) := by decide +kernel
theorem dL_law_932 : decode cL_law 932 = .ok (.iconst 1, 1) := by decide +kernel
theorem dL_law_933 : decode cL_law 933 = .ok (.goto 4, 3) := by decide +kernel
theorem dL_law_936 : decode cL_law 936 = .ok (.iconst 0, 1) := by decide +kernel
theorem dL_law_937 : decode cL_law 937 = .ok (.aload_n 1, 1) := by decide +kernel
theorem dL_law_938 : decode cL_law 938 = .ok (.iload 7, 2) := by decide +kernel
theorem dL_law_940 : decode cL_law 940 = .ok (.iload 20, 2) := by decide +kernel
theorem dL_law_942 : decode cL_law 942 = .ok (.invokevirtual 123, 3) := by decide +kernel
theorem dL_law_945 : decode cL_law 945 = .ok (.ifCond .lt 7, 3) := by decide +kernel
theorem dL_law_948 : decode cL_law 948 = .ok (.iconst 1, 1) := by decide +kernel
theorem dL_law_949 : decode cL_law 949 = .ok (.goto 4, 3) := by decide +kernel
theorem dL_law_952 : decode cL_law 952 = .ok (.iconst 0, 1) := by decide +kernel
theorem dL_law_953 : decode cL_law 953 = .ok (.if_icmp .ne 27, 3) := by decide +kernel
theorem dL_law_956 : decode cL_law 956 = .ok (.aload_n 1, 1) := by decide +kernel
theorem dL_law_957 : decode cL_law 957 = .ok (.iload 7, 2) := by decide +kernel
theorem dL_law_959 : decode cL_law 959 = .ok (.iload 19, 2) := by decide +kernel
theorem dL_law_961 : decode cL_law 961 = .ok (.invokevirtual 123, 3) := by decide +kernel
theorem dL_law_964 : decode cL_law 964 = .ok (.aload_n 1, 1) := by decide +kernel
theorem dL_law_965 : decode cL_law 965 = .ok (.iload 7, 2) := by decide +kernel
theorem dL_law_967 : decode cL_law 967 = .ok (.iload 20, 2) := by decide +kernel
theorem dL_law_969 : decode cL_law 969 = .ok (.invokevirtual 123, 3) := by decide +kernel
theorem dL_law_972 : decode cL_law 972 = .ok (.isub, 1) := by decide +kernel
theorem dL_law_973 : decode cL_law 973 = .ok (.invokestatic 126, 3) := by decide +kernel
theorem dL_law_976 : decode cL_law 976 = .ok (.iconst 1, 1) := by decide +kernel
theorem dL_law_977 : decode cL_law 977 = .ok (.if_icmp .le 5, 3) := by decide +kernel
theorem dL_law_980 : decode cL_law 980 = .ok (.iconst 0, 1) := by decide +kernel
theorem dL_law_981 : decode cL_law 981 = .ok (.ireturn, 1) := by decide +kernel
theorem dL_law_982 : decode cL_law 982 = .ok (.iinc 18 1, 3) := by decide +kernel
theorem dL_law_985 : decode cL_law 985 = .ok (.goto (-165), 3) := by decide +kernel
theorem dL_law_988 : decode cL_law 988 = .ok (.iinc 3 1, 3) := by decide +kernel
theorem dL_law_991 : decode cL_law 991 = .ok (.goto (-969), 3) := by decide +kernel
theorem dL_law_994 : decode cL_law 994 = .ok (.aload_n 2, 1) := by decide +kernel
theorem dL_law_995 : decode cL_law 995 = .ok (.aload_n 1, 1) := by decide +kernel
theorem dL_law_996 : decode cL_law 996 = .ok (.invokevirtual 129, 3) := by decide +kernel
theorem dL_law_999 : decode cL_law 999 = .ok (.ireturn, 1) := by decide +kernel
