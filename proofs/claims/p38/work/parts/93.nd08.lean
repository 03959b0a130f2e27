theorem dL_areRingsRight_245 : decode cL_areRingsRight 245 = .ok (.iload 5, 2) := by decide +kernel
theorem dL_areRingsRight_247 : decode cL_areRingsRight 247 = .ok (.aaload, 1) := by decide +kernel
theorem dL_areRingsRight_248 : decode cL_areRingsRight 248 = .ok (.iload 6, 2) := by decide +kernel
theorem dL_areRingsRight_250 : decode cL_areRingsRight 250 = .ok (.baload, 1) := by decide +kernel
theorem dL_areRingsRight_251 : decode cL_areRingsRight 251 = .ok (.ifCond .ne 17, 3) := by decide +kernel
theorem dL_areRingsRight_254 : decode cL_areRingsRight 254 = .ok (.aload_n 1, 1) := by decide +kernel
theorem dL_areRingsRight_255 : decode cL_areRingsRight 255 = .ok (.iload 6, 2) := by decide +kernel
theorem dL_areRingsRight_257 : decode cL_areRingsRight 257 = .ok (.aaload, 1) := by decide +kernel
theorem dL_areRingsRight_258 : decode cL_areRingsRight 258 = .ok (.iload 5, 2) := by decide +kernel
theorem dL_areRingsRight_260 : decode cL_areRingsRight 260 = .ok (.baload, 1) := by decide +kernel
theorem dL_areRingsRight_261 : decode cL_areRingsRight 261 = .ok (.ifCond .eq 7, 3) := by decide +kernel
theorem dL_areRingsRight_264 : decode cL_areRingsRight 264 = .ok (.iconst 1, 1) := by decide +kernel
theorem dL_areRingsRight_265 : decode cL_areRingsRight 265 = .ok (.goto 4, 3) := by decide +kernel
theorem dL_areRingsRight_268 : decode cL_areRingsRight 268 = .ok (.iconst 0, 1) := by decide +kernel
theorem dL_areRingsRight_269 : decode cL_areRingsRight 269 = .ok (.iadd, 1) := by decide +kernel
theorem dL_areRingsRight_270 : decode cL_areRingsRight 270 = .ok (.istore 4, 2) := by decide +kernel
theorem dL_areRingsRight_272 : decode cL_areRingsRight 272 = .ok (.iinc 6 1, 3) := by decide +kernel
theorem dL_areRingsRight_275 : decode cL_areRingsRight 275 = .ok (.goto (-40), 3) := by decide +kernel
theorem dL_areRingsRight_278 : decode cL_areRingsRight 278 = .ok (.iinc 5 1, 3) := by decide +kernel
theorem dL_areRingsRight_281 : decode cL_areRingsRight 281 = .ok (.goto (-56), 3) := by decide +kernel
theorem dL_areRingsRight_284 : decode cL_areRingsRight 284 = .ok (.aload_n 0, 1) := by decide +kernel
theorem dL_areRingsRight_285 : decode cL_areRingsRight 285 = .ok (.invokevirtual 48, 3) := by decide +kernel
theorem dL_areRingsRight_288 : decode cL_areRingsRight 288 = .ok (.iload_n 2, 1) := by decide +kernel
theorem dL_areRingsRight_289 : decode cL_areRingsRight 289 = .ok (.if_icmp .ne 64, 3) := by decide +kernel
theorem dL_areRingsRight_292 : decode cL_areRingsRight 292 = .ok (.iconst 2, 1) := by decide +kernel
theorem dL_areRingsRight_293 : decode cL_areRingsRight 293 = .ok (.aload_n 0, 1) := by decide +kernel
theorem dL_areRingsRight_294 : decode cL_areRingsRight 294 = .ok (.invokevirtual 45, 3) := by decide +kernel
theorem dL_areRingsRight_297 : decode cL_areRingsRight 297 = .ok (.imul, 1) := by decide +kernel
theorem dL_areRingsRight_298 : decode cL_areRingsRight 298 = .ok (.iload_n 3, 1) := by decide +kernel
theorem dL_areRingsRight_299 : decode cL_areRingsRight 299 = .ok (.iload 4, 2) := by decide +kernel
theorem dL_areRingsRight_301 : decode cL_areRingsRight 301 = .ok (.iadd, 1) := by decide +kernel
theorem dL_areRingsRight_302 : decode cL_areRingsRight 302 = .ok (.if_icmp .ne 51, 3) := by decide +kernel
theorem dL_areRingsRight_305 : decode cL_areRingsRight 305 = .ok (.aload_n 0, 1) := by decide +kernel
theorem dL_areRingsRight_306 : decode cL_areRingsRight 306 = .ok (.invokevirtual 133, 3) := by decide +kernel
theorem dL_areRingsRight_309 : decode cL_areRingsRight 309 = .ok (.iload_n 2, 1) := by decide +kernel
theorem dL_areRingsRight_310 : decode cL_areRingsRight 310 = .ok (.if_icmp .gt 43, 3) := by decide +kernel
theorem dL_areRingsRight_313 : decode cL_areRingsRight 313 = .ok (.aload_n 0, 1) := by decide +kernel
theorem dL_areRingsRight_314 : decode cL_areRingsRight 314 = .ok (.invokevirtual 96, 3) := by decide +kernel
theorem dL_areRingsRight_317 : decode cL_areRingsRight 317 = .ok (.ifCond .ne 7, 3) := by decide +kernel
theorem dL_areRingsRight_320 : decode cL_areRingsRight 320 = .ok (.iconst 1, 1) := by decide +kernel
theorem dL_areRingsRight_321 : decode cL_areRingsRight 321 = .ok (.goto 4, 3) := by decide +kernel
theorem dL_areRingsRight_324 : decode cL_areRingsRight 324 = .ok (.iconst 0, 1) := by decide +kernel
theorem dL_areRingsRight_325 : decode cL_areRingsRight 325 = .ok (.iload 4, 2) := by decide +kernel
theorem dL_areRingsRight_327 : decode cL_areRingsRight 327 = .ok (.ifCond .ne 7, 3) := by decide +kernel
theorem dL_areRingsRight_330 : decode cL_areRingsRight 330 = .ok (.iconst 1, 1) := by decide +kernel
theorem dL_areRingsRight_331 : decode cL_areRingsRight 331 = .ok (.goto 4, 3) := by decide +kernel
theorem dL_areRingsRight_334 : decode cL_areRingsRight 334 = .ok (.iconst 0, 1) := by decide +kernel
theorem dL_areRingsRight_335 : decode cL_areRingsRight 335 = .ok (.if_icmp .ne 18, 3) := by decide +kernel
theorem dL_areRingsRight_338 : decode cL_areRingsRight 338 = .ok (.iconst 3, 1) := by decide +kernel
theorem dL_areRingsRight_339 : decode cL_areRingsRight 339 = .ok (.aload_n 0, 1) := by decide +kernel
theorem dL_areRingsRight_340 : decode cL_areRingsRight 340 = .ok (.invokevirtual 96, 3) := by decide +kernel
theorem dL_areRingsRight_343 : decode cL_areRingsRight 343 = .ok (.imul, 1) := by decide +kernel
theorem dL_areRingsRight_344 : decode cL_areRingsRight 344 = .ok (.iload 4, 2) := by decide +kernel
theorem dL_areRingsRight_346 : decode cL_areRingsRight 346 = .ok (.if_icmp .gt 7, 3) := by decide +kernel
theorem dL_areRingsRight_349 : decode cL_areRingsRight 349 = .ok (.iconst 1, 1) := by decide +kernel
theorem dL_areRingsRight_350 : decode cL_areRingsRight 350 = .ok (.goto 4, 3) := by decide +kernel
theorem dL_areRingsRight_353 : decode cL_areRingsRight 353 = .ok (.iconst 0, 1) := by decide +kernel
theorem dL_areRingsRight_354 : decode cL_areRingsRight 354 = .ok (.ireturn, 1) := by decide +kernel
theorem dL_isMayRight_0 : decode cL_isMayRight 0 = .ok (.iconst 2, 1) := by decide +kernel
theorem dL_isMayRight_1 : decode cL_isMayRight 1 = .ok (.aload_n 0, 1) := by decide +kernel
theorem dL_isMayRight_2 : decode cL_isMayRight 2 = .ok (.invokevirtual 45, 3) := by decide +kernel
theorem dL_isMayRight_5 : decode cL_isMayRight 5 = .ok (.imul, 1) := by decide +kernel
theorem dL_isMayRight_6 : decode cL_isMayRight 6 = .ok (.istore_n 2, 1) := by decide +kernel
theorem dL_isMayRight_7 : decode cL_isMayRight 7 = .ok (.aload_n 0, 1) := by decide +kernel
theorem dL_isMayRight_8 : decode cL_isMayRight 8 = .ok (.iconst 0, 1) := by decide +kernel
theorem dL_isMayRight_9 : decode cL_isMayRight 9 = .ok (.invokevirtual 136, 3) := by decide +kernel
theorem dL_isMayRight_12 : decode cL_isMayRight 12 = .ok (.iload_n 2, 1) := by decide +kernel
theorem dL_isMayRight_13 : decode cL_isMayRight 13 = .ok (.if_icmp .gt 21, 3) := by decide +kernel
theorem dL_isMayRight_16 : decode cL_isMayRight 16 = .ok (.aload_n 0, 1) := by decide +kernel
theorem dL_isMayRight_17 : decode cL_isMayRight 17 = .ok (.iconst 1, 1) := by decide +kernel
theorem dL_isMayRight_18 : decode cL_isMayRight 18 = .ok (.invokevirtual 136, 3) := by decide +kernel
theorem dL_isMayRight_21 : decode cL_isMayRight 21 = .ok (.iload_n 2, 1) := by decide +kernel
theorem dL_isMayRight_22 : decode cL_isMayRight 22 = .ok (.if_icmp .gt 12, 3) := by decide +kernel
theorem dL_isMayRight_25 : decode cL_isMayRight 25 = .ok (.aload_n 0, 1) := by decide +kernel
theorem dL_isMayRight_26 : decode cL_isMayRight 26 = .ok (.iconst 2, 1) := by decide +kernel
theorem dL_isMayRight_27 : decode cL_isMayRight 27 = .ok (.invokevirtual 136, 3) := by decide +kernel
theorem dL_isMayRight_30 : decode cL_isMayRight 30 = .ok (.iload_n 2, 1) := by decide +kernel
theorem dL_isMayRight_31 : decode cL_isMayRight 31 = .ok (.if_icmp .le 5, 3) := by decide +kernel
theorem dL_isMayRight_34 : decode cL_isMayRight 34 = .ok (.iconst 0, 1) := by decide +kernel
theorem dL_isMayRight_35 : decode cL_isMayRight 35 = .ok (.ireturn, 1) := by decide +kernel
theorem dL_isMayRight_36 : decode cL_isMayRight 36 = .ok (.iload_n 1, 1) := by decide +kernel
theorem dL_isMayRight_37 : decode cL_isMayRight 37 = .ok (.bipush 7, 2) := by decide +kernel
theorem dL_isMayRight_39 : decode cL_isMayRight 39 = .ok (.invokestatic 18, 3) := by decide +kernel
theorem dL_isMayRight_42 : decode cL_isMayRight 42 = .ok (.istore_n 3, 1) := by decide +kernel
theorem dL_isMayRight_43 : decode cL_isMayRight 43 = .ok (.iload_n 3, 1) := by decide +kernel
theorem dL_isMayRight_44 : decode cL_isMayRight 44 = .ok (.sipush 160, 3) := by decide +kernel
theorem dL_isMayRight_47 : decode cL_isMayRight 47 = .ok (.if_icmp .ge 76, 3) := by decide +kernel
theorem dL_isMayRight_50 : decode cL_isMayRight 50 = .ok (.aload_n 0, 1) := by decide +kernel
theorem dL_isMayRight_51 : decode cL_isMayRight 51 = .ok (.iload_n 3, 1) := by decide +kernel
theorem dL_isMayRight_52 : decode cL_isMayRight 52 = .ok (.invokestatic 126, 3) := by decide +kernel
