theorem dX8_work_247 : decode cX8_work 247 = .ok (.aload_n 0, 1) := by decide +kernel
theorem dX8_work_248 : decode cX8_work 248 = .ok (.iload_n 1, 1) := by decide +kernel
theorem dX8_work_249 : decode cX8_work 249 = .ok (.iload_n 2, 1) := by decide +kernel
theorem dX8_work_250 : decode cX8_work 250 = .ok (.invokevirtual 107, 3) := by decide +kernel
theorem dX8_work_253 : decode cX8_work 253 = .ok (.ireturn, 1) := by decide +kernel
theorem dX8_work_254 : decode cX8_work 254 = .ok (.aload_n 0, 1) := by decide +kernel
theorem dX8_work_255 : decode cX8_work 255 = .ok (.aload_n 0, 1) := by decide +kernel
theorem dX8_work_256 : decode cX8_work 256 = .ok (.getfield 31, 3) := by decide +kernel
theorem dX8_work_259 : decode cX8_work 259 = .ok (.iload_n 1, 1) := by decide +kernel
theorem dX8_work_260 : decode cX8_work 260 = .ok (.invokevirtual 85, 3) := by decide +kernel
theorem dX8_work_263 : decode cX8_work 263 = .ok (.iload_n 2, 1) := by decide +kernel
theorem dX8_work_264 : decode cX8_work 264 = .ok (.iconst 1, 1) := by decide +kernel
theorem dX8_work_265 : decode cX8_work 265 = .ok (.iadd, 1) := by decide +kernel
theorem dX8_work_266 : decode cX8_work 266 = .ok (.invokevirtual 68, 3) := by decide +kernel
theorem dX8_work_269 : decode cX8_work 269 = .ok (.ifCond .eq 25, 3) := by decide +kernel
theorem dX8_work_272 : decode cX8_work 272 = .ok (.aload_n 0, 1) := by decide +kernel
theorem dX8_work_273 : decode cX8_work 273 = .ok (.aload_n 0, 1) := by decide +kernel
theorem dX8_work_274 : decode cX8_work 274 = .ok (.getfield 31, 3) := by decide +kernel
theorem dX8_work_277 : decode cX8_work 277 = .ok (.iload_n 1, 1) := by decide +kernel
theorem dX8_work_278 : decode cX8_work 278 = .ok (.invokevirtual 110, 3) := by decide +kernel
theorem dX8_work_281 : decode cX8_work 281 = .ok (.iload_n 2, 1) := by decide +kernel
theorem dX8_work_282 : decode cX8_work 282 = .ok (.iconst 1, 1) := by decide +kernel
theorem dX8_work_283 : decode cX8_work 283 = .ok (.iadd, 1) := by decide +kernel
theorem dX8_work_284 : decode cX8_work 284 = .ok (.invokevirtual 68, 3) := by decide +kernel
theorem dX8_work_287 : decode cX8_work 287 = .ok (.ifCond .eq 7, 3) := by decide +kernel
theorem dX8_work_290 : decode cX8_work 290 = .ok (.iconst 1, 1) := by decide +kernel
theorem dX8_work_291 : decode cX8_work 291 = .ok (.goto 4, 3) := by decide +kernel
theorem dX8_work_294 : decode cX8_work 294 = .ok (.iconst 0, 1) := by decide +kernel
theorem dX8_work_295 : decode cX8_work 295 = .ok (.ireturn, 1) := by decide +kernel
theorem dX8_work_296 : decode cX8_work 296 = .ok (.aload_n 0, 1) := by decide +kernel
theorem dX8_work_297 : decode cX8_work 297 = .ok (.iload_n 1, 1) := by decide +kernel
theorem dX8_work_298 : decode cX8_work 298 = .ok (.iload_n 2, 1) := by decide +kernel
theorem dX8_work_299 : decode cX8_work 299 = .ok (.invokevirtual 113, 3) := by decide +kernel
theorem dX8_work_302 : decode cX8_work 302 = .ok (.ireturn, 1) := by decide +kernel
theorem dX8_work_303 : decode cX8_work 303 = .ok (.aload_n 0, 1) := by decide +kernel
theorem dX8_work_304 : decode cX8_work 304 = .ok (.aload_n 0, 1) := by decide +kernel
theorem dX8_work_305 : decode cX8_work 305 = .ok (.getfield 31, 3) := by decide +kernel
theorem dX8_work_308 : decode cX8_work 308 = .ok (.iload_n 1, 1) := by decide +kernel
theorem dX8_work_309 : decode cX8_work 309 = .ok (.invokevirtual 85, 3) := by decide +kernel
theorem dX8_work_312 : decode cX8_work 312 = .ok (.iload_n 1, 1) := by decide +kernel
theorem dX8_work_313 : decode cX8_work 313 = .ok (.invokevirtual 116, 3) := by decide +kernel
theorem dX8_work_316 : decode cX8_work 316 = .ok (.ireturn, 1) := by decide +kernel
theorem dX8_work_317 : decode cX8_work 317 = .ok (.aload_n 0, 1) := by decide +kernel
theorem dX8_work_318 : decode cX8_work 318 = .ok (.iload_n 1, 1) := by decide +kernel
theorem dX8_work_319 : decode cX8_work 319 = .ok (.iload_n 2, 1) := by decide +kernel
theorem dX8_work_320 : decode cX8_work 320 = .ok (.invokevirtual 119, 3) := by decide +kernel
theorem dX8_work_323 : decode cX8_work 323 = .ok (.ireturn, 1) := by decide +kernel
theorem dX8_work_324 : decode cX8_work 324 = .ok (.aload_n 0, 1) := by decide +kernel
theorem dX8_work_325 : decode cX8_work 325 = .ok (.aload_n 0, 1) := by decide +kernel
theorem dX8_work_326 : decode cX8_work 326 = .ok (.getfield 31, 3) := by decide +kernel
theorem dX8_work_329 : decode cX8_work 329 = .ok (.iload_n 1, 1) := by decide +kernel
theorem dX8_work_330 : decode cX8_work 330 = .ok (.invokevirtual 85, 3) := by decide +kernel
theorem dX8_work_333 : decode cX8_work 333 = .ok (.iload_n 2, 1) := by decide +kernel
theorem dX8_work_334 : decode cX8_work 334 = .ok (.iconst 1, 1) := by decide +kernel
theorem dX8_work_335 : decode cX8_work 335 = .ok (.iadd, 1) := by decide +kernel
theorem dX8_work_336 : decode cX8_work 336 = .ok (.invokevirtual 68, 3) := by decide +kernel
theorem dX8_work_339 : decode cX8_work 339 = .ok (.pop, 1) := by decide +kernel
theorem dX8_work_340 : decode cX8_work 340 = .ok (.aload_n 0, 1) := by decide +kernel
theorem dX8_work_341 : decode cX8_work 341 = .ok (.aload_n 0, 1) := by decide +kernel
theorem dX8_work_342 : decode cX8_work 342 = .ok (.getfield 31, 3) := by decide +kernel
theorem dX8_work_345 : decode cX8_work 345 = .ok (.iload_n 1, 1) := by decide +kernel
theorem dX8_work_346 : decode cX8_work 346 = .ok (.invokevirtual 110, 3) := by decide +kernel
theorem dX8_work_349 : decode cX8_work 349 = .ok (.iload_n 2, 1) := by decide +kernel
theorem dX8_work_350 : decode cX8_work 350 = .ok (.invokevirtual 122, 3) := by decide +kernel
theorem dX8_work_353 : decode cX8_work 353 = .ok (.ireturn, 1) := by decide +kernel
theorem dX8_work_354 : decode cX8_work 354 = .ok (.aload_n 0, 1) := by decide +kernel
theorem dX8_work_355 : decode cX8_work 355 = .ok (.iload_n 1, 1) := by decide +kernel
theorem dX8_work_356 : decode cX8_work 356 = .ok (.iload_n 2, 1) := by decide +kernel
theorem dX8_work_357 : decode cX8_work 357 = .ok (.invokevirtual 125, 3) := by decide +kernel
theorem dX8_work_360 : decode cX8_work 360 = .ok (.ireturn, 1) := by decide +kernel
theorem dX8_work_361 : decode cX8_work 361 = .ok (.aload_n 0, 1) := by decide +kernel
theorem dX8_work_362 : decode cX8_work 362 = .ok (.iload_n 1, 1) := by decide +kernel
theorem dX8_work_363 : decode cX8_work 363 = .ok (.iload_n 2, 1) := by decide +kernel
theorem dX8_work_364 : decode cX8_work 364 = .ok (.invokevirtual 128, 3) := by decide +kernel
theorem dX8_work_367 : decode cX8_work 367 = .ok (.ireturn, 1) := by decide +kernel
theorem dX8_give_0 : decode cX8_give 0 = .ok (.aload_n 0, 1) := by decide +kernel
theorem dX8_give_1 : decode cX8_give 1 = .ok (.iload_n 1, 1) := by decide +kernel
theorem dX8_give_2 : decode cX8_give 2 = .ok (.putfield 18, 3) := by decide +kernel
theorem dX8_give_5 : decode cX8_give 5 = .ok (.aload_n 0, 1) := by decide +kernel
theorem dX8_give_6 : decode cX8_give 6 = .ok (.iload_n 2, 1) := by decide +kernel
theorem dX8_give_7 : decode cX8_give 7 = .ok (.putfield 22, 3) := by decide +kernel
theorem dX8_give_10 : decode cX8_give 10 = .ok (.iconst 1, 1) := by decide +kernel
theorem dX8_give_11 : decode cX8_give 11 = .ok (.ireturn, 1) := by decide +kernel
theorem dX8_fail_0 : decode cX8_fail 0 = .ok (.aload_n 0, 1) := by decide +kernel
theorem dX8_fail_1 : decode cX8_fail 1 = .ok (.iconst 3, 1) := by decide +kernel
theorem dX8_fail_2 : decode cX8_fail 2 = .ok (.putfield 18, 3) := by decide +kernel
theorem dX8_fail_5 : decode cX8_fail 5 = .ok (.aload_n 0, 1) := by decide +kernel
theorem dX8_fail_6 : decode cX8_fail 6 = .ok (.iload_n 1, 1) := by decide +kernel
theorem dX8_fail_7 : decode cX8_fail 7 = .ok (.putfield 22, 3) := by decide +kernel
theorem dX8_fail_10 : decode cX8_fail 10 = .ok (.aload_n 0, 1) := by decide +kernel
theorem dX8_fail_11 : decode cX8_fail 11 = .ok (.iload_n 2, 1) := by decide +kernel
theorem dX8_fail_12 : decode cX8_fail 12 = .ok (.putfield 25, 3) := by decide +kernel
theorem dX8_fail_15 : decode cX8_fail 15 = .ok (.iconst 0, 1) := by decide +kernel
theorem dX8_fail_16 : decode cX8_fail 16 = .ok (.ireturn, 1) := by decide +kernel
theorem dX8_stop_0 : decode cX8_stop 0 = .ok (.aload_n 0, 1) := by decide +kernel
theorem dX8_stop_1 : decode cX8_stop 1 = .ok (.iconst 5, 1) := by decide +kernel
theorem dX8_stop_2 : decode cX8_stop 2 = .ok (.putfield 18, 3) := by decide +kernel
theorem dX8_stop_5 : decode cX8_stop 5 = .ok (.aload_n 0, 1) := by decide +kernel
theorem dX8_stop_6 : decode cX8_stop 6 = .ok (.iconst 0, 1) := by decide +kernel
theorem dX8_stop_7 : decode cX8_stop 7 = .ok (.putfield 22, 3) := by decide +kernel
theorem dX8_stop_10 : decode cX8_stop 10 = .ok (.iconst 0, 1) := by decide +kernel
theorem dX8_stop_11 : decode cX8_stop 11 = .ok (.ireturn, 1) := by decide +kernel
theorem dX8_settle_0 : decode cX8_settle 0 = .ok (.iload_n 3, 1) := by decide +kernel
theorem dX8_settle_1 : decode cX8_settle 1 = .ok (.ifCond .ge 15, 3) := by decide +kernel
theorem dX8_settle_4 : decode cX8_settle 4 = .ok (.aload_n 0, 1) := by decide +kernel
theorem dX8_settle_5 : decode cX8_settle 5 = .ok (.iload_n 3, 1) := by decide +kernel
theorem dX8_settle_6 : decode cX8_settle 6 = .ok (.invokestatic 131, 3) := by decide +kernel
theorem dX8_settle_9 : decode cX8_settle 9 = .ok (.iload_n 1, 1) := by decide +kernel
theorem dX8_settle_10 : decode cX8_settle 10 = .ok (.invokevirtual 116, 3) := by decide +kernel
theorem dX8_settle_13 : decode cX8_settle 13 = .ok (.goto 9, 3) := by decide +kernel
theorem dX8_settle_16 : decode cX8_settle 16 = .ok (.aload_n 0, 1) := by decide +kernel
theorem dX8_settle_17 : decode cX8_settle 17 = .ok (.iload_n 2, 1) := by decide +kernel
theorem dX8_settle_18 : decode cX8_settle 18 = .ok (.iload_n 3, 1) := by decide +kernel
theorem dX8_settle_19 : decode cX8_settle 19 = .ok (.invokevirtual 88, 3) := by decide +kernel
theorem dX8_settle_22 : decode cX8_settle 22 = .ok (.ireturn, 1) := by decide +kernel
theorem dX8_act_0 : decode cX8_act 0 = .ok (.iload_n 3, 1) := by decide +kernel
theorem dX8_act_1 : decode cX8_act 1 = .ok (.ifCond .lt 11, 3) := by decide +kernel
theorem dX8_act_4 : decode cX8_act 4 = .ok (.aload_n 0, 1) := by decide +kernel
theorem dX8_act_5 : decode cX8_act 5 = .ok (.getfield 47, 3) := by decide +kernel
theorem dX8_act_8 : decode cX8_act 8 = .ok (.iload_n 1, 1) := by decide +kernel
theorem dX8_act_9 : decode cX8_act 9 = .ok (.invokevirtual 134, 3) := by decide +kernel
theorem dX8_act_12 : decode cX8_act 12 = .ok (.aload_n 0, 1) := by decide +kernel
theorem dX8_act_13 : decode cX8_act 13 = .ok (.iload_n 1, 1) := by decide +kernel
theorem dX8_act_14 : decode cX8_act 14 = .ok (.iload_n 2, 1) := by decide +kernel
theorem dX8_act_15 : decode cX8_act 15 = .ok (.iload_n 3, 1) := by decide +kernel
theorem dX8_act_16 : decode cX8_act 16 = .ok (.invokevirtual 138, 3) := by decide +kernel
theorem dX8_act_19 : decode cX8_act 19 = .ok (.ireturn, 1) := by decide +kernel
theorem dX8_workToNumber_0 : decode cX8_workToNumber 0 = .ok (.aload_n 0, 1) := by decide +kernel
theorem dX8_workToNumber_1 : decode cX8_workToNumber 1 = .ok (.iload_n 1, 1) := by decide +kernel
theorem dX8_workToNumber_2 : decode cX8_workToNumber 2 = .ok (.iload_n 3, 1) := by decide +kernel
theorem dX8_workToNumber_3 : decode cX8_workToNumber 3 = .ok (.iconst 1, 1) := by decide +kernel
theorem dX8_workToNumber_4 : decode cX8_workToNumber 4 = .ok (.iadd, 1) := by decide +kernel
theorem dX8_workToNumber_5 : decode cX8_workToNumber 5 = .ok (.invokevirtual 68, 3) := by decide +kernel
theorem dX8_workToNumber_8 : decode cX8_workToNumber 8 = .ok (.ifCond .eq 23, 3) := by decide +kernel
theorem dX8_workToNumber_11 : decode cX8_workToNumber 11 = .ok (.aload_n 0, 1) := by decide +kernel
theorem dX8_workToNumber_12 : decode cX8_workToNumber 12 = .ok (.getfield 18, 3) := by decide +kernel
theorem dX8_workToNumber_15 : decode cX8_workToNumber 15 = .ok (.ifCond .eq 12, 3) := by decide +kernel
theorem dX8_workToNumber_18 : decode cX8_workToNumber 18 = .ok (.aload_n 0, 1) := by decide +kernel
theorem dX8_workToNumber_19 : decode cX8_workToNumber 19 = .ok (.iconst 4, 1) := by decide +kernel
theorem dX8_workToNumber_20 : decode cX8_workToNumber 20 = .ok (.iload_n 2, 1) := by decide +kernel
theorem dX8_workToNumber_21 : decode cX8_workToNumber 21 = .ok (.invokevirtual 116, 3) := by decide +kernel
theorem dX8_workToNumber_24 : decode cX8_workToNumber 24 = .ok (.ifCond .eq 7, 3) := by decide +kernel
theorem dX8_workToNumber_27 : decode cX8_workToNumber 27 = .ok (.iconst 1, 1) := by decide +kernel
theorem dX8_workToNumber_28 : decode cX8_workToNumber 28 = .ok (.goto 4, 3) := by decide +kernel
theorem dX8_workToNumber_31 : decode cX8_workToNumber 31 = .ok (.iconst 0, 1) := by decide +kernel
theorem dX8_workToNumber_32 : decode cX8_workToNumber 32 = .ok (.ireturn, 1) := by decide +kernel
theorem dX8_workToHandle_0 : decode cX8_workToHandle 0 = .ok (.aload_n 0, 1) := by decide +kernel
theorem dX8_workToHandle_1 : decode cX8_workToHandle 1 = .ok (.iload_n 1, 1) := by decide +kernel
theorem dX8_workToHandle_2 : decode cX8_workToHandle 2 = .ok (.iload_n 3, 1) := by decide +kernel
theorem dX8_workToHandle_3 : decode cX8_workToHandle 3 = .ok (.iconst 1, 1) := by decide +kernel
theorem dX8_workToHandle_4 : decode cX8_workToHandle 4 = .ok (.iadd, 1) := by decide +kernel
theorem dX8_workToHandle_5 : decode cX8_workToHandle 5 = .ok (.invokevirtual 68, 3) := by decide +kernel
theorem dX8_workToHandle_8 : decode cX8_workToHandle 8 = .ok (.ifCond .ne 5, 3) := by decide +kernel
theorem dX8_workToHandle_11 : decode cX8_workToHandle 11 = .ok (.aconst_null, 1) := by decide +kernel
theorem dX8_workToHandle_12 : decode cX8_workToHandle 12 = .ok (.areturn, 1) := by decide +kernel
theorem dX8_workToHandle_13 : decode cX8_workToHandle 13 = .ok (.aload_n 0, 1) := by decide +kernel
theorem dX8_workToHandle_14 : decode cX8_workToHandle 14 = .ok (.getfield 18, 3) := by decide +kernel
theorem dX8_workToHandle_17 : decode cX8_workToHandle 17 = .ok (.iconst 1, 1) := by decide +kernel
theorem dX8_workToHandle_18 : decode cX8_workToHandle 18 = .ok (.if_icmp .ne 17, 3) := by decide +kernel
theorem dX8_workToHandle_21 : decode cX8_workToHandle 21 = .ok (.aload_n 0, 1) := by decide +kernel
theorem dX8_workToHandle_22 : decode cX8_workToHandle 22 = .ok (.getfield 39, 3) := by decide +kernel
theorem dX8_workToHandle_25 : decode cX8_workToHandle 25 = .ok (.aload_n 0, 1) := by decide +kernel
theorem dX8_workToHandle_26 : decode cX8_workToHandle 26 = .ok (.getfield 22, 3) := by decide +kernel
theorem dX8_workToHandle_29 : decode cX8_workToHandle 29 = .ok (.invokevirtual 142, 3) := by decide +kernel
theorem dX8_workToHandle_32 : decode cX8_workToHandle 32 = .ok (.goto 4, 3) := by decide +kernel
theorem dX8_workToHandle_35 : decode cX8_workToHandle 35 = .ok (.aconst_null, 1) := by decide +kernel
theorem dX8_workToHandle_36 : decode cX8_workToHandle 36 = .ok (.astore 4, 2) := by decide +kernel
theorem dX8_workToHandle_38 : decode cX8_workToHandle 38 = .ok (.aload 4, 2) := by decide +kernel
theorem dX8_workToHandle_40 : decode cX8_workToHandle 40 = .ok (.ifnonnull 10, 3) := by decide +kernel
theorem dX8_workToHandle_43 : decode cX8_workToHandle 43 = .ok (.aload_n 0, 1) := by decide +kernel
theorem dX8_workToHandle_44 : decode cX8_workToHandle 44 = .ok (.iconst 4, 1) := by decide +kernel
theorem dX8_workToHandle_45 : decode cX8_workToHandle 45 = .ok (.iload_n 2, 1) := by decide +kernel
theorem dX8_workToHandle_46 : decode cX8_workToHandle 46 = .ok (.invokevirtual 116, 3) := by decide +kernel
theorem dX8_workToHandle_49 : decode cX8_workToHandle 49 = .ok (.pop, 1) := by decide +kernel
theorem dX8_workToHandle_50 : decode cX8_workToHandle 50 = .ok (.aload 4, 2) := by decide +kernel
theorem dX8_workToHandle_52 : decode cX8_workToHandle 52 = .ok (.areturn, 1) := by decide +kernel
theorem dX8_workToList_0 : decode cX8_workToList 0 = .ok (.aload_n 0, 1) := by decide +kernel
theorem dX8_workToList_1 : decode cX8_workToList 1 = .ok (.iload_n 1, 1) := by decide +kernel
theorem dX8_workToList_2 : decode cX8_workToList 2 = .ok (.iload_n 3, 1) := by decide +kernel
theorem dX8_workToList_3 : decode cX8_workToList 3 = .ok (.iconst 1, 1) := by decide +kernel
theorem dX8_workToList_4 : decode cX8_workToList 4 = .ok (.iadd, 1) := by decide +kernel
theorem dX8_workToList_5 : decode cX8_workToList 5 = .ok (.invokevirtual 68, 3) := by decide +kernel
theorem dX8_workToList_8 : decode cX8_workToList 8 = .ok (.ifCond .ne 5, 3) := by decide +kernel
theorem dX8_workToList_11 : decode cX8_workToList 11 = .ok (.aconst_null, 1) := by decide +kernel
theorem dX8_workToList_12 : decode cX8_workToList 12 = .ok (.areturn, 1) := by decide +kernel
theorem dX8_workToList_13 : decode cX8_workToList 13 = .ok (.aload_n 0, 1) := by decide +kernel
theorem dX8_workToList_14 : decode cX8_workToList 14 = .ok (.getfield 18, 3) := by decide +kernel
theorem dX8_workToList_17 : decode cX8_workToList 17 = .ok (.iconst 2, 1) := by decide +kernel
theorem dX8_workToList_18 : decode cX8_workToList 18 = .ok (.if_icmp .ne 17, 3) := by decide +kernel
theorem dX8_workToList_21 : decode cX8_workToList 21 = .ok (.aload_n 0, 1) := by decide +kernel
theorem dX8_workToList_22 : decode cX8_workToList 22 = .ok (.getfield 43, 3) := by decide +kernel
theorem dX8_workToList_25 : decode cX8_workToList 25 = .ok (.aload_n 0, 1) := by decide +kernel
theorem dX8_workToList_26 : decode cX8_workToList 26 = .ok (.getfield 22, 3) := by decide +kernel
theorem dX8_workToList_29 : decode cX8_workToList 29 = .ok (.invokevirtual 146, 3) := by decide +kernel
theorem dX8_workToList_32 : decode cX8_workToList 32 = .ok (.goto 4, 3) := by decide +kernel
theorem dX8_workToList_35 : decode cX8_workToList 35 = .ok (.aconst_null, 1) := by decide +kernel
theorem dX8_workToList_36 : decode cX8_workToList 36 = .ok (.astore 4, 2) := by decide +kernel
theorem dX8_workToList_38 : decode cX8_workToList 38 = .ok (.aload 4, 2) := by decide +kernel
theorem dX8_workToList_40 : decode cX8_workToList 40 = .ok (.ifnonnull 10, 3) := by decide +kernel
theorem dX8_workToList_43 : decode cX8_workToList 43 = .ok (.aload_n 0, 1) := by decide +kernel
theorem dX8_workToList_44 : decode cX8_workToList 44 = .ok (.iconst 4, 1) := by decide +kernel
theorem dX8_workToList_45 : decode cX8_workToList 45 = .ok (.iload_n 2, 1) := by decide +kernel
theorem dX8_workToList_46 : decode cX8_workToList 46 = .ok (.invokevirtual 116, 3) := by decide +kernel
theorem dX8_workToList_49 : decode cX8_workToList 49 = .ok (.pop, 1) := by decide +kernel
theorem dX8_workToList_50 : decode cX8_workToList 50 = .ok (.aload 4, 2) := by decide +kernel
theorem dX8_workToList_52 : decode cX8_workToList 52 = .ok (.areturn, 1) := by decide +kernel
theorem dX8_assign_0 : decode cX8_assign 0 = .ok (.aload_n 0, 1) := by decide +kernel
theorem dX8_assign_1 : decode cX8_assign 1 = .ok (.getfield 9, 3) := by decide +kernel
theorem dX8_assign_4 : decode cX8_assign 4 = .ok (.iload_n 1, 1) := by decide +kernel
theorem dX8_assign_5 : decode cX8_assign 5 = .ok (.iload_n 2, 1) := by decide +kernel
theorem dX8_assign_6 : decode cX8_assign 6 = .ok (.iastore, 1) := by decide +kernel
theorem dX8_assign_7 : decode cX8_assign 7 = .ok (.aload_n 0, 1) := by decide +kernel
theorem dX8_assign_8 : decode cX8_assign 8 = .ok (.getfield 15, 3) := by decide +kernel
theorem dX8_assign_11 : decode cX8_assign 11 = .ok (.iload_n 1, 1) := by decide +kernel
theorem dX8_assign_12 : decode cX8_assign 12 = .ok (.iload_n 3, 1) := by decide +kernel
theorem dX8_assign_13 : decode cX8_assign 13 = .ok (.iastore, 1) := by decide +kernel
theorem dX8_assign_14 : decode cX8_assign 14 = .ok (.return_, 1) := by decide +kernel
theorem dX8_workSet_0 : decode cX8_workSet 0 = .ok (.aload_n 0, 1) := by decide +kernel
theorem dX8_workSet_1 : decode cX8_workSet 1 = .ok (.aload_n 0, 1) := by decide +kernel
theorem dX8_workSet_2 : decode cX8_workSet 2 = .ok (.getfield 31, 3) := by decide +kernel
theorem dX8_workSet_5 : decode cX8_workSet 5 = .ok (.iload_n 1, 1) := by decide +kernel
theorem dX8_workSet_6 : decode cX8_workSet 6 = .ok (.invokevirtual 110, 3) := by decide +kernel
theorem dX8_workSet_9 : decode cX8_workSet 9 = .ok (.iload_n 2, 1) := by decide +kernel
theorem dX8_workSet_10 : decode cX8_workSet 10 = .ok (.iconst 1, 1) := by decide +kernel
theorem dX8_workSet_11 : decode cX8_workSet 11 = .ok (.iadd, 1) := by decide +kernel
theorem dX8_workSet_12 : decode cX8_workSet 12 = .ok (.invokevirtual 68, 3) := by decide +kernel
theorem dX8_workSet_15 : decode cX8_workSet 15 = .ok (.ifCond .ne 5, 3) := by decide +kernel
theorem dX8_workSet_18 : decode cX8_workSet 18 = .ok (.iconst 0, 1) := by decide +kernel
theorem dX8_workSet_19 : decode cX8_workSet 19 = .ok (.ireturn, 1) := by decide +kernel
theorem dX8_workSet_20 : decode cX8_workSet 20 = .ok (.aload_n 0, 1) := by decide +kernel
theorem dX8_workSet_21 : decode cX8_workSet 21 = .ok (.aload_n 0, 1) := by decide +kernel
theorem dX8_workSet_22 : decode cX8_workSet 22 = .ok (.getfield 31, 3) := by decide +kernel
theorem dX8_workSet_25 : decode cX8_workSet 25 = .ok (.iload_n 1, 1) := by decide +kernel
theorem dX8_workSet_26 : decode cX8_workSet 26 = .ok (.invokevirtual 85, 3) := by decide +kernel
theorem dX8_workSet_29 : decode cX8_workSet 29 = .ok (.aload_n 0, 1) := by decide +kernel
theorem dX8_workSet_30 : decode cX8_workSet 30 = .ok (.getfield 18, 3) := by decide +kernel
theorem dX8_workSet_33 : decode cX8_workSet 33 = .ok (.aload_n 0, 1) := by decide +kernel
theorem dX8_workSet_34 : decode cX8_workSet 34 = .ok (.getfield 22, 3) := by decide +kernel
theorem dX8_workSet_37 : decode cX8_workSet 37 = .ok (.invokevirtual 149, 3) := by decide +kernel
theorem dX8_workSet_40 : decode cX8_workSet 40 = .ok (.iconst 1, 1) := by decide +kernel
theorem dX8_workSet_41 : decode cX8_workSet 41 = .ok (.ireturn, 1) := by decide +kernel
theorem dX8_workHandle_0 : decode cX8_workHandle 0 = .ok (.aload_n 0, 1) := by decide +kernel
theorem dX8_workHandle_1 : decode cX8_workHandle 1 = .ok (.aload_n 0, 1) := by decide +kernel
theorem dX8_workHandle_2 : decode cX8_workHandle 2 = .ok (.getfield 31, 3) := by decide +kernel
theorem dX8_workHandle_5 : decode cX8_workHandle 5 = .ok (.iload_n 1, 1) := by decide +kernel
theorem dX8_workHandle_6 : decode cX8_workHandle 6 = .ok (.invokevirtual 85, 3) := by decide +kernel
theorem dX8_workHandle_9 : decode cX8_workHandle 9 = .ok (.iload_n 1, 1) := by decide +kernel
theorem dX8_workHandle_10 : decode cX8_workHandle 10 = .ok (.iload_n 2, 1) := by decide +kernel
theorem dX8_workHandle_11 : decode cX8_workHandle 11 = .ok (.invokevirtual 153, 3) := by decide +kernel
theorem dX8_workHandle_14 : decode cX8_workHandle 14 = .ok (.astore_n 3, 1) := by decide +kernel
theorem dX8_workHandle_15 : decode cX8_workHandle 15 = .ok (.aload_n 3, 1) := by decide +kernel
theorem dX8_workHandle_16 : decode cX8_workHandle 16 = .ok (.ifnonnull 5, 3) := by decide +kernel
theorem dX8_workHandle_19 : decode cX8_workHandle 19 = .ok (.iconst 0, 1) := by decide +kernel
theorem dX8_workHandle_20 : decode cX8_workHandle 20 = .ok (.ireturn, 1) := by decide +kernel
theorem dX8_workHandle_21 : decode cX8_workHandle 21 = .ok (.aload_n 0, 1) := by decide +kernel
theorem dX8_workHandle_22 : decode cX8_workHandle 22 = .ok (.getfield 31, 3) := by decide +kernel
theorem dX8_workHandle_25 : decode cX8_workHandle 25 = .ok (.iload_n 1, 1) := by decide +kernel
theorem dX8_workHandle_26 : decode cX8_workHandle 26 = .ok (.invokevirtual 79, 3) := by decide +kernel
theorem dX8_workHandle_29 : decode cX8_workHandle 29 = .ok (.tableswitch 143 4 14 #[59, 143, 76, 87, 143, 143, 143, 102, 113, 124, 143], 59) := by decide +kernel
theorem dX8_workHandle_88 : decode cX8_workHandle 88 = .ok (.aload_n 0, 1) := by decide +kernel
theorem dX8_workHandle_89 : decode cX8_workHandle 89 = .ok (.iload_n 1, 1) := by decide +kernel
theorem dX8_workHandle_90 : decode cX8_workHandle 90 = .ok (.aload_n 3, 1) := by decide +kernel
theorem dX8_workHandle_91 : decode cX8_workHandle 91 = .ok (.invokevirtual 157, 3) := by decide +kernel
theorem dX8_workHandle_94 : decode cX8_workHandle 94 = .ok (.aload_n 0, 1) := by decide +kernel
theorem dX8_workHandle_95 : decode cX8_workHandle 95 = .ok (.iload_n 1, 1) := by decide +kernel
theorem dX8_workHandle_96 : decode cX8_workHandle 96 = .ok (.iconst 0, 1) := by decide +kernel
theorem dX8_workHandle_97 : decode cX8_workHandle 97 = .ok (.aload_n 3, 1) := by decide +kernel
theorem dX8_workHandle_98 : decode cX8_workHandle 98 = .ok (.invokevirtual 161, 3) := by decide +kernel
theorem dX8_workHandle_101 : decode cX8_workHandle 101 = .ok (.invokevirtual 138, 3) := by decide +kernel
theorem dX8_workHandle_104 : decode cX8_workHandle 104 = .ok (.ireturn, 1) := by decide +kernel
theorem dX8_workHandle_105 : decode cX8_workHandle 105 = .ok (.aload_n 0, 1) := by decide +kernel
theorem dX8_workHandle_106 : decode cX8_workHandle 106 = .ok (.iload_n 1, 1) := by decide +kernel
theorem dX8_workHandle_107 : decode cX8_workHandle 107 = .ok (.iconst 0, 1) := by decide +kernel
theorem dX8_workHandle_108 : decode cX8_workHandle 108 = .ok (.aload_n 3, 1) := by decide +kernel
theorem dX8_workHandle_109 : decode cX8_workHandle 109 = .ok (.invokevirtual 167, 3) := by decide +kernel
theorem dX8_workHandle_112 : decode cX8_workHandle 112 = .ok (.invokevirtual 170, 3) := by decide +kernel
theorem dX8_workHandle_115 : decode cX8_workHandle 115 = .ok (.ireturn, 1) := by decide +kernel
theorem dX8_workHandle_116 : decode cX8_workHandle 116 = .ok (.aload_n 0, 1) := by decide +kernel
theorem dX8_workHandle_117 : decode cX8_workHandle 117 = .ok (.iload_n 1, 1) := by decide +kernel
theorem dX8_workHandle_118 : decode cX8_workHandle 118 = .ok (.iconst 2, 1) := by decide +kernel
theorem dX8_workHandle_119 : decode cX8_workHandle 119 = .ok (.aload_n 0, 1) := by decide +kernel
theorem dX8_workHandle_120 : decode cX8_workHandle 120 = .ok (.getfield 43, 3) := by decide +kernel
theorem dX8_workHandle_123 : decode cX8_workHandle 123 = .ok (.aload_n 3, 1) := by decide +kernel
theorem dX8_workHandle_124 : decode cX8_workHandle 124 = .ok (.invokevirtual 173, 3) := by decide +kernel
theorem dX8_workHandle_127 : decode cX8_workHandle 127 = .ok (.invokevirtual 138, 3) := by decide +kernel
theorem dX8_workHandle_130 : decode cX8_workHandle 130 = .ok (.ireturn, 1) := by decide +kernel
theorem dX8_workHandle_131 : decode cX8_workHandle 131 = .ok (.aload_n 0, 1) := by decide +kernel
theorem dX8_workHandle_132 : decode cX8_workHandle 132 = .ok (.iload_n 1, 1) := by decide +kernel
theorem dX8_workHandle_133 : decode cX8_workHandle 133 = .ok (.iconst 0, 1) := by decide +kernel
theorem dX8_workHandle_134 : decode cX8_workHandle 134 = .ok (.aload_n 3, 1) := by decide +kernel
theorem dX8_workHandle_135 : decode cX8_workHandle 135 = .ok (.invokevirtual 177, 3) := by decide +kernel
theorem dX8_workHandle_138 : decode cX8_workHandle 138 = .ok (.invokevirtual 138, 3) := by decide +kernel
theorem dX8_workHandle_141 : decode cX8_workHandle 141 = .ok (.ireturn, 1) := by decide +kernel
theorem dX8_workHandle_142 : decode cX8_workHandle 142 = .ok (.aload_n 0, 1) := by decide +kernel
theorem dX8_workHandle_143 : decode cX8_workHandle 143 = .ok (.iload_n 1, 1) := by decide +kernel
theorem dX8_workHandle_144 : decode cX8_workHandle 144 = .ok (.iconst 0, 1) := by decide +kernel
theorem dX8_workHandle_145 : decode cX8_workHandle 145 = .ok (.aload_n 3, 1) := by decide +kernel
theorem dX8_workHandle_146 : decode cX8_workHandle 146 = .ok (.invokevirtual 180, 3) := by decide +kernel
theorem dX8_workHandle_149 : decode cX8_workHandle 149 = .ok (.invokevirtual 138, 3) := by decide +kernel
theorem dX8_workHandle_152 : decode cX8_workHandle 152 = .ok (.ireturn, 1) := by decide +kernel
theorem dX8_workHandle_153 : decode cX8_workHandle 153 = .ok (.aload_n 0, 1) := by decide +kernel
theorem dX8_workHandle_154 : decode cX8_workHandle 154 = .ok (.iload_n 1, 1) := by decide +kernel
theorem dX8_workHandle_155 : decode cX8_workHandle 155 = .ok (.iconst 0, 1) := by decide +kernel
theorem dX8_workHandle_156 : decode cX8_workHandle 156 = .ok (.aload_n 3, 1) := by decide +kernel
theorem dX8_workHandle_157 : decode cX8_workHandle 157 = .ok (.aload_n 0, 1) := by decide +kernel
theorem dX8_workHandle_158 : decode cX8_workHandle 158 = .ok (.getfield 31, 3) := by decide +kernel
theorem dX8_workHandle_161 : decode cX8_workHandle 161 = .ok (.iload_n 1, 1) := by decide +kernel
theorem dX8_workHandle_162 : decode cX8_workHandle 162 = .ok (.invokevirtual 110, 3) := by decide +kernel
theorem dX8_workHandle_165 : decode cX8_workHandle 165 = .ok (.invokevirtual 183, 3) := by decide +kernel
theorem dX8_workHandle_168 : decode cX8_workHandle 168 = .ok (.invokevirtual 170, 3) := by decide +kernel
theorem dX8_workHandle_171 : decode cX8_workHandle 171 = .ok (.ireturn, 1) := by decide +kernel
theorem dX8_workHandle_172 : decode cX8_workHandle 172 = .ok (.aload_n 0, 1) := by decide +kernel
theorem dX8_workHandle_173 : decode cX8_workHandle 173 = .ok (.iload_n 1, 1) := by decide +kernel
theorem dX8_workHandle_174 : decode cX8_workHandle 174 = .ok (.iconst 0, 1) := by decide +kernel
theorem dX8_workHandle_175 : decode cX8_workHandle 175 = .ok (.aload_n 3, 1) := by decide +kernel
theorem dX8_workHandle_176 : decode cX8_workHandle 176 = .ok (.invokevirtual 186, 3) := by decide +kernel
theorem dX8_workHandle_179 : decode cX8_workHandle 179 = .ok (.invokevirtual 170, 3) := by decide +kernel
theorem dX8_workHandle_182 : decode cX8_workHandle 182 = .ok (.ireturn, 1) := by decide +kernel
theorem dX8_noteClosing_0 : decode cX8_noteClosing 0 = .ok (.aload_n 2, 1) := by decide +kernel
theorem dX8_noteClosing_1 : decode cX8_noteClosing 1 = .ok (.invokevirtual 189, 3) := by decide +kernel
theorem dX8_noteClosing_4 : decode cX8_noteClosing 4 = .ok (.ifCond .ne 11, 3) := by decide +kernel
theorem dX8_noteClosing_7 : decode cX8_noteClosing 7 = .ok (.aload_n 0, 1) := by decide +kernel
theorem dX8_noteClosing_8 : decode cX8_noteClosing 8 = .ok (.getfield 47, 3) := by decide +kernel
theorem dX8_noteClosing_11 : decode cX8_noteClosing 11 = .ok (.iload_n 1, 1) := by decide +kernel
theorem dX8_noteClosing_12 : decode cX8_noteClosing 12 = .ok (.invokevirtual 134, 3) := by decide +kernel
theorem dX8_noteClosing_15 : decode cX8_noteClosing 15 = .ok (.return_, 1) := by decide +kernel
theorem dX8_workHandleAndNumber_0 : decode cX8_workHandleAndNumber 0 = .ok (.aload_n 0, 1) := by decide +kernel
theorem dX8_workHandleAndNumber_1 : decode cX8_workHandleAndNumber 1 = .ok (.aload_n 0, 1) := by decide +kernel
theorem dX8_workHandleAndNumber_2 : decode cX8_workHandleAndNumber 2 = .ok (.getfield 31, 3) := by decide +kernel
theorem dX8_workHandleAndNumber_5 : decode cX8_workHandleAndNumber 5 = .ok (.iload_n 1, 1) := by decide +kernel
theorem dX8_workHandleAndNumber_6 : decode cX8_workHandleAndNumber 6 = .ok (.invokevirtual 85, 3) := by decide +kernel
theorem dX8_workHandleAndNumber_9 : decode cX8_workHandleAndNumber 9 = .ok (.iload_n 1, 1) := by decide +kernel
theorem dX8_workHandleAndNumber_10 : decode cX8_workHandleAndNumber 10 = .ok (.iload_n 2, 1) := by decide +kernel
theorem dX8_workHandleAndNumber_11 : decode cX8_workHandleAndNumber 11 = .ok (.invokevirtual 153, 3) := by decide +kernel
theorem dX8_workHandleAndNumber_14 : decode cX8_workHandleAndNumber 14 = .ok (.astore_n 3, 1) := by decide +kernel
theorem dX8_workHandleAndNumber_15 : decode cX8_workHandleAndNumber 15 = .ok (.aload_n 3, 1) := by decide +kernel
theorem dX8_workHandleAndNumber_16 : decode cX8_workHandleAndNumber 16 = .ok (.ifnull 20, 3) := by decide +kernel
theorem dX8_workHandleAndNumber_19 : decode cX8_workHandleAndNumber 19 = .ok (.aload_n 0, 1) := by decide +kernel
theorem dX8_workHandleAndNumber_20 : decode cX8_workHandleAndNumber 20 = .ok (.aload_n 0, 1) := by decide +kernel
theorem dX8_workHandleAndNumber_21 : decode cX8_workHandleAndNumber 21 = .ok (.getfield 31, 3) := by decide +kernel
theorem dX8_workHandleAndNumber_24 : decode cX8_workHandleAndNumber 24 = .ok (.iload_n 1, 1) := by decide +kernel
theorem dX8_workHandleAndNumber_25 : decode cX8_workHandleAndNumber 25 = .ok (.invokevirtual 110, 3) := by decide +kernel
theorem dX8_workHandleAndNumber_28 : decode cX8_workHandleAndNumber 28 = .ok (.iload_n 1, 1) := by decide +kernel
theorem dX8_workHandleAndNumber_29 : decode cX8_workHandleAndNumber 29 = .ok (.iload_n 2, 1) := by decide +kernel
theorem dX8_workHandleAndNumber_30 : decode cX8_workHandleAndNumber 30 = .ok (.invokevirtual 192, 3) := by decide +kernel
theorem dX8_workHandleAndNumber_33 : decode cX8_workHandleAndNumber 33 = .ok (.ifCond .ne 5, 3) := by decide +kernel
theorem dX8_workHandleAndNumber_36 : decode cX8_workHandleAndNumber 36 = .ok (.iconst 0, 1) := by decide +kernel
theorem dX8_workHandleAndNumber_37 : decode cX8_workHandleAndNumber 37 = .ok (.ireturn, 1) := by decide +kernel
theorem dX8_workHandleAndNumber_38 : decode cX8_workHandleAndNumber 38 = .ok (.aload_n 0, 1) := by decide +kernel
theorem dX8_workHandleAndNumber_39 : decode cX8_workHandleAndNumber 39 = .ok (.getfield 31, 3) := by decide +kernel
theorem dX8_workHandleAndNumber_42 : decode cX8_workHandleAndNumber 42 = .ok (.iload_n 1, 1) := by decide +kernel
theorem dX8_workHandleAndNumber_43 : decode cX8_workHandleAndNumber 43 = .ok (.invokevirtual 79, 3) := by decide +kernel
theorem dX8_workHandleAndNumber_46 : decode cX8_workHandleAndNumber 46 = .ok (.iconst 5, 1) := by decide +kernel
theorem dX8_workHandleAndNumber_47 : decode cX8_workHandleAndNumber 47 = .ok (.if_icmp .ne 14, 3) := by decide +kernel
theorem dX8_workHandleAndNumber_50 : decode cX8_workHandleAndNumber 50 = .ok (.aload_n 3, 1) := by decide +kernel
theorem dX8_workHandleAndNumber_51 : decode cX8_workHandleAndNumber 51 = .ok (.aload_n 0, 1) := by decide +kernel
theorem dX8_workHandleAndNumber_52 : decode cX8_workHandleAndNumber 52 = .ok (.getfield 22, 3) := by decide +kernel
theorem dX8_workHandleAndNumber_55 : decode cX8_workHandleAndNumber 55 = .ok (.invokevirtual 195, 3) := by decide +kernel
theorem dX8_workHandleAndNumber_58 : decode cX8_workHandleAndNumber 58 = .ok (.goto 11, 3) := by decide +kernel
theorem dX8_workHandleAndNumber_61 : decode cX8_workHandleAndNumber 61 = .ok (.aload_n 3, 1) := by decide +kernel
theorem dX8_workHandleAndNumber_62 : decode cX8_workHandleAndNumber 62 = .ok (.aload_n 0, 1) := by decide +kernel
theorem dX8_workHandleAndNumber_63 : decode cX8_workHandleAndNumber 63 = .ok (.getfield 22, 3) := by decide +kernel
theorem dX8_workHandleAndNumber_66 : decode cX8_workHandleAndNumber 66 = .ok (.invokevirtual 198, 3) := by decide +kernel
theorem dX8_workHandleAndNumber_69 : decode cX8_workHandleAndNumber 69 = .ok (.istore 4, 2) := by decide +kernel
theorem dX8_workHandleAndNumber_71 : decode cX8_workHandleAndNumber 71 = .ok (.aload_n 0, 1) := by decide +kernel
theorem dX8_workHandleAndNumber_72 : decode cX8_workHandleAndNumber 72 = .ok (.iload_n 1, 1) := by decide +kernel
theorem dX8_workHandleAndNumber_73 : decode cX8_workHandleAndNumber 73 = .ok (.iconst 0, 1) := by decide +kernel
theorem dX8_workHandleAndNumber_74 : decode cX8_workHandleAndNumber 74 = .ok (.iload 4, 2) := by decide +kernel
theorem dX8_workHandleAndNumber_76 : decode cX8_workHandleAndNumber 76 = .ok (.invokevirtual 170, 3) := by decide +kernel
theorem dX8_workHandleAndNumber_79 : decode cX8_workHandleAndNumber 79 = .ok (.ireturn, 1) := by decide +kernel
theorem dX8_workItem_0 : decode cX8_workItem 0 = .ok (.aload_n 0, 1) := by decide +kernel
theorem dX8_workItem_1 : decode cX8_workItem 1 = .ok (.aload_n 0, 1) := by decide +kernel
theorem dX8_workItem_2 : decode cX8_workItem 2 = .ok (.getfield 31, 3) := by decide +kernel
theorem dX8_workItem_5 : decode cX8_workItem 5 = .ok (.iload_n 1, 1) := by decide +kernel
theorem dX8_workItem_6 : decode cX8_workItem 6 = .ok (.invokevirtual 85, 3) := by decide +kernel
theorem dX8_workItem_9 : decode cX8_workItem 9 = .ok (.iload_n 1, 1) := by decide +kernel
theorem dX8_workItem_10 : decode cX8_workItem 10 = .ok (.iload_n 2, 1) := by decide +kernel
theorem dX8_workItem_11 : decode cX8_workItem 11 = .ok (.invokevirtual 201, 3) := by decide +kernel
theorem dX8_workItem_14 : decode cX8_workItem 14 = .ok (.astore_n 3, 1) := by decide +kernel
theorem dX8_workItem_15 : decode cX8_workItem 15 = .ok (.aload_n 3, 1) := by decide +kernel
theorem dX8_workItem_16 : decode cX8_workItem 16 = .ok (.ifnull 20, 3) := by decide +kernel
theorem dX8_workItem_19 : decode cX8_workItem 19 = .ok (.aload_n 0, 1) := by decide +kernel
theorem dX8_workItem_20 : decode cX8_workItem 20 = .ok (.aload_n 0, 1) := by decide +kernel
theorem dX8_workItem_21 : decode cX8_workItem 21 = .ok (.getfield 31, 3) := by decide +kernel
theorem dX8_workItem_24 : decode cX8_workItem 24 = .ok (.iload_n 1, 1) := by decide +kernel
theorem dX8_workItem_25 : decode cX8_workItem 25 = .ok (.invokevirtual 110, 3) := by decide +kernel
theorem dX8_workItem_28 : decode cX8_workItem 28 = .ok (.iload_n 1, 1) := by decide +kernel
theorem dX8_workItem_29 : decode cX8_workItem 29 = .ok (.iload_n 2, 1) := by decide +kernel
theorem dX8_workItem_30 : decode cX8_workItem 30 = .ok (.invokevirtual 192, 3) := by decide +kernel
theorem dX8_workItem_33 : decode cX8_workItem 33 = .ok (.ifCond .ne 5, 3) := by decide +kernel
theorem dX8_workItem_36 : decode cX8_workItem 36 = .ok (.iconst 0, 1) := by decide +kernel
theorem dX8_workItem_37 : decode cX8_workItem 37 = .ok (.ireturn, 1) := by decide +kernel
theorem dX8_workItem_38 : decode cX8_workItem 38 = .ok (.aload_n 0, 1) := by decide +kernel
theorem dX8_workItem_39 : decode cX8_workItem 39 = .ok (.getfield 22, 3) := by decide +kernel
theorem dX8_workItem_42 : decode cX8_workItem 42 = .ok (.istore 4, 2) := by decide +kernel
theorem dX8_workItem_44 : decode cX8_workItem 44 = .ok (.iload 4, 2) := by decide +kernel
theorem dX8_workItem_46 : decode cX8_workItem 46 = .ok (.ifCond .ge 10, 3) := by decide +kernel
theorem dX8_workItem_49 : decode cX8_workItem 49 = .ok (.aload_n 0, 1) := by decide +kernel
theorem dX8_workItem_50 : decode cX8_workItem 50 = .ok (.iconst 4, 1) := by decide +kernel
theorem dX8_workItem_51 : decode cX8_workItem 51 = .ok (.iload_n 1, 1) := by decide +kernel
theorem dX8_workItem_52 : decode cX8_workItem 52 = .ok (.invokevirtual 116, 3) := by decide +kernel
theorem dX8_workItem_55 : decode cX8_workItem 55 = .ok (.ireturn, 1) := by decide +kernel
theorem dX8_workItem_56 : decode cX8_workItem 56 = .ok (.aload_n 0, 1) := by decide +kernel
theorem dX8_workItem_57 : decode cX8_workItem 57 = .ok (.iload_n 1, 1) := by decide +kernel
theorem dX8_workItem_58 : decode cX8_workItem 58 = .ok (.aload_n 3, 1) := by decide +kernel
theorem dX8_workItem_59 : decode cX8_workItem 59 = .ok (.iload 4, 2) := by decide +kernel
theorem dX8_workItem_61 : decode cX8_workItem 61 = .ok (.invokevirtual 205, 3) := by decide +kernel
theorem dX8_workItem_64 : decode cX8_workItem 64 = .ok (.invokevirtual 210, 3) := by decide +kernel
theorem dX8_workItem_67 : decode cX8_workItem 67 = .ok (.aload_n 0, 1) := by decide +kernel
theorem dX8_workItem_68 : decode cX8_workItem 68 = .ok (.iconst 0, 1) := by decide +kernel
theorem dX8_workItem_69 : decode cX8_workItem 69 = .ok (.aload_n 3, 1) := by decide +kernel
theorem dX8_workItem_70 : decode cX8_workItem 70 = .ok (.iload 4, 2) := by decide +kernel
theorem dX8_workItem_72 : decode cX8_workItem 72 = .ok (.invokevirtual 214, 3) := by decide +kernel
theorem dX8_workItem_75 : decode cX8_workItem 75 = .ok (.invokevirtual 88, 3) := by decide +kernel
theorem dX8_workItem_78 : decode cX8_workItem 78 = .ok (.ireturn, 1) := by decide +kernel
theorem dX8_workLength_0 : decode cX8_workLength 0 = .ok (.aload_n 0, 1) := by decide +kernel
theorem dX8_workLength_1 : decode cX8_workLength 1 = .ok (.aload_n 0, 1) := by decide +kernel
theorem dX8_workLength_2 : decode cX8_workLength 2 = .ok (.getfield 31, 3) := by decide +kernel
theorem dX8_workLength_5 : decode cX8_workLength 5 = .ok (.iload_n 1, 1) := by decide +kernel
theorem dX8_workLength_6 : decode cX8_workLength 6 = .ok (.invokevirtual 85, 3) := by decide +kernel
theorem dX8_workLength_9 : decode cX8_workLength 9 = .ok (.iload_n 1, 1) := by decide +kernel
theorem dX8_workLength_10 : decode cX8_workLength 10 = .ok (.iload_n 2, 1) := by decide +kernel
theorem dX8_workLength_11 : decode cX8_workLength 11 = .ok (.invokevirtual 201, 3) := by decide +kernel
theorem dX8_workLength_14 : decode cX8_workLength 14 = .ok (.astore_n 3, 1) := by decide +kernel
theorem dX8_workLength_15 : decode cX8_workLength 15 = .ok (.aload_n 3, 1) := by decide +kernel
theorem dX8_workLength_16 : decode cX8_workLength 16 = .ok (.ifnonnull 5, 3) := by decide +kernel
theorem dX8_workLength_19 : decode cX8_workLength 19 = .ok (.iconst 0, 1) := by decide +kernel
theorem dX8_workLength_20 : decode cX8_workLength 20 = .ok (.ireturn, 1) := by decide +kernel
theorem dX8_workLength_21 : decode cX8_workLength 21 = .ok (.aload_n 0, 1) := by decide +kernel
theorem dX8_workLength_22 : decode cX8_workLength 22 = .ok (.iload_n 1, 1) := by decide +kernel
theorem dX8_workLength_23 : decode cX8_workLength 23 = .ok (.aload_n 3, 1) := by decide +kernel
theorem dX8_workLength_24 : decode cX8_workLength 24 = .ok (.bipush 40, 2) := by decide +kernel
theorem dX8_workLength_26 : decode cX8_workLength 26 = .ok (.invokevirtual 205, 3) := by decide +kernel
theorem dX8_workLength_29 : decode cX8_workLength 29 = .ok (.invokevirtual 210, 3) := by decide +kernel
theorem dX8_workLength_32 : decode cX8_workLength 32 = .ok (.aload_n 0, 1) := by decide +kernel
theorem dX8_workLength_33 : decode cX8_workLength 33 = .ok (.iconst 0, 1) := by decide +kernel
theorem dX8_workLength_34 : decode cX8_workLength 34 = .ok (.aload_n 3, 1) := by decide +kernel
theorem dX8_workLength_35 : decode cX8_workLength 35 = .ok (.invokevirtual 217, 3) := by decide +kernel
theorem dX8_workLength_38 : decode cX8_workLength 38 = .ok (.invokevirtual 88, 3) := by decide +kernel
theorem dX8_workLength_41 : decode cX8_workLength 41 = .ok (.ireturn, 1) := by decide +kernel
theorem dX8_noteTimes_0 : decode cX8_noteTimes 0 = .ok (.iconst 0, 1) := by decide +kernel
theorem dX8_noteTimes_1 : decode cX8_noteTimes 1 = .ok (.istore_n 3, 1) := by decide +kernel
theorem dX8_noteTimes_2 : decode cX8_noteTimes 2 = .ok (.iload_n 3, 1) := by decide +kernel
theorem dX8_noteTimes_3 : decode cX8_noteTimes 3 = .ok (.iload_n 2, 1) := by decide +kernel
theorem dX8_noteTimes_4 : decode cX8_noteTimes 4 = .ok (.if_icmp .ge 17, 3) := by decide +kernel
theorem dX8_noteTimes_7 : decode cX8_noteTimes 7 = .ok (.aload_n 0, 1) := by decide +kernel
theorem dX8_noteTimes_8 : decode cX8_noteTimes 8 = .ok (.getfield 47, 3) := by decide +kernel
theorem dX8_noteTimes_11 : decode cX8_noteTimes 11 = .ok (.iload_n 1, 1) := by decide +kernel
theorem dX8_noteTimes_12 : decode cX8_noteTimes 12 = .ok (.invokevirtual 134, 3) := by decide +kernel
theorem dX8_noteTimes_15 : decode cX8_noteTimes 15 = .ok (.iinc 3 1, 3) := by decide +kernel
theorem dX8_noteTimes_18 : decode cX8_noteTimes 18 = .ok (.goto (-16), 3) := by decide +kernel
theorem dX8_noteTimes_21 : decode cX8_noteTimes 21 = .ok (.return_, 1) := by decide +kernel
theorem dX8_actAlone_0 : decode cX8_actAlone 0 = .ok (.aload_n 0, 1) := by decide +kernel
theorem dX8_actAlone_1 : decode cX8_actAlone 1 = .ok (.getfield 31, 3) := by decide +kernel
theorem dX8_actAlone_4 : decode cX8_actAlone 4 = .ok (.iload_n 1, 1) := by decide +kernel
theorem dX8_actAlone_5 : decode cX8_actAlone 5 = .ok (.invokevirtual 85, 3) := by decide +kernel
theorem dX8_actAlone_8 : decode cX8_actAlone 8 = .ok (.istore_n 2, 1) := by decide +kernel
theorem dX8_actAlone_9 : decode cX8_actAlone 9 = .ok (.aload_n 0, 1) := by decide +kernel
theorem dX8_actAlone_10 : decode cX8_actAlone 10 = .ok (.getfield 31, 3) := by decide +kernel
theorem dX8_actAlone_13 : decode cX8_actAlone 13 = .ok (.iload_n 1, 1) := by decide +kernel
theorem dX8_actAlone_14 : decode cX8_actAlone 14 = .ok (.invokevirtual 110, 3) := by decide +kernel
theorem dX8_actAlone_17 : decode cX8_actAlone 17 = .ok (.istore_n 3, 1) := by decide +kernel
theorem dX8_actAlone_18 : decode cX8_actAlone 18 = .ok (.aload_n 0, 1) := by decide +kernel
theorem dX8_actAlone_19 : decode cX8_actAlone 19 = .ok (.getfield 31, 3) := by decide +kernel
theorem dX8_actAlone_22 : decode cX8_actAlone 22 = .ok (.iload_n 1, 1) := by decide +kernel
theorem dX8_actAlone_23 : decode cX8_actAlone 23 = .ok (.invokevirtual 79, 3) := by decide +kernel
theorem dX8_actAlone_26 : decode cX8_actAlone 26 = .ok (.lookupswitch 109 #[(3, 42), (15, 58), (16, 73), (18, 109)], 42) := by decide +kernel
theorem dX8_actAlone_68 : decode cX8_actAlone 68 = .ok (.aload_n 0, 1) := by decide +kernel
theorem dX8_actAlone_69 : decode cX8_actAlone 69 = .ok (.iload_n 1, 1) := by decide +kernel
theorem dX8_actAlone_70 : decode cX8_actAlone 70 = .ok (.iconst 1, 1) := by decide +kernel
theorem dX8_actAlone_71 : decode cX8_actAlone 71 = .ok (.aload_n 0, 1) := by decide +kernel
theorem dX8_actAlone_72 : decode cX8_actAlone 72 = .ok (.getfield 39, 3) := by decide +kernel
theorem dX8_actAlone_75 : decode cX8_actAlone 75 = .ok (.iload_n 2, 1) := by decide +kernel
theorem dX8_actAlone_76 : decode cX8_actAlone 76 = .ok (.iload_n 3, 1) := by decide +kernel
theorem dX8_actAlone_77 : decode cX8_actAlone 77 = .ok (.invokevirtual 220, 3) := by decide +kernel
theorem dX8_actAlone_80 : decode cX8_actAlone 80 = .ok (.invokevirtual 170, 3) := by decide +kernel
theorem dX8_actAlone_83 : decode cX8_actAlone 83 = .ok (.ireturn, 1) := by decide +kernel
theorem dX8_actAlone_84 : decode cX8_actAlone 84 = .ok (.aload_n 0, 1) := by decide +kernel
theorem dX8_actAlone_85 : decode cX8_actAlone 85 = .ok (.iload_n 1, 1) := by decide +kernel
theorem dX8_actAlone_86 : decode cX8_actAlone 86 = .ok (.iconst 0, 1) := by decide +kernel
theorem dX8_actAlone_87 : decode cX8_actAlone 87 = .ok (.aload_n 0, 1) := by decide +kernel
theorem dX8_actAlone_88 : decode cX8_actAlone 88 = .ok (.getfield 39, 3) := by decide +kernel
theorem dX8_actAlone_91 : decode cX8_actAlone 91 = .ok (.iload_n 2, 1) := by decide +kernel
theorem dX8_actAlone_92 : decode cX8_actAlone 92 = .ok (.invokevirtual 224, 3) := by decide +kernel
theorem dX8_actAlone_95 : decode cX8_actAlone 95 = .ok (.invokevirtual 170, 3) := by decide +kernel
theorem dX8_actAlone_98 : decode cX8_actAlone 98 = .ok (.ireturn, 1) := by decide +kernel
theorem dX8_actAlone_99 : decode cX8_actAlone 99 = .ok (.aload_n 0, 1) := by decide +kernel
theorem dX8_actAlone_100 : decode cX8_actAlone 100 = .ok (.getfield 39, 3) := by decide +kernel
theorem dX8_actAlone_103 : decode cX8_actAlone 103 = .ok (.iload_n 2, 1) := by decide +kernel
theorem dX8_actAlone_104 : decode cX8_actAlone 104 = .ok (.iload_n 3, 1) := by decide +kernel
theorem dX8_actAlone_105 : decode cX8_actAlone 105 = .ok (.invokevirtual 227, 3) := by decide +kernel
theorem dX8_actAlone_108 : decode cX8_actAlone 108 = .ok (.istore 4, 2) := by decide +kernel
theorem dX8_actAlone_110 : decode cX8_actAlone 110 = .ok (.iload_n 2, 1) := by decide +kernel
theorem dX8_actAlone_111 : decode cX8_actAlone 111 = .ok (.iload_n 3, 1) := by decide +kernel
theorem dX8_actAlone_112 : decode cX8_actAlone 112 = .ok (.if_icmp .ne 14, 3) := by decide +kernel
theorem dX8_actAlone_115 : decode cX8_actAlone 115 = .ok (.aload_n 0, 1) := by decide +kernel
theorem dX8_actAlone_116 : decode cX8_actAlone 116 = .ok (.iload_n 1, 1) := by decide +kernel
theorem dX8_actAlone_117 : decode cX8_actAlone 117 = .ok (.iconst 0, 1) := by decide +kernel
theorem dX8_actAlone_118 : decode cX8_actAlone 118 = .ok (.iload 4, 2) := by decide +kernel
theorem dX8_actAlone_120 : decode cX8_actAlone 120 = .ok (.invokevirtual 138, 3) := by decide +kernel
theorem dX8_actAlone_123 : decode cX8_actAlone 123 = .ok (.goto 11, 3) := by decide +kernel
theorem dX8_actAlone_126 : decode cX8_actAlone 126 = .ok (.aload_n 0, 1) := by decide +kernel
theorem dX8_actAlone_127 : decode cX8_actAlone 127 = .ok (.iload_n 1, 1) := by decide +kernel
theorem dX8_actAlone_128 : decode cX8_actAlone 128 = .ok (.iconst 0, 1) := by decide +kernel
theorem dX8_actAlone_129 : decode cX8_actAlone 129 = .ok (.iload 4, 2) := by decide +kernel
theorem dX8_actAlone_131 : decode cX8_actAlone 131 = .ok (.invokevirtual 170, 3) := by decide +kernel
theorem dX8_actAlone_134 : decode cX8_actAlone 134 = .ok (.ireturn, 1) := by decide +kernel
theorem dX8_actAlone_135 : decode cX8_actAlone 135 = .ok (.aload_n 0, 1) := by decide +kernel
theorem dX8_actAlone_136 : decode cX8_actAlone 136 = .ok (.iload_n 1, 1) := by decide +kernel
theorem dX8_actAlone_137 : decode cX8_actAlone 137 = .ok (.iconst 0, 1) := by decide +kernel
theorem dX8_actAlone_138 : decode cX8_actAlone 138 = .ok (.aload_n 0, 1) := by decide +kernel
theorem dX8_actAlone_139 : decode cX8_actAlone 139 = .ok (.getfield 35, 3) := by decide +kernel
theorem dX8_actAlone_142 : decode cX8_actAlone 142 = .ok (.invokevirtual 230, 3) := by decide +kernel
theorem dX8_actAlone_145 : decode cX8_actAlone 145 = .ok (.invokevirtual 170, 3) := by decide +kernel
theorem dX8_actAlone_148 : decode cX8_actAlone 148 = .ok (.ireturn, 1) := by decide +kernel
theorem dX8_workNumberFirst_0 : decode cX8_workNumberFirst 0 = .ok (.aload_n 0, 1) := by decide +kernel
theorem dX8_workNumberFirst_1 : decode cX8_workNumberFirst 1 = .ok (.aload_n 0, 1) := by decide +kernel
theorem dX8_workNumberFirst_2 : decode cX8_workNumberFirst 2 = .ok (.getfield 31, 3) := by decide +kernel
theorem dX8_workNumberFirst_5 : decode cX8_workNumberFirst 5 = .ok (.iload_n 1, 1) := by decide +kernel
theorem dX8_workNumberFirst_6 : decode cX8_workNumberFirst 6 = .ok (.invokevirtual 85, 3) := by decide +kernel
theorem dX8_workNumberFirst_9 : decode cX8_workNumberFirst 9 = .ok (.iload_n 1, 1) := by decide +kernel
theorem dX8_workNumberFirst_10 : decode cX8_workNumberFirst 10 = .ok (.iload_n 2, 1) := by decide +kernel
theorem dX8_workNumberFirst_11 : decode cX8_workNumberFirst 11 = .ok (.invokevirtual 192, 3) := by decide +kernel
theorem dX8_workNumberFirst_14 : decode cX8_workNumberFirst 14 = .ok (.ifCond .ne 5, 3) := by decide +kernel
theorem dX8_workNumberFirst_17 : decode cX8_workNumberFirst 17 = .ok (.iconst 0, 1) := by decide +kernel
theorem dX8_workNumberFirst_18 : decode cX8_workNumberFirst 18 = .ok (.ireturn, 1) := by decide +kernel
theorem dX8_workNumberFirst_19 : decode cX8_workNumberFirst 19 = .ok (.aload_n 0, 1) := by decide +kernel
theorem dX8_workNumberFirst_20 : decode cX8_workNumberFirst 20 = .ok (.getfield 31, 3) := by decide +kernel
theorem dX8_workNumberFirst_23 : decode cX8_workNumberFirst 23 = .ok (.iload_n 1, 1) := by decide +kernel
theorem dX8_workNumberFirst_24 : decode cX8_workNumberFirst 24 = .ok (.invokevirtual 79, 3) := by decide +kernel
theorem dX8_workNumberFirst_27 : decode cX8_workNumberFirst 27 = .ok (.tableswitch 108 17 25 #[49, 108, 108, 74, 108, 108, 108, 108, 67], 49) := by decide +kernel
theorem dX8_workNumberFirst_76 : decode cX8_workNumberFirst 76 = .ok (.aload_n 0, 1) := by decide +kernel
theorem dX8_workNumberFirst_77 : decode cX8_workNumberFirst 77 = .ok (.iload_n 1, 1) := by decide +kernel
theorem dX8_workNumberFirst_78 : decode cX8_workNumberFirst 78 = .ok (.iconst 0, 1) := by decide +kernel
theorem dX8_workNumberFirst_79 : decode cX8_workNumberFirst 79 = .ok (.aload_n 0, 1) := by decide +kernel
theorem dX8_workNumberFirst_80 : decode cX8_workNumberFirst 80 = .ok (.getfield 35, 3) := by decide +kernel
theorem dX8_workNumberFirst_83 : decode cX8_workNumberFirst 83 = .ok (.aload_n 0, 1) := by decide +kernel
theorem dX8_workNumberFirst_84 : decode cX8_workNumberFirst 84 = .ok (.getfield 22, 3) := by decide +kernel
theorem dX8_workNumberFirst_87 : decode cX8_workNumberFirst 87 = .ok (.invokevirtual 235, 3) := by decide +kernel
theorem dX8_workNumberFirst_90 : decode cX8_workNumberFirst 90 = .ok (.invokevirtual 170, 3) := by decide +kernel
theorem dX8_workNumberFirst_93 : decode cX8_workNumberFirst 93 = .ok (.ireturn, 1) := by decide +kernel
theorem dX8_workNumberFirst_94 : decode cX8_workNumberFirst 94 = .ok (.aload_n 0, 1) := by decide +kernel
theorem dX8_workNumberFirst_95 : decode cX8_workNumberFirst 95 = .ok (.iconst 4, 1) := by decide +kernel
theorem dX8_workNumberFirst_96 : decode cX8_workNumberFirst 96 = .ok (.putfield 18, 3) := by decide +kernel
theorem dX8_workNumberFirst_99 : decode cX8_workNumberFirst 99 = .ok (.iconst 0, 1) := by decide +kernel
theorem dX8_workNumberFirst_100 : decode cX8_workNumberFirst 100 = .ok (.ireturn, 1) := by decide +kernel
theorem dX8_workNumberFirst_101 : decode cX8_workNumberFirst 101 = .ok (.aload_n 0, 1) := by decide +kernel
theorem dX8_workNumberFirst_102 : decode cX8_workNumberFirst 102 = .ok (.aload_n 0, 1) := by decide +kernel
theorem dX8_workNumberFirst_103 : decode cX8_workNumberFirst 103 = .ok (.getfield 22, 3) := by decide +kernel
theorem dX8_workNumberFirst_106 : decode cX8_workNumberFirst 106 = .ok (.ifCond .eq 14, 3) := by decide +kernel
theorem dX8_workNumberFirst_109 : decode cX8_workNumberFirst 109 = .ok (.aload_n 0, 1) := by decide +kernel
theorem dX8_workNumberFirst_110 : decode cX8_workNumberFirst 110 = .ok (.getfield 31, 3) := by decide +kernel
theorem dX8_workNumberFirst_113 : decode cX8_workNumberFirst 113 = .ok (.iload_n 1, 1) := by decide +kernel
theorem dX8_workNumberFirst_114 : decode cX8_workNumberFirst 114 = .ok (.invokevirtual 110, 3) := by decide +kernel
theorem dX8_workNumberFirst_117 : decode cX8_workNumberFirst 117 = .ok (.goto 11, 3) := by decide +kernel
theorem dX8_workNumberFirst_120 : decode cX8_workNumberFirst 120 = .ok (.aload_n 0, 1) := by decide +kernel
theorem dX8_workNumberFirst_121 : decode cX8_workNumberFirst 121 = .ok (.getfield 31, 3) := by decide +kernel
theorem dX8_workNumberFirst_124 : decode cX8_workNumberFirst 124 = .ok (.iload_n 1, 1) := by decide +kernel
theorem dX8_workNumberFirst_125 : decode cX8_workNumberFirst 125 = .ok (.invokevirtual 238, 3) := by decide +kernel
theorem dX8_workNumberFirst_128 : decode cX8_workNumberFirst 128 = .ok (.iload_n 2, 1) := by decide +kernel
theorem dX8_workNumberFirst_129 : decode cX8_workNumberFirst 129 = .ok (.iconst 1, 1) := by decide +kernel
theorem dX8_workNumberFirst_130 : decode cX8_workNumberFirst 130 = .ok (.iadd, 1) := by decide +kernel
theorem dX8_workNumberFirst_131 : decode cX8_workNumberFirst 131 = .ok (.invokevirtual 68, 3) := by decide +kernel
theorem dX8_workNumberFirst_134 : decode cX8_workNumberFirst 134 = .ok (.ireturn, 1) := by decide +kernel
theorem dX8_workNumberFirst_135 : decode cX8_workNumberFirst 135 = .ok (.aload_n 0, 1) := by decide +kernel
theorem dX8_workNumberFirst_136 : decode cX8_workNumberFirst 136 = .ok (.aload_n 0, 1) := by decide +kernel
theorem dX8_workNumberFirst_137 : decode cX8_workNumberFirst 137 = .ok (.getfield 31, 3) := by decide +kernel
theorem dX8_workNumberFirst_140 : decode cX8_workNumberFirst 140 = .ok (.iload_n 1, 1) := by decide +kernel
theorem dX8_workNumberFirst_141 : decode cX8_workNumberFirst 141 = .ok (.invokevirtual 110, 3) := by decide +kernel
theorem dX8_workNumberFirst_144 : decode cX8_workNumberFirst 144 = .ok (.aload_n 0, 1) := by decide +kernel
theorem dX8_workNumberFirst_145 : decode cX8_workNumberFirst 145 = .ok (.getfield 22, 3) := by decide +kernel
theorem dX8_workNumberFirst_148 : decode cX8_workNumberFirst 148 = .ok (.iload_n 2, 1) := by decide +kernel
theorem dX8_workNumberFirst_149 : decode cX8_workNumberFirst 149 = .ok (.invokevirtual 241, 3) := by decide +kernel
theorem dX8_workNumberFirst_152 : decode cX8_workNumberFirst 152 = .ok (.ireturn, 1) := by decide +kernel
theorem dX8_workTimes_0 : decode cX8_workTimes 0 = .ok (.iload_n 2, 1) := by decide +kernel
theorem dX8_workTimes_1 : decode cX8_workTimes 1 = .ok (.sipush 600, 3) := by decide +kernel
theorem dX8_workTimes_4 : decode cX8_workTimes 4 = .ok (.invokestatic 244, 3) := by decide +kernel
theorem dX8_workTimes_7 : decode cX8_workTimes 7 = .ok (.istore 4, 2) := by decide +kernel
theorem dX8_workTimes_9 : decode cX8_workTimes 9 = .ok (.iconst 0, 1) := by decide +kernel
theorem dX8_workTimes_10 : decode cX8_workTimes 10 = .ok (.istore 5, 2) := by decide +kernel
theorem dX8_workTimes_12 : decode cX8_workTimes 12 = .ok (.iload 5, 2) := by decide +kernel
theorem dX8_workTimes_14 : decode cX8_workTimes 14 = .ok (.iload 4, 2) := by decide +kernel
theorem dX8_workTimes_16 : decode cX8_workTimes 16 = .ok (.if_icmp .ge 22, 3) := by decide +kernel
theorem dX8_workTimes_19 : decode cX8_workTimes 19 = .ok (.aload_n 0, 1) := by decide +kernel
theorem dX8_workTimes_20 : decode cX8_workTimes 20 = .ok (.iload_n 1, 1) := by decide +kernel
theorem dX8_workTimes_21 : decode cX8_workTimes 21 = .ok (.iload_n 3, 1) := by decide +kernel
theorem dX8_workTimes_22 : decode cX8_workTimes 22 = .ok (.iconst 1, 1) := by decide +kernel
theorem dX8_workTimes_23 : decode cX8_workTimes 23 = .ok (.iadd, 1) := by decide +kernel
theorem dX8_workTimes_24 : decode cX8_workTimes 24 = .ok (.invokevirtual 68, 3) := by decide +kernel
theorem dX8_workTimes_27 : decode cX8_workTimes 27 = .ok (.ifCond .ne 5, 3) := by decide +kernel
theorem dX8_workTimes_30 : decode cX8_workTimes 30 = .ok (.iconst 0, 1) := by decide +kernel
theorem dX8_workTimes_31 : decode cX8_workTimes 31 = .ok (.ireturn, 1) := by decide +kernel
theorem dX8_workTimes_32 : decode cX8_workTimes 32 = .ok (.iinc 5 1, 3) := by decide +kernel
theorem dX8_workTimes_35 : decode cX8_workTimes 35 = .ok (.goto (-23), 3) := by decide +kernel
theorem dX8_workTimes_38 : decode cX8_workTimes 38 = .ok (.aload_n 0, 1) := by decide +kernel
theorem dX8_workTimes_39 : decode cX8_workTimes 39 = .ok (.iconst 0, 1) := by decide +kernel
theorem dX8_workTimes_40 : decode cX8_workTimes 40 = .ok (.iconst 0, 1) := by decide +kernel
theorem dX8_workTimes_41 : decode cX8_workTimes 41 = .ok (.invokevirtual 88, 3) := by decide +kernel
theorem dX8_workTimes_44 : decode cX8_workTimes 44 = .ok (.ireturn, 1) := by decide +kernel
theorem dX8_workTwoNumbers_0 : decode cX8_workTwoNumbers 0 = .ok (.aload_n 0, 1) := by decide +kernel
theorem dX8_workTwoNumbers_1 : decode cX8_workTwoNumbers 1 = .ok (.aload_n 0, 1) := by decide +kernel
theorem dX8_workTwoNumbers_2 : decode cX8_workTwoNumbers 2 = .ok (.getfield 31, 3) := by decide +kernel
theorem dX8_workTwoNumbers_5 : decode cX8_workTwoNumbers 5 = .ok (.iload_n 1, 1) := by decide +kernel
theorem dX8_workTwoNumbers_6 : decode cX8_workTwoNumbers 6 = .ok (.invokevirtual 85, 3) := by decide +kernel
theorem dX8_workTwoNumbers_9 : decode cX8_workTwoNumbers 9 = .ok (.iload_n 1, 1) := by decide +kernel
theorem dX8_workTwoNumbers_10 : decode cX8_workTwoNumbers 10 = .ok (.iload_n 2, 1) := by decide +kernel
theorem dX8_workTwoNumbers_11 : decode cX8_workTwoNumbers 11 = .ok (.invokevirtual 192, 3) := by decide +kernel
theorem dX8_workTwoNumbers_14 : decode cX8_workTwoNumbers 14 = .ok (.ifCond .ne 5, 3) := by decide +kernel
theorem dX8_workTwoNumbers_17 : decode cX8_workTwoNumbers 17 = .ok (.iconst 0, 1) := by decide +kernel
theorem dX8_workTwoNumbers_18 : decode cX8_workTwoNumbers 18 = .ok (.ireturn, 1) := by decide +kernel
theorem dX8_workTwoNumbers_19 : decode cX8_workTwoNumbers 19 = .ok (.aload_n 0, 1) := by decide +kernel
theorem dX8_workTwoNumbers_20 : decode cX8_workTwoNumbers 20 = .ok (.getfield 22, 3) := by decide +kernel
theorem dX8_workTwoNumbers_23 : decode cX8_workTwoNumbers 23 = .ok (.istore_n 3, 1) := by decide +kernel
theorem dX8_workTwoNumbers_24 : decode cX8_workTwoNumbers 24 = .ok (.aload_n 0, 1) := by decide +kernel
theorem dX8_workTwoNumbers_25 : decode cX8_workTwoNumbers 25 = .ok (.aload_n 0, 1) := by decide +kernel
theorem dX8_workTwoNumbers_26 : decode cX8_workTwoNumbers 26 = .ok (.getfield 31, 3) := by decide +kernel
theorem dX8_workTwoNumbers_29 : decode cX8_workTwoNumbers 29 = .ok (.iload_n 1, 1) := by decide +kernel
theorem dX8_workTwoNumbers_30 : decode cX8_workTwoNumbers 30 = .ok (.invokevirtual 110, 3) := by decide +kernel
theorem dX8_workTwoNumbers_33 : decode cX8_workTwoNumbers 33 = .ok (.iload_n 1, 1) := by decide +kernel
theorem dX8_workTwoNumbers_34 : decode cX8_workTwoNumbers 34 = .ok (.iload_n 2, 1) := by decide +kernel
theorem dX8_workTwoNumbers_35 : decode cX8_workTwoNumbers 35 = .ok (.invokevirtual 192, 3) := by decide +kernel
theorem dX8_workTwoNumbers_38 : decode cX8_workTwoNumbers 38 = .ok (.ifCond .ne 5, 3) := by decide +kernel
theorem dX8_workTwoNumbers_41 : decode cX8_workTwoNumbers 41 = .ok (.iconst 0, 1) := by decide +kernel
theorem dX8_workTwoNumbers_42 : decode cX8_workTwoNumbers 42 = .ok (.ireturn, 1) := by decide +kernel
theorem dX8_workTwoNumbers_43 : decode cX8_workTwoNumbers 43 = .ok (.aload_n 0, 1) := by decide +kernel
theorem dX8_workTwoNumbers_44 : decode cX8_workTwoNumbers 44 = .ok (.getfield 22, 3) := by decide +kernel
theorem dX8_workTwoNumbers_47 : decode cX8_workTwoNumbers 47 = .ok (.istore 4, 2) := by decide +kernel
theorem dX8_workTwoNumbers_49 : decode cX8_workTwoNumbers 49 = .ok (.aload_n 0, 1) := by decide +kernel
theorem dX8_workTwoNumbers_50 : decode cX8_workTwoNumbers 50 = .ok (.getfield 31, 3) := by decide +kernel
theorem dX8_workTwoNumbers_53 : decode cX8_workTwoNumbers 53 = .ok (.iload_n 1, 1) := by decide +kernel
theorem dX8_workTwoNumbers_54 : decode cX8_workTwoNumbers 54 = .ok (.invokevirtual 79, 3) := by decide +kernel
theorem dX8_workTwoNumbers_57 : decode cX8_workTwoNumbers 57 = .ok (.bipush 21, 2) := by decide +kernel
theorem dX8_workTwoNumbers_59 : decode cX8_workTwoNumbers 59 = .ok (.if_icmp .ne 20, 3) := by decide +kernel
theorem dX8_workTwoNumbers_62 : decode cX8_workTwoNumbers 62 = .ok (.aload_n 0, 1) := by decide +kernel
theorem dX8_workTwoNumbers_63 : decode cX8_workTwoNumbers 63 = .ok (.iconst 0, 1) := by decide +kernel
theorem dX8_workTwoNumbers_64 : decode cX8_workTwoNumbers 64 = .ok (.iload_n 3, 1) := by decide +kernel
theorem dX8_workTwoNumbers_65 : decode cX8_workTwoNumbers 65 = .ok (.iload 4, 2) := by decide +kernel
theorem dX8_workTwoNumbers_67 : decode cX8_workTwoNumbers 67 = .ok (.if_icmp .ge 7, 3) := by decide +kernel
theorem dX8_workTwoNumbers_70 : decode cX8_workTwoNumbers 70 = .ok (.iconst 1, 1) := by decide +kernel
theorem dX8_workTwoNumbers_71 : decode cX8_workTwoNumbers 71 = .ok (.goto 4, 3) := by decide +kernel
theorem dX8_workTwoNumbers_74 : decode cX8_workTwoNumbers 74 = .ok (.iconst 0, 1) := by decide +kernel
theorem dX8_workTwoNumbers_75 : decode cX8_workTwoNumbers 75 = .ok (.invokevirtual 88, 3) := by decide +kernel
theorem dX8_workTwoNumbers_78 : decode cX8_workTwoNumbers 78 = .ok (.ireturn, 1) := by decide +kernel
theorem dX8_workTwoNumbers_79 : decode cX8_workTwoNumbers 79 = .ok (.aload_n 0, 1) := by decide +kernel
theorem dX8_workTwoNumbers_80 : decode cX8_workTwoNumbers 80 = .ok (.iconst 0, 1) := by decide +kernel
theorem dX8_workTwoNumbers_81 : decode cX8_workTwoNumbers 81 = .ok (.iload_n 3, 1) := by decide +kernel
theorem dX8_workTwoNumbers_82 : decode cX8_workTwoNumbers 82 = .ok (.iload 4, 2) := by decide +kernel
theorem dX8_workTwoNumbers_84 : decode cX8_workTwoNumbers 84 = .ok (.iadd, 1) := by decide +kernel
theorem dX8_workTwoNumbers_85 : decode cX8_workTwoNumbers 85 = .ok (.invokevirtual 88, 3) := by decide +kernel
theorem dX8_workTwoNumbers_88 : decode cX8_workTwoNumbers 88 = .ok (.ireturn, 1) := by decide +kernel
theorem dX8_workCatch_0 : decode cX8_workCatch 0 = .ok (.aload_n 0, 1) := by decide +kernel
theorem dX8_workCatch_1 : decode cX8_workCatch 1 = .ok (.aload_n 0, 1) := by decide +kernel
theorem dX8_workCatch_2 : decode cX8_workCatch 2 = .ok (.getfield 31, 3) := by decide +kernel
theorem dX8_workCatch_5 : decode cX8_workCatch 5 = .ok (.iload_n 1, 1) := by decide +kernel
theorem dX8_workCatch_6 : decode cX8_workCatch 6 = .ok (.invokevirtual 85, 3) := by decide +kernel
theorem dX8_workCatch_9 : decode cX8_workCatch 9 = .ok (.iload_n 2, 1) := by decide +kernel
theorem dX8_workCatch_10 : decode cX8_workCatch 10 = .ok (.iconst 1, 1) := by decide +kernel
theorem dX8_workCatch_11 : decode cX8_workCatch 11 = .ok (.iadd, 1) := by decide +kernel
theorem dX8_workCatch_12 : decode cX8_workCatch 12 = .ok (.invokevirtual 68, 3) := by decide +kernel
theorem dX8_workCatch_15 : decode cX8_workCatch 15 = .ok (.ifCond .eq 5, 3) := by decide +kernel
theorem dX8_workCatch_18 : decode cX8_workCatch 18 = .ok (.iconst 1, 1) := by decide +kernel
theorem dX8_workCatch_19 : decode cX8_workCatch 19 = .ok (.ireturn, 1) := by decide +kernel
theorem dX8_workCatch_20 : decode cX8_workCatch 20 = .ok (.aload_n 0, 1) := by decide +kernel
theorem dX8_workCatch_21 : decode cX8_workCatch 21 = .ok (.getfield 18, 3) := by decide +kernel
theorem dX8_workCatch_24 : decode cX8_workCatch 24 = .ok (.iconst 3, 1) := by decide +kernel
theorem dX8_workCatch_25 : decode cX8_workCatch 25 = .ok (.if_icmp .ne 21, 3) := by decide +kernel
theorem dX8_workCatch_28 : decode cX8_workCatch 28 = .ok (.aload_n 0, 1) := by decide +kernel
theorem dX8_workCatch_29 : decode cX8_workCatch 29 = .ok (.getfield 31, 3) := by decide +kernel
theorem dX8_workCatch_32 : decode cX8_workCatch 32 = .ok (.iload_n 1, 1) := by decide +kernel
theorem dX8_workCatch_33 : decode cX8_workCatch 33 = .ok (.invokevirtual 238, 3) := by decide +kernel
theorem dX8_workCatch_36 : decode cX8_workCatch 36 = .ok (.aload_n 0, 1) := by decide +kernel
theorem dX8_workCatch_37 : decode cX8_workCatch 37 = .ok (.getfield 22, 3) := by decide +kernel
theorem dX8_workCatch_40 : decode cX8_workCatch 40 = .ok (.ishr, 1) := by decide +kernel
theorem dX8_workCatch_41 : decode cX8_workCatch 41 = .ok (.iconst 1, 1) := by decide +kernel
theorem dX8_workCatch_42 : decode cX8_workCatch 42 = .ok (.iand, 1) := by decide +kernel
theorem dX8_workCatch_43 : decode cX8_workCatch 43 = .ok (.ifCond .ne 5, 3) := by decide +kernel
theorem dX8_workCatch_46 : decode cX8_workCatch 46 = .ok (.iconst 0, 1) := by decide +kernel
theorem dX8_workCatch_47 : decode cX8_workCatch 47 = .ok (.ireturn, 1) := by decide +kernel
theorem dX8_workCatch_48 : decode cX8_workCatch 48 = .ok (.aload_n 0, 1) := by decide +kernel
theorem dX8_workCatch_49 : decode cX8_workCatch 49 = .ok (.iconst 0, 1) := by decide +kernel
theorem dX8_workCatch_50 : decode cX8_workCatch 50 = .ok (.iconst 0, 1) := by decide +kernel
theorem dX8_workCatch_51 : decode cX8_workCatch 51 = .ok (.aload_n 0, 1) := by decide +kernel
theorem dX8_workCatch_52 : decode cX8_workCatch 52 = .ok (.getfield 22, 3) := by decide +kernel
theorem dX8_workCatch_55 : decode cX8_workCatch 55 = .ok (.invokevirtual 149, 3) := by decide +kernel
theorem dX8_workCatch_58 : decode cX8_workCatch 58 = .ok (.aload_n 0, 1) := by decide +kernel
theorem dX8_workCatch_59 : decode cX8_workCatch 59 = .ok (.aload_n 0, 1) := by decide +kernel
theorem dX8_workCatch_60 : decode cX8_workCatch 60 = .ok (.getfield 31, 3) := by decide +kernel
theorem dX8_workCatch_63 : decode cX8_workCatch 63 = .ok (.iload_n 1, 1) := by decide +kernel
theorem dX8_workCatch_64 : decode cX8_workCatch 64 = .ok (.invokevirtual 110, 3) := by decide +kernel
theorem dX8_workCatch_67 : decode cX8_workCatch 67 = .ok (.iload_n 2, 1) := by decide +kernel
theorem dX8_workCatch_68 : decode cX8_workCatch 68 = .ok (.iconst 1, 1) := by decide +kernel
theorem dX8_workCatch_69 : decode cX8_workCatch 69 = .ok (.iadd, 1) := by decide +kernel
theorem dX8_workCatch_70 : decode cX8_workCatch 70 = .ok (.invokevirtual 68, 3) := by decide +kernel
theorem dX8_workCatch_73 : decode cX8_workCatch 73 = .ok (.ireturn, 1) := by decide +kernel
theorem dX8_workBracket_0 : decode cX8_workBracket 0 = .ok (.aload_n 0, 1) := by decide +kernel
theorem dX8_workBracket_1 : decode cX8_workBracket 1 = .ok (.aload_n 0, 1) := by decide +kernel
theorem dX8_workBracket_2 : decode cX8_workBracket 2 = .ok (.getfield 31, 3) := by decide +kernel
theorem dX8_workBracket_5 : decode cX8_workBracket 5 = .ok (.iload_n 1, 1) := by decide +kernel
theorem dX8_workBracket_6 : decode cX8_workBracket 6 = .ok (.invokevirtual 85, 3) := by decide +kernel
theorem dX8_workBracket_9 : decode cX8_workBracket 9 = .ok (.iload_n 2, 1) := by decide +kernel
theorem dX8_workBracket_10 : decode cX8_workBracket 10 = .ok (.iconst 1, 1) := by decide +kernel
theorem dX8_workBracket_11 : decode cX8_workBracket 11 = .ok (.iadd, 1) := by decide +kernel
theorem dX8_workBracket_12 : decode cX8_workBracket 12 = .ok (.invokevirtual 68, 3) := by decide +kernel
theorem dX8_workBracket_15 : decode cX8_workBracket 15 = .ok (.ifCond .ne 5, 3) := by decide +kernel
theorem dX8_workBracket_18 : decode cX8_workBracket 18 = .ok (.iconst 0, 1) := by decide +kernel
theorem dX8_workBracket_19 : decode cX8_workBracket 19 = .ok (.ireturn, 1) := by decide +kernel
theorem dX8_workBracket_20 : decode cX8_workBracket 20 = .ok (.aload_n 0, 1) := by decide +kernel
theorem dX8_workBracket_21 : decode cX8_workBracket 21 = .ok (.getfield 18, 3) := by decide +kernel
theorem dX8_workBracket_24 : decode cX8_workBracket 24 = .ok (.istore_n 3, 1) := by decide +kernel
theorem dX8_workBracket_25 : decode cX8_workBracket 25 = .ok (.aload_n 0, 1) := by decide +kernel
theorem dX8_workBracket_26 : decode cX8_workBracket 26 = .ok (.getfield 22, 3) := by decide +kernel
theorem dX8_workBracket_29 : decode cX8_workBracket 29 = .ok (.istore 4, 2) := by decide +kernel
theorem dX8_workBracket_31 : decode cX8_workBracket 31 = .ok (.aload_n 0, 1) := by decide +kernel
theorem dX8_workBracket_32 : decode cX8_workBracket 32 = .ok (.iconst 5, 1) := by decide +kernel
theorem dX8_workBracket_33 : decode cX8_workBracket 33 = .ok (.iload_n 3, 1) := by decide +kernel
theorem dX8_workBracket_34 : decode cX8_workBracket 34 = .ok (.iload 4, 2) := by decide +kernel
theorem dX8_workBracket_36 : decode cX8_workBracket 36 = .ok (.invokevirtual 149, 3) := by decide +kernel
theorem dX8_workBracket_39 : decode cX8_workBracket 39 = .ok (.aload_n 0, 1) := by decide +kernel
theorem dX8_workBracket_40 : decode cX8_workBracket 40 = .ok (.aload_n 0, 1) := by decide +kernel
theorem dX8_workBracket_41 : decode cX8_workBracket 41 = .ok (.getfield 31, 3) := by decide +kernel
theorem dX8_workBracket_44 : decode cX8_workBracket 44 = .ok (.iload_n 1, 1) := by decide +kernel
theorem dX8_workBracket_45 : decode cX8_workBracket 45 = .ok (.invokevirtual 238, 3) := by decide +kernel
theorem dX8_workBracket_48 : decode cX8_workBracket 48 = .ok (.iload_n 2, 1) := by decide +kernel
theorem dX8_workBracket_49 : decode cX8_workBracket 49 = .ok (.iconst 1, 1) := by decide +kernel
theorem dX8_workBracket_50 : decode cX8_workBracket 50 = .ok (.iadd, 1) := by decide +kernel
theorem dX8_workBracket_51 : decode cX8_workBracket 51 = .ok (.invokevirtual 68, 3) := by decide +kernel
theorem dX8_workBracket_54 : decode cX8_workBracket 54 = .ok (.pop, 1) := by decide +kernel
theorem dX8_workBracket_55 : decode cX8_workBracket 55 = .ok (.aload_n 0, 1) := by decide +kernel
theorem dX8_workBracket_56 : decode cX8_workBracket 56 = .ok (.iconst 5, 1) := by decide +kernel
theorem dX8_workBracket_57 : decode cX8_workBracket 57 = .ok (.iload_n 3, 1) := by decide +kernel
theorem dX8_workBracket_58 : decode cX8_workBracket 58 = .ok (.iload 4, 2) := by decide +kernel
theorem dX8_workBracket_60 : decode cX8_workBracket 60 = .ok (.invokevirtual 149, 3) := by decide +kernel
theorem dX8_workBracket_63 : decode cX8_workBracket 63 = .ok (.aload_n 0, 1) := by decide +kernel
theorem dX8_workBracket_64 : decode cX8_workBracket 64 = .ok (.aload_n 0, 1) := by decide +kernel
theorem dX8_workBracket_65 : decode cX8_workBracket 65 = .ok (.getfield 31, 3) := by decide +kernel
theorem dX8_workBracket_68 : decode cX8_workBracket 68 = .ok (.iload_n 1, 1) := by decide +kernel
theorem dX8_workBracket_69 : decode cX8_workBracket 69 = .ok (.invokevirtual 110, 3) := by decide +kernel
theorem dX8_workBracket_72 : decode cX8_workBracket 72 = .ok (.iload_n 2, 1) := by decide +kernel
theorem dX8_workBracket_73 : decode cX8_workBracket 73 = .ok (.invokevirtual 122, 3) := by decide +kernel
theorem dX8_workBracket_76 : decode cX8_workBracket 76 = .ok (.ireturn, 1) := by decide +kernel
theorem dX8_workEnd_0 : decode cX8_workEnd 0 = .ok (.aload_n 0, 1) := by decide +kernel
theorem dX8_workEnd_1 : decode cX8_workEnd 1 = .ok (.getfield 18, 3) := by decide +kernel
theorem dX8_workEnd_4 : decode cX8_workEnd 4 = .ok (.iconst 5, 1) := by decide +kernel
theorem dX8_workEnd_5 : decode cX8_workEnd 5 = .ok (.if_icmp .ne 5, 3) := by decide +kernel
theorem dX8_workEnd_8 : decode cX8_workEnd 8 = .ok (.iconst 0, 1) := by decide +kernel
theorem dX8_workEnd_9 : decode cX8_workEnd 9 = .ok (.ireturn, 1) := by decide +kernel
theorem dX8_workEnd_10 : decode cX8_workEnd 10 = .ok (.aload_n 0, 1) := by decide +kernel
theorem dX8_workEnd_11 : decode cX8_workEnd 11 = .ok (.getfield 18, 3) := by decide +kernel
theorem dX8_workEnd_14 : decode cX8_workEnd 14 = .ok (.istore_n 3, 1) := by decide +kernel
theorem dX8_workEnd_15 : decode cX8_workEnd 15 = .ok (.aload_n 0, 1) := by decide +kernel
theorem dX8_workEnd_16 : decode cX8_workEnd 16 = .ok (.getfield 22, 3) := by decide +kernel
theorem dX8_workEnd_19 : decode cX8_workEnd 19 = .ok (.istore 4, 2) := by decide +kernel
theorem dX8_workEnd_21 : decode cX8_workEnd 21 = .ok (.aload_n 0, 1) := by decide +kernel
theorem dX8_workEnd_22 : decode cX8_workEnd 22 = .ok (.getfield 25, 3) := by decide +kernel
theorem dX8_workEnd_25 : decode cX8_workEnd 25 = .ok (.istore 5, 2) := by decide +kernel
theorem dX8_workEnd_27 : decode cX8_workEnd 27 = .ok (.aload_n 0, 1) := by decide +kernel
theorem dX8_workEnd_28 : decode cX8_workEnd 28 = .ok (.iload_n 1, 1) := by decide +kernel
theorem dX8_workEnd_29 : decode cX8_workEnd 29 = .ok (.iload_n 2, 1) := by decide +kernel
theorem dX8_workEnd_30 : decode cX8_workEnd 30 = .ok (.iconst 1, 1) := by decide +kernel
theorem dX8_workEnd_31 : decode cX8_workEnd 31 = .ok (.iadd, 1) := by decide +kernel
theorem dX8_workEnd_32 : decode cX8_workEnd 32 = .ok (.invokevirtual 68, 3) := by decide +kernel
theorem dX8_workEnd_35 : decode cX8_workEnd 35 = .ok (.ifCond .ne 5, 3) := by decide +kernel
theorem dX8_workEnd_38 : decode cX8_workEnd 38 = .ok (.iconst 0, 1) := by decide +kernel
theorem dX8_workEnd_39 : decode cX8_workEnd 39 = .ok (.ireturn, 1) := by decide +kernel
theorem dX8_workEnd_40 : decode cX8_workEnd 40 = .ok (.aload_n 0, 1) := by decide +kernel
theorem dX8_workEnd_41 : decode cX8_workEnd 41 = .ok (.iload_n 3, 1) := by decide +kernel
theorem dX8_workEnd_42 : decode cX8_workEnd 42 = .ok (.putfield 18, 3) := by decide +kernel
theorem dX8_workEnd_45 : decode cX8_workEnd 45 = .ok (.aload_n 0, 1) := by decide +kernel
theorem dX8_workEnd_46 : decode cX8_workEnd 46 = .ok (.iload 4, 2) := by decide +kernel
theorem dX8_workEnd_48 : decode cX8_workEnd 48 = .ok (.putfield 22, 3) := by decide +kernel
theorem dX8_workEnd_51 : decode cX8_workEnd 51 = .ok (.aload_n 0, 1) := by decide +kernel
theorem dX8_workEnd_52 : decode cX8_workEnd 52 = .ok (.iload 5, 2) := by decide +kernel
theorem dX8_workEnd_54 : decode cX8_workEnd 54 = .ok (.putfield 25, 3) := by decide +kernel
theorem dX8_workEnd_57 : decode cX8_workEnd 57 = .ok (.aload_n 0, 1) := by decide +kernel
theorem dX8_workEnd_58 : decode cX8_workEnd 58 = .ok (.getfield 18, 3) := by decide +kernel
theorem dX8_workEnd_61 : decode cX8_workEnd 61 = .ok (.iconst 2, 1) := by decide +kernel
theorem dX8_workEnd_62 : decode cX8_workEnd 62 = .ok (.if_icmp .gt 7, 3) := by decide +kernel
theorem dX8_workEnd_65 : decode cX8_workEnd 65 = .ok (.iconst 1, 1) := by decide +kernel
theorem dX8_workEnd_66 : decode cX8_workEnd 66 = .ok (.goto 4, 3) := by decide +kernel
theorem dX8_workEnd_69 : decode cX8_workEnd 69 = .ok (.iconst 0, 1) := by decide +kernel
theorem dX8_workEnd_70 : decode cX8_workEnd 70 = .ok (.ireturn, 1) := by decide +kernel
theorem dX9_init_0 : decode cX9_init 0 = .ok (.aload_n 0, 1) := by decide +kernel
theorem dX9_init_1 : decode cX9_init 1 = .ok (.invokespecial 1, 3) := by decide +kernel
theorem dX9_init_4 : decode cX9_init 4 = .ok (.aload_n 0, 1) := by decide +kernel
theorem dX9_init_5 : decode cX9_init 5 = .ok (.new 7, 3) := by decide +kernel
theorem dX9_init_8 : decode cX9_init 8 = .ok (.dup, 1) := by decide +kernel
theorem dX9_init_9 : decode cX9_init 9 = .ok (.invokespecial 9, 3) := by decide +kernel
theorem dX9_init_12 : decode cX9_init 12 = .ok (.putfield 10, 3) := by decide +kernel
theorem dX9_init_15 : decode cX9_init 15 = .ok (.aload_n 0, 1) := by decide +kernel
theorem dX9_init_16 : decode cX9_init 16 = .ok (.new 16, 3) := by decide +kernel
theorem dX9_init_19 : decode cX9_init 19 = .ok (.dup, 1) := by decide +kernel
theorem dX9_init_20 : decode cX9_init 20 = .ok (.invokespecial 18, 3) := by decide +kernel
theorem dX9_init_23 : decode cX9_init 23 = .ok (.putfield 19, 3) := by decide +kernel
theorem dX9_init_26 : decode cX9_init 26 = .ok (.aload_n 0, 1) := by decide +kernel
theorem dX9_init_27 : decode cX9_init 27 = .ok (.new 23, 3) := by decide +kernel
theorem dX9_init_30 : decode cX9_init 30 = .ok (.dup, 1) := by decide +kernel
theorem dX9_init_31 : decode cX9_init 31 = .ok (.invokespecial 25, 3) := by decide +kernel
theorem dX9_init_34 : decode cX9_init 34 = .ok (.putfield 26, 3) := by decide +kernel
theorem dX9_init_37 : decode cX9_init 37 = .ok (.aload_n 0, 1) := by decide +kernel
theorem dX9_init_38 : decode cX9_init 38 = .ok (.new 30, 3) := by decide +kernel
theorem dX9_init_41 : decode cX9_init 41 = .ok (.dup, 1) := by decide +kernel
theorem dX9_init_42 : decode cX9_init 42 = .ok (.aload_n 0, 1) := by decide +kernel
theorem dX9_init_43 : decode cX9_init 43 = .ok (.getfield 10, 3) := by decide +kernel
theorem dX9_init_46 : decode cX9_init 46 = .ok (.invokespecial 32, 3) := by decide +kernel
theorem dX9_init_49 : decode cX9_init 49 = .ok (.putfield 35, 3) := by decide +kernel
theorem dX9_init_52 : decode cX9_init 52 = .ok (.aload_n 0, 1) := by decide +kernel
theorem dX9_init_53 : decode cX9_init 53 = .ok (.new 39, 3) := by decide +kernel
theorem dX9_init_56 : decode cX9_init 56 = .ok (.dup, 1) := by decide +kernel
theorem dX9_init_57 : decode cX9_init 57 = .ok (.invokespecial 41, 3) := by decide +kernel
theorem dX9_init_60 : decode cX9_init 60 = .ok (.putfield 42, 3) := by decide +kernel
theorem dX9_init_63 : decode cX9_init 63 = .ok (.aload_n 0, 1) := by decide +kernel
theorem dX9_init_64 : decode cX9_init 64 = .ok (.new 46, 3) := by decide +kernel
theorem dX9_init_67 : decode cX9_init 67 = .ok (.dup, 1) := by decide +kernel
theorem dX9_init_68 : decode cX9_init 68 = .ok (.invokespecial 48, 3) := by decide +kernel
theorem dX9_init_71 : decode cX9_init 71 = .ok (.putfield 49, 3) := by decide +kernel
theorem dX9_init_74 : decode cX9_init 74 = .ok (.aload_n 0, 1) := by decide +kernel
theorem dX9_init_75 : decode cX9_init 75 = .ok (.new 53, 3) := by decide +kernel
theorem dX9_init_78 : decode cX9_init 78 = .ok (.dup, 1) := by decide +kernel
theorem dX9_init_79 : decode cX9_init 79 = .ok (.aload_n 0, 1) := by decide +kernel
theorem dX9_init_80 : decode cX9_init 80 = .ok (.getfield 26, 3) := by decide +kernel
theorem dX9_init_83 : decode cX9_init 83 = .ok (.aload_n 0, 1) := by decide +kernel
theorem dX9_init_84 : decode cX9_init 84 = .ok (.getfield 19, 3) := by decide +kernel
theorem dX9_init_87 : decode cX9_init 87 = .ok (.aload_n 0, 1) := by decide +kernel
theorem dX9_init_88 : decode cX9_init 88 = .ok (.getfield 35, 3) := by decide +kernel
theorem dX9_init_91 : decode cX9_init 91 = .ok (.aload_n 0, 1) := by decide +kernel
theorem dX9_init_92 : decode cX9_init 92 = .ok (.getfield 42, 3) := by decide +kernel
theorem dX9_init_95 : decode cX9_init 95 = .ok (.aload_n 0, 1) := by decide +kernel
theorem dX9_init_96 : decode cX9_init 96 = .ok (.getfield 49, 3) := by decide +kernel
theorem dX9_init_99 : decode cX9_init 99 = .ok (.invokespecial 55, 3) := by decide +kernel
theorem dX9_init_102 : decode cX9_init 102 = .ok (.putfield 58, 3) := by decide +kernel
theorem dX9_init_105 : decode cX9_init 105 = .ok (.return_, 1) := by decide +kernel
theorem dX9_lay_0 : decode cX9_lay 0 = .ok (.iload_n 1, 1) := by decide +kernel
theorem dX9_lay_1 : decode cX9_lay 1 = .ok (.bipush 8, 2) := by decide +kernel
theorem dX9_lay_3 : decode cX9_lay 3 = .ok (.invokestatic 62, 3) := by decide +kernel
theorem dX9_lay_6 : decode cX9_lay 6 = .ok (.ifCond .eq 13, 3) := by decide +kernel
theorem dX9_lay_9 : decode cX9_lay 9 = .ok (.iload_n 2, 1) := by decide +kernel
theorem dX9_lay_10 : decode cX9_lay 10 = .ok (.sipush 256, 3) := by decide +kernel
theorem dX9_lay_13 : decode cX9_lay 13 = .ok (.invokestatic 62, 3) := by decide +kernel
theorem dX9_lay_16 : decode cX9_lay 16 = .ok (.ifCond .ne 6, 3) := by decide +kernel
theorem dX9_lay_19 : decode cX9_lay 19 = .ok (.bipush (-2), 2) := by decide +kernel
theorem dX9_lay_21 : decode cX9_lay 21 = .ok (.ireturn, 1) := by decide +kernel
theorem dX9_lay_22 : decode cX9_lay 22 = .ok (.aload_n 0, 1) := by decide +kernel
theorem dX9_lay_23 : decode cX9_lay 23 = .ok (.getfield 10, 3) := by decide +kernel
theorem dX9_lay_26 : decode cX9_lay 26 = .ok (.iload_n 1, 1) := by decide +kernel
theorem dX9_lay_27 : decode cX9_lay 27 = .ok (.iload_n 2, 1) := by decide +kernel
theorem dX9_lay_28 : decode cX9_lay 28 = .ok (.invokevirtual 66, 3) := by decide +kernel
theorem dX9_lay_31 : decode cX9_lay 31 = .ok (.ifCond .eq 14, 3) := by decide +kernel
theorem dX9_lay_34 : decode cX9_lay 34 = .ok (.aload_n 0, 1) := by decide +kernel
theorem dX9_lay_35 : decode cX9_lay 35 = .ok (.getfield 10, 3) := by decide +kernel
theorem dX9_lay_38 : decode cX9_lay 38 = .ok (.iload_n 1, 1) := by decide +kernel
theorem dX9_lay_39 : decode cX9_lay 39 = .ok (.invokevirtual 69, 3) := by decide +kernel
theorem dX9_lay_42 : decode cX9_lay 42 = .ok (.goto 5, 3) := by decide +kernel
theorem dX9_lay_45 : decode cX9_lay 45 = .ok (.bipush (-3), 2) := by decide +kernel
theorem dX9_lay_47 : decode cX9_lay 47 = .ok (.ireturn, 1) := by decide +kernel
theorem dX9_there_0 : decode cX9_there 0 = .ok (.iload_n 1, 1) := by decide +kernel
theorem dX9_there_1 : decode cX9_there 1 = .ok (.bipush 8, 2) := by decide +kernel
theorem dX9_there_3 : decode cX9_there 3 = .ok (.invokestatic 62, 3) := by decide +kernel
theorem dX9_there_6 : decode cX9_there 6 = .ok (.ifCond .ne 6, 3) := by decide +kernel
theorem dX9_there_9 : decode cX9_there 9 = .ok (.bipush (-2), 2) := by decide +kernel
theorem dX9_there_11 : decode cX9_there 11 = .ok (.ireturn, 1) := by decide +kernel
theorem dX9_there_12 : decode cX9_there 12 = .ok (.aload_n 0, 1) := by decide +kernel
theorem dX9_there_13 : decode cX9_there 13 = .ok (.getfield 10, 3) := by decide +kernel
theorem dX9_there_16 : decode cX9_there 16 = .ok (.iload_n 1, 1) := by decide +kernel
theorem dX9_there_17 : decode cX9_there 17 = .ok (.invokevirtual 73, 3) := by decide +kernel
theorem dX9_there_20 : decode cX9_there 20 = .ok (.ifCond .eq 7, 3) := by decide +kernel
theorem dX9_there_23 : decode cX9_there 23 = .ok (.iconst 1, 1) := by decide +kernel
theorem dX9_there_24 : decode cX9_there 24 = .ok (.goto 4, 3) := by decide +kernel
theorem dX9_there_27 : decode cX9_there 27 = .ok (.iconst 0, 1) := by decide +kernel
theorem dX9_there_28 : decode cX9_there 28 = .ok (.istore_n 3, 1) := by decide +kernel
theorem dX9_there_29 : decode cX9_there 29 = .ok (.iload_n 2, 1) := by decide +kernel
theorem dX9_there_30 : decode cX9_there 30 = .ok (.ifCond .eq 14, 3) := by decide +kernel
theorem dX9_there_33 : decode cX9_there 33 = .ok (.aload_n 0, 1) := by decide +kernel
theorem dX9_there_34 : decode cX9_there 34 = .ok (.getfield 10, 3) := by decide +kernel
theorem dX9_there_37 : decode cX9_there 37 = .ok (.iload_n 1, 1) := by decide +kernel
theorem dX9_there_38 : decode cX9_there 38 = .ok (.invokevirtual 77, 3) := by decide +kernel
theorem dX9_there_41 : decode cX9_there 41 = .ok (.goto 11, 3) := by decide +kernel
theorem dX9_there_44 : decode cX9_there 44 = .ok (.aload_n 0, 1) := by decide +kernel
theorem dX9_there_45 : decode cX9_there 45 = .ok (.getfield 10, 3) := by decide +kernel
theorem dX9_there_48 : decode cX9_there 48 = .ok (.iload_n 1, 1) := by decide +kernel
theorem dX9_there_49 : decode cX9_there 49 = .ok (.invokevirtual 81, 3) := by decide +kernel
theorem dX9_there_52 : decode cX9_there 52 = .ok (.iload_n 3, 1) := by decide +kernel
theorem dX9_there_53 : decode cX9_there 53 = .ok (.ireturn, 1) := by decide +kernel
theorem dX9_permit_0 : decode cX9_permit 0 = .ok (.iload_n 1, 1) := by decide +kernel
theorem dX9_permit_1 : decode cX9_permit 1 = .ok (.bipush 8, 2) := by decide +kernel
theorem dX9_permit_3 : decode cX9_permit 3 = .ok (.invokestatic 62, 3) := by decide +kernel
theorem dX9_permit_6 : decode cX9_permit 6 = .ok (.ifCond .eq 11, 3) := by decide +kernel
theorem dX9_permit_9 : decode cX9_permit 9 = .ok (.iload_n 2, 1) := by decide +kernel
theorem dX9_permit_10 : decode cX9_permit 10 = .ok (.iconst 4, 1) := by decide +kernel
theorem dX9_permit_11 : decode cX9_permit 11 = .ok (.invokestatic 62, 3) := by decide +kernel
theorem dX9_permit_14 : decode cX9_permit 14 = .ok (.ifCond .ne 6, 3) := by decide +kernel
theorem dX9_permit_17 : decode cX9_permit 17 = .ok (.bipush (-2), 2) := by decide +kernel
theorem dX9_permit_19 : decode cX9_permit 19 = .ok (.ireturn, 1) := by decide +kernel
theorem dX9_permit_20 : decode cX9_permit 20 = .ok (.aload_n 0, 1) := by decide +kernel
theorem dX9_permit_21 : decode cX9_permit 21 = .ok (.getfield 10, 3) := by decide +kernel
theorem dX9_permit_24 : decode cX9_permit 24 = .ok (.iload_n 1, 1) := by decide +kernel
theorem dX9_permit_25 : decode cX9_permit 25 = .ok (.iload_n 2, 1) := by decide +kernel
theorem dX9_permit_26 : decode cX9_permit 26 = .ok (.invokevirtual 84, 3) := by decide +kernel
theorem dX9_permit_29 : decode cX9_permit 29 = .ok (.ireturn, 1) := by decide +kernel
theorem dX9_input_0 : decode cX9_input 0 = .ok (.iload_n 1, 1) := by decide +kernel
theorem dX9_input_1 : decode cX9_input 1 = .ok (.sipush 256, 3) := by decide +kernel
theorem dX9_input_4 : decode cX9_input 4 = .ok (.invokestatic 62, 3) := by decide +kernel
theorem dX9_input_7 : decode cX9_input 7 = .ok (.ifCond .ne 6, 3) := by decide +kernel
theorem dX9_input_10 : decode cX9_input 10 = .ok (.bipush (-2), 2) := by decide +kernel
theorem dX9_input_12 : decode cX9_input 12 = .ok (.ireturn, 1) := by decide +kernel
theorem dX9_input_13 : decode cX9_input 13 = .ok (.aload_n 0, 1) := by decide +kernel
theorem dX9_input_14 : decode cX9_input 14 = .ok (.getfield 19, 3) := by decide +kernel
theorem dX9_input_17 : decode cX9_input 17 = .ok (.iload_n 1, 1) := by decide +kernel
theorem dX9_input_18 : decode cX9_input 18 = .ok (.invokevirtual 88, 3) := by decide +kernel
theorem dX9_input_21 : decode cX9_input 21 = .ok (.ifCond .eq 13, 3) := by decide +kernel
theorem dX9_input_24 : decode cX9_input 24 = .ok (.aload_n 0, 1) := by decide +kernel
theorem dX9_input_25 : decode cX9_input 25 = .ok (.getfield 19, 3) := by decide +kernel
theorem dX9_input_28 : decode cX9_input 28 = .ok (.invokevirtual 91, 3) := by decide +kernel
theorem dX9_input_31 : decode cX9_input 31 = .ok (.goto 5, 3) := by decide +kernel
theorem dX9_input_34 : decode cX9_input 34 = .ok (.bipush (-3), 2) := by decide +kernel
theorem dX9_input_36 : decode cX9_input 36 = .ok (.ireturn, 1) := by decide +kernel
theorem dX9_node_0 : decode cX9_node 0 = .ok (.iload_n 1, 1) := by decide +kernel
theorem dX9_node_1 : decode cX9_node 1 = .ok (.bipush 29, 2) := by decide +kernel
theorem dX9_node_3 : decode cX9_node 3 = .ok (.invokestatic 62, 3) := by decide +kernel
theorem dX9_node_6 : decode cX9_node 6 = .ok (.ifCond .eq 18, 3) := by decide +kernel
theorem dX9_node_9 : decode cX9_node 9 = .ok (.aload_n 0, 1) := by decide +kernel
theorem dX9_node_10 : decode cX9_node 10 = .ok (.getfield 26, 3) := by decide +kernel
theorem dX9_node_13 : decode cX9_node 13 = .ok (.iload_n 1, 1) := by decide +kernel
theorem dX9_node_14 : decode cX9_node 14 = .ok (.iload_n 2, 1) := by decide +kernel
theorem dX9_node_15 : decode cX9_node 15 = .ok (.iload_n 3, 1) := by decide +kernel
theorem dX9_node_16 : decode cX9_node 16 = .ok (.iload 4, 2) := by decide +kernel
theorem dX9_node_18 : decode cX9_node 18 = .ok (.invokevirtual 95, 3) := by decide +kernel
theorem dX9_node_21 : decode cX9_node 21 = .ok (.ifCond .ne 6, 3) := by decide +kernel
theorem dX9_node_24 : decode cX9_node 24 = .ok (.bipush (-2), 2) := by decide +kernel
theorem dX9_node_26 : decode cX9_node 26 = .ok (.ireturn, 1) := by decide +kernel
theorem dX9_node_27 : decode cX9_node 27 = .ok (.aload_n 0, 1) := by decide +kernel
theorem dX9_node_28 : decode cX9_node 28 = .ok (.getfield 26, 3) := by decide +kernel
theorem dX9_node_31 : decode cX9_node 31 = .ok (.iload_n 1, 1) := by decide +kernel
theorem dX9_node_32 : decode cX9_node 32 = .ok (.iload_n 2, 1) := by decide +kernel
theorem dX9_node_33 : decode cX9_node 33 = .ok (.iload_n 3, 1) := by decide +kernel
theorem dX9_node_34 : decode cX9_node 34 = .ok (.iload 4, 2) := by decide +kernel
theorem dX9_node_36 : decode cX9_node 36 = .ok (.invokevirtual 99, 3) := by decide +kernel
theorem dX9_node_39 : decode cX9_node 39 = .ok (.ireturn, 1) := by decide +kernel
theorem dX9_clear_0 : decode cX9_clear 0 = .ok (.aload_n 0, 1) := by decide +kernel
theorem dX9_clear_1 : decode cX9_clear 1 = .ok (.getfield 26, 3) := by decide +kernel
theorem dX9_clear_4 : decode cX9_clear 4 = .ok (.invokevirtual 103, 3) := by decide +kernel
theorem dX9_clear_7 : decode cX9_clear 7 = .ok (.istore_n 1, 1) := by decide +kernel
theorem dX9_clear_8 : decode cX9_clear 8 = .ok (.aload_n 0, 1) := by decide +kernel
theorem dX9_clear_9 : decode cX9_clear 9 = .ok (.getfield 26, 3) := by decide +kernel
theorem dX9_clear_12 : decode cX9_clear 12 = .ok (.invokevirtual 106, 3) := by decide +kernel
theorem dX9_clear_15 : decode cX9_clear 15 = .ok (.aload_n 0, 1) := by decide +kernel
theorem dX9_clear_16 : decode cX9_clear 16 = .ok (.getfield 19, 3) := by decide +kernel
theorem dX9_clear_19 : decode cX9_clear 19 = .ok (.invokevirtual 109, 3) := by decide +kernel
theorem dX9_clear_22 : decode cX9_clear 22 = .ok (.iload_n 1, 1) := by decide +kernel
theorem dX9_clear_23 : decode cX9_clear 23 = .ok (.ireturn, 1) := by decide +kernel
theorem dX9_run_0 : decode cX9_run 0 = .ok (.iload_n 1, 1) := by decide +kernel
theorem dX9_run_1 : decode cX9_run 1 = .ok (.aload_n 0, 1) := by decide +kernel
theorem dX9_run_2 : decode cX9_run 2 = .ok (.getfield 26, 3) := by decide +kernel
theorem dX9_run_5 : decode cX9_run 5 = .ok (.invokevirtual 103, 3) := by decide +kernel
theorem dX9_run_8 : decode cX9_run 8 = .ok (.invokestatic 62, 3) := by decide +kernel
theorem dX9_run_11 : decode cX9_run 11 = .ok (.ifCond .ne 6, 3) := by decide +kernel
theorem dX9_run_14 : decode cX9_run 14 = .ok (.bipush (-2), 2) := by decide +kernel
theorem dX9_run_16 : decode cX9_run 16 = .ok (.ireturn, 1) := by decide +kernel
theorem dX9_run_17 : decode cX9_run 17 = .ok (.aload_n 0, 1) := by decide +kernel
theorem dX9_run_18 : decode cX9_run 18 = .ok (.getfield 58, 3) := by decide +kernel
theorem dX9_run_21 : decode cX9_run 21 = .ok (.iload_n 1, 1) := by decide +kernel
theorem dX9_run_22 : decode cX9_run 22 = .ok (.invokevirtual 110, 3) := by decide +kernel
theorem dX9_run_25 : decode cX9_run 25 = .ok (.ireturn, 1) := by decide +kernel
theorem dX9_value_0 : decode cX9_value 0 = .ok (.aload_n 0, 1) := by decide +kernel
theorem dX9_value_1 : decode cX9_value 1 = .ok (.getfield 58, 3) := by decide +kernel
theorem dX9_value_4 : decode cX9_value 4 = .ok (.invokevirtual 113, 3) := by decide +kernel
theorem dX9_value_7 : decode cX9_value 7 = .ok (.ireturn, 1) := by decide +kernel
theorem dX9_where_0 : decode cX9_where 0 = .ok (.aload_n 0, 1) := by decide +kernel
theorem dX9_where_1 : decode cX9_where 1 = .ok (.getfield 58, 3) := by decide +kernel
theorem dX9_where_4 : decode cX9_where 4 = .ok (.invokevirtual 116, 3) := by decide +kernel
theorem dX9_where_7 : decode cX9_where 7 = .ok (.ireturn, 1) := by decide +kernel
theorem dX9_worked_0 : decode cX9_worked 0 = .ok (.aload_n 0, 1) := by decide +kernel
theorem dX9_worked_1 : decode cX9_worked 1 = .ok (.getfield 58, 3) := by decide +kernel
theorem dX9_worked_4 : decode cX9_worked 4 = .ok (.invokevirtual 119, 3) := by decide +kernel
theorem dX9_worked_7 : decode cX9_worked 7 = .ok (.ireturn, 1) := by decide +kernel
theorem dX9_order_0 : decode cX9_order 0 = .ok (.aload_n 0, 1) := by decide +kernel
theorem dX9_order_1 : decode cX9_order 1 = .ok (.getfield 49, 3) := by decide +kernel
theorem dX9_order_4 : decode cX9_order 4 = .ok (.iload_n 1, 1) := by decide +kernel
theorem dX9_order_5 : decode cX9_order 5 = .ok (.invokevirtual 122, 3) := by decide +kernel
theorem dX9_order_8 : decode cX9_order 8 = .ok (.ireturn, 1) := by decide +kernel
theorem dX9_handle_0 : decode cX9_handle 0 = .ok (.iload_n 2, 1) := by decide +kernel
theorem dX9_handle_1 : decode cX9_handle 1 = .ok (.bipush 6, 2) := by decide +kernel
theorem dX9_handle_3 : decode cX9_handle 3 = .ok (.invokestatic 62, 3) := by decide +kernel
theorem dX9_handle_6 : decode cX9_handle 6 = .ok (.ifCond .ne 6, 3) := by decide +kernel
theorem dX9_handle_9 : decode cX9_handle 9 = .ok (.bipush (-2), 2) := by decide +kernel
theorem dX9_handle_11 : decode cX9_handle 11 = .ok (.ireturn, 1) := by decide +kernel
theorem dX9_handle_12 : decode cX9_handle 12 = .ok (.aload_n 0, 1) := by decide +kernel
theorem dX9_handle_13 : decode cX9_handle 13 = .ok (.getfield 35, 3) := by decide +kernel
theorem dX9_handle_16 : decode cX9_handle 16 = .ok (.iload_n 1, 1) := by decide +kernel
theorem dX9_handle_17 : decode cX9_handle 17 = .ok (.invokevirtual 127, 3) := by decide +kernel
theorem dX9_handle_20 : decode cX9_handle 20 = .ok (.astore_n 3, 1) := by decide +kernel
theorem dX9_handle_21 : decode cX9_handle 21 = .ok (.aload_n 3, 1) := by decide +kernel
theorem dX9_handle_22 : decode cX9_handle 22 = .ok (.ifnonnull 7, 3) := by decide +kernel
theorem dX9_handle_25 : decode cX9_handle 25 = .ok (.iconst (-1), 1) := by decide +kernel
theorem dX9_handle_26 : decode cX9_handle 26 = .ok (.goto 8, 3) := by decide +kernel
theorem dX9_handle_29 : decode cX9_handle 29 = .ok (.aload_n 3, 1) := by decide +kernel
theorem dX9_handle_30 : decode cX9_handle 30 = .ok (.iload_n 2, 1) := by decide +kernel
theorem dX9_handle_31 : decode cX9_handle 31 = .ok (.invokevirtual 131, 3) := by decide +kernel
theorem dX9_handle_34 : decode cX9_handle 34 = .ok (.ireturn, 1) := by decide +kernel
theorem dX9_content_0 : decode cX9_content 0 = .ok (.iload_n 1, 1) := by decide +kernel
theorem dX9_content_1 : decode cX9_content 1 = .ok (.bipush 8, 2) := by decide +kernel
theorem dX9_content_3 : decode cX9_content 3 = .ok (.invokestatic 62, 3) := by decide +kernel
theorem dX9_content_6 : decode cX9_content 6 = .ok (.ifCond .eq 15, 3) := by decide +kernel
theorem dX9_content_9 : decode cX9_content 9 = .ok (.aload_n 0, 1) := by decide +kernel
theorem dX9_content_10 : decode cX9_content 10 = .ok (.getfield 10, 3) := by decide +kernel
theorem dX9_content_13 : decode cX9_content 13 = .ok (.iload_n 1, 1) := by decide +kernel
theorem dX9_content_14 : decode cX9_content 14 = .ok (.iload_n 2, 1) := by decide +kernel
theorem dX9_content_15 : decode cX9_content 15 = .ok (.invokevirtual 134, 3) := by decide +kernel
theorem dX9_content_18 : decode cX9_content 18 = .ok (.goto 5, 3) := by decide +kernel
theorem dX9_content_21 : decode cX9_content 21 = .ok (.bipush (-2), 2) := by decide +kernel
theorem dX9_content_23 : decode cX9_content 23 = .ok (.ireturn, 1) := by decide +kernel
theorem dX9_size_0 : decode cX9_size 0 = .ok (.iload_n 1, 1) := by decide +kernel
theorem dX9_size_1 : decode cX9_size 1 = .ok (.bipush 8, 2) := by decide +kernel
theorem dX9_size_3 : decode cX9_size 3 = .ok (.invokestatic 62, 3) := by decide +kernel
theorem dX9_size_6 : decode cX9_size 6 = .ok (.ifCond .ne 6, 3) := by decide +kernel
theorem dX9_size_9 : decode cX9_size 9 = .ok (.bipush (-2), 2) := by decide +kernel
theorem dX9_size_11 : decode cX9_size 11 = .ok (.ireturn, 1) := by decide +kernel
theorem dX9_size_12 : decode cX9_size 12 = .ok (.aload_n 0, 1) := by decide +kernel
theorem dX9_size_13 : decode cX9_size 13 = .ok (.getfield 10, 3) := by decide +kernel
theorem dX9_size_16 : decode cX9_size 16 = .ok (.iload_n 1, 1) := by decide +kernel
theorem dX9_size_17 : decode cX9_size 17 = .ok (.invokevirtual 73, 3) := by decide +kernel
theorem dX9_size_20 : decode cX9_size 20 = .ok (.ifCond .eq 14, 3) := by decide +kernel
theorem dX9_size_23 : decode cX9_size 23 = .ok (.aload_n 0, 1) := by decide +kernel
theorem dX9_size_24 : decode cX9_size 24 = .ok (.getfield 10, 3) := by decide +kernel
theorem dX9_size_27 : decode cX9_size 27 = .ok (.iload_n 1, 1) := by decide +kernel
theorem dX9_size_28 : decode cX9_size 28 = .ok (.invokevirtual 69, 3) := by decide +kernel
theorem dX9_size_31 : decode cX9_size 31 = .ok (.goto 4, 3) := by decide +kernel
theorem dX9_size_34 : decode cX9_size 34 = .ok (.iconst (-1), 1) := by decide +kernel
theorem dX9_size_35 : decode cX9_size 35 = .ok (.ireturn, 1) := by decide +kernel
theorem dX9_printed_0 : decode cX9_printed 0 = .ok (.aload_n 0, 1) := by decide +kernel
theorem dX9_printed_1 : decode cX9_printed 1 = .ok (.getfield 19, 3) := by decide +kernel
theorem dX9_printed_4 : decode cX9_printed 4 = .ok (.iload_n 1, 1) := by decide +kernel
theorem dX9_printed_5 : decode cX9_printed 5 = .ok (.invokevirtual 137, 3) := by decide +kernel
theorem dX9_printed_8 : decode cX9_printed 8 = .ok (.ireturn, 1) := by decide +kernel
theorem dX9_told_0 : decode cX9_told 0 = .ok (.iload_n 1, 1) := by decide +kernel
theorem dX9_told_1 : decode cX9_told 1 = .ok (.tableswitch 99 0 6 #[43, 51, 59, 67, 75, 83, 91], 43) := by decide +kernel
theorem dX9_told_44 : decode cX9_told 44 = .ok (.aload_n 0, 1) := by decide +kernel
theorem dX9_told_45 : decode cX9_told 45 = .ok (.getfield 26, 3) := by decide +kernel
theorem dX9_told_48 : decode cX9_told 48 = .ok (.invokevirtual 103, 3) := by decide +kernel
theorem dX9_told_51 : decode cX9_told 51 = .ok (.ireturn, 1) := by decide +kernel
theorem dX9_told_52 : decode cX9_told 52 = .ok (.aload_n 0, 1) := by decide +kernel
theorem dX9_told_53 : decode cX9_told 53 = .ok (.getfield 19, 3) := by decide +kernel
theorem dX9_told_56 : decode cX9_told 56 = .ok (.invokevirtual 91, 3) := by decide +kernel
theorem dX9_told_59 : decode cX9_told 59 = .ok (.ireturn, 1) := by decide +kernel
theorem dX9_told_60 : decode cX9_told 60 = .ok (.aload_n 0, 1) := by decide +kernel
theorem dX9_told_61 : decode cX9_told 61 = .ok (.getfield 19, 3) := by decide +kernel
theorem dX9_told_64 : decode cX9_told 64 = .ok (.invokevirtual 140, 3) := by decide +kernel
theorem dX9_told_67 : decode cX9_told 67 = .ok (.ireturn, 1) := by decide +kernel
theorem dX9_told_68 : decode cX9_told 68 = .ok (.aload_n 0, 1) := by decide +kernel
theorem dX9_told_69 : decode cX9_told 69 = .ok (.getfield 10, 3) := by decide +kernel
theorem dX9_told_72 : decode cX9_told 72 = .ok (.invokevirtual 143, 3) := by decide +kernel
theorem dX9_told_75 : decode cX9_told 75 = .ok (.ireturn, 1) := by decide +kernel
theorem dX9_told_76 : decode cX9_told 76 = .ok (.aload_n 0, 1) := by decide +kernel
theorem dX9_told_77 : decode cX9_told 77 = .ok (.getfield 35, 3) := by decide +kernel
theorem dX9_told_80 : decode cX9_told 80 = .ok (.invokevirtual 146, 3) := by decide +kernel
theorem dX9_told_83 : decode cX9_told 83 = .ok (.ireturn, 1) := by decide +kernel
theorem dX9_told_84 : decode cX9_told 84 = .ok (.aload_n 0, 1) := by decide +kernel
theorem dX9_told_85 : decode cX9_told 85 = .ok (.getfield 42, 3) := by decide +kernel
theorem dX9_told_88 : decode cX9_told 88 = .ok (.invokevirtual 149, 3) := by decide +kernel
theorem dX9_told_91 : decode cX9_told 91 = .ok (.ireturn, 1) := by decide +kernel
theorem dX9_told_92 : decode cX9_told 92 = .ok (.aload_n 0, 1) := by decide +kernel
theorem dX9_told_93 : decode cX9_told 93 = .ok (.getfield 49, 3) := by decide +kernel
theorem dX9_told_96 : decode cX9_told 96 = .ok (.invokevirtual 150, 3) := by decide +kernel
theorem dX9_told_99 : decode cX9_told 99 = .ok (.ireturn, 1) := by decide +kernel
theorem dX9_told_100 : decode cX9_told 100 = .ok (.bipush (-2), 2) := by decide +kernel
theorem dX9_told_102 : decode cX9_told 102 = .ok (.ireturn, 1) := by decide +kernel
theorem dX9_within_0 : decode cX9_within 0 = .ok (.iload_n 0, 1) := by decide +kernel
theorem dX9_within_1 : decode cX9_within 1 = .ok (.ifCond .lt 12, 3) := by decide +kernel
theorem dX9_within_4 : decode cX9_within 4 = .ok (.iload_n 0, 1) := by decide +kernel
theorem dX9_within_5 : decode cX9_within 5 = .ok (.iload_n 1, 1) := by decide +kernel
theorem dX9_within_6 : decode cX9_within 6 = .ok (.if_icmp .ge 7, 3) := by decide +kernel
theorem dX9_within_9 : decode cX9_within 9 = .ok (.iconst 1, 1) := by decide +kernel
theorem dX9_within_10 : decode cX9_within 10 = .ok (.goto 4, 3) := by decide +kernel
theorem dX9_within_13 : decode cX9_within 13 = .ok (.iconst 0, 1) := by decide +kernel
theorem dX9_within_14 : decode cX9_within 14 = .ok (.ireturn, 1) := by decide +kernel
theorem dX9_mayTake_0 : decode cX9_mayTake 0 = .ok (.iload_n 0, 1) := by decide +kernel
theorem dX9_mayTake_1 : decode cX9_mayTake 1 = .ok (.iconst 1, 1) := by decide +kernel
theorem dX9_mayTake_2 : decode cX9_mayTake 2 = .ok (.if_icmp .eq 12, 3) := by decide +kernel
theorem dX9_mayTake_5 : decode cX9_mayTake 5 = .ok (.iload_n 0, 1) := by decide +kernel
theorem dX9_mayTake_6 : decode cX9_mayTake 6 = .ok (.iconst 2, 1) := by decide +kernel
theorem dX9_mayTake_7 : decode cX9_mayTake 7 = .ok (.if_icmp .eq 7, 3) := by decide +kernel
theorem dX9_mayTake_10 : decode cX9_mayTake 10 = .ok (.iconst 1, 1) := by decide +kernel
theorem dX9_mayTake_11 : decode cX9_mayTake 11 = .ok (.goto 4, 3) := by decide +kernel
theorem dX9_mayTake_14 : decode cX9_mayTake 14 = .ok (.iconst 0, 1) := by decide +kernel
theorem dX9_mayTake_15 : decode cX9_mayTake 15 = .ok (.ireturn, 1) := by decide +kernel
theorem dX9_turned_0 : decode cX9_turned 0 = .ok (.iconst (-1), 1) := by decide +kernel
theorem dX9_turned_1 : decode cX9_turned 1 = .ok (.iload_n 0, 1) := by decide +kernel
theorem dX9_turned_2 : decode cX9_turned 2 = .ok (.isub, 1) := by decide +kernel
theorem dX9_turned_3 : decode cX9_turned 3 = .ok (.ireturn, 1) := by decide +kernel
theorem dX10_init_0 : decode cX10_init 0 = .ok (.aload_n 0, 1) := by decide +kernel
theorem dX10_init_1 : decode cX10_init 1 = .ok (.invokespecial 1, 3) := by decide +kernel
theorem dX10_init_4 : decode cX10_init 4 = .ok (.aload_n 0, 1) := by decide +kernel
theorem dX10_init_5 : decode cX10_init 5 = .ok (.bipush 8, 2) := by decide +kernel
theorem dX10_init_7 : decode cX10_init 7 = .ok (.newarray .boolean, 2) := by decide +kernel
theorem dX10_init_9 : decode cX10_init 9 = .ok (.putfield 7, 3) := by decide +kernel
theorem dX10_init_12 : decode cX10_init 12 = .ok (.aload_n 0, 1) := by decide +kernel
theorem dX10_init_13 : decode cX10_init 13 = .ok (.bipush 8, 2) := by decide +kernel
theorem dX10_init_15 : decode cX10_init 15 = .ok (.newarray .int, 2) := by decide +kernel
theorem dX10_init_17 : decode cX10_init 17 = .ok (.putfield 13, 3) := by decide +kernel
theorem dX10_init_20 : decode cX10_init 20 = .ok (.aload_n 0, 1) := by decide +kernel
theorem dX10_init_21 : decode cX10_init 21 = .ok (.sipush 320, 3) := by decide +kernel
theorem dX10_init_24 : decode cX10_init 24 = .ok (.newarray .byte, 2) := by decide +kernel
theorem dX10_init_26 : decode cX10_init 26 = .ok (.putfield 17, 3) := by decide +kernel
theorem dX10_init_29 : decode cX10_init 29 = .ok (.aload_n 0, 1) := by decide +kernel
theorem dX10_init_30 : decode cX10_init 30 = .ok (.bipush 8, 2) := by decide +kernel
theorem dX10_init_32 : decode cX10_init 32 = .ok (.newarray .int, 2) := by decide +kernel
theorem dX10_init_34 : decode cX10_init 34 = .ok (.dup, 1) := by decide +kernel
theorem dX10_init_35 : decode cX10_init 35 = .ok (.iconst 0, 1) := by decide +kernel
theorem dX10_init_36 : decode cX10_init 36 = .ok (.iconst 3, 1) := by decide +kernel
theorem dX10_init_37 : decode cX10_init 37 = .ok (.iastore, 1) := by decide +kernel
theorem dX10_init_38 : decode cX10_init 38 = .ok (.dup, 1) := by decide +kernel
theorem dX10_init_39 : decode cX10_init 39 = .ok (.iconst 1, 1) := by decide +kernel
theorem dX10_init_40 : decode cX10_init 40 = .ok (.iconst 3, 1) := by decide +kernel
theorem dX10_init_41 : decode cX10_init 41 = .ok (.iastore, 1) := by decide +kernel
theorem dX10_init_42 : decode cX10_init 42 = .ok (.dup, 1) := by decide +kernel
theorem dX10_init_43 : decode cX10_init 43 = .ok (.iconst 2, 1) := by decide +kernel
theorem dX10_init_44 : decode cX10_init 44 = .ok (.iconst 3, 1) := by decide +kernel
theorem dX10_init_45 : decode cX10_init 45 = .ok (.iastore, 1) := by decide +kernel
theorem dX10_init_46 : decode cX10_init 46 = .ok (.dup, 1) := by decide +kernel
theorem dX10_init_47 : decode cX10_init 47 = .ok (.iconst 3, 1) := by decide +kernel
theorem dX10_init_48 : decode cX10_init 48 = .ok (.iconst 3, 1) := by decide +kernel
theorem dX10_init_49 : decode cX10_init 49 = .ok (.iastore, 1) := by decide +kernel
theorem dX10_init_50 : decode cX10_init 50 = .ok (.dup, 1) := by decide +kernel
theorem dX10_init_51 : decode cX10_init 51 = .ok (.iconst 4, 1) := by decide +kernel
theorem dX10_init_52 : decode cX10_init 52 = .ok (.iconst 3, 1) := by decide +kernel
theorem dX10_init_53 : decode cX10_init 53 = .ok (.iastore, 1) := by decide +kernel
theorem dX10_init_54 : decode cX10_init 54 = .ok (.dup, 1) := by decide +kernel
theorem dX10_init_55 : decode cX10_init 55 = .ok (.iconst 5, 1) := by decide +kernel
theorem dX10_init_56 : decode cX10_init 56 = .ok (.iconst 3, 1) := by decide +kernel
theorem dX10_init_57 : decode cX10_init 57 = .ok (.iastore, 1) := by decide +kernel
theorem dX10_init_58 : decode cX10_init 58 = .ok (.dup, 1) := by decide +kernel
theorem dX10_init_59 : decode cX10_init 59 = .ok (.bipush 6, 2) := by decide +kernel
theorem dX10_init_61 : decode cX10_init 61 = .ok (.iconst 3, 1) := by decide +kernel
theorem dX10_init_62 : decode cX10_init 62 = .ok (.iastore, 1) := by decide +kernel
theorem dX10_init_63 : decode cX10_init 63 = .ok (.dup, 1) := by decide +kernel
theorem dX10_init_64 : decode cX10_init 64 = .ok (.bipush 7, 2) := by decide +kernel
theorem dX10_init_66 : decode cX10_init 66 = .ok (.iconst 3, 1) := by decide +kernel
theorem dX10_init_67 : decode cX10_init 67 = .ok (.iastore, 1) := by decide +kernel
theorem dX10_init_68 : decode cX10_init 68 = .ok (.putfield 21, 3) := by decide +kernel
theorem dX10_init_71 : decode cX10_init 71 = .ok (.aload_n 0, 1) := by decide +kernel
theorem dX10_init_72 : decode cX10_init 72 = .ok (.bipush 100, 2) := by decide +kernel
theorem dX10_init_74 : decode cX10_init 74 = .ok (.newarray .byte, 2) := by decide +kernel
theorem dX10_init_76 : decode cX10_init 76 = .ok (.putfield 24, 3) := by decide +kernel
theorem dX10_init_79 : decode cX10_init 79 = .ok (.aload_n 0, 1) := by decide +kernel
theorem dX10_init_80 : decode cX10_init 80 = .ok (.sipush 200, 3) := by decide +kernel
theorem dX10_init_83 : decode cX10_init 83 = .ok (.newarray .byte, 2) := by decide +kernel
theorem dX10_init_85 : decode cX10_init 85 = .ok (.putfield 27, 3) := by decide +kernel
theorem dX10_init_88 : decode cX10_init 88 = .ok (.aload_n 0, 1) := by decide +kernel
theorem dX10_init_89 : decode cX10_init 89 = .ok (.bipush 60, 2) := by decide +kernel
theorem dX10_init_91 : decode cX10_init 91 = .ok (.newarray .int, 2) := by decide +kernel
theorem dX10_init_93 : decode cX10_init 93 = .ok (.putfield 30, 3) := by decide +kernel
theorem dX10_init_96 : decode cX10_init 96 = .ok (.aload_n 0, 1) := by decide +kernel
theorem dX10_init_97 : decode cX10_init 97 = .ok (.bipush 60, 2) := by decide +kernel
theorem dX10_init_99 : decode cX10_init 99 = .ok (.newarray .int, 2) := by decide +kernel
theorem dX10_init_101 : decode cX10_init 101 = .ok (.putfield 33, 3) := by decide +kernel
theorem dX10_init_104 : decode cX10_init 104 = .ok (.aload_n 0, 1) := by decide +kernel
theorem dX10_init_105 : decode cX10_init 105 = .ok (.bipush 60, 2) := by decide +kernel
theorem dX10_init_107 : decode cX10_init 107 = .ok (.newarray .int, 2) := by decide +kernel
theorem dX10_init_109 : decode cX10_init 109 = .ok (.putfield 36, 3) := by decide +kernel
theorem dX10_init_112 : decode cX10_init 112 = .ok (.aload_n 0, 1) := by decide +kernel
theorem dX10_init_113 : decode cX10_init 113 = .ok (.bipush 60, 2) := by decide +kernel
theorem dX10_init_115 : decode cX10_init 115 = .ok (.newarray .int, 2) := by decide +kernel
theorem dX10_init_117 : decode cX10_init 117 = .ok (.putfield 39, 3) := by decide +kernel
theorem dX10_init_120 : decode cX10_init 120 = .ok (.aload_n 0, 1) := by decide +kernel
theorem dX10_init_121 : decode cX10_init 121 = .ok (.bipush 6, 2) := by decide +kernel
theorem dX10_init_123 : decode cX10_init 123 = .ok (.newarray .int, 2) := by decide +kernel
theorem dX10_init_125 : decode cX10_init 125 = .ok (.putfield 42, 3) := by decide +kernel
theorem dX10_init_128 : decode cX10_init 128 = .ok (.aload_n 0, 1) := by decide +kernel
theorem dX10_init_129 : decode cX10_init 129 = .ok (.bipush 6, 2) := by decide +kernel
theorem dX10_init_131 : decode cX10_init 131 = .ok (.newarray .int, 2) := by decide +kernel
theorem dX10_init_133 : decode cX10_init 133 = .ok (.putfield 45, 3) := by decide +kernel
theorem dX10_init_136 : decode cX10_init 136 = .ok (.aload_n 0, 1) := by decide +kernel
theorem dX10_init_137 : decode cX10_init 137 = .ok (.bipush 20, 2) := by decide +kernel
theorem dX10_init_139 : decode cX10_init 139 = .ok (.newarray .int, 2) := by decide +kernel
theorem dX10_init_141 : decode cX10_init 141 = .ok (.putfield 48, 3) := by decide +kernel
theorem dX10_init_144 : decode cX10_init 144 = .ok (.aload_n 0, 1) := by decide +kernel
theorem dX10_init_145 : decode cX10_init 145 = .ok (.bipush 20, 2) := by decide +kernel
theorem dX10_init_147 : decode cX10_init 147 = .ok (.newarray .int, 2) := by decide +kernel
theorem dX10_init_149 : decode cX10_init 149 = .ok (.putfield 51, 3) := by decide +kernel
theorem dX10_init_152 : decode cX10_init 152 = .ok (.aload_n 0, 1) := by decide +kernel
theorem dX10_init_153 : decode cX10_init 153 = .ok (.bipush 20, 2) := by decide +kernel
theorem dX10_init_155 : decode cX10_init 155 = .ok (.newarray .int, 2) := by decide +kernel
theorem dX10_init_157 : decode cX10_init 157 = .ok (.putfield 54, 3) := by decide +kernel
theorem dX10_init_160 : decode cX10_init 160 = .ok (.aload_n 0, 1) := by decide +kernel
theorem dX10_init_161 : decode cX10_init 161 = .ok (.bipush 20, 2) := by decide +kernel
theorem dX10_init_163 : decode cX10_init 163 = .ok (.newarray .int, 2) := by decide +kernel
theorem dX10_init_165 : decode cX10_init 165 = .ok (.putfield 57, 3) := by decide +kernel
theorem dX10_init_168 : decode cX10_init 168 = .ok (.aload_n 0, 1) := by decide +kernel
theorem dX10_init_169 : decode cX10_init 169 = .ok (.bipush 20, 2) := by decide +kernel
theorem dX10_init_171 : decode cX10_init 171 = .ok (.newarray .int, 2) := by decide +kernel
theorem dX10_init_173 : decode cX10_init 173 = .ok (.putfield 60, 3) := by decide +kernel
theorem dX10_init_176 : decode cX10_init 176 = .ok (.aload_n 0, 1) := by decide +kernel
theorem dX10_init_177 : decode cX10_init 177 = .ok (.bipush 20, 2) := by decide +kernel
theorem dX10_init_179 : decode cX10_init 179 = .ok (.newarray .int, 2) := by decide +kernel
theorem dX10_init_181 : decode cX10_init 181 = .ok (.putfield 63, 3) := by decide +kernel
theorem dX10_init_184 : decode cX10_init 184 = .ok (.aload_n 0, 1) := by decide +kernel
theorem dX10_init_185 : decode cX10_init 185 = .ok (.bipush 20, 2) := by decide +kernel
theorem dX10_init_187 : decode cX10_init 187 = .ok (.newarray .int, 2) := by decide +kernel
theorem dX10_init_189 : decode cX10_init 189 = .ok (.putfield 66, 3) := by decide +kernel
theorem dX10_init_192 : decode cX10_init 192 = .ok (.aload_n 0, 1) := by decide +kernel
theorem dX10_init_193 : decode cX10_init 193 = .ok (.sipush 400, 3) := by decide +kernel
theorem dX10_init_196 : decode cX10_init 196 = .ok (.newarray .byte, 2) := by decide +kernel
theorem dX10_init_198 : decode cX10_init 198 = .ok (.putfield 69, 3) := by decide +kernel
theorem dX10_init_201 : decode cX10_init 201 = .ok (.aload_n 0, 1) := by decide +kernel
theorem dX10_init_202 : decode cX10_init 202 = .ok (.bipush 20, 2) := by decide +kernel
theorem dX10_init_204 : decode cX10_init 204 = .ok (.newarray .int, 2) := by decide +kernel
theorem dX10_init_206 : decode cX10_init 206 = .ok (.putfield 72, 3) := by decide +kernel
theorem dX10_init_209 : decode cX10_init 209 = .ok (.aload_n 0, 1) := by decide +kernel
theorem dX10_init_210 : decode cX10_init 210 = .ok (.bipush 20, 2) := by decide +kernel
theorem dX10_init_212 : decode cX10_init 212 = .ok (.newarray .int, 2) := by decide +kernel
theorem dX10_init_214 : decode cX10_init 214 = .ok (.putfield 75, 3) := by decide +kernel
theorem dX10_init_217 : decode cX10_init 217 = .ok (.aload_n 0, 1) := by decide +kernel
theorem dX10_init_218 : decode cX10_init 218 = .ok (.bipush 20, 2) := by decide +kernel
theorem dX10_init_220 : decode cX10_init 220 = .ok (.newarray .int, 2) := by decide +kernel
theorem dX10_init_222 : decode cX10_init 222 = .ok (.putfield 78, 3) := by decide +kernel
theorem dX10_init_225 : decode cX10_init 225 = .ok (.aload_n 0, 1) := by decide +kernel
theorem dX10_init_226 : decode cX10_init 226 = .ok (.bipush 20, 2) := by decide +kernel
theorem dX10_init_228 : decode cX10_init 228 = .ok (.newarray .int, 2) := by decide +kernel
theorem dX10_init_230 : decode cX10_init 230 = .ok (.putfield 81, 3) := by decide +kernel
theorem dX10_init_233 : decode cX10_init 233 = .ok (.aload_n 0, 1) := by decide +kernel
theorem dX10_init_234 : decode cX10_init 234 = .ok (.bipush 20, 2) := by decide +kernel
theorem dX10_init_236 : decode cX10_init 236 = .ok (.newarray .int, 2) := by decide +kernel
theorem dX10_init_238 : decode cX10_init 238 = .ok (.putfield 84, 3) := by decide +kernel
theorem dX10_init_241 : decode cX10_init 241 = .ok (.aload_n 0, 1) := by decide +kernel
theorem dX10_init_242 : decode cX10_init 242 = .ok (.sipush 800, 3) := by decide +kernel
theorem dX10_init_245 : decode cX10_init 245 = .ok (.newarray .byte, 2) := by decide +kernel
theorem dX10_init_247 : decode cX10_init 247 = .ok (.putfield 87, 3) := by decide +kernel
theorem dX10_init_250 : decode cX10_init 250 = .ok (.aload_n 0, 1) := by decide +kernel
theorem dX10_init_251 : decode cX10_init 251 = .ok (.bipush 20, 2) := by decide +kernel
theorem dX10_init_253 : decode cX10_init 253 = .ok (.newarray .boolean, 2) := by decide +kernel
theorem dX10_init_255 : decode cX10_init 255 = .ok (.putfield 90, 3) := by decide +kernel
theorem dX10_init_258 : decode cX10_init 258 = .ok (.aload_n 0, 1) := by decide +kernel
theorem dX10_init_259 : decode cX10_init 259 = .ok (.sipush 300, 3) := by decide +kernel
theorem dX10_init_262 : decode cX10_init 262 = .ok (.newarray .int, 2) := by decide +kernel
theorem dX10_init_264 : decode cX10_init 264 = .ok (.putfield 93, 3) := by decide +kernel
theorem dX10_init_267 : decode cX10_init 267 = .ok (.aload_n 0, 1) := by decide +kernel
theorem dX10_init_268 : decode cX10_init 268 = .ok (.iconst (-1), 1) := by decide +kernel
theorem dX10_init_269 : decode cX10_init 269 = .ok (.putfield 96, 3) := by decide +kernel
theorem dX10_init_272 : decode cX10_init 272 = .ok (.aload_n 0, 1) := by decide +kernel
theorem dX10_init_273 : decode cX10_init 273 = .ok (.bipush 64, 2) := by decide +kernel
theorem dX10_init_275 : decode cX10_init 275 = .ok (.newarray .int, 2) := by decide +kernel
theorem dX10_init_277 : decode cX10_init 277 = .ok (.putfield 100, 3) := by decide +kernel
theorem dX10_init_280 : decode cX10_init 280 = .ok (.aload_n 0, 1) := by decide +kernel
theorem dX10_init_281 : decode cX10_init 281 = .ok (.bipush 64, 2) := by decide +kernel
theorem dX10_init_283 : decode cX10_init 283 = .ok (.newarray .int, 2) := by decide +kernel
theorem dX10_init_285 : decode cX10_init 285 = .ok (.putfield 103, 3) := by decide +kernel
theorem dX10_init_288 : decode cX10_init 288 = .ok (.aload_n 0, 1) := by decide +kernel
theorem dX10_init_289 : decode cX10_init 289 = .ok (.bipush 64, 2) := by decide +kernel
theorem dX10_init_291 : decode cX10_init 291 = .ok (.newarray .int, 2) := by decide +kernel
theorem dX10_init_293 : decode cX10_init 293 = .ok (.putfield 106, 3) := by decide +kernel
theorem dX10_init_296 : decode cX10_init 296 = .ok (.aload_n 0, 1) := by decide +kernel
theorem dX10_init_297 : decode cX10_init 297 = .ok (.bipush 64, 2) := by decide +kernel
theorem dX10_init_299 : decode cX10_init 299 = .ok (.newarray .int, 2) := by decide +kernel
theorem dX10_init_301 : decode cX10_init 301 = .ok (.putfield 109, 3) := by decide +kernel
theorem dX10_init_304 : decode cX10_init 304 = .ok (.aload_n 0, 1) := by decide +kernel
theorem dX10_init_305 : decode cX10_init 305 = .ok (.bipush 64, 2) := by decide +kernel
theorem dX10_init_307 : decode cX10_init 307 = .ok (.newarray .int, 2) := by decide +kernel
theorem dX10_init_309 : decode cX10_init 309 = .ok (.putfield 112, 3) := by decide +kernel
theorem dX10_init_312 : decode cX10_init 312 = .ok (.aload_n 0, 1) := by decide +kernel
theorem dX10_init_313 : decode cX10_init 313 = .ok (.bipush 64, 2) := by decide +kernel
theorem dX10_init_315 : decode cX10_init 315 = .ok (.newarray .int, 2) := by decide +kernel
theorem dX10_init_317 : decode cX10_init 317 = .ok (.putfield 115, 3) := by decide +kernel
theorem dX10_init_320 : decode cX10_init 320 = .ok (.aload_n 0, 1) := by decide +kernel
theorem dX10_init_321 : decode cX10_init 321 = .ok (.bipush 64, 2) := by decide +kernel
theorem dX10_init_323 : decode cX10_init 323 = .ok (.newarray .int, 2) := by decide +kernel
theorem dX10_init_325 : decode cX10_init 325 = .ok (.putfield 118, 3) := by decide +kernel
theorem dX10_init_328 : decode cX10_init 328 = .ok (.aload_n 0, 1) := by decide +kernel
theorem dX10_init_329 : decode cX10_init 329 = .ok (.bipush 64, 2) := by decide +kernel
theorem dX10_init_331 : decode cX10_init 331 = .ok (.newarray .int, 2) := by decide +kernel
theorem dX10_init_333 : decode cX10_init 333 = .ok (.putfield 121, 3) := by decide +kernel
theorem dX10_init_336 : decode cX10_init 336 = .ok (.aload_n 0, 1) := by decide +kernel
theorem dX10_init_337 : decode cX10_init 337 = .ok (.bipush 64, 2) := by decide +kernel
theorem dX10_init_339 : decode cX10_init 339 = .ok (.newarray .int, 2) := by decide +kernel
theorem dX10_init_341 : decode cX10_init 341 = .ok (.putfield 124, 3) := by decide +kernel
theorem dX10_init_344 : decode cX10_init 344 = .ok (.return_, 1) := by decide +kernel
theorem dX10_in_0 : decode cX10_in 0 = .ok (.iload_n 0, 1) := by decide +kernel
theorem dX10_in_1 : decode cX10_in 1 = .ok (.iload_n 1, 1) := by decide +kernel
theorem dX10_in_2 : decode cX10_in 2 = .ok (.if_icmp .lt 12, 3) := by decide +kernel
theorem dX10_in_5 : decode cX10_in 5 = .ok (.iload_n 0, 1) := by decide +kernel
theorem dX10_in_6 : decode cX10_in 6 = .ok (.iload_n 2, 1) := by decide +kernel
theorem dX10_in_7 : decode cX10_in 7 = .ok (.if_icmp .gt 7, 3) := by decide +kernel
theorem dX10_in_10 : decode cX10_in 10 = .ok (.iconst 1, 1) := by decide +kernel
theorem dX10_in_11 : decode cX10_in 11 = .ok (.goto 4, 3) := by decide +kernel
theorem dX10_in_14 : decode cX10_in 14 = .ok (.iconst 0, 1) := by decide +kernel
theorem dX10_in_15 : decode cX10_in 15 = .ok (.ireturn, 1) := by decide +kernel
theorem dX10_allBytes_0 : decode cX10_allBytes 0 = .ok (.iconst 0, 1) := by decide +kernel
theorem dX10_allBytes_1 : decode cX10_allBytes 1 = .ok (.istore_n 1, 1) := by decide +kernel
theorem dX10_allBytes_2 : decode cX10_allBytes 2 = .ok (.iconst 0, 1) := by decide +kernel
theorem dX10_allBytes_3 : decode cX10_allBytes 3 = .ok (.istore_n 2, 1) := by decide +kernel
theorem dX10_allBytes_4 : decode cX10_allBytes 4 = .ok (.iload_n 2, 1) := by decide +kernel
theorem dX10_allBytes_5 : decode cX10_allBytes 5 = .ok (.bipush 8, 2) := by decide +kernel
theorem dX10_allBytes_7 : decode cX10_allBytes 7 = .ok (.if_icmp .ge 31, 3) := by decide +kernel
theorem dX10_allBytes_10 : decode cX10_allBytes 10 = .ok (.iload_n 1, 1) := by decide +kernel
theorem dX10_allBytes_11 : decode cX10_allBytes 11 = .ok (.aload_n 0, 1) := by decide +kernel
theorem dX10_allBytes_12 : decode cX10_allBytes 12 = .ok (.getfield 7, 3) := by decide +kernel
theorem dX10_allBytes_15 : decode cX10_allBytes 15 = .ok (.iload_n 2, 1) := by decide +kernel
theorem dX10_allBytes_16 : decode cX10_allBytes 16 = .ok (.baload, 1) := by decide +kernel
theorem dX10_allBytes_17 : decode cX10_allBytes 17 = .ok (.ifCond .eq 12, 3) := by decide +kernel
theorem dX10_allBytes_20 : decode cX10_allBytes 20 = .ok (.aload_n 0, 1) := by decide +kernel
theorem dX10_allBytes_21 : decode cX10_allBytes 21 = .ok (.getfield 13, 3) := by decide +kernel
theorem dX10_allBytes_24 : decode cX10_allBytes 24 = .ok (.iload_n 2, 1) := by decide +kernel
theorem dX10_allBytes_25 : decode cX10_allBytes 25 = .ok (.iaload, 1) := by decide +kernel
theorem dX10_allBytes_26 : decode cX10_allBytes 26 = .ok (.goto 4, 3) := by decide +kernel
theorem dX10_allBytes_29 : decode cX10_allBytes 29 = .ok (.iconst 0, 1) := by decide +kernel
theorem dX10_allBytes_30 : decode cX10_allBytes 30 = .ok (.iadd, 1) := by decide +kernel
theorem dX10_allBytes_31 : decode cX10_allBytes 31 = .ok (.istore_n 1, 1) := by decide +kernel
theorem dX10_allBytes_32 : decode cX10_allBytes 32 = .ok (.iinc 2 1, 3) := by decide +kernel
theorem dX10_allBytes_35 : decode cX10_allBytes 35 = .ok (.goto (-31), 3) := by decide +kernel
theorem dX10_allBytes_38 : decode cX10_allBytes 38 = .ok (.iload_n 1, 1) := by decide +kernel
theorem dX10_allBytes_39 : decode cX10_allBytes 39 = .ok (.ireturn, 1) := by decide +kernel
theorem dX10_lay_0 : decode cX10_lay 0 = .ok (.iload_n 1, 1) := by decide +kernel
theorem dX10_lay_1 : decode cX10_lay 1 = .ok (.iconst 0, 1) := by decide +kernel
theorem dX10_lay_2 : decode cX10_lay 2 = .ok (.bipush 7, 2) := by decide +kernel
theorem dX10_lay_4 : decode cX10_lay 4 = .ok (.invokestatic 127, 3) := by decide +kernel
theorem dX10_lay_7 : decode cX10_lay 7 = .ok (.ifCond .eq 14, 3) := by decide +kernel
theorem dX10_lay_10 : decode cX10_lay 10 = .ok (.iload_n 2, 1) := by decide +kernel
theorem dX10_lay_11 : decode cX10_lay 11 = .ok (.iconst 0, 1) := by decide +kernel
theorem dX10_lay_12 : decode cX10_lay 12 = .ok (.sipush 255, 3) := by decide +kernel
theorem dX10_lay_15 : decode cX10_lay 15 = .ok (.invokestatic 127, 3) := by decide +kernel
theorem dX10_lay_18 : decode cX10_lay 18 = .ok (.ifCond .ne 6, 3) := by decide +kernel
theorem dX10_lay_21 : decode cX10_lay 21 = .ok (.bipush (-2), 2) := by decide +kernel
theorem dX10_lay_23 : decode cX10_lay 23 = .ok (.ireturn, 1) := by decide +kernel
theorem dX10_lay_24 : decode cX10_lay 24 = .ok (.aload_n 0, 1) := by decide +kernel
theorem dX10_lay_25 : decode cX10_lay 25 = .ok (.getfield 7, 3) := by decide +kernel
theorem dX10_lay_28 : decode cX10_lay 28 = .ok (.iload_n 1, 1) := by decide +kernel
theorem dX10_lay_29 : decode cX10_lay 29 = .ok (.baload, 1) := by decide +kernel
theorem dX10_lay_30 : decode cX10_lay 30 = .ok (.ifCond .eq 12, 3) := by decide +kernel
theorem dX10_lay_33 : decode cX10_lay 33 = .ok (.aload_n 0, 1) := by decide +kernel
theorem dX10_lay_34 : decode cX10_lay 34 = .ok (.getfield 13, 3) := by decide +kernel
theorem dX10_lay_37 : decode cX10_lay 37 = .ok (.iload_n 1, 1) := by decide +kernel
theorem dX10_lay_38 : decode cX10_lay 38 = .ok (.iaload, 1) := by decide +kernel
theorem dX10_lay_39 : decode cX10_lay 39 = .ok (.goto 4, 3) := by decide +kernel
theorem dX10_lay_42 : decode cX10_lay 42 = .ok (.iconst 0, 1) := by decide +kernel
theorem dX10_lay_43 : decode cX10_lay 43 = .ok (.istore_n 3, 1) := by decide +kernel
theorem dX10_lay_44 : decode cX10_lay 44 = .ok (.iload_n 3, 1) := by decide +kernel
theorem dX10_lay_45 : decode cX10_lay 45 = .ok (.bipush 40, 2) := by decide +kernel
theorem dX10_lay_47 : decode cX10_lay 47 = .ok (.if_icmp .eq 12, 3) := by decide +kernel
theorem dX10_lay_50 : decode cX10_lay 50 = .ok (.aload_n 0, 1) := by decide +kernel
theorem dX10_lay_51 : decode cX10_lay 51 = .ok (.invokevirtual 131, 3) := by decide +kernel
theorem dX10_lay_54 : decode cX10_lay 54 = .ok (.bipush 120, 2) := by decide +kernel
theorem dX10_lay_56 : decode cX10_lay 56 = .ok (.if_icmp .ne 6, 3) := by decide +kernel
theorem dX10_lay_59 : decode cX10_lay 59 = .ok (.bipush (-3), 2) := by decide +kernel
theorem dX10_lay_61 : decode cX10_lay 61 = .ok (.ireturn, 1) := by decide +kernel
theorem dX10_lay_62 : decode cX10_lay 62 = .ok (.aload_n 0, 1) := by decide +kernel
theorem dX10_lay_63 : decode cX10_lay 63 = .ok (.getfield 7, 3) := by decide +kernel
theorem dX10_lay_66 : decode cX10_lay 66 = .ok (.iload_n 1, 1) := by decide +kernel
theorem dX10_lay_67 : decode cX10_lay 67 = .ok (.iconst 1, 1) := by decide +kernel
theorem dX10_lay_68 : decode cX10_lay 68 = .ok (.bastore, 1) := by decide +kernel
theorem dX10_lay_69 : decode cX10_lay 69 = .ok (.aload_n 0, 1) := by decide +kernel
theorem dX10_lay_70 : decode cX10_lay 70 = .ok (.getfield 17, 3) := by decide +kernel
theorem dX10_lay_73 : decode cX10_lay 73 = .ok (.bipush 40, 2) := by decide +kernel
theorem dX10_lay_75 : decode cX10_lay 75 = .ok (.iload_n 1, 1) := by decide +kernel
theorem dX10_lay_76 : decode cX10_lay 76 = .ok (.imul, 1) := by decide +kernel
theorem dX10_lay_77 : decode cX10_lay 77 = .ok (.iload_n 3, 1) := by decide +kernel
theorem dX10_lay_78 : decode cX10_lay 78 = .ok (.iadd, 1) := by decide +kernel
theorem dX10_lay_79 : decode cX10_lay 79 = .ok (.iload_n 2, 1) := by decide +kernel
theorem dX10_lay_80 : decode cX10_lay 80 = .ok (.i2b, 1) := by decide +kernel
theorem dX10_lay_81 : decode cX10_lay 81 = .ok (.bastore, 1) := by decide +kernel
theorem dX10_lay_82 : decode cX10_lay 82 = .ok (.aload_n 0, 1) := by decide +kernel
theorem dX10_lay_83 : decode cX10_lay 83 = .ok (.getfield 13, 3) := by decide +kernel
theorem dX10_lay_86 : decode cX10_lay 86 = .ok (.iload_n 1, 1) := by decide +kernel
theorem dX10_lay_87 : decode cX10_lay 87 = .ok (.iload_n 3, 1) := by decide +kernel
theorem dX10_lay_88 : decode cX10_lay 88 = .ok (.iconst 1, 1) := by decide +kernel
theorem dX10_lay_89 : decode cX10_lay 89 = .ok (.iadd, 1) := by decide +kernel
theorem dX10_lay_90 : decode cX10_lay 90 = .ok (.iastore, 1) := by decide +kernel
theorem dX10_lay_91 : decode cX10_lay 91 = .ok (.iload_n 3, 1) := by decide +kernel
theorem dX10_lay_92 : decode cX10_lay 92 = .ok (.iconst 1, 1) := by decide +kernel
theorem dX10_lay_93 : decode cX10_lay 93 = .ok (.iadd, 1) := by decide +kernel
theorem dX10_lay_94 : decode cX10_lay 94 = .ok (.ireturn, 1) := by decide +kernel
theorem dX10_there_0 : decode cX10_there 0 = .ok (.iload_n 1, 1) := by decide +kernel
theorem dX10_there_1 : decode cX10_there 1 = .ok (.iconst 0, 1) := by decide +kernel
theorem dX10_there_2 : decode cX10_there 2 = .ok (.bipush 7, 2) := by decide +kernel
theorem dX10_there_4 : decode cX10_there 4 = .ok (.invokestatic 127, 3) := by decide +kernel
theorem dX10_there_7 : decode cX10_there 7 = .ok (.ifCond .ne 6, 3) := by decide +kernel
theorem dX10_there_10 : decode cX10_there 10 = .ok (.bipush (-2), 2) := by decide +kernel
theorem dX10_there_12 : decode cX10_there 12 = .ok (.ireturn, 1) := by decide +kernel
theorem dX10_there_13 : decode cX10_there 13 = .ok (.aload_n 0, 1) := by decide +kernel
theorem dX10_there_14 : decode cX10_there 14 = .ok (.getfield 7, 3) := by decide +kernel
theorem dX10_there_17 : decode cX10_there 17 = .ok (.iload_n 1, 1) := by decide +kernel
theorem dX10_there_18 : decode cX10_there 18 = .ok (.baload, 1) := by decide +kernel
theorem dX10_there_19 : decode cX10_there 19 = .ok (.istore_n 3, 1) := by decide +kernel
theorem dX10_there_20 : decode cX10_there 20 = .ok (.iload_n 2, 1) := by decide +kernel
theorem dX10_there_21 : decode cX10_there 21 = .ok (.iload_n 3, 1) := by decide +kernel
theorem dX10_there_22 : decode cX10_there 22 = .ok (.if_icmp .eq 17, 3) := by decide +kernel
theorem dX10_there_25 : decode cX10_there 25 = .ok (.aload_n 0, 1) := by decide +kernel
theorem dX10_there_26 : decode cX10_there 26 = .ok (.getfield 7, 3) := by decide +kernel
theorem dX10_there_29 : decode cX10_there 29 = .ok (.iload_n 1, 1) := by decide +kernel
theorem dX10_there_30 : decode cX10_there 30 = .ok (.iload_n 2, 1) := by decide +kernel
theorem dX10_there_31 : decode cX10_there 31 = .ok (.bastore, 1) := by decide +kernel
theorem dX10_there_32 : decode cX10_there 32 = .ok (.aload_n 0, 1) := by decide +kernel
theorem dX10_there_33 : decode cX10_there 33 = .ok (.getfield 13, 3) := by decide +kernel
theorem dX10_there_36 : decode cX10_there 36 = .ok (.iload_n 1, 1) := by decide +kernel
theorem dX10_there_37 : decode cX10_there 37 = .ok (.iconst 0, 1) := by decide +kernel
theorem dX10_there_38 : decode cX10_there 38 = .ok (.iastore, 1) := by decide +kernel
theorem dX10_there_39 : decode cX10_there 39 = .ok (.iload_n 3, 1) := by decide +kernel
theorem dX10_there_40 : decode cX10_there 40 = .ok (.ifCond .eq 7, 3) := by decide +kernel
theorem dX10_there_43 : decode cX10_there 43 = .ok (.iconst 1, 1) := by decide +kernel
theorem dX10_there_44 : decode cX10_there 44 = .ok (.goto 4, 3) := by decide +kernel
theorem dX10_there_47 : decode cX10_there 47 = .ok (.iconst 0, 1) := by decide +kernel
theorem dX10_there_48 : decode cX10_there 48 = .ok (.ireturn, 1) := by decide +kernel
theorem dX10_permit_0 : decode cX10_permit 0 = .ok (.iload_n 1, 1) := by decide +kernel
theorem dX10_permit_1 : decode cX10_permit 1 = .ok (.iconst 0, 1) := by decide +kernel
theorem dX10_permit_2 : decode cX10_permit 2 = .ok (.bipush 7, 2) := by decide +kernel
theorem dX10_permit_4 : decode cX10_permit 4 = .ok (.invokestatic 127, 3) := by decide +kernel
theorem dX10_permit_7 : decode cX10_permit 7 = .ok (.ifCond .eq 12, 3) := by decide +kernel
theorem dX10_permit_10 : decode cX10_permit 10 = .ok (.iload_n 2, 1) := by decide +kernel
theorem dX10_permit_11 : decode cX10_permit 11 = .ok (.iconst 0, 1) := by decide +kernel
theorem dX10_permit_12 : decode cX10_permit 12 = .ok (.iconst 3, 1) := by decide +kernel
theorem dX10_permit_13 : decode cX10_permit 13 = .ok (.invokestatic 127, 3) := by decide +kernel
theorem dX10_permit_16 : decode cX10_permit 16 = .ok (.ifCond .ne 6, 3) := by decide +kernel
theorem dX10_permit_19 : decode cX10_permit 19 = .ok (.bipush (-2), 2) := by decide +kernel
theorem dX10_permit_21 : decode cX10_permit 21 = .ok (.ireturn, 1) := by decide +kernel
theorem dX10_permit_22 : decode cX10_permit 22 = .ok (.aload_n 0, 1) := by decide +kernel
theorem dX10_permit_23 : decode cX10_permit 23 = .ok (.getfield 21, 3) := by decide +kernel
theorem dX10_permit_26 : decode cX10_permit 26 = .ok (.iload_n 1, 1) := by decide +kernel
theorem dX10_permit_27 : decode cX10_permit 27 = .ok (.iaload, 1) := by decide +kernel
theorem dX10_permit_28 : decode cX10_permit 28 = .ok (.istore_n 3, 1) := by decide +kernel
theorem dX10_permit_29 : decode cX10_permit 29 = .ok (.aload_n 0, 1) := by decide +kernel
theorem dX10_permit_30 : decode cX10_permit 30 = .ok (.getfield 21, 3) := by decide +kernel
theorem dX10_permit_33 : decode cX10_permit 33 = .ok (.iload_n 1, 1) := by decide +kernel
theorem dX10_permit_34 : decode cX10_permit 34 = .ok (.iload_n 2, 1) := by decide +kernel
theorem dX10_permit_35 : decode cX10_permit 35 = .ok (.iastore, 1) := by decide +kernel
theorem dX10_permit_36 : decode cX10_permit 36 = .ok (.iload_n 3, 1) := by decide +kernel
theorem dX10_permit_37 : decode cX10_permit 37 = .ok (.ireturn, 1) := by decide +kernel
theorem dX10_input_0 : decode cX10_input 0 = .ok (.iload_n 1, 1) := by decide +kernel
theorem dX10_input_1 : decode cX10_input 1 = .ok (.iconst 0, 1) := by decide +kernel
theorem dX10_input_2 : decode cX10_input 2 = .ok (.sipush 255, 3) := by decide +kernel
theorem dX10_input_5 : decode cX10_input 5 = .ok (.invokestatic 127, 3) := by decide +kernel
theorem dX10_input_8 : decode cX10_input 8 = .ok (.ifCond .ne 6, 3) := by decide +kernel
theorem dX10_input_11 : decode cX10_input 11 = .ok (.bipush (-2), 2) := by decide +kernel
theorem dX10_input_13 : decode cX10_input 13 = .ok (.ireturn, 1) := by decide +kernel
theorem dX10_input_14 : decode cX10_input 14 = .ok (.aload_n 0, 1) := by decide +kernel
theorem dX10_input_15 : decode cX10_input 15 = .ok (.getfield 135, 3) := by decide +kernel
theorem dX10_input_18 : decode cX10_input 18 = .ok (.bipush 100, 2) := by decide +kernel
theorem dX10_input_20 : decode cX10_input 20 = .ok (.if_icmp .ne 6, 3) := by decide +kernel
theorem dX10_input_23 : decode cX10_input 23 = .ok (.bipush (-3), 2) := by decide +kernel
theorem dX10_input_25 : decode cX10_input 25 = .ok (.ireturn, 1) := by decide +kernel
theorem dX10_input_26 : decode cX10_input 26 = .ok (.aload_n 0, 1) := by decide +kernel
theorem dX10_input_27 : decode cX10_input 27 = .ok (.getfield 24, 3) := by decide +kernel
theorem dX10_input_30 : decode cX10_input 30 = .ok (.aload_n 0, 1) := by decide +kernel
theorem dX10_input_31 : decode cX10_input 31 = .ok (.getfield 135, 3) := by decide +kernel
theorem dX10_input_34 : decode cX10_input 34 = .ok (.iload_n 1, 1) := by decide +kernel
theorem dX10_input_35 : decode cX10_input 35 = .ok (.i2b, 1) := by decide +kernel
theorem dX10_input_36 : decode cX10_input 36 = .ok (.bastore, 1) := by decide +kernel
theorem dX10_input_37 : decode cX10_input 37 = .ok (.aload_n 0, 1) := by decide +kernel
theorem dX10_input_38 : decode cX10_input 38 = .ok (.dup, 1) := by decide +kernel
theorem dX10_input_39 : decode cX10_input 39 = .ok (.getfield 135, 3) := by decide +kernel
theorem dX10_input_42 : decode cX10_input 42 = .ok (.iconst 1, 1) := by decide +kernel
theorem dX10_input_43 : decode cX10_input 43 = .ok (.iadd, 1) := by decide +kernel
theorem dX10_input_44 : decode cX10_input 44 = .ok (.putfield 135, 3) := by decide +kernel
theorem dX10_input_47 : decode cX10_input 47 = .ok (.aload_n 0, 1) := by decide +kernel
theorem dX10_input_48 : decode cX10_input 48 = .ok (.getfield 135, 3) := by decide +kernel
theorem dX10_input_51 : decode cX10_input 51 = .ok (.aload_n 0, 1) := by decide +kernel
theorem dX10_input_52 : decode cX10_input 52 = .ok (.getfield 138, 3) := by decide +kernel
theorem dX10_input_55 : decode cX10_input 55 = .ok (.isub, 1) := by decide +kernel
theorem dX10_input_56 : decode cX10_input 56 = .ok (.ireturn, 1) := by decide +kernel
theorem dX10_isNode_0 : decode cX10_isNode 0 = .ok (.iload_n 1, 1) := by decide +kernel
theorem dX10_isNode_1 : decode cX10_isNode 1 = .ok (.iconst 0, 1) := by decide +kernel
theorem dX10_isNode_2 : decode cX10_isNode 2 = .ok (.aload_n 0, 1) := by decide +kernel
theorem dX10_isNode_3 : decode cX10_isNode 3 = .ok (.getfield 141, 3) := by decide +kernel
theorem dX10_isNode_6 : decode cX10_isNode 6 = .ok (.iconst 1, 1) := by decide +kernel
theorem dX10_isNode_7 : decode cX10_isNode 7 = .ok (.isub, 1) := by decide +kernel
theorem dX10_isNode_8 : decode cX10_isNode 8 = .ok (.invokestatic 127, 3) := by decide +kernel
theorem dX10_isNode_11 : decode cX10_isNode 11 = .ok (.ireturn, 1) := by decide +kernel
theorem dX10_areParts_0 : decode cX10_areParts 0 = .ok (.iload_n 1, 1) := by decide +kernel
theorem dX10_areParts_1 : decode cX10_areParts 1 = .ok (.tableswitch 324 0 28 #[131, 133, 140, 163, 188, 324, 188, 188, 324, 188, 324, 188, 188, 194, 188, 218, 226, 188, 131, 324, 252, 324, 324, 324, 283, 188, 291, 324, 252], 131) := by decide +kernel
theorem dX10_areParts_132 : decode cX10_areParts 132 = .ok (.iconst 1, 1) := by decide +kernel
theorem dX10_areParts_133 : decode cX10_areParts 133 = .ok (.ireturn, 1) := by decide +kernel
theorem dX10_areParts_134 : decode cX10_areParts 134 = .ok (.iload_n 2, 1) := by decide +kernel
theorem dX10_areParts_135 : decode cX10_areParts 135 = .ok (.iconst 0, 1) := by decide +kernel
theorem dX10_areParts_136 : decode cX10_areParts 136 = .ok (.iconst 5, 1) := by decide +kernel
theorem dX10_areParts_137 : decode cX10_areParts 137 = .ok (.invokestatic 127, 3) := by decide +kernel
theorem dX10_areParts_140 : decode cX10_areParts 140 = .ok (.ireturn, 1) := by decide +kernel
theorem dX10_areParts_141 : decode cX10_areParts 141 = .ok (.iload_n 2, 1) := by decide +kernel
theorem dX10_areParts_142 : decode cX10_areParts 142 = .ok (.iconst 0, 1) := by decide +kernel
theorem dX10_areParts_143 : decode cX10_areParts 143 = .ok (.iconst 5, 1) := by decide +kernel
theorem dX10_areParts_144 : decode cX10_areParts 144 = .ok (.invokestatic 127, 3) := by decide +kernel
theorem dX10_areParts_147 : decode cX10_areParts 147 = .ok (.ifCond .eq 15, 3) := by decide +kernel
theorem dX10_areParts_150 : decode cX10_areParts 150 = .ok (.aload_n 0, 1) := by decide +kernel
theorem dX10_areParts_151 : decode cX10_areParts 151 = .ok (.iload_n 3, 1) := by decide +kernel
theorem dX10_areParts_152 : decode cX10_areParts 152 = .ok (.invokevirtual 144, 3) := by decide +kernel
theorem dX10_areParts_155 : decode cX10_areParts 155 = .ok (.ifCond .eq 7, 3) := by decide +kernel
theorem dX10_areParts_158 : decode cX10_areParts 158 = .ok (.iconst 1, 1) := by decide +kernel
theorem dX10_areParts_159 : decode cX10_areParts 159 = .ok (.goto 4, 3) := by decide +kernel
theorem dX10_areParts_162 : decode cX10_areParts 162 = .ok (.iconst 0, 1) := by decide +kernel
theorem dX10_areParts_163 : decode cX10_areParts 163 = .ok (.ireturn, 1) := by decide +kernel
theorem dX10_areParts_164 : decode cX10_areParts 164 = .ok (.iload_n 2, 1) := by decide +kernel
theorem dX10_areParts_165 : decode cX10_areParts 165 = .ok (.iconst 0, 1) := by decide +kernel
theorem dX10_areParts_166 : decode cX10_areParts 166 = .ok (.bipush 7, 2) := by decide +kernel
theorem dX10_areParts_168 : decode cX10_areParts 168 = .ok (.invokestatic 127, 3) := by decide +kernel
theorem dX10_areParts_171 : decode cX10_areParts 171 = .ok (.ifCond .eq 16, 3) := by decide +kernel
theorem dX10_areParts_174 : decode cX10_areParts 174 = .ok (.iload_n 3, 1) := by decide +kernel
theorem dX10_areParts_175 : decode cX10_areParts 175 = .ok (.iconst 0, 1) := by decide +kernel
theorem dX10_areParts_176 : decode cX10_areParts 176 = .ok (.iconst 3, 1) := by decide +kernel
theorem dX10_areParts_177 : decode cX10_areParts 177 = .ok (.invokestatic 127, 3) := by decide +kernel
theorem dX10_areParts_180 : decode cX10_areParts 180 = .ok (.ifCond .eq 7, 3) := by decide +kernel
theorem dX10_areParts_183 : decode cX10_areParts 183 = .ok (.iconst 1, 1) := by decide +kernel
theorem dX10_areParts_184 : decode cX10_areParts 184 = .ok (.goto 4, 3) := by decide +kernel
theorem dX10_areParts_187 : decode cX10_areParts 187 = .ok (.iconst 0, 1) := by decide +kernel
theorem dX10_areParts_188 : decode cX10_areParts 188 = .ok (.ireturn, 1) := by decide +kernel
theorem dX10_areParts_189 : decode cX10_areParts 189 = .ok (.aload_n 0, 1) := by decide +kernel
