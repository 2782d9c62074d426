theorem dX10_areParts_190 : decode cX10_areParts 190 = .ok (.iload_n 2, 1) := by decide +kernel
theorem dX10_areParts_191 : decode cX10_areParts 191 = .ok (.invokevirtual 144, 3) := by decide +kernel
theorem dX10_areParts_194 : decode cX10_areParts 194 = .ok (.ireturn, 1) := by decide +kernel
theorem dX10_areParts_195 : decode cX10_areParts 195 = .ok (.aload_n 0, 1) := by decide +kernel
theorem dX10_areParts_196 : decode cX10_areParts 196 = .ok (.iload_n 2, 1) := by decide +kernel
theorem dX10_areParts_197 : decode cX10_areParts 197 = .ok (.invokevirtual 144, 3) := by decide +kernel
theorem dX10_areParts_200 : decode cX10_areParts 200 = .ok (.ifCond .eq 17, 3) := by decide +kernel
theorem dX10_areParts_203 : decode cX10_areParts 203 = .ok (.iload_n 3, 1) := by decide +kernel
theorem dX10_areParts_204 : decode cX10_areParts 204 = .ok (.iconst 0, 1) := by decide +kernel
theorem dX10_areParts_205 : decode cX10_areParts 205 = .ok (.bipush 9, 2) := by decide +kernel
theorem dX10_areParts_207 : decode cX10_areParts 207 = .ok (.invokestatic 127, 3) := by decide +kernel
theorem dX10_areParts_210 : decode cX10_areParts 210 = .ok (.ifCond .eq 7, 3) := by decide +kernel
theorem dX10_areParts_213 : decode cX10_areParts 213 = .ok (.iconst 1, 1) := by decide +kernel
theorem dX10_areParts_214 : decode cX10_areParts 214 = .ok (.goto 4, 3) := by decide +kernel
theorem dX10_areParts_217 : decode cX10_areParts 217 = .ok (.iconst 0, 1) := by decide +kernel
theorem dX10_areParts_218 : decode cX10_areParts 218 = .ok (.ireturn, 1) := by decide +kernel
theorem dX10_areParts_219 : decode cX10_areParts 219 = .ok (.iload_n 2, 1) := by decide +kernel
theorem dX10_areParts_220 : decode cX10_areParts 220 = .ok (.iconst 0, 1) := by decide +kernel
theorem dX10_areParts_221 : decode cX10_areParts 221 = .ok (.bipush 7, 2) := by decide +kernel
theorem dX10_areParts_223 : decode cX10_areParts 223 = .ok (.invokestatic 127, 3) := by decide +kernel
theorem dX10_areParts_226 : decode cX10_areParts 226 = .ok (.ireturn, 1) := by decide +kernel
theorem dX10_areParts_227 : decode cX10_areParts 227 = .ok (.iload_n 2, 1) := by decide +kernel
theorem dX10_areParts_228 : decode cX10_areParts 228 = .ok (.iconst 0, 1) := by decide +kernel
theorem dX10_areParts_229 : decode cX10_areParts 229 = .ok (.bipush 7, 2) := by decide +kernel
theorem dX10_areParts_231 : decode cX10_areParts 231 = .ok (.invokestatic 127, 3) := by decide +kernel
theorem dX10_areParts_234 : decode cX10_areParts 234 = .ok (.ifCond .eq 17, 3) := by decide +kernel
theorem dX10_areParts_237 : decode cX10_areParts 237 = .ok (.iload_n 3, 1) := by decide +kernel
theorem dX10_areParts_238 : decode cX10_areParts 238 = .ok (.iconst 0, 1) := by decide +kernel
theorem dX10_areParts_239 : decode cX10_areParts 239 = .ok (.bipush 7, 2) := by decide +kernel
theorem dX10_areParts_241 : decode cX10_areParts 241 = .ok (.invokestatic 127, 3) := by decide +kernel
theorem dX10_areParts_244 : decode cX10_areParts 244 = .ok (.ifCond .eq 7, 3) := by decide +kernel
theorem dX10_areParts_247 : decode cX10_areParts 247 = .ok (.iconst 1, 1) := by decide +kernel
theorem dX10_areParts_248 : decode cX10_areParts 248 = .ok (.goto 4, 3) := by decide +kernel
theorem dX10_areParts_251 : decode cX10_areParts 251 = .ok (.iconst 0, 1) := by decide +kernel
theorem dX10_areParts_252 : decode cX10_areParts 252 = .ok (.ireturn, 1) := by decide +kernel
theorem dX10_areParts_253 : decode cX10_areParts 253 = .ok (.aload_n 0, 1) := by decide +kernel
theorem dX10_areParts_254 : decode cX10_areParts 254 = .ok (.iload_n 2, 1) := by decide +kernel
theorem dX10_areParts_255 : decode cX10_areParts 255 = .ok (.invokevirtual 144, 3) := by decide +kernel
theorem dX10_areParts_258 : decode cX10_areParts 258 = .ok (.ifCond .eq 24, 3) := by decide +kernel
theorem dX10_areParts_261 : decode cX10_areParts 261 = .ok (.aload_n 0, 1) := by decide +kernel
theorem dX10_areParts_262 : decode cX10_areParts 262 = .ok (.iload_n 3, 1) := by decide +kernel
theorem dX10_areParts_263 : decode cX10_areParts 263 = .ok (.invokevirtual 144, 3) := by decide +kernel
theorem dX10_areParts_266 : decode cX10_areParts 266 = .ok (.ifCond .eq 16, 3) := by decide +kernel
theorem dX10_areParts_269 : decode cX10_areParts 269 = .ok (.aload_n 0, 1) := by decide +kernel
theorem dX10_areParts_270 : decode cX10_areParts 270 = .ok (.iload 4, 2) := by decide +kernel
theorem dX10_areParts_272 : decode cX10_areParts 272 = .ok (.invokevirtual 144, 3) := by decide +kernel
theorem dX10_areParts_275 : decode cX10_areParts 275 = .ok (.ifCond .eq 7, 3) := by decide +kernel
theorem dX10_areParts_278 : decode cX10_areParts 278 = .ok (.iconst 1, 1) := by decide +kernel
theorem dX10_areParts_279 : decode cX10_areParts 279 = .ok (.goto 4, 3) := by decide +kernel
theorem dX10_areParts_282 : decode cX10_areParts 282 = .ok (.iconst 0, 1) := by decide +kernel
theorem dX10_areParts_283 : decode cX10_areParts 283 = .ok (.ireturn, 1) := by decide +kernel
theorem dX10_areParts_284 : decode cX10_areParts 284 = .ok (.iload_n 2, 1) := by decide +kernel
theorem dX10_areParts_285 : decode cX10_areParts 285 = .ok (.iconst 0, 1) := by decide +kernel
theorem dX10_areParts_286 : decode cX10_areParts 286 = .ok (.bipush 6, 2) := by decide +kernel
theorem dX10_areParts_288 : decode cX10_areParts 288 = .ok (.invokestatic 127, 3) := by decide +kernel
theorem dX10_areParts_291 : decode cX10_areParts 291 = .ok (.ireturn, 1) := by decide +kernel
theorem dX10_areParts_292 : decode cX10_areParts 292 = .ok (.aload_n 0, 1) := by decide +kernel
theorem dX10_areParts_293 : decode cX10_areParts 293 = .ok (.iload_n 2, 1) := by decide +kernel
theorem dX10_areParts_294 : decode cX10_areParts 294 = .ok (.invokevirtual 144, 3) := by decide +kernel
theorem dX10_areParts_297 : decode cX10_areParts 297 = .ok (.ifCond .eq 26, 3) := by decide +kernel
theorem dX10_areParts_300 : decode cX10_areParts 300 = .ok (.aload_n 0, 1) := by decide +kernel
theorem dX10_areParts_301 : decode cX10_areParts 301 = .ok (.iload_n 3, 1) := by decide +kernel
theorem dX10_areParts_302 : decode cX10_areParts 302 = .ok (.invokevirtual 144, 3) := by decide +kernel
theorem dX10_areParts_305 : decode cX10_areParts 305 = .ok (.ifCond .eq 18, 3) := by decide +kernel
theorem dX10_areParts_308 : decode cX10_areParts 308 = .ok (.iload 4, 2) := by decide +kernel
theorem dX10_areParts_310 : decode cX10_areParts 310 = .ok (.iconst 0, 1) := by decide +kernel
theorem dX10_areParts_311 : decode cX10_areParts 311 = .ok (.bipush 127, 2) := by decide +kernel
theorem dX10_areParts_313 : decode cX10_areParts 313 = .ok (.invokestatic 127, 3) := by decide +kernel
theorem dX10_areParts_316 : decode cX10_areParts 316 = .ok (.ifCond .eq 7, 3) := by decide +kernel
theorem dX10_areParts_319 : decode cX10_areParts 319 = .ok (.iconst 1, 1) := by decide +kernel
theorem dX10_areParts_320 : decode cX10_areParts 320 = .ok (.goto 4, 3) := by decide +kernel
theorem dX10_areParts_323 : decode cX10_areParts 323 = .ok (.iconst 0, 1) := by decide +kernel
theorem dX10_areParts_324 : decode cX10_areParts 324 = .ok (.ireturn, 1) := by decide +kernel
theorem dX10_areParts_325 : decode cX10_areParts 325 = .ok (.aload_n 0, 1) := by decide +kernel
theorem dX10_areParts_326 : decode cX10_areParts 326 = .ok (.iload_n 2, 1) := by decide +kernel
theorem dX10_areParts_327 : decode cX10_areParts 327 = .ok (.invokevirtual 144, 3) := by decide +kernel
theorem dX10_areParts_330 : decode cX10_areParts 330 = .ok (.ifCond .eq 15, 3) := by decide +kernel
theorem dX10_areParts_333 : decode cX10_areParts 333 = .ok (.aload_n 0, 1) := by decide +kernel
theorem dX10_areParts_334 : decode cX10_areParts 334 = .ok (.iload_n 3, 1) := by decide +kernel
theorem dX10_areParts_335 : decode cX10_areParts 335 = .ok (.invokevirtual 144, 3) := by decide +kernel
theorem dX10_areParts_338 : decode cX10_areParts 338 = .ok (.ifCond .eq 7, 3) := by decide +kernel
theorem dX10_areParts_341 : decode cX10_areParts 341 = .ok (.iconst 1, 1) := by decide +kernel
theorem dX10_areParts_342 : decode cX10_areParts 342 = .ok (.goto 4, 3) := by decide +kernel
theorem dX10_areParts_345 : decode cX10_areParts 345 = .ok (.iconst 0, 1) := by decide +kernel
theorem dX10_areParts_346 : decode cX10_areParts 346 = .ok (.ireturn, 1) := by decide +kernel
theorem dX10_node_0 : decode cX10_node 0 = .ok (.iload_n 1, 1) := by decide +kernel
theorem dX10_node_1 : decode cX10_node 1 = .ok (.iconst 0, 1) := by decide +kernel
theorem dX10_node_2 : decode cX10_node 2 = .ok (.bipush 28, 2) := by decide +kernel
theorem dX10_node_4 : decode cX10_node 4 = .ok (.invokestatic 127, 3) := by decide +kernel
theorem dX10_node_7 : decode cX10_node 7 = .ok (.ifCond .eq 15, 3) := by decide +kernel
theorem dX10_node_10 : decode cX10_node 10 = .ok (.aload_n 0, 1) := by decide +kernel
theorem dX10_node_11 : decode cX10_node 11 = .ok (.iload_n 1, 1) := by decide +kernel
theorem dX10_node_12 : decode cX10_node 12 = .ok (.iload_n 2, 1) := by decide +kernel
theorem dX10_node_13 : decode cX10_node 13 = .ok (.iload_n 3, 1) := by decide +kernel
theorem dX10_node_14 : decode cX10_node 14 = .ok (.iload 4, 2) := by decide +kernel
theorem dX10_node_16 : decode cX10_node 16 = .ok (.invokevirtual 148, 3) := by decide +kernel
theorem dX10_node_19 : decode cX10_node 19 = .ok (.ifCond .ne 6, 3) := by decide +kernel
theorem dX10_node_22 : decode cX10_node 22 = .ok (.bipush (-2), 2) := by decide +kernel
theorem dX10_node_24 : decode cX10_node 24 = .ok (.ireturn, 1) := by decide +kernel
theorem dX10_node_25 : decode cX10_node 25 = .ok (.aload_n 0, 1) := by decide +kernel
theorem dX10_node_26 : decode cX10_node 26 = .ok (.getfield 141, 3) := by decide +kernel
theorem dX10_node_29 : decode cX10_node 29 = .ok (.bipush 60, 2) := by decide +kernel
theorem dX10_node_31 : decode cX10_node 31 = .ok (.if_icmp .ne 6, 3) := by decide +kernel
theorem dX10_node_34 : decode cX10_node 34 = .ok (.bipush (-3), 2) := by decide +kernel
theorem dX10_node_36 : decode cX10_node 36 = .ok (.ireturn, 1) := by decide +kernel
theorem dX10_node_37 : decode cX10_node 37 = .ok (.aload_n 0, 1) := by decide +kernel
theorem dX10_node_38 : decode cX10_node 38 = .ok (.getfield 30, 3) := by decide +kernel
theorem dX10_node_41 : decode cX10_node 41 = .ok (.aload_n 0, 1) := by decide +kernel
theorem dX10_node_42 : decode cX10_node 42 = .ok (.getfield 141, 3) := by decide +kernel
theorem dX10_node_45 : decode cX10_node 45 = .ok (.iload_n 1, 1) := by decide +kernel
theorem dX10_node_46 : decode cX10_node 46 = .ok (.iastore, 1) := by decide +kernel
theorem dX10_node_47 : decode cX10_node 47 = .ok (.aload_n 0, 1) := by decide +kernel
theorem dX10_node_48 : decode cX10_node 48 = .ok (.getfield 33, 3) := by decide +kernel
theorem dX10_node_51 : decode cX10_node 51 = .ok (.aload_n 0, 1) := by decide +kernel
theorem dX10_node_52 : decode cX10_node 52 = .ok (.getfield 141, 3) := by decide +kernel
theorem dX10_node_55 : decode cX10_node 55 = .ok (.iload_n 2, 1) := by decide +kernel
theorem dX10_node_56 : decode cX10_node 56 = .ok (.iastore, 1) := by decide +kernel
theorem dX10_node_57 : decode cX10_node 57 = .ok (.aload_n 0, 1) := by decide +kernel
theorem dX10_node_58 : decode cX10_node 58 = .ok (.getfield 36, 3) := by decide +kernel
theorem dX10_node_61 : decode cX10_node 61 = .ok (.aload_n 0, 1) := by decide +kernel
theorem dX10_node_62 : decode cX10_node 62 = .ok (.getfield 141, 3) := by decide +kernel
theorem dX10_node_65 : decode cX10_node 65 = .ok (.iload_n 3, 1) := by decide +kernel
theorem dX10_node_66 : decode cX10_node 66 = .ok (.iastore, 1) := by decide +kernel
theorem dX10_node_67 : decode cX10_node 67 = .ok (.aload_n 0, 1) := by decide +kernel
theorem dX10_node_68 : decode cX10_node 68 = .ok (.getfield 39, 3) := by decide +kernel
theorem dX10_node_71 : decode cX10_node 71 = .ok (.aload_n 0, 1) := by decide +kernel
theorem dX10_node_72 : decode cX10_node 72 = .ok (.getfield 141, 3) := by decide +kernel
theorem dX10_node_75 : decode cX10_node 75 = .ok (.iload 4, 2) := by decide +kernel
theorem dX10_node_77 : decode cX10_node 77 = .ok (.iastore, 1) := by decide +kernel
theorem dX10_node_78 : decode cX10_node 78 = .ok (.aload_n 0, 1) := by decide +kernel
theorem dX10_node_79 : decode cX10_node 79 = .ok (.dup, 1) := by decide +kernel
theorem dX10_node_80 : decode cX10_node 80 = .ok (.getfield 141, 3) := by decide +kernel
theorem dX10_node_83 : decode cX10_node 83 = .ok (.iconst 1, 1) := by decide +kernel
theorem dX10_node_84 : decode cX10_node 84 = .ok (.iadd, 1) := by decide +kernel
theorem dX10_node_85 : decode cX10_node 85 = .ok (.putfield 141, 3) := by decide +kernel
theorem dX10_node_88 : decode cX10_node 88 = .ok (.aload_n 0, 1) := by decide +kernel
theorem dX10_node_89 : decode cX10_node 89 = .ok (.getfield 141, 3) := by decide +kernel
theorem dX10_node_92 : decode cX10_node 92 = .ok (.iconst 1, 1) := by decide +kernel
theorem dX10_node_93 : decode cX10_node 93 = .ok (.isub, 1) := by decide +kernel
theorem dX10_node_94 : decode cX10_node 94 = .ok (.ireturn, 1) := by decide +kernel
theorem dX10_clear_0 : decode cX10_clear 0 = .ok (.aload_n 0, 1) := by decide +kernel
theorem dX10_clear_1 : decode cX10_clear 1 = .ok (.getfield 141, 3) := by decide +kernel
theorem dX10_clear_4 : decode cX10_clear 4 = .ok (.istore_n 1, 1) := by decide +kernel
theorem dX10_clear_5 : decode cX10_clear 5 = .ok (.aload_n 0, 1) := by decide +kernel
theorem dX10_clear_6 : decode cX10_clear 6 = .ok (.iconst 0, 1) := by decide +kernel
theorem dX10_clear_7 : decode cX10_clear 7 = .ok (.putfield 141, 3) := by decide +kernel
theorem dX10_clear_10 : decode cX10_clear 10 = .ok (.aload_n 0, 1) := by decide +kernel
theorem dX10_clear_11 : decode cX10_clear 11 = .ok (.iconst 0, 1) := by decide +kernel
theorem dX10_clear_12 : decode cX10_clear 12 = .ok (.putfield 135, 3) := by decide +kernel
theorem dX10_clear_15 : decode cX10_clear 15 = .ok (.aload_n 0, 1) := by decide +kernel
theorem dX10_clear_16 : decode cX10_clear 16 = .ok (.iconst 0, 1) := by decide +kernel
theorem dX10_clear_17 : decode cX10_clear 17 = .ok (.putfield 138, 3) := by decide +kernel
theorem dX10_clear_20 : decode cX10_clear 20 = .ok (.aload_n 0, 1) := by decide +kernel
theorem dX10_clear_21 : decode cX10_clear 21 = .ok (.iconst 0, 1) := by decide +kernel
theorem dX10_clear_22 : decode cX10_clear 22 = .ok (.putfield 152, 3) := by decide +kernel
theorem dX10_clear_25 : decode cX10_clear 25 = .ok (.iload_n 1, 1) := by decide +kernel
theorem dX10_clear_26 : decode cX10_clear 26 = .ok (.ireturn, 1) := by decide +kernel
theorem dX10_isHeld_0 : decode cX10_isHeld 0 = .ok (.iconst 0, 1) := by decide +kernel
theorem dX10_isHeld_1 : decode cX10_isHeld 1 = .ok (.istore_n 2, 1) := by decide +kernel
theorem dX10_isHeld_2 : decode cX10_isHeld 2 = .ok (.iload_n 2, 1) := by decide +kernel
theorem dX10_isHeld_3 : decode cX10_isHeld 3 = .ok (.aload_n 0, 1) := by decide +kernel
theorem dX10_isHeld_4 : decode cX10_isHeld 4 = .ok (.getfield 155, 3) := by decide +kernel
theorem dX10_isHeld_7 : decode cX10_isHeld 7 = .ok (.if_icmp .ge 31, 3) := by decide +kernel
theorem dX10_isHeld_10 : decode cX10_isHeld 10 = .ok (.aload_n 0, 1) := by decide +kernel
theorem dX10_isHeld_11 : decode cX10_isHeld 11 = .ok (.getfield 48, 3) := by decide +kernel
theorem dX10_isHeld_14 : decode cX10_isHeld 14 = .ok (.iload_n 2, 1) := by decide +kernel
theorem dX10_isHeld_15 : decode cX10_isHeld 15 = .ok (.iaload, 1) := by decide +kernel
theorem dX10_isHeld_16 : decode cX10_isHeld 16 = .ok (.iload_n 1, 1) := by decide +kernel
theorem dX10_isHeld_17 : decode cX10_isHeld 17 = .ok (.if_icmp .ne 15, 3) := by decide +kernel
theorem dX10_isHeld_20 : decode cX10_isHeld 20 = .ok (.aload_n 0, 1) := by decide +kernel
theorem dX10_isHeld_21 : decode cX10_isHeld 21 = .ok (.getfield 57, 3) := by decide +kernel
theorem dX10_isHeld_24 : decode cX10_isHeld 24 = .ok (.iload_n 2, 1) := by decide +kernel
theorem dX10_isHeld_25 : decode cX10_isHeld 25 = .ok (.iaload, 1) := by decide +kernel
theorem dX10_isHeld_26 : decode cX10_isHeld 26 = .ok (.iconst 2, 1) := by decide +kernel
theorem dX10_isHeld_27 : decode cX10_isHeld 27 = .ok (.if_icmp .eq 5, 3) := by decide +kernel
theorem dX10_isHeld_30 : decode cX10_isHeld 30 = .ok (.iconst 1, 1) := by decide +kernel
theorem dX10_isHeld_31 : decode cX10_isHeld 31 = .ok (.ireturn, 1) := by decide +kernel
theorem dX10_isHeld_32 : decode cX10_isHeld 32 = .ok (.iinc 2 1, 3) := by decide +kernel
theorem dX10_isHeld_35 : decode cX10_isHeld 35 = .ok (.goto (-33), 3) := by decide +kernel
theorem dX10_isHeld_38 : decode cX10_isHeld 38 = .ok (.iconst 0, 1) := by decide +kernel
theorem dX10_isHeld_39 : decode cX10_isHeld 39 = .ok (.ireturn, 1) := by decide +kernel
theorem dX10_isHeldToWrite_0 : decode cX10_isHeldToWrite 0 = .ok (.iconst 0, 1) := by decide +kernel
theorem dX10_isHeldToWrite_1 : decode cX10_isHeldToWrite 1 = .ok (.istore_n 2, 1) := by decide +kernel
theorem dX10_isHeldToWrite_2 : decode cX10_isHeldToWrite 2 = .ok (.iload_n 2, 1) := by decide +kernel
theorem dX10_isHeldToWrite_3 : decode cX10_isHeldToWrite 3 = .ok (.aload_n 0, 1) := by decide +kernel
theorem dX10_isHeldToWrite_4 : decode cX10_isHeldToWrite 4 = .ok (.getfield 155, 3) := by decide +kernel
theorem dX10_isHeldToWrite_7 : decode cX10_isHeldToWrite 7 = .ok (.if_icmp .ge 40, 3) := by decide +kernel
theorem dX10_isHeldToWrite_10 : decode cX10_isHeldToWrite 10 = .ok (.aload_n 0, 1) := by decide +kernel
theorem dX10_isHeldToWrite_11 : decode cX10_isHeldToWrite 11 = .ok (.getfield 48, 3) := by decide +kernel
theorem dX10_isHeldToWrite_14 : decode cX10_isHeldToWrite 14 = .ok (.iload_n 2, 1) := by decide +kernel
theorem dX10_isHeldToWrite_15 : decode cX10_isHeldToWrite 15 = .ok (.iaload, 1) := by decide +kernel
theorem dX10_isHeldToWrite_16 : decode cX10_isHeldToWrite 16 = .ok (.iload_n 1, 1) := by decide +kernel
theorem dX10_isHeldToWrite_17 : decode cX10_isHeldToWrite 17 = .ok (.if_icmp .ne 24, 3) := by decide +kernel
theorem dX10_isHeldToWrite_20 : decode cX10_isHeldToWrite 20 = .ok (.aload_n 0, 1) := by decide +kernel
theorem dX10_isHeldToWrite_21 : decode cX10_isHeldToWrite 21 = .ok (.getfield 57, 3) := by decide +kernel
theorem dX10_isHeldToWrite_24 : decode cX10_isHeldToWrite 24 = .ok (.iload_n 2, 1) := by decide +kernel
theorem dX10_isHeldToWrite_25 : decode cX10_isHeldToWrite 25 = .ok (.iaload, 1) := by decide +kernel
theorem dX10_isHeldToWrite_26 : decode cX10_isHeldToWrite 26 = .ok (.iconst 2, 1) := by decide +kernel
theorem dX10_isHeldToWrite_27 : decode cX10_isHeldToWrite 27 = .ok (.if_icmp .eq 14, 3) := by decide +kernel
theorem dX10_isHeldToWrite_30 : decode cX10_isHeldToWrite 30 = .ok (.aload_n 0, 1) := by decide +kernel
theorem dX10_isHeldToWrite_31 : decode cX10_isHeldToWrite 31 = .ok (.getfield 51, 3) := by decide +kernel
theorem dX10_isHeldToWrite_34 : decode cX10_isHeldToWrite 34 = .ok (.iload_n 2, 1) := by decide +kernel
theorem dX10_isHeldToWrite_35 : decode cX10_isHeldToWrite 35 = .ok (.iaload, 1) := by decide +kernel
theorem dX10_isHeldToWrite_36 : decode cX10_isHeldToWrite 36 = .ok (.ifCond .eq 5, 3) := by decide +kernel
theorem dX10_isHeldToWrite_39 : decode cX10_isHeldToWrite 39 = .ok (.iconst 1, 1) := by decide +kernel
theorem dX10_isHeldToWrite_40 : decode cX10_isHeldToWrite 40 = .ok (.ireturn, 1) := by decide +kernel
theorem dX10_isHeldToWrite_41 : decode cX10_isHeldToWrite 41 = .ok (.iinc 2 1, 3) := by decide +kernel
theorem dX10_isHeldToWrite_44 : decode cX10_isHeldToWrite 44 = .ok (.goto (-42), 3) := by decide +kernel
theorem dX10_isHeldToWrite_47 : decode cX10_isHeldToWrite 47 = .ok (.iconst 0, 1) := by decide +kernel
theorem dX10_isHeldToWrite_48 : decode cX10_isHeldToWrite 48 = .ok (.ireturn, 1) := by decide +kernel
theorem dX10_note_0 : decode cX10_note 0 = .ok (.aload_n 0, 1) := by decide +kernel
theorem dX10_note_1 : decode cX10_note 1 = .ok (.getfield 158, 3) := by decide +kernel
theorem dX10_note_4 : decode cX10_note 4 = .ok (.sipush 300, 3) := by decide +kernel
theorem dX10_note_7 : decode cX10_note 7 = .ok (.if_icmp .ge 13, 3) := by decide +kernel
theorem dX10_note_10 : decode cX10_note 10 = .ok (.aload_n 0, 1) := by decide +kernel
theorem dX10_note_11 : decode cX10_note 11 = .ok (.getfield 93, 3) := by decide +kernel
theorem dX10_note_14 : decode cX10_note 14 = .ok (.aload_n 0, 1) := by decide +kernel
theorem dX10_note_15 : decode cX10_note 15 = .ok (.getfield 158, 3) := by decide +kernel
theorem dX10_note_18 : decode cX10_note 18 = .ok (.iload_n 1, 1) := by decide +kernel
theorem dX10_note_19 : decode cX10_note 19 = .ok (.iastore, 1) := by decide +kernel
theorem dX10_note_20 : decode cX10_note 20 = .ok (.aload_n 0, 1) := by decide +kernel
theorem dX10_note_21 : decode cX10_note 21 = .ok (.dup, 1) := by decide +kernel
theorem dX10_note_22 : decode cX10_note 22 = .ok (.getfield 158, 3) := by decide +kernel
theorem dX10_note_25 : decode cX10_note 25 = .ok (.iconst 1, 1) := by decide +kernel
theorem dX10_note_26 : decode cX10_note 26 = .ok (.iadd, 1) := by decide +kernel
theorem dX10_note_27 : decode cX10_note 27 = .ok (.putfield 158, 3) := by decide +kernel
theorem dX10_note_30 : decode cX10_note 30 = .ok (.return_, 1) := by decide +kernel
theorem dX10_flush_0 : decode cX10_flush 0 = .ok (.aload_n 0, 1) := by decide +kernel
theorem dX10_flush_1 : decode cX10_flush 1 = .ok (.getfield 48, 3) := by decide +kernel
theorem dX10_flush_4 : decode cX10_flush 4 = .ok (.iload_n 1, 1) := by decide +kernel
theorem dX10_flush_5 : decode cX10_flush 5 = .ok (.iaload, 1) := by decide +kernel
theorem dX10_flush_6 : decode cX10_flush 6 = .ok (.istore_n 2, 1) := by decide +kernel
theorem dX10_flush_7 : decode cX10_flush 7 = .ok (.iconst 1, 1) := by decide +kernel
theorem dX10_flush_8 : decode cX10_flush 8 = .ok (.istore_n 3, 1) := by decide +kernel
theorem dX10_flush_9 : decode cX10_flush 9 = .ok (.iconst 0, 1) := by decide +kernel
theorem dX10_flush_10 : decode cX10_flush 10 = .ok (.istore 4, 2) := by decide +kernel
theorem dX10_flush_12 : decode cX10_flush 12 = .ok (.iload 4, 2) := by decide +kernel
theorem dX10_flush_14 : decode cX10_flush 14 = .ok (.aload_n 0, 1) := by decide +kernel
theorem dX10_flush_15 : decode cX10_flush 15 = .ok (.getfield 66, 3) := by decide +kernel
theorem dX10_flush_18 : decode cX10_flush 18 = .ok (.iload_n 1, 1) := by decide +kernel
theorem dX10_flush_19 : decode cX10_flush 19 = .ok (.iaload, 1) := by decide +kernel
theorem dX10_flush_20 : decode cX10_flush 20 = .ok (.if_icmp .ge 146, 3) := by decide +kernel
theorem dX10_flush_23 : decode cX10_flush 23 = .ok (.iload_n 3, 1) := by decide +kernel
theorem dX10_flush_24 : decode cX10_flush 24 = .ok (.ifCond .eq 142, 3) := by decide +kernel
theorem dX10_flush_27 : decode cX10_flush 27 = .ok (.aload_n 0, 1) := by decide +kernel
theorem dX10_flush_28 : decode cX10_flush 28 = .ok (.getfield 54, 3) := by decide +kernel
theorem dX10_flush_31 : decode cX10_flush 31 = .ok (.iload_n 1, 1) := by decide +kernel
theorem dX10_flush_32 : decode cX10_flush 32 = .ok (.iaload, 1) := by decide +kernel
theorem dX10_flush_33 : decode cX10_flush 33 = .ok (.aload_n 0, 1) := by decide +kernel
theorem dX10_flush_34 : decode cX10_flush 34 = .ok (.getfield 13, 3) := by decide +kernel
theorem dX10_flush_37 : decode cX10_flush 37 = .ok (.iload_n 2, 1) := by decide +kernel
theorem dX10_flush_38 : decode cX10_flush 38 = .ok (.iaload, 1) := by decide +kernel
theorem dX10_flush_39 : decode cX10_flush 39 = .ok (.if_icmp .lt 7, 3) := by decide +kernel
theorem dX10_flush_42 : decode cX10_flush 42 = .ok (.iconst 1, 1) := by decide +kernel
theorem dX10_flush_43 : decode cX10_flush 43 = .ok (.goto 4, 3) := by decide +kernel
theorem dX10_flush_46 : decode cX10_flush 46 = .ok (.iconst 0, 1) := by decide +kernel
theorem dX10_flush_47 : decode cX10_flush 47 = .ok (.istore 5, 2) := by decide +kernel
theorem dX10_flush_49 : decode cX10_flush 49 = .ok (.iload 5, 2) := by decide +kernel
theorem dX10_flush_51 : decode cX10_flush 51 = .ok (.ifCond .eq 23, 3) := by decide +kernel
theorem dX10_flush_54 : decode cX10_flush 54 = .ok (.aload_n 0, 1) := by decide +kernel
theorem dX10_flush_55 : decode cX10_flush 55 = .ok (.getfield 13, 3) := by decide +kernel
theorem dX10_flush_58 : decode cX10_flush 58 = .ok (.iload_n 2, 1) := by decide +kernel
theorem dX10_flush_59 : decode cX10_flush 59 = .ok (.iaload, 1) := by decide +kernel
theorem dX10_flush_60 : decode cX10_flush 60 = .ok (.bipush 40, 2) := by decide +kernel
theorem dX10_flush_62 : decode cX10_flush 62 = .ok (.if_icmp .ge 16, 3) := by decide +kernel
theorem dX10_flush_65 : decode cX10_flush 65 = .ok (.aload_n 0, 1) := by decide +kernel
theorem dX10_flush_66 : decode cX10_flush 66 = .ok (.invokevirtual 131, 3) := by decide +kernel
theorem dX10_flush_69 : decode cX10_flush 69 = .ok (.bipush 120, 2) := by decide +kernel
theorem dX10_flush_71 : decode cX10_flush 71 = .ok (.if_icmp .ge 7, 3) := by decide +kernel
theorem dX10_flush_74 : decode cX10_flush 74 = .ok (.iconst 1, 1) := by decide +kernel
theorem dX10_flush_75 : decode cX10_flush 75 = .ok (.goto 4, 3) := by decide +kernel
theorem dX10_flush_78 : decode cX10_flush 78 = .ok (.iconst 0, 1) := by decide +kernel
theorem dX10_flush_79 : decode cX10_flush 79 = .ok (.istore_n 3, 1) := by decide +kernel
theorem dX10_flush_80 : decode cX10_flush 80 = .ok (.iload_n 3, 1) := by decide +kernel
theorem dX10_flush_81 : decode cX10_flush 81 = .ok (.ifCond .eq 79, 3) := by decide +kernel
theorem dX10_flush_84 : decode cX10_flush 84 = .ok (.aload_n 0, 1) := by decide +kernel
theorem dX10_flush_85 : decode cX10_flush 85 = .ok (.getfield 17, 3) := by decide +kernel
theorem dX10_flush_88 : decode cX10_flush 88 = .ok (.bipush 40, 2) := by decide +kernel
theorem dX10_flush_90 : decode cX10_flush 90 = .ok (.iload_n 2, 1) := by decide +kernel
theorem dX10_flush_91 : decode cX10_flush 91 = .ok (.imul, 1) := by decide +kernel
theorem dX10_flush_92 : decode cX10_flush 92 = .ok (.aload_n 0, 1) := by decide +kernel
theorem dX10_flush_93 : decode cX10_flush 93 = .ok (.getfield 54, 3) := by decide +kernel
theorem dX10_flush_96 : decode cX10_flush 96 = .ok (.iload_n 1, 1) := by decide +kernel
theorem dX10_flush_97 : decode cX10_flush 97 = .ok (.iaload, 1) := by decide +kernel
theorem dX10_flush_98 : decode cX10_flush 98 = .ok (.iadd, 1) := by decide +kernel
theorem dX10_flush_99 : decode cX10_flush 99 = .ok (.aload_n 0, 1) := by decide +kernel
theorem dX10_flush_100 : decode cX10_flush 100 = .ok (.getfield 69, 3) := by decide +kernel
theorem dX10_flush_103 : decode cX10_flush 103 = .ok (.bipush 20, 2) := by decide +kernel
theorem dX10_flush_105 : decode cX10_flush 105 = .ok (.iload_n 1, 1) := by decide +kernel
theorem dX10_flush_106 : decode cX10_flush 106 = .ok (.imul, 1) := by decide +kernel
theorem dX10_flush_107 : decode cX10_flush 107 = .ok (.iload 4, 2) := by decide +kernel
theorem dX10_flush_109 : decode cX10_flush 109 = .ok (.iadd, 1) := by decide +kernel
theorem dX10_flush_110 : decode cX10_flush 110 = .ok (.baload, 1) := by decide +kernel
theorem dX10_flush_111 : decode cX10_flush 111 = .ok (.bastore, 1) := by decide +kernel
theorem dX10_flush_112 : decode cX10_flush 112 = .ok (.aload_n 0, 1) := by decide +kernel
theorem dX10_flush_113 : decode cX10_flush 113 = .ok (.getfield 54, 3) := by decide +kernel
theorem dX10_flush_116 : decode cX10_flush 116 = .ok (.iload_n 1, 1) := by decide +kernel
theorem dX10_flush_117 : decode cX10_flush 117 = .ok (.dup2, 1) := by decide +kernel
theorem dX10_flush_118 : decode cX10_flush 118 = .ok (.iaload, 1) := by decide +kernel
theorem dX10_flush_119 : decode cX10_flush 119 = .ok (.iconst 1, 1) := by decide +kernel
theorem dX10_flush_120 : decode cX10_flush 120 = .ok (.iadd, 1) := by decide +kernel
theorem dX10_flush_121 : decode cX10_flush 121 = .ok (.iastore, 1) := by decide +kernel
theorem dX10_flush_122 : decode cX10_flush 122 = .ok (.aload_n 0, 1) := by decide +kernel
theorem dX10_flush_123 : decode cX10_flush 123 = .ok (.getfield 13, 3) := by decide +kernel
theorem dX10_flush_126 : decode cX10_flush 126 = .ok (.iload_n 2, 1) := by decide +kernel
theorem dX10_flush_127 : decode cX10_flush 127 = .ok (.iload 5, 2) := by decide +kernel
theorem dX10_flush_129 : decode cX10_flush 129 = .ok (.ifCond .eq 14, 3) := by decide +kernel
theorem dX10_flush_132 : decode cX10_flush 132 = .ok (.aload_n 0, 1) := by decide +kernel
theorem dX10_flush_133 : decode cX10_flush 133 = .ok (.getfield 13, 3) := by decide +kernel
theorem dX10_flush_136 : decode cX10_flush 136 = .ok (.iload_n 2, 1) := by decide +kernel
theorem dX10_flush_137 : decode cX10_flush 137 = .ok (.iaload, 1) := by decide +kernel
theorem dX10_flush_138 : decode cX10_flush 138 = .ok (.iconst 1, 1) := by decide +kernel
theorem dX10_flush_139 : decode cX10_flush 139 = .ok (.iadd, 1) := by decide +kernel
theorem dX10_flush_140 : decode cX10_flush 140 = .ok (.goto 9, 3) := by decide +kernel
theorem dX10_flush_143 : decode cX10_flush 143 = .ok (.aload_n 0, 1) := by decide +kernel
theorem dX10_flush_144 : decode cX10_flush 144 = .ok (.getfield 13, 3) := by decide +kernel
theorem dX10_flush_147 : decode cX10_flush 147 = .ok (.iload_n 2, 1) := by decide +kernel
theorem dX10_flush_148 : decode cX10_flush 148 = .ok (.iaload, 1) := by decide +kernel
theorem dX10_flush_149 : decode cX10_flush 149 = .ok (.iastore, 1) := by decide +kernel
theorem dX10_flush_150 : decode cX10_flush 150 = .ok (.aload_n 0, 1) := by decide +kernel
theorem dX10_flush_151 : decode cX10_flush 151 = .ok (.getfield 78, 3) := by decide +kernel
theorem dX10_flush_154 : decode cX10_flush 154 = .ok (.iload_n 1, 1) := by decide +kernel
theorem dX10_flush_155 : decode cX10_flush 155 = .ok (.dup2, 1) := by decide +kernel
theorem dX10_flush_156 : decode cX10_flush 156 = .ok (.iaload, 1) := by decide +kernel
theorem dX10_flush_157 : decode cX10_flush 157 = .ok (.iconst 1, 1) := by decide +kernel
theorem dX10_flush_158 : decode cX10_flush 158 = .ok (.iadd, 1) := by decide +kernel
theorem dX10_flush_159 : decode cX10_flush 159 = .ok (.iastore, 1) := by decide +kernel
theorem dX10_flush_160 : decode cX10_flush 160 = .ok (.iinc 4 1, 3) := by decide +kernel
theorem dX10_flush_163 : decode cX10_flush 163 = .ok (.goto (-151), 3) := by decide +kernel
theorem dX10_flush_166 : decode cX10_flush 166 = .ok (.aload_n 0, 1) := by decide +kernel
theorem dX10_flush_167 : decode cX10_flush 167 = .ok (.getfield 66, 3) := by decide +kernel
theorem dX10_flush_170 : decode cX10_flush 170 = .ok (.iload_n 1, 1) := by decide +kernel
theorem dX10_flush_171 : decode cX10_flush 171 = .ok (.iconst 0, 1) := by decide +kernel
theorem dX10_flush_172 : decode cX10_flush 172 = .ok (.iastore, 1) := by decide +kernel
theorem dX10_flush_173 : decode cX10_flush 173 = .ok (.iload_n 3, 1) := by decide +kernel
theorem dX10_flush_174 : decode cX10_flush 174 = .ok (.ireturn, 1) := by decide +kernel
theorem dX10_openRefused_0 : decode cX10_openRefused 0 = .ok (.iload_n 2, 1) := by decide +kernel
theorem dX10_openRefused_1 : decode cX10_openRefused 1 = .ok (.ifCond .ne 14, 3) := by decide +kernel
theorem dX10_openRefused_4 : decode cX10_openRefused 4 = .ok (.aload_n 0, 1) := by decide +kernel
theorem dX10_openRefused_5 : decode cX10_openRefused 5 = .ok (.getfield 7, 3) := by decide +kernel
theorem dX10_openRefused_8 : decode cX10_openRefused 8 = .ok (.iload_n 1, 1) := by decide +kernel
theorem dX10_openRefused_9 : decode cX10_openRefused 9 = .ok (.baload, 1) := by decide +kernel
theorem dX10_openRefused_10 : decode cX10_openRefused 10 = .ok (.ifCond .ne 5, 3) := by decide +kernel
theorem dX10_openRefused_13 : decode cX10_openRefused 13 = .ok (.iconst 1, 1) := by decide +kernel
theorem dX10_openRefused_14 : decode cX10_openRefused 14 = .ok (.ireturn, 1) := by decide +kernel
theorem dX10_openRefused_15 : decode cX10_openRefused 15 = .ok (.iload_n 2, 1) := by decide +kernel
theorem dX10_openRefused_16 : decode cX10_openRefused 16 = .ok (.ifCond .eq 8, 3) := by decide +kernel
theorem dX10_openRefused_19 : decode cX10_openRefused 19 = .ok (.iload_n 2, 1) := by decide +kernel
theorem dX10_openRefused_20 : decode cX10_openRefused 20 = .ok (.iconst 3, 1) := by decide +kernel
theorem dX10_openRefused_21 : decode cX10_openRefused 21 = .ok (.if_icmp .ne 14, 3) := by decide +kernel
theorem dX10_openRefused_24 : decode cX10_openRefused 24 = .ok (.aload_n 0, 1) := by decide +kernel
theorem dX10_openRefused_25 : decode cX10_openRefused 25 = .ok (.getfield 21, 3) := by decide +kernel
theorem dX10_openRefused_28 : decode cX10_openRefused 28 = .ok (.iload_n 1, 1) := by decide +kernel
theorem dX10_openRefused_29 : decode cX10_openRefused 29 = .ok (.iaload, 1) := by decide +kernel
theorem dX10_openRefused_30 : decode cX10_openRefused 30 = .ok (.iconst 1, 1) := by decide +kernel
theorem dX10_openRefused_31 : decode cX10_openRefused 31 = .ok (.iand, 1) := by decide +kernel
theorem dX10_openRefused_32 : decode cX10_openRefused 32 = .ok (.ifCond .eq 18, 3) := by decide +kernel
theorem dX10_openRefused_35 : decode cX10_openRefused 35 = .ok (.iload_n 2, 1) := by decide +kernel
theorem dX10_openRefused_36 : decode cX10_openRefused 36 = .ok (.ifCond .eq 16, 3) := by decide +kernel
theorem dX10_openRefused_39 : decode cX10_openRefused 39 = .ok (.aload_n 0, 1) := by decide +kernel
theorem dX10_openRefused_40 : decode cX10_openRefused 40 = .ok (.getfield 21, 3) := by decide +kernel
theorem dX10_openRefused_43 : decode cX10_openRefused 43 = .ok (.iload_n 1, 1) := by decide +kernel
theorem dX10_openRefused_44 : decode cX10_openRefused 44 = .ok (.iaload, 1) := by decide +kernel
theorem dX10_openRefused_45 : decode cX10_openRefused 45 = .ok (.iconst 2, 1) := by decide +kernel
theorem dX10_openRefused_46 : decode cX10_openRefused 46 = .ok (.iand, 1) := by decide +kernel
theorem dX10_openRefused_47 : decode cX10_openRefused 47 = .ok (.ifCond .ne 5, 3) := by decide +kernel
theorem dX10_openRefused_50 : decode cX10_openRefused 50 = .ok (.iconst 2, 1) := by decide +kernel
theorem dX10_openRefused_51 : decode cX10_openRefused 51 = .ok (.ireturn, 1) := by decide +kernel
theorem dX10_openRefused_52 : decode cX10_openRefused 52 = .ok (.iload_n 2, 1) := by decide +kernel
theorem dX10_openRefused_53 : decode cX10_openRefused 53 = .ok (.ifCond .ne 14, 3) := by decide +kernel
theorem dX10_openRefused_56 : decode cX10_openRefused 56 = .ok (.aload_n 0, 1) := by decide +kernel
theorem dX10_openRefused_57 : decode cX10_openRefused 57 = .ok (.iload_n 1, 1) := by decide +kernel
theorem dX10_openRefused_58 : decode cX10_openRefused 58 = .ok (.invokevirtual 161, 3) := by decide +kernel
theorem dX10_openRefused_61 : decode cX10_openRefused 61 = .ok (.ifCond .eq 16, 3) := by decide +kernel
theorem dX10_openRefused_64 : decode cX10_openRefused 64 = .ok (.goto 11, 3) := by decide +kernel
theorem dX10_openRefused_67 : decode cX10_openRefused 67 = .ok (.aload_n 0, 1) := by decide +kernel
theorem dX10_openRefused_68 : decode cX10_openRefused 68 = .ok (.iload_n 1, 1) := by decide +kernel
theorem dX10_openRefused_69 : decode cX10_openRefused 69 = .ok (.invokevirtual 164, 3) := by decide +kernel
theorem dX10_openRefused_72 : decode cX10_openRefused 72 = .ok (.ifCond .eq 5, 3) := by decide +kernel
theorem dX10_openRefused_75 : decode cX10_openRefused 75 = .ok (.iconst 0, 1) := by decide +kernel
theorem dX10_openRefused_76 : decode cX10_openRefused 76 = .ok (.ireturn, 1) := by decide +kernel
theorem dX10_openRefused_77 : decode cX10_openRefused 77 = .ok (.aload_n 0, 1) := by decide +kernel
theorem dX10_openRefused_78 : decode cX10_openRefused 78 = .ok (.getfield 155, 3) := by decide +kernel
theorem dX10_openRefused_81 : decode cX10_openRefused 81 = .ok (.bipush 20, 2) := by decide +kernel
theorem dX10_openRefused_83 : decode cX10_openRefused 83 = .ok (.if_icmp .ne 7, 3) := by decide +kernel
theorem dX10_openRefused_86 : decode cX10_openRefused 86 = .ok (.iconst 5, 1) := by decide +kernel
theorem dX10_openRefused_87 : decode cX10_openRefused 87 = .ok (.goto 4, 3) := by decide +kernel
theorem dX10_openRefused_90 : decode cX10_openRefused 90 = .ok (.iconst (-1), 1) := by decide +kernel
theorem dX10_openRefused_91 : decode cX10_openRefused 91 = .ok (.ireturn, 1) := by decide +kernel
theorem dX10_opens_0 : decode cX10_opens 0 = .ok (.aload_n 0, 1) := by decide +kernel
theorem dX10_opens_1 : decode cX10_opens 1 = .ok (.getfield 33, 3) := by decide +kernel
theorem dX10_opens_4 : decode cX10_opens 4 = .ok (.iload_n 1, 1) := by decide +kernel
theorem dX10_opens_5 : decode cX10_opens 5 = .ok (.iaload, 1) := by decide +kernel
theorem dX10_opens_6 : decode cX10_opens 6 = .ok (.istore_n 2, 1) := by decide +kernel
theorem dX10_opens_7 : decode cX10_opens 7 = .ok (.aload_n 0, 1) := by decide +kernel
theorem dX10_opens_8 : decode cX10_opens 8 = .ok (.getfield 36, 3) := by decide +kernel
theorem dX10_opens_11 : decode cX10_opens 11 = .ok (.iload_n 1, 1) := by decide +kernel
theorem dX10_opens_12 : decode cX10_opens 12 = .ok (.iaload, 1) := by decide +kernel
theorem dX10_opens_13 : decode cX10_opens 13 = .ok (.istore_n 3, 1) := by decide +kernel
theorem dX10_opens_14 : decode cX10_opens 14 = .ok (.aload_n 0, 1) := by decide +kernel
theorem dX10_opens_15 : decode cX10_opens 15 = .ok (.iload_n 2, 1) := by decide +kernel
theorem dX10_opens_16 : decode cX10_opens 16 = .ok (.iload_n 3, 1) := by decide +kernel
theorem dX10_opens_17 : decode cX10_opens 17 = .ok (.invokevirtual 167, 3) := by decide +kernel
theorem dX10_opens_20 : decode cX10_opens 20 = .ok (.istore 4, 2) := by decide +kernel
theorem dX10_opens_22 : decode cX10_opens 22 = .ok (.iload 4, 2) := by decide +kernel
theorem dX10_opens_24 : decode cX10_opens 24 = .ok (.iconst (-1), 1) := by decide +kernel
theorem dX10_opens_25 : decode cX10_opens 25 = .ok (.if_icmp .eq 11, 3) := by decide +kernel
theorem dX10_opens_28 : decode cX10_opens 28 = .ok (.aload_n 0, 1) := by decide +kernel
theorem dX10_opens_29 : decode cX10_opens 29 = .ok (.iload_n 1, 1) := by decide +kernel
theorem dX10_opens_30 : decode cX10_opens 30 = .ok (.iload 4, 2) := by decide +kernel
theorem dX10_opens_32 : decode cX10_opens 32 = .ok (.invokevirtual 171, 3) := by decide +kernel
theorem dX10_opens_35 : decode cX10_opens 35 = .ok (.return_, 1) := by decide +kernel
theorem dX10_opens_36 : decode cX10_opens 36 = .ok (.aload_n 0, 1) := by decide +kernel
theorem dX10_opens_37 : decode cX10_opens 37 = .ok (.getfield 7, 3) := by decide +kernel
theorem dX10_opens_40 : decode cX10_opens 40 = .ok (.iload_n 2, 1) := by decide +kernel
theorem dX10_opens_41 : decode cX10_opens 41 = .ok (.baload, 1) := by decide +kernel
theorem dX10_opens_42 : decode cX10_opens 42 = .ok (.ifCond .eq 8, 3) := by decide +kernel
theorem dX10_opens_45 : decode cX10_opens 45 = .ok (.iload_n 3, 1) := by decide +kernel
theorem dX10_opens_46 : decode cX10_opens 46 = .ok (.iconst 1, 1) := by decide +kernel
theorem dX10_opens_47 : decode cX10_opens 47 = .ok (.if_icmp .ne 10, 3) := by decide +kernel
theorem dX10_opens_50 : decode cX10_opens 50 = .ok (.aload_n 0, 1) := by decide +kernel
theorem dX10_opens_51 : decode cX10_opens 51 = .ok (.getfield 13, 3) := by decide +kernel
theorem dX10_opens_54 : decode cX10_opens 54 = .ok (.iload_n 2, 1) := by decide +kernel
theorem dX10_opens_55 : decode cX10_opens 55 = .ok (.iconst 0, 1) := by decide +kernel
theorem dX10_opens_56 : decode cX10_opens 56 = .ok (.iastore, 1) := by decide +kernel
theorem dX10_opens_57 : decode cX10_opens 57 = .ok (.aload_n 0, 1) := by decide +kernel
theorem dX10_opens_58 : decode cX10_opens 58 = .ok (.getfield 7, 3) := by decide +kernel
theorem dX10_opens_61 : decode cX10_opens 61 = .ok (.iload_n 2, 1) := by decide +kernel
theorem dX10_opens_62 : decode cX10_opens 62 = .ok (.iconst 1, 1) := by decide +kernel
theorem dX10_opens_63 : decode cX10_opens 63 = .ok (.bastore, 1) := by decide +kernel
theorem dX10_opens_64 : decode cX10_opens 64 = .ok (.aload_n 0, 1) := by decide +kernel
theorem dX10_opens_65 : decode cX10_opens 65 = .ok (.getfield 155, 3) := by decide +kernel
theorem dX10_opens_68 : decode cX10_opens 68 = .ok (.istore 5, 2) := by decide +kernel
theorem dX10_opens_70 : decode cX10_opens 70 = .ok (.aload_n 0, 1) := by decide +kernel
theorem dX10_opens_71 : decode cX10_opens 71 = .ok (.getfield 48, 3) := by decide +kernel
theorem dX10_opens_74 : decode cX10_opens 74 = .ok (.iload 5, 2) := by decide +kernel
theorem dX10_opens_76 : decode cX10_opens 76 = .ok (.iload_n 2, 1) := by decide +kernel
theorem dX10_opens_77 : decode cX10_opens 77 = .ok (.iastore, 1) := by decide +kernel
theorem dX10_opens_78 : decode cX10_opens 78 = .ok (.aload_n 0, 1) := by decide +kernel
theorem dX10_opens_79 : decode cX10_opens 79 = .ok (.getfield 51, 3) := by decide +kernel
theorem dX10_opens_82 : decode cX10_opens 82 = .ok (.iload 5, 2) := by decide +kernel
theorem dX10_opens_84 : decode cX10_opens 84 = .ok (.iload_n 3, 1) := by decide +kernel
theorem dX10_opens_85 : decode cX10_opens 85 = .ok (.iastore, 1) := by decide +kernel
theorem dX10_opens_86 : decode cX10_opens 86 = .ok (.aload_n 0, 1) := by decide +kernel
theorem dX10_opens_87 : decode cX10_opens 87 = .ok (.getfield 54, 3) := by decide +kernel
theorem dX10_opens_90 : decode cX10_opens 90 = .ok (.iload 5, 2) := by decide +kernel
theorem dX10_opens_92 : decode cX10_opens 92 = .ok (.iload_n 3, 1) := by decide +kernel
theorem dX10_opens_93 : decode cX10_opens 93 = .ok (.iconst 2, 1) := by decide +kernel
theorem dX10_opens_94 : decode cX10_opens 94 = .ok (.if_icmp .ne 12, 3) := by decide +kernel
theorem dX10_opens_97 : decode cX10_opens 97 = .ok (.aload_n 0, 1) := by decide +kernel
theorem dX10_opens_98 : decode cX10_opens 98 = .ok (.getfield 13, 3) := by decide +kernel
theorem dX10_opens_101 : decode cX10_opens 101 = .ok (.iload_n 2, 1) := by decide +kernel
theorem dX10_opens_102 : decode cX10_opens 102 = .ok (.iaload, 1) := by decide +kernel
theorem dX10_opens_103 : decode cX10_opens 103 = .ok (.goto 4, 3) := by decide +kernel
theorem dX10_opens_106 : decode cX10_opens 106 = .ok (.iconst 0, 1) := by decide +kernel
theorem dX10_opens_107 : decode cX10_opens 107 = .ok (.iastore, 1) := by decide +kernel
theorem dX10_opens_108 : decode cX10_opens 108 = .ok (.aload_n 0, 1) := by decide +kernel
theorem dX10_opens_109 : decode cX10_opens 109 = .ok (.getfield 57, 3) := by decide +kernel
theorem dX10_opens_112 : decode cX10_opens 112 = .ok (.iload 5, 2) := by decide +kernel
theorem dX10_opens_114 : decode cX10_opens 114 = .ok (.iconst 0, 1) := by decide +kernel
theorem dX10_opens_115 : decode cX10_opens 115 = .ok (.iastore, 1) := by decide +kernel
theorem dX10_opens_116 : decode cX10_opens 116 = .ok (.aload_n 0, 1) := by decide +kernel
theorem dX10_opens_117 : decode cX10_opens 117 = .ok (.getfield 63, 3) := by decide +kernel
theorem dX10_opens_120 : decode cX10_opens 120 = .ok (.iload 5, 2) := by decide +kernel
theorem dX10_opens_122 : decode cX10_opens 122 = .ok (.iconst 0, 1) := by decide +kernel
theorem dX10_opens_123 : decode cX10_opens 123 = .ok (.iastore, 1) := by decide +kernel
theorem dX10_opens_124 : decode cX10_opens 124 = .ok (.aload_n 0, 1) := by decide +kernel
theorem dX10_opens_125 : decode cX10_opens 125 = .ok (.getfield 66, 3) := by decide +kernel
theorem dX10_opens_128 : decode cX10_opens 128 = .ok (.iload 5, 2) := by decide +kernel
theorem dX10_opens_130 : decode cX10_opens 130 = .ok (.iconst 0, 1) := by decide +kernel
theorem dX10_opens_131 : decode cX10_opens 131 = .ok (.iastore, 1) := by decide +kernel
theorem dX10_opens_132 : decode cX10_opens 132 = .ok (.aload_n 0, 1) := by decide +kernel
theorem dX10_opens_133 : decode cX10_opens 133 = .ok (.getfield 72, 3) := by decide +kernel
theorem dX10_opens_136 : decode cX10_opens 136 = .ok (.iload 5, 2) := by decide +kernel
theorem dX10_opens_138 : decode cX10_opens 138 = .ok (.iconst 0, 1) := by decide +kernel
theorem dX10_opens_139 : decode cX10_opens 139 = .ok (.iastore, 1) := by decide +kernel
theorem dX10_opens_140 : decode cX10_opens 140 = .ok (.aload_n 0, 1) := by decide +kernel
theorem dX10_opens_141 : decode cX10_opens 141 = .ok (.getfield 75, 3) := by decide +kernel
theorem dX10_opens_144 : decode cX10_opens 144 = .ok (.iload 5, 2) := by decide +kernel
theorem dX10_opens_146 : decode cX10_opens 146 = .ok (.iconst 0, 1) := by decide +kernel
theorem dX10_opens_147 : decode cX10_opens 147 = .ok (.iastore, 1) := by decide +kernel
theorem dX10_opens_148 : decode cX10_opens 148 = .ok (.aload_n 0, 1) := by decide +kernel
theorem dX10_opens_149 : decode cX10_opens 149 = .ok (.getfield 78, 3) := by decide +kernel
theorem dX10_opens_152 : decode cX10_opens 152 = .ok (.iload 5, 2) := by decide +kernel
theorem dX10_opens_154 : decode cX10_opens 154 = .ok (.iconst 0, 1) := by decide +kernel
theorem dX10_opens_155 : decode cX10_opens 155 = .ok (.iastore, 1) := by decide +kernel
theorem dX10_opens_156 : decode cX10_opens 156 = .ok (.aload_n 0, 1) := by decide +kernel
theorem dX10_opens_157 : decode cX10_opens 157 = .ok (.dup, 1) := by decide +kernel
theorem dX10_opens_158 : decode cX10_opens 158 = .ok (.getfield 155, 3) := by decide +kernel
theorem dX10_opens_161 : decode cX10_opens 161 = .ok (.iconst 1, 1) := by decide +kernel
theorem dX10_opens_162 : decode cX10_opens 162 = .ok (.iadd, 1) := by decide +kernel
theorem dX10_opens_163 : decode cX10_opens 163 = .ok (.putfield 155, 3) := by decide +kernel
theorem dX10_opens_166 : decode cX10_opens 166 = .ok (.aload_n 0, 1) := by decide +kernel
theorem dX10_opens_167 : decode cX10_opens 167 = .ok (.iload_n 1, 1) := by decide +kernel
theorem dX10_opens_168 : decode cX10_opens 168 = .ok (.invokevirtual 175, 3) := by decide +kernel
theorem dX10_opens_171 : decode cX10_opens 171 = .ok (.aload_n 0, 1) := by decide +kernel
theorem dX10_opens_172 : decode cX10_opens 172 = .ok (.iconst 1, 1) := by decide +kernel
theorem dX10_opens_173 : decode cX10_opens 173 = .ok (.iload 5, 2) := by decide +kernel
theorem dX10_opens_175 : decode cX10_opens 175 = .ok (.invokevirtual 179, 3) := by decide +kernel
theorem dX10_opens_178 : decode cX10_opens 178 = .ok (.return_, 1) := by decide +kernel
theorem dX10_remove_0 : decode cX10_remove 0 = .ok (.aload_n 0, 1) := by decide +kernel
theorem dX10_remove_1 : decode cX10_remove 1 = .ok (.getfield 33, 3) := by decide +kernel
theorem dX10_remove_4 : decode cX10_remove 4 = .ok (.iload_n 1, 1) := by decide +kernel
theorem dX10_remove_5 : decode cX10_remove 5 = .ok (.iaload, 1) := by decide +kernel
theorem dX10_remove_6 : decode cX10_remove 6 = .ok (.istore_n 2, 1) := by decide +kernel
theorem dX10_remove_7 : decode cX10_remove 7 = .ok (.aload_n 0, 1) := by decide +kernel
theorem dX10_remove_8 : decode cX10_remove 8 = .ok (.getfield 7, 3) := by decide +kernel
theorem dX10_remove_11 : decode cX10_remove 11 = .ok (.iload_n 2, 1) := by decide +kernel
theorem dX10_remove_12 : decode cX10_remove 12 = .ok (.baload, 1) := by decide +kernel
theorem dX10_remove_13 : decode cX10_remove 13 = .ok (.ifCond .ne 12, 3) := by decide +kernel
theorem dX10_remove_16 : decode cX10_remove 16 = .ok (.aload_n 0, 1) := by decide +kernel
theorem dX10_remove_17 : decode cX10_remove 17 = .ok (.iload_n 1, 1) := by decide +kernel
theorem dX10_remove_18 : decode cX10_remove 18 = .ok (.iconst 1, 1) := by decide +kernel
theorem dX10_remove_19 : decode cX10_remove 19 = .ok (.invokevirtual 171, 3) := by decide +kernel
theorem dX10_remove_22 : decode cX10_remove 22 = .ok (.goto 65, 3) := by decide +kernel
theorem dX10_remove_25 : decode cX10_remove 25 = .ok (.aload_n 0, 1) := by decide +kernel
theorem dX10_remove_26 : decode cX10_remove 26 = .ok (.getfield 21, 3) := by decide +kernel
theorem dX10_remove_29 : decode cX10_remove 29 = .ok (.iload_n 2, 1) := by decide +kernel
theorem dX10_remove_30 : decode cX10_remove 30 = .ok (.iaload, 1) := by decide +kernel
theorem dX10_remove_31 : decode cX10_remove 31 = .ok (.iconst 2, 1) := by decide +kernel
theorem dX10_remove_32 : decode cX10_remove 32 = .ok (.iand, 1) := by decide +kernel
theorem dX10_remove_33 : decode cX10_remove 33 = .ok (.ifCond .ne 12, 3) := by decide +kernel
theorem dX10_remove_36 : decode cX10_remove 36 = .ok (.aload_n 0, 1) := by decide +kernel
theorem dX10_remove_37 : decode cX10_remove 37 = .ok (.iload_n 1, 1) := by decide +kernel
theorem dX10_remove_38 : decode cX10_remove 38 = .ok (.iconst 2, 1) := by decide +kernel
theorem dX10_remove_39 : decode cX10_remove 39 = .ok (.invokevirtual 171, 3) := by decide +kernel
theorem dX10_remove_42 : decode cX10_remove 42 = .ok (.goto 45, 3) := by decide +kernel
theorem dX10_remove_45 : decode cX10_remove 45 = .ok (.aload_n 0, 1) := by decide +kernel
theorem dX10_remove_46 : decode cX10_remove 46 = .ok (.iload_n 2, 1) := by decide +kernel
theorem dX10_remove_47 : decode cX10_remove 47 = .ok (.invokevirtual 164, 3) := by decide +kernel
theorem dX10_remove_50 : decode cX10_remove 50 = .ok (.ifCond .eq 12, 3) := by decide +kernel
theorem dX10_remove_53 : decode cX10_remove 53 = .ok (.aload_n 0, 1) := by decide +kernel
theorem dX10_remove_54 : decode cX10_remove 54 = .ok (.iload_n 1, 1) := by decide +kernel
theorem dX10_remove_55 : decode cX10_remove 55 = .ok (.iconst 0, 1) := by decide +kernel
theorem dX10_remove_56 : decode cX10_remove 56 = .ok (.invokevirtual 171, 3) := by decide +kernel
theorem dX10_remove_59 : decode cX10_remove 59 = .ok (.goto 28, 3) := by decide +kernel
theorem dX10_remove_62 : decode cX10_remove 62 = .ok (.aload_n 0, 1) := by decide +kernel
theorem dX10_remove_63 : decode cX10_remove 63 = .ok (.getfield 7, 3) := by decide +kernel
theorem dX10_remove_66 : decode cX10_remove 66 = .ok (.iload_n 2, 1) := by decide +kernel
theorem dX10_remove_67 : decode cX10_remove 67 = .ok (.iconst 0, 1) := by decide +kernel
theorem dX10_remove_68 : decode cX10_remove 68 = .ok (.bastore, 1) := by decide +kernel
theorem dX10_remove_69 : decode cX10_remove 69 = .ok (.aload_n 0, 1) := by decide +kernel
theorem dX10_remove_70 : decode cX10_remove 70 = .ok (.getfield 13, 3) := by decide +kernel
theorem dX10_remove_73 : decode cX10_remove 73 = .ok (.iload_n 2, 1) := by decide +kernel
theorem dX10_remove_74 : decode cX10_remove 74 = .ok (.iconst 0, 1) := by decide +kernel
theorem dX10_remove_75 : decode cX10_remove 75 = .ok (.iastore, 1) := by decide +kernel
theorem dX10_remove_76 : decode cX10_remove 76 = .ok (.aload_n 0, 1) := by decide +kernel
theorem dX10_remove_77 : decode cX10_remove 77 = .ok (.iload_n 1, 1) := by decide +kernel
theorem dX10_remove_78 : decode cX10_remove 78 = .ok (.invokevirtual 175, 3) := by decide +kernel
theorem dX10_remove_81 : decode cX10_remove 81 = .ok (.aload_n 0, 1) := by decide +kernel
theorem dX10_remove_82 : decode cX10_remove 82 = .ok (.iconst 0, 1) := by decide +kernel
theorem dX10_remove_83 : decode cX10_remove 83 = .ok (.iconst 0, 1) := by decide +kernel
theorem dX10_remove_84 : decode cX10_remove 84 = .ok (.invokevirtual 179, 3) := by decide +kernel
theorem dX10_remove_87 : decode cX10_remove 87 = .ok (.return_, 1) := by decide +kernel
theorem dX10_rename_0 : decode cX10_rename 0 = .ok (.aload_n 0, 1) := by decide +kernel
theorem dX10_rename_1 : decode cX10_rename 1 = .ok (.getfield 33, 3) := by decide +kernel
theorem dX10_rename_4 : decode cX10_rename 4 = .ok (.iload_n 1, 1) := by decide +kernel
theorem dX10_rename_5 : decode cX10_rename 5 = .ok (.iaload, 1) := by decide +kernel
theorem dX10_rename_6 : decode cX10_rename 6 = .ok (.istore_n 2, 1) := by decide +kernel
theorem dX10_rename_7 : decode cX10_rename 7 = .ok (.aload_n 0, 1) := by decide +kernel
theorem dX10_rename_8 : decode cX10_rename 8 = .ok (.getfield 36, 3) := by decide +kernel
theorem dX10_rename_11 : decode cX10_rename 11 = .ok (.iload_n 1, 1) := by decide +kernel
theorem dX10_rename_12 : decode cX10_rename 12 = .ok (.iaload, 1) := by decide +kernel
theorem dX10_rename_13 : decode cX10_rename 13 = .ok (.istore_n 3, 1) := by decide +kernel
theorem dX10_rename_14 : decode cX10_rename 14 = .ok (.aload_n 0, 1) := by decide +kernel
theorem dX10_rename_15 : decode cX10_rename 15 = .ok (.getfield 7, 3) := by decide +kernel
theorem dX10_rename_18 : decode cX10_rename 18 = .ok (.iload_n 2, 1) := by decide +kernel
theorem dX10_rename_19 : decode cX10_rename 19 = .ok (.baload, 1) := by decide +kernel
theorem dX10_rename_20 : decode cX10_rename 20 = .ok (.ifCond .ne 12, 3) := by decide +kernel
theorem dX10_rename_23 : decode cX10_rename 23 = .ok (.aload_n 0, 1) := by decide +kernel
theorem dX10_rename_24 : decode cX10_rename 24 = .ok (.iload_n 1, 1) := by decide +kernel
theorem dX10_rename_25 : decode cX10_rename 25 = .ok (.iconst 1, 1) := by decide +kernel
theorem dX10_rename_26 : decode cX10_rename 26 = .ok (.invokevirtual 171, 3) := by decide +kernel
theorem dX10_rename_29 : decode cX10_rename 29 = .ok (.goto 152, 3) := by decide +kernel
theorem dX10_rename_32 : decode cX10_rename 32 = .ok (.aload_n 0, 1) := by decide +kernel
theorem dX10_rename_33 : decode cX10_rename 33 = .ok (.getfield 21, 3) := by decide +kernel
theorem dX10_rename_36 : decode cX10_rename 36 = .ok (.iload_n 2, 1) := by decide +kernel
theorem dX10_rename_37 : decode cX10_rename 37 = .ok (.iaload, 1) := by decide +kernel
theorem dX10_rename_38 : decode cX10_rename 38 = .ok (.iconst 2, 1) := by decide +kernel
theorem dX10_rename_39 : decode cX10_rename 39 = .ok (.iand, 1) := by decide +kernel
theorem dX10_rename_40 : decode cX10_rename 40 = .ok (.ifCond .eq 14, 3) := by decide +kernel
theorem dX10_rename_43 : decode cX10_rename 43 = .ok (.aload_n 0, 1) := by decide +kernel
theorem dX10_rename_44 : decode cX10_rename 44 = .ok (.getfield 21, 3) := by decide +kernel
theorem dX10_rename_47 : decode cX10_rename 47 = .ok (.iload_n 3, 1) := by decide +kernel
theorem dX10_rename_48 : decode cX10_rename 48 = .ok (.iaload, 1) := by decide +kernel
theorem dX10_rename_49 : decode cX10_rename 49 = .ok (.iconst 2, 1) := by decide +kernel
theorem dX10_rename_50 : decode cX10_rename 50 = .ok (.iand, 1) := by decide +kernel
theorem dX10_rename_51 : decode cX10_rename 51 = .ok (.ifCond .ne 12, 3) := by decide +kernel
theorem dX10_rename_54 : decode cX10_rename 54 = .ok (.aload_n 0, 1) := by decide +kernel
theorem dX10_rename_55 : decode cX10_rename 55 = .ok (.iload_n 1, 1) := by decide +kernel
theorem dX10_rename_56 : decode cX10_rename 56 = .ok (.iconst 2, 1) := by decide +kernel
theorem dX10_rename_57 : decode cX10_rename 57 = .ok (.invokevirtual 171, 3) := by decide +kernel
theorem dX10_rename_60 : decode cX10_rename 60 = .ok (.goto 121, 3) := by decide +kernel
theorem dX10_rename_63 : decode cX10_rename 63 = .ok (.aload_n 0, 1) := by decide +kernel
theorem dX10_rename_64 : decode cX10_rename 64 = .ok (.iload_n 2, 1) := by decide +kernel
theorem dX10_rename_65 : decode cX10_rename 65 = .ok (.invokevirtual 164, 3) := by decide +kernel
theorem dX10_rename_68 : decode cX10_rename 68 = .ok (.ifCond .ne 11, 3) := by decide +kernel
theorem dX10_rename_71 : decode cX10_rename 71 = .ok (.aload_n 0, 1) := by decide +kernel
theorem dX10_rename_72 : decode cX10_rename 72 = .ok (.iload_n 3, 1) := by decide +kernel
theorem dX10_rename_73 : decode cX10_rename 73 = .ok (.invokevirtual 164, 3) := by decide +kernel
theorem dX10_rename_76 : decode cX10_rename 76 = .ok (.ifCond .eq 12, 3) := by decide +kernel
theorem dX10_rename_79 : decode cX10_rename 79 = .ok (.aload_n 0, 1) := by decide +kernel
theorem dX10_rename_80 : decode cX10_rename 80 = .ok (.iload_n 1, 1) := by decide +kernel
theorem dX10_rename_81 : decode cX10_rename 81 = .ok (.iconst 0, 1) := by decide +kernel
theorem dX10_rename_82 : decode cX10_rename 82 = .ok (.invokevirtual 171, 3) := by decide +kernel
theorem dX10_rename_85 : decode cX10_rename 85 = .ok (.goto 96, 3) := by decide +kernel
theorem dX10_rename_88 : decode cX10_rename 88 = .ok (.iload_n 2, 1) := by decide +kernel
theorem dX10_rename_89 : decode cX10_rename 89 = .ok (.iload_n 3, 1) := by decide +kernel
theorem dX10_rename_90 : decode cX10_rename 90 = .ok (.if_icmp .eq 85, 3) := by decide +kernel
theorem dX10_rename_93 : decode cX10_rename 93 = .ok (.iconst 0, 1) := by decide +kernel
theorem dX10_rename_94 : decode cX10_rename 94 = .ok (.istore 4, 2) := by decide +kernel
theorem dX10_rename_96 : decode cX10_rename 96 = .ok (.iload 4, 2) := by decide +kernel
theorem dX10_rename_98 : decode cX10_rename 98 = .ok (.aload_n 0, 1) := by decide +kernel
theorem dX10_rename_99 : decode cX10_rename 99 = .ok (.getfield 13, 3) := by decide +kernel
theorem dX10_rename_102 : decode cX10_rename 102 = .ok (.iload_n 2, 1) := by decide +kernel
theorem dX10_rename_103 : decode cX10_rename 103 = .ok (.iaload, 1) := by decide +kernel
theorem dX10_rename_104 : decode cX10_rename 104 = .ok (.if_icmp .ge 33, 3) := by decide +kernel
theorem dX10_rename_107 : decode cX10_rename 107 = .ok (.aload_n 0, 1) := by decide +kernel
theorem dX10_rename_108 : decode cX10_rename 108 = .ok (.getfield 17, 3) := by decide +kernel
theorem dX10_rename_111 : decode cX10_rename 111 = .ok (.bipush 40, 2) := by decide +kernel
theorem dX10_rename_113 : decode cX10_rename 113 = .ok (.iload_n 3, 1) := by decide +kernel
theorem dX10_rename_114 : decode cX10_rename 114 = .ok (.imul, 1) := by decide +kernel
theorem dX10_rename_115 : decode cX10_rename 115 = .ok (.iload 4, 2) := by decide +kernel
theorem dX10_rename_117 : decode cX10_rename 117 = .ok (.iadd, 1) := by decide +kernel
theorem dX10_rename_118 : decode cX10_rename 118 = .ok (.aload_n 0, 1) := by decide +kernel
theorem dX10_rename_119 : decode cX10_rename 119 = .ok (.getfield 17, 3) := by decide +kernel
theorem dX10_rename_122 : decode cX10_rename 122 = .ok (.bipush 40, 2) := by decide +kernel
theorem dX10_rename_124 : decode cX10_rename 124 = .ok (.iload_n 2, 1) := by decide +kernel
theorem dX10_rename_125 : decode cX10_rename 125 = .ok (.imul, 1) := by decide +kernel
theorem dX10_rename_126 : decode cX10_rename 126 = .ok (.iload 4, 2) := by decide +kernel
theorem dX10_rename_128 : decode cX10_rename 128 = .ok (.iadd, 1) := by decide +kernel
theorem dX10_rename_129 : decode cX10_rename 129 = .ok (.baload, 1) := by decide +kernel
theorem dX10_rename_130 : decode cX10_rename 130 = .ok (.bastore, 1) := by decide +kernel
theorem dX10_rename_131 : decode cX10_rename 131 = .ok (.iinc 4 1, 3) := by decide +kernel
theorem dX10_rename_134 : decode cX10_rename 134 = .ok (.goto (-38), 3) := by decide +kernel
theorem dX10_rename_137 : decode cX10_rename 137 = .ok (.aload_n 0, 1) := by decide +kernel
theorem dX10_rename_138 : decode cX10_rename 138 = .ok (.getfield 13, 3) := by decide +kernel
theorem dX10_rename_141 : decode cX10_rename 141 = .ok (.iload_n 3, 1) := by decide +kernel
theorem dX10_rename_142 : decode cX10_rename 142 = .ok (.aload_n 0, 1) := by decide +kernel
theorem dX10_rename_143 : decode cX10_rename 143 = .ok (.getfield 13, 3) := by decide +kernel
theorem dX10_rename_146 : decode cX10_rename 146 = .ok (.iload_n 2, 1) := by decide +kernel
theorem dX10_rename_147 : decode cX10_rename 147 = .ok (.iaload, 1) := by decide +kernel
theorem dX10_rename_148 : decode cX10_rename 148 = .ok (.iastore, 1) := by decide +kernel
theorem dX10_rename_149 : decode cX10_rename 149 = .ok (.aload_n 0, 1) := by decide +kernel
theorem dX10_rename_150 : decode cX10_rename 150 = .ok (.getfield 7, 3) := by decide +kernel
theorem dX10_rename_153 : decode cX10_rename 153 = .ok (.iload_n 3, 1) := by decide +kernel
theorem dX10_rename_154 : decode cX10_rename 154 = .ok (.iconst 1, 1) := by decide +kernel
theorem dX10_rename_155 : decode cX10_rename 155 = .ok (.bastore, 1) := by decide +kernel
theorem dX10_rename_156 : decode cX10_rename 156 = .ok (.aload_n 0, 1) := by decide +kernel
theorem dX10_rename_157 : decode cX10_rename 157 = .ok (.getfield 13, 3) := by decide +kernel
theorem dX10_rename_160 : decode cX10_rename 160 = .ok (.iload_n 2, 1) := by decide +kernel
theorem dX10_rename_161 : decode cX10_rename 161 = .ok (.iconst 0, 1) := by decide +kernel
theorem dX10_rename_162 : decode cX10_rename 162 = .ok (.iastore, 1) := by decide +kernel
theorem dX10_rename_163 : decode cX10_rename 163 = .ok (.aload_n 0, 1) := by decide +kernel
theorem dX10_rename_164 : decode cX10_rename 164 = .ok (.getfield 7, 3) := by decide +kernel
theorem dX10_rename_167 : decode cX10_rename 167 = .ok (.iload_n 2, 1) := by decide +kernel
theorem dX10_rename_168 : decode cX10_rename 168 = .ok (.iconst 0, 1) := by decide +kernel
theorem dX10_rename_169 : decode cX10_rename 169 = .ok (.bastore, 1) := by decide +kernel
theorem dX10_rename_170 : decode cX10_rename 170 = .ok (.aload_n 0, 1) := by decide +kernel
theorem dX10_rename_171 : decode cX10_rename 171 = .ok (.iload_n 1, 1) := by decide +kernel
theorem dX10_rename_172 : decode cX10_rename 172 = .ok (.invokevirtual 175, 3) := by decide +kernel
theorem dX10_rename_175 : decode cX10_rename 175 = .ok (.aload_n 0, 1) := by decide +kernel
theorem dX10_rename_176 : decode cX10_rename 176 = .ok (.iconst 0, 1) := by decide +kernel
theorem dX10_rename_177 : decode cX10_rename 177 = .ok (.iconst 0, 1) := by decide +kernel
theorem dX10_rename_178 : decode cX10_rename 178 = .ok (.invokevirtual 179, 3) := by decide +kernel
theorem dX10_rename_181 : decode cX10_rename 181 = .ok (.return_, 1) := by decide +kernel
theorem dX10_gives_0 : decode cX10_gives 0 = .ok (.aload_n 0, 1) := by decide +kernel
theorem dX10_gives_1 : decode cX10_gives 1 = .ok (.iload_n 1, 1) := by decide +kernel
theorem dX10_gives_2 : decode cX10_gives 2 = .ok (.putfield 182, 3) := by decide +kernel
theorem dX10_gives_5 : decode cX10_gives 5 = .ok (.aload_n 0, 1) := by decide +kernel
theorem dX10_gives_6 : decode cX10_gives 6 = .ok (.iload_n 2, 1) := by decide +kernel
theorem dX10_gives_7 : decode cX10_gives 7 = .ok (.putfield 185, 3) := by decide +kernel
theorem dX10_gives_10 : decode cX10_gives 10 = .ok (.aload_n 0, 1) := by decide +kernel
theorem dX10_gives_11 : decode cX10_gives 11 = .ok (.dup, 1) := by decide +kernel
theorem dX10_gives_12 : decode cX10_gives 12 = .ok (.getfield 188, 3) := by decide +kernel
theorem dX10_gives_15 : decode cX10_gives 15 = .ok (.iconst 1, 1) := by decide +kernel
theorem dX10_gives_16 : decode cX10_gives 16 = .ok (.isub, 1) := by decide +kernel
theorem dX10_gives_17 : decode cX10_gives 17 = .ok (.putfield 188, 3) := by decide +kernel
theorem dX10_gives_20 : decode cX10_gives 20 = .ok (.return_, 1) := by decide +kernel
theorem dX10_fails_0 : decode cX10_fails 0 = .ok (.aload_n 0, 1) := by decide +kernel
theorem dX10_fails_1 : decode cX10_fails 1 = .ok (.iconst 1, 1) := by decide +kernel
theorem dX10_fails_2 : decode cX10_fails 2 = .ok (.putfield 191, 3) := by decide +kernel
theorem dX10_fails_5 : decode cX10_fails 5 = .ok (.aload_n 0, 1) := by decide +kernel
theorem dX10_fails_6 : decode cX10_fails 6 = .ok (.iload_n 2, 1) := by decide +kernel
theorem dX10_fails_7 : decode cX10_fails 7 = .ok (.putfield 194, 3) := by decide +kernel
theorem dX10_fails_10 : decode cX10_fails 10 = .ok (.aload_n 0, 1) := by decide +kernel
theorem dX10_fails_11 : decode cX10_fails 11 = .ok (.iload_n 1, 1) := by decide +kernel
theorem dX10_fails_12 : decode cX10_fails 12 = .ok (.putfield 197, 3) := by decide +kernel
theorem dX10_fails_15 : decode cX10_fails 15 = .ok (.aload_n 0, 1) := by decide +kernel
theorem dX10_fails_16 : decode cX10_fails 16 = .ok (.dup, 1) := by decide +kernel
theorem dX10_fails_17 : decode cX10_fails 17 = .ok (.getfield 188, 3) := by decide +kernel
theorem dX10_fails_20 : decode cX10_fails 20 = .ok (.iconst 1, 1) := by decide +kernel
theorem dX10_fails_21 : decode cX10_fails 21 = .ok (.isub, 1) := by decide +kernel
theorem dX10_fails_22 : decode cX10_fails 22 = .ok (.putfield 188, 3) := by decide +kernel
theorem dX10_fails_25 : decode cX10_fails 25 = .ok (.return_, 1) := by decide +kernel
theorem dX10_begin_0 : decode cX10_begin 0 = .ok (.aload_n 0, 1) := by decide +kernel
theorem dX10_begin_1 : decode cX10_begin 1 = .ok (.getfield 200, 3) := by decide +kernel
theorem dX10_begin_4 : decode cX10_begin 4 = .ok (.sipush 600, 3) := by decide +kernel
theorem dX10_begin_7 : decode cX10_begin 7 = .ok (.if_icmp .ne 9, 3) := by decide +kernel
theorem dX10_begin_10 : decode cX10_begin 10 = .ok (.aload_n 0, 1) := by decide +kernel
theorem dX10_begin_11 : decode cX10_begin 11 = .ok (.iconst 3, 1) := by decide +kernel
theorem dX10_begin_12 : decode cX10_begin 12 = .ok (.putfield 191, 3) := by decide +kernel
theorem dX10_begin_15 : decode cX10_begin 15 = .ok (.return_, 1) := by decide +kernel
theorem dX10_begin_16 : decode cX10_begin 16 = .ok (.aload_n 0, 1) := by decide +kernel
theorem dX10_begin_17 : decode cX10_begin 17 = .ok (.dup, 1) := by decide +kernel
theorem dX10_begin_18 : decode cX10_begin 18 = .ok (.getfield 200, 3) := by decide +kernel
theorem dX10_begin_21 : decode cX10_begin 21 = .ok (.iconst 1, 1) := by decide +kernel
theorem dX10_begin_22 : decode cX10_begin 22 = .ok (.iadd, 1) := by decide +kernel
theorem dX10_begin_23 : decode cX10_begin 23 = .ok (.putfield 200, 3) := by decide +kernel
theorem dX10_begin_26 : decode cX10_begin 26 = .ok (.aload_n 0, 1) := by decide +kernel
theorem dX10_begin_27 : decode cX10_begin 27 = .ok (.getfield 100, 3) := by decide +kernel
theorem dX10_begin_30 : decode cX10_begin 30 = .ok (.aload_n 0, 1) := by decide +kernel
theorem dX10_begin_31 : decode cX10_begin 31 = .ok (.getfield 188, 3) := by decide +kernel
theorem dX10_begin_34 : decode cX10_begin 34 = .ok (.iload_n 1, 1) := by decide +kernel
theorem dX10_begin_35 : decode cX10_begin 35 = .ok (.iastore, 1) := by decide +kernel
theorem dX10_begin_36 : decode cX10_begin 36 = .ok (.aload_n 0, 1) := by decide +kernel
theorem dX10_begin_37 : decode cX10_begin 37 = .ok (.getfield 103, 3) := by decide +kernel
theorem dX10_begin_40 : decode cX10_begin 40 = .ok (.aload_n 0, 1) := by decide +kernel
theorem dX10_begin_41 : decode cX10_begin 41 = .ok (.getfield 188, 3) := by decide +kernel
theorem dX10_begin_44 : decode cX10_begin 44 = .ok (.iconst 0, 1) := by decide +kernel
theorem dX10_begin_45 : decode cX10_begin 45 = .ok (.iastore, 1) := by decide +kernel
theorem dX10_begin_46 : decode cX10_begin 46 = .ok (.aload_n 0, 1) := by decide +kernel
theorem dX10_begin_47 : decode cX10_begin 47 = .ok (.getfield 112, 3) := by decide +kernel
theorem dX10_begin_50 : decode cX10_begin 50 = .ok (.aload_n 0, 1) := by decide +kernel
theorem dX10_begin_51 : decode cX10_begin 51 = .ok (.getfield 188, 3) := by decide +kernel
theorem dX10_begin_54 : decode cX10_begin 54 = .ok (.iconst 0, 1) := by decide +kernel
theorem dX10_begin_55 : decode cX10_begin 55 = .ok (.iastore, 1) := by decide +kernel
theorem dX10_begin_56 : decode cX10_begin 56 = .ok (.aload_n 0, 1) := by decide +kernel
theorem dX10_begin_57 : decode cX10_begin 57 = .ok (.dup, 1) := by decide +kernel
theorem dX10_begin_58 : decode cX10_begin 58 = .ok (.getfield 188, 3) := by decide +kernel
theorem dX10_begin_61 : decode cX10_begin 61 = .ok (.iconst 1, 1) := by decide +kernel
theorem dX10_begin_62 : decode cX10_begin 62 = .ok (.iadd, 1) := by decide +kernel
theorem dX10_begin_63 : decode cX10_begin 63 = .ok (.putfield 188, 3) := by decide +kernel
theorem dX10_begin_66 : decode cX10_begin 66 = .ok (.return_, 1) := by decide +kernel
theorem dX10_isSort_0 : decode cX10_isSort 0 = .ok (.aload_n 0, 1) := by decide +kernel
theorem dX10_isSort_1 : decode cX10_isSort 1 = .ok (.getfield 182, 3) := by decide +kernel
theorem dX10_isSort_4 : decode cX10_isSort 4 = .ok (.iload_n 2, 1) := by decide +kernel
theorem dX10_isSort_5 : decode cX10_isSort 5 = .ok (.if_icmp .ne 5, 3) := by decide +kernel
theorem dX10_isSort_8 : decode cX10_isSort 8 = .ok (.iconst 1, 1) := by decide +kernel
theorem dX10_isSort_9 : decode cX10_isSort 9 = .ok (.ireturn, 1) := by decide +kernel
theorem dX10_isSort_10 : decode cX10_isSort 10 = .ok (.aload_n 0, 1) := by decide +kernel
theorem dX10_isSort_11 : decode cX10_isSort 11 = .ok (.iload_n 1, 1) := by decide +kernel
theorem dX10_isSort_12 : decode cX10_isSort 12 = .ok (.iconst 4, 1) := by decide +kernel
theorem dX10_isSort_13 : decode cX10_isSort 13 = .ok (.invokevirtual 171, 3) := by decide +kernel
theorem dX10_isSort_16 : decode cX10_isSort 16 = .ok (.iconst 0, 1) := by decide +kernel
theorem dX10_isSort_17 : decode cX10_isSort 17 = .ok (.ireturn, 1) := by decide +kernel
theorem dX10_isOpen_0 : decode cX10_isOpen 0 = .ok (.aload_n 0, 1) := by decide +kernel
theorem dX10_isOpen_1 : decode cX10_isOpen 1 = .ok (.getfield 57, 3) := by decide +kernel
theorem dX10_isOpen_4 : decode cX10_isOpen 4 = .ok (.iload_n 2, 1) := by decide +kernel
theorem dX10_isOpen_5 : decode cX10_isOpen 5 = .ok (.iaload, 1) := by decide +kernel
theorem dX10_isOpen_6 : decode cX10_isOpen 6 = .ok (.ifCond .ne 5, 3) := by decide +kernel
theorem dX10_isOpen_9 : decode cX10_isOpen 9 = .ok (.iconst 1, 1) := by decide +kernel
theorem dX10_isOpen_10 : decode cX10_isOpen 10 = .ok (.ireturn, 1) := by decide +kernel
theorem dX10_isOpen_11 : decode cX10_isOpen 11 = .ok (.aload_n 0, 1) := by decide +kernel
theorem dX10_isOpen_12 : decode cX10_isOpen 12 = .ok (.iload_n 1, 1) := by decide +kernel
theorem dX10_isOpen_13 : decode cX10_isOpen 13 = .ok (.iconst 4, 1) := by decide +kernel
theorem dX10_isOpen_14 : decode cX10_isOpen 14 = .ok (.invokevirtual 171, 3) := by decide +kernel
theorem dX10_isOpen_17 : decode cX10_isOpen 17 = .ok (.iconst 0, 1) := by decide +kernel
theorem dX10_isOpen_18 : decode cX10_isOpen 18 = .ok (.ireturn, 1) := by decide +kernel
theorem dX10_work_0 : decode cX10_work 0 = .ok (.aload_n 0, 1) := by decide +kernel
theorem dX10_work_1 : decode cX10_work 1 = .ok (.getfield 188, 3) := by decide +kernel
theorem dX10_work_4 : decode cX10_work 4 = .ok (.ifCond .le 47, 3) := by decide +kernel
theorem dX10_work_7 : decode cX10_work 7 = .ok (.aload_n 0, 1) := by decide +kernel
theorem dX10_work_8 : decode cX10_work 8 = .ok (.getfield 191, 3) := by decide +kernel
theorem dX10_work_11 : decode cX10_work 11 = .ok (.iconst 3, 1) := by decide +kernel
theorem dX10_work_12 : decode cX10_work 12 = .ok (.if_icmp .eq 39, 3) := by decide +kernel
theorem dX10_work_15 : decode cX10_work 15 = .ok (.aload_n 0, 1) := by decide +kernel
theorem dX10_work_16 : decode cX10_work 16 = .ok (.getfield 188, 3) := by decide +kernel
theorem dX10_work_19 : decode cX10_work 19 = .ok (.iconst 1, 1) := by decide +kernel
theorem dX10_work_20 : decode cX10_work 20 = .ok (.isub, 1) := by decide +kernel
theorem dX10_work_21 : decode cX10_work 21 = .ok (.istore_n 1, 1) := by decide +kernel
theorem dX10_work_22 : decode cX10_work 22 = .ok (.aload_n 0, 1) := by decide +kernel
theorem dX10_work_23 : decode cX10_work 23 = .ok (.getfield 191, 3) := by decide +kernel
theorem dX10_work_26 : decode cX10_work 26 = .ok (.ifCond .eq 11, 3) := by decide +kernel
theorem dX10_work_29 : decode cX10_work 29 = .ok (.aload_n 0, 1) := by decide +kernel
theorem dX10_work_30 : decode cX10_work 30 = .ok (.iload_n 1, 1) := by decide +kernel
theorem dX10_work_31 : decode cX10_work 31 = .ok (.invokevirtual 203, 3) := by decide +kernel
theorem dX10_work_34 : decode cX10_work 34 = .ok (.goto 14, 3) := by decide +kernel
theorem dX10_work_37 : decode cX10_work 37 = .ok (.aload_n 0, 1) := by decide +kernel
theorem dX10_work_38 : decode cX10_work 38 = .ok (.iload_n 1, 1) := by decide +kernel
theorem dX10_work_39 : decode cX10_work 39 = .ok (.aload_n 0, 1) := by decide +kernel
theorem dX10_work_40 : decode cX10_work 40 = .ok (.getfield 100, 3) := by decide +kernel
theorem dX10_work_43 : decode cX10_work 43 = .ok (.iload_n 1, 1) := by decide +kernel
theorem dX10_work_44 : decode cX10_work 44 = .ok (.iaload, 1) := by decide +kernel
theorem dX10_work_45 : decode cX10_work 45 = .ok (.invokevirtual 206, 3) := by decide +kernel
theorem dX10_work_48 : decode cX10_work 48 = .ok (.goto (-48), 3) := by decide +kernel
theorem dX10_work_51 : decode cX10_work 51 = .ok (.return_, 1) := by decide +kernel
theorem dX10_go_0 : decode cX10_go 0 = .ok (.aload_n 0, 1) := by decide +kernel
theorem dX10_go_1 : decode cX10_go 1 = .ok (.getfield 103, 3) := by decide +kernel
theorem dX10_go_4 : decode cX10_go 4 = .ok (.iload_n 1, 1) := by decide +kernel
theorem dX10_go_5 : decode cX10_go 5 = .ok (.iaload, 1) := by decide +kernel
theorem dX10_go_6 : decode cX10_go 6 = .ok (.istore_n 3, 1) := by decide +kernel
theorem dX10_go_7 : decode cX10_go 7 = .ok (.aload_n 0, 1) := by decide +kernel
theorem dX10_go_8 : decode cX10_go 8 = .ok (.getfield 103, 3) := by decide +kernel
theorem dX10_go_11 : decode cX10_go 11 = .ok (.iload_n 1, 1) := by decide +kernel
theorem dX10_go_12 : decode cX10_go 12 = .ok (.iload_n 3, 1) := by decide +kernel
theorem dX10_go_13 : decode cX10_go 13 = .ok (.iconst 1, 1) := by decide +kernel
theorem dX10_go_14 : decode cX10_go 14 = .ok (.iadd, 1) := by decide +kernel
theorem dX10_go_15 : decode cX10_go 15 = .ok (.iastore, 1) := by decide +kernel
theorem dX10_go_16 : decode cX10_go 16 = .ok (.aload_n 0, 1) := by decide +kernel
theorem dX10_go_17 : decode cX10_go 17 = .ok (.getfield 30, 3) := by decide +kernel
theorem dX10_go_20 : decode cX10_go 20 = .ok (.iload_n 2, 1) := by decide +kernel
theorem dX10_go_21 : decode cX10_go 21 = .ok (.iaload, 1) := by decide +kernel
theorem dX10_go_22 : decode cX10_go 22 = .ok (.istore 4, 2) := by decide +kernel
theorem dX10_go_24 : decode cX10_go 24 = .ok (.iload 4, 2) := by decide +kernel
theorem dX10_go_26 : decode cX10_go 26 = .ok (.ifCond .ne 17, 3) := by decide +kernel
theorem dX10_go_29 : decode cX10_go 29 = .ok (.aload_n 0, 1) := by decide +kernel
theorem dX10_go_30 : decode cX10_go 30 = .ok (.iconst 0, 1) := by decide +kernel
theorem dX10_go_31 : decode cX10_go 31 = .ok (.aload_n 0, 1) := by decide +kernel
theorem dX10_go_32 : decode cX10_go 32 = .ok (.getfield 33, 3) := by decide +kernel
theorem dX10_go_35 : decode cX10_go 35 = .ok (.iload_n 2, 1) := by decide +kernel
theorem dX10_go_36 : decode cX10_go 36 = .ok (.iaload, 1) := by decide +kernel
theorem dX10_go_37 : decode cX10_go 37 = .ok (.invokevirtual 179, 3) := by decide +kernel
theorem dX10_go_40 : decode cX10_go 40 = .ok (.goto 213, 3) := by decide +kernel
theorem dX10_go_43 : decode cX10_go 43 = .ok (.iload 4, 2) := by decide +kernel
theorem dX10_go_45 : decode cX10_go 45 = .ok (.iconst 1, 1) := by decide +kernel
theorem dX10_go_46 : decode cX10_go 46 = .ok (.if_icmp .ne 32, 3) := by decide +kernel
theorem dX10_go_49 : decode cX10_go 49 = .ok (.aload_n 0, 1) := by decide +kernel
theorem dX10_go_50 : decode cX10_go 50 = .ok (.aload_n 0, 1) := by decide +kernel
theorem dX10_go_51 : decode cX10_go 51 = .ok (.getfield 42, 3) := by decide +kernel
theorem dX10_go_54 : decode cX10_go 54 = .ok (.aload_n 0, 1) := by decide +kernel
theorem dX10_go_55 : decode cX10_go 55 = .ok (.getfield 33, 3) := by decide +kernel
theorem dX10_go_58 : decode cX10_go 58 = .ok (.iload_n 2, 1) := by decide +kernel
theorem dX10_go_59 : decode cX10_go 59 = .ok (.iaload, 1) := by decide +kernel
theorem dX10_go_60 : decode cX10_go 60 = .ok (.iaload, 1) := by decide +kernel
theorem dX10_go_61 : decode cX10_go 61 = .ok (.aload_n 0, 1) := by decide +kernel
theorem dX10_go_62 : decode cX10_go 62 = .ok (.getfield 45, 3) := by decide +kernel
theorem dX10_go_65 : decode cX10_go 65 = .ok (.aload_n 0, 1) := by decide +kernel
theorem dX10_go_66 : decode cX10_go 66 = .ok (.getfield 33, 3) := by decide +kernel
theorem dX10_go_69 : decode cX10_go 69 = .ok (.iload_n 2, 1) := by decide +kernel
theorem dX10_go_70 : decode cX10_go 70 = .ok (.iaload, 1) := by decide +kernel
theorem dX10_go_71 : decode cX10_go 71 = .ok (.iaload, 1) := by decide +kernel
theorem dX10_go_72 : decode cX10_go 72 = .ok (.invokevirtual 179, 3) := by decide +kernel
theorem dX10_go_75 : decode cX10_go 75 = .ok (.goto 178, 3) := by decide +kernel
theorem dX10_go_78 : decode cX10_go 78 = .ok (.iload 4, 2) := by decide +kernel
theorem dX10_go_80 : decode cX10_go 80 = .ok (.iconst 2, 1) := by decide +kernel
theorem dX10_go_81 : decode cX10_go 81 = .ok (.if_icmp .ne 63, 3) := by decide +kernel
theorem dX10_go_84 : decode cX10_go 84 = .ok (.iload_n 3, 1) := by decide +kernel
theorem dX10_go_85 : decode cX10_go 85 = .ok (.ifCond .ne 16, 3) := by decide +kernel
theorem dX10_go_88 : decode cX10_go 88 = .ok (.aload_n 0, 1) := by decide +kernel
theorem dX10_go_89 : decode cX10_go 89 = .ok (.aload_n 0, 1) := by decide +kernel
theorem dX10_go_90 : decode cX10_go 90 = .ok (.getfield 36, 3) := by decide +kernel
theorem dX10_go_93 : decode cX10_go 93 = .ok (.iload_n 2, 1) := by decide +kernel
theorem dX10_go_94 : decode cX10_go 94 = .ok (.iaload, 1) := by decide +kernel
theorem dX10_go_95 : decode cX10_go 95 = .ok (.invokevirtual 209, 3) := by decide +kernel
theorem dX10_go_98 : decode cX10_go 98 = .ok (.goto 155, 3) := by decide +kernel
theorem dX10_go_101 : decode cX10_go 101 = .ok (.aload_n 0, 1) := by decide +kernel
theorem dX10_go_102 : decode cX10_go 102 = .ok (.getfield 42, 3) := by decide +kernel
theorem dX10_go_105 : decode cX10_go 105 = .ok (.aload_n 0, 1) := by decide +kernel
theorem dX10_go_106 : decode cX10_go 106 = .ok (.getfield 33, 3) := by decide +kernel
theorem dX10_go_109 : decode cX10_go 109 = .ok (.iload_n 2, 1) := by decide +kernel
theorem dX10_go_110 : decode cX10_go 110 = .ok (.iaload, 1) := by decide +kernel
theorem dX10_go_111 : decode cX10_go 111 = .ok (.aload_n 0, 1) := by decide +kernel
theorem dX10_go_112 : decode cX10_go 112 = .ok (.getfield 182, 3) := by decide +kernel
theorem dX10_go_115 : decode cX10_go 115 = .ok (.iastore, 1) := by decide +kernel
theorem dX10_go_116 : decode cX10_go 116 = .ok (.aload_n 0, 1) := by decide +kernel
theorem dX10_go_117 : decode cX10_go 117 = .ok (.getfield 45, 3) := by decide +kernel
theorem dX10_go_120 : decode cX10_go 120 = .ok (.aload_n 0, 1) := by decide +kernel
theorem dX10_go_121 : decode cX10_go 121 = .ok (.getfield 33, 3) := by decide +kernel
theorem dX10_go_124 : decode cX10_go 124 = .ok (.iload_n 2, 1) := by decide +kernel
theorem dX10_go_125 : decode cX10_go 125 = .ok (.iaload, 1) := by decide +kernel
theorem dX10_go_126 : decode cX10_go 126 = .ok (.aload_n 0, 1) := by decide +kernel
theorem dX10_go_127 : decode cX10_go 127 = .ok (.getfield 185, 3) := by decide +kernel
theorem dX10_go_130 : decode cX10_go 130 = .ok (.iastore, 1) := by decide +kernel
theorem dX10_go_131 : decode cX10_go 131 = .ok (.aload_n 0, 1) := by decide +kernel
theorem dX10_go_132 : decode cX10_go 132 = .ok (.dup, 1) := by decide +kernel
theorem dX10_go_133 : decode cX10_go 133 = .ok (.getfield 188, 3) := by decide +kernel
theorem dX10_go_136 : decode cX10_go 136 = .ok (.iconst 1, 1) := by decide +kernel
theorem dX10_go_137 : decode cX10_go 137 = .ok (.isub, 1) := by decide +kernel
theorem dX10_go_138 : decode cX10_go 138 = .ok (.putfield 188, 3) := by decide +kernel
theorem dX10_go_141 : decode cX10_go 141 = .ok (.goto 112, 3) := by decide +kernel
theorem dX10_go_144 : decode cX10_go 144 = .ok (.iload 4, 2) := by decide +kernel
theorem dX10_go_146 : decode cX10_go 146 = .ok (.iconst 3, 1) := by decide +kernel
theorem dX10_go_147 : decode cX10_go 147 = .ok (.if_icmp .ne 11, 3) := by decide +kernel
theorem dX10_go_150 : decode cX10_go 150 = .ok (.aload_n 0, 1) := by decide +kernel
theorem dX10_go_151 : decode cX10_go 151 = .ok (.iload_n 2, 1) := by decide +kernel
theorem dX10_go_152 : decode cX10_go 152 = .ok (.invokevirtual 212, 3) := by decide +kernel
theorem dX10_go_155 : decode cX10_go 155 = .ok (.goto 98, 3) := by decide +kernel
theorem dX10_go_158 : decode cX10_go 158 = .ok (.iload 4, 2) := by decide +kernel
theorem dX10_go_160 : decode cX10_go 160 = .ok (.bipush 14, 2) := by decide +kernel
theorem dX10_go_162 : decode cX10_go 162 = .ok (.if_icmp .gt 15, 3) := by decide +kernel
theorem dX10_go_165 : decode cX10_go 165 = .ok (.aload_n 0, 1) := by decide +kernel
theorem dX10_go_166 : decode cX10_go 166 = .ok (.iload_n 1, 1) := by decide +kernel
theorem dX10_go_167 : decode cX10_go 167 = .ok (.iload_n 2, 1) := by decide +kernel
theorem dX10_go_168 : decode cX10_go 168 = .ok (.iload 4, 2) := by decide +kernel
theorem dX10_go_170 : decode cX10_go 170 = .ok (.iload_n 3, 1) := by decide +kernel
theorem dX10_go_171 : decode cX10_go 171 = .ok (.invokevirtual 215, 3) := by decide +kernel
theorem dX10_go_174 : decode cX10_go 174 = .ok (.goto 79, 3) := by decide +kernel
theorem dX10_go_177 : decode cX10_go 177 = .ok (.iload 4, 2) := by decide +kernel
theorem dX10_go_179 : decode cX10_go 179 = .ok (.bipush 15, 2) := by decide +kernel
theorem dX10_go_181 : decode cX10_go 181 = .ok (.if_icmp .ne 11, 3) := by decide +kernel
theorem dX10_go_184 : decode cX10_go 184 = .ok (.aload_n 0, 1) := by decide +kernel
theorem dX10_go_185 : decode cX10_go 185 = .ok (.iload_n 2, 1) := by decide +kernel
theorem dX10_go_186 : decode cX10_go 186 = .ok (.invokevirtual 219, 3) := by decide +kernel
theorem dX10_go_189 : decode cX10_go 189 = .ok (.goto 64, 3) := by decide +kernel
theorem dX10_go_192 : decode cX10_go 192 = .ok (.iload 4, 2) := by decide +kernel
theorem dX10_go_194 : decode cX10_go 194 = .ok (.bipush 16, 2) := by decide +kernel
theorem dX10_go_196 : decode cX10_go 196 = .ok (.if_icmp .ne 11, 3) := by decide +kernel
theorem dX10_go_199 : decode cX10_go 199 = .ok (.aload_n 0, 1) := by decide +kernel
theorem dX10_go_200 : decode cX10_go 200 = .ok (.iload_n 2, 1) := by decide +kernel
theorem dX10_go_201 : decode cX10_go 201 = .ok (.invokevirtual 222, 3) := by decide +kernel
theorem dX10_go_204 : decode cX10_go 204 = .ok (.goto 49, 3) := by decide +kernel
theorem dX10_go_207 : decode cX10_go 207 = .ok (.iload 4, 2) := by decide +kernel
theorem dX10_go_209 : decode cX10_go 209 = .ok (.bipush 18, 2) := by decide +kernel
theorem dX10_go_211 : decode cX10_go 211 = .ok (.if_icmp .gt 14, 3) := by decide +kernel
theorem dX10_go_214 : decode cX10_go 214 = .ok (.aload_n 0, 1) := by decide +kernel
theorem dX10_go_215 : decode cX10_go 215 = .ok (.iload_n 2, 1) := by decide +kernel
theorem dX10_go_216 : decode cX10_go 216 = .ok (.iload 4, 2) := by decide +kernel
theorem dX10_go_218 : decode cX10_go 218 = .ok (.iload_n 3, 1) := by decide +kernel
theorem dX10_go_219 : decode cX10_go 219 = .ok (.invokevirtual 225, 3) := by decide +kernel
theorem dX10_go_222 : decode cX10_go 222 = .ok (.goto 31, 3) := by decide +kernel
theorem dX10_go_225 : decode cX10_go 225 = .ok (.iload 4, 2) := by decide +kernel
theorem dX10_go_227 : decode cX10_go 227 = .ok (.bipush 23, 2) := by decide +kernel
theorem dX10_go_229 : decode cX10_go 229 = .ok (.if_icmp .gt 15, 3) := by decide +kernel
theorem dX10_go_232 : decode cX10_go 232 = .ok (.aload_n 0, 1) := by decide +kernel
theorem dX10_go_233 : decode cX10_go 233 = .ok (.iload_n 1, 1) := by decide +kernel
theorem dX10_go_234 : decode cX10_go 234 = .ok (.iload_n 2, 1) := by decide +kernel
theorem dX10_go_235 : decode cX10_go 235 = .ok (.iload 4, 2) := by decide +kernel
theorem dX10_go_237 : decode cX10_go 237 = .ok (.iload_n 3, 1) := by decide +kernel
theorem dX10_go_238 : decode cX10_go 238 = .ok (.invokevirtual 229, 3) := by decide +kernel
theorem dX10_go_241 : decode cX10_go 241 = .ok (.goto 12, 3) := by decide +kernel
theorem dX10_go_244 : decode cX10_go 244 = .ok (.aload_n 0, 1) := by decide +kernel
theorem dX10_go_245 : decode cX10_go 245 = .ok (.iload_n 1, 1) := by decide +kernel
theorem dX10_go_246 : decode cX10_go 246 = .ok (.iload_n 2, 1) := by decide +kernel
theorem dX10_go_247 : decode cX10_go 247 = .ok (.iload 4, 2) := by decide +kernel
theorem dX10_go_249 : decode cX10_go 249 = .ok (.iload_n 3, 1) := by decide +kernel
theorem dX10_go_250 : decode cX10_go 250 = .ok (.invokevirtual 232, 3) := by decide +kernel
theorem dX10_go_253 : decode cX10_go 253 = .ok (.return_, 1) := by decide +kernel
theorem dX10_goTexts_0 : decode cX10_goTexts 0 = .ok (.iload_n 2, 1) := by decide +kernel
theorem dX10_goTexts_1 : decode cX10_goTexts 1 = .ok (.bipush 18, 2) := by decide +kernel
theorem dX10_goTexts_3 : decode cX10_goTexts 3 = .ok (.if_icmp .ne 61, 3) := by decide +kernel
theorem dX10_goTexts_6 : decode cX10_goTexts 6 = .ok (.aload_n 0, 1) := by decide +kernel
theorem dX10_goTexts_7 : decode cX10_goTexts 7 = .ok (.getfield 138, 3) := by decide +kernel
theorem dX10_goTexts_10 : decode cX10_goTexts 10 = .ok (.aload_n 0, 1) := by decide +kernel
theorem dX10_goTexts_11 : decode cX10_goTexts 11 = .ok (.getfield 135, 3) := by decide +kernel
theorem dX10_goTexts_14 : decode cX10_goTexts 14 = .ok (.if_icmp .ne 12, 3) := by decide +kernel
theorem dX10_goTexts_17 : decode cX10_goTexts 17 = .ok (.aload_n 0, 1) := by decide +kernel
theorem dX10_goTexts_18 : decode cX10_goTexts 18 = .ok (.iload_n 1, 1) := by decide +kernel
theorem dX10_goTexts_19 : decode cX10_goTexts 19 = .ok (.iconst 3, 1) := by decide +kernel
theorem dX10_goTexts_20 : decode cX10_goTexts 20 = .ok (.invokevirtual 171, 3) := by decide +kernel
theorem dX10_goTexts_23 : decode cX10_goTexts 23 = .ok (.goto 115, 3) := by decide +kernel
theorem dX10_goTexts_26 : decode cX10_goTexts 26 = .ok (.aload_n 0, 1) := by decide +kernel
theorem dX10_goTexts_27 : decode cX10_goTexts 27 = .ok (.dup, 1) := by decide +kernel
theorem dX10_goTexts_28 : decode cX10_goTexts 28 = .ok (.getfield 138, 3) := by decide +kernel
theorem dX10_goTexts_31 : decode cX10_goTexts 31 = .ok (.iconst 1, 1) := by decide +kernel
theorem dX10_goTexts_32 : decode cX10_goTexts 32 = .ok (.iadd, 1) := by decide +kernel
theorem dX10_goTexts_33 : decode cX10_goTexts 33 = .ok (.putfield 138, 3) := by decide +kernel
theorem dX10_goTexts_36 : decode cX10_goTexts 36 = .ok (.aload_n 0, 1) := by decide +kernel
theorem dX10_goTexts_37 : decode cX10_goTexts 37 = .ok (.iload_n 1, 1) := by decide +kernel
theorem dX10_goTexts_38 : decode cX10_goTexts 38 = .ok (.invokevirtual 175, 3) := by decide +kernel
theorem dX10_goTexts_41 : decode cX10_goTexts 41 = .ok (.aload_n 0, 1) := by decide +kernel
theorem dX10_goTexts_42 : decode cX10_goTexts 42 = .ok (.iconst 0, 1) := by decide +kernel
theorem dX10_goTexts_43 : decode cX10_goTexts 43 = .ok (.aload_n 0, 1) := by decide +kernel
theorem dX10_goTexts_44 : decode cX10_goTexts 44 = .ok (.getfield 24, 3) := by decide +kernel
theorem dX10_goTexts_47 : decode cX10_goTexts 47 = .ok (.aload_n 0, 1) := by decide +kernel
theorem dX10_goTexts_48 : decode cX10_goTexts 48 = .ok (.getfield 138, 3) := by decide +kernel
theorem dX10_goTexts_51 : decode cX10_goTexts 51 = .ok (.iconst 1, 1) := by decide +kernel
theorem dX10_goTexts_52 : decode cX10_goTexts 52 = .ok (.isub, 1) := by decide +kernel
theorem dX10_goTexts_53 : decode cX10_goTexts 53 = .ok (.baload, 1) := by decide +kernel
theorem dX10_goTexts_54 : decode cX10_goTexts 54 = .ok (.sipush 255, 3) := by decide +kernel
theorem dX10_goTexts_57 : decode cX10_goTexts 57 = .ok (.iand, 1) := by decide +kernel
theorem dX10_goTexts_58 : decode cX10_goTexts 58 = .ok (.invokevirtual 179, 3) := by decide +kernel
theorem dX10_goTexts_61 : decode cX10_goTexts 61 = .ok (.goto 77, 3) := by decide +kernel
theorem dX10_goTexts_64 : decode cX10_goTexts 64 = .ok (.iload_n 3, 1) := by decide +kernel
theorem dX10_goTexts_65 : decode cX10_goTexts 65 = .ok (.ifCond .ne 16, 3) := by decide +kernel
theorem dX10_goTexts_68 : decode cX10_goTexts 68 = .ok (.aload_n 0, 1) := by decide +kernel
theorem dX10_goTexts_69 : decode cX10_goTexts 69 = .ok (.aload_n 0, 1) := by decide +kernel
theorem dX10_goTexts_70 : decode cX10_goTexts 70 = .ok (.getfield 33, 3) := by decide +kernel
theorem dX10_goTexts_73 : decode cX10_goTexts 73 = .ok (.iload_n 1, 1) := by decide +kernel
theorem dX10_goTexts_74 : decode cX10_goTexts 74 = .ok (.iaload, 1) := by decide +kernel
theorem dX10_goTexts_75 : decode cX10_goTexts 75 = .ok (.invokevirtual 209, 3) := by decide +kernel
theorem dX10_goTexts_78 : decode cX10_goTexts 78 = .ok (.goto 60, 3) := by decide +kernel
theorem dX10_goTexts_81 : decode cX10_goTexts 81 = .ok (.aload_n 0, 1) := by decide +kernel
theorem dX10_goTexts_82 : decode cX10_goTexts 82 = .ok (.iload_n 1, 1) := by decide +kernel
theorem dX10_goTexts_83 : decode cX10_goTexts 83 = .ok (.iconst 0, 1) := by decide +kernel
theorem dX10_goTexts_84 : decode cX10_goTexts 84 = .ok (.invokevirtual 235, 3) := by decide +kernel
theorem dX10_goTexts_87 : decode cX10_goTexts 87 = .ok (.ifCond .eq 51, 3) := by decide +kernel
theorem dX10_goTexts_90 : decode cX10_goTexts 90 = .ok (.aload_n 0, 1) := by decide +kernel
theorem dX10_goTexts_91 : decode cX10_goTexts 91 = .ok (.getfield 152, 3) := by decide +kernel
theorem dX10_goTexts_94 : decode cX10_goTexts 94 = .ok (.sipush 200, 3) := by decide +kernel
theorem dX10_goTexts_97 : decode cX10_goTexts 97 = .ok (.if_icmp .ge 17, 3) := by decide +kernel
theorem dX10_goTexts_100 : decode cX10_goTexts 100 = .ok (.aload_n 0, 1) := by decide +kernel
theorem dX10_goTexts_101 : decode cX10_goTexts 101 = .ok (.getfield 27, 3) := by decide +kernel
theorem dX10_goTexts_104 : decode cX10_goTexts 104 = .ok (.aload_n 0, 1) := by decide +kernel
theorem dX10_goTexts_105 : decode cX10_goTexts 105 = .ok (.getfield 152, 3) := by decide +kernel
theorem dX10_goTexts_108 : decode cX10_goTexts 108 = .ok (.aload_n 0, 1) := by decide +kernel
theorem dX10_goTexts_109 : decode cX10_goTexts 109 = .ok (.getfield 185, 3) := by decide +kernel
theorem dX10_goTexts_112 : decode cX10_goTexts 112 = .ok (.i2b, 1) := by decide +kernel
theorem dX10_goTexts_113 : decode cX10_goTexts 113 = .ok (.bastore, 1) := by decide +kernel
theorem dX10_goTexts_114 : decode cX10_goTexts 114 = .ok (.aload_n 0, 1) := by decide +kernel
theorem dX10_goTexts_115 : decode cX10_goTexts 115 = .ok (.dup, 1) := by decide +kernel
theorem dX10_goTexts_116 : decode cX10_goTexts 116 = .ok (.getfield 152, 3) := by decide +kernel
theorem dX10_goTexts_119 : decode cX10_goTexts 119 = .ok (.iconst 1, 1) := by decide +kernel
theorem dX10_goTexts_120 : decode cX10_goTexts 120 = .ok (.iadd, 1) := by decide +kernel
theorem dX10_goTexts_121 : decode cX10_goTexts 121 = .ok (.putfield 152, 3) := by decide +kernel
theorem dX10_goTexts_124 : decode cX10_goTexts 124 = .ok (.aload_n 0, 1) := by decide +kernel
theorem dX10_goTexts_125 : decode cX10_goTexts 125 = .ok (.iload_n 1, 1) := by decide +kernel
theorem dX10_goTexts_126 : decode cX10_goTexts 126 = .ok (.invokevirtual 175, 3) := by decide +kernel
theorem dX10_goTexts_129 : decode cX10_goTexts 129 = .ok (.aload_n 0, 1) := by decide +kernel
theorem dX10_goTexts_130 : decode cX10_goTexts 130 = .ok (.iconst 0, 1) := by decide +kernel
theorem dX10_goTexts_131 : decode cX10_goTexts 131 = .ok (.aload_n 0, 1) := by decide +kernel
theorem dX10_goTexts_132 : decode cX10_goTexts 132 = .ok (.getfield 152, 3) := by decide +kernel
theorem dX10_goTexts_135 : decode cX10_goTexts 135 = .ok (.invokevirtual 179, 3) := by decide +kernel
theorem dX10_goTexts_138 : decode cX10_goTexts 138 = .ok (.return_, 1) := by decide +kernel
theorem dX10_goPlain_0 : decode cX10_goPlain 0 = .ok (.iload 4, 2) := by decide +kernel
theorem dX10_goPlain_2 : decode cX10_goPlain 2 = .ok (.ifCond .ne 16, 3) := by decide +kernel
theorem dX10_goPlain_5 : decode cX10_goPlain 5 = .ok (.aload_n 0, 1) := by decide +kernel
theorem dX10_goPlain_6 : decode cX10_goPlain 6 = .ok (.aload_n 0, 1) := by decide +kernel
theorem dX10_goPlain_7 : decode cX10_goPlain 7 = .ok (.getfield 33, 3) := by decide +kernel
theorem dX10_goPlain_10 : decode cX10_goPlain 10 = .ok (.iload_n 2, 1) := by decide +kernel
theorem dX10_goPlain_11 : decode cX10_goPlain 11 = .ok (.iaload, 1) := by decide +kernel
theorem dX10_goPlain_12 : decode cX10_goPlain 12 = .ok (.invokevirtual 209, 3) := by decide +kernel
theorem dX10_goPlain_15 : decode cX10_goPlain 15 = .ok (.goto 202, 3) := by decide +kernel
theorem dX10_goPlain_18 : decode cX10_goPlain 18 = .ok (.iload_n 3, 1) := by decide +kernel
theorem dX10_goPlain_19 : decode cX10_goPlain 19 = .ok (.bipush 19, 2) := by decide +kernel
theorem dX10_goPlain_21 : decode cX10_goPlain 21 = .ok (.if_icmp .ne 35, 3) := by decide +kernel
theorem dX10_goPlain_24 : decode cX10_goPlain 24 = .ok (.iload 4, 2) := by decide +kernel
theorem dX10_goPlain_26 : decode cX10_goPlain 26 = .ok (.iconst 1, 1) := by decide +kernel
theorem dX10_goPlain_27 : decode cX10_goPlain 27 = .ok (.if_icmp .ne 16, 3) := by decide +kernel
theorem dX10_goPlain_30 : decode cX10_goPlain 30 = .ok (.aload_n 0, 1) := by decide +kernel
theorem dX10_goPlain_31 : decode cX10_goPlain 31 = .ok (.aload_n 0, 1) := by decide +kernel
theorem dX10_goPlain_32 : decode cX10_goPlain 32 = .ok (.getfield 36, 3) := by decide +kernel
theorem dX10_goPlain_35 : decode cX10_goPlain 35 = .ok (.iload_n 2, 1) := by decide +kernel
theorem dX10_goPlain_36 : decode cX10_goPlain 36 = .ok (.iaload, 1) := by decide +kernel
theorem dX10_goPlain_37 : decode cX10_goPlain 37 = .ok (.invokevirtual 209, 3) := by decide +kernel
theorem dX10_goPlain_40 : decode cX10_goPlain 40 = .ok (.goto 177, 3) := by decide +kernel
theorem dX10_goPlain_43 : decode cX10_goPlain 43 = .ok (.aload_n 0, 1) := by decide +kernel
theorem dX10_goPlain_44 : decode cX10_goPlain 44 = .ok (.dup, 1) := by decide +kernel
theorem dX10_goPlain_45 : decode cX10_goPlain 45 = .ok (.getfield 188, 3) := by decide +kernel
theorem dX10_goPlain_48 : decode cX10_goPlain 48 = .ok (.iconst 1, 1) := by decide +kernel
theorem dX10_goPlain_49 : decode cX10_goPlain 49 = .ok (.isub, 1) := by decide +kernel
theorem dX10_goPlain_50 : decode cX10_goPlain 50 = .ok (.putfield 188, 3) := by decide +kernel
theorem dX10_goPlain_53 : decode cX10_goPlain 53 = .ok (.goto 164, 3) := by decide +kernel
theorem dX10_goPlain_56 : decode cX10_goPlain 56 = .ok (.iload_n 3, 1) := by decide +kernel
theorem dX10_goPlain_57 : decode cX10_goPlain 57 = .ok (.bipush 20, 2) := by decide +kernel
theorem dX10_goPlain_59 : decode cX10_goPlain 59 = .ok (.if_icmp .ne 60, 3) := by decide +kernel
theorem dX10_goPlain_62 : decode cX10_goPlain 62 = .ok (.iload 4, 2) := by decide +kernel
theorem dX10_goPlain_64 : decode cX10_goPlain 64 = .ok (.iconst 2, 1) := by decide +kernel
theorem dX10_goPlain_65 : decode cX10_goPlain 65 = .ok (.if_icmp .ne 16, 3) := by decide +kernel
theorem dX10_goPlain_68 : decode cX10_goPlain 68 = .ok (.aload_n 0, 1) := by decide +kernel
theorem dX10_goPlain_69 : decode cX10_goPlain 69 = .ok (.dup, 1) := by decide +kernel
theorem dX10_goPlain_70 : decode cX10_goPlain 70 = .ok (.getfield 188, 3) := by decide +kernel
theorem dX10_goPlain_73 : decode cX10_goPlain 73 = .ok (.iconst 1, 1) := by decide +kernel
theorem dX10_goPlain_74 : decode cX10_goPlain 74 = .ok (.isub, 1) := by decide +kernel
theorem dX10_goPlain_75 : decode cX10_goPlain 75 = .ok (.putfield 188, 3) := by decide +kernel
theorem dX10_goPlain_78 : decode cX10_goPlain 78 = .ok (.goto 139, 3) := by decide +kernel
theorem dX10_goPlain_81 : decode cX10_goPlain 81 = .ok (.aload_n 0, 1) := by decide +kernel
theorem dX10_goPlain_82 : decode cX10_goPlain 82 = .ok (.iload_n 2, 1) := by decide +kernel
theorem dX10_goPlain_83 : decode cX10_goPlain 83 = .ok (.iconst 0, 1) := by decide +kernel
theorem dX10_goPlain_84 : decode cX10_goPlain 84 = .ok (.invokevirtual 235, 3) := by decide +kernel
theorem dX10_goPlain_87 : decode cX10_goPlain 87 = .ok (.ifCond .eq 130, 3) := by decide +kernel
theorem dX10_goPlain_90 : decode cX10_goPlain 90 = .ok (.aload_n 0, 1) := by decide +kernel
theorem dX10_goPlain_91 : decode cX10_goPlain 91 = .ok (.aload_n 0, 1) := by decide +kernel
theorem dX10_goPlain_92 : decode cX10_goPlain 92 = .ok (.getfield 185, 3) := by decide +kernel
theorem dX10_goPlain_95 : decode cX10_goPlain 95 = .ok (.ifCond .eq 12, 3) := by decide +kernel
theorem dX10_goPlain_98 : decode cX10_goPlain 98 = .ok (.aload_n 0, 1) := by decide +kernel
theorem dX10_goPlain_99 : decode cX10_goPlain 99 = .ok (.getfield 36, 3) := by decide +kernel
theorem dX10_goPlain_102 : decode cX10_goPlain 102 = .ok (.iload_n 2, 1) := by decide +kernel
theorem dX10_goPlain_103 : decode cX10_goPlain 103 = .ok (.iaload, 1) := by decide +kernel
theorem dX10_goPlain_104 : decode cX10_goPlain 104 = .ok (.goto 9, 3) := by decide +kernel
theorem dX10_goPlain_107 : decode cX10_goPlain 107 = .ok (.aload_n 0, 1) := by decide +kernel
theorem dX10_goPlain_108 : decode cX10_goPlain 108 = .ok (.getfield 39, 3) := by decide +kernel
theorem dX10_goPlain_111 : decode cX10_goPlain 111 = .ok (.iload_n 2, 1) := by decide +kernel
theorem dX10_goPlain_112 : decode cX10_goPlain 112 = .ok (.iaload, 1) := by decide +kernel
theorem dX10_goPlain_113 : decode cX10_goPlain 113 = .ok (.invokevirtual 209, 3) := by decide +kernel
theorem dX10_goPlain_116 : decode cX10_goPlain 116 = .ok (.goto 101, 3) := by decide +kernel
theorem dX10_goPlain_119 : decode cX10_goPlain 119 = .ok (.iload_n 3, 1) := by decide +kernel
theorem dX10_goPlain_120 : decode cX10_goPlain 120 = .ok (.bipush 23, 2) := by decide +kernel
theorem dX10_goPlain_122 : decode cX10_goPlain 122 = .ok (.if_icmp .ne 14, 3) := by decide +kernel
theorem dX10_goPlain_125 : decode cX10_goPlain 125 = .ok (.aload_n 0, 1) := by decide +kernel
theorem dX10_goPlain_126 : decode cX10_goPlain 126 = .ok (.iload_n 1, 1) := by decide +kernel
theorem dX10_goPlain_127 : decode cX10_goPlain 127 = .ok (.iload_n 2, 1) := by decide +kernel
theorem dX10_goPlain_128 : decode cX10_goPlain 128 = .ok (.iload 4, 2) := by decide +kernel
theorem dX10_goPlain_130 : decode cX10_goPlain 130 = .ok (.invokevirtual 239, 3) := by decide +kernel
theorem dX10_goPlain_133 : decode cX10_goPlain 133 = .ok (.goto 84, 3) := by decide +kernel
theorem dX10_goPlain_136 : decode cX10_goPlain 136 = .ok (.aload_n 0, 1) := by decide +kernel
theorem dX10_goPlain_137 : decode cX10_goPlain 137 = .ok (.iload_n 2, 1) := by decide +kernel
theorem dX10_goPlain_138 : decode cX10_goPlain 138 = .ok (.iconst 0, 1) := by decide +kernel
theorem dX10_goPlain_139 : decode cX10_goPlain 139 = .ok (.invokevirtual 235, 3) := by decide +kernel
theorem dX10_goPlain_142 : decode cX10_goPlain 142 = .ok (.ifCond .eq 75, 3) := by decide +kernel
theorem dX10_goPlain_145 : decode cX10_goPlain 145 = .ok (.iload 4, 2) := by decide +kernel
theorem dX10_goPlain_147 : decode cX10_goPlain 147 = .ok (.iconst 1, 1) := by decide +kernel
theorem dX10_goPlain_148 : decode cX10_goPlain 148 = .ok (.if_icmp .ne 26, 3) := by decide +kernel
theorem dX10_goPlain_151 : decode cX10_goPlain 151 = .ok (.aload_n 0, 1) := by decide +kernel
theorem dX10_goPlain_152 : decode cX10_goPlain 152 = .ok (.getfield 106, 3) := by decide +kernel
theorem dX10_goPlain_155 : decode cX10_goPlain 155 = .ok (.iload_n 1, 1) := by decide +kernel
theorem dX10_goPlain_156 : decode cX10_goPlain 156 = .ok (.aload_n 0, 1) := by decide +kernel
theorem dX10_goPlain_157 : decode cX10_goPlain 157 = .ok (.getfield 185, 3) := by decide +kernel
theorem dX10_goPlain_160 : decode cX10_goPlain 160 = .ok (.iastore, 1) := by decide +kernel
theorem dX10_goPlain_161 : decode cX10_goPlain 161 = .ok (.aload_n 0, 1) := by decide +kernel
theorem dX10_goPlain_162 : decode cX10_goPlain 162 = .ok (.aload_n 0, 1) := by decide +kernel
theorem dX10_goPlain_163 : decode cX10_goPlain 163 = .ok (.getfield 36, 3) := by decide +kernel
theorem dX10_goPlain_166 : decode cX10_goPlain 166 = .ok (.iload_n 2, 1) := by decide +kernel
theorem dX10_goPlain_167 : decode cX10_goPlain 167 = .ok (.iaload, 1) := by decide +kernel
theorem dX10_goPlain_168 : decode cX10_goPlain 168 = .ok (.invokevirtual 209, 3) := by decide +kernel
theorem dX10_goPlain_171 : decode cX10_goPlain 171 = .ok (.goto 46, 3) := by decide +kernel
theorem dX10_goPlain_174 : decode cX10_goPlain 174 = .ok (.aload_n 0, 1) := by decide +kernel
theorem dX10_goPlain_175 : decode cX10_goPlain 175 = .ok (.iconst 0, 1) := by decide +kernel
theorem dX10_goPlain_176 : decode cX10_goPlain 176 = .ok (.iload_n 3, 1) := by decide +kernel
theorem dX10_goPlain_177 : decode cX10_goPlain 177 = .ok (.bipush 22, 2) := by decide +kernel
theorem dX10_goPlain_179 : decode cX10_goPlain 179 = .ok (.if_icmp .ne 17, 3) := by decide +kernel
theorem dX10_goPlain_182 : decode cX10_goPlain 182 = .ok (.aload_n 0, 1) := by decide +kernel
theorem dX10_goPlain_183 : decode cX10_goPlain 183 = .ok (.getfield 106, 3) := by decide +kernel
theorem dX10_goPlain_186 : decode cX10_goPlain 186 = .ok (.iload_n 1, 1) := by decide +kernel
theorem dX10_goPlain_187 : decode cX10_goPlain 187 = .ok (.iaload, 1) := by decide +kernel
theorem dX10_goPlain_188 : decode cX10_goPlain 188 = .ok (.aload_n 0, 1) := by decide +kernel
theorem dX10_goPlain_189 : decode cX10_goPlain 189 = .ok (.getfield 185, 3) := by decide +kernel
theorem dX10_goPlain_192 : decode cX10_goPlain 192 = .ok (.iadd, 1) := by decide +kernel
theorem dX10_goPlain_193 : decode cX10_goPlain 193 = .ok (.goto 21, 3) := by decide +kernel
theorem dX10_goPlain_196 : decode cX10_goPlain 196 = .ok (.aload_n 0, 1) := by decide +kernel
theorem dX10_goPlain_197 : decode cX10_goPlain 197 = .ok (.getfield 106, 3) := by decide +kernel
theorem dX10_goPlain_200 : decode cX10_goPlain 200 = .ok (.iload_n 1, 1) := by decide +kernel
theorem dX10_goPlain_201 : decode cX10_goPlain 201 = .ok (.iaload, 1) := by decide +kernel
theorem dX10_goPlain_202 : decode cX10_goPlain 202 = .ok (.aload_n 0, 1) := by decide +kernel
theorem dX10_goPlain_203 : decode cX10_goPlain 203 = .ok (.getfield 185, 3) := by decide +kernel
theorem dX10_goPlain_206 : decode cX10_goPlain 206 = .ok (.if_icmp .ge 7, 3) := by decide +kernel
theorem dX10_goPlain_209 : decode cX10_goPlain 209 = .ok (.iconst 1, 1) := by decide +kernel
theorem dX10_goPlain_210 : decode cX10_goPlain 210 = .ok (.goto 4, 3) := by decide +kernel
theorem dX10_goPlain_213 : decode cX10_goPlain 213 = .ok (.iconst 0, 1) := by decide +kernel
theorem dX10_goPlain_214 : decode cX10_goPlain 214 = .ok (.invokevirtual 179, 3) := by decide +kernel
theorem dX10_goPlain_217 : decode cX10_goPlain 217 = .ok (.return_, 1) := by decide +kernel
theorem dX10_goTimes_0 : decode cX10_goTimes 0 = .ok (.iload_n 3, 1) := by decide +kernel
theorem dX10_goTimes_1 : decode cX10_goTimes 1 = .ok (.iconst 1, 1) := by decide +kernel
theorem dX10_goTimes_2 : decode cX10_goTimes 2 = .ok (.if_icmp .ne 23, 3) := by decide +kernel
theorem dX10_goTimes_5 : decode cX10_goTimes 5 = .ok (.aload_n 0, 1) := by decide +kernel
theorem dX10_goTimes_6 : decode cX10_goTimes 6 = .ok (.iload_n 2, 1) := by decide +kernel
theorem dX10_goTimes_7 : decode cX10_goTimes 7 = .ok (.iconst 0, 1) := by decide +kernel
theorem dX10_goTimes_8 : decode cX10_goTimes 8 = .ok (.invokevirtual 235, 3) := by decide +kernel
theorem dX10_goTimes_11 : decode cX10_goTimes 11 = .ok (.ifCond .ne 4, 3) := by decide +kernel
theorem dX10_goTimes_14 : decode cX10_goTimes 14 = .ok (.return_, 1) := by decide +kernel
theorem dX10_goTimes_15 : decode cX10_goTimes 15 = .ok (.aload_n 0, 1) := by decide +kernel
theorem dX10_goTimes_16 : decode cX10_goTimes 16 = .ok (.getfield 106, 3) := by decide +kernel
theorem dX10_goTimes_19 : decode cX10_goTimes 19 = .ok (.iload_n 1, 1) := by decide +kernel
theorem dX10_goTimes_20 : decode cX10_goTimes 20 = .ok (.aload_n 0, 1) := by decide +kernel
theorem dX10_goTimes_21 : decode cX10_goTimes 21 = .ok (.getfield 185, 3) := by decide +kernel
theorem dX10_goTimes_24 : decode cX10_goTimes 24 = .ok (.iastore, 1) := by decide +kernel
theorem dX10_goTimes_25 : decode cX10_goTimes 25 = .ok (.aload_n 0, 1) := by decide +kernel
theorem dX10_goTimes_26 : decode cX10_goTimes 26 = .ok (.getfield 106, 3) := by decide +kernel
theorem dX10_goTimes_29 : decode cX10_goTimes 29 = .ok (.iload_n 1, 1) := by decide +kernel
theorem dX10_goTimes_30 : decode cX10_goTimes 30 = .ok (.iaload, 1) := by decide +kernel
theorem dX10_goTimes_31 : decode cX10_goTimes 31 = .ok (.ifCond .le 26, 3) := by decide +kernel
theorem dX10_goTimes_34 : decode cX10_goTimes 34 = .ok (.aload_n 0, 1) := by decide +kernel
theorem dX10_goTimes_35 : decode cX10_goTimes 35 = .ok (.getfield 106, 3) := by decide +kernel
theorem dX10_goTimes_38 : decode cX10_goTimes 38 = .ok (.iload_n 1, 1) := by decide +kernel
theorem dX10_goTimes_39 : decode cX10_goTimes 39 = .ok (.dup2, 1) := by decide +kernel
theorem dX10_goTimes_40 : decode cX10_goTimes 40 = .ok (.iaload, 1) := by decide +kernel
theorem dX10_goTimes_41 : decode cX10_goTimes 41 = .ok (.iconst 1, 1) := by decide +kernel
theorem dX10_goTimes_42 : decode cX10_goTimes 42 = .ok (.isub, 1) := by decide +kernel
theorem dX10_goTimes_43 : decode cX10_goTimes 43 = .ok (.iastore, 1) := by decide +kernel
theorem dX10_goTimes_44 : decode cX10_goTimes 44 = .ok (.aload_n 0, 1) := by decide +kernel
theorem dX10_goTimes_45 : decode cX10_goTimes 45 = .ok (.aload_n 0, 1) := by decide +kernel
theorem dX10_goTimes_46 : decode cX10_goTimes 46 = .ok (.getfield 36, 3) := by decide +kernel
theorem dX10_goTimes_49 : decode cX10_goTimes 49 = .ok (.iload_n 2, 1) := by decide +kernel
theorem dX10_goTimes_50 : decode cX10_goTimes 50 = .ok (.iaload, 1) := by decide +kernel
theorem dX10_goTimes_51 : decode cX10_goTimes 51 = .ok (.invokevirtual 209, 3) := by decide +kernel
theorem dX10_goTimes_54 : decode cX10_goTimes 54 = .ok (.goto 9, 3) := by decide +kernel
theorem dX10_goTimes_57 : decode cX10_goTimes 57 = .ok (.aload_n 0, 1) := by decide +kernel
theorem dX10_goTimes_58 : decode cX10_goTimes 58 = .ok (.iconst 0, 1) := by decide +kernel
theorem dX10_goTimes_59 : decode cX10_goTimes 59 = .ok (.iconst 0, 1) := by decide +kernel
theorem dX10_goTimes_60 : decode cX10_goTimes 60 = .ok (.invokevirtual 179, 3) := by decide +kernel
theorem dX10_goTimes_63 : decode cX10_goTimes 63 = .ok (.return_, 1) := by decide +kernel
theorem dX10_goHandles_0 : decode cX10_goHandles 0 = .ok (.iload_n 3, 1) := by decide +kernel
theorem dX10_goHandles_1 : decode cX10_goHandles 1 = .ok (.iconst 5, 1) := by decide +kernel
theorem dX10_goHandles_2 : decode cX10_goHandles 2 = .ok (.if_icmp .eq 15, 3) := by decide +kernel
theorem dX10_goHandles_5 : decode cX10_goHandles 5 = .ok (.iload_n 3, 1) := by decide +kernel
theorem dX10_goHandles_6 : decode cX10_goHandles 6 = .ok (.bipush 8, 2) := by decide +kernel
theorem dX10_goHandles_8 : decode cX10_goHandles 8 = .ok (.if_icmp .eq 9, 3) := by decide +kernel
theorem dX10_goHandles_11 : decode cX10_goHandles 11 = .ok (.iload_n 3, 1) := by decide +kernel
theorem dX10_goHandles_12 : decode cX10_goHandles 12 = .ok (.bipush 10, 2) := by decide +kernel
theorem dX10_goHandles_14 : decode cX10_goHandles 14 = .ok (.if_icmp .ne 7, 3) := by decide +kernel
theorem dX10_goHandles_17 : decode cX10_goHandles 17 = .ok (.iconst 1, 1) := by decide +kernel
theorem dX10_goHandles_18 : decode cX10_goHandles 18 = .ok (.goto 4, 3) := by decide +kernel
theorem dX10_goHandles_21 : decode cX10_goHandles 21 = .ok (.iconst 0, 1) := by decide +kernel
theorem dX10_goHandles_22 : decode cX10_goHandles 22 = .ok (.istore 5, 2) := by decide +kernel
theorem dX10_goHandles_24 : decode cX10_goHandles 24 = .ok (.iload 4, 2) := by decide +kernel
theorem dX10_goHandles_26 : decode cX10_goHandles 26 = .ok (.ifCond .ne 14, 3) := by decide +kernel
theorem dX10_goHandles_29 : decode cX10_goHandles 29 = .ok (.aload_n 0, 1) := by decide +kernel
theorem dX10_goHandles_30 : decode cX10_goHandles 30 = .ok (.aload_n 0, 1) := by decide +kernel
theorem dX10_goHandles_31 : decode cX10_goHandles 31 = .ok (.getfield 33, 3) := by decide +kernel
theorem dX10_goHandles_34 : decode cX10_goHandles 34 = .ok (.iload_n 2, 1) := by decide +kernel
theorem dX10_goHandles_35 : decode cX10_goHandles 35 = .ok (.iaload, 1) := by decide +kernel
theorem dX10_goHandles_36 : decode cX10_goHandles 36 = .ok (.invokevirtual 209, 3) := by decide +kernel
theorem dX10_goHandles_39 : decode cX10_goHandles 39 = .ok (.return_, 1) := by decide +kernel
theorem dX10_goHandles_40 : decode cX10_goHandles 40 = .ok (.iload 4, 2) := by decide +kernel
theorem dX10_goHandles_42 : decode cX10_goHandles 42 = .ok (.iconst 1, 1) := by decide +kernel
theorem dX10_goHandles_43 : decode cX10_goHandles 43 = .ok (.if_icmp .ne 48, 3) := by decide +kernel
theorem dX10_goHandles_46 : decode cX10_goHandles 46 = .ok (.iload 5, 2) := by decide +kernel
theorem dX10_goHandles_48 : decode cX10_goHandles 48 = .ok (.ifCond .eq 43, 3) := by decide +kernel
theorem dX10_goHandles_51 : decode cX10_goHandles 51 = .ok (.aload_n 0, 1) := by decide +kernel
theorem dX10_goHandles_52 : decode cX10_goHandles 52 = .ok (.iload_n 2, 1) := by decide +kernel
theorem dX10_goHandles_53 : decode cX10_goHandles 53 = .ok (.iload_n 3, 1) := by decide +kernel
theorem dX10_goHandles_54 : decode cX10_goHandles 54 = .ok (.bipush 8, 2) := by decide +kernel
theorem dX10_goHandles_56 : decode cX10_goHandles 56 = .ok (.if_icmp .ne 7, 3) := by decide +kernel
theorem dX10_goHandles_59 : decode cX10_goHandles 59 = .ok (.iconst 2, 1) := by decide +kernel
theorem dX10_goHandles_60 : decode cX10_goHandles 60 = .ok (.goto 4, 3) := by decide +kernel
theorem dX10_goHandles_63 : decode cX10_goHandles 63 = .ok (.iconst 1, 1) := by decide +kernel
theorem dX10_goHandles_64 : decode cX10_goHandles 64 = .ok (.invokevirtual 235, 3) := by decide +kernel
theorem dX10_goHandles_67 : decode cX10_goHandles 67 = .ok (.ifCond .eq 23, 3) := by decide +kernel
theorem dX10_goHandles_70 : decode cX10_goHandles 70 = .ok (.aload_n 0, 1) := by decide +kernel
theorem dX10_goHandles_71 : decode cX10_goHandles 71 = .ok (.getfield 106, 3) := by decide +kernel
theorem dX10_goHandles_74 : decode cX10_goHandles 74 = .ok (.iload_n 1, 1) := by decide +kernel
theorem dX10_goHandles_75 : decode cX10_goHandles 75 = .ok (.aload_n 0, 1) := by decide +kernel
theorem dX10_goHandles_76 : decode cX10_goHandles 76 = .ok (.getfield 185, 3) := by decide +kernel
theorem dX10_goHandles_79 : decode cX10_goHandles 79 = .ok (.iastore, 1) := by decide +kernel
theorem dX10_goHandles_80 : decode cX10_goHandles 80 = .ok (.aload_n 0, 1) := by decide +kernel
theorem dX10_goHandles_81 : decode cX10_goHandles 81 = .ok (.aload_n 0, 1) := by decide +kernel
theorem dX10_goHandles_82 : decode cX10_goHandles 82 = .ok (.getfield 36, 3) := by decide +kernel
theorem dX10_goHandles_85 : decode cX10_goHandles 85 = .ok (.iload_n 2, 1) := by decide +kernel
theorem dX10_goHandles_86 : decode cX10_goHandles 86 = .ok (.iaload, 1) := by decide +kernel
theorem dX10_goHandles_87 : decode cX10_goHandles 87 = .ok (.invokevirtual 209, 3) := by decide +kernel
theorem dX10_goHandles_90 : decode cX10_goHandles 90 = .ok (.return_, 1) := by decide +kernel
theorem dX10_goHandles_91 : decode cX10_goHandles 91 = .ok (.iload 5, 2) := by decide +kernel
theorem dX10_goHandles_93 : decode cX10_goHandles 93 = .ok (.ifCond .eq 29, 3) := by decide +kernel
theorem dX10_goHandles_96 : decode cX10_goHandles 96 = .ok (.aload_n 0, 1) := by decide +kernel
theorem dX10_goHandles_97 : decode cX10_goHandles 97 = .ok (.iload_n 2, 1) := by decide +kernel
theorem dX10_goHandles_98 : decode cX10_goHandles 98 = .ok (.iconst 0, 1) := by decide +kernel
theorem dX10_goHandles_99 : decode cX10_goHandles 99 = .ok (.invokevirtual 235, 3) := by decide +kernel
theorem dX10_goHandles_102 : decode cX10_goHandles 102 = .ok (.ifCond .eq 19, 3) := by decide +kernel
theorem dX10_goHandles_105 : decode cX10_goHandles 105 = .ok (.aload_n 0, 1) := by decide +kernel
theorem dX10_goHandles_106 : decode cX10_goHandles 106 = .ok (.iload_n 2, 1) := by decide +kernel
theorem dX10_goHandles_107 : decode cX10_goHandles 107 = .ok (.iload_n 3, 1) := by decide +kernel
theorem dX10_goHandles_108 : decode cX10_goHandles 108 = .ok (.aload_n 0, 1) := by decide +kernel
theorem dX10_goHandles_109 : decode cX10_goHandles 109 = .ok (.getfield 106, 3) := by decide +kernel
theorem dX10_goHandles_112 : decode cX10_goHandles 112 = .ok (.iload_n 1, 1) := by decide +kernel
theorem dX10_goHandles_113 : decode cX10_goHandles 113 = .ok (.iaload, 1) := by decide +kernel
theorem dX10_goHandles_114 : decode cX10_goHandles 114 = .ok (.aload_n 0, 1) := by decide +kernel
theorem dX10_goHandles_115 : decode cX10_goHandles 115 = .ok (.getfield 185, 3) := by decide +kernel
theorem dX10_goHandles_118 : decode cX10_goHandles 118 = .ok (.invokevirtual 242, 3) := by decide +kernel
theorem dX10_goHandles_121 : decode cX10_goHandles 121 = .ok (.return_, 1) := by decide +kernel
theorem dX10_goHandles_122 : decode cX10_goHandles 122 = .ok (.iload_n 3, 1) := by decide +kernel
theorem dX10_goHandles_123 : decode cX10_goHandles 123 = .ok (.bipush 9, 2) := by decide +kernel
theorem dX10_goHandles_125 : decode cX10_goHandles 125 = .ok (.if_icmp .ne 25, 3) := by decide +kernel
theorem dX10_goHandles_128 : decode cX10_goHandles 128 = .ok (.aload_n 0, 1) := by decide +kernel
theorem dX10_goHandles_129 : decode cX10_goHandles 129 = .ok (.iload_n 2, 1) := by decide +kernel
theorem dX10_goHandles_130 : decode cX10_goHandles 130 = .ok (.iconst 2, 1) := by decide +kernel
theorem dX10_goHandles_131 : decode cX10_goHandles 131 = .ok (.invokevirtual 235, 3) := by decide +kernel
theorem dX10_goHandles_134 : decode cX10_goHandles 134 = .ok (.ifCond .eq 15, 3) := by decide +kernel
theorem dX10_goHandles_137 : decode cX10_goHandles 137 = .ok (.aload_n 0, 1) := by decide +kernel
theorem dX10_goHandles_138 : decode cX10_goHandles 138 = .ok (.iload_n 2, 1) := by decide +kernel
theorem dX10_goHandles_139 : decode cX10_goHandles 139 = .ok (.aload_n 0, 1) := by decide +kernel
theorem dX10_goHandles_140 : decode cX10_goHandles 140 = .ok (.getfield 185, 3) := by decide +kernel
theorem dX10_goHandles_143 : decode cX10_goHandles 143 = .ok (.sipush 1000, 3) := by decide +kernel
theorem dX10_goHandles_146 : decode cX10_goHandles 146 = .ok (.invokevirtual 245, 3) := by decide +kernel
theorem dX10_goHandles_149 : decode cX10_goHandles 149 = .ok (.return_, 1) := by decide +kernel
theorem dX10_goHandles_150 : decode cX10_goHandles 150 = .ok (.aload_n 0, 1) := by decide +kernel
theorem dX10_goHandles_151 : decode cX10_goHandles 151 = .ok (.iload_n 2, 1) := by decide +kernel
theorem dX10_goHandles_152 : decode cX10_goHandles 152 = .ok (.iconst 1, 1) := by decide +kernel
theorem dX10_goHandles_153 : decode cX10_goHandles 153 = .ok (.invokevirtual 235, 3) := by decide +kernel
theorem dX10_goHandles_156 : decode cX10_goHandles 156 = .ok (.ifCond .ne 4, 3) := by decide +kernel
theorem dX10_goHandles_159 : decode cX10_goHandles 159 = .ok (.return_, 1) := by decide +kernel
theorem dX10_goHandles_160 : decode cX10_goHandles 160 = .ok (.aload_n 0, 1) := by decide +kernel
theorem dX10_goHandles_161 : decode cX10_goHandles 161 = .ok (.getfield 185, 3) := by decide +kernel
theorem dX10_goHandles_164 : decode cX10_goHandles 164 = .ok (.istore 6, 2) := by decide +kernel
theorem dX10_goHandles_166 : decode cX10_goHandles 166 = .ok (.iload_n 3, 1) := by decide +kernel
theorem dX10_goHandles_167 : decode cX10_goHandles 167 = .ok (.iconst 4, 1) := by decide +kernel
theorem dX10_goHandles_168 : decode cX10_goHandles 168 = .ok (.if_icmp .ne 13, 3) := by decide +kernel
theorem dX10_goHandles_171 : decode cX10_goHandles 171 = .ok (.aload_n 0, 1) := by decide +kernel
theorem dX10_goHandles_172 : decode cX10_goHandles 172 = .ok (.iload_n 2, 1) := by decide +kernel
theorem dX10_goHandles_173 : decode cX10_goHandles 173 = .ok (.iload 6, 2) := by decide +kernel
theorem dX10_goHandles_175 : decode cX10_goHandles 175 = .ok (.invokevirtual 248, 3) := by decide +kernel
theorem dX10_goHandles_178 : decode cX10_goHandles 178 = .ok (.goto 21, 3) := by decide +kernel
theorem dX10_goHandles_181 : decode cX10_goHandles 181 = .ok (.aload_n 0, 1) := by decide +kernel
theorem dX10_goHandles_182 : decode cX10_goHandles 182 = .ok (.iload_n 2, 1) := by decide +kernel
theorem dX10_goHandles_183 : decode cX10_goHandles 183 = .ok (.iload 6, 2) := by decide +kernel
theorem dX10_goHandles_185 : decode cX10_goHandles 185 = .ok (.invokevirtual 251, 3) := by decide +kernel
theorem dX10_goHandles_188 : decode cX10_goHandles 188 = .ok (.ifCond .eq 11, 3) := by decide +kernel
theorem dX10_goHandles_191 : decode cX10_goHandles 191 = .ok (.aload_n 0, 1) := by decide +kernel
theorem dX10_goHandles_192 : decode cX10_goHandles 192 = .ok (.iload_n 2, 1) := by decide +kernel
theorem dX10_goHandles_193 : decode cX10_goHandles 193 = .ok (.iload_n 3, 1) := by decide +kernel
theorem dX10_goHandles_194 : decode cX10_goHandles 194 = .ok (.iload 6, 2) := by decide +kernel
theorem dX10_goHandles_196 : decode cX10_goHandles 196 = .ok (.invokevirtual 254, 3) := by decide +kernel
theorem dX10_goHandles_199 : decode cX10_goHandles 199 = .ok (.return_, 1) := by decide +kernel
theorem dX10_pair_0 : decode cX10_pair 0 = .ok (.iload_n 2, 1) := by decide +kernel
theorem dX10_pair_1 : decode cX10_pair 1 = .ok (.bipush 8, 2) := by decide +kernel
theorem dX10_pair_3 : decode cX10_pair 3 = .ok (.if_icmp .ne 14, 3) := by decide +kernel
theorem dX10_pair_6 : decode cX10_pair 6 = .ok (.aload_n 0, 1) := by decide +kernel
theorem dX10_pair_7 : decode cX10_pair 7 = .ok (.iload_n 1, 1) := by decide +kernel
theorem dX10_pair_8 : decode cX10_pair 8 = .ok (.iload_n 3, 1) := by decide +kernel
theorem dX10_pair_9 : decode cX10_pair 9 = .ok (.iload 4, 2) := by decide +kernel
theorem dX10_pair_11 : decode cX10_pair 11 = .ok (.invokevirtual 245, 3) := by decide +kernel
theorem dX10_pair_14 : decode cX10_pair 14 = .ok (.goto 36, 3) := by decide +kernel
theorem dX10_pair_17 : decode cX10_pair 17 = .ok (.aload_n 0, 1) := by decide +kernel
theorem dX10_pair_18 : decode cX10_pair 18 = .ok (.iload_n 1, 1) := by decide +kernel
theorem dX10_pair_19 : decode cX10_pair 19 = .ok (.iload_n 3, 1) := by decide +kernel
theorem dX10_pair_20 : decode cX10_pair 20 = .ok (.invokevirtual 251, 3) := by decide +kernel
theorem dX10_pair_23 : decode cX10_pair 23 = .ok (.ifCond .eq 27, 3) := by decide +kernel
theorem dX10_pair_26 : decode cX10_pair 26 = .ok (.iload_n 2, 1) := by decide +kernel
theorem dX10_pair_27 : decode cX10_pair 27 = .ok (.iconst 5, 1) := by decide +kernel
theorem dX10_pair_28 : decode cX10_pair 28 = .ok (.if_icmp .ne 14, 3) := by decide +kernel
theorem dX10_pair_31 : decode cX10_pair 31 = .ok (.aload_n 0, 1) := by decide +kernel
theorem dX10_pair_32 : decode cX10_pair 32 = .ok (.iload_n 1, 1) := by decide +kernel
theorem dX10_pair_33 : decode cX10_pair 33 = .ok (.iload_n 3, 1) := by decide +kernel
theorem dX10_pair_34 : decode cX10_pair 34 = .ok (.iload 4, 2) := by decide +kernel
theorem dX10_pair_36 : decode cX10_pair 36 = .ok (.invokevirtual 257, 3) := by decide +kernel
theorem dX10_pair_39 : decode cX10_pair 39 = .ok (.goto 11, 3) := by decide +kernel
theorem dX10_pair_42 : decode cX10_pair 42 = .ok (.aload_n 0, 1) := by decide +kernel
theorem dX10_pair_43 : decode cX10_pair 43 = .ok (.iload_n 1, 1) := by decide +kernel
theorem dX10_pair_44 : decode cX10_pair 44 = .ok (.iload_n 3, 1) := by decide +kernel
theorem dX10_pair_45 : decode cX10_pair 45 = .ok (.iload 4, 2) := by decide +kernel
theorem dX10_pair_47 : decode cX10_pair 47 = .ok (.invokevirtual 260, 3) := by decide +kernel
theorem dX10_pair_50 : decode cX10_pair 50 = .ok (.return_, 1) := by decide +kernel
theorem dX10_close_0 : decode cX10_close 0 = .ok (.aload_n 0, 1) := by decide +kernel
theorem dX10_close_1 : decode cX10_close 1 = .ok (.getfield 57, 3) := by decide +kernel
theorem dX10_close_4 : decode cX10_close 4 = .ok (.iload_n 2, 1) := by decide +kernel
theorem dX10_close_5 : decode cX10_close 5 = .ok (.iaload, 1) := by decide +kernel
theorem dX10_close_6 : decode cX10_close 6 = .ok (.iconst 2, 1) := by decide +kernel
theorem dX10_close_7 : decode cX10_close 7 = .ok (.if_icmp .ne 10, 3) := by decide +kernel
theorem dX10_close_10 : decode cX10_close 10 = .ok (.aload_n 0, 1) := by decide +kernel
theorem dX10_close_11 : decode cX10_close 11 = .ok (.iconst 0, 1) := by decide +kernel
theorem dX10_close_12 : decode cX10_close 12 = .ok (.iconst 0, 1) := by decide +kernel
theorem dX10_close_13 : decode cX10_close 13 = .ok (.invokevirtual 179, 3) := by decide +kernel
theorem dX10_close_16 : decode cX10_close 16 = .ok (.return_, 1) := by decide +kernel
theorem dX10_close_17 : decode cX10_close 17 = .ok (.aload_n 0, 1) := by decide +kernel
theorem dX10_close_18 : decode cX10_close 18 = .ok (.getfield 57, 3) := by decide +kernel
theorem dX10_close_21 : decode cX10_close 21 = .ok (.iload_n 2, 1) := by decide +kernel
theorem dX10_close_22 : decode cX10_close 22 = .ok (.iaload, 1) := by decide +kernel
theorem dX10_close_23 : decode cX10_close 23 = .ok (.iconst 1, 1) := by decide +kernel
theorem dX10_close_24 : decode cX10_close 24 = .ok (.if_icmp .eq 11, 3) := by decide +kernel
theorem dX10_close_27 : decode cX10_close 27 = .ok (.aload_n 0, 1) := by decide +kernel
theorem dX10_close_28 : decode cX10_close 28 = .ok (.iload_n 2, 1) := by decide +kernel
theorem dX10_close_29 : decode cX10_close 29 = .ok (.invokevirtual 263, 3) := by decide +kernel
theorem dX10_close_32 : decode cX10_close 32 = .ok (.ifCond .eq 7, 3) := by decide +kernel
theorem dX10_close_35 : decode cX10_close 35 = .ok (.iconst 1, 1) := by decide +kernel
theorem dX10_close_36 : decode cX10_close 36 = .ok (.goto 4, 3) := by decide +kernel
theorem dX10_close_39 : decode cX10_close 39 = .ok (.iconst 0, 1) := by decide +kernel
theorem dX10_close_40 : decode cX10_close 40 = .ok (.istore_n 3, 1) := by decide +kernel
theorem dX10_close_41 : decode cX10_close 41 = .ok (.aload_n 0, 1) := by decide +kernel
theorem dX10_close_42 : decode cX10_close 42 = .ok (.getfield 57, 3) := by decide +kernel
theorem dX10_close_45 : decode cX10_close 45 = .ok (.iload_n 2, 1) := by decide +kernel
theorem dX10_close_46 : decode cX10_close 46 = .ok (.iconst 2, 1) := by decide +kernel
theorem dX10_close_47 : decode cX10_close 47 = .ok (.iastore, 1) := by decide +kernel
theorem dX10_close_48 : decode cX10_close 48 = .ok (.aload_n 0, 1) := by decide +kernel
theorem dX10_close_49 : decode cX10_close 49 = .ok (.iload_n 1, 1) := by decide +kernel
theorem dX10_close_50 : decode cX10_close 50 = .ok (.invokevirtual 175, 3) := by decide +kernel
theorem dX10_close_53 : decode cX10_close 53 = .ok (.iload_n 3, 1) := by decide +kernel
theorem dX10_close_54 : decode cX10_close 54 = .ok (.ifCond .eq 12, 3) := by decide +kernel
theorem dX10_close_57 : decode cX10_close 57 = .ok (.aload_n 0, 1) := by decide +kernel
theorem dX10_close_58 : decode cX10_close 58 = .ok (.iconst 0, 1) := by decide +kernel
theorem dX10_close_59 : decode cX10_close 59 = .ok (.iconst 0, 1) := by decide +kernel
theorem dX10_close_60 : decode cX10_close 60 = .ok (.invokevirtual 179, 3) := by decide +kernel
theorem dX10_close_63 : decode cX10_close 63 = .ok (.goto 9, 3) := by decide +kernel
theorem dX10_close_66 : decode cX10_close 66 = .ok (.aload_n 0, 1) := by decide +kernel
theorem dX10_close_67 : decode cX10_close 67 = .ok (.iload_n 1, 1) := by decide +kernel
theorem dX10_close_68 : decode cX10_close 68 = .ok (.iconst 5, 1) := by decide +kernel
theorem dX10_close_69 : decode cX10_close 69 = .ok (.invokevirtual 171, 3) := by decide +kernel
theorem dX10_close_72 : decode cX10_close 72 = .ok (.return_, 1) := by decide +kernel
theorem dX10_seek_0 : decode cX10_seek 0 = .ok (.aload_n 0, 1) := by decide +kernel
theorem dX10_seek_1 : decode cX10_seek 1 = .ok (.iload_n 2, 1) := by decide +kernel
theorem dX10_seek_2 : decode cX10_seek 2 = .ok (.invokevirtual 263, 3) := by decide +kernel
theorem dX10_seek_5 : decode cX10_seek 5 = .ok (.ifCond .ne 12, 3) := by decide +kernel
theorem dX10_seek_8 : decode cX10_seek 8 = .ok (.aload_n 0, 1) := by decide +kernel
theorem dX10_seek_9 : decode cX10_seek 9 = .ok (.iload_n 1, 1) := by decide +kernel
theorem dX10_seek_10 : decode cX10_seek 10 = .ok (.iconst 5, 1) := by decide +kernel
theorem dX10_seek_11 : decode cX10_seek 11 = .ok (.invokevirtual 171, 3) := by decide +kernel
theorem dX10_seek_14 : decode cX10_seek 14 = .ok (.goto 59, 3) := by decide +kernel
theorem dX10_seek_17 : decode cX10_seek 17 = .ok (.aload_n 0, 1) := by decide +kernel
theorem dX10_seek_18 : decode cX10_seek 18 = .ok (.getfield 51, 3) := by decide +kernel
theorem dX10_seek_21 : decode cX10_seek 21 = .ok (.iload_n 2, 1) := by decide +kernel
theorem dX10_seek_22 : decode cX10_seek 22 = .ok (.iaload, 1) := by decide +kernel
theorem dX10_seek_23 : decode cX10_seek 23 = .ok (.iconst 2, 1) := by decide +kernel
theorem dX10_seek_24 : decode cX10_seek 24 = .ok (.if_icmp .eq 22, 3) := by decide +kernel
theorem dX10_seek_27 : decode cX10_seek 27 = .ok (.iload_n 3, 1) := by decide +kernel
theorem dX10_seek_28 : decode cX10_seek 28 = .ok (.iconst 0, 1) := by decide +kernel
theorem dX10_seek_29 : decode cX10_seek 29 = .ok (.aload_n 0, 1) := by decide +kernel
theorem dX10_seek_30 : decode cX10_seek 30 = .ok (.getfield 13, 3) := by decide +kernel
theorem dX10_seek_33 : decode cX10_seek 33 = .ok (.aload_n 0, 1) := by decide +kernel
theorem dX10_seek_34 : decode cX10_seek 34 = .ok (.getfield 48, 3) := by decide +kernel
theorem dX10_seek_37 : decode cX10_seek 37 = .ok (.iload_n 2, 1) := by decide +kernel
theorem dX10_seek_38 : decode cX10_seek 38 = .ok (.iaload, 1) := by decide +kernel
theorem dX10_seek_39 : decode cX10_seek 39 = .ok (.iaload, 1) := by decide +kernel
theorem dX10_seek_40 : decode cX10_seek 40 = .ok (.invokestatic 127, 3) := by decide +kernel
theorem dX10_seek_43 : decode cX10_seek 43 = .ok (.ifCond .ne 12, 3) := by decide +kernel
theorem dX10_seek_46 : decode cX10_seek 46 = .ok (.aload_n 0, 1) := by decide +kernel
theorem dX10_seek_47 : decode cX10_seek 47 = .ok (.iload_n 1, 1) := by decide +kernel
theorem dX10_seek_48 : decode cX10_seek 48 = .ok (.iconst 4, 1) := by decide +kernel
theorem dX10_seek_49 : decode cX10_seek 49 = .ok (.invokevirtual 171, 3) := by decide +kernel
theorem dX10_seek_52 : decode cX10_seek 52 = .ok (.goto 21, 3) := by decide +kernel
theorem dX10_seek_55 : decode cX10_seek 55 = .ok (.aload_n 0, 1) := by decide +kernel
theorem dX10_seek_56 : decode cX10_seek 56 = .ok (.getfield 54, 3) := by decide +kernel
theorem dX10_seek_59 : decode cX10_seek 59 = .ok (.iload_n 2, 1) := by decide +kernel
theorem dX10_seek_60 : decode cX10_seek 60 = .ok (.iload_n 3, 1) := by decide +kernel
theorem dX10_seek_61 : decode cX10_seek 61 = .ok (.iastore, 1) := by decide +kernel
theorem dX10_seek_62 : decode cX10_seek 62 = .ok (.aload_n 0, 1) := by decide +kernel
theorem dX10_seek_63 : decode cX10_seek 63 = .ok (.iload_n 1, 1) := by decide +kernel
theorem dX10_seek_64 : decode cX10_seek 64 = .ok (.invokevirtual 175, 3) := by decide +kernel
theorem dX10_seek_67 : decode cX10_seek 67 = .ok (.aload_n 0, 1) := by decide +kernel
theorem dX10_seek_68 : decode cX10_seek 68 = .ok (.iconst 0, 1) := by decide +kernel
theorem dX10_seek_69 : decode cX10_seek 69 = .ok (.iconst 0, 1) := by decide +kernel
theorem dX10_seek_70 : decode cX10_seek 70 = .ok (.invokevirtual 179, 3) := by decide +kernel
theorem dX10_seek_73 : decode cX10_seek 73 = .ok (.return_, 1) := by decide +kernel
theorem dX10_putByte_0 : decode cX10_putByte 0 = .ok (.aload_n 0, 1) := by decide +kernel
theorem dX10_putByte_1 : decode cX10_putByte 1 = .ok (.getfield 51, 3) := by decide +kernel
theorem dX10_putByte_4 : decode cX10_putByte 4 = .ok (.iload_n 2, 1) := by decide +kernel
theorem dX10_putByte_5 : decode cX10_putByte 5 = .ok (.iaload, 1) := by decide +kernel
theorem dX10_putByte_6 : decode cX10_putByte 6 = .ok (.ifCond .ne 10, 3) := by decide +kernel
theorem dX10_putByte_9 : decode cX10_putByte 9 = .ok (.aload_n 0, 1) := by decide +kernel
theorem dX10_putByte_10 : decode cX10_putByte 10 = .ok (.iload_n 1, 1) := by decide +kernel
theorem dX10_putByte_11 : decode cX10_putByte 11 = .ok (.iconst 4, 1) := by decide +kernel
theorem dX10_putByte_12 : decode cX10_putByte 12 = .ok (.invokevirtual 171, 3) := by decide +kernel
theorem dX10_putByte_15 : decode cX10_putByte 15 = .ok (.return_, 1) := by decide +kernel
theorem dX10_putByte_16 : decode cX10_putByte 16 = .ok (.aload_n 0, 1) := by decide +kernel
theorem dX10_putByte_17 : decode cX10_putByte 17 = .ok (.getfield 69, 3) := by decide +kernel
theorem dX10_putByte_20 : decode cX10_putByte 20 = .ok (.bipush 20, 2) := by decide +kernel
theorem dX10_putByte_22 : decode cX10_putByte 22 = .ok (.iload_n 2, 1) := by decide +kernel
theorem dX10_putByte_23 : decode cX10_putByte 23 = .ok (.imul, 1) := by decide +kernel
theorem dX10_putByte_24 : decode cX10_putByte 24 = .ok (.aload_n 0, 1) := by decide +kernel
theorem dX10_putByte_25 : decode cX10_putByte 25 = .ok (.getfield 66, 3) := by decide +kernel
theorem dX10_putByte_28 : decode cX10_putByte 28 = .ok (.iload_n 2, 1) := by decide +kernel
theorem dX10_putByte_29 : decode cX10_putByte 29 = .ok (.iaload, 1) := by decide +kernel
theorem dX10_putByte_30 : decode cX10_putByte 30 = .ok (.iadd, 1) := by decide +kernel
theorem dX10_putByte_31 : decode cX10_putByte 31 = .ok (.iload_n 3, 1) := by decide +kernel
theorem dX10_putByte_32 : decode cX10_putByte 32 = .ok (.i2b, 1) := by decide +kernel
theorem dX10_putByte_33 : decode cX10_putByte 33 = .ok (.bastore, 1) := by decide +kernel
theorem dX10_putByte_34 : decode cX10_putByte 34 = .ok (.aload_n 0, 1) := by decide +kernel
theorem dX10_putByte_35 : decode cX10_putByte 35 = .ok (.getfield 66, 3) := by decide +kernel
theorem dX10_putByte_38 : decode cX10_putByte 38 = .ok (.iload_n 2, 1) := by decide +kernel
theorem dX10_putByte_39 : decode cX10_putByte 39 = .ok (.dup2, 1) := by decide +kernel
theorem dX10_putByte_40 : decode cX10_putByte 40 = .ok (.iaload, 1) := by decide +kernel
theorem dX10_putByte_41 : decode cX10_putByte 41 = .ok (.iconst 1, 1) := by decide +kernel
theorem dX10_putByte_42 : decode cX10_putByte 42 = .ok (.iadd, 1) := by decide +kernel
theorem dX10_putByte_43 : decode cX10_putByte 43 = .ok (.iastore, 1) := by decide +kernel
theorem dX10_putByte_44 : decode cX10_putByte 44 = .ok (.aload_n 0, 1) := by decide +kernel
theorem dX10_putByte_45 : decode cX10_putByte 45 = .ok (.getfield 72, 3) := by decide +kernel
theorem dX10_putByte_48 : decode cX10_putByte 48 = .ok (.iload_n 2, 1) := by decide +kernel
theorem dX10_putByte_49 : decode cX10_putByte 49 = .ok (.dup2, 1) := by decide +kernel
theorem dX10_putByte_50 : decode cX10_putByte 50 = .ok (.iaload, 1) := by decide +kernel
theorem dX10_putByte_51 : decode cX10_putByte 51 = .ok (.iconst 1, 1) := by decide +kernel
theorem dX10_putByte_52 : decode cX10_putByte 52 = .ok (.iadd, 1) := by decide +kernel
theorem dX10_putByte_53 : decode cX10_putByte 53 = .ok (.iastore, 1) := by decide +kernel
theorem dX10_putByte_54 : decode cX10_putByte 54 = .ok (.aload_n 0, 1) := by decide +kernel
theorem dX10_putByte_55 : decode cX10_putByte 55 = .ok (.getfield 63, 3) := by decide +kernel
theorem dX10_putByte_58 : decode cX10_putByte 58 = .ok (.iload_n 2, 1) := by decide +kernel
theorem dX10_putByte_59 : decode cX10_putByte 59 = .ok (.iaload, 1) := by decide +kernel
theorem dX10_putByte_60 : decode cX10_putByte 60 = .ok (.istore 4, 2) := by decide +kernel
theorem dX10_putByte_62 : decode cX10_putByte 62 = .ok (.iload 4, 2) := by decide +kernel
theorem dX10_putByte_64 : decode cX10_putByte 64 = .ok (.ifCond .eq 47, 3) := by decide +kernel
theorem dX10_putByte_67 : decode cX10_putByte 67 = .ok (.iload 4, 2) := by decide +kernel
theorem dX10_putByte_69 : decode cX10_putByte 69 = .ok (.iconst 1, 1) := by decide +kernel
theorem dX10_putByte_70 : decode cX10_putByte 70 = .ok (.if_icmp .ne 24, 3) := by decide +kernel
theorem dX10_putByte_73 : decode cX10_putByte 73 = .ok (.iload_n 3, 1) := by decide +kernel
theorem dX10_putByte_74 : decode cX10_putByte 74 = .ok (.sipush 255, 3) := by decide +kernel
theorem dX10_putByte_77 : decode cX10_putByte 77 = .ok (.iand, 1) := by decide +kernel
theorem dX10_putByte_78 : decode cX10_putByte 78 = .ok (.bipush 10, 2) := by decide +kernel
theorem dX10_putByte_80 : decode cX10_putByte 80 = .ok (.if_icmp .eq 31, 3) := by decide +kernel
theorem dX10_putByte_83 : decode cX10_putByte 83 = .ok (.aload_n 0, 1) := by decide +kernel
theorem dX10_putByte_84 : decode cX10_putByte 84 = .ok (.getfield 66, 3) := by decide +kernel
theorem dX10_putByte_87 : decode cX10_putByte 87 = .ok (.iload_n 2, 1) := by decide +kernel
theorem dX10_putByte_88 : decode cX10_putByte 88 = .ok (.iaload, 1) := by decide +kernel
theorem dX10_putByte_89 : decode cX10_putByte 89 = .ok (.bipush 20, 2) := by decide +kernel
theorem dX10_putByte_91 : decode cX10_putByte 91 = .ok (.if_icmp .eq 20, 3) := by decide +kernel
theorem dX10_putByte_94 : decode cX10_putByte 94 = .ok (.iload 4, 2) := by decide +kernel
theorem dX10_putByte_96 : decode cX10_putByte 96 = .ok (.iconst 1, 1) := by decide +kernel
theorem dX10_putByte_97 : decode cX10_putByte 97 = .ok (.if_icmp .le 18, 3) := by decide +kernel
theorem dX10_putByte_100 : decode cX10_putByte 100 = .ok (.aload_n 0, 1) := by decide +kernel
theorem dX10_putByte_101 : decode cX10_putByte 101 = .ok (.getfield 66, 3) := by decide +kernel
theorem dX10_putByte_104 : decode cX10_putByte 104 = .ok (.iload_n 2, 1) := by decide +kernel
theorem dX10_putByte_105 : decode cX10_putByte 105 = .ok (.iaload, 1) := by decide +kernel
theorem dX10_putByte_106 : decode cX10_putByte 106 = .ok (.iload 4, 2) := by decide +kernel
theorem dX10_putByte_108 : decode cX10_putByte 108 = .ok (.if_icmp .ne 7, 3) := by decide +kernel
theorem dX10_putByte_111 : decode cX10_putByte 111 = .ok (.iconst 1, 1) := by decide +kernel
theorem dX10_putByte_112 : decode cX10_putByte 112 = .ok (.goto 4, 3) := by decide +kernel
theorem dX10_putByte_115 : decode cX10_putByte 115 = .ok (.iconst 0, 1) := by decide +kernel
theorem dX10_putByte_116 : decode cX10_putByte 116 = .ok (.istore 5, 2) := by decide +kernel
theorem dX10_putByte_118 : decode cX10_putByte 118 = .ok (.iload 5, 2) := by decide +kernel
theorem dX10_putByte_120 : decode cX10_putByte 120 = .ok (.ifCond .eq 11, 3) := by decide +kernel
theorem dX10_putByte_123 : decode cX10_putByte 123 = .ok (.aload_n 0, 1) := by decide +kernel
theorem dX10_putByte_124 : decode cX10_putByte 124 = .ok (.iload_n 2, 1) := by decide +kernel
theorem dX10_putByte_125 : decode cX10_putByte 125 = .ok (.invokevirtual 263, 3) := by decide +kernel
theorem dX10_putByte_128 : decode cX10_putByte 128 = .ok (.ifCond .eq 17, 3) := by decide +kernel
theorem dX10_putByte_131 : decode cX10_putByte 131 = .ok (.aload_n 0, 1) := by decide +kernel
theorem dX10_putByte_132 : decode cX10_putByte 132 = .ok (.iload_n 1, 1) := by decide +kernel
theorem dX10_putByte_133 : decode cX10_putByte 133 = .ok (.invokevirtual 175, 3) := by decide +kernel
theorem dX10_putByte_136 : decode cX10_putByte 136 = .ok (.aload_n 0, 1) := by decide +kernel
theorem dX10_putByte_137 : decode cX10_putByte 137 = .ok (.iconst 0, 1) := by decide +kernel
theorem dX10_putByte_138 : decode cX10_putByte 138 = .ok (.iconst 0, 1) := by decide +kernel
theorem dX10_putByte_139 : decode cX10_putByte 139 = .ok (.invokevirtual 179, 3) := by decide +kernel
theorem dX10_putByte_142 : decode cX10_putByte 142 = .ok (.goto 9, 3) := by decide +kernel
theorem dX10_putByte_145 : decode cX10_putByte 145 = .ok (.aload_n 0, 1) := by decide +kernel
theorem dX10_putByte_146 : decode cX10_putByte 146 = .ok (.iload_n 1, 1) := by decide +kernel
theorem dX10_putByte_147 : decode cX10_putByte 147 = .ok (.iconst 5, 1) := by decide +kernel
theorem dX10_putByte_148 : decode cX10_putByte 148 = .ok (.invokevirtual 171, 3) := by decide +kernel
theorem dX10_putByte_151 : decode cX10_putByte 151 = .ok (.return_, 1) := by decide +kernel
theorem dX10_take_0 : decode cX10_take 0 = .ok (.aload_n 0, 1) := by decide +kernel
theorem dX10_take_1 : decode cX10_take 1 = .ok (.getfield 51, 3) := by decide +kernel
theorem dX10_take_4 : decode cX10_take 4 = .ok (.iload_n 2, 1) := by decide +kernel
theorem dX10_take_5 : decode cX10_take 5 = .ok (.iaload, 1) := by decide +kernel
theorem dX10_take_6 : decode cX10_take 6 = .ok (.iconst 1, 1) := by decide +kernel
theorem dX10_take_7 : decode cX10_take 7 = .ok (.if_icmp .eq 13, 3) := by decide +kernel
theorem dX10_take_10 : decode cX10_take 10 = .ok (.aload_n 0, 1) := by decide +kernel
theorem dX10_take_11 : decode cX10_take 11 = .ok (.getfield 51, 3) := by decide +kernel
theorem dX10_take_14 : decode cX10_take 14 = .ok (.iload_n 2, 1) := by decide +kernel
theorem dX10_take_15 : decode cX10_take 15 = .ok (.iaload, 1) := by decide +kernel
theorem dX10_take_16 : decode cX10_take 16 = .ok (.iconst 2, 1) := by decide +kernel
theorem dX10_take_17 : decode cX10_take 17 = .ok (.if_icmp .ne 12, 3) := by decide +kernel
theorem dX10_take_20 : decode cX10_take 20 = .ok (.aload_n 0, 1) := by decide +kernel
theorem dX10_take_21 : decode cX10_take 21 = .ok (.iload_n 1, 1) := by decide +kernel
theorem dX10_take_22 : decode cX10_take 22 = .ok (.iconst 4, 1) := by decide +kernel
theorem dX10_take_23 : decode cX10_take 23 = .ok (.invokevirtual 171, 3) := by decide +kernel
theorem dX10_take_26 : decode cX10_take 26 = .ok (.goto 106, 3) := by decide +kernel
theorem dX10_take_29 : decode cX10_take 29 = .ok (.aload_n 0, 1) := by decide +kernel
