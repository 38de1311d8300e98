theorem dR_look_211 : decode mR_look.2.1 211 = .ok (.iload 6, 2) := by decide +kernel
theorem dR_look_213 : decode mR_look.2.1 213 = .ok (.ifCond .ne (8), 3) := by decide +kernel
theorem dR_look_216 : decode mR_look.2.1 216 = .ok (.iload 9, 2) := by decide +kernel
theorem dR_look_218 : decode mR_look.2.1 218 = .ok (.goto (5), 3) := by decide +kernel
theorem dR_look_221 : decode mR_look.2.1 221 = .ok (.iload 6, 2) := by decide +kernel
theorem dR_look_223 : decode mR_look.2.1 223 = .ok (.istore 6, 2) := by decide +kernel
theorem dR_look_225 : decode mR_look.2.1 225 = .ok (.iload 9, 2) := by decide +kernel
theorem dR_look_227 : decode mR_look.2.1 227 = .ok (.istore 7, 2) := by decide +kernel
theorem dR_look_229 : decode mR_look.2.1 229 = .ok (.iload 8, 2) := by decide +kernel
theorem dR_look_231 : decode mR_look.2.1 231 = .ok (.ifCond .eq (28), 3) := by decide +kernel
theorem dR_look_234 : decode mR_look.2.1 234 = .ok (.iload 9, 2) := by decide +kernel
theorem dR_look_236 : decode mR_look.2.1 236 = .ok (.aload_n 0, 1) := by decide +kernel
theorem dR_look_237 : decode mR_look.2.1 237 = .ok (.getfield 51, 3) := by decide +kernel
theorem dR_look_240 : decode mR_look.2.1 240 = .ok (.iload_n 1, 1) := by decide +kernel
theorem dR_look_241 : decode mR_look.2.1 241 = .ok (.iaload, 1) := by decide +kernel
theorem dR_look_242 : decode mR_look.2.1 242 = .ok (.invokestatic 125, 3) := by decide +kernel
theorem dR_look_245 : decode mR_look.2.1 245 = .ok (.iload 8, 2) := by decide +kernel
theorem dR_look_247 : decode mR_look.2.1 247 = .ok (.aload_n 0, 1) := by decide +kernel
theorem dR_look_248 : decode mR_look.2.1 248 = .ok (.getfield 51, 3) := by decide +kernel
theorem dR_look_251 : decode mR_look.2.1 251 = .ok (.iload_n 1, 1) := by decide +kernel
theorem dR_look_252 : decode mR_look.2.1 252 = .ok (.iaload, 1) := by decide +kernel
theorem dR_look_253 : decode mR_look.2.1 253 = .ok (.invokestatic 125, 3) := by decide +kernel
theorem dR_look_256 : decode mR_look.2.1 256 = .ok (.if_icmp .ge (8), 3) := by decide +kernel
theorem dR_look_259 : decode mR_look.2.1 259 = .ok (.iload 9, 2) := by decide +kernel
theorem dR_look_261 : decode mR_look.2.1 261 = .ok (.goto (5), 3) := by decide +kernel
theorem dR_look_264 : decode mR_look.2.1 264 = .ok (.iload 8, 2) := by decide +kernel
theorem dR_look_266 : decode mR_look.2.1 266 = .ok (.istore 8, 2) := by decide +kernel
theorem dR_look_268 : decode mR_look.2.1 268 = .ok (.iinc 9 (1), 3) := by decide +kernel
theorem dR_look_271 : decode mR_look.2.1 271 = .ok (.goto (-154), 3) := by decide +kernel
theorem dR_look_274 : decode mR_look.2.1 274 = .ok (.iload_n 2, 1) := by decide +kernel
theorem dR_look_275 : decode mR_look.2.1 275 = .ok (.ifCond .le (54), 3) := by decide +kernel
theorem dR_look_278 : decode mR_look.2.1 278 = .ok (.aload_n 0, 1) := by decide +kernel
theorem dR_look_279 : decode mR_look.2.1 279 = .ok (.iload 4, 2) := by decide +kernel
theorem dR_look_281 : decode mR_look.2.1 281 = .ok (.ifCond .eq (8), 3) := by decide +kernel
theorem dR_look_284 : decode mR_look.2.1 284 = .ok (.iload 7, 2) := by decide +kernel
theorem dR_look_286 : decode mR_look.2.1 286 = .ok (.goto (15), 3) := by decide +kernel
theorem dR_look_289 : decode mR_look.2.1 289 = .ok (.iload 5, 2) := by decide +kernel
theorem dR_look_291 : decode mR_look.2.1 291 = .ok (.ifCond .eq (8), 3) := by decide +kernel
theorem dR_look_294 : decode mR_look.2.1 294 = .ok (.iload 6, 2) := by decide +kernel
theorem dR_look_296 : decode mR_look.2.1 296 = .ok (.goto (5), 3) := by decide +kernel
theorem dR_look_299 : decode mR_look.2.1 299 = .ok (.iload 8, 2) := by decide +kernel
theorem dR_look_301 : decode mR_look.2.1 301 = .ok (.putfield 128, 3) := by decide +kernel
theorem dR_look_304 : decode mR_look.2.1 304 = .ok (.aload_n 0, 1) := by decide +kernel
theorem dR_look_305 : decode mR_look.2.1 305 = .ok (.aload_n 0, 1) := by decide +kernel
theorem dR_look_306 : decode mR_look.2.1 306 = .ok (.iload_n 1, 1) := by decide +kernel
theorem dR_look_307 : decode mR_look.2.1 307 = .ok (.iconst 0, 1) := by decide +kernel
theorem dR_look_308 : decode mR_look.2.1 308 = .ok (.aload_n 0, 1) := by decide +kernel
theorem dR_look_309 : decode mR_look.2.1 309 = .ok (.getfield 128, 3) := by decide +kernel
theorem dR_look_312 : decode mR_look.2.1 312 = .ok (.invokevirtual 121, 3) := by decide +kernel
theorem dR_look_315 : decode mR_look.2.1 315 = .ok (.aload_n 0, 1) := by decide +kernel
theorem dR_look_316 : decode mR_look.2.1 316 = .ok (.iload_n 1, 1) := by decide +kernel
theorem dR_look_317 : decode mR_look.2.1 317 = .ok (.iconst 1, 1) := by decide +kernel
theorem dR_look_318 : decode mR_look.2.1 318 = .ok (.aload_n 0, 1) := by decide +kernel
theorem dR_look_319 : decode mR_look.2.1 319 = .ok (.getfield 128, 3) := by decide +kernel
theorem dR_look_322 : decode mR_look.2.1 322 = .ok (.invokevirtual 121, 3) := by decide +kernel
theorem dR_look_325 : decode mR_look.2.1 325 = .ok (.isub, 1) := by decide +kernel
theorem dR_look_326 : decode mR_look.2.1 326 = .ok (.putfield 134, 3) := by decide +kernel
theorem dR_look_329 : decode mR_look.2.1 329 = .ok (.return_, 1) := by decide +kernel
theorem dR_willing_0 : decode mR_willing.2.1 0 = .ok (.iconst 0, 1) := by decide +kernel
theorem dR_willing_1 : decode mR_willing.2.1 1 = .ok (.istore 4, 2) := by decide +kernel
theorem dR_willing_3 : decode mR_willing.2.1 3 = .ok (.iconst 0, 1) := by decide +kernel
theorem dR_willing_4 : decode mR_willing.2.1 4 = .ok (.istore 5, 2) := by decide +kernel
theorem dR_willing_6 : decode mR_willing.2.1 6 = .ok (.iload 5, 2) := by decide +kernel
theorem dR_willing_8 : decode mR_willing.2.1 8 = .ok (.aload_n 0, 1) := by decide +kernel
theorem dR_willing_9 : decode mR_willing.2.1 9 = .ok (.getfield 57, 3) := by decide +kernel
theorem dR_willing_12 : decode mR_willing.2.1 12 = .ok (.if_icmp .ge (51), 3) := by decide +kernel
theorem dR_willing_15 : decode mR_willing.2.1 15 = .ok (.iload 4, 2) := by decide +kernel
theorem dR_willing_17 : decode mR_willing.2.1 17 = .ok (.aload_n 0, 1) := by decide +kernel
theorem dR_willing_18 : decode mR_willing.2.1 18 = .ok (.iload 5, 2) := by decide +kernel
theorem dR_willing_20 : decode mR_willing.2.1 20 = .ok (.iload_n 1, 1) := by decide +kernel
theorem dR_willing_21 : decode mR_willing.2.1 21 = .ok (.iload_n 2, 1) := by decide +kernel
theorem dR_willing_22 : decode mR_willing.2.1 22 = .ok (.invokevirtual 61, 3) := by decide +kernel
theorem dR_willing_25 : decode mR_willing.2.1 25 = .ok (.ifCond .eq (28), 3) := by decide +kernel
theorem dR_willing_28 : decode mR_willing.2.1 28 = .ok (.iload_n 2, 1) := by decide +kernel
theorem dR_willing_29 : decode mR_willing.2.1 29 = .ok (.iload_n 3, 1) := by decide +kernel
theorem dR_willing_30 : decode mR_willing.2.1 30 = .ok (.aload_n 0, 1) := by decide +kernel
theorem dR_willing_31 : decode mR_willing.2.1 31 = .ok (.getfield 22, 3) := by decide +kernel
theorem dR_willing_34 : decode mR_willing.2.1 34 = .ok (.iload 5, 2) := by decide +kernel
theorem dR_willing_36 : decode mR_willing.2.1 36 = .ok (.iaload, 1) := by decide +kernel
theorem dR_willing_37 : decode mR_willing.2.1 37 = .ok (.invokestatic 65, 3) := by decide +kernel
theorem dR_willing_40 : decode mR_willing.2.1 40 = .ok (.ifCond .ne (13), 3) := by decide +kernel
theorem dR_willing_43 : decode mR_willing.2.1 43 = .ok (.aload_n 0, 1) := by decide +kernel
theorem dR_willing_44 : decode mR_willing.2.1 44 = .ok (.getfield 25, 3) := by decide +kernel
theorem dR_willing_47 : decode mR_willing.2.1 47 = .ok (.iload 5, 2) := by decide +kernel
theorem dR_willing_49 : decode mR_willing.2.1 49 = .ok (.iaload, 1) := by decide +kernel
theorem dR_willing_50 : decode mR_willing.2.1 50 = .ok (.goto (4), 3) := by decide +kernel
theorem dR_willing_53 : decode mR_willing.2.1 53 = .ok (.iconst 0, 1) := by decide +kernel
theorem dR_willing_54 : decode mR_willing.2.1 54 = .ok (.iadd, 1) := by decide +kernel
theorem dR_willing_55 : decode mR_willing.2.1 55 = .ok (.istore 4, 2) := by decide +kernel
theorem dR_willing_57 : decode mR_willing.2.1 57 = .ok (.iinc 5 (1), 3) := by decide +kernel
theorem dR_willing_60 : decode mR_willing.2.1 60 = .ok (.goto (-54), 3) := by decide +kernel
theorem dR_willing_63 : decode mR_willing.2.1 63 = .ok (.iload 4, 2) := by decide +kernel
theorem dR_willing_65 : decode mR_willing.2.1 65 = .ok (.ireturn, 1) := by decide +kernel
theorem dR_distance_0 : decode mR_distance.2.1 0 = .ok (.iload_n 0, 1) := by decide +kernel
theorem dR_distance_1 : decode mR_distance.2.1 1 = .ok (.iload_n 1, 1) := by decide +kernel
theorem dR_distance_2 : decode mR_distance.2.1 2 = .ok (.if_icmp .ge (9), 3) := by decide +kernel
theorem dR_distance_5 : decode mR_distance.2.1 5 = .ok (.iload_n 1, 1) := by decide +kernel
theorem dR_distance_6 : decode mR_distance.2.1 6 = .ok (.iload_n 0, 1) := by decide +kernel
theorem dR_distance_7 : decode mR_distance.2.1 7 = .ok (.isub, 1) := by decide +kernel
theorem dR_distance_8 : decode mR_distance.2.1 8 = .ok (.goto (6), 3) := by decide +kernel
theorem dR_distance_11 : decode mR_distance.2.1 11 = .ok (.iload_n 0, 1) := by decide +kernel
theorem dR_distance_12 : decode mR_distance.2.1 12 = .ok (.iload_n 1, 1) := by decide +kernel
theorem dR_distance_13 : decode mR_distance.2.1 13 = .ok (.isub, 1) := by decide +kernel
theorem dR_distance_14 : decode mR_distance.2.1 14 = .ok (.ireturn, 1) := by decide +kernel
theorem dR_after_0 : decode mR_after.2.1 0 = .ok (.aload_n 0, 1) := by decide +kernel
theorem dR_after_1 : decode mR_after.2.1 1 = .ok (.getfield 31, 3) := by decide +kernel
theorem dR_after_4 : decode mR_after.2.1 4 = .ok (.iload_n 1, 1) := by decide +kernel
theorem dR_after_5 : decode mR_after.2.1 5 = .ok (.aload_n 0, 1) := by decide +kernel
theorem dR_after_6 : decode mR_after.2.1 6 = .ok (.getfield 25, 3) := by decide +kernel
theorem dR_after_9 : decode mR_after.2.1 9 = .ok (.iload_n 1, 1) := by decide +kernel
theorem dR_after_10 : decode mR_after.2.1 10 = .ok (.iaload, 1) := by decide +kernel
theorem dR_after_11 : decode mR_after.2.1 11 = .ok (.ifCond .ne (7), 3) := by decide +kernel
theorem dR_after_14 : decode mR_after.2.1 14 = .ok (.iconst 1, 1) := by decide +kernel
theorem dR_after_15 : decode mR_after.2.1 15 = .ok (.goto (4), 3) := by decide +kernel
theorem dR_after_18 : decode mR_after.2.1 18 = .ok (.iconst 0, 1) := by decide +kernel
theorem dR_after_19 : decode mR_after.2.1 19 = .ok (.iastore, 1) := by decide +kernel
theorem dR_after_20 : decode mR_after.2.1 20 = .ok (.aload_n 0, 1) := by decide +kernel
theorem dR_after_21 : decode mR_after.2.1 21 = .ok (.getfield 28, 3) := by decide +kernel
theorem dR_after_24 : decode mR_after.2.1 24 = .ok (.iload_n 1, 1) := by decide +kernel
theorem dR_after_25 : decode mR_after.2.1 25 = .ok (.aload_n 0, 1) := by decide +kernel
theorem dR_after_26 : decode mR_after.2.1 26 = .ok (.getfield 25, 3) := by decide +kernel
theorem dR_after_29 : decode mR_after.2.1 29 = .ok (.iload_n 1, 1) := by decide +kernel
theorem dR_after_30 : decode mR_after.2.1 30 = .ok (.iaload, 1) := by decide +kernel
theorem dR_after_31 : decode mR_after.2.1 31 = .ok (.iconst 5, 1) := by decide +kernel
theorem dR_after_32 : decode mR_after.2.1 32 = .ok (.if_icmp .ge (12), 3) := by decide +kernel
theorem dR_after_35 : decode mR_after.2.1 35 = .ok (.aload_n 0, 1) := by decide +kernel
theorem dR_after_36 : decode mR_after.2.1 36 = .ok (.getfield 25, 3) := by decide +kernel
theorem dR_after_39 : decode mR_after.2.1 39 = .ok (.iload_n 1, 1) := by decide +kernel
theorem dR_after_40 : decode mR_after.2.1 40 = .ok (.iaload, 1) := by decide +kernel
theorem dR_after_41 : decode mR_after.2.1 41 = .ok (.goto (4), 3) := by decide +kernel
theorem dR_after_44 : decode mR_after.2.1 44 = .ok (.iconst 5, 1) := by decide +kernel
theorem dR_after_45 : decode mR_after.2.1 45 = .ok (.iastore, 1) := by decide +kernel
theorem dR_after_46 : decode mR_after.2.1 46 = .ok (.return_, 1) := by decide +kernel
theorem dR_close_0 : decode mR_close.2.1 0 = .ok (.iload_n 1, 1) := by decide +kernel
theorem dR_close_1 : decode mR_close.2.1 1 = .ok (.iconst 0, 1) := by decide +kernel
theorem dR_close_2 : decode mR_close.2.1 2 = .ok (.iconst 1, 1) := by decide +kernel
theorem dR_close_3 : decode mR_close.2.1 3 = .ok (.invokestatic 98, 3) := by decide +kernel
theorem dR_close_6 : decode mR_close.2.1 6 = .ok (.ifCond .eq (5), 3) := by decide +kernel
theorem dR_close_9 : decode mR_close.2.1 9 = .ok (.iconst (-1), 1) := by decide +kernel
theorem dR_close_10 : decode mR_close.2.1 10 = .ok (.ireturn, 1) := by decide +kernel
theorem dR_close_11 : decode mR_close.2.1 11 = .ok (.aload_n 0, 1) := by decide +kernel
theorem dR_close_12 : decode mR_close.2.1 12 = .ok (.getfield 47, 3) := by decide +kernel
theorem dR_close_15 : decode mR_close.2.1 15 = .ok (.iload_n 1, 1) := by decide +kernel
theorem dR_close_16 : decode mR_close.2.1 16 = .ok (.baload, 1) := by decide +kernel
theorem dR_close_17 : decode mR_close.2.1 17 = .ok (.ifCond .ne (6), 3) := by decide +kernel
theorem dR_close_20 : decode mR_close.2.1 20 = .ok (.bipush (-3), 2) := by decide +kernel
theorem dR_close_22 : decode mR_close.2.1 22 = .ok (.ireturn, 1) := by decide +kernel
theorem dR_close_23 : decode mR_close.2.1 23 = .ok (.aload_n 0, 1) := by decide +kernel
theorem dR_close_24 : decode mR_close.2.1 24 = .ok (.getfield 47, 3) := by decide +kernel
theorem dR_close_27 : decode mR_close.2.1 27 = .ok (.iload_n 1, 1) := by decide +kernel
theorem dR_close_28 : decode mR_close.2.1 28 = .ok (.iconst 0, 1) := by decide +kernel
theorem dR_close_29 : decode mR_close.2.1 29 = .ok (.bastore, 1) := by decide +kernel
theorem dR_close_30 : decode mR_close.2.1 30 = .ok (.iconst 0, 1) := by decide +kernel
theorem dR_close_31 : decode mR_close.2.1 31 = .ok (.ireturn, 1) := by decide +kernel
theorem dR_indication_0 : decode mR_indication.2.1 0 = .ok (.iload_n 1, 1) := by decide +kernel
theorem dR_indication_1 : decode mR_indication.2.1 1 = .ok (.iconst 0, 1) := by decide +kernel
theorem dR_indication_2 : decode mR_indication.2.1 2 = .ok (.iconst 1, 1) := by decide +kernel
theorem dR_indication_3 : decode mR_indication.2.1 3 = .ok (.invokestatic 98, 3) := by decide +kernel
theorem dR_indication_6 : decode mR_indication.2.1 6 = .ok (.ifCond .ne (12), 3) := by decide +kernel
theorem dR_indication_9 : decode mR_indication.2.1 9 = .ok (.iload_n 2, 1) := by decide +kernel
theorem dR_indication_10 : decode mR_indication.2.1 10 = .ok (.iconst 0, 1) := by decide +kernel
theorem dR_indication_11 : decode mR_indication.2.1 11 = .ok (.iconst 2, 1) := by decide +kernel
theorem dR_indication_12 : decode mR_indication.2.1 12 = .ok (.invokestatic 98, 3) := by decide +kernel
theorem dR_indication_15 : decode mR_indication.2.1 15 = .ok (.ifCond .eq (5), 3) := by decide +kernel
theorem dR_indication_18 : decode mR_indication.2.1 18 = .ok (.iconst (-1), 1) := by decide +kernel
theorem dR_indication_19 : decode mR_indication.2.1 19 = .ok (.ireturn, 1) := by decide +kernel
theorem dR_indication_20 : decode mR_indication.2.1 20 = .ok (.aload_n 0, 1) := by decide +kernel
theorem dR_indication_21 : decode mR_indication.2.1 21 = .ok (.iload_n 1, 1) := by decide +kernel
theorem dR_indication_22 : decode mR_indication.2.1 22 = .ok (.invokevirtual 137, 3) := by decide +kernel
theorem dR_indication_25 : decode mR_indication.2.1 25 = .ok (.aload_n 0, 1) := by decide +kernel
theorem dR_indication_26 : decode mR_indication.2.1 26 = .ok (.getfield 128, 3) := by decide +kernel
theorem dR_indication_29 : decode mR_indication.2.1 29 = .ok (.ifCond .ne (8), 3) := by decide +kernel
theorem dR_indication_32 : decode mR_indication.2.1 32 = .ok (.bipush (-6), 2) := by decide +kernel
theorem dR_indication_34 : decode mR_indication.2.1 34 = .ok (.goto (30), 3) := by decide +kernel
theorem dR_indication_37 : decode mR_indication.2.1 37 = .ok (.iload_n 2, 1) := by decide +kernel
theorem dR_indication_38 : decode mR_indication.2.1 38 = .ok (.ifCond .ne (10), 3) := by decide +kernel
theorem dR_indication_41 : decode mR_indication.2.1 41 = .ok (.aload_n 0, 1) := by decide +kernel
theorem dR_indication_42 : decode mR_indication.2.1 42 = .ok (.getfield 128, 3) := by decide +kernel
theorem dR_indication_45 : decode mR_indication.2.1 45 = .ok (.goto (19), 3) := by decide +kernel
theorem dR_indication_48 : decode mR_indication.2.1 48 = .ok (.iload_n 2, 1) := by decide +kernel
theorem dR_indication_49 : decode mR_indication.2.1 49 = .ok (.iconst 1, 1) := by decide +kernel
theorem dR_indication_50 : decode mR_indication.2.1 50 = .ok (.if_icmp .ne (10), 3) := by decide +kernel
theorem dR_indication_53 : decode mR_indication.2.1 53 = .ok (.aload_n 0, 1) := by decide +kernel
theorem dR_indication_54 : decode mR_indication.2.1 54 = .ok (.getfield 131, 3) := by decide +kernel
theorem dR_indication_57 : decode mR_indication.2.1 57 = .ok (.goto (7), 3) := by decide +kernel
theorem dR_indication_60 : decode mR_indication.2.1 60 = .ok (.aload_n 0, 1) := by decide +kernel
theorem dR_indication_61 : decode mR_indication.2.1 61 = .ok (.getfield 134, 3) := by decide +kernel
theorem dR_indication_64 : decode mR_indication.2.1 64 = .ok (.ireturn, 1) := by decide +kernel
theorem dR_best_0 : decode mR_best.2.1 0 = .ok (.iload_n 1, 1) := by decide +kernel
theorem dR_best_1 : decode mR_best.2.1 1 = .ok (.iconst 0, 1) := by decide +kernel
theorem dR_best_2 : decode mR_best.2.1 2 = .ok (.iconst 1, 1) := by decide +kernel
theorem dR_best_3 : decode mR_best.2.1 3 = .ok (.invokestatic 98, 3) := by decide +kernel
theorem dR_best_6 : decode mR_best.2.1 6 = .ok (.ifCond .ne (12), 3) := by decide +kernel
theorem dR_best_9 : decode mR_best.2.1 9 = .ok (.iload_n 2, 1) := by decide +kernel
theorem dR_best_10 : decode mR_best.2.1 10 = .ok (.iconst 0, 1) := by decide +kernel
theorem dR_best_11 : decode mR_best.2.1 11 = .ok (.iconst 1, 1) := by decide +kernel
theorem dR_best_12 : decode mR_best.2.1 12 = .ok (.invokestatic 98, 3) := by decide +kernel
theorem dR_best_15 : decode mR_best.2.1 15 = .ok (.ifCond .eq (5), 3) := by decide +kernel
theorem dR_best_18 : decode mR_best.2.1 18 = .ok (.iconst (-1), 1) := by decide +kernel
theorem dR_best_19 : decode mR_best.2.1 19 = .ok (.ireturn, 1) := by decide +kernel
theorem dR_best_20 : decode mR_best.2.1 20 = .ok (.aload_n 0, 1) := by decide +kernel
theorem dR_best_21 : decode mR_best.2.1 21 = .ok (.iload_n 1, 1) := by decide +kernel
theorem dR_best_22 : decode mR_best.2.1 22 = .ok (.iload_n 2, 1) := by decide +kernel
theorem dR_best_23 : decode mR_best.2.1 23 = .ok (.invokevirtual 74, 3) := by decide +kernel
theorem dR_best_26 : decode mR_best.2.1 26 = .ok (.istore_n 3, 1) := by decide +kernel
theorem dR_best_27 : decode mR_best.2.1 27 = .ok (.iload_n 3, 1) := by decide +kernel
theorem dR_best_28 : decode mR_best.2.1 28 = .ok (.ifCond .ge (8), 3) := by decide +kernel
theorem dR_best_31 : decode mR_best.2.1 31 = .ok (.bipush (-6), 2) := by decide +kernel
theorem dR_best_33 : decode mR_best.2.1 33 = .ok (.goto (9), 3) := by decide +kernel
theorem dR_best_36 : decode mR_best.2.1 36 = .ok (.aload_n 0, 1) := by decide +kernel
theorem dR_best_37 : decode mR_best.2.1 37 = .ok (.getfield 22, 3) := by decide +kernel
theorem dR_best_40 : decode mR_best.2.1 40 = .ok (.iload_n 3, 1) := by decide +kernel
theorem dR_best_41 : decode mR_best.2.1 41 = .ok (.iaload, 1) := by decide +kernel
theorem dR_best_42 : decode mR_best.2.1 42 = .ok (.ireturn, 1) := by decide +kernel
theorem dR_depth_0 : decode mR_depth.2.1 0 = .ok (.iload_n 1, 1) := by decide +kernel
theorem dR_depth_1 : decode mR_depth.2.1 1 = .ok (.iconst 0, 1) := by decide +kernel
theorem dR_depth_2 : decode mR_depth.2.1 2 = .ok (.iconst 1, 1) := by decide +kernel
theorem dR_depth_3 : decode mR_depth.2.1 3 = .ok (.invokestatic 98, 3) := by decide +kernel
theorem dR_depth_6 : decode mR_depth.2.1 6 = .ok (.ifCond .ne (22), 3) := by decide +kernel
theorem dR_depth_9 : decode mR_depth.2.1 9 = .ok (.iload_n 2, 1) := by decide +kernel
theorem dR_depth_10 : decode mR_depth.2.1 10 = .ok (.iconst 0, 1) := by decide +kernel
theorem dR_depth_11 : decode mR_depth.2.1 11 = .ok (.iconst 1, 1) := by decide +kernel
theorem dR_depth_12 : decode mR_depth.2.1 12 = .ok (.invokestatic 98, 3) := by decide +kernel
theorem dR_depth_15 : decode mR_depth.2.1 15 = .ok (.ifCond .ne (13), 3) := by decide +kernel
theorem dR_depth_18 : decode mR_depth.2.1 18 = .ok (.iload_n 3, 1) := by decide +kernel
theorem dR_depth_19 : decode mR_depth.2.1 19 = .ok (.iconst 1, 1) := by decide +kernel
theorem dR_depth_20 : decode mR_depth.2.1 20 = .ok (.bipush (63), 2) := by decide +kernel
theorem dR_depth_22 : decode mR_depth.2.1 22 = .ok (.invokestatic 98, 3) := by decide +kernel
theorem dR_depth_25 : decode mR_depth.2.1 25 = .ok (.ifCond .eq (5), 3) := by decide +kernel
theorem dR_depth_28 : decode mR_depth.2.1 28 = .ok (.iconst (-1), 1) := by decide +kernel
theorem dR_depth_29 : decode mR_depth.2.1 29 = .ok (.ireturn, 1) := by decide +kernel
theorem dR_depth_30 : decode mR_depth.2.1 30 = .ok (.iconst 0, 1) := by decide +kernel
theorem dR_depth_31 : decode mR_depth.2.1 31 = .ok (.istore 4, 2) := by decide +kernel
theorem dR_depth_33 : decode mR_depth.2.1 33 = .ok (.iconst 0, 1) := by decide +kernel
theorem dR_depth_34 : decode mR_depth.2.1 34 = .ok (.istore 5, 2) := by decide +kernel
theorem dR_depth_36 : decode mR_depth.2.1 36 = .ok (.iload 5, 2) := by decide +kernel
theorem dR_depth_38 : decode mR_depth.2.1 38 = .ok (.aload_n 0, 1) := by decide +kernel
theorem dR_depth_39 : decode mR_depth.2.1 39 = .ok (.getfield 57, 3) := by decide +kernel
theorem dR_depth_42 : decode mR_depth.2.1 42 = .ok (.if_icmp .ge (46), 3) := by decide +kernel
theorem dR_depth_45 : decode mR_depth.2.1 45 = .ok (.iload 4, 2) := by decide +kernel
theorem dR_depth_47 : decode mR_depth.2.1 47 = .ok (.aload_n 0, 1) := by decide +kernel
theorem dR_depth_48 : decode mR_depth.2.1 48 = .ok (.iload 5, 2) := by decide +kernel
theorem dR_depth_50 : decode mR_depth.2.1 50 = .ok (.iload_n 1, 1) := by decide +kernel
theorem dR_depth_51 : decode mR_depth.2.1 51 = .ok (.iload_n 2, 1) := by decide +kernel
theorem dR_depth_52 : decode mR_depth.2.1 52 = .ok (.invokevirtual 61, 3) := by decide +kernel
theorem dR_depth_55 : decode mR_depth.2.1 55 = .ok (.ifCond .eq (23), 3) := by decide +kernel
theorem dR_depth_58 : decode mR_depth.2.1 58 = .ok (.aload_n 0, 1) := by decide +kernel
theorem dR_depth_59 : decode mR_depth.2.1 59 = .ok (.getfield 22, 3) := by decide +kernel
theorem dR_depth_62 : decode mR_depth.2.1 62 = .ok (.iload 5, 2) := by decide +kernel
theorem dR_depth_64 : decode mR_depth.2.1 64 = .ok (.iaload, 1) := by decide +kernel
theorem dR_depth_65 : decode mR_depth.2.1 65 = .ok (.iload_n 3, 1) := by decide +kernel
theorem dR_depth_66 : decode mR_depth.2.1 66 = .ok (.if_icmp .ne (12), 3) := by decide +kernel
theorem dR_depth_69 : decode mR_depth.2.1 69 = .ok (.aload_n 0, 1) := by decide +kernel
theorem dR_depth_70 : decode mR_depth.2.1 70 = .ok (.iload 5, 2) := by decide +kernel
theorem dR_depth_72 : decode mR_depth.2.1 72 = .ok (.invokevirtual 82, 3) := by decide +kernel
theorem dR_depth_75 : decode mR_depth.2.1 75 = .ok (.goto (4), 3) := by decide +kernel
theorem dR_depth_78 : decode mR_depth.2.1 78 = .ok (.iconst 0, 1) := by decide +kernel
theorem dR_depth_79 : decode mR_depth.2.1 79 = .ok (.iadd, 1) := by decide +kernel
theorem dR_depth_80 : decode mR_depth.2.1 80 = .ok (.istore 4, 2) := by decide +kernel
theorem dR_depth_82 : decode mR_depth.2.1 82 = .ok (.iinc 5 (1), 3) := by decide +kernel
theorem dR_depth_85 : decode mR_depth.2.1 85 = .ok (.goto (-49), 3) := by decide +kernel
theorem dR_depth_88 : decode mR_depth.2.1 88 = .ok (.iload 4, 2) := by decide +kernel
theorem dR_depth_90 : decode mR_depth.2.1 90 = .ok (.ireturn, 1) := by decide +kernel
theorem dR_ahead_0 : decode mR_ahead.2.1 0 = .ok (.aload_n 0, 1) := by decide +kernel
theorem dR_ahead_1 : decode mR_ahead.2.1 1 = .ok (.iload_n 1, 1) := by decide +kernel
theorem dR_ahead_2 : decode mR_ahead.2.1 2 = .ok (.invokevirtual 118, 3) := by decide +kernel
theorem dR_ahead_5 : decode mR_ahead.2.1 5 = .ok (.ifCond .ne (6), 3) := by decide +kernel
theorem dR_ahead_8 : decode mR_ahead.2.1 8 = .ok (.bipush (-6), 2) := by decide +kernel
theorem dR_ahead_10 : decode mR_ahead.2.1 10 = .ok (.ireturn, 1) := by decide +kernel
theorem dR_ahead_11 : decode mR_ahead.2.1 11 = .ok (.iconst 0, 1) := by decide +kernel
theorem dR_ahead_12 : decode mR_ahead.2.1 12 = .ok (.istore_n 2, 1) := by decide +kernel
theorem dR_ahead_13 : decode mR_ahead.2.1 13 = .ok (.iconst 0, 1) := by decide +kernel
theorem dR_ahead_14 : decode mR_ahead.2.1 14 = .ok (.istore_n 3, 1) := by decide +kernel
theorem dR_ahead_15 : decode mR_ahead.2.1 15 = .ok (.iload_n 3, 1) := by decide +kernel
theorem dR_ahead_16 : decode mR_ahead.2.1 16 = .ok (.aload_n 0, 1) := by decide +kernel
theorem dR_ahead_17 : decode mR_ahead.2.1 17 = .ok (.getfield 57, 3) := by decide +kernel
theorem dR_ahead_20 : decode mR_ahead.2.1 20 = .ok (.if_icmp .ge (71), 3) := by decide +kernel
theorem dR_ahead_23 : decode mR_ahead.2.1 23 = .ok (.iload_n 2, 1) := by decide +kernel
theorem dR_ahead_24 : decode mR_ahead.2.1 24 = .ok (.aload_n 0, 1) := by decide +kernel
theorem dR_ahead_25 : decode mR_ahead.2.1 25 = .ok (.iload_n 3, 1) := by decide +kernel
theorem dR_ahead_26 : decode mR_ahead.2.1 26 = .ok (.aload_n 0, 1) := by decide +kernel
theorem dR_ahead_27 : decode mR_ahead.2.1 27 = .ok (.getfield 13, 3) := by decide +kernel
theorem dR_ahead_30 : decode mR_ahead.2.1 30 = .ok (.iload_n 1, 1) := by decide +kernel
theorem dR_ahead_31 : decode mR_ahead.2.1 31 = .ok (.iaload, 1) := by decide +kernel
theorem dR_ahead_32 : decode mR_ahead.2.1 32 = .ok (.aload_n 0, 1) := by decide +kernel
theorem dR_ahead_33 : decode mR_ahead.2.1 33 = .ok (.getfield 16, 3) := by decide +kernel
theorem dR_ahead_36 : decode mR_ahead.2.1 36 = .ok (.iload_n 1, 1) := by decide +kernel
theorem dR_ahead_37 : decode mR_ahead.2.1 37 = .ok (.iaload, 1) := by decide +kernel
theorem dR_ahead_38 : decode mR_ahead.2.1 38 = .ok (.invokevirtual 61, 3) := by decide +kernel
theorem dR_ahead_41 : decode mR_ahead.2.1 41 = .ok (.ifCond .eq (41), 3) := by decide +kernel
theorem dR_ahead_44 : decode mR_ahead.2.1 44 = .ok (.aload_n 0, 1) := by decide +kernel
theorem dR_ahead_45 : decode mR_ahead.2.1 45 = .ok (.getfield 22, 3) := by decide +kernel
theorem dR_ahead_48 : decode mR_ahead.2.1 48 = .ok (.iload_n 3, 1) := by decide +kernel
theorem dR_ahead_49 : decode mR_ahead.2.1 49 = .ok (.iaload, 1) := by decide +kernel
theorem dR_ahead_50 : decode mR_ahead.2.1 50 = .ok (.aload_n 0, 1) := by decide +kernel
theorem dR_ahead_51 : decode mR_ahead.2.1 51 = .ok (.getfield 22, 3) := by decide +kernel
theorem dR_ahead_54 : decode mR_ahead.2.1 54 = .ok (.iload_n 1, 1) := by decide +kernel
theorem dR_ahead_55 : decode mR_ahead.2.1 55 = .ok (.iaload, 1) := by decide +kernel
theorem dR_ahead_56 : decode mR_ahead.2.1 56 = .ok (.if_icmp .ne (26), 3) := by decide +kernel
theorem dR_ahead_59 : decode mR_ahead.2.1 59 = .ok (.aload_n 0, 1) := by decide +kernel
theorem dR_ahead_60 : decode mR_ahead.2.1 60 = .ok (.getfield 34, 3) := by decide +kernel
theorem dR_ahead_63 : decode mR_ahead.2.1 63 = .ok (.iload_n 3, 1) := by decide +kernel
theorem dR_ahead_64 : decode mR_ahead.2.1 64 = .ok (.iaload, 1) := by decide +kernel
theorem dR_ahead_65 : decode mR_ahead.2.1 65 = .ok (.aload_n 0, 1) := by decide +kernel
theorem dR_ahead_66 : decode mR_ahead.2.1 66 = .ok (.getfield 34, 3) := by decide +kernel
theorem dR_ahead_69 : decode mR_ahead.2.1 69 = .ok (.iload_n 1, 1) := by decide +kernel
theorem dR_ahead_70 : decode mR_ahead.2.1 70 = .ok (.iaload, 1) := by decide +kernel
theorem dR_ahead_71 : decode mR_ahead.2.1 71 = .ok (.if_icmp .ge (11), 3) := by decide +kernel
theorem dR_ahead_74 : decode mR_ahead.2.1 74 = .ok (.aload_n 0, 1) := by decide +kernel
theorem dR_ahead_75 : decode mR_ahead.2.1 75 = .ok (.iload_n 3, 1) := by decide +kernel
theorem dR_ahead_76 : decode mR_ahead.2.1 76 = .ok (.invokevirtual 82, 3) := by decide +kernel
theorem dR_ahead_79 : decode mR_ahead.2.1 79 = .ok (.goto (4), 3) := by decide +kernel
theorem dR_ahead_82 : decode mR_ahead.2.1 82 = .ok (.iconst 0, 1) := by decide +kernel
theorem dR_ahead_83 : decode mR_ahead.2.1 83 = .ok (.iadd, 1) := by decide +kernel
theorem dR_ahead_84 : decode mR_ahead.2.1 84 = .ok (.istore_n 2, 1) := by decide +kernel
theorem dR_ahead_85 : decode mR_ahead.2.1 85 = .ok (.iinc 3 (1), 3) := by decide +kernel
theorem dR_ahead_88 : decode mR_ahead.2.1 88 = .ok (.goto (-73), 3) := by decide +kernel
theorem dR_ahead_91 : decode mR_ahead.2.1 91 = .ok (.iload_n 2, 1) := by decide +kernel
theorem dR_ahead_92 : decode mR_ahead.2.1 92 = .ok (.ireturn, 1) := by decide +kernel
theorem dR_left_0 : decode mR_left.2.1 0 = .ok (.iload_n 1, 1) := by decide +kernel
theorem dR_left_1 : decode mR_left.2.1 1 = .ok (.iconst 0, 1) := by decide +kernel
theorem dR_left_2 : decode mR_left.2.1 2 = .ok (.aload_n 0, 1) := by decide +kernel
theorem dR_left_3 : decode mR_left.2.1 3 = .ok (.getfield 57, 3) := by decide +kernel
theorem dR_left_6 : decode mR_left.2.1 6 = .ok (.iconst 1, 1) := by decide +kernel
theorem dR_left_7 : decode mR_left.2.1 7 = .ok (.isub, 1) := by decide +kernel
theorem dR_left_8 : decode mR_left.2.1 8 = .ok (.invokestatic 98, 3) := by decide +kernel
theorem dR_left_11 : decode mR_left.2.1 11 = .ok (.ifCond .eq (7), 3) := by decide +kernel
theorem dR_left_14 : decode mR_left.2.1 14 = .ok (.iconst (-1), 1) := by decide +kernel
theorem dR_left_15 : decode mR_left.2.1 15 = .ok (.goto (9), 3) := by decide +kernel
theorem dR_left_18 : decode mR_left.2.1 18 = .ok (.aload_n 0, 1) := by decide +kernel
theorem dR_left_19 : decode mR_left.2.1 19 = .ok (.getfield 25, 3) := by decide +kernel
theorem dR_left_22 : decode mR_left.2.1 22 = .ok (.iload_n 1, 1) := by decide +kernel
theorem dR_left_23 : decode mR_left.2.1 23 = .ok (.iaload, 1) := by decide +kernel
theorem dR_left_24 : decode mR_left.2.1 24 = .ok (.ireturn, 1) := by decide +kernel
theorem dR_state_0 : decode mR_state.2.1 0 = .ok (.iload_n 1, 1) := by decide +kernel
theorem dR_state_1 : decode mR_state.2.1 1 = .ok (.iconst 0, 1) := by decide +kernel
theorem dR_state_2 : decode mR_state.2.1 2 = .ok (.aload_n 0, 1) := by decide +kernel
theorem dR_state_3 : decode mR_state.2.1 3 = .ok (.getfield 57, 3) := by decide +kernel
theorem dR_state_6 : decode mR_state.2.1 6 = .ok (.iconst 1, 1) := by decide +kernel
theorem dR_state_7 : decode mR_state.2.1 7 = .ok (.isub, 1) := by decide +kernel
theorem dR_state_8 : decode mR_state.2.1 8 = .ok (.invokestatic 98, 3) := by decide +kernel
theorem dR_state_11 : decode mR_state.2.1 11 = .ok (.ifCond .eq (7), 3) := by decide +kernel
theorem dR_state_14 : decode mR_state.2.1 14 = .ok (.iconst (-1), 1) := by decide +kernel
theorem dR_state_15 : decode mR_state.2.1 15 = .ok (.goto (9), 3) := by decide +kernel
theorem dR_state_18 : decode mR_state.2.1 18 = .ok (.aload_n 0, 1) := by decide +kernel
theorem dR_state_19 : decode mR_state.2.1 19 = .ok (.getfield 31, 3) := by decide +kernel
theorem dR_state_22 : decode mR_state.2.1 22 = .ok (.iload_n 1, 1) := by decide +kernel
theorem dR_state_23 : decode mR_state.2.1 23 = .ok (.iaload, 1) := by decide +kernel
theorem dR_state_24 : decode mR_state.2.1 24 = .ok (.ireturn, 1) := by decide +kernel
theorem dR_trades_0 : decode mR_trades.2.1 0 = .ok (.aload_n 0, 1) := by decide +kernel
theorem dR_trades_1 : decode mR_trades.2.1 1 = .ok (.getfield 71, 3) := by decide +kernel
theorem dR_trades_4 : decode mR_trades.2.1 4 = .ok (.ireturn, 1) := by decide +kernel
theorem dR_trade_0 : decode mR_trade.2.1 0 = .ok (.iload_n 2, 1) := by decide +kernel
theorem dR_trade_1 : decode mR_trade.2.1 1 = .ok (.iconst 0, 1) := by decide +kernel
theorem dR_trade_2 : decode mR_trade.2.1 2 = .ok (.iconst 3, 1) := by decide +kernel
theorem dR_trade_3 : decode mR_trade.2.1 3 = .ok (.invokestatic 98, 3) := by decide +kernel
theorem dR_trade_6 : decode mR_trade.2.1 6 = .ok (.ifCond .eq (5), 3) := by decide +kernel
theorem dR_trade_9 : decode mR_trade.2.1 9 = .ok (.iconst (-1), 1) := by decide +kernel
theorem dR_trade_10 : decode mR_trade.2.1 10 = .ok (.ireturn, 1) := by decide +kernel
theorem dR_trade_11 : decode mR_trade.2.1 11 = .ok (.iload_n 1, 1) := by decide +kernel
theorem dR_trade_12 : decode mR_trade.2.1 12 = .ok (.ifCond .lt (22), 3) := by decide +kernel
theorem dR_trade_15 : decode mR_trade.2.1 15 = .ok (.iload_n 1, 1) := by decide +kernel
theorem dR_trade_16 : decode mR_trade.2.1 16 = .ok (.aload_n 0, 1) := by decide +kernel
theorem dR_trade_17 : decode mR_trade.2.1 17 = .ok (.getfield 71, 3) := by decide +kernel
theorem dR_trade_20 : decode mR_trade.2.1 20 = .ok (.if_icmp .ge (14), 3) := by decide +kernel
theorem dR_trade_23 : decode mR_trade.2.1 23 = .ok (.iload_n 1, 1) := by decide +kernel
theorem dR_trade_24 : decode mR_trade.2.1 24 = .ok (.aload_n 0, 1) := by decide +kernel
theorem dR_trade_25 : decode mR_trade.2.1 25 = .ok (.getfield 71, 3) := by decide +kernel
theorem dR_trade_28 : decode mR_trade.2.1 28 = .ok (.bipush (100), 2) := by decide +kernel
theorem dR_trade_30 : decode mR_trade.2.1 30 = .ok (.isub, 1) := by decide +kernel
theorem dR_trade_31 : decode mR_trade.2.1 31 = .ok (.if_icmp .ge (8), 3) := by decide +kernel
theorem dR_trade_34 : decode mR_trade.2.1 34 = .ok (.bipush (-6), 2) := by decide +kernel
theorem dR_trade_36 : decode mR_trade.2.1 36 = .ok (.goto (16), 3) := by decide +kernel
theorem dR_trade_39 : decode mR_trade.2.1 39 = .ok (.aload_n 0, 1) := by decide +kernel
theorem dR_trade_40 : decode mR_trade.2.1 40 = .ok (.getfield 54, 3) := by decide +kernel
theorem dR_trade_43 : decode mR_trade.2.1 43 = .ok (.iload_n 1, 1) := by decide +kernel
theorem dR_trade_44 : decode mR_trade.2.1 44 = .ok (.bipush (100), 2) := by decide +kernel
theorem dR_trade_46 : decode mR_trade.2.1 46 = .ok (.irem, 1) := by decide +kernel
theorem dR_trade_47 : decode mR_trade.2.1 47 = .ok (.iconst 4, 1) := by decide +kernel
theorem dR_trade_48 : decode mR_trade.2.1 48 = .ok (.imul, 1) := by decide +kernel
theorem dR_trade_49 : decode mR_trade.2.1 49 = .ok (.iload_n 2, 1) := by decide +kernel
theorem dR_trade_50 : decode mR_trade.2.1 50 = .ok (.iadd, 1) := by decide +kernel
theorem dR_trade_51 : decode mR_trade.2.1 51 = .ok (.iaload, 1) := by decide +kernel
theorem dR_trade_52 : decode mR_trade.2.1 52 = .ok (.ireturn, 1) := by decide +kernel
theorem dR_position_0 : decode mR_position.2.1 0 = .ok (.iload_n 1, 1) := by decide +kernel
theorem dR_position_1 : decode mR_position.2.1 1 = .ok (.invokestatic 101, 3) := by decide +kernel
theorem dR_position_4 : decode mR_position.2.1 4 = .ok (.ifCond .ne (12), 3) := by decide +kernel
theorem dR_position_7 : decode mR_position.2.1 7 = .ok (.iload_n 2, 1) := by decide +kernel
theorem dR_position_8 : decode mR_position.2.1 8 = .ok (.iconst 0, 1) := by decide +kernel
theorem dR_position_9 : decode mR_position.2.1 9 = .ok (.iconst 1, 1) := by decide +kernel
theorem dR_position_10 : decode mR_position.2.1 10 = .ok (.invokestatic 98, 3) := by decide +kernel
theorem dR_position_13 : decode mR_position.2.1 13 = .ok (.ifCond .eq (7), 3) := by decide +kernel
theorem dR_position_16 : decode mR_position.2.1 16 = .ok (.iconst 0, 1) := by decide +kernel
theorem dR_position_17 : decode mR_position.2.1 17 = .ok (.goto (13), 3) := by decide +kernel
theorem dR_position_20 : decode mR_position.2.1 20 = .ok (.aload_n 0, 1) := by decide +kernel
theorem dR_position_21 : decode mR_position.2.1 21 = .ok (.getfield 44, 3) := by decide +kernel
theorem dR_position_24 : decode mR_position.2.1 24 = .ok (.iconst 2, 1) := by decide +kernel
theorem dR_position_25 : decode mR_position.2.1 25 = .ok (.iload_n 1, 1) := by decide +kernel
theorem dR_position_26 : decode mR_position.2.1 26 = .ok (.imul, 1) := by decide +kernel
theorem dR_position_27 : decode mR_position.2.1 27 = .ok (.iload_n 2, 1) := by decide +kernel
theorem dR_position_28 : decode mR_position.2.1 28 = .ok (.iadd, 1) := by decide +kernel
theorem dR_position_29 : decode mR_position.2.1 29 = .ok (.iaload, 1) := by decide +kernel
theorem dR_position_30 : decode mR_position.2.1 30 = .ok (.ireturn, 1) := by decide +kernel
theorem dR_money_0 : decode mR_money.2.1 0 = .ok (.iload_n 1, 1) := by decide +kernel
theorem dR_money_1 : decode mR_money.2.1 1 = .ok (.invokestatic 101, 3) := by decide +kernel
theorem dR_money_4 : decode mR_money.2.1 4 = .ok (.ifCond .eq (7), 3) := by decide +kernel
theorem dR_money_7 : decode mR_money.2.1 7 = .ok (.lconst 0, 1) := by decide +kernel
theorem dR_money_8 : decode mR_money.2.1 8 = .ok (.goto (9), 3) := by decide +kernel
theorem dR_money_11 : decode mR_money.2.1 11 = .ok (.aload_n 0, 1) := by decide +kernel
theorem dR_money_12 : decode mR_money.2.1 12 = .ok (.getfield 37, 3) := by decide +kernel
theorem dR_money_15 : decode mR_money.2.1 15 = .ok (.iload_n 1, 1) := by decide +kernel
theorem dR_money_16 : decode mR_money.2.1 16 = .ok (.laload, 1) := by decide +kernel
theorem dR_money_17 : decode mR_money.2.1 17 = .ok (.lreturn, 1) := by decide +kernel
theorem dR_owed_0 : decode mR_owed.2.1 0 = .ok (.iload_n 1, 1) := by decide +kernel
theorem dR_owed_1 : decode mR_owed.2.1 1 = .ok (.invokestatic 101, 3) := by decide +kernel
theorem dR_owed_4 : decode mR_owed.2.1 4 = .ok (.ifCond .eq (7), 3) := by decide +kernel
theorem dR_owed_7 : decode mR_owed.2.1 7 = .ok (.lconst 0, 1) := by decide +kernel
theorem dR_owed_8 : decode mR_owed.2.1 8 = .ok (.goto (9), 3) := by decide +kernel
theorem dR_owed_11 : decode mR_owed.2.1 11 = .ok (.aload_n 0, 1) := by decide +kernel
theorem dR_owed_12 : decode mR_owed.2.1 12 = .ok (.getfield 41, 3) := by decide +kernel
theorem dR_owed_15 : decode mR_owed.2.1 15 = .ok (.iload_n 1, 1) := by decide +kernel
theorem dR_owed_16 : decode mR_owed.2.1 16 = .ok (.laload, 1) := by decide +kernel
theorem dR_owed_17 : decode mR_owed.2.1 17 = .ok (.lreturn, 1) := by decide +kernel
theorem dR_risk_0 : decode mR_risk.2.1 0 = .ok (.iload_n 1, 1) := by decide +kernel
theorem dR_risk_1 : decode mR_risk.2.1 1 = .ok (.invokestatic 101, 3) := by decide +kernel
theorem dR_risk_4 : decode mR_risk.2.1 4 = .ok (.ifCond .eq (7), 3) := by decide +kernel
theorem dR_risk_7 : decode mR_risk.2.1 7 = .ok (.lconst 0, 1) := by decide +kernel
theorem dR_risk_8 : decode mR_risk.2.1 8 = .ok (.goto (11), 3) := by decide +kernel
theorem dR_risk_11 : decode mR_risk.2.1 11 = .ok (.aload_n 0, 1) := by decide +kernel
theorem dR_risk_12 : decode mR_risk.2.1 12 = .ok (.iload_n 1, 1) := by decide +kernel
theorem dR_risk_13 : decode mR_risk.2.1 13 = .ok (.iconst 0, 1) := by decide +kernel
theorem dR_risk_14 : decode mR_risk.2.1 14 = .ok (.iconst 0, 1) := by decide +kernel
theorem dR_risk_15 : decode mR_risk.2.1 15 = .ok (.iconst 0, 1) := by decide +kernel
theorem dR_risk_16 : decode mR_risk.2.1 16 = .ok (.invokevirtual 107, 3) := by decide +kernel
theorem dR_risk_19 : decode mR_risk.2.1 19 = .ok (.lreturn, 1) := by decide +kernel
theorem dR_settle_0 : decode mR_settle.2.1 0 = .ok (.iconst 0, 1) := by decide +kernel
theorem dR_settle_1 : decode mR_settle.2.1 1 = .ok (.istore_n 1, 1) := by decide +kernel
theorem dR_settle_2 : decode mR_settle.2.1 2 = .ok (.iconst 0, 1) := by decide +kernel
theorem dR_settle_3 : decode mR_settle.2.1 3 = .ok (.istore_n 2, 1) := by decide +kernel
theorem dR_settle_4 : decode mR_settle.2.1 4 = .ok (.iload_n 2, 1) := by decide +kernel
theorem dR_settle_5 : decode mR_settle.2.1 5 = .ok (.aload_n 0, 1) := by decide +kernel
theorem dR_settle_6 : decode mR_settle.2.1 6 = .ok (.getfield 57, 3) := by decide +kernel
theorem dR_settle_9 : decode mR_settle.2.1 9 = .ok (.if_icmp .ge (34), 3) := by decide +kernel
theorem dR_settle_12 : decode mR_settle.2.1 12 = .ok (.aload_n 0, 1) := by decide +kernel
theorem dR_settle_13 : decode mR_settle.2.1 13 = .ok (.getfield 31, 3) := by decide +kernel
theorem dR_settle_16 : decode mR_settle.2.1 16 = .ok (.iload_n 2, 1) := by decide +kernel
theorem dR_settle_17 : decode mR_settle.2.1 17 = .ok (.aload_n 0, 1) := by decide +kernel
theorem dR_settle_18 : decode mR_settle.2.1 18 = .ok (.getfield 31, 3) := by decide +kernel
theorem dR_settle_21 : decode mR_settle.2.1 21 = .ok (.iload_n 2, 1) := by decide +kernel
theorem dR_settle_22 : decode mR_settle.2.1 22 = .ok (.iaload, 1) := by decide +kernel
theorem dR_settle_23 : decode mR_settle.2.1 23 = .ok (.ifCond .ne (7), 3) := by decide +kernel
theorem dR_settle_26 : decode mR_settle.2.1 26 = .ok (.iconst 2, 1) := by decide +kernel
theorem dR_settle_27 : decode mR_settle.2.1 27 = .ok (.goto (9), 3) := by decide +kernel
theorem dR_settle_30 : decode mR_settle.2.1 30 = .ok (.aload_n 0, 1) := by decide +kernel
theorem dR_settle_31 : decode mR_settle.2.1 31 = .ok (.getfield 31, 3) := by decide +kernel
theorem dR_settle_34 : decode mR_settle.2.1 34 = .ok (.iload_n 2, 1) := by decide +kernel
theorem dR_settle_35 : decode mR_settle.2.1 35 = .ok (.iaload, 1) := by decide +kernel
theorem dR_settle_36 : decode mR_settle.2.1 36 = .ok (.iastore, 1) := by decide +kernel
theorem dR_settle_37 : decode mR_settle.2.1 37 = .ok (.iinc 2 (1), 3) := by decide +kernel
theorem dR_settle_40 : decode mR_settle.2.1 40 = .ok (.goto (-36), 3) := by decide +kernel
theorem dR_settle_43 : decode mR_settle.2.1 43 = .ok (.aload_n 0, 1) := by decide +kernel
theorem dR_settle_44 : decode mR_settle.2.1 44 = .ok (.getfield 47, 3) := by decide +kernel
theorem dR_settle_47 : decode mR_settle.2.1 47 = .ok (.iconst 0, 1) := by decide +kernel
theorem dR_settle_48 : decode mR_settle.2.1 48 = .ok (.iconst 0, 1) := by decide +kernel
theorem dR_settle_49 : decode mR_settle.2.1 49 = .ok (.bastore, 1) := by decide +kernel
theorem dR_settle_50 : decode mR_settle.2.1 50 = .ok (.aload_n 0, 1) := by decide +kernel
theorem dR_settle_51 : decode mR_settle.2.1 51 = .ok (.getfield 47, 3) := by decide +kernel
theorem dR_settle_54 : decode mR_settle.2.1 54 = .ok (.iconst 1, 1) := by decide +kernel
theorem dR_settle_55 : decode mR_settle.2.1 55 = .ok (.iconst 0, 1) := by decide +kernel
theorem dR_settle_56 : decode mR_settle.2.1 56 = .ok (.bastore, 1) := by decide +kernel
theorem dR_settle_57 : decode mR_settle.2.1 57 = .ok (.iconst 0, 1) := by decide +kernel
theorem dR_settle_58 : decode mR_settle.2.1 58 = .ok (.istore_n 2, 1) := by decide +kernel
theorem dR_settle_59 : decode mR_settle.2.1 59 = .ok (.iload_n 2, 1) := by decide +kernel
theorem dR_settle_60 : decode mR_settle.2.1 60 = .ok (.iconst 5, 1) := by decide +kernel
theorem dR_settle_61 : decode mR_settle.2.1 61 = .ok (.if_icmp .ge (50), 3) := by decide +kernel
theorem dR_settle_64 : decode mR_settle.2.1 64 = .ok (.aload_n 0, 1) := by decide +kernel
theorem dR_settle_65 : decode mR_settle.2.1 65 = .ok (.getfield 41, 3) := by decide +kernel
theorem dR_settle_68 : decode mR_settle.2.1 68 = .ok (.iload_n 2, 1) := by decide +kernel
theorem dR_settle_69 : decode mR_settle.2.1 69 = .ok (.laload, 1) := by decide +kernel
theorem dR_settle_70 : decode mR_settle.2.1 70 = .ok (.lconst 0, 1) := by decide +kernel
theorem dR_settle_71 : decode mR_settle.2.1 71 = .ok (.lcmp, 1) := by decide +kernel
theorem dR_settle_72 : decode mR_settle.2.1 72 = .ok (.ifCond .ne (7), 3) := by decide +kernel
theorem dR_settle_75 : decode mR_settle.2.1 75 = .ok (.iload_n 1, 1) := by decide +kernel
theorem dR_settle_76 : decode mR_settle.2.1 76 = .ok (.goto (6), 3) := by decide +kernel
theorem dR_settle_79 : decode mR_settle.2.1 79 = .ok (.iload_n 1, 1) := by decide +kernel
theorem dR_settle_80 : decode mR_settle.2.1 80 = .ok (.iconst 1, 1) := by decide +kernel
theorem dR_settle_81 : decode mR_settle.2.1 81 = .ok (.iadd, 1) := by decide +kernel
theorem dR_settle_82 : decode mR_settle.2.1 82 = .ok (.istore_n 1, 1) := by decide +kernel
theorem dR_settle_83 : decode mR_settle.2.1 83 = .ok (.aload_n 0, 1) := by decide +kernel
theorem dR_settle_84 : decode mR_settle.2.1 84 = .ok (.getfield 37, 3) := by decide +kernel
theorem dR_settle_87 : decode mR_settle.2.1 87 = .ok (.iload_n 2, 1) := by decide +kernel
theorem dR_settle_88 : decode mR_settle.2.1 88 = .ok (.dup2, 1) := by decide +kernel
theorem dR_settle_89 : decode mR_settle.2.1 89 = .ok (.laload, 1) := by decide +kernel
theorem dR_settle_90 : decode mR_settle.2.1 90 = .ok (.aload_n 0, 1) := by decide +kernel
theorem dR_settle_91 : decode mR_settle.2.1 91 = .ok (.getfield 41, 3) := by decide +kernel
theorem dR_settle_94 : decode mR_settle.2.1 94 = .ok (.iload_n 2, 1) := by decide +kernel
theorem dR_settle_95 : decode mR_settle.2.1 95 = .ok (.laload, 1) := by decide +kernel
theorem dR_settle_96 : decode mR_settle.2.1 96 = .ok (.ladd, 1) := by decide +kernel
theorem dR_settle_97 : decode mR_settle.2.1 97 = .ok (.lastore, 1) := by decide +kernel
theorem dR_settle_98 : decode mR_settle.2.1 98 = .ok (.aload_n 0, 1) := by decide +kernel
theorem dR_settle_99 : decode mR_settle.2.1 99 = .ok (.getfield 41, 3) := by decide +kernel
theorem dR_settle_102 : decode mR_settle.2.1 102 = .ok (.iload_n 2, 1) := by decide +kernel
theorem dR_settle_103 : decode mR_settle.2.1 103 = .ok (.lconst 0, 1) := by decide +kernel
theorem dR_settle_104 : decode mR_settle.2.1 104 = .ok (.lastore, 1) := by decide +kernel
theorem dR_settle_105 : decode mR_settle.2.1 105 = .ok (.iinc 2 (1), 3) := by decide +kernel
theorem dR_settle_108 : decode mR_settle.2.1 108 = .ok (.goto (-49), 3) := by decide +kernel
theorem dR_settle_111 : decode mR_settle.2.1 111 = .ok (.iload_n 1, 1) := by decide +kernel
theorem dR_settle_112 : decode mR_settle.2.1 112 = .ok (.ireturn, 1) := by decide +kernel
theorem dL_law_0 : decode mL_law.2.1 0 = .ok (.new 7, 3) := by decide +kernel
theorem dL_law_3 : decode mL_law.2.1 3 = .ok (.dup, 1) := by decide +kernel
theorem dL_law_4 : decode mL_law.2.1 4 = .ok (.invokespecial 9, 3) := by decide +kernel
theorem dL_law_7 : decode mL_law.2.1 7 = .ok (.astore_n 1, 1) := by decide +kernel
theorem dL_law_8 : decode mL_law.2.1 8 = .ok (.new 10, 3) := by decide +kernel
theorem dL_law_11 : decode mL_law.2.1 11 = .ok (.dup, 1) := by decide +kernel
theorem dL_law_12 : decode mL_law.2.1 12 = .ok (.invokespecial 12, 3) := by decide +kernel
theorem dL_law_15 : decode mL_law.2.1 15 = .ok (.astore_n 2, 1) := by decide +kernel
theorem dL_law_16 : decode mL_law.2.1 16 = .ok (.iconst 0, 1) := by decide +kernel
theorem dL_law_17 : decode mL_law.2.1 17 = .ok (.istore_n 3, 1) := by decide +kernel
theorem dL_law_18 : decode mL_law.2.1 18 = .ok (.iload_n 3, 1) := by decide +kernel
theorem dL_law_19 : decode mL_law.2.1 19 = .ok (.aload_n 0, 1) := by decide +kernel
theorem dL_law_20 : decode mL_law.2.1 20 = .ok (.arraylength, 1) := by decide +kernel
theorem dL_law_21 : decode mL_law.2.1 21 = .ok (.bipush (6), 2) := by decide +kernel
theorem dL_law_23 : decode mL_law.2.1 23 = .ok (.isub, 1) := by decide +kernel
theorem dL_law_24 : decode mL_law.2.1 24 = .ok (.if_icmp .gt (663), 3) := by decide +kernel
theorem dL_law_27 : decode mL_law.2.1 27 = .ok (.aload_n 0, 1) := by decide +kernel
theorem dL_law_28 : decode mL_law.2.1 28 = .ok (.iload_n 3, 1) := by decide +kernel
theorem dL_law_29 : decode mL_law.2.1 29 = .ok (.iaload, 1) := by decide +kernel
theorem dL_law_30 : decode mL_law.2.1 30 = .ok (.bipush (31), 2) := by decide +kernel
theorem dL_law_32 : decode mL_law.2.1 32 = .ok (.iand, 1) := by decide +kernel
theorem dL_law_33 : decode mL_law.2.1 33 = .ok (.tableswitch (648) (0) (18) #[(91), (124), (187), (220), (263), (286), (309), (342), (375), (418), (441), (464), (487), (500), (533), (566), (589), (612), (635)], 91) := by decide +kernel
theorem dL_law_124 : decode mL_law.2.1 124 = .ok (.aload_n 1, 1) := by decide +kernel
theorem dL_law_125 : decode mL_law.2.1 125 = .ok (.aload_n 0, 1) := by decide +kernel
theorem dL_law_126 : decode mL_law.2.1 126 = .ok (.iload_n 3, 1) := by decide +kernel
theorem dL_law_127 : decode mL_law.2.1 127 = .ok (.iconst 1, 1) := by decide +kernel
theorem dL_law_128 : decode mL_law.2.1 128 = .ok (.iadd, 1) := by decide +kernel
theorem dL_law_129 : decode mL_law.2.1 129 = .ok (.iaload, 1) := by decide +kernel
theorem dL_law_130 : decode mL_law.2.1 130 = .ok (.aload_n 0, 1) := by decide +kernel
theorem dL_law_131 : decode mL_law.2.1 131 = .ok (.iload_n 3, 1) := by decide +kernel
theorem dL_law_132 : decode mL_law.2.1 132 = .ok (.iconst 2, 1) := by decide +kernel
theorem dL_law_133 : decode mL_law.2.1 133 = .ok (.iadd, 1) := by decide +kernel
theorem dL_law_134 : decode mL_law.2.1 134 = .ok (.iaload, 1) := by decide +kernel
theorem dL_law_135 : decode mL_law.2.1 135 = .ok (.invokevirtual 13, 3) := by decide +kernel
theorem dL_law_138 : decode mL_law.2.1 138 = .ok (.pop, 1) := by decide +kernel
theorem dL_law_139 : decode mL_law.2.1 139 = .ok (.aload_n 2, 1) := by decide +kernel
theorem dL_law_140 : decode mL_law.2.1 140 = .ok (.aload_n 0, 1) := by decide +kernel
theorem dL_law_141 : decode mL_law.2.1 141 = .ok (.iload_n 3, 1) := by decide +kernel
theorem dL_law_142 : decode mL_law.2.1 142 = .ok (.iconst 1, 1) := by decide +kernel
theorem dL_law_143 : decode mL_law.2.1 143 = .ok (.iadd, 1) := by decide +kernel
theorem dL_law_144 : decode mL_law.2.1 144 = .ok (.iaload, 1) := by decide +kernel
theorem dL_law_145 : decode mL_law.2.1 145 = .ok (.aload_n 0, 1) := by decide +kernel
theorem dL_law_146 : decode mL_law.2.1 146 = .ok (.iload_n 3, 1) := by decide +kernel
theorem dL_law_147 : decode mL_law.2.1 147 = .ok (.iconst 2, 1) := by decide +kernel
theorem dL_law_148 : decode mL_law.2.1 148 = .ok (.iadd, 1) := by decide +kernel
theorem dL_law_149 : decode mL_law.2.1 149 = .ok (.iaload, 1) := by decide +kernel
theorem dL_law_150 : decode mL_law.2.1 150 = .ok (.invokevirtual 17, 3) := by decide +kernel
theorem dL_law_153 : decode mL_law.2.1 153 = .ok (.pop, 1) := by decide +kernel
theorem dL_law_154 : decode mL_law.2.1 154 = .ok (.goto (527), 3) := by decide +kernel
theorem dL_law_157 : decode mL_law.2.1 157 = .ok (.aload_n 1, 1) := by decide +kernel
theorem dL_law_158 : decode mL_law.2.1 158 = .ok (.aload_n 0, 1) := by decide +kernel
theorem dL_law_159 : decode mL_law.2.1 159 = .ok (.iload_n 3, 1) := by decide +kernel
theorem dL_law_160 : decode mL_law.2.1 160 = .ok (.iconst 1, 1) := by decide +kernel
theorem dL_law_161 : decode mL_law.2.1 161 = .ok (.iadd, 1) := by decide +kernel
theorem dL_law_162 : decode mL_law.2.1 162 = .ok (.iaload, 1) := by decide +kernel
theorem dL_law_163 : decode mL_law.2.1 163 = .ok (.aload_n 0, 1) := by decide +kernel
theorem dL_law_164 : decode mL_law.2.1 164 = .ok (.iload_n 3, 1) := by decide +kernel
theorem dL_law_165 : decode mL_law.2.1 165 = .ok (.iconst 2, 1) := by decide +kernel
theorem dL_law_166 : decode mL_law.2.1 166 = .ok (.iadd, 1) := by decide +kernel
theorem dL_law_167 : decode mL_law.2.1 167 = .ok (.iaload, 1) := by decide +kernel
theorem dL_law_168 : decode mL_law.2.1 168 = .ok (.aload_n 0, 1) := by decide +kernel
theorem dL_law_169 : decode mL_law.2.1 169 = .ok (.iload_n 3, 1) := by decide +kernel
theorem dL_law_170 : decode mL_law.2.1 170 = .ok (.iconst 3, 1) := by decide +kernel
theorem dL_law_171 : decode mL_law.2.1 171 = .ok (.iadd, 1) := by decide +kernel
theorem dL_law_172 : decode mL_law.2.1 172 = .ok (.iaload, 1) := by decide +kernel
theorem dL_law_173 : decode mL_law.2.1 173 = .ok (.aload_n 0, 1) := by decide +kernel
theorem dL_law_174 : decode mL_law.2.1 174 = .ok (.iload_n 3, 1) := by decide +kernel
theorem dL_law_175 : decode mL_law.2.1 175 = .ok (.iconst 4, 1) := by decide +kernel
theorem dL_law_176 : decode mL_law.2.1 176 = .ok (.iadd, 1) := by decide +kernel
theorem dL_law_177 : decode mL_law.2.1 177 = .ok (.iaload, 1) := by decide +kernel
theorem dL_law_178 : decode mL_law.2.1 178 = .ok (.aload_n 0, 1) := by decide +kernel
theorem dL_law_179 : decode mL_law.2.1 179 = .ok (.iload_n 3, 1) := by decide +kernel
theorem dL_law_180 : decode mL_law.2.1 180 = .ok (.iconst 5, 1) := by decide +kernel
theorem dL_law_181 : decode mL_law.2.1 181 = .ok (.iadd, 1) := by decide +kernel
theorem dL_law_182 : decode mL_law.2.1 182 = .ok (.iaload, 1) := by decide +kernel
theorem dL_law_183 : decode mL_law.2.1 183 = .ok (.invokevirtual 18, 3) := by decide +kernel
theorem dL_law_186 : decode mL_law.2.1 186 = .ok (.pop, 1) := by decide +kernel
theorem dL_law_187 : decode mL_law.2.1 187 = .ok (.aload_n 2, 1) := by decide +kernel
theorem dL_law_188 : decode mL_law.2.1 188 = .ok (.aload_n 0, 1) := by decide +kernel
theorem dL_law_189 : decode mL_law.2.1 189 = .ok (.iload_n 3, 1) := by decide +kernel
theorem dL_law_190 : decode mL_law.2.1 190 = .ok (.iconst 1, 1) := by decide +kernel
theorem dL_law_191 : decode mL_law.2.1 191 = .ok (.iadd, 1) := by decide +kernel
theorem dL_law_192 : decode mL_law.2.1 192 = .ok (.iaload, 1) := by decide +kernel
theorem dL_law_193 : decode mL_law.2.1 193 = .ok (.aload_n 0, 1) := by decide +kernel
theorem dL_law_194 : decode mL_law.2.1 194 = .ok (.iload_n 3, 1) := by decide +kernel
theorem dL_law_195 : decode mL_law.2.1 195 = .ok (.iconst 2, 1) := by decide +kernel
theorem dL_law_196 : decode mL_law.2.1 196 = .ok (.iadd, 1) := by decide +kernel
theorem dL_law_197 : decode mL_law.2.1 197 = .ok (.iaload, 1) := by decide +kernel
theorem dL_law_198 : decode mL_law.2.1 198 = .ok (.aload_n 0, 1) := by decide +kernel
theorem dL_law_199 : decode mL_law.2.1 199 = .ok (.iload_n 3, 1) := by decide +kernel
theorem dL_law_200 : decode mL_law.2.1 200 = .ok (.iconst 3, 1) := by decide +kernel
theorem dL_law_201 : decode mL_law.2.1 201 = .ok (.iadd, 1) := by decide +kernel
theorem dL_law_202 : decode mL_law.2.1 202 = .ok (.iaload, 1) := by decide +kernel
theorem dL_law_203 : decode mL_law.2.1 203 = .ok (.aload_n 0, 1) := by decide +kernel
theorem dL_law_204 : decode mL_law.2.1 204 = .ok (.iload_n 3, 1) := by decide +kernel
theorem dL_law_205 : decode mL_law.2.1 205 = .ok (.iconst 4, 1) := by decide +kernel
theorem dL_law_206 : decode mL_law.2.1 206 = .ok (.iadd, 1) := by decide +kernel
theorem dL_law_207 : decode mL_law.2.1 207 = .ok (.iaload, 1) := by decide +kernel
theorem dL_law_208 : decode mL_law.2.1 208 = .ok (.aload_n 0, 1) := by decide +kernel
theorem dL_law_209 : decode mL_law.2.1 209 = .ok (.iload_n 3, 1) := by decide +kernel
theorem dL_law_210 : decode mL_law.2.1 210 = .ok (.iconst 5, 1) := by decide +kernel
theorem dL_law_211 : decode mL_law.2.1 211 = .ok (.iadd, 1) := by decide +kernel
theorem dL_law_212 : decode mL_law.2.1 212 = .ok (.iaload, 1) := by decide +kernel
theorem dL_law_213 : decode mL_law.2.1 213 = .ok (.invokevirtual 22, 3) := by decide +kernel
theorem dL_law_216 : decode mL_law.2.1 216 = .ok (.pop, 1) := by decide +kernel
theorem dL_law_217 : decode mL_law.2.1 217 = .ok (.goto (464), 3) := by decide +kernel
theorem dL_law_220 : decode mL_law.2.1 220 = .ok (.aload_n 1, 1) := by decide +kernel
theorem dL_law_221 : decode mL_law.2.1 221 = .ok (.aload_n 0, 1) := by decide +kernel
theorem dL_law_222 : decode mL_law.2.1 222 = .ok (.iload_n 3, 1) := by decide +kernel
theorem dL_law_223 : decode mL_law.2.1 223 = .ok (.iconst 1, 1) := by decide +kernel
theorem dL_law_224 : decode mL_law.2.1 224 = .ok (.iadd, 1) := by decide +kernel
theorem dL_law_225 : decode mL_law.2.1 225 = .ok (.iaload, 1) := by decide +kernel
theorem dL_law_226 : decode mL_law.2.1 226 = .ok (.aload_n 0, 1) := by decide +kernel
theorem dL_law_227 : decode mL_law.2.1 227 = .ok (.iload_n 3, 1) := by decide +kernel
theorem dL_law_228 : decode mL_law.2.1 228 = .ok (.iconst 2, 1) := by decide +kernel
theorem dL_law_229 : decode mL_law.2.1 229 = .ok (.iadd, 1) := by decide +kernel
theorem dL_law_230 : decode mL_law.2.1 230 = .ok (.iaload, 1) := by decide +kernel
theorem dL_law_231 : decode mL_law.2.1 231 = .ok (.invokevirtual 23, 3) := by decide +kernel
theorem dL_law_234 : decode mL_law.2.1 234 = .ok (.pop, 1) := by decide +kernel
theorem dL_law_235 : decode mL_law.2.1 235 = .ok (.aload_n 2, 1) := by decide +kernel
theorem dL_law_236 : decode mL_law.2.1 236 = .ok (.aload_n 0, 1) := by decide +kernel
theorem dL_law_237 : decode mL_law.2.1 237 = .ok (.iload_n 3, 1) := by decide +kernel
theorem dL_law_238 : decode mL_law.2.1 238 = .ok (.iconst 1, 1) := by decide +kernel
theorem dL_law_239 : decode mL_law.2.1 239 = .ok (.iadd, 1) := by decide +kernel
theorem dL_law_240 : decode mL_law.2.1 240 = .ok (.iaload, 1) := by decide +kernel
theorem dL_law_241 : decode mL_law.2.1 241 = .ok (.aload_n 0, 1) := by decide +kernel
theorem dL_law_242 : decode mL_law.2.1 242 = .ok (.iload_n 3, 1) := by decide +kernel
theorem dL_law_243 : decode mL_law.2.1 243 = .ok (.iconst 2, 1) := by decide +kernel
theorem dL_law_244 : decode mL_law.2.1 244 = .ok (.iadd, 1) := by decide +kernel
theorem dL_law_245 : decode mL_law.2.1 245 = .ok (.iaload, 1) := by decide +kernel
theorem dL_law_246 : decode mL_law.2.1 246 = .ok (.invokevirtual 26, 3) := by decide +kernel
theorem dL_law_249 : decode mL_law.2.1 249 = .ok (.pop, 1) := by decide +kernel
theorem dL_law_250 : decode mL_law.2.1 250 = .ok (.goto (431), 3) := by decide +kernel
theorem dL_law_253 : decode mL_law.2.1 253 = .ok (.aload_n 1, 1) := by decide +kernel
theorem dL_law_254 : decode mL_law.2.1 254 = .ok (.aload_n 0, 1) := by decide +kernel
theorem dL_law_255 : decode mL_law.2.1 255 = .ok (.iload_n 3, 1) := by decide +kernel
theorem dL_law_256 : decode mL_law.2.1 256 = .ok (.iconst 1, 1) := by decide +kernel
theorem dL_law_257 : decode mL_law.2.1 257 = .ok (.iadd, 1) := by decide +kernel
theorem dL_law_258 : decode mL_law.2.1 258 = .ok (.iaload, 1) := by decide +kernel
theorem dL_law_259 : decode mL_law.2.1 259 = .ok (.aload_n 0, 1) := by decide +kernel
theorem dL_law_260 : decode mL_law.2.1 260 = .ok (.iload_n 3, 1) := by decide +kernel
theorem dL_law_261 : decode mL_law.2.1 261 = .ok (.iconst 2, 1) := by decide +kernel
theorem dL_law_262 : decode mL_law.2.1 262 = .ok (.iadd, 1) := by decide +kernel
theorem dL_law_263 : decode mL_law.2.1 263 = .ok (.iaload, 1) := by decide +kernel
theorem dL_law_264 : decode mL_law.2.1 264 = .ok (.aload_n 0, 1) := by decide +kernel
theorem dL_law_265 : decode mL_law.2.1 265 = .ok (.iload_n 3, 1) := by decide +kernel
theorem dL_law_266 : decode mL_law.2.1 266 = .ok (.iconst 3, 1) := by decide +kernel
theorem dL_law_267 : decode mL_law.2.1 267 = .ok (.iadd, 1) := by decide +kernel
theorem dL_law_268 : decode mL_law.2.1 268 = .ok (.iaload, 1) := by decide +kernel
theorem dL_law_269 : decode mL_law.2.1 269 = .ok (.invokevirtual 27, 3) := by decide +kernel
theorem dL_law_272 : decode mL_law.2.1 272 = .ok (.pop, 1) := by decide +kernel
theorem dL_law_273 : decode mL_law.2.1 273 = .ok (.aload_n 2, 1) := by decide +kernel
theorem dL_law_274 : decode mL_law.2.1 274 = .ok (.aload_n 0, 1) := by decide +kernel
theorem dL_law_275 : decode mL_law.2.1 275 = .ok (.iload_n 3, 1) := by decide +kernel
theorem dL_law_276 : decode mL_law.2.1 276 = .ok (.iconst 1, 1) := by decide +kernel
theorem dL_law_277 : decode mL_law.2.1 277 = .ok (.iadd, 1) := by decide +kernel
theorem dL_law_278 : decode mL_law.2.1 278 = .ok (.iaload, 1) := by decide +kernel
theorem dL_law_279 : decode mL_law.2.1 279 = .ok (.aload_n 0, 1) := by decide +kernel
theorem dL_law_280 : decode mL_law.2.1 280 = .ok (.iload_n 3, 1) := by decide +kernel
theorem dL_law_281 : decode mL_law.2.1 281 = .ok (.iconst 2, 1) := by decide +kernel
theorem dL_law_282 : decode mL_law.2.1 282 = .ok (.iadd, 1) := by decide +kernel
theorem dL_law_283 : decode mL_law.2.1 283 = .ok (.iaload, 1) := by decide +kernel
theorem dL_law_284 : decode mL_law.2.1 284 = .ok (.aload_n 0, 1) := by decide +kernel
theorem dL_law_285 : decode mL_law.2.1 285 = .ok (.iload_n 3, 1) := by decide +kernel
theorem dL_law_286 : decode mL_law.2.1 286 = .ok (.iconst 3, 1) := by decide +kernel
theorem dL_law_287 : decode mL_law.2.1 287 = .ok (.iadd, 1) := by decide +kernel
theorem dL_law_288 : decode mL_law.2.1 288 = .ok (.iaload, 1) := by decide +kernel
theorem dL_law_289 : decode mL_law.2.1 289 = .ok (.invokevirtual 31, 3) := by decide +kernel
theorem dL_law_292 : decode mL_law.2.1 292 = .ok (.pop, 1) := by decide +kernel
theorem dL_law_293 : decode mL_law.2.1 293 = .ok (.goto (388), 3) := by decide +kernel
theorem dL_law_296 : decode mL_law.2.1 296 = .ok (.aload_n 1, 1) := by decide +kernel
theorem dL_law_297 : decode mL_law.2.1 297 = .ok (.aload_n 0, 1) := by decide +kernel
theorem dL_law_298 : decode mL_law.2.1 298 = .ok (.iload_n 3, 1) := by decide +kernel
theorem dL_law_299 : decode mL_law.2.1 299 = .ok (.iconst 1, 1) := by decide +kernel
theorem dL_law_300 : decode mL_law.2.1 300 = .ok (.iadd, 1) := by decide +kernel
theorem dL_law_301 : decode mL_law.2.1 301 = .ok (.iaload, 1) := by decide +kernel
theorem dL_law_302 : decode mL_law.2.1 302 = .ok (.invokevirtual 32, 3) := by decide +kernel
theorem dL_law_305 : decode mL_law.2.1 305 = .ok (.pop, 1) := by decide +kernel
theorem dL_law_306 : decode mL_law.2.1 306 = .ok (.aload_n 2, 1) := by decide +kernel
theorem dL_law_307 : decode mL_law.2.1 307 = .ok (.aload_n 0, 1) := by decide +kernel
theorem dL_law_308 : decode mL_law.2.1 308 = .ok (.iload_n 3, 1) := by decide +kernel
theorem dL_law_309 : decode mL_law.2.1 309 = .ok (.iconst 1, 1) := by decide +kernel
theorem dL_law_310 : decode mL_law.2.1 310 = .ok (.iadd, 1) := by decide +kernel
theorem dL_law_311 : decode mL_law.2.1 311 = .ok (.iaload, 1) := by decide +kernel
theorem dL_law_312 : decode mL_law.2.1 312 = .ok (.invokevirtual 36, 3) := by decide +kernel
theorem dL_law_315 : decode mL_law.2.1 315 = .ok (.pop, 1) := by decide +kernel
theorem dL_law_316 : decode mL_law.2.1 316 = .ok (.goto (365), 3) := by decide +kernel
theorem dL_law_319 : decode mL_law.2.1 319 = .ok (.aload_n 1, 1) := by decide +kernel
theorem dL_law_320 : decode mL_law.2.1 320 = .ok (.aload_n 0, 1) := by decide +kernel
theorem dL_law_321 : decode mL_law.2.1 321 = .ok (.iload_n 3, 1) := by decide +kernel
theorem dL_law_322 : decode mL_law.2.1 322 = .ok (.iconst 1, 1) := by decide +kernel
theorem dL_law_323 : decode mL_law.2.1 323 = .ok (.iadd, 1) := by decide +kernel
theorem dL_law_324 : decode mL_law.2.1 324 = .ok (.iaload, 1) := by decide +kernel
theorem dL_law_325 : decode mL_law.2.1 325 = .ok (.invokevirtual 37, 3) := by decide +kernel
theorem dL_law_328 : decode mL_law.2.1 328 = .ok (.pop, 1) := by decide +kernel
theorem dL_law_329 : decode mL_law.2.1 329 = .ok (.aload_n 2, 1) := by decide +kernel
theorem dL_law_330 : decode mL_law.2.1 330 = .ok (.aload_n 0, 1) := by decide +kernel
theorem dL_law_331 : decode mL_law.2.1 331 = .ok (.iload_n 3, 1) := by decide +kernel
theorem dL_law_332 : decode mL_law.2.1 332 = .ok (.iconst 1, 1) := by decide +kernel
theorem dL_law_333 : decode mL_law.2.1 333 = .ok (.iadd, 1) := by decide +kernel
theorem dL_law_334 : decode mL_law.2.1 334 = .ok (.iaload, 1) := by decide +kernel
theorem dL_law_335 : decode mL_law.2.1 335 = .ok (.invokevirtual 40, 3) := by decide +kernel
theorem dL_law_338 : decode mL_law.2.1 338 = .ok (.pop, 1) := by decide +kernel
theorem dL_law_339 : decode mL_law.2.1 339 = .ok (.goto (342), 3) := by decide +kernel
theorem dL_law_342 : decode mL_law.2.1 342 = .ok (.aload_n 1, 1) := by decide +kernel
theorem dL_law_343 : decode mL_law.2.1 343 = .ok (.aload_n 0, 1) := by decide +kernel
theorem dL_law_344 : decode mL_law.2.1 344 = .ok (.iload_n 3, 1) := by decide +kernel
theorem dL_law_345 : decode mL_law.2.1 345 = .ok (.iconst 1, 1) := by decide +kernel
theorem dL_law_346 : decode mL_law.2.1 346 = .ok (.iadd, 1) := by decide +kernel
theorem dL_law_347 : decode mL_law.2.1 347 = .ok (.iaload, 1) := by decide +kernel
theorem dL_law_348 : decode mL_law.2.1 348 = .ok (.aload_n 0, 1) := by decide +kernel
theorem dL_law_349 : decode mL_law.2.1 349 = .ok (.iload_n 3, 1) := by decide +kernel
theorem dL_law_350 : decode mL_law.2.1 350 = .ok (.iconst 2, 1) := by decide +kernel
theorem dL_law_351 : decode mL_law.2.1 351 = .ok (.iadd, 1) := by decide +kernel
theorem dL_law_352 : decode mL_law.2.1 352 = .ok (.iaload, 1) := by decide +kernel
theorem dL_law_353 : decode mL_law.2.1 353 = .ok (.invokevirtual 41, 3) := by decide +kernel
theorem dL_law_356 : decode mL_law.2.1 356 = .ok (.pop, 1) := by decide +kernel
theorem dL_law_357 : decode mL_law.2.1 357 = .ok (.aload_n 2, 1) := by decide +kernel
theorem dL_law_358 : decode mL_law.2.1 358 = .ok (.aload_n 0, 1) := by decide +kernel
theorem dL_law_359 : decode mL_law.2.1 359 = .ok (.iload_n 3, 1) := by decide +kernel
theorem dL_law_360 : decode mL_law.2.1 360 = .ok (.iconst 1, 1) := by decide +kernel
theorem dL_law_361 : decode mL_law.2.1 361 = .ok (.iadd, 1) := by decide +kernel
theorem dL_law_362 : decode mL_law.2.1 362 = .ok (.iaload, 1) := by decide +kernel
theorem dL_law_363 : decode mL_law.2.1 363 = .ok (.aload_n 0, 1) := by decide +kernel
theorem dL_law_364 : decode mL_law.2.1 364 = .ok (.iload_n 3, 1) := by decide +kernel
theorem dL_law_365 : decode mL_law.2.1 365 = .ok (.iconst 2, 1) := by decide +kernel
theorem dL_law_366 : decode mL_law.2.1 366 = .ok (.iadd, 1) := by decide +kernel
theorem dL_law_367 : decode mL_law.2.1 367 = .ok (.iaload, 1) := by decide +kernel
theorem dL_law_368 : decode mL_law.2.1 368 = .ok (.invokevirtual 45, 3) := by decide +kernel
theorem dL_law_371 : decode mL_law.2.1 371 = .ok (.pop, 1) := by decide +kernel
theorem dL_law_372 : decode mL_law.2.1 372 = .ok (.goto (309), 3) := by decide +kernel
theorem dL_law_375 : decode mL_law.2.1 375 = .ok (.aload_n 1, 1) := by decide +kernel
theorem dL_law_376 : decode mL_law.2.1 376 = .ok (.aload_n 0, 1) := by decide +kernel
theorem dL_law_377 : decode mL_law.2.1 377 = .ok (.iload_n 3, 1) := by decide +kernel
theorem dL_law_378 : decode mL_law.2.1 378 = .ok (.iconst 1, 1) := by decide +kernel
theorem dL_law_379 : decode mL_law.2.1 379 = .ok (.iadd, 1) := by decide +kernel
theorem dL_law_380 : decode mL_law.2.1 380 = .ok (.iaload, 1) := by decide +kernel
theorem dL_law_381 : decode mL_law.2.1 381 = .ok (.aload_n 0, 1) := by decide +kernel
theorem dL_law_382 : decode mL_law.2.1 382 = .ok (.iload_n 3, 1) := by decide +kernel
theorem dL_law_383 : decode mL_law.2.1 383 = .ok (.iconst 2, 1) := by decide +kernel
theorem dL_law_384 : decode mL_law.2.1 384 = .ok (.iadd, 1) := by decide +kernel
theorem dL_law_385 : decode mL_law.2.1 385 = .ok (.iaload, 1) := by decide +kernel
theorem dL_law_386 : decode mL_law.2.1 386 = .ok (.invokevirtual 46, 3) := by decide +kernel
theorem dL_law_389 : decode mL_law.2.1 389 = .ok (.pop, 1) := by decide +kernel
theorem dL_law_390 : decode mL_law.2.1 390 = .ok (.aload_n 2, 1) := by decide +kernel
theorem dL_law_391 : decode mL_law.2.1 391 = .ok (.aload_n 0, 1) := by decide +kernel
theorem dL_law_392 : decode mL_law.2.1 392 = .ok (.iload_n 3, 1) := by decide +kernel
theorem dL_law_393 : decode mL_law.2.1 393 = .ok (.iconst 1, 1) := by decide +kernel
theorem dL_law_394 : decode mL_law.2.1 394 = .ok (.iadd, 1) := by decide +kernel
theorem dL_law_395 : decode mL_law.2.1 395 = .ok (.iaload, 1) := by decide +kernel
theorem dL_law_396 : decode mL_law.2.1 396 = .ok (.aload_n 0, 1) := by decide +kernel
theorem dL_law_397 : decode mL_law.2.1 397 = .ok (.iload_n 3, 1) := by decide +kernel
theorem dL_law_398 : decode mL_law.2.1 398 = .ok (.iconst 2, 1) := by decide +kernel
theorem dL_law_399 : decode mL_law.2.1 399 = .ok (.iadd, 1) := by decide +kernel
theorem dL_law_400 : decode mL_law.2.1 400 = .ok (.iaload, 1) := by decide +kernel
theorem dL_law_401 : decode mL_law.2.1 401 = .ok (.invokevirtual 49, 3) := by decide +kernel
theorem dL_law_404 : decode mL_law.2.1 404 = .ok (.pop, 1) := by decide +kernel
theorem dL_law_405 : decode mL_law.2.1 405 = .ok (.goto (276), 3) := by decide +kernel
theorem dL_law_408 : decode mL_law.2.1 408 = .ok (.aload_n 1, 1) := by decide +kernel
theorem dL_law_409 : decode mL_law.2.1 409 = .ok (.aload_n 0, 1) := by decide +kernel
theorem dL_law_410 : decode mL_law.2.1 410 = .ok (.iload_n 3, 1) := by decide +kernel
theorem dL_law_411 : decode mL_law.2.1 411 = .ok (.iconst 1, 1) := by decide +kernel
theorem dL_law_412 : decode mL_law.2.1 412 = .ok (.iadd, 1) := by decide +kernel
theorem dL_law_413 : decode mL_law.2.1 413 = .ok (.iaload, 1) := by decide +kernel
theorem dL_law_414 : decode mL_law.2.1 414 = .ok (.aload_n 0, 1) := by decide +kernel
theorem dL_law_415 : decode mL_law.2.1 415 = .ok (.iload_n 3, 1) := by decide +kernel
theorem dL_law_416 : decode mL_law.2.1 416 = .ok (.iconst 2, 1) := by decide +kernel
theorem dL_law_417 : decode mL_law.2.1 417 = .ok (.iadd, 1) := by decide +kernel
theorem dL_law_418 : decode mL_law.2.1 418 = .ok (.iaload, 1) := by decide +kernel
theorem dL_law_419 : decode mL_law.2.1 419 = .ok (.aload_n 0, 1) := by decide +kernel
theorem dL_law_420 : decode mL_law.2.1 420 = .ok (.iload_n 3, 1) := by decide +kernel
theorem dL_law_421 : decode mL_law.2.1 421 = .ok (.iconst 3, 1) := by decide +kernel
theorem dL_law_422 : decode mL_law.2.1 422 = .ok (.iadd, 1) := by decide +kernel
theorem dL_law_423 : decode mL_law.2.1 423 = .ok (.iaload, 1) := by decide +kernel
theorem dL_law_424 : decode mL_law.2.1 424 = .ok (.invokevirtual 50, 3) := by decide +kernel
theorem dL_law_427 : decode mL_law.2.1 427 = .ok (.pop, 1) := by decide +kernel
theorem dL_law_428 : decode mL_law.2.1 428 = .ok (.aload_n 2, 1) := by decide +kernel
theorem dL_law_429 : decode mL_law.2.1 429 = .ok (.aload_n 0, 1) := by decide +kernel
theorem dL_law_430 : decode mL_law.2.1 430 = .ok (.iload_n 3, 1) := by decide +kernel
theorem dL_law_431 : decode mL_law.2.1 431 = .ok (.iconst 1, 1) := by decide +kernel
theorem dL_law_432 : decode mL_law.2.1 432 = .ok (.iadd, 1) := by decide +kernel
theorem dL_law_433 : decode mL_law.2.1 433 = .ok (.iaload, 1) := by decide +kernel
theorem dL_law_434 : decode mL_law.2.1 434 = .ok (.aload_n 0, 1) := by decide +kernel
theorem dL_law_435 : decode mL_law.2.1 435 = .ok (.iload_n 3, 1) := by decide +kernel
theorem dL_law_436 : decode mL_law.2.1 436 = .ok (.iconst 2, 1) := by decide +kernel
theorem dL_law_437 : decode mL_law.2.1 437 = .ok (.iadd, 1) := by decide +kernel
theorem dL_law_438 : decode mL_law.2.1 438 = .ok (.iaload, 1) := by decide +kernel
theorem dL_law_439 : decode mL_law.2.1 439 = .ok (.aload_n 0, 1) := by decide +kernel
theorem dL_law_440 : decode mL_law.2.1 440 = .ok (.iload_n 3, 1) := by decide +kernel
theorem dL_law_441 : decode mL_law.2.1 441 = .ok (.iconst 3, 1) := by decide +kernel
theorem dL_law_442 : decode mL_law.2.1 442 = .ok (.iadd, 1) := by decide +kernel
theorem dL_law_443 : decode mL_law.2.1 443 = .ok (.iaload, 1) := by decide +kernel
theorem dL_law_444 : decode mL_law.2.1 444 = .ok (.invokevirtual 53, 3) := by decide +kernel
theorem dL_law_447 : decode mL_law.2.1 447 = .ok (.pop, 1) := by decide +kernel
theorem dL_law_448 : decode mL_law.2.1 448 = .ok (.goto (233), 3) := by decide +kernel
theorem dL_law_451 : decode mL_law.2.1 451 = .ok (.aload_n 1, 1) := by decide +kernel
theorem dL_law_452 : decode mL_law.2.1 452 = .ok (.aload_n 0, 1) := by decide +kernel
theorem dL_law_453 : decode mL_law.2.1 453 = .ok (.iload_n 3, 1) := by decide +kernel
theorem dL_law_454 : decode mL_law.2.1 454 = .ok (.iconst 1, 1) := by decide +kernel
theorem dL_law_455 : decode mL_law.2.1 455 = .ok (.iadd, 1) := by decide +kernel
theorem dL_law_456 : decode mL_law.2.1 456 = .ok (.iaload, 1) := by decide +kernel
theorem dL_law_457 : decode mL_law.2.1 457 = .ok (.invokevirtual 54, 3) := by decide +kernel
theorem dL_law_460 : decode mL_law.2.1 460 = .ok (.pop, 1) := by decide +kernel
theorem dL_law_461 : decode mL_law.2.1 461 = .ok (.aload_n 2, 1) := by decide +kernel
theorem dL_law_462 : decode mL_law.2.1 462 = .ok (.aload_n 0, 1) := by decide +kernel
theorem dL_law_463 : decode mL_law.2.1 463 = .ok (.iload_n 3, 1) := by decide +kernel
theorem dL_law_464 : decode mL_law.2.1 464 = .ok (.iconst 1, 1) := by decide +kernel
theorem dL_law_465 : decode mL_law.2.1 465 = .ok (.iadd, 1) := by decide +kernel
theorem dL_law_466 : decode mL_law.2.1 466 = .ok (.iaload, 1) := by decide +kernel
theorem dL_law_467 : decode mL_law.2.1 467 = .ok (.invokevirtual 57, 3) := by decide +kernel
theorem dL_law_470 : decode mL_law.2.1 470 = .ok (.pop, 1) := by decide +kernel
theorem dL_law_471 : decode mL_law.2.1 471 = .ok (.goto (210), 3) := by decide +kernel
theorem dL_law_474 : decode mL_law.2.1 474 = .ok (.aload_n 1, 1) := by decide +kernel
theorem dL_law_475 : decode mL_law.2.1 475 = .ok (.aload_n 0, 1) := by decide +kernel
theorem dL_law_476 : decode mL_law.2.1 476 = .ok (.iload_n 3, 1) := by decide +kernel
theorem dL_law_477 : decode mL_law.2.1 477 = .ok (.iconst 1, 1) := by decide +kernel
theorem dL_law_478 : decode mL_law.2.1 478 = .ok (.iadd, 1) := by decide +kernel
theorem dL_law_479 : decode mL_law.2.1 479 = .ok (.iaload, 1) := by decide +kernel
theorem dL_law_480 : decode mL_law.2.1 480 = .ok (.invokevirtual 58, 3) := by decide +kernel
theorem dL_law_483 : decode mL_law.2.1 483 = .ok (.pop, 1) := by decide +kernel
theorem dL_law_484 : decode mL_law.2.1 484 = .ok (.aload_n 2, 1) := by decide +kernel
theorem dL_law_485 : decode mL_law.2.1 485 = .ok (.aload_n 0, 1) := by decide +kernel
theorem dL_law_486 : decode mL_law.2.1 486 = .ok (.iload_n 3, 1) := by decide +kernel
theorem dL_law_487 : decode mL_law.2.1 487 = .ok (.iconst 1, 1) := by decide +kernel
theorem dL_law_488 : decode mL_law.2.1 488 = .ok (.iadd, 1) := by decide +kernel
theorem dL_law_489 : decode mL_law.2.1 489 = .ok (.iaload, 1) := by decide +kernel
theorem dL_law_490 : decode mL_law.2.1 490 = .ok (.invokevirtual 61, 3) := by decide +kernel
theorem dL_law_493 : decode mL_law.2.1 493 = .ok (.pop, 1) := by decide +kernel
theorem dL_law_494 : decode mL_law.2.1 494 = .ok (.goto (187), 3) := by decide +kernel
theorem dL_law_497 : decode mL_law.2.1 497 = .ok (.aload_n 1, 1) := by decide +kernel
theorem dL_law_498 : decode mL_law.2.1 498 = .ok (.aload_n 0, 1) := by decide +kernel
theorem dL_law_499 : decode mL_law.2.1 499 = .ok (.iload_n 3, 1) := by decide +kernel
theorem dL_law_500 : decode mL_law.2.1 500 = .ok (.iconst 1, 1) := by decide +kernel
theorem dL_law_501 : decode mL_law.2.1 501 = .ok (.iadd, 1) := by decide +kernel
theorem dL_law_502 : decode mL_law.2.1 502 = .ok (.iaload, 1) := by decide +kernel
theorem dL_law_503 : decode mL_law.2.1 503 = .ok (.invokevirtual 62, 3) := by decide +kernel
theorem dL_law_506 : decode mL_law.2.1 506 = .ok (.pop, 1) := by decide +kernel
theorem dL_law_507 : decode mL_law.2.1 507 = .ok (.aload_n 2, 1) := by decide +kernel
theorem dL_law_508 : decode mL_law.2.1 508 = .ok (.aload_n 0, 1) := by decide +kernel
theorem dL_law_509 : decode mL_law.2.1 509 = .ok (.iload_n 3, 1) := by decide +kernel
theorem dL_law_510 : decode mL_law.2.1 510 = .ok (.iconst 1, 1) := by decide +kernel
theorem dL_law_511 : decode mL_law.2.1 511 = .ok (.iadd, 1) := by decide +kernel
theorem dL_law_512 : decode mL_law.2.1 512 = .ok (.iaload, 1) := by decide +kernel
theorem dL_law_513 : decode mL_law.2.1 513 = .ok (.invokevirtual 65, 3) := by decide +kernel
theorem dL_law_516 : decode mL_law.2.1 516 = .ok (.pop, 1) := by decide +kernel
theorem dL_law_517 : decode mL_law.2.1 517 = .ok (.goto (164), 3) := by decide +kernel
theorem dL_law_520 : decode mL_law.2.1 520 = .ok (.aload_n 1, 1) := by decide +kernel
theorem dL_law_521 : decode mL_law.2.1 521 = .ok (.invokevirtual 66, 3) := by decide +kernel
theorem dL_law_524 : decode mL_law.2.1 524 = .ok (.pop, 1) := by decide +kernel
theorem dL_law_525 : decode mL_law.2.1 525 = .ok (.aload_n 2, 1) := by decide +kernel
theorem dL_law_526 : decode mL_law.2.1 526 = .ok (.invokevirtual 70, 3) := by decide +kernel
theorem dL_law_529 : decode mL_law.2.1 529 = .ok (.pop, 1) := by decide +kernel
theorem dL_law_530 : decode mL_law.2.1 530 = .ok (.goto (151), 3) := by decide +kernel
theorem dL_law_533 : decode mL_law.2.1 533 = .ok (.aload_n 1, 1) := by decide +kernel
theorem dL_law_534 : decode mL_law.2.1 534 = .ok (.aload_n 0, 1) := by decide +kernel
theorem dL_law_535 : decode mL_law.2.1 535 = .ok (.iload_n 3, 1) := by decide +kernel
theorem dL_law_536 : decode mL_law.2.1 536 = .ok (.iconst 1, 1) := by decide +kernel
theorem dL_law_537 : decode mL_law.2.1 537 = .ok (.iadd, 1) := by decide +kernel
theorem dL_law_538 : decode mL_law.2.1 538 = .ok (.iaload, 1) := by decide +kernel
theorem dL_law_539 : decode mL_law.2.1 539 = .ok (.aload_n 0, 1) := by decide +kernel
theorem dL_law_540 : decode mL_law.2.1 540 = .ok (.iload_n 3, 1) := by decide +kernel
theorem dL_law_541 : decode mL_law.2.1 541 = .ok (.iconst 2, 1) := by decide +kernel
theorem dL_law_542 : decode mL_law.2.1 542 = .ok (.iadd, 1) := by decide +kernel
theorem dL_law_543 : decode mL_law.2.1 543 = .ok (.iaload, 1) := by decide +kernel
theorem dL_law_544 : decode mL_law.2.1 544 = .ok (.invokevirtual 71, 3) := by decide +kernel
theorem dL_law_547 : decode mL_law.2.1 547 = .ok (.pop, 1) := by decide +kernel
theorem dL_law_548 : decode mL_law.2.1 548 = .ok (.aload_n 2, 1) := by decide +kernel
theorem dL_law_549 : decode mL_law.2.1 549 = .ok (.aload_n 0, 1) := by decide +kernel
theorem dL_law_550 : decode mL_law.2.1 550 = .ok (.iload_n 3, 1) := by decide +kernel
theorem dL_law_551 : decode mL_law.2.1 551 = .ok (.iconst 1, 1) := by decide +kernel
theorem dL_law_552 : decode mL_law.2.1 552 = .ok (.iadd, 1) := by decide +kernel
theorem dL_law_553 : decode mL_law.2.1 553 = .ok (.iaload, 1) := by decide +kernel
theorem dL_law_554 : decode mL_law.2.1 554 = .ok (.aload_n 0, 1) := by decide +kernel
theorem dL_law_555 : decode mL_law.2.1 555 = .ok (.iload_n 3, 1) := by decide +kernel
theorem dL_law_556 : decode mL_law.2.1 556 = .ok (.iconst 2, 1) := by decide +kernel
theorem dL_law_557 : decode mL_law.2.1 557 = .ok (.iadd, 1) := by decide +kernel
theorem dL_law_558 : decode mL_law.2.1 558 = .ok (.iaload, 1) := by decide +kernel
theorem dL_law_559 : decode mL_law.2.1 559 = .ok (.invokevirtual 74, 3) := by decide +kernel
theorem dL_law_562 : decode mL_law.2.1 562 = .ok (.pop, 1) := by decide +kernel
theorem dL_law_563 : decode mL_law.2.1 563 = .ok (.goto (118), 3) := by decide +kernel
theorem dL_law_566 : decode mL_law.2.1 566 = .ok (.aload_n 1, 1) := by decide +kernel
theorem dL_law_567 : decode mL_law.2.1 567 = .ok (.aload_n 0, 1) := by decide +kernel
theorem dL_law_568 : decode mL_law.2.1 568 = .ok (.iload_n 3, 1) := by decide +kernel
theorem dL_law_569 : decode mL_law.2.1 569 = .ok (.iconst 1, 1) := by decide +kernel
theorem dL_law_570 : decode mL_law.2.1 570 = .ok (.iadd, 1) := by decide +kernel
theorem dL_law_571 : decode mL_law.2.1 571 = .ok (.iaload, 1) := by decide +kernel
theorem dL_law_572 : decode mL_law.2.1 572 = .ok (.aload_n 0, 1) := by decide +kernel
theorem dL_law_573 : decode mL_law.2.1 573 = .ok (.iload_n 3, 1) := by decide +kernel
theorem dL_law_574 : decode mL_law.2.1 574 = .ok (.iconst 2, 1) := by decide +kernel
theorem dL_law_575 : decode mL_law.2.1 575 = .ok (.iadd, 1) := by decide +kernel
theorem dL_law_576 : decode mL_law.2.1 576 = .ok (.iaload, 1) := by decide +kernel
theorem dL_law_577 : decode mL_law.2.1 577 = .ok (.invokevirtual 75, 3) := by decide +kernel
theorem dL_law_580 : decode mL_law.2.1 580 = .ok (.pop, 1) := by decide +kernel
theorem dL_law_581 : decode mL_law.2.1 581 = .ok (.aload_n 2, 1) := by decide +kernel
theorem dL_law_582 : decode mL_law.2.1 582 = .ok (.aload_n 0, 1) := by decide +kernel
theorem dL_law_583 : decode mL_law.2.1 583 = .ok (.iload_n 3, 1) := by decide +kernel
theorem dL_law_584 : decode mL_law.2.1 584 = .ok (.iconst 1, 1) := by decide +kernel
theorem dL_law_585 : decode mL_law.2.1 585 = .ok (.iadd, 1) := by decide +kernel
theorem dL_law_586 : decode mL_law.2.1 586 = .ok (.iaload, 1) := by decide +kernel
theorem dL_law_587 : decode mL_law.2.1 587 = .ok (.aload_n 0, 1) := by decide +kernel
theorem dL_law_588 : decode mL_law.2.1 588 = .ok (.iload_n 3, 1) := by decide +kernel
theorem dL_law_589 : decode mL_law.2.1 589 = .ok (.iconst 2, 1) := by decide +kernel
theorem dL_law_590 : decode mL_law.2.1 590 = .ok (.iadd, 1) := by decide +kernel
theorem dL_law_591 : decode mL_law.2.1 591 = .ok (.iaload, 1) := by decide +kernel
theorem dL_law_592 : decode mL_law.2.1 592 = .ok (.invokevirtual 78, 3) := by decide +kernel
theorem dL_law_595 : decode mL_law.2.1 595 = .ok (.pop, 1) := by decide +kernel
theorem dL_law_596 : decode mL_law.2.1 596 = .ok (.goto (85), 3) := by decide +kernel
theorem dL_law_599 : decode mL_law.2.1 599 = .ok (.aload_n 1, 1) := by decide +kernel
theorem dL_law_600 : decode mL_law.2.1 600 = .ok (.aload_n 0, 1) := by decide +kernel
theorem dL_law_601 : decode mL_law.2.1 601 = .ok (.iload_n 3, 1) := by decide +kernel
theorem dL_law_602 : decode mL_law.2.1 602 = .ok (.iconst 1, 1) := by decide +kernel
theorem dL_law_603 : decode mL_law.2.1 603 = .ok (.iadd, 1) := by decide +kernel
theorem dL_law_604 : decode mL_law.2.1 604 = .ok (.iaload, 1) := by decide +kernel
theorem dL_law_605 : decode mL_law.2.1 605 = .ok (.invokevirtual 79, 3) := by decide +kernel
theorem dL_law_608 : decode mL_law.2.1 608 = .ok (.pop2, 1) := by decide +kernel
theorem dL_law_609 : decode mL_law.2.1 609 = .ok (.aload_n 2, 1) := by decide +kernel
theorem dL_law_610 : decode mL_law.2.1 610 = .ok (.aload_n 0, 1) := by decide +kernel
theorem dL_law_611 : decode mL_law.2.1 611 = .ok (.iload_n 3, 1) := by decide +kernel
theorem dL_law_612 : decode mL_law.2.1 612 = .ok (.iconst 1, 1) := by decide +kernel
theorem dL_law_613 : decode mL_law.2.1 613 = .ok (.iadd, 1) := by decide +kernel
theorem dL_law_614 : decode mL_law.2.1 614 = .ok (.iaload, 1) := by decide +kernel
theorem dL_law_615 : decode mL_law.2.1 615 = .ok (.invokevirtual 83, 3) := by decide +kernel
theorem dL_law_618 : decode mL_law.2.1 618 = .ok (.pop2, 1) := by decide +kernel
theorem dL_law_619 : decode mL_law.2.1 619 = .ok (.goto (62), 3) := by decide +kernel
theorem dL_law_622 : decode mL_law.2.1 622 = .ok (.aload_n 1, 1) := by decide +kernel
theorem dL_law_623 : decode mL_law.2.1 623 = .ok (.aload_n 0, 1) := by decide +kernel
theorem dL_law_624 : decode mL_law.2.1 624 = .ok (.iload_n 3, 1) := by decide +kernel
theorem dL_law_625 : decode mL_law.2.1 625 = .ok (.iconst 1, 1) := by decide +kernel
theorem dL_law_626 : decode mL_law.2.1 626 = .ok (.iadd, 1) := by decide +kernel
theorem dL_law_627 : decode mL_law.2.1 627 = .ok (.iaload, 1) := by decide +kernel
theorem dL_law_628 : decode mL_law.2.1 628 = .ok (.invokevirtual 84, 3) := by decide +kernel
theorem dL_law_631 : decode mL_law.2.1 631 = .ok (.pop2, 1) := by decide +kernel
theorem dL_law_632 : decode mL_law.2.1 632 = .ok (.aload_n 2, 1) := by decide +kernel
theorem dL_law_633 : decode mL_law.2.1 633 = .ok (.aload_n 0, 1) := by decide +kernel
theorem dL_law_634 : decode mL_law.2.1 634 = .ok (.iload_n 3, 1) := by decide +kernel
theorem dL_law_635 : decode mL_law.2.1 635 = .ok (.iconst 1, 1) := by decide +kernel
theorem dL_law_636 : decode mL_law.2.1 636 = .ok (.iadd, 1) := by decide +kernel
theorem dL_law_637 : decode mL_law.2.1 637 = .ok (.iaload, 1) := by decide +kernel
theorem dL_law_638 : decode mL_law.2.1 638 = .ok (.invokevirtual 87, 3) := by decide +kernel
theorem dL_law_641 : decode mL_law.2.1 641 = .ok (.pop2, 1) := by decide +kernel
theorem dL_law_642 : decode mL_law.2.1 642 = .ok (.goto (39), 3) := by decide +kernel
theorem dL_law_645 : decode mL_law.2.1 645 = .ok (.aload_n 1, 1) := by decide +kernel
theorem dL_law_646 : decode mL_law.2.1 646 = .ok (.aload_n 0, 1) := by decide +kernel
theorem dL_law_647 : decode mL_law.2.1 647 = .ok (.iload_n 3, 1) := by decide +kernel
theorem dL_law_648 : decode mL_law.2.1 648 = .ok (.iconst 1, 1) := by decide +kernel
theorem dL_law_649 : decode mL_law.2.1 649 = .ok (.iadd, 1) := by decide +kernel
theorem dL_law_650 : decode mL_law.2.1 650 = .ok (.iaload, 1) := by decide +kernel
theorem dL_law_651 : decode mL_law.2.1 651 = .ok (.invokevirtual 88, 3) := by decide +kernel
theorem dL_law_654 : decode mL_law.2.1 654 = .ok (.pop2, 1) := by decide +kernel
theorem dL_law_655 : decode mL_law.2.1 655 = .ok (.aload_n 2, 1) := by decide +kernel
theorem dL_law_656 : decode mL_law.2.1 656 = .ok (.aload_n 0, 1) := by decide +kernel
theorem dL_law_657 : decode mL_law.2.1 657 = .ok (.iload_n 3, 1) := by decide +kernel
theorem dL_law_658 : decode mL_law.2.1 658 = .ok (.iconst 1, 1) := by decide +kernel
theorem dL_law_659 : decode mL_law.2.1 659 = .ok (.iadd, 1) := by decide +kernel
theorem dL_law_660 : decode mL_law.2.1 660 = .ok (.iaload, 1) := by decide +kernel
theorem dL_law_661 : decode mL_law.2.1 661 = .ok (.invokevirtual 91, 3) := by decide +kernel
theorem dL_law_664 : decode mL_law.2.1 664 = .ok (.pop2, 1) := by decide +kernel
theorem dL_law_665 : decode mL_law.2.1 665 = .ok (.goto (16), 3) := by decide +kernel
theorem dL_law_668 : decode mL_law.2.1 668 = .ok (.aload_n 1, 1) := by decide +kernel
theorem dL_law_669 : decode mL_law.2.1 669 = .ok (.invokevirtual 92, 3) := by decide +kernel
theorem dL_law_672 : decode mL_law.2.1 672 = .ok (.aload_n 2, 1) := by decide +kernel
theorem dL_law_673 : decode mL_law.2.1 673 = .ok (.invokevirtual 95, 3) := by decide +kernel
theorem dL_law_676 : decode mL_law.2.1 676 = .ok (.if_icmp .eq (5), 3) := by decide +kernel
theorem dL_law_679 : decode mL_law.2.1 679 = .ok (.iconst 0, 1) := by decide +kernel
theorem dL_law_680 : decode mL_law.2.1 680 = .ok (.ireturn, 1) := by decide +kernel
theorem dL_law_681 : decode mL_law.2.1 681 = .ok (.iinc 3 (6), 3) := by decide +kernel
theorem dL_law_684 : decode mL_law.2.1 684 = .ok (.goto (-666), 3) := by decide +kernel
theorem dL_law_687 : decode mL_law.2.1 687 = .ok (.iconst 1, 1) := by decide +kernel
theorem dL_law_688 : decode mL_law.2.1 688 = .ok (.ireturn, 1) := by decide +kernel
