theorem dX8_comes_269 : decode cX8_comes 269 = .ok (.iload 9, 2) := by decide +kernel
theorem dX8_comes_271 : decode cX8_comes 271 = .ok (.invokevirtual 154, 3) := by decide +kernel
theorem dX8_comes_274 : decode cX8_comes 274 = .ok (.ifCond .eq 9, 3) := by decide +kernel
theorem dX8_comes_277 : decode cX8_comes 277 = .ok (.iinc 9 2, 3) := by decide +kernel
theorem dX8_comes_280 : decode cX8_comes 280 = .ok (.goto (-20), 3) := by decide +kernel
theorem dX8_comes_283 : decode cX8_comes 283 = .ok (.iload 7, 2) := by decide +kernel
theorem dX8_comes_285 : decode cX8_comes 285 = .ok (.iconst (-1), 1) := by decide +kernel
theorem dX8_comes_286 : decode cX8_comes 286 = .ok (.if_icmp .eq 18, 3) := by decide +kernel
theorem dX8_comes_289 : decode cX8_comes 289 = .ok (.iload 9, 2) := by decide +kernel
theorem dX8_comes_291 : decode cX8_comes 291 = .ok (.aload_n 0, 1) := by decide +kernel
theorem dX8_comes_292 : decode cX8_comes 292 = .ok (.getfield 43, 3) := by decide +kernel
theorem dX8_comes_295 : decode cX8_comes 295 = .ok (.iload 7, 2) := by decide +kernel
theorem dX8_comes_297 : decode cX8_comes 297 = .ok (.iaload, 1) := by decide +kernel
theorem dX8_comes_298 : decode cX8_comes 298 = .ok (.bipush 10, 2) := by decide +kernel
theorem dX8_comes_300 : decode cX8_comes 300 = .ok (.idiv, 1) := by decide +kernel
theorem dX8_comes_301 : decode cX8_comes 301 = .ok (.if_icmp .ge 9, 3) := by decide +kernel
theorem dX8_comes_304 : decode cX8_comes 304 = .ok (.bipush 10, 2) := by decide +kernel
theorem dX8_comes_306 : decode cX8_comes 306 = .ok (.iload 9, 2) := by decide +kernel
theorem dX8_comes_308 : decode cX8_comes 308 = .ok (.imul, 1) := by decide +kernel
theorem dX8_comes_309 : decode cX8_comes 309 = .ok (.ireturn, 1) := by decide +kernel
theorem dX8_comes_310 : decode cX8_comes 310 = .ok (.aload_n 0, 1) := by decide +kernel
theorem dX8_comes_311 : decode cX8_comes 311 = .ok (.iload_n 1, 1) := by decide +kernel
theorem dX8_comes_312 : decode cX8_comes 312 = .ok (.iload 6, 2) := by decide +kernel
theorem dX8_comes_314 : decode cX8_comes 314 = .ok (.iconst (-1), 1) := by decide +kernel
theorem dX8_comes_315 : decode cX8_comes 315 = .ok (.if_icmp .eq 8, 3) := by decide +kernel
theorem dX8_comes_318 : decode cX8_comes 318 = .ok (.iload 8, 2) := by decide +kernel
theorem dX8_comes_320 : decode cX8_comes 320 = .ok (.goto 13, 3) := by decide +kernel
theorem dX8_comes_323 : decode cX8_comes 323 = .ok (.aload_n 0, 1) := by decide +kernel
theorem dX8_comes_324 : decode cX8_comes 324 = .ok (.getfield 43, 3) := by decide +kernel
theorem dX8_comes_327 : decode cX8_comes 327 = .ok (.iload 7, 2) := by decide +kernel
theorem dX8_comes_329 : decode cX8_comes 329 = .ok (.iaload, 1) := by decide +kernel
theorem dX8_comes_330 : decode cX8_comes 330 = .ok (.bipush 10, 2) := by decide +kernel
theorem dX8_comes_332 : decode cX8_comes 332 = .ok (.idiv, 1) := by decide +kernel
theorem dX8_comes_333 : decode cX8_comes 333 = .ok (.iconst 1, 1) := by decide +kernel
theorem dX8_comes_334 : decode cX8_comes 334 = .ok (.invokevirtual 147, 3) := by decide +kernel
theorem dX8_comes_337 : decode cX8_comes 337 = .ok (.ireturn, 1) := by decide +kernel
theorem dX8_isFarther_0 : decode cX8_isFarther 0 = .ok (.aload_n 0, 1) := by decide +kernel
theorem dX8_isFarther_1 : decode cX8_isFarther 1 = .ok (.iload_n 1, 1) := by decide +kernel
theorem dX8_isFarther_2 : decode cX8_isFarther 2 = .ok (.aload_n 0, 1) := by decide +kernel
theorem dX8_isFarther_3 : decode cX8_isFarther 3 = .ok (.getfield 37, 3) := by decide +kernel
theorem dX8_isFarther_6 : decode cX8_isFarther 6 = .ok (.iload_n 2, 1) := by decide +kernel
theorem dX8_isFarther_7 : decode cX8_isFarther 7 = .ok (.iaload, 1) := by decide +kernel
theorem dX8_isFarther_8 : decode cX8_isFarther 8 = .ok (.invokevirtual 144, 3) := by decide +kernel
theorem dX8_isFarther_11 : decode cX8_isFarther 11 = .ok (.istore 4, 2) := by decide +kernel
theorem dX8_isFarther_13 : decode cX8_isFarther 13 = .ok (.aload_n 0, 1) := by decide +kernel
theorem dX8_isFarther_14 : decode cX8_isFarther 14 = .ok (.iload_n 1, 1) := by decide +kernel
theorem dX8_isFarther_15 : decode cX8_isFarther 15 = .ok (.aload_n 0, 1) := by decide +kernel
theorem dX8_isFarther_16 : decode cX8_isFarther 16 = .ok (.getfield 37, 3) := by decide +kernel
theorem dX8_isFarther_19 : decode cX8_isFarther 19 = .ok (.iload_n 3, 1) := by decide +kernel
theorem dX8_isFarther_20 : decode cX8_isFarther 20 = .ok (.iaload, 1) := by decide +kernel
theorem dX8_isFarther_21 : decode cX8_isFarther 21 = .ok (.invokevirtual 144, 3) := by decide +kernel
theorem dX8_isFarther_24 : decode cX8_isFarther 24 = .ok (.istore 5, 2) := by decide +kernel
theorem dX8_isFarther_26 : decode cX8_isFarther 26 = .ok (.iload 4, 2) := by decide +kernel
theorem dX8_isFarther_28 : decode cX8_isFarther 28 = .ok (.iload 5, 2) := by decide +kernel
theorem dX8_isFarther_30 : decode cX8_isFarther 30 = .ok (.if_icmp .gt 19, 3) := by decide +kernel
theorem dX8_isFarther_33 : decode cX8_isFarther 33 = .ok (.iload 4, 2) := by decide +kernel
theorem dX8_isFarther_35 : decode cX8_isFarther 35 = .ok (.iload 5, 2) := by decide +kernel
theorem dX8_isFarther_37 : decode cX8_isFarther 37 = .ok (.if_icmp .ne 16, 3) := by decide +kernel
theorem dX8_isFarther_40 : decode cX8_isFarther 40 = .ok (.iload_n 2, 1) := by decide +kernel
theorem dX8_isFarther_41 : decode cX8_isFarther 41 = .ok (.iconst 2, 1) := by decide +kernel
theorem dX8_isFarther_42 : decode cX8_isFarther 42 = .ok (.idiv, 1) := by decide +kernel
theorem dX8_isFarther_43 : decode cX8_isFarther 43 = .ok (.iload_n 3, 1) := by decide +kernel
theorem dX8_isFarther_44 : decode cX8_isFarther 44 = .ok (.iconst 2, 1) := by decide +kernel
theorem dX8_isFarther_45 : decode cX8_isFarther 45 = .ok (.idiv, 1) := by decide +kernel
theorem dX8_isFarther_46 : decode cX8_isFarther 46 = .ok (.if_icmp .le 7, 3) := by decide +kernel
theorem dX8_isFarther_49 : decode cX8_isFarther 49 = .ok (.iconst 1, 1) := by decide +kernel
theorem dX8_isFarther_50 : decode cX8_isFarther 50 = .ok (.goto 4, 3) := by decide +kernel
theorem dX8_isFarther_53 : decode cX8_isFarther 53 = .ok (.iconst 0, 1) := by decide +kernel
theorem dX8_isFarther_54 : decode cX8_isFarther 54 = .ok (.ireturn, 1) := by decide +kernel
theorem dX8_puts_0 : decode cX8_puts 0 = .ok (.aload_n 0, 1) := by decide +kernel
theorem dX8_puts_1 : decode cX8_puts 1 = .ok (.getfield 34, 3) := by decide +kernel
theorem dX8_puts_4 : decode cX8_puts 4 = .ok (.iload_n 1, 1) := by decide +kernel
theorem dX8_puts_5 : decode cX8_puts 5 = .ok (.iload_n 2, 1) := by decide +kernel
theorem dX8_puts_6 : decode cX8_puts 6 = .ok (.iastore, 1) := by decide +kernel
theorem dX8_puts_7 : decode cX8_puts 7 = .ok (.aload_n 0, 1) := by decide +kernel
theorem dX8_puts_8 : decode cX8_puts 8 = .ok (.getfield 37, 3) := by decide +kernel
theorem dX8_puts_11 : decode cX8_puts 11 = .ok (.iload_n 1, 1) := by decide +kernel
theorem dX8_puts_12 : decode cX8_puts 12 = .ok (.iload_n 3, 1) := by decide +kernel
theorem dX8_puts_13 : decode cX8_puts 13 = .ok (.iastore, 1) := by decide +kernel
theorem dX8_puts_14 : decode cX8_puts 14 = .ok (.aload_n 0, 1) := by decide +kernel
theorem dX8_puts_15 : decode cX8_puts 15 = .ok (.getfield 40, 3) := by decide +kernel
theorem dX8_puts_18 : decode cX8_puts 18 = .ok (.iload_n 1, 1) := by decide +kernel
theorem dX8_puts_19 : decode cX8_puts 19 = .ok (.iload 4, 2) := by decide +kernel
theorem dX8_puts_21 : decode cX8_puts 21 = .ok (.castore, 1) := by decide +kernel
theorem dX8_puts_22 : decode cX8_puts 22 = .ok (.aload_n 0, 1) := by decide +kernel
theorem dX8_puts_23 : decode cX8_puts 23 = .ok (.getfield 43, 3) := by decide +kernel
theorem dX8_puts_26 : decode cX8_puts 26 = .ok (.iload_n 1, 1) := by decide +kernel
theorem dX8_puts_27 : decode cX8_puts 27 = .ok (.iload 5, 2) := by decide +kernel
theorem dX8_puts_29 : decode cX8_puts 29 = .ok (.iastore, 1) := by decide +kernel
theorem dX8_puts_30 : decode cX8_puts 30 = .ok (.aload_n 0, 1) := by decide +kernel
theorem dX8_puts_31 : decode cX8_puts 31 = .ok (.getfield 31, 3) := by decide +kernel
theorem dX8_puts_34 : decode cX8_puts 34 = .ok (.iload_n 2, 1) := by decide +kernel
theorem dX8_puts_35 : decode cX8_puts 35 = .ok (.iload 5, 2) := by decide +kernel
theorem dX8_puts_37 : decode cX8_puts 37 = .ok (.bipush 10, 2) := by decide +kernel
theorem dX8_puts_39 : decode cX8_puts 39 = .ok (.idiv, 1) := by decide +kernel
theorem dX8_puts_40 : decode cX8_puts 40 = .ok (.aload_n 0, 1) := by decide +kernel
theorem dX8_puts_41 : decode cX8_puts 41 = .ok (.getfield 31, 3) := by decide +kernel
theorem dX8_puts_44 : decode cX8_puts 44 = .ok (.iload_n 2, 1) := by decide +kernel
theorem dX8_puts_45 : decode cX8_puts 45 = .ok (.iaload, 1) := by decide +kernel
theorem dX8_puts_46 : decode cX8_puts 46 = .ok (.if_icmp .le 11, 3) := by decide +kernel
theorem dX8_puts_49 : decode cX8_puts 49 = .ok (.iload 5, 2) := by decide +kernel
theorem dX8_puts_51 : decode cX8_puts 51 = .ok (.bipush 10, 2) := by decide +kernel
theorem dX8_puts_53 : decode cX8_puts 53 = .ok (.idiv, 1) := by decide +kernel
theorem dX8_puts_54 : decode cX8_puts 54 = .ok (.goto 9, 3) := by decide +kernel
theorem dX8_puts_57 : decode cX8_puts 57 = .ok (.aload_n 0, 1) := by decide +kernel
theorem dX8_puts_58 : decode cX8_puts 58 = .ok (.getfield 31, 3) := by decide +kernel
theorem dX8_puts_61 : decode cX8_puts 61 = .ok (.iload_n 2, 1) := by decide +kernel
theorem dX8_puts_62 : decode cX8_puts 62 = .ok (.iaload, 1) := by decide +kernel
theorem dX8_puts_63 : decode cX8_puts 63 = .ok (.iastore, 1) := by decide +kernel
theorem dX8_puts_64 : decode cX8_puts 64 = .ok (.return_, 1) := by decide +kernel
theorem dX8_isPlace_0 : decode cX8_isPlace 0 = .ok (.iload_n 2, 1) := by decide +kernel
theorem dX8_isPlace_1 : decode cX8_isPlace 1 = .ok (.iconst 0, 1) := by decide +kernel
theorem dX8_isPlace_2 : decode cX8_isPlace 2 = .ok (.aload_n 0, 1) := by decide +kernel
theorem dX8_isPlace_3 : decode cX8_isPlace 3 = .ok (.getfield 16, 3) := by decide +kernel
theorem dX8_isPlace_6 : decode cX8_isPlace 6 = .ok (.iload_n 1, 1) := by decide +kernel
theorem dX8_isPlace_7 : decode cX8_isPlace 7 = .ok (.iaload, 1) := by decide +kernel
theorem dX8_isPlace_8 : decode cX8_isPlace 8 = .ok (.invokestatic 86, 3) := by decide +kernel
theorem dX8_isPlace_11 : decode cX8_isPlace 11 = .ok (.ifCond .eq 19, 3) := by decide +kernel
theorem dX8_isPlace_14 : decode cX8_isPlace 14 = .ok (.iload_n 3, 1) := by decide +kernel
theorem dX8_isPlace_15 : decode cX8_isPlace 15 = .ok (.bipush 108, 2) := by decide +kernel
theorem dX8_isPlace_17 : decode cX8_isPlace 17 = .ok (.if_icmp .eq 9, 3) := by decide +kernel
theorem dX8_isPlace_20 : decode cX8_isPlace 20 = .ok (.iload_n 3, 1) := by decide +kernel
theorem dX8_isPlace_21 : decode cX8_isPlace 21 = .ok (.bipush 114, 2) := by decide +kernel
theorem dX8_isPlace_23 : decode cX8_isPlace 23 = .ok (.if_icmp .ne 7, 3) := by decide +kernel
theorem dX8_isPlace_26 : decode cX8_isPlace 26 = .ok (.iconst 1, 1) := by decide +kernel
theorem dX8_isPlace_27 : decode cX8_isPlace 27 = .ok (.goto 4, 3) := by decide +kernel
theorem dX8_isPlace_30 : decode cX8_isPlace 30 = .ok (.iconst 0, 1) := by decide +kernel
theorem dX8_isPlace_31 : decode cX8_isPlace 31 = .ok (.ireturn, 1) := by decide +kernel
theorem dX8_door_0 : decode cX8_door 0 = .ok (.aload_n 0, 1) := by decide +kernel
theorem dX8_door_1 : decode cX8_door 1 = .ok (.aload_n 0, 1) := by decide +kernel
theorem dX8_door_2 : decode cX8_door 2 = .ok (.iload_n 1, 1) := by decide +kernel
theorem dX8_door_3 : decode cX8_door 3 = .ok (.invokevirtual 132, 3) := by decide +kernel
theorem dX8_door_6 : decode cX8_door 6 = .ok (.iconst 1, 1) := by decide +kernel
theorem dX8_door_7 : decode cX8_door 7 = .ok (.invokevirtual 93, 3) := by decide +kernel
theorem dX8_door_10 : decode cX8_door 10 = .ok (.ifCond .ne 18, 3) := by decide +kernel
theorem dX8_door_13 : decode cX8_door 13 = .ok (.aload_n 0, 1) := by decide +kernel
theorem dX8_door_14 : decode cX8_door 14 = .ok (.aload_n 0, 1) := by decide +kernel
theorem dX8_door_15 : decode cX8_door 15 = .ok (.iload_n 1, 1) := by decide +kernel
theorem dX8_door_16 : decode cX8_door 16 = .ok (.iload_n 2, 1) := by decide +kernel
theorem dX8_door_17 : decode cX8_door 17 = .ok (.iload_n 3, 1) := by decide +kernel
theorem dX8_door_18 : decode cX8_door 18 = .ok (.invokevirtual 157, 3) := by decide +kernel
theorem dX8_door_21 : decode cX8_door 21 = .ok (.iconst 2, 1) := by decide +kernel
theorem dX8_door_22 : decode cX8_door 22 = .ok (.invokevirtual 93, 3) := by decide +kernel
theorem dX8_door_25 : decode cX8_door 25 = .ok (.ifCond .eq 5, 3) := by decide +kernel
theorem dX8_door_28 : decode cX8_door 28 = .ok (.iconst 0, 1) := by decide +kernel
theorem dX8_door_29 : decode cX8_door 29 = .ok (.ireturn, 1) := by decide +kernel
theorem dX8_door_30 : decode cX8_door 30 = .ok (.aload_n 0, 1) := by decide +kernel
theorem dX8_door_31 : decode cX8_door 31 = .ok (.iload_n 1, 1) := by decide +kernel
theorem dX8_door_32 : decode cX8_door 32 = .ok (.aload_n 0, 1) := by decide +kernel
theorem dX8_door_33 : decode cX8_door 33 = .ok (.getfield 90, 3) := by decide +kernel
theorem dX8_door_36 : decode cX8_door 36 = .ok (.iload_n 2, 1) := by decide +kernel
theorem dX8_door_37 : decode cX8_door 37 = .ok (.iload_n 3, 1) := by decide +kernel
theorem dX8_door_38 : decode cX8_door 38 = .ok (.invokevirtual 161, 3) := by decide +kernel
theorem dX8_door_41 : decode cX8_door 41 = .ok (.istore 4, 2) := by decide +kernel
theorem dX8_door_43 : decode cX8_door 43 = .ok (.aload_n 0, 1) := by decide +kernel
theorem dX8_door_44 : decode cX8_door 44 = .ok (.iload 4, 2) := by decide +kernel
theorem dX8_door_46 : decode cX8_door 46 = .ok (.ifCond .lt 7, 3) := by decide +kernel
theorem dX8_door_49 : decode cX8_door 49 = .ok (.iconst 1, 1) := by decide +kernel
theorem dX8_door_50 : decode cX8_door 50 = .ok (.goto 4, 3) := by decide +kernel
theorem dX8_door_53 : decode cX8_door 53 = .ok (.iconst 0, 1) := by decide +kernel
theorem dX8_door_54 : decode cX8_door 54 = .ok (.iconst 3, 1) := by decide +kernel
theorem dX8_door_55 : decode cX8_door 55 = .ok (.invokevirtual 93, 3) := by decide +kernel
theorem dX8_door_58 : decode cX8_door 58 = .ok (.ifCond .ne 25, 3) := by decide +kernel
theorem dX8_door_61 : decode cX8_door 61 = .ok (.aload_n 0, 1) := by decide +kernel
theorem dX8_door_62 : decode cX8_door 62 = .ok (.aload_n 0, 1) := by decide +kernel
theorem dX8_door_63 : decode cX8_door 63 = .ok (.getfield 90, 3) := by decide +kernel
theorem dX8_door_66 : decode cX8_door 66 = .ok (.bipush 40, 2) := by decide +kernel
theorem dX8_door_68 : decode cX8_door 68 = .ok (.if_icmp .ge 7, 3) := by decide +kernel
theorem dX8_door_71 : decode cX8_door 71 = .ok (.iconst 1, 1) := by decide +kernel
theorem dX8_door_72 : decode cX8_door 72 = .ok (.goto 4, 3) := by decide +kernel
theorem dX8_door_75 : decode cX8_door 75 = .ok (.iconst 0, 1) := by decide +kernel
theorem dX8_door_76 : decode cX8_door 76 = .ok (.iconst 4, 1) := by decide +kernel
theorem dX8_door_77 : decode cX8_door 77 = .ok (.invokevirtual 93, 3) := by decide +kernel
theorem dX8_door_80 : decode cX8_door 80 = .ok (.ifCond .eq 5, 3) := by decide +kernel
theorem dX8_door_83 : decode cX8_door 83 = .ok (.iconst 0, 1) := by decide +kernel
theorem dX8_door_84 : decode cX8_door 84 = .ok (.ireturn, 1) := by decide +kernel
theorem dX8_door_85 : decode cX8_door 85 = .ok (.aload_n 0, 1) := by decide +kernel
theorem dX8_door_86 : decode cX8_door 86 = .ok (.getfield 49, 3) := by decide +kernel
theorem dX8_door_89 : decode cX8_door 89 = .ok (.aload_n 0, 1) := by decide +kernel
theorem dX8_door_90 : decode cX8_door 90 = .ok (.getfield 90, 3) := by decide +kernel
theorem dX8_door_93 : decode cX8_door 93 = .ok (.iconst (-1), 1) := by decide +kernel
theorem dX8_door_94 : decode cX8_door 94 = .ok (.iastore, 1) := by decide +kernel
theorem dX8_door_95 : decode cX8_door 95 = .ok (.aload_n 0, 1) := by decide +kernel
theorem dX8_door_96 : decode cX8_door 96 = .ok (.iconst 2, 1) := by decide +kernel
theorem dX8_door_97 : decode cX8_door 97 = .ok (.aload_n 0, 1) := by decide +kernel
theorem dX8_door_98 : decode cX8_door 98 = .ok (.getfield 90, 3) := by decide +kernel
theorem dX8_door_101 : decode cX8_door 101 = .ok (.imul, 1) := by decide +kernel
theorem dX8_door_102 : decode cX8_door 102 = .ok (.iload_n 1, 1) := by decide +kernel
theorem dX8_door_103 : decode cX8_door 103 = .ok (.iload_n 2, 1) := by decide +kernel
theorem dX8_door_104 : decode cX8_door 104 = .ok (.iload_n 3, 1) := by decide +kernel
theorem dX8_door_105 : decode cX8_door 105 = .ok (.iload 4, 2) := by decide +kernel
theorem dX8_door_107 : decode cX8_door 107 = .ok (.invokevirtual 165, 3) := by decide +kernel
theorem dX8_door_110 : decode cX8_door 110 = .ok (.aload_n 0, 1) := by decide +kernel
theorem dX8_door_111 : decode cX8_door 111 = .ok (.dup, 1) := by decide +kernel
theorem dX8_door_112 : decode cX8_door 112 = .ok (.getfield 90, 3) := by decide +kernel
theorem dX8_door_115 : decode cX8_door 115 = .ok (.iconst 1, 1) := by decide +kernel
theorem dX8_door_116 : decode cX8_door 116 = .ok (.iadd, 1) := by decide +kernel
theorem dX8_door_117 : decode cX8_door 117 = .ok (.putfield 90, 3) := by decide +kernel
theorem dX8_door_120 : decode cX8_door 120 = .ok (.aload_n 0, 1) := by decide +kernel
theorem dX8_door_121 : decode cX8_door 121 = .ok (.getfield 90, 3) := by decide +kernel
theorem dX8_door_124 : decode cX8_door 124 = .ok (.iconst 1, 1) := by decide +kernel
theorem dX8_door_125 : decode cX8_door 125 = .ok (.isub, 1) := by decide +kernel
theorem dX8_door_126 : decode cX8_door 126 = .ok (.ireturn, 1) := by decide +kernel
theorem dX8_corner_0 : decode cX8_corner 0 = .ok (.aload_n 0, 1) := by decide +kernel
theorem dX8_corner_1 : decode cX8_corner 1 = .ok (.aload_n 0, 1) := by decide +kernel
theorem dX8_corner_2 : decode cX8_corner 2 = .ok (.iload_n 1, 1) := by decide +kernel
theorem dX8_corner_3 : decode cX8_corner 3 = .ok (.invokevirtual 169, 3) := by decide +kernel
theorem dX8_corner_6 : decode cX8_corner 6 = .ok (.ifCond .eq 15, 3) := by decide +kernel
theorem dX8_corner_9 : decode cX8_corner 9 = .ok (.aload_n 0, 1) := by decide +kernel
theorem dX8_corner_10 : decode cX8_corner 10 = .ok (.iload_n 2, 1) := by decide +kernel
theorem dX8_corner_11 : decode cX8_corner 11 = .ok (.invokevirtual 132, 3) := by decide +kernel
theorem dX8_corner_14 : decode cX8_corner 14 = .ok (.ifCond .eq 7, 3) := by decide +kernel
theorem dX8_corner_17 : decode cX8_corner 17 = .ok (.iconst 1, 1) := by decide +kernel
theorem dX8_corner_18 : decode cX8_corner 18 = .ok (.goto 4, 3) := by decide +kernel
theorem dX8_corner_21 : decode cX8_corner 21 = .ok (.iconst 0, 1) := by decide +kernel
theorem dX8_corner_22 : decode cX8_corner 22 = .ok (.iconst 1, 1) := by decide +kernel
theorem dX8_corner_23 : decode cX8_corner 23 = .ok (.invokevirtual 93, 3) := by decide +kernel
theorem dX8_corner_26 : decode cX8_corner 26 = .ok (.ifCond .ne 19, 3) := by decide +kernel
theorem dX8_corner_29 : decode cX8_corner 29 = .ok (.aload_n 0, 1) := by decide +kernel
theorem dX8_corner_30 : decode cX8_corner 30 = .ok (.aload_n 0, 1) := by decide +kernel
theorem dX8_corner_31 : decode cX8_corner 31 = .ok (.iload_n 2, 1) := by decide +kernel
theorem dX8_corner_32 : decode cX8_corner 32 = .ok (.iload_n 3, 1) := by decide +kernel
theorem dX8_corner_33 : decode cX8_corner 33 = .ok (.iload 4, 2) := by decide +kernel
theorem dX8_corner_35 : decode cX8_corner 35 = .ok (.invokevirtual 157, 3) := by decide +kernel
theorem dX8_corner_38 : decode cX8_corner 38 = .ok (.iconst 2, 1) := by decide +kernel
theorem dX8_corner_39 : decode cX8_corner 39 = .ok (.invokevirtual 93, 3) := by decide +kernel
theorem dX8_corner_42 : decode cX8_corner 42 = .ok (.ifCond .eq 5, 3) := by decide +kernel
theorem dX8_corner_45 : decode cX8_corner 45 = .ok (.iconst 0, 1) := by decide +kernel
theorem dX8_corner_46 : decode cX8_corner 46 = .ok (.ireturn, 1) := by decide +kernel
theorem dX8_corner_47 : decode cX8_corner 47 = .ok (.aload_n 0, 1) := by decide +kernel
theorem dX8_corner_48 : decode cX8_corner 48 = .ok (.getfield 46, 3) := by decide +kernel
theorem dX8_corner_51 : decode cX8_corner 51 = .ok (.iload_n 1, 1) := by decide +kernel
theorem dX8_corner_52 : decode cX8_corner 52 = .ok (.baload, 1) := by decide +kernel
theorem dX8_corner_53 : decode cX8_corner 53 = .ok (.ifCond .ne 33, 3) := by decide +kernel
theorem dX8_corner_56 : decode cX8_corner 56 = .ok (.aload_n 0, 1) := by decide +kernel
theorem dX8_corner_57 : decode cX8_corner 57 = .ok (.getfield 34, 3) := by decide +kernel
theorem dX8_corner_60 : decode cX8_corner 60 = .ok (.iconst 2, 1) := by decide +kernel
theorem dX8_corner_61 : decode cX8_corner 61 = .ok (.iload_n 1, 1) := by decide +kernel
theorem dX8_corner_62 : decode cX8_corner 62 = .ok (.imul, 1) := by decide +kernel
theorem dX8_corner_63 : decode cX8_corner 63 = .ok (.iconst 1, 1) := by decide +kernel
theorem dX8_corner_64 : decode cX8_corner 64 = .ok (.iadd, 1) := by decide +kernel
theorem dX8_corner_65 : decode cX8_corner 65 = .ok (.iaload, 1) := by decide +kernel
theorem dX8_corner_66 : decode cX8_corner 66 = .ok (.iconst (-1), 1) := by decide +kernel
theorem dX8_corner_67 : decode cX8_corner 67 = .ok (.if_icmp .ne 19, 3) := by decide +kernel
theorem dX8_corner_70 : decode cX8_corner 70 = .ok (.aload_n 0, 1) := by decide +kernel
theorem dX8_corner_71 : decode cX8_corner 71 = .ok (.getfield 34, 3) := by decide +kernel
theorem dX8_corner_74 : decode cX8_corner 74 = .ok (.iconst 2, 1) := by decide +kernel
theorem dX8_corner_75 : decode cX8_corner 75 = .ok (.iload_n 1, 1) := by decide +kernel
theorem dX8_corner_76 : decode cX8_corner 76 = .ok (.imul, 1) := by decide +kernel
theorem dX8_corner_77 : decode cX8_corner 77 = .ok (.iaload, 1) := by decide +kernel
theorem dX8_corner_78 : decode cX8_corner 78 = .ok (.iload_n 2, 1) := by decide +kernel
theorem dX8_corner_79 : decode cX8_corner 79 = .ok (.if_icmp .eq 7, 3) := by decide +kernel
theorem dX8_corner_82 : decode cX8_corner 82 = .ok (.iconst 1, 1) := by decide +kernel
theorem dX8_corner_83 : decode cX8_corner 83 = .ok (.goto 4, 3) := by decide +kernel
theorem dX8_corner_86 : decode cX8_corner 86 = .ok (.iconst 0, 1) := by decide +kernel
theorem dX8_corner_87 : decode cX8_corner 87 = .ok (.istore 5, 2) := by decide +kernel
theorem dX8_corner_89 : decode cX8_corner 89 = .ok (.iload 5, 2) := by decide +kernel
theorem dX8_corner_91 : decode cX8_corner 91 = .ok (.ifCond .eq 15, 3) := by decide +kernel
theorem dX8_corner_94 : decode cX8_corner 94 = .ok (.aload_n 0, 1) := by decide +kernel
theorem dX8_corner_95 : decode cX8_corner 95 = .ok (.iload_n 2, 1) := by decide +kernel
theorem dX8_corner_96 : decode cX8_corner 96 = .ok (.iload_n 1, 1) := by decide +kernel
theorem dX8_corner_97 : decode cX8_corner 97 = .ok (.iload_n 3, 1) := by decide +kernel
theorem dX8_corner_98 : decode cX8_corner 98 = .ok (.iload 4, 2) := by decide +kernel
theorem dX8_corner_100 : decode cX8_corner 100 = .ok (.invokevirtual 161, 3) := by decide +kernel
theorem dX8_corner_103 : decode cX8_corner 103 = .ok (.goto 4, 3) := by decide +kernel
theorem dX8_corner_106 : decode cX8_corner 106 = .ok (.iconst (-1), 1) := by decide +kernel
theorem dX8_corner_107 : decode cX8_corner 107 = .ok (.istore 6, 2) := by decide +kernel
theorem dX8_corner_109 : decode cX8_corner 109 = .ok (.aload_n 0, 1) := by decide +kernel
theorem dX8_corner_110 : decode cX8_corner 110 = .ok (.iload 6, 2) := by decide +kernel
theorem dX8_corner_112 : decode cX8_corner 112 = .ok (.ifCond .lt 7, 3) := by decide +kernel
theorem dX8_corner_115 : decode cX8_corner 115 = .ok (.iconst 1, 1) := by decide +kernel
theorem dX8_corner_116 : decode cX8_corner 116 = .ok (.goto 4, 3) := by decide +kernel
theorem dX8_corner_119 : decode cX8_corner 119 = .ok (.iconst 0, 1) := by decide +kernel
theorem dX8_corner_120 : decode cX8_corner 120 = .ok (.iconst 3, 1) := by decide +kernel
theorem dX8_corner_121 : decode cX8_corner 121 = .ok (.invokevirtual 93, 3) := by decide +kernel
theorem dX8_corner_124 : decode cX8_corner 124 = .ok (.ifCond .eq 5, 3) := by decide +kernel
theorem dX8_corner_127 : decode cX8_corner 127 = .ok (.iconst 0, 1) := by decide +kernel
theorem dX8_corner_128 : decode cX8_corner 128 = .ok (.ireturn, 1) := by decide +kernel
theorem dX8_corner_129 : decode cX8_corner 129 = .ok (.aload_n 0, 1) := by decide +kernel
theorem dX8_corner_130 : decode cX8_corner 130 = .ok (.iconst 2, 1) := by decide +kernel
theorem dX8_corner_131 : decode cX8_corner 131 = .ok (.iload_n 1, 1) := by decide +kernel
theorem dX8_corner_132 : decode cX8_corner 132 = .ok (.imul, 1) := by decide +kernel
theorem dX8_corner_133 : decode cX8_corner 133 = .ok (.iconst 1, 1) := by decide +kernel
theorem dX8_corner_134 : decode cX8_corner 134 = .ok (.iadd, 1) := by decide +kernel
theorem dX8_corner_135 : decode cX8_corner 135 = .ok (.iload_n 2, 1) := by decide +kernel
theorem dX8_corner_136 : decode cX8_corner 136 = .ok (.iload_n 3, 1) := by decide +kernel
theorem dX8_corner_137 : decode cX8_corner 137 = .ok (.iload 4, 2) := by decide +kernel
theorem dX8_corner_139 : decode cX8_corner 139 = .ok (.iload 6, 2) := by decide +kernel
theorem dX8_corner_141 : decode cX8_corner 141 = .ok (.invokevirtual 165, 3) := by decide +kernel
theorem dX8_corner_144 : decode cX8_corner 144 = .ok (.iload 6, 2) := by decide +kernel
theorem dX8_corner_146 : decode cX8_corner 146 = .ok (.ireturn, 1) := by decide +kernel
theorem dX8_leaves_0 : decode cX8_leaves 0 = .ok (.aload_n 0, 1) := by decide +kernel
theorem dX8_leaves_1 : decode cX8_leaves 1 = .ok (.getfield 34, 3) := by decide +kernel
theorem dX8_leaves_4 : decode cX8_leaves 4 = .ok (.iload_n 1, 1) := by decide +kernel
theorem dX8_leaves_5 : decode cX8_leaves 5 = .ok (.iaload, 1) := by decide +kernel
theorem dX8_leaves_6 : decode cX8_leaves 6 = .ok (.istore_n 2, 1) := by decide +kernel
theorem dX8_leaves_7 : decode cX8_leaves 7 = .ok (.iload_n 2, 1) := by decide +kernel
theorem dX8_leaves_8 : decode cX8_leaves 8 = .ok (.iconst (-1), 1) := by decide +kernel
theorem dX8_leaves_9 : decode cX8_leaves 9 = .ok (.if_icmp .ne 4, 3) := by decide +kernel
theorem dX8_leaves_12 : decode cX8_leaves 12 = .ok (.return_, 1) := by decide +kernel
theorem dX8_leaves_13 : decode cX8_leaves 13 = .ok (.aload_n 0, 1) := by decide +kernel
theorem dX8_leaves_14 : decode cX8_leaves 14 = .ok (.aload_n 0, 1) := by decide +kernel
theorem dX8_leaves_15 : decode cX8_leaves 15 = .ok (.getfield 7, 3) := by decide +kernel
theorem dX8_leaves_18 : decode cX8_leaves 18 = .ok (.iload_n 2, 1) := by decide +kernel
theorem dX8_leaves_19 : decode cX8_leaves 19 = .ok (.laload, 1) := by decide +kernel
theorem dX8_leaves_20 : decode cX8_leaves 20 = .ok (.aload_n 0, 1) := by decide +kernel
theorem dX8_leaves_21 : decode cX8_leaves 21 = .ok (.getfield 43, 3) := by decide +kernel
theorem dX8_leaves_24 : decode cX8_leaves 24 = .ok (.iload_n 1, 1) := by decide +kernel
theorem dX8_leaves_25 : decode cX8_leaves 25 = .ok (.iaload, 1) := by decide +kernel
theorem dX8_leaves_26 : decode cX8_leaves 26 = .ok (.iload_n 1, 1) := by decide +kernel
theorem dX8_leaves_27 : decode cX8_leaves 27 = .ok (.iconst 2, 1) := by decide +kernel
theorem dX8_leaves_28 : decode cX8_leaves 28 = .ok (.idiv, 1) := by decide +kernel
theorem dX8_leaves_29 : decode cX8_leaves 29 = .ok (.invokevirtual 128, 3) := by decide +kernel
theorem dX8_leaves_32 : decode cX8_leaves 32 = .ok (.aload_n 0, 1) := by decide +kernel
theorem dX8_leaves_33 : decode cX8_leaves 33 = .ok (.aload_n 0, 1) := by decide +kernel
theorem dX8_leaves_34 : decode cX8_leaves 34 = .ok (.getfield 13, 3) := by decide +kernel
theorem dX8_leaves_37 : decode cX8_leaves 37 = .ok (.iload_n 2, 1) := by decide +kernel
theorem dX8_leaves_38 : decode cX8_leaves 38 = .ok (.laload, 1) := by decide +kernel
theorem dX8_leaves_39 : decode cX8_leaves 39 = .ok (.aload_n 0, 1) := by decide +kernel
theorem dX8_leaves_40 : decode cX8_leaves 40 = .ok (.getfield 43, 3) := by decide +kernel
theorem dX8_leaves_43 : decode cX8_leaves 43 = .ok (.iload_n 1, 1) := by decide +kernel
theorem dX8_leaves_44 : decode cX8_leaves 44 = .ok (.iaload, 1) := by decide +kernel
theorem dX8_leaves_45 : decode cX8_leaves 45 = .ok (.iload_n 1, 1) := by decide +kernel
theorem dX8_leaves_46 : decode cX8_leaves 46 = .ok (.iconst 2, 1) := by decide +kernel
theorem dX8_leaves_47 : decode cX8_leaves 47 = .ok (.idiv, 1) := by decide +kernel
theorem dX8_leaves_48 : decode cX8_leaves 48 = .ok (.invokevirtual 128, 3) := by decide +kernel
theorem dX8_leaves_51 : decode cX8_leaves 51 = .ok (.aload_n 0, 1) := by decide +kernel
theorem dX8_leaves_52 : decode cX8_leaves 52 = .ok (.getfield 34, 3) := by decide +kernel
theorem dX8_leaves_55 : decode cX8_leaves 55 = .ok (.iload_n 1, 1) := by decide +kernel
theorem dX8_leaves_56 : decode cX8_leaves 56 = .ok (.iconst (-1), 1) := by decide +kernel
theorem dX8_leaves_57 : decode cX8_leaves 57 = .ok (.iastore, 1) := by decide +kernel
theorem dX8_leaves_58 : decode cX8_leaves 58 = .ok (.aload_n 0, 1) := by decide +kernel
theorem dX8_leaves_59 : decode cX8_leaves 59 = .ok (.getfield 43, 3) := by decide +kernel
theorem dX8_leaves_62 : decode cX8_leaves 62 = .ok (.iload_n 1, 1) := by decide +kernel
theorem dX8_leaves_63 : decode cX8_leaves 63 = .ok (.iconst (-1), 1) := by decide +kernel
theorem dX8_leaves_64 : decode cX8_leaves 64 = .ok (.iastore, 1) := by decide +kernel
theorem dX8_leaves_65 : decode cX8_leaves 65 = .ok (.return_, 1) := by decide +kernel
theorem dX8_goes_0 : decode cX8_goes 0 = .ok (.aload_n 0, 1) := by decide +kernel
theorem dX8_goes_1 : decode cX8_goes 1 = .ok (.iconst 2, 1) := by decide +kernel
theorem dX8_goes_2 : decode cX8_goes 2 = .ok (.iload_n 1, 1) := by decide +kernel
theorem dX8_goes_3 : decode cX8_goes 3 = .ok (.imul, 1) := by decide +kernel
theorem dX8_goes_4 : decode cX8_goes 4 = .ok (.invokevirtual 172, 3) := by decide +kernel
theorem dX8_goes_7 : decode cX8_goes 7 = .ok (.aload_n 0, 1) := by decide +kernel
theorem dX8_goes_8 : decode cX8_goes 8 = .ok (.iconst 2, 1) := by decide +kernel
theorem dX8_goes_9 : decode cX8_goes 9 = .ok (.iload_n 1, 1) := by decide +kernel
theorem dX8_goes_10 : decode cX8_goes 10 = .ok (.imul, 1) := by decide +kernel
theorem dX8_goes_11 : decode cX8_goes 11 = .ok (.iconst 1, 1) := by decide +kernel
theorem dX8_goes_12 : decode cX8_goes 12 = .ok (.iadd, 1) := by decide +kernel
theorem dX8_goes_13 : decode cX8_goes 13 = .ok (.invokevirtual 172, 3) := by decide +kernel
theorem dX8_goes_16 : decode cX8_goes 16 = .ok (.aload_n 0, 1) := by decide +kernel
theorem dX8_goes_17 : decode cX8_goes 17 = .ok (.getfield 46, 3) := by decide +kernel
theorem dX8_goes_20 : decode cX8_goes 20 = .ok (.iload_n 1, 1) := by decide +kernel
theorem dX8_goes_21 : decode cX8_goes 21 = .ok (.iconst 1, 1) := by decide +kernel
theorem dX8_goes_22 : decode cX8_goes 22 = .ok (.bastore, 1) := by decide +kernel
theorem dX8_goes_23 : decode cX8_goes 23 = .ok (.aload_n 0, 1) := by decide +kernel
theorem dX8_goes_24 : decode cX8_goes 24 = .ok (.getfield 49, 3) := by decide +kernel
theorem dX8_goes_27 : decode cX8_goes 27 = .ok (.iload_n 1, 1) := by decide +kernel
theorem dX8_goes_28 : decode cX8_goes 28 = .ok (.iload_n 2, 1) := by decide +kernel
theorem dX8_goes_29 : decode cX8_goes 29 = .ok (.iastore, 1) := by decide +kernel
theorem dX8_goes_30 : decode cX8_goes 30 = .ok (.return_, 1) := by decide +kernel
theorem dX8_endOf_0 : decode cX8_endOf 0 = .ok (.iload_n 1, 1) := by decide +kernel
theorem dX8_endOf_1 : decode cX8_endOf 1 = .ok (.istore_n 2, 1) := by decide +kernel
theorem dX8_endOf_2 : decode cX8_endOf 2 = .ok (.iload_n 2, 1) := by decide +kernel
theorem dX8_endOf_3 : decode cX8_endOf 3 = .ok (.ifCond .lt 22, 3) := by decide +kernel
theorem dX8_endOf_6 : decode cX8_endOf 6 = .ok (.aload_n 0, 1) := by decide +kernel
theorem dX8_endOf_7 : decode cX8_endOf 7 = .ok (.getfield 46, 3) := by decide +kernel
theorem dX8_endOf_10 : decode cX8_endOf 10 = .ok (.iload_n 2, 1) := by decide +kernel
theorem dX8_endOf_11 : decode cX8_endOf 11 = .ok (.baload, 1) := by decide +kernel
theorem dX8_endOf_12 : decode cX8_endOf 12 = .ok (.ifCond .eq 13, 3) := by decide +kernel
theorem dX8_endOf_15 : decode cX8_endOf 15 = .ok (.aload_n 0, 1) := by decide +kernel
theorem dX8_endOf_16 : decode cX8_endOf 16 = .ok (.getfield 49, 3) := by decide +kernel
theorem dX8_endOf_19 : decode cX8_endOf 19 = .ok (.iload_n 2, 1) := by decide +kernel
theorem dX8_endOf_20 : decode cX8_endOf 20 = .ok (.iaload, 1) := by decide +kernel
theorem dX8_endOf_21 : decode cX8_endOf 21 = .ok (.istore_n 2, 1) := by decide +kernel
theorem dX8_endOf_22 : decode cX8_endOf 22 = .ok (.goto (-20), 3) := by decide +kernel
theorem dX8_endOf_25 : decode cX8_endOf 25 = .ok (.iload_n 2, 1) := by decide +kernel
theorem dX8_endOf_26 : decode cX8_endOf 26 = .ok (.ireturn, 1) := by decide +kernel
theorem dX8_merge_0 : decode cX8_merge 0 = .ok (.aload_n 0, 1) := by decide +kernel
theorem dX8_merge_1 : decode cX8_merge 1 = .ok (.aload_n 0, 1) := by decide +kernel
theorem dX8_merge_2 : decode cX8_merge 2 = .ok (.iload_n 1, 1) := by decide +kernel
theorem dX8_merge_3 : decode cX8_merge 3 = .ok (.invokevirtual 169, 3) := by decide +kernel
theorem dX8_merge_6 : decode cX8_merge 6 = .ok (.ifCond .eq 15, 3) := by decide +kernel
theorem dX8_merge_9 : decode cX8_merge 9 = .ok (.aload_n 0, 1) := by decide +kernel
theorem dX8_merge_10 : decode cX8_merge 10 = .ok (.iload_n 2, 1) := by decide +kernel
theorem dX8_merge_11 : decode cX8_merge 11 = .ok (.invokevirtual 169, 3) := by decide +kernel
theorem dX8_merge_14 : decode cX8_merge 14 = .ok (.ifCond .eq 7, 3) := by decide +kernel
theorem dX8_merge_17 : decode cX8_merge 17 = .ok (.iconst 1, 1) := by decide +kernel
theorem dX8_merge_18 : decode cX8_merge 18 = .ok (.goto 4, 3) := by decide +kernel
theorem dX8_merge_21 : decode cX8_merge 21 = .ok (.iconst 0, 1) := by decide +kernel
theorem dX8_merge_22 : decode cX8_merge 22 = .ok (.iconst 1, 1) := by decide +kernel
theorem dX8_merge_23 : decode cX8_merge 23 = .ok (.invokevirtual 93, 3) := by decide +kernel
theorem dX8_merge_26 : decode cX8_merge 26 = .ok (.ifCond .ne 52, 3) := by decide +kernel
theorem dX8_merge_29 : decode cX8_merge 29 = .ok (.aload_n 0, 1) := by decide +kernel
theorem dX8_merge_30 : decode cX8_merge 30 = .ok (.iload_n 1, 1) := by decide +kernel
theorem dX8_merge_31 : decode cX8_merge 31 = .ok (.iload_n 2, 1) := by decide +kernel
theorem dX8_merge_32 : decode cX8_merge 32 = .ok (.if_icmp .eq 7, 3) := by decide +kernel
theorem dX8_merge_35 : decode cX8_merge 35 = .ok (.iconst 1, 1) := by decide +kernel
theorem dX8_merge_36 : decode cX8_merge 36 = .ok (.goto 4, 3) := by decide +kernel
theorem dX8_merge_39 : decode cX8_merge 39 = .ok (.iconst 0, 1) := by decide +kernel
theorem dX8_merge_40 : decode cX8_merge 40 = .ok (.iconst 2, 1) := by decide +kernel
theorem dX8_merge_41 : decode cX8_merge 41 = .ok (.invokevirtual 93, 3) := by decide +kernel
theorem dX8_merge_44 : decode cX8_merge 44 = .ok (.ifCond .ne 34, 3) := by decide +kernel
theorem dX8_merge_47 : decode cX8_merge 47 = .ok (.aload_n 0, 1) := by decide +kernel
theorem dX8_merge_48 : decode cX8_merge 48 = .ok (.aload_n 0, 1) := by decide +kernel
theorem dX8_merge_49 : decode cX8_merge 49 = .ok (.getfield 46, 3) := by decide +kernel
theorem dX8_merge_52 : decode cX8_merge 52 = .ok (.iload_n 1, 1) := by decide +kernel
theorem dX8_merge_53 : decode cX8_merge 53 = .ok (.baload, 1) := by decide +kernel
theorem dX8_merge_54 : decode cX8_merge 54 = .ok (.ifCond .ne 16, 3) := by decide +kernel
theorem dX8_merge_57 : decode cX8_merge 57 = .ok (.aload_n 0, 1) := by decide +kernel
theorem dX8_merge_58 : decode cX8_merge 58 = .ok (.getfield 46, 3) := by decide +kernel
theorem dX8_merge_61 : decode cX8_merge 61 = .ok (.iload_n 2, 1) := by decide +kernel
theorem dX8_merge_62 : decode cX8_merge 62 = .ok (.baload, 1) := by decide +kernel
theorem dX8_merge_63 : decode cX8_merge 63 = .ok (.ifCond .ne 7, 3) := by decide +kernel
theorem dX8_merge_66 : decode cX8_merge 66 = .ok (.iconst 1, 1) := by decide +kernel
theorem dX8_merge_67 : decode cX8_merge 67 = .ok (.goto 4, 3) := by decide +kernel
theorem dX8_merge_70 : decode cX8_merge 70 = .ok (.iconst 0, 1) := by decide +kernel
theorem dX8_merge_71 : decode cX8_merge 71 = .ok (.iconst 3, 1) := by decide +kernel
theorem dX8_merge_72 : decode cX8_merge 72 = .ok (.invokevirtual 93, 3) := by decide +kernel
theorem dX8_merge_75 : decode cX8_merge 75 = .ok (.ifCond .eq 5, 3) := by decide +kernel
theorem dX8_merge_78 : decode cX8_merge 78 = .ok (.iconst 0, 1) := by decide +kernel
theorem dX8_merge_79 : decode cX8_merge 79 = .ok (.ireturn, 1) := by decide +kernel
theorem dX8_merge_80 : decode cX8_merge 80 = .ok (.aload_n 0, 1) := by decide +kernel
theorem dX8_merge_81 : decode cX8_merge 81 = .ok (.iload_n 1, 1) := by decide +kernel
theorem dX8_merge_82 : decode cX8_merge 82 = .ok (.iload_n 2, 1) := by decide +kernel
theorem dX8_merge_83 : decode cX8_merge 83 = .ok (.invokevirtual 176, 3) := by decide +kernel
theorem dX8_merge_86 : decode cX8_merge 86 = .ok (.iconst 0, 1) := by decide +kernel
theorem dX8_merge_87 : decode cX8_merge 87 = .ok (.istore_n 3, 1) := by decide +kernel
theorem dX8_merge_88 : decode cX8_merge 88 = .ok (.iconst 0, 1) := by decide +kernel
theorem dX8_merge_89 : decode cX8_merge 89 = .ok (.istore 4, 2) := by decide +kernel
theorem dX8_merge_91 : decode cX8_merge 91 = .ok (.iload 4, 2) := by decide +kernel
theorem dX8_merge_93 : decode cX8_merge 93 = .ok (.aload_n 0, 1) := by decide +kernel
theorem dX8_merge_94 : decode cX8_merge 94 = .ok (.getfield 90, 3) := by decide +kernel
theorem dX8_merge_97 : decode cX8_merge 97 = .ok (.if_icmp .ge 33, 3) := by decide +kernel
theorem dX8_merge_100 : decode cX8_merge 100 = .ok (.iload_n 3, 1) := by decide +kernel
theorem dX8_merge_101 : decode cX8_merge 101 = .ok (.iload 4, 2) := by decide +kernel
theorem dX8_merge_103 : decode cX8_merge 103 = .ok (.iload_n 2, 1) := by decide +kernel
theorem dX8_merge_104 : decode cX8_merge 104 = .ok (.if_icmp .eq 17, 3) := by decide +kernel
theorem dX8_merge_107 : decode cX8_merge 107 = .ok (.aload_n 0, 1) := by decide +kernel
theorem dX8_merge_108 : decode cX8_merge 108 = .ok (.iload 4, 2) := by decide +kernel
theorem dX8_merge_110 : decode cX8_merge 110 = .ok (.invokevirtual 180, 3) := by decide +kernel
theorem dX8_merge_113 : decode cX8_merge 113 = .ok (.iload_n 2, 1) := by decide +kernel
theorem dX8_merge_114 : decode cX8_merge 114 = .ok (.if_icmp .ne 7, 3) := by decide +kernel
theorem dX8_merge_117 : decode cX8_merge 117 = .ok (.iconst 1, 1) := by decide +kernel
theorem dX8_merge_118 : decode cX8_merge 118 = .ok (.goto 4, 3) := by decide +kernel
theorem dX8_merge_121 : decode cX8_merge 121 = .ok (.iconst 0, 1) := by decide +kernel
theorem dX8_merge_122 : decode cX8_merge 122 = .ok (.iadd, 1) := by decide +kernel
theorem dX8_merge_123 : decode cX8_merge 123 = .ok (.istore_n 3, 1) := by decide +kernel
theorem dX8_merge_124 : decode cX8_merge 124 = .ok (.iinc 4 1, 3) := by decide +kernel
theorem dX8_merge_127 : decode cX8_merge 127 = .ok (.goto (-36), 3) := by decide +kernel
theorem dX8_merge_130 : decode cX8_merge 130 = .ok (.iload_n 3, 1) := by decide +kernel
theorem dX8_merge_131 : decode cX8_merge 131 = .ok (.ireturn, 1) := by decide +kernel
theorem dX8_remove_0 : decode cX8_remove 0 = .ok (.aload_n 0, 1) := by decide +kernel
theorem dX8_remove_1 : decode cX8_remove 1 = .ok (.aload_n 0, 1) := by decide +kernel
theorem dX8_remove_2 : decode cX8_remove 2 = .ok (.iload_n 1, 1) := by decide +kernel
theorem dX8_remove_3 : decode cX8_remove 3 = .ok (.invokevirtual 169, 3) := by decide +kernel
theorem dX8_remove_6 : decode cX8_remove 6 = .ok (.iconst 1, 1) := by decide +kernel
theorem dX8_remove_7 : decode cX8_remove 7 = .ok (.invokevirtual 93, 3) := by decide +kernel
theorem dX8_remove_10 : decode cX8_remove 10 = .ok (.ifCond .ne 25, 3) := by decide +kernel
theorem dX8_remove_13 : decode cX8_remove 13 = .ok (.aload_n 0, 1) := by decide +kernel
theorem dX8_remove_14 : decode cX8_remove 14 = .ok (.aload_n 0, 1) := by decide +kernel
theorem dX8_remove_15 : decode cX8_remove 15 = .ok (.getfield 46, 3) := by decide +kernel
theorem dX8_remove_18 : decode cX8_remove 18 = .ok (.iload_n 1, 1) := by decide +kernel
theorem dX8_remove_19 : decode cX8_remove 19 = .ok (.baload, 1) := by decide +kernel
theorem dX8_remove_20 : decode cX8_remove 20 = .ok (.ifCond .ne 7, 3) := by decide +kernel
theorem dX8_remove_23 : decode cX8_remove 23 = .ok (.iconst 1, 1) := by decide +kernel
theorem dX8_remove_24 : decode cX8_remove 24 = .ok (.goto 4, 3) := by decide +kernel
theorem dX8_remove_27 : decode cX8_remove 27 = .ok (.iconst 0, 1) := by decide +kernel
theorem dX8_remove_28 : decode cX8_remove 28 = .ok (.iconst 2, 1) := by decide +kernel
theorem dX8_remove_29 : decode cX8_remove 29 = .ok (.invokevirtual 93, 3) := by decide +kernel
theorem dX8_remove_32 : decode cX8_remove 32 = .ok (.ifCond .eq 5, 3) := by decide +kernel
theorem dX8_remove_35 : decode cX8_remove 35 = .ok (.iconst 0, 1) := by decide +kernel
theorem dX8_remove_36 : decode cX8_remove 36 = .ok (.ireturn, 1) := by decide +kernel
theorem dX8_remove_37 : decode cX8_remove 37 = .ok (.aload_n 0, 1) := by decide +kernel
theorem dX8_remove_38 : decode cX8_remove 38 = .ok (.iload_n 1, 1) := by decide +kernel
theorem dX8_remove_39 : decode cX8_remove 39 = .ok (.bipush (-2), 2) := by decide +kernel
theorem dX8_remove_41 : decode cX8_remove 41 = .ok (.invokevirtual 176, 3) := by decide +kernel
theorem dX8_remove_44 : decode cX8_remove 44 = .ok (.aload_n 0, 1) := by decide +kernel
theorem dX8_remove_45 : decode cX8_remove 45 = .ok (.getfield 118, 3) := by decide +kernel
theorem dX8_remove_48 : decode cX8_remove 48 = .ok (.ireturn, 1) := by decide +kernel
theorem dX8_keeps_0 : decode cX8_keeps 0 = .ok (.iconst 0, 1) := by decide +kernel
theorem dX8_keeps_1 : decode cX8_keeps 1 = .ok (.istore_n 1, 1) := by decide +kernel
theorem dX8_keeps_2 : decode cX8_keeps 2 = .ok (.iload_n 1, 1) := by decide +kernel
theorem dX8_keeps_3 : decode cX8_keeps 3 = .ok (.bipush 80, 2) := by decide +kernel
theorem dX8_keeps_5 : decode cX8_keeps 5 = .ok (.if_icmp .ge 57, 3) := by decide +kernel
theorem dX8_keeps_8 : decode cX8_keeps 8 = .ok (.aload_n 0, 1) := by decide +kernel
theorem dX8_keeps_9 : decode cX8_keeps 9 = .ok (.getfield 64, 3) := by decide +kernel
theorem dX8_keeps_12 : decode cX8_keeps 12 = .ok (.iload_n 1, 1) := by decide +kernel
theorem dX8_keeps_13 : decode cX8_keeps 13 = .ok (.aload_n 0, 1) := by decide +kernel
theorem dX8_keeps_14 : decode cX8_keeps 14 = .ok (.getfield 34, 3) := by decide +kernel
theorem dX8_keeps_17 : decode cX8_keeps 17 = .ok (.iload_n 1, 1) := by decide +kernel
theorem dX8_keeps_18 : decode cX8_keeps 18 = .ok (.iaload, 1) := by decide +kernel
theorem dX8_keeps_19 : decode cX8_keeps 19 = .ok (.iastore, 1) := by decide +kernel
theorem dX8_keeps_20 : decode cX8_keeps 20 = .ok (.aload_n 0, 1) := by decide +kernel
theorem dX8_keeps_21 : decode cX8_keeps 21 = .ok (.getfield 67, 3) := by decide +kernel
theorem dX8_keeps_24 : decode cX8_keeps 24 = .ok (.iload_n 1, 1) := by decide +kernel
theorem dX8_keeps_25 : decode cX8_keeps 25 = .ok (.aload_n 0, 1) := by decide +kernel
theorem dX8_keeps_26 : decode cX8_keeps 26 = .ok (.getfield 37, 3) := by decide +kernel
theorem dX8_keeps_29 : decode cX8_keeps 29 = .ok (.iload_n 1, 1) := by decide +kernel
theorem dX8_keeps_30 : decode cX8_keeps 30 = .ok (.iaload, 1) := by decide +kernel
theorem dX8_keeps_31 : decode cX8_keeps 31 = .ok (.iastore, 1) := by decide +kernel
theorem dX8_keeps_32 : decode cX8_keeps 32 = .ok (.aload_n 0, 1) := by decide +kernel
theorem dX8_keeps_33 : decode cX8_keeps 33 = .ok (.getfield 70, 3) := by decide +kernel
theorem dX8_keeps_36 : decode cX8_keeps 36 = .ok (.iload_n 1, 1) := by decide +kernel
theorem dX8_keeps_37 : decode cX8_keeps 37 = .ok (.aload_n 0, 1) := by decide +kernel
theorem dX8_keeps_38 : decode cX8_keeps 38 = .ok (.getfield 40, 3) := by decide +kernel
theorem dX8_keeps_41 : decode cX8_keeps 41 = .ok (.iload_n 1, 1) := by decide +kernel
theorem dX8_keeps_42 : decode cX8_keeps 42 = .ok (.caload, 1) := by decide +kernel
theorem dX8_keeps_43 : decode cX8_keeps 43 = .ok (.castore, 1) := by decide +kernel
theorem dX8_keeps_44 : decode cX8_keeps 44 = .ok (.aload_n 0, 1) := by decide +kernel
theorem dX8_keeps_45 : decode cX8_keeps 45 = .ok (.getfield 73, 3) := by decide +kernel
theorem dX8_keeps_48 : decode cX8_keeps 48 = .ok (.iload_n 1, 1) := by decide +kernel
theorem dX8_keeps_49 : decode cX8_keeps 49 = .ok (.aload_n 0, 1) := by decide +kernel
theorem dX8_keeps_50 : decode cX8_keeps 50 = .ok (.getfield 43, 3) := by decide +kernel
theorem dX8_keeps_53 : decode cX8_keeps 53 = .ok (.iload_n 1, 1) := by decide +kernel
theorem dX8_keeps_54 : decode cX8_keeps 54 = .ok (.iaload, 1) := by decide +kernel
theorem dX8_keeps_55 : decode cX8_keeps 55 = .ok (.iastore, 1) := by decide +kernel
theorem dX8_keeps_56 : decode cX8_keeps 56 = .ok (.iinc 1 1, 3) := by decide +kernel
theorem dX8_keeps_59 : decode cX8_keeps 59 = .ok (.goto (-57), 3) := by decide +kernel
theorem dX8_keeps_62 : decode cX8_keeps 62 = .ok (.return_, 1) := by decide +kernel
theorem dX8_givesBack_0 : decode cX8_givesBack 0 = .ok (.iconst 0, 1) := by decide +kernel
theorem dX8_givesBack_1 : decode cX8_givesBack 1 = .ok (.istore_n 1, 1) := by decide +kernel
theorem dX8_givesBack_2 : decode cX8_givesBack 2 = .ok (.iload_n 1, 1) := by decide +kernel
theorem dX8_givesBack_3 : decode cX8_givesBack 3 = .ok (.bipush 80, 2) := by decide +kernel
theorem dX8_givesBack_5 : decode cX8_givesBack 5 = .ok (.if_icmp .ge 57, 3) := by decide +kernel
theorem dX8_givesBack_8 : decode cX8_givesBack 8 = .ok (.aload_n 0, 1) := by decide +kernel
theorem dX8_givesBack_9 : decode cX8_givesBack 9 = .ok (.getfield 34, 3) := by decide +kernel
theorem dX8_givesBack_12 : decode cX8_givesBack 12 = .ok (.iload_n 1, 1) := by decide +kernel
theorem dX8_givesBack_13 : decode cX8_givesBack 13 = .ok (.aload_n 0, 1) := by decide +kernel
theorem dX8_givesBack_14 : decode cX8_givesBack 14 = .ok (.getfield 64, 3) := by decide +kernel
theorem dX8_givesBack_17 : decode cX8_givesBack 17 = .ok (.iload_n 1, 1) := by decide +kernel
theorem dX8_givesBack_18 : decode cX8_givesBack 18 = .ok (.iaload, 1) := by decide +kernel
theorem dX8_givesBack_19 : decode cX8_givesBack 19 = .ok (.iastore, 1) := by decide +kernel
theorem dX8_givesBack_20 : decode cX8_givesBack 20 = .ok (.aload_n 0, 1) := by decide +kernel
theorem dX8_givesBack_21 : decode cX8_givesBack 21 = .ok (.getfield 37, 3) := by decide +kernel
theorem dX8_givesBack_24 : decode cX8_givesBack 24 = .ok (.iload_n 1, 1) := by decide +kernel
theorem dX8_givesBack_25 : decode cX8_givesBack 25 = .ok (.aload_n 0, 1) := by decide +kernel
theorem dX8_givesBack_26 : decode cX8_givesBack 26 = .ok (.getfield 67, 3) := by decide +kernel
theorem dX8_givesBack_29 : decode cX8_givesBack 29 = .ok (.iload_n 1, 1) := by decide +kernel
theorem dX8_givesBack_30 : decode cX8_givesBack 30 = .ok (.iaload, 1) := by decide +kernel
theorem dX8_givesBack_31 : decode cX8_givesBack 31 = .ok (.iastore, 1) := by decide +kernel
theorem dX8_givesBack_32 : decode cX8_givesBack 32 = .ok (.aload_n 0, 1) := by decide +kernel
theorem dX8_givesBack_33 : decode cX8_givesBack 33 = .ok (.getfield 40, 3) := by decide +kernel
theorem dX8_givesBack_36 : decode cX8_givesBack 36 = .ok (.iload_n 1, 1) := by decide +kernel
theorem dX8_givesBack_37 : decode cX8_givesBack 37 = .ok (.aload_n 0, 1) := by decide +kernel
theorem dX8_givesBack_38 : decode cX8_givesBack 38 = .ok (.getfield 70, 3) := by decide +kernel
theorem dX8_givesBack_41 : decode cX8_givesBack 41 = .ok (.iload_n 1, 1) := by decide +kernel
theorem dX8_givesBack_42 : decode cX8_givesBack 42 = .ok (.caload, 1) := by decide +kernel
theorem dX8_givesBack_43 : decode cX8_givesBack 43 = .ok (.castore, 1) := by decide +kernel
theorem dX8_givesBack_44 : decode cX8_givesBack 44 = .ok (.aload_n 0, 1) := by decide +kernel
theorem dX8_givesBack_45 : decode cX8_givesBack 45 = .ok (.getfield 43, 3) := by decide +kernel
theorem dX8_givesBack_48 : decode cX8_givesBack 48 = .ok (.iload_n 1, 1) := by decide +kernel
theorem dX8_givesBack_49 : decode cX8_givesBack 49 = .ok (.aload_n 0, 1) := by decide +kernel
theorem dX8_givesBack_50 : decode cX8_givesBack 50 = .ok (.getfield 73, 3) := by decide +kernel
theorem dX8_givesBack_53 : decode cX8_givesBack 53 = .ok (.iload_n 1, 1) := by decide +kernel
theorem dX8_givesBack_54 : decode cX8_givesBack 54 = .ok (.iaload, 1) := by decide +kernel
theorem dX8_givesBack_55 : decode cX8_givesBack 55 = .ok (.iastore, 1) := by decide +kernel
theorem dX8_givesBack_56 : decode cX8_givesBack 56 = .ok (.iinc 1 1, 3) := by decide +kernel
theorem dX8_givesBack_59 : decode cX8_givesBack 59 = .ok (.goto (-57), 3) := by decide +kernel
theorem dX8_givesBack_62 : decode cX8_givesBack 62 = .ok (.return_, 1) := by decide +kernel
theorem dX8_next_0 : decode cX8_next 0 = .ok (.iconst (-1), 1) := by decide +kernel
theorem dX8_next_1 : decode cX8_next 1 = .ok (.istore_n 3, 1) := by decide +kernel
theorem dX8_next_2 : decode cX8_next 2 = .ok (.iconst 0, 1) := by decide +kernel
theorem dX8_next_3 : decode cX8_next 3 = .ok (.istore 4, 2) := by decide +kernel
theorem dX8_next_5 : decode cX8_next 5 = .ok (.iload 4, 2) := by decide +kernel
theorem dX8_next_7 : decode cX8_next 7 = .ok (.iconst 2, 1) := by decide +kernel
theorem dX8_next_8 : decode cX8_next 8 = .ok (.aload_n 0, 1) := by decide +kernel
theorem dX8_next_9 : decode cX8_next 9 = .ok (.getfield 90, 3) := by decide +kernel
theorem dX8_next_12 : decode cX8_next 12 = .ok (.imul, 1) := by decide +kernel
theorem dX8_next_13 : decode cX8_next 13 = .ok (.if_icmp .ge 60, 3) := by decide +kernel
theorem dX8_next_16 : decode cX8_next 16 = .ok (.aload_n 0, 1) := by decide +kernel
theorem dX8_next_17 : decode cX8_next 17 = .ok (.getfield 34, 3) := by decide +kernel
theorem dX8_next_20 : decode cX8_next 20 = .ok (.iload 4, 2) := by decide +kernel
theorem dX8_next_22 : decode cX8_next 22 = .ok (.iaload, 1) := by decide +kernel
theorem dX8_next_23 : decode cX8_next 23 = .ok (.iload_n 1, 1) := by decide +kernel
theorem dX8_next_24 : decode cX8_next 24 = .ok (.if_icmp .ne 43, 3) := by decide +kernel
theorem dX8_next_27 : decode cX8_next 27 = .ok (.aload_n 0, 1) := by decide +kernel
theorem dX8_next_28 : decode cX8_next 28 = .ok (.getfield 43, 3) := by decide +kernel
theorem dX8_next_31 : decode cX8_next 31 = .ok (.iload 4, 2) := by decide +kernel
theorem dX8_next_33 : decode cX8_next 33 = .ok (.iaload, 1) := by decide +kernel
theorem dX8_next_34 : decode cX8_next 34 = .ok (.ifCond .lt 6, 3) := by decide +kernel
theorem dX8_next_37 : decode cX8_next 37 = .ok (.goto 30, 3) := by decide +kernel
theorem dX8_next_40 : decode cX8_next 40 = .ok (.iload_n 3, 1) := by decide +kernel
theorem dX8_next_41 : decode cX8_next 41 = .ok (.iconst (-1), 1) := by decide +kernel
theorem dX8_next_42 : decode cX8_next 42 = .ok (.if_icmp .eq 18, 3) := by decide +kernel
theorem dX8_next_45 : decode cX8_next 45 = .ok (.iload_n 2, 1) := by decide +kernel
theorem dX8_next_46 : decode cX8_next 46 = .ok (.ifCond .ne 19, 3) := by decide +kernel
theorem dX8_next_49 : decode cX8_next 49 = .ok (.aload_n 0, 1) := by decide +kernel
theorem dX8_next_50 : decode cX8_next 50 = .ok (.iload_n 1, 1) := by decide +kernel
theorem dX8_next_51 : decode cX8_next 51 = .ok (.iload_n 3, 1) := by decide +kernel
theorem dX8_next_52 : decode cX8_next 52 = .ok (.iload 4, 2) := by decide +kernel
theorem dX8_next_54 : decode cX8_next 54 = .ok (.invokevirtual 151, 3) := by decide +kernel
theorem dX8_next_57 : decode cX8_next 57 = .ok (.ifCond .eq 8, 3) := by decide +kernel
theorem dX8_next_60 : decode cX8_next 60 = .ok (.iload 4, 2) := by decide +kernel
theorem dX8_next_62 : decode cX8_next 62 = .ok (.goto 4, 3) := by decide +kernel
theorem dX8_next_65 : decode cX8_next 65 = .ok (.iload_n 3, 1) := by decide +kernel
theorem dX8_next_66 : decode cX8_next 66 = .ok (.istore_n 3, 1) := by decide +kernel
theorem dX8_next_67 : decode cX8_next 67 = .ok (.iinc 4 1, 3) := by decide +kernel
theorem dX8_next_70 : decode cX8_next 70 = .ok (.goto (-65), 3) := by decide +kernel
theorem dX8_next_73 : decode cX8_next 73 = .ok (.iload_n 3, 1) := by decide +kernel
theorem dX8_next_74 : decode cX8_next 74 = .ok (.ireturn, 1) := by decide +kernel
theorem dX8_renumber_0 : decode cX8_renumber 0 = .ok (.aload_n 0, 1) := by decide +kernel
theorem dX8_renumber_1 : decode cX8_renumber 1 = .ok (.aload_n 0, 1) := by decide +kernel
theorem dX8_renumber_2 : decode cX8_renumber 2 = .ok (.iload_n 1, 1) := by decide +kernel
theorem dX8_renumber_3 : decode cX8_renumber 3 = .ok (.invokevirtual 132, 3) := by decide +kernel
theorem dX8_renumber_6 : decode cX8_renumber 6 = .ok (.iconst 1, 1) := by decide +kernel
theorem dX8_renumber_7 : decode cX8_renumber 7 = .ok (.invokevirtual 93, 3) := by decide +kernel
theorem dX8_renumber_10 : decode cX8_renumber 10 = .ok (.ifCond .eq 5, 3) := by decide +kernel
theorem dX8_renumber_13 : decode cX8_renumber 13 = .ok (.iconst 0, 1) := by decide +kernel
theorem dX8_renumber_14 : decode cX8_renumber 14 = .ok (.ireturn, 1) := by decide +kernel
theorem dX8_renumber_15 : decode cX8_renumber 15 = .ok (.aload_n 0, 1) := by decide +kernel
theorem dX8_renumber_16 : decode cX8_renumber 16 = .ok (.invokevirtual 184, 3) := by decide +kernel
theorem dX8_renumber_19 : decode cX8_renumber 19 = .ok (.aload_n 0, 1) := by decide +kernel
theorem dX8_renumber_20 : decode cX8_renumber 20 = .ok (.getfield 31, 3) := by decide +kernel
theorem dX8_renumber_23 : decode cX8_renumber 23 = .ok (.iload_n 1, 1) := by decide +kernel
theorem dX8_renumber_24 : decode cX8_renumber 24 = .ok (.iaload, 1) := by decide +kernel
theorem dX8_renumber_25 : decode cX8_renumber 25 = .ok (.istore_n 2, 1) := by decide +kernel
theorem dX8_renumber_26 : decode cX8_renumber 26 = .ok (.aload_n 0, 1) := by decide +kernel
theorem dX8_renumber_27 : decode cX8_renumber 27 = .ok (.getfield 31, 3) := by decide +kernel
theorem dX8_renumber_30 : decode cX8_renumber 30 = .ok (.iload_n 1, 1) := by decide +kernel
theorem dX8_renumber_31 : decode cX8_renumber 31 = .ok (.iconst 0, 1) := by decide +kernel
theorem dX8_renumber_32 : decode cX8_renumber 32 = .ok (.iastore, 1) := by decide +kernel
theorem dX8_renumber_33 : decode cX8_renumber 33 = .ok (.iconst 0, 1) := by decide +kernel
theorem dX8_renumber_34 : decode cX8_renumber 34 = .ok (.istore_n 3, 1) := by decide +kernel
theorem dX8_renumber_35 : decode cX8_renumber 35 = .ok (.iload_n 3, 1) := by decide +kernel
theorem dX8_renumber_36 : decode cX8_renumber 36 = .ok (.bipush 80, 2) := by decide +kernel
theorem dX8_renumber_38 : decode cX8_renumber 38 = .ok (.if_icmp .ge 35, 3) := by decide +kernel
theorem dX8_renumber_41 : decode cX8_renumber 41 = .ok (.aload_n 0, 1) := by decide +kernel
theorem dX8_renumber_42 : decode cX8_renumber 42 = .ok (.getfield 43, 3) := by decide +kernel
theorem dX8_renumber_45 : decode cX8_renumber 45 = .ok (.iload_n 3, 1) := by decide +kernel
theorem dX8_renumber_46 : decode cX8_renumber 46 = .ok (.aload_n 0, 1) := by decide +kernel
theorem dX8_renumber_47 : decode cX8_renumber 47 = .ok (.getfield 34, 3) := by decide +kernel
theorem dX8_renumber_50 : decode cX8_renumber 50 = .ok (.iload_n 3, 1) := by decide +kernel
theorem dX8_renumber_51 : decode cX8_renumber 51 = .ok (.iaload, 1) := by decide +kernel
theorem dX8_renumber_52 : decode cX8_renumber 52 = .ok (.iload_n 1, 1) := by decide +kernel
theorem dX8_renumber_53 : decode cX8_renumber 53 = .ok (.if_icmp .ne 7, 3) := by decide +kernel
theorem dX8_renumber_56 : decode cX8_renumber 56 = .ok (.iconst (-1), 1) := by decide +kernel
theorem dX8_renumber_57 : decode cX8_renumber 57 = .ok (.goto 9, 3) := by decide +kernel
theorem dX8_renumber_60 : decode cX8_renumber 60 = .ok (.aload_n 0, 1) := by decide +kernel
theorem dX8_renumber_61 : decode cX8_renumber 61 = .ok (.getfield 43, 3) := by decide +kernel
theorem dX8_renumber_64 : decode cX8_renumber 64 = .ok (.iload_n 3, 1) := by decide +kernel
theorem dX8_renumber_65 : decode cX8_renumber 65 = .ok (.iaload, 1) := by decide +kernel
theorem dX8_renumber_66 : decode cX8_renumber 66 = .ok (.iastore, 1) := by decide +kernel
theorem dX8_renumber_67 : decode cX8_renumber 67 = .ok (.iinc 3 1, 3) := by decide +kernel
theorem dX8_renumber_70 : decode cX8_renumber 70 = .ok (.goto (-35), 3) := by decide +kernel
theorem dX8_renumber_73 : decode cX8_renumber 73 = .ok (.iconst 1, 1) := by decide +kernel
theorem dX8_renumber_74 : decode cX8_renumber 74 = .ok (.istore_n 3, 1) := by decide +kernel
theorem dX8_renumber_75 : decode cX8_renumber 75 = .ok (.aload_n 0, 1) := by decide +kernel
theorem dX8_renumber_76 : decode cX8_renumber 76 = .ok (.iload_n 1, 1) := by decide +kernel
theorem dX8_renumber_77 : decode cX8_renumber 77 = .ok (.aload_n 0, 1) := by decide +kernel
theorem dX8_renumber_78 : decode cX8_renumber 78 = .ok (.getfield 20, 3) := by decide +kernel
theorem dX8_renumber_81 : decode cX8_renumber 81 = .ok (.iload_n 1, 1) := by decide +kernel
theorem dX8_renumber_82 : decode cX8_renumber 82 = .ok (.caload, 1) := by decide +kernel
theorem dX8_renumber_83 : decode cX8_renumber 83 = .ok (.bipush 121, 2) := by decide +kernel
theorem dX8_renumber_85 : decode cX8_renumber 85 = .ok (.if_icmp .ne 7, 3) := by decide +kernel
theorem dX8_renumber_88 : decode cX8_renumber 88 = .ok (.iconst 1, 1) := by decide +kernel
theorem dX8_renumber_89 : decode cX8_renumber 89 = .ok (.goto 4, 3) := by decide +kernel
theorem dX8_renumber_92 : decode cX8_renumber 92 = .ok (.iconst 0, 1) := by decide +kernel
theorem dX8_renumber_93 : decode cX8_renumber 93 = .ok (.invokevirtual 187, 3) := by decide +kernel
theorem dX8_renumber_96 : decode cX8_renumber 96 = .ok (.istore 4, 2) := by decide +kernel
theorem dX8_renumber_98 : decode cX8_renumber 98 = .ok (.iload_n 3, 1) := by decide +kernel
theorem dX8_renumber_99 : decode cX8_renumber 99 = .ok (.ifCond .eq 98, 3) := by decide +kernel
theorem dX8_renumber_102 : decode cX8_renumber 102 = .ok (.iload 4, 2) := by decide +kernel
theorem dX8_renumber_104 : decode cX8_renumber 104 = .ok (.iconst (-1), 1) := by decide +kernel
theorem dX8_renumber_105 : decode cX8_renumber 105 = .ok (.if_icmp .eq 92, 3) := by decide +kernel
theorem dX8_renumber_108 : decode cX8_renumber 108 = .ok (.aload_n 0, 1) := by decide +kernel
theorem dX8_renumber_109 : decode cX8_renumber 109 = .ok (.iload_n 1, 1) := by decide +kernel
theorem dX8_renumber_110 : decode cX8_renumber 110 = .ok (.iload 4, 2) := by decide +kernel
theorem dX8_renumber_112 : decode cX8_renumber 112 = .ok (.iconst 2, 1) := by decide +kernel
theorem dX8_renumber_113 : decode cX8_renumber 113 = .ok (.idiv, 1) := by decide +kernel
theorem dX8_renumber_114 : decode cX8_renumber 114 = .ok (.aload_n 0, 1) := by decide +kernel
theorem dX8_renumber_115 : decode cX8_renumber 115 = .ok (.getfield 37, 3) := by decide +kernel
theorem dX8_renumber_118 : decode cX8_renumber 118 = .ok (.iload 4, 2) := by decide +kernel
theorem dX8_renumber_120 : decode cX8_renumber 120 = .ok (.iaload, 1) := by decide +kernel
theorem dX8_renumber_121 : decode cX8_renumber 121 = .ok (.aload_n 0, 1) := by decide +kernel
theorem dX8_renumber_122 : decode cX8_renumber 122 = .ok (.getfield 40, 3) := by decide +kernel
theorem dX8_renumber_125 : decode cX8_renumber 125 = .ok (.iload 4, 2) := by decide +kernel
theorem dX8_renumber_127 : decode cX8_renumber 127 = .ok (.caload, 1) := by decide +kernel
theorem dX8_renumber_128 : decode cX8_renumber 128 = .ok (.invokevirtual 161, 3) := by decide +kernel
theorem dX8_renumber_131 : decode cX8_renumber 131 = .ok (.istore 5, 2) := by decide +kernel
theorem dX8_renumber_133 : decode cX8_renumber 133 = .ok (.iload 5, 2) := by decide +kernel
theorem dX8_renumber_135 : decode cX8_renumber 135 = .ok (.ifCond .lt 7, 3) := by decide +kernel
theorem dX8_renumber_138 : decode cX8_renumber 138 = .ok (.iconst 1, 1) := by decide +kernel
theorem dX8_renumber_139 : decode cX8_renumber 139 = .ok (.goto 4, 3) := by decide +kernel
theorem dX8_renumber_142 : decode cX8_renumber 142 = .ok (.iconst 0, 1) := by decide +kernel
theorem dX8_renumber_143 : decode cX8_renumber 143 = .ok (.istore_n 3, 1) := by decide +kernel
theorem dX8_renumber_144 : decode cX8_renumber 144 = .ok (.iload_n 3, 1) := by decide +kernel
theorem dX8_renumber_145 : decode cX8_renumber 145 = .ok (.ifCond .eq 26, 3) := by decide +kernel
theorem dX8_renumber_148 : decode cX8_renumber 148 = .ok (.aload_n 0, 1) := by decide +kernel
theorem dX8_renumber_149 : decode cX8_renumber 149 = .ok (.iload 4, 2) := by decide +kernel
theorem dX8_renumber_151 : decode cX8_renumber 151 = .ok (.iload_n 1, 1) := by decide +kernel
theorem dX8_renumber_152 : decode cX8_renumber 152 = .ok (.aload_n 0, 1) := by decide +kernel
theorem dX8_renumber_153 : decode cX8_renumber 153 = .ok (.getfield 37, 3) := by decide +kernel
theorem dX8_renumber_156 : decode cX8_renumber 156 = .ok (.iload 4, 2) := by decide +kernel
theorem dX8_renumber_158 : decode cX8_renumber 158 = .ok (.iaload, 1) := by decide +kernel
theorem dX8_renumber_159 : decode cX8_renumber 159 = .ok (.aload_n 0, 1) := by decide +kernel
theorem dX8_renumber_160 : decode cX8_renumber 160 = .ok (.getfield 40, 3) := by decide +kernel
theorem dX8_renumber_163 : decode cX8_renumber 163 = .ok (.iload 4, 2) := by decide +kernel
theorem dX8_renumber_165 : decode cX8_renumber 165 = .ok (.caload, 1) := by decide +kernel
theorem dX8_renumber_166 : decode cX8_renumber 166 = .ok (.iload 5, 2) := by decide +kernel
theorem dX8_renumber_168 : decode cX8_renumber 168 = .ok (.invokevirtual 165, 3) := by decide +kernel
theorem dX8_renumber_171 : decode cX8_renumber 171 = .ok (.aload_n 0, 1) := by decide +kernel
theorem dX8_renumber_172 : decode cX8_renumber 172 = .ok (.iload_n 1, 1) := by decide +kernel
theorem dX8_renumber_173 : decode cX8_renumber 173 = .ok (.aload_n 0, 1) := by decide +kernel
theorem dX8_renumber_174 : decode cX8_renumber 174 = .ok (.getfield 20, 3) := by decide +kernel
theorem dX8_renumber_177 : decode cX8_renumber 177 = .ok (.iload_n 1, 1) := by decide +kernel
theorem dX8_renumber_178 : decode cX8_renumber 178 = .ok (.caload, 1) := by decide +kernel
theorem dX8_renumber_179 : decode cX8_renumber 179 = .ok (.bipush 121, 2) := by decide +kernel
theorem dX8_renumber_181 : decode cX8_renumber 181 = .ok (.if_icmp .ne 7, 3) := by decide +kernel
theorem dX8_renumber_184 : decode cX8_renumber 184 = .ok (.iconst 1, 1) := by decide +kernel
theorem dX8_renumber_185 : decode cX8_renumber 185 = .ok (.goto 4, 3) := by decide +kernel
theorem dX8_renumber_188 : decode cX8_renumber 188 = .ok (.iconst 0, 1) := by decide +kernel
theorem dX8_renumber_189 : decode cX8_renumber 189 = .ok (.invokevirtual 187, 3) := by decide +kernel
theorem dX8_renumber_192 : decode cX8_renumber 192 = .ok (.istore 4, 2) := by decide +kernel
theorem dX8_renumber_194 : decode cX8_renumber 194 = .ok (.goto (-96), 3) := by decide +kernel
theorem dX8_renumber_197 : decode cX8_renumber 197 = .ok (.aload_n 0, 1) := by decide +kernel
theorem dX8_renumber_198 : decode cX8_renumber 198 = .ok (.iload_n 3, 1) := by decide +kernel
theorem dX8_renumber_199 : decode cX8_renumber 199 = .ok (.iconst 2, 1) := by decide +kernel
theorem dX8_renumber_200 : decode cX8_renumber 200 = .ok (.invokevirtual 93, 3) := by decide +kernel
theorem dX8_renumber_203 : decode cX8_renumber 203 = .ok (.ifCond .eq 16, 3) := by decide +kernel
theorem dX8_renumber_206 : decode cX8_renumber 206 = .ok (.aload_n 0, 1) := by decide +kernel
theorem dX8_renumber_207 : decode cX8_renumber 207 = .ok (.invokevirtual 191, 3) := by decide +kernel
theorem dX8_renumber_210 : decode cX8_renumber 210 = .ok (.aload_n 0, 1) := by decide +kernel
theorem dX8_renumber_211 : decode cX8_renumber 211 = .ok (.getfield 31, 3) := by decide +kernel
theorem dX8_renumber_214 : decode cX8_renumber 214 = .ok (.iload_n 1, 1) := by decide +kernel
theorem dX8_renumber_215 : decode cX8_renumber 215 = .ok (.iload_n 2, 1) := by decide +kernel
theorem dX8_renumber_216 : decode cX8_renumber 216 = .ok (.iastore, 1) := by decide +kernel
theorem dX8_renumber_217 : decode cX8_renumber 217 = .ok (.iconst 0, 1) := by decide +kernel
theorem dX8_renumber_218 : decode cX8_renumber 218 = .ok (.ireturn, 1) := by decide +kernel
theorem dX8_renumber_219 : decode cX8_renumber 219 = .ok (.iconst 0, 1) := by decide +kernel
theorem dX8_renumber_220 : decode cX8_renumber 220 = .ok (.istore 4, 2) := by decide +kernel
theorem dX8_renumber_222 : decode cX8_renumber 222 = .ok (.iconst 0, 1) := by decide +kernel
theorem dX8_renumber_223 : decode cX8_renumber 223 = .ok (.istore 5, 2) := by decide +kernel
theorem dX8_renumber_225 : decode cX8_renumber 225 = .ok (.iload 5, 2) := by decide +kernel
theorem dX8_renumber_227 : decode cX8_renumber 227 = .ok (.aload_n 0, 1) := by decide +kernel
theorem dX8_renumber_228 : decode cX8_renumber 228 = .ok (.getfield 90, 3) := by decide +kernel
theorem dX8_renumber_231 : decode cX8_renumber 231 = .ok (.if_icmp .ge 85, 3) := by decide +kernel
theorem dX8_renumber_234 : decode cX8_renumber 234 = .ok (.aload_n 0, 1) := by decide +kernel
theorem dX8_renumber_235 : decode cX8_renumber 235 = .ok (.iload 5, 2) := by decide +kernel
theorem dX8_renumber_237 : decode cX8_renumber 237 = .ok (.iload_n 1, 1) := by decide +kernel
theorem dX8_renumber_238 : decode cX8_renumber 238 = .ok (.invokevirtual 124, 3) := by decide +kernel
theorem dX8_renumber_241 : decode cX8_renumber 241 = .ok (.istore 6, 2) := by decide +kernel
theorem dX8_renumber_243 : decode cX8_renumber 243 = .ok (.iload 6, 2) := by decide +kernel
theorem dX8_renumber_245 : decode cX8_renumber 245 = .ok (.iconst (-1), 1) := by decide +kernel
theorem dX8_renumber_246 : decode cX8_renumber 246 = .ok (.if_icmp .eq 64, 3) := by decide +kernel
theorem dX8_renumber_249 : decode cX8_renumber 249 = .ok (.aload_n 0, 1) := by decide +kernel
theorem dX8_renumber_250 : decode cX8_renumber 250 = .ok (.getfield 43, 3) := by decide +kernel
theorem dX8_renumber_253 : decode cX8_renumber 253 = .ok (.iload 6, 2) := by decide +kernel
theorem dX8_renumber_255 : decode cX8_renumber 255 = .ok (.iaload, 1) := by decide +kernel
theorem dX8_renumber_256 : decode cX8_renumber 256 = .ok (.aload_n 0, 1) := by decide +kernel
theorem dX8_renumber_257 : decode cX8_renumber 257 = .ok (.getfield 73, 3) := by decide +kernel
theorem dX8_renumber_260 : decode cX8_renumber 260 = .ok (.iload 6, 2) := by decide +kernel
theorem dX8_renumber_262 : decode cX8_renumber 262 = .ok (.iaload, 1) := by decide +kernel
theorem dX8_renumber_263 : decode cX8_renumber 263 = .ok (.if_icmp .ne 6, 3) := by decide +kernel
theorem dX8_renumber_266 : decode cX8_renumber 266 = .ok (.goto 44, 3) := by decide +kernel
theorem dX8_renumber_269 : decode cX8_renumber 269 = .ok (.aload_n 0, 1) := by decide +kernel
theorem dX8_renumber_270 : decode cX8_renumber 270 = .ok (.aload_n 0, 1) := by decide +kernel
theorem dX8_renumber_271 : decode cX8_renumber 271 = .ok (.getfield 7, 3) := by decide +kernel
theorem dX8_renumber_274 : decode cX8_renumber 274 = .ok (.iload_n 1, 1) := by decide +kernel
theorem dX8_renumber_275 : decode cX8_renumber 275 = .ok (.laload, 1) := by decide +kernel
theorem dX8_renumber_276 : decode cX8_renumber 276 = .ok (.aload_n 0, 1) := by decide +kernel
theorem dX8_renumber_277 : decode cX8_renumber 277 = .ok (.getfield 73, 3) := by decide +kernel
theorem dX8_renumber_280 : decode cX8_renumber 280 = .ok (.iload 6, 2) := by decide +kernel
theorem dX8_renumber_282 : decode cX8_renumber 282 = .ok (.iaload, 1) := by decide +kernel
theorem dX8_renumber_283 : decode cX8_renumber 283 = .ok (.iload 5, 2) := by decide +kernel
theorem dX8_renumber_285 : decode cX8_renumber 285 = .ok (.invokevirtual 128, 3) := by decide +kernel
theorem dX8_renumber_288 : decode cX8_renumber 288 = .ok (.aload_n 0, 1) := by decide +kernel
theorem dX8_renumber_289 : decode cX8_renumber 289 = .ok (.aload_n 0, 1) := by decide +kernel
theorem dX8_renumber_290 : decode cX8_renumber 290 = .ok (.getfield 13, 3) := by decide +kernel
theorem dX8_renumber_293 : decode cX8_renumber 293 = .ok (.iload_n 1, 1) := by decide +kernel
theorem dX8_renumber_294 : decode cX8_renumber 294 = .ok (.laload, 1) := by decide +kernel
theorem dX8_renumber_295 : decode cX8_renumber 295 = .ok (.aload_n 0, 1) := by decide +kernel
theorem dX8_renumber_296 : decode cX8_renumber 296 = .ok (.getfield 73, 3) := by decide +kernel
theorem dX8_renumber_299 : decode cX8_renumber 299 = .ok (.iload 6, 2) := by decide +kernel
theorem dX8_renumber_301 : decode cX8_renumber 301 = .ok (.iaload, 1) := by decide +kernel
theorem dX8_renumber_302 : decode cX8_renumber 302 = .ok (.iload 5, 2) := by decide +kernel
theorem dX8_renumber_304 : decode cX8_renumber 304 = .ok (.invokevirtual 128, 3) := by decide +kernel
theorem dX8_renumber_307 : decode cX8_renumber 307 = .ok (.iinc 4 1, 3) := by decide +kernel
theorem dX8_renumber_310 : decode cX8_renumber 310 = .ok (.iinc 5 1, 3) := by decide +kernel
theorem dX8_renumber_313 : decode cX8_renumber 313 = .ok (.goto (-88), 3) := by decide +kernel
theorem dX8_renumber_316 : decode cX8_renumber 316 = .ok (.iload 4, 2) := by decide +kernel
theorem dX8_renumber_318 : decode cX8_renumber 318 = .ok (.ireturn, 1) := by decide +kernel
theorem dX8_least_0 : decode cX8_least 0 = .ok (.iconst (-1), 1) := by decide +kernel
theorem dX8_least_1 : decode cX8_least 1 = .ok (.istore_n 2, 1) := by decide +kernel
theorem dX8_least_2 : decode cX8_least 2 = .ok (.iconst 0, 1) := by decide +kernel
theorem dX8_least_3 : decode cX8_least 3 = .ok (.istore_n 3, 1) := by decide +kernel
theorem dX8_least_4 : decode cX8_least 4 = .ok (.iload_n 3, 1) := by decide +kernel
theorem dX8_least_5 : decode cX8_least 5 = .ok (.iconst 2, 1) := by decide +kernel
theorem dX8_least_6 : decode cX8_least 6 = .ok (.aload_n 0, 1) := by decide +kernel
theorem dX8_least_7 : decode cX8_least 7 = .ok (.getfield 90, 3) := by decide +kernel
theorem dX8_least_10 : decode cX8_least 10 = .ok (.imul, 1) := by decide +kernel
theorem dX8_least_11 : decode cX8_least 11 = .ok (.if_icmp .ge 40, 3) := by decide +kernel
theorem dX8_least_14 : decode cX8_least 14 = .ok (.aload_n 0, 1) := by decide +kernel
theorem dX8_least_15 : decode cX8_least 15 = .ok (.getfield 34, 3) := by decide +kernel
theorem dX8_least_18 : decode cX8_least 18 = .ok (.iload_n 3, 1) := by decide +kernel
theorem dX8_least_19 : decode cX8_least 19 = .ok (.iaload, 1) := by decide +kernel
theorem dX8_least_20 : decode cX8_least 20 = .ok (.iload_n 1, 1) := by decide +kernel
theorem dX8_least_21 : decode cX8_least 21 = .ok (.if_icmp .ne 22, 3) := by decide +kernel
theorem dX8_least_24 : decode cX8_least 24 = .ok (.iload_n 2, 1) := by decide +kernel
theorem dX8_least_25 : decode cX8_least 25 = .ok (.iconst (-1), 1) := by decide +kernel
theorem dX8_least_26 : decode cX8_least 26 = .ok (.if_icmp .eq 13, 3) := by decide +kernel
theorem dX8_least_29 : decode cX8_least 29 = .ok (.aload_n 0, 1) := by decide +kernel
theorem dX8_least_30 : decode cX8_least 30 = .ok (.iload_n 1, 1) := by decide +kernel
theorem dX8_least_31 : decode cX8_least 31 = .ok (.iload_n 2, 1) := by decide +kernel
theorem dX8_least_32 : decode cX8_least 32 = .ok (.iload_n 3, 1) := by decide +kernel
theorem dX8_least_33 : decode cX8_least 33 = .ok (.invokevirtual 151, 3) := by decide +kernel
theorem dX8_least_36 : decode cX8_least 36 = .ok (.ifCond .eq 7, 3) := by decide +kernel
theorem dX8_least_39 : decode cX8_least 39 = .ok (.iload_n 3, 1) := by decide +kernel
theorem dX8_least_40 : decode cX8_least 40 = .ok (.goto 4, 3) := by decide +kernel
theorem dX8_least_43 : decode cX8_least 43 = .ok (.iload_n 2, 1) := by decide +kernel
theorem dX8_least_44 : decode cX8_least 44 = .ok (.istore_n 2, 1) := by decide +kernel
theorem dX8_least_45 : decode cX8_least 45 = .ok (.iinc 3 1, 3) := by decide +kernel
theorem dX8_least_48 : decode cX8_least 48 = .ok (.goto (-44), 3) := by decide +kernel
theorem dX8_least_51 : decode cX8_least 51 = .ok (.iload_n 2, 1) := by decide +kernel
theorem dX8_least_52 : decode cX8_least 52 = .ok (.ireturn, 1) := by decide +kernel
theorem dX8_moves_0 : decode cX8_moves 0 = .ok (.iload_n 1, 1) := by decide +kernel
theorem dX8_moves_1 : decode cX8_moves 1 = .ok (.iconst 2, 1) := by decide +kernel
theorem dX8_moves_2 : decode cX8_moves 2 = .ok (.idiv, 1) := by decide +kernel
theorem dX8_moves_3 : decode cX8_moves 3 = .ok (.istore 4, 2) := by decide +kernel
theorem dX8_moves_5 : decode cX8_moves 5 = .ok (.aload_n 0, 1) := by decide +kernel
theorem dX8_moves_6 : decode cX8_moves 6 = .ok (.iload 4, 2) := by decide +kernel
theorem dX8_moves_8 : decode cX8_moves 8 = .ok (.iload_n 2, 1) := by decide +kernel
theorem dX8_moves_9 : decode cX8_moves 9 = .ok (.invokevirtual 124, 3) := by decide +kernel
theorem dX8_moves_12 : decode cX8_moves 12 = .ok (.istore 5, 2) := by decide +kernel
theorem dX8_moves_14 : decode cX8_moves 14 = .ok (.iload 5, 2) := by decide +kernel
theorem dX8_moves_16 : decode cX8_moves 16 = .ok (.iconst (-1), 1) := by decide +kernel
theorem dX8_moves_17 : decode cX8_moves 17 = .ok (.if_icmp .eq 71, 3) := by decide +kernel
theorem dX8_moves_20 : decode cX8_moves 20 = .ok (.aload_n 0, 1) := by decide +kernel
theorem dX8_moves_21 : decode cX8_moves 21 = .ok (.getfield 37, 3) := by decide +kernel
theorem dX8_moves_24 : decode cX8_moves 24 = .ok (.iload 5, 2) := by decide +kernel
theorem dX8_moves_26 : decode cX8_moves 26 = .ok (.iaload, 1) := by decide +kernel
theorem dX8_moves_27 : decode cX8_moves 27 = .ok (.istore 6, 2) := by decide +kernel
theorem dX8_moves_29 : decode cX8_moves 29 = .ok (.aload_n 0, 1) := by decide +kernel
theorem dX8_moves_30 : decode cX8_moves 30 = .ok (.getfield 40, 3) := by decide +kernel
theorem dX8_moves_33 : decode cX8_moves 33 = .ok (.iload 5, 2) := by decide +kernel
theorem dX8_moves_35 : decode cX8_moves 35 = .ok (.caload, 1) := by decide +kernel
theorem dX8_moves_36 : decode cX8_moves 36 = .ok (.istore 7, 2) := by decide +kernel
theorem dX8_moves_38 : decode cX8_moves 38 = .ok (.aload_n 0, 1) := by decide +kernel
theorem dX8_moves_39 : decode cX8_moves 39 = .ok (.getfield 43, 3) := by decide +kernel
theorem dX8_moves_42 : decode cX8_moves 42 = .ok (.iload 5, 2) := by decide +kernel
theorem dX8_moves_44 : decode cX8_moves 44 = .ok (.iaload, 1) := by decide +kernel
theorem dX8_moves_45 : decode cX8_moves 45 = .ok (.istore 8, 2) := by decide +kernel
theorem dX8_moves_47 : decode cX8_moves 47 = .ok (.aload_n 0, 1) := by decide +kernel
theorem dX8_moves_48 : decode cX8_moves 48 = .ok (.getfield 34, 3) := by decide +kernel
theorem dX8_moves_51 : decode cX8_moves 51 = .ok (.iconst 2, 1) := by decide +kernel
theorem dX8_moves_52 : decode cX8_moves 52 = .ok (.iload 4, 2) := by decide +kernel
theorem dX8_moves_54 : decode cX8_moves 54 = .ok (.imul, 1) := by decide +kernel
theorem dX8_moves_55 : decode cX8_moves 55 = .ok (.iconst 1, 1) := by decide +kernel
theorem dX8_moves_56 : decode cX8_moves 56 = .ok (.iadd, 1) := by decide +kernel
theorem dX8_moves_57 : decode cX8_moves 57 = .ok (.iconst (-1), 1) := by decide +kernel
theorem dX8_moves_58 : decode cX8_moves 58 = .ok (.iastore, 1) := by decide +kernel
theorem dX8_moves_59 : decode cX8_moves 59 = .ok (.aload_n 0, 1) := by decide +kernel
theorem dX8_moves_60 : decode cX8_moves 60 = .ok (.getfield 43, 3) := by decide +kernel
theorem dX8_moves_63 : decode cX8_moves 63 = .ok (.iconst 2, 1) := by decide +kernel
theorem dX8_moves_64 : decode cX8_moves 64 = .ok (.iload 4, 2) := by decide +kernel
theorem dX8_moves_66 : decode cX8_moves 66 = .ok (.imul, 1) := by decide +kernel
theorem dX8_moves_67 : decode cX8_moves 67 = .ok (.iconst 1, 1) := by decide +kernel
theorem dX8_moves_68 : decode cX8_moves 68 = .ok (.iadd, 1) := by decide +kernel
theorem dX8_moves_69 : decode cX8_moves 69 = .ok (.iconst (-1), 1) := by decide +kernel
theorem dX8_moves_70 : decode cX8_moves 70 = .ok (.iastore, 1) := by decide +kernel
theorem dX8_moves_71 : decode cX8_moves 71 = .ok (.aload_n 0, 1) := by decide +kernel
theorem dX8_moves_72 : decode cX8_moves 72 = .ok (.iconst 2, 1) := by decide +kernel
theorem dX8_moves_73 : decode cX8_moves 73 = .ok (.iload 4, 2) := by decide +kernel
theorem dX8_moves_75 : decode cX8_moves 75 = .ok (.imul, 1) := by decide +kernel
theorem dX8_moves_76 : decode cX8_moves 76 = .ok (.iload_n 2, 1) := by decide +kernel
theorem dX8_moves_77 : decode cX8_moves 77 = .ok (.iload 6, 2) := by decide +kernel
theorem dX8_moves_79 : decode cX8_moves 79 = .ok (.iload 7, 2) := by decide +kernel
theorem dX8_moves_81 : decode cX8_moves 81 = .ok (.iload 8, 2) := by decide +kernel
theorem dX8_moves_83 : decode cX8_moves 83 = .ok (.invokevirtual 165, 3) := by decide +kernel
theorem dX8_moves_86 : decode cX8_moves 86 = .ok (.iconst 1, 1) := by decide +kernel
theorem dX8_moves_87 : decode cX8_moves 87 = .ok (.ireturn, 1) := by decide +kernel
theorem dX8_moves_88 : decode cX8_moves 88 = .ok (.iload_n 3, 1) := by decide +kernel
theorem dX8_moves_89 : decode cX8_moves 89 = .ok (.aload_n 0, 1) := by decide +kernel
theorem dX8_moves_90 : decode cX8_moves 90 = .ok (.getfield 37, 3) := by decide +kernel
theorem dX8_moves_93 : decode cX8_moves 93 = .ok (.iload_n 1, 1) := by decide +kernel
theorem dX8_moves_94 : decode cX8_moves 94 = .ok (.iaload, 1) := by decide +kernel
theorem dX8_moves_95 : decode cX8_moves 95 = .ok (.iadd, 1) := by decide +kernel
theorem dX8_moves_96 : decode cX8_moves 96 = .ok (.istore 6, 2) := by decide +kernel
theorem dX8_moves_98 : decode cX8_moves 98 = .ok (.aload_n 0, 1) := by decide +kernel
theorem dX8_moves_99 : decode cX8_moves 99 = .ok (.getfield 34, 3) := by decide +kernel
theorem dX8_moves_102 : decode cX8_moves 102 = .ok (.iload_n 1, 1) := by decide +kernel
theorem dX8_moves_103 : decode cX8_moves 103 = .ok (.iconst (-1), 1) := by decide +kernel
theorem dX8_moves_104 : decode cX8_moves 104 = .ok (.iastore, 1) := by decide +kernel
theorem dX8_moves_105 : decode cX8_moves 105 = .ok (.aload_n 0, 1) := by decide +kernel
theorem dX8_moves_106 : decode cX8_moves 106 = .ok (.iload_n 2, 1) := by decide +kernel
theorem dX8_moves_107 : decode cX8_moves 107 = .ok (.iload 4, 2) := by decide +kernel
theorem dX8_moves_109 : decode cX8_moves 109 = .ok (.iload 6, 2) := by decide +kernel
theorem dX8_moves_111 : decode cX8_moves 111 = .ok (.aload_n 0, 1) := by decide +kernel
theorem dX8_moves_112 : decode cX8_moves 112 = .ok (.getfield 40, 3) := by decide +kernel
theorem dX8_moves_115 : decode cX8_moves 115 = .ok (.iload_n 1, 1) := by decide +kernel
theorem dX8_moves_116 : decode cX8_moves 116 = .ok (.caload, 1) := by decide +kernel
theorem dX8_moves_117 : decode cX8_moves 117 = .ok (.invokevirtual 161, 3) := by decide +kernel
theorem dX8_moves_120 : decode cX8_moves 120 = .ok (.istore 7, 2) := by decide +kernel
theorem dX8_moves_122 : decode cX8_moves 122 = .ok (.iload 7, 2) := by decide +kernel
theorem dX8_moves_124 : decode cX8_moves 124 = .ok (.ifCond .lt 19, 3) := by decide +kernel
theorem dX8_moves_127 : decode cX8_moves 127 = .ok (.aload_n 0, 1) := by decide +kernel
theorem dX8_moves_128 : decode cX8_moves 128 = .ok (.iload_n 1, 1) := by decide +kernel
theorem dX8_moves_129 : decode cX8_moves 129 = .ok (.iload_n 2, 1) := by decide +kernel
theorem dX8_moves_130 : decode cX8_moves 130 = .ok (.iload 6, 2) := by decide +kernel
theorem dX8_moves_132 : decode cX8_moves 132 = .ok (.aload_n 0, 1) := by decide +kernel
theorem dX8_moves_133 : decode cX8_moves 133 = .ok (.getfield 40, 3) := by decide +kernel
theorem dX8_moves_136 : decode cX8_moves 136 = .ok (.iload_n 1, 1) := by decide +kernel
theorem dX8_moves_137 : decode cX8_moves 137 = .ok (.caload, 1) := by decide +kernel
theorem dX8_moves_138 : decode cX8_moves 138 = .ok (.iload 7, 2) := by decide +kernel
theorem dX8_moves_140 : decode cX8_moves 140 = .ok (.invokevirtual 165, 3) := by decide +kernel
theorem dX8_moves_143 : decode cX8_moves 143 = .ok (.iload 7, 2) := by decide +kernel
theorem dX8_moves_145 : decode cX8_moves 145 = .ok (.ifCond .lt 7, 3) := by decide +kernel
theorem dX8_moves_148 : decode cX8_moves 148 = .ok (.iconst 1, 1) := by decide +kernel
theorem dX8_moves_149 : decode cX8_moves 149 = .ok (.goto 4, 3) := by decide +kernel
theorem dX8_moves_152 : decode cX8_moves 152 = .ok (.iconst 0, 1) := by decide +kernel
theorem dX8_moves_153 : decode cX8_moves 153 = .ok (.ireturn, 1) := by decide +kernel
theorem dX8_join_0 : decode cX8_join 0 = .ok (.aload_n 0, 1) := by decide +kernel
theorem dX8_join_1 : decode cX8_join 1 = .ok (.aload_n 0, 1) := by decide +kernel
theorem dX8_join_2 : decode cX8_join 2 = .ok (.iload_n 1, 1) := by decide +kernel
theorem dX8_join_3 : decode cX8_join 3 = .ok (.invokevirtual 132, 3) := by decide +kernel
theorem dX8_join_6 : decode cX8_join 6 = .ok (.ifCond .eq 15, 3) := by decide +kernel
theorem dX8_join_9 : decode cX8_join 9 = .ok (.aload_n 0, 1) := by decide +kernel
theorem dX8_join_10 : decode cX8_join 10 = .ok (.iload_n 2, 1) := by decide +kernel
theorem dX8_join_11 : decode cX8_join 11 = .ok (.invokevirtual 132, 3) := by decide +kernel
theorem dX8_join_14 : decode cX8_join 14 = .ok (.ifCond .eq 7, 3) := by decide +kernel
theorem dX8_join_17 : decode cX8_join 17 = .ok (.iconst 1, 1) := by decide +kernel
theorem dX8_join_18 : decode cX8_join 18 = .ok (.goto 4, 3) := by decide +kernel
theorem dX8_join_21 : decode cX8_join 21 = .ok (.iconst 0, 1) := by decide +kernel
theorem dX8_join_22 : decode cX8_join 22 = .ok (.iconst 1, 1) := by decide +kernel
theorem dX8_join_23 : decode cX8_join 23 = .ok (.invokevirtual 93, 3) := by decide +kernel
theorem dX8_join_26 : decode cX8_join 26 = .ok (.ifCond .ne 40, 3) := by decide +kernel
theorem dX8_join_29 : decode cX8_join 29 = .ok (.aload_n 0, 1) := by decide +kernel
theorem dX8_join_30 : decode cX8_join 30 = .ok (.iload_n 1, 1) := by decide +kernel
theorem dX8_join_31 : decode cX8_join 31 = .ok (.iload_n 2, 1) := by decide +kernel
theorem dX8_join_32 : decode cX8_join 32 = .ok (.if_icmp .eq 26, 3) := by decide +kernel
theorem dX8_join_35 : decode cX8_join 35 = .ok (.aload_n 0, 1) := by decide +kernel
theorem dX8_join_36 : decode cX8_join 36 = .ok (.getfield 16, 3) := by decide +kernel
theorem dX8_join_39 : decode cX8_join 39 = .ok (.iload_n 1, 1) := by decide +kernel
theorem dX8_join_40 : decode cX8_join 40 = .ok (.iaload, 1) := by decide +kernel
theorem dX8_join_41 : decode cX8_join 41 = .ok (.aload_n 0, 1) := by decide +kernel
theorem dX8_join_42 : decode cX8_join 42 = .ok (.getfield 16, 3) := by decide +kernel
theorem dX8_join_45 : decode cX8_join 45 = .ok (.iload_n 2, 1) := by decide +kernel
theorem dX8_join_46 : decode cX8_join 46 = .ok (.iaload, 1) := by decide +kernel
theorem dX8_join_47 : decode cX8_join 47 = .ok (.iadd, 1) := by decide +kernel
theorem dX8_join_48 : decode cX8_join 48 = .ok (.sipush 999, 3) := by decide +kernel
theorem dX8_join_51 : decode cX8_join 51 = .ok (.if_icmp .gt 7, 3) := by decide +kernel
theorem dX8_join_54 : decode cX8_join 54 = .ok (.iconst 1, 1) := by decide +kernel
theorem dX8_join_55 : decode cX8_join 55 = .ok (.goto 4, 3) := by decide +kernel
theorem dX8_join_58 : decode cX8_join 58 = .ok (.iconst 0, 1) := by decide +kernel
theorem dX8_join_59 : decode cX8_join 59 = .ok (.iconst 2, 1) := by decide +kernel
theorem dX8_join_60 : decode cX8_join 60 = .ok (.invokevirtual 93, 3) := by decide +kernel
theorem dX8_join_63 : decode cX8_join 63 = .ok (.ifCond .eq 5, 3) := by decide +kernel
theorem dX8_join_66 : decode cX8_join 66 = .ok (.iconst 0, 1) := by decide +kernel
theorem dX8_join_67 : decode cX8_join 67 = .ok (.ireturn, 1) := by decide +kernel
theorem dX8_join_68 : decode cX8_join 68 = .ok (.aload_n 0, 1) := by decide +kernel
theorem dX8_join_69 : decode cX8_join 69 = .ok (.invokevirtual 184, 3) := by decide +kernel
theorem dX8_join_72 : decode cX8_join 72 = .ok (.aload_n 0, 1) := by decide +kernel
theorem dX8_join_73 : decode cX8_join 73 = .ok (.getfield 31, 3) := by decide +kernel
theorem dX8_join_76 : decode cX8_join 76 = .ok (.iload_n 1, 1) := by decide +kernel
theorem dX8_join_77 : decode cX8_join 77 = .ok (.iaload, 1) := by decide +kernel
theorem dX8_join_78 : decode cX8_join 78 = .ok (.istore_n 3, 1) := by decide +kernel
theorem dX8_join_79 : decode cX8_join 79 = .ok (.aload_n 0, 1) := by decide +kernel
theorem dX8_join_80 : decode cX8_join 80 = .ok (.getfield 16, 3) := by decide +kernel
theorem dX8_join_83 : decode cX8_join 83 = .ok (.iload_n 1, 1) := by decide +kernel
theorem dX8_join_84 : decode cX8_join 84 = .ok (.iaload, 1) := by decide +kernel
theorem dX8_join_85 : decode cX8_join 85 = .ok (.istore 4, 2) := by decide +kernel
theorem dX8_join_87 : decode cX8_join 87 = .ok (.aload_n 0, 1) := by decide +kernel
theorem dX8_join_88 : decode cX8_join 88 = .ok (.getfield 16, 3) := by decide +kernel
theorem dX8_join_91 : decode cX8_join 91 = .ok (.iload_n 1, 1) := by decide +kernel
theorem dX8_join_92 : decode cX8_join 92 = .ok (.dup2, 1) := by decide +kernel
theorem dX8_join_93 : decode cX8_join 93 = .ok (.iaload, 1) := by decide +kernel
theorem dX8_join_94 : decode cX8_join 94 = .ok (.aload_n 0, 1) := by decide +kernel
theorem dX8_join_95 : decode cX8_join 95 = .ok (.getfield 16, 3) := by decide +kernel
theorem dX8_join_98 : decode cX8_join 98 = .ok (.iload_n 2, 1) := by decide +kernel
theorem dX8_join_99 : decode cX8_join 99 = .ok (.iaload, 1) := by decide +kernel
theorem dX8_join_100 : decode cX8_join 100 = .ok (.iadd, 1) := by decide +kernel
theorem dX8_join_101 : decode cX8_join 101 = .ok (.iastore, 1) := by decide +kernel
theorem dX8_join_102 : decode cX8_join 102 = .ok (.iconst 1, 1) := by decide +kernel
theorem dX8_join_103 : decode cX8_join 103 = .ok (.istore 5, 2) := by decide +kernel
theorem dX8_join_105 : decode cX8_join 105 = .ok (.aload_n 0, 1) := by decide +kernel
theorem dX8_join_106 : decode cX8_join 106 = .ok (.iload_n 2, 1) := by decide +kernel
theorem dX8_join_107 : decode cX8_join 107 = .ok (.invokevirtual 194, 3) := by decide +kernel
theorem dX8_join_110 : decode cX8_join 110 = .ok (.istore 6, 2) := by decide +kernel
theorem dX8_join_112 : decode cX8_join 112 = .ok (.iload 5, 2) := by decide +kernel
theorem dX8_join_114 : decode cX8_join 114 = .ok (.ifCond .eq 30, 3) := by decide +kernel
theorem dX8_join_117 : decode cX8_join 117 = .ok (.iload 6, 2) := by decide +kernel
theorem dX8_join_119 : decode cX8_join 119 = .ok (.iconst (-1), 1) := by decide +kernel
theorem dX8_join_120 : decode cX8_join 120 = .ok (.if_icmp .eq 24, 3) := by decide +kernel
theorem dX8_join_123 : decode cX8_join 123 = .ok (.aload_n 0, 1) := by decide +kernel
theorem dX8_join_124 : decode cX8_join 124 = .ok (.iload 6, 2) := by decide +kernel
theorem dX8_join_126 : decode cX8_join 126 = .ok (.iload_n 1, 1) := by decide +kernel
theorem dX8_join_127 : decode cX8_join 127 = .ok (.iload 4, 2) := by decide +kernel
theorem dX8_join_129 : decode cX8_join 129 = .ok (.invokevirtual 197, 3) := by decide +kernel
theorem dX8_join_132 : decode cX8_join 132 = .ok (.istore 5, 2) := by decide +kernel
theorem dX8_join_134 : decode cX8_join 134 = .ok (.aload_n 0, 1) := by decide +kernel
theorem dX8_join_135 : decode cX8_join 135 = .ok (.iload_n 2, 1) := by decide +kernel
theorem dX8_join_136 : decode cX8_join 136 = .ok (.invokevirtual 194, 3) := by decide +kernel
theorem dX8_join_139 : decode cX8_join 139 = .ok (.istore 6, 2) := by decide +kernel
theorem dX8_join_141 : decode cX8_join 141 = .ok (.goto (-29), 3) := by decide +kernel
theorem dX8_join_144 : decode cX8_join 144 = .ok (.aload_n 0, 1) := by decide +kernel
theorem dX8_join_145 : decode cX8_join 145 = .ok (.iload 5, 2) := by decide +kernel
theorem dX8_join_147 : decode cX8_join 147 = .ok (.iconst 3, 1) := by decide +kernel
theorem dX8_join_148 : decode cX8_join 148 = .ok (.invokevirtual 93, 3) := by decide +kernel
theorem dX8_join_151 : decode cX8_join 151 = .ok (.ifCond .eq 24, 3) := by decide +kernel
theorem dX8_join_154 : decode cX8_join 154 = .ok (.aload_n 0, 1) := by decide +kernel
theorem dX8_join_155 : decode cX8_join 155 = .ok (.invokevirtual 191, 3) := by decide +kernel
theorem dX8_join_158 : decode cX8_join 158 = .ok (.aload_n 0, 1) := by decide +kernel
theorem dX8_join_159 : decode cX8_join 159 = .ok (.getfield 31, 3) := by decide +kernel
theorem dX8_join_162 : decode cX8_join 162 = .ok (.iload_n 1, 1) := by decide +kernel
theorem dX8_join_163 : decode cX8_join 163 = .ok (.iload_n 3, 1) := by decide +kernel
theorem dX8_join_164 : decode cX8_join 164 = .ok (.iastore, 1) := by decide +kernel
theorem dX8_join_165 : decode cX8_join 165 = .ok (.aload_n 0, 1) := by decide +kernel
theorem dX8_join_166 : decode cX8_join 166 = .ok (.getfield 16, 3) := by decide +kernel
theorem dX8_join_169 : decode cX8_join 169 = .ok (.iload_n 1, 1) := by decide +kernel
theorem dX8_join_170 : decode cX8_join 170 = .ok (.iload 4, 2) := by decide +kernel
theorem dX8_join_172 : decode cX8_join 172 = .ok (.iastore, 1) := by decide +kernel
theorem dX8_join_173 : decode cX8_join 173 = .ok (.iconst 0, 1) := by decide +kernel
theorem dX8_join_174 : decode cX8_join 174 = .ok (.ireturn, 1) := by decide +kernel
theorem dX8_join_175 : decode cX8_join 175 = .ok (.iconst 0, 1) := by decide +kernel
theorem dX8_join_176 : decode cX8_join 176 = .ok (.istore 6, 2) := by decide +kernel
theorem dX8_join_178 : decode cX8_join 178 = .ok (.iload 6, 2) := by decide +kernel
theorem dX8_join_180 : decode cX8_join 180 = .ok (.iconst 2, 1) := by decide +kernel
theorem dX8_join_181 : decode cX8_join 181 = .ok (.aload_n 0, 1) := by decide +kernel
theorem dX8_join_182 : decode cX8_join 182 = .ok (.getfield 90, 3) := by decide +kernel
theorem dX8_join_185 : decode cX8_join 185 = .ok (.imul, 1) := by decide +kernel
theorem dX8_join_186 : decode cX8_join 186 = .ok (.if_icmp .ge 65, 3) := by decide +kernel
theorem dX8_join_189 : decode cX8_join 189 = .ok (.aload_n 0, 1) := by decide +kernel
theorem dX8_join_190 : decode cX8_join 190 = .ok (.getfield 64, 3) := by decide +kernel
theorem dX8_join_193 : decode cX8_join 193 = .ok (.iload 6, 2) := by decide +kernel
theorem dX8_join_195 : decode cX8_join 195 = .ok (.iaload, 1) := by decide +kernel
theorem dX8_join_196 : decode cX8_join 196 = .ok (.iload_n 2, 1) := by decide +kernel
theorem dX8_join_197 : decode cX8_join 197 = .ok (.if_icmp .eq 6, 3) := by decide +kernel
theorem dX8_join_200 : decode cX8_join 200 = .ok (.goto 45, 3) := by decide +kernel
theorem dX8_join_203 : decode cX8_join 203 = .ok (.aload_n 0, 1) := by decide +kernel
theorem dX8_join_204 : decode cX8_join 204 = .ok (.aload_n 0, 1) := by decide +kernel
theorem dX8_join_205 : decode cX8_join 205 = .ok (.getfield 7, 3) := by decide +kernel
theorem dX8_join_208 : decode cX8_join 208 = .ok (.iload_n 2, 1) := by decide +kernel
theorem dX8_join_209 : decode cX8_join 209 = .ok (.laload, 1) := by decide +kernel
theorem dX8_join_210 : decode cX8_join 210 = .ok (.aload_n 0, 1) := by decide +kernel
theorem dX8_join_211 : decode cX8_join 211 = .ok (.getfield 73, 3) := by decide +kernel
theorem dX8_join_214 : decode cX8_join 214 = .ok (.iload 6, 2) := by decide +kernel
theorem dX8_join_216 : decode cX8_join 216 = .ok (.iaload, 1) := by decide +kernel
theorem dX8_join_217 : decode cX8_join 217 = .ok (.iload 6, 2) := by decide +kernel
theorem dX8_join_219 : decode cX8_join 219 = .ok (.iconst 2, 1) := by decide +kernel
theorem dX8_join_220 : decode cX8_join 220 = .ok (.idiv, 1) := by decide +kernel
theorem dX8_join_221 : decode cX8_join 221 = .ok (.invokevirtual 128, 3) := by decide +kernel
theorem dX8_join_224 : decode cX8_join 224 = .ok (.aload_n 0, 1) := by decide +kernel
theorem dX8_join_225 : decode cX8_join 225 = .ok (.aload_n 0, 1) := by decide +kernel
theorem dX8_join_226 : decode cX8_join 226 = .ok (.getfield 13, 3) := by decide +kernel
theorem dX8_join_229 : decode cX8_join 229 = .ok (.iload_n 2, 1) := by decide +kernel
theorem dX8_join_230 : decode cX8_join 230 = .ok (.laload, 1) := by decide +kernel
theorem dX8_join_231 : decode cX8_join 231 = .ok (.aload_n 0, 1) := by decide +kernel
theorem dX8_join_232 : decode cX8_join 232 = .ok (.getfield 73, 3) := by decide +kernel
theorem dX8_join_235 : decode cX8_join 235 = .ok (.iload 6, 2) := by decide +kernel
theorem dX8_join_237 : decode cX8_join 237 = .ok (.iaload, 1) := by decide +kernel
theorem dX8_join_238 : decode cX8_join 238 = .ok (.iload 6, 2) := by decide +kernel
theorem dX8_join_240 : decode cX8_join 240 = .ok (.iconst 2, 1) := by decide +kernel
theorem dX8_join_241 : decode cX8_join 241 = .ok (.idiv, 1) := by decide +kernel
theorem dX8_join_242 : decode cX8_join 242 = .ok (.invokevirtual 128, 3) := by decide +kernel
theorem dX8_join_245 : decode cX8_join 245 = .ok (.iinc 6 1, 3) := by decide +kernel
theorem dX8_join_248 : decode cX8_join 248 = .ok (.goto (-70), 3) := by decide +kernel
theorem dX8_join_251 : decode cX8_join 251 = .ok (.aload_n 0, 1) := by decide +kernel
theorem dX8_join_252 : decode cX8_join 252 = .ok (.getfield 28, 3) := by decide +kernel
theorem dX8_join_255 : decode cX8_join 255 = .ok (.iload_n 2, 1) := by decide +kernel
theorem dX8_join_256 : decode cX8_join 256 = .ok (.iconst 1, 1) := by decide +kernel
theorem dX8_join_257 : decode cX8_join 257 = .ok (.bastore, 1) := by decide +kernel
theorem dX8_join_258 : decode cX8_join 258 = .ok (.aload_n 0, 1) := by decide +kernel
theorem dX8_join_259 : decode cX8_join 259 = .ok (.getfield 16, 3) := by decide +kernel
theorem dX8_join_262 : decode cX8_join 262 = .ok (.iload_n 1, 1) := by decide +kernel
theorem dX8_join_263 : decode cX8_join 263 = .ok (.iaload, 1) := by decide +kernel
theorem dX8_join_264 : decode cX8_join 264 = .ok (.ireturn, 1) := by decide +kernel
theorem dX8_day_0 : decode cX8_day 0 = .ok (.aload_n 0, 1) := by decide +kernel
theorem dX8_day_1 : decode cX8_day 1 = .ok (.iload_n 1, 1) := by decide +kernel
theorem dX8_day_2 : decode cX8_day 2 = .ok (.iconst 1, 1) := by decide +kernel
theorem dX8_day_3 : decode cX8_day 3 = .ok (.sipush 9999, 3) := by decide +kernel
theorem dX8_day_6 : decode cX8_day 6 = .ok (.invokestatic 86, 3) := by decide +kernel
theorem dX8_day_9 : decode cX8_day 9 = .ok (.iconst 1, 1) := by decide +kernel
theorem dX8_day_10 : decode cX8_day 10 = .ok (.invokevirtual 93, 3) := by decide +kernel
theorem dX8_day_13 : decode cX8_day 13 = .ok (.ifCond .eq 5, 3) := by decide +kernel
theorem dX8_day_16 : decode cX8_day 16 = .ok (.iconst 0, 1) := by decide +kernel
theorem dX8_day_17 : decode cX8_day 17 = .ok (.ireturn, 1) := by decide +kernel
theorem dX8_day_18 : decode cX8_day 18 = .ok (.aload_n 0, 1) := by decide +kernel
theorem dX8_day_19 : decode cX8_day 19 = .ok (.dup, 1) := by decide +kernel
theorem dX8_day_20 : decode cX8_day 20 = .ok (.getfield 121, 3) := by decide +kernel
theorem dX8_day_23 : decode cX8_day 23 = .ok (.iload_n 1, 1) := by decide +kernel
theorem dX8_day_24 : decode cX8_day 24 = .ok (.iadd, 1) := by decide +kernel
theorem dX8_day_25 : decode cX8_day 25 = .ok (.putfield 121, 3) := by decide +kernel
theorem dX8_day_28 : decode cX8_day 28 = .ok (.aload_n 0, 1) := by decide +kernel
theorem dX8_day_29 : decode cX8_day 29 = .ok (.getfield 121, 3) := by decide +kernel
theorem dX8_day_32 : decode cX8_day 32 = .ok (.ireturn, 1) := by decide +kernel
theorem dX8_placeOf_0 : decode cX8_placeOf 0 = .ok (.iconst 2, 1) := by decide +kernel
theorem dX8_placeOf_1 : decode cX8_placeOf 1 = .ok (.iload_n 1, 1) := by decide +kernel
theorem dX8_placeOf_2 : decode cX8_placeOf 2 = .ok (.imul, 1) := by decide +kernel
theorem dX8_placeOf_3 : decode cX8_placeOf 3 = .ok (.iload_n 2, 1) := by decide +kernel
theorem dX8_placeOf_4 : decode cX8_placeOf 4 = .ok (.ifCond .eq 7, 3) := by decide +kernel
theorem dX8_placeOf_7 : decode cX8_placeOf 7 = .ok (.iconst 1, 1) := by decide +kernel
theorem dX8_placeOf_8 : decode cX8_placeOf 8 = .ok (.goto 4, 3) := by decide +kernel
theorem dX8_placeOf_11 : decode cX8_placeOf 11 = .ok (.iconst 0, 1) := by decide +kernel
theorem dX8_placeOf_12 : decode cX8_placeOf 12 = .ok (.iadd, 1) := by decide +kernel
theorem dX8_placeOf_13 : decode cX8_placeOf 13 = .ok (.ireturn, 1) := by decide +kernel
theorem dX8_address_0 : decode cX8_address 0 = .ok (.aload_n 0, 1) := by decide +kernel
theorem dX8_address_1 : decode cX8_address 1 = .ok (.aload_n 0, 1) := by decide +kernel
theorem dX8_address_2 : decode cX8_address 2 = .ok (.iload_n 1, 1) := by decide +kernel
theorem dX8_address_3 : decode cX8_address 3 = .ok (.invokevirtual 169, 3) := by decide +kernel
theorem dX8_address_6 : decode cX8_address 6 = .ok (.iconst 1, 1) := by decide +kernel
theorem dX8_address_7 : decode cX8_address 7 = .ok (.invokevirtual 93, 3) := by decide +kernel
theorem dX8_address_10 : decode cX8_address 10 = .ok (.ifCond .ne 31, 3) := by decide +kernel
theorem dX8_address_13 : decode cX8_address 13 = .ok (.aload_n 0, 1) := by decide +kernel
theorem dX8_address_14 : decode cX8_address 14 = .ok (.aload_n 0, 1) := by decide +kernel
theorem dX8_address_15 : decode cX8_address 15 = .ok (.getfield 34, 3) := by decide +kernel
theorem dX8_address_18 : decode cX8_address 18 = .ok (.aload_n 0, 1) := by decide +kernel
theorem dX8_address_19 : decode cX8_address 19 = .ok (.iload_n 1, 1) := by decide +kernel
theorem dX8_address_20 : decode cX8_address 20 = .ok (.iload_n 2, 1) := by decide +kernel
theorem dX8_address_21 : decode cX8_address 21 = .ok (.invokevirtual 200, 3) := by decide +kernel
theorem dX8_address_24 : decode cX8_address 24 = .ok (.iaload, 1) := by decide +kernel
theorem dX8_address_25 : decode cX8_address 25 = .ok (.iconst (-1), 1) := by decide +kernel
theorem dX8_address_26 : decode cX8_address 26 = .ok (.if_icmp .eq 7, 3) := by decide +kernel
theorem dX8_address_29 : decode cX8_address 29 = .ok (.iconst 1, 1) := by decide +kernel
theorem dX8_address_30 : decode cX8_address 30 = .ok (.goto 4, 3) := by decide +kernel
theorem dX8_address_33 : decode cX8_address 33 = .ok (.iconst 0, 1) := by decide +kernel
theorem dX8_address_34 : decode cX8_address 34 = .ok (.iconst 2, 1) := by decide +kernel
theorem dX8_address_35 : decode cX8_address 35 = .ok (.invokevirtual 93, 3) := by decide +kernel
theorem dX8_address_38 : decode cX8_address 38 = .ok (.ifCond .eq 7, 3) := by decide +kernel
theorem dX8_address_41 : decode cX8_address 41 = .ok (.iconst 0, 1) := by decide +kernel
theorem dX8_address_42 : decode cX8_address 42 = .ok (.goto 14, 3) := by decide +kernel
theorem dX8_address_45 : decode cX8_address 45 = .ok (.aload_n 0, 1) := by decide +kernel
theorem dX8_address_46 : decode cX8_address 46 = .ok (.getfield 43, 3) := by decide +kernel
theorem dX8_address_49 : decode cX8_address 49 = .ok (.aload_n 0, 1) := by decide +kernel
theorem dX8_address_50 : decode cX8_address 50 = .ok (.iload_n 1, 1) := by decide +kernel
theorem dX8_address_51 : decode cX8_address 51 = .ok (.iload_n 2, 1) := by decide +kernel
theorem dX8_address_52 : decode cX8_address 52 = .ok (.invokevirtual 200, 3) := by decide +kernel
theorem dX8_address_55 : decode cX8_address 55 = .ok (.iaload, 1) := by decide +kernel
theorem dX8_address_56 : decode cX8_address 56 = .ok (.ireturn, 1) := by decide +kernel
theorem dX8_streetOf_0 : decode cX8_streetOf 0 = .ok (.aload_n 0, 1) := by decide +kernel
theorem dX8_streetOf_1 : decode cX8_streetOf 1 = .ok (.aload_n 0, 1) := by decide +kernel
theorem dX8_streetOf_2 : decode cX8_streetOf 2 = .ok (.iload_n 1, 1) := by decide +kernel
theorem dX8_streetOf_3 : decode cX8_streetOf 3 = .ok (.invokevirtual 169, 3) := by decide +kernel
theorem dX8_streetOf_6 : decode cX8_streetOf 6 = .ok (.iconst 1, 1) := by decide +kernel
theorem dX8_streetOf_7 : decode cX8_streetOf 7 = .ok (.invokevirtual 93, 3) := by decide +kernel
theorem dX8_streetOf_10 : decode cX8_streetOf 10 = .ok (.ifCond .ne 31, 3) := by decide +kernel
theorem dX8_streetOf_13 : decode cX8_streetOf 13 = .ok (.aload_n 0, 1) := by decide +kernel
theorem dX8_streetOf_14 : decode cX8_streetOf 14 = .ok (.aload_n 0, 1) := by decide +kernel
theorem dX8_streetOf_15 : decode cX8_streetOf 15 = .ok (.getfield 34, 3) := by decide +kernel
theorem dX8_streetOf_18 : decode cX8_streetOf 18 = .ok (.aload_n 0, 1) := by decide +kernel
theorem dX8_streetOf_19 : decode cX8_streetOf 19 = .ok (.iload_n 1, 1) := by decide +kernel
theorem dX8_streetOf_20 : decode cX8_streetOf 20 = .ok (.iload_n 2, 1) := by decide +kernel
theorem dX8_streetOf_21 : decode cX8_streetOf 21 = .ok (.invokevirtual 200, 3) := by decide +kernel
theorem dX8_streetOf_24 : decode cX8_streetOf 24 = .ok (.iaload, 1) := by decide +kernel
theorem dX8_streetOf_25 : decode cX8_streetOf 25 = .ok (.iconst (-1), 1) := by decide +kernel
theorem dX8_streetOf_26 : decode cX8_streetOf 26 = .ok (.if_icmp .eq 7, 3) := by decide +kernel
theorem dX8_streetOf_29 : decode cX8_streetOf 29 = .ok (.iconst 1, 1) := by decide +kernel
theorem dX8_streetOf_30 : decode cX8_streetOf 30 = .ok (.goto 4, 3) := by decide +kernel
theorem dX8_streetOf_33 : decode cX8_streetOf 33 = .ok (.iconst 0, 1) := by decide +kernel
theorem dX8_streetOf_34 : decode cX8_streetOf 34 = .ok (.iconst 2, 1) := by decide +kernel
theorem dX8_streetOf_35 : decode cX8_streetOf 35 = .ok (.invokevirtual 93, 3) := by decide +kernel
theorem dX8_streetOf_38 : decode cX8_streetOf 38 = .ok (.ifCond .eq 7, 3) := by decide +kernel
theorem dX8_streetOf_41 : decode cX8_streetOf 41 = .ok (.iconst 0, 1) := by decide +kernel
theorem dX8_streetOf_42 : decode cX8_streetOf 42 = .ok (.goto 14, 3) := by decide +kernel
theorem dX8_streetOf_45 : decode cX8_streetOf 45 = .ok (.aload_n 0, 1) := by decide +kernel
theorem dX8_streetOf_46 : decode cX8_streetOf 46 = .ok (.getfield 34, 3) := by decide +kernel
theorem dX8_streetOf_49 : decode cX8_streetOf 49 = .ok (.aload_n 0, 1) := by decide +kernel
theorem dX8_streetOf_50 : decode cX8_streetOf 50 = .ok (.iload_n 1, 1) := by decide +kernel
theorem dX8_streetOf_51 : decode cX8_streetOf 51 = .ok (.iload_n 2, 1) := by decide +kernel
theorem dX8_streetOf_52 : decode cX8_streetOf 52 = .ok (.invokevirtual 200, 3) := by decide +kernel
theorem dX8_streetOf_55 : decode cX8_streetOf 55 = .ok (.iaload, 1) := by decide +kernel
theorem dX8_streetOf_56 : decode cX8_streetOf 56 = .ok (.ireturn, 1) := by decide +kernel
theorem dX8_isGone_0 : decode cX8_isGone 0 = .ok (.aload_n 0, 1) := by decide +kernel
theorem dX8_isGone_1 : decode cX8_isGone 1 = .ok (.aload_n 0, 1) := by decide +kernel
theorem dX8_isGone_2 : decode cX8_isGone 2 = .ok (.iload_n 1, 1) := by decide +kernel
theorem dX8_isGone_3 : decode cX8_isGone 3 = .ok (.invokevirtual 169, 3) := by decide +kernel
theorem dX8_isGone_6 : decode cX8_isGone 6 = .ok (.iconst 1, 1) := by decide +kernel
theorem dX8_isGone_7 : decode cX8_isGone 7 = .ok (.invokevirtual 93, 3) := by decide +kernel
theorem dX8_isGone_10 : decode cX8_isGone 10 = .ok (.ifCond .ne 16, 3) := by decide +kernel
theorem dX8_isGone_13 : decode cX8_isGone 13 = .ok (.aload_n 0, 1) := by decide +kernel
theorem dX8_isGone_14 : decode cX8_isGone 14 = .ok (.getfield 46, 3) := by decide +kernel
theorem dX8_isGone_17 : decode cX8_isGone 17 = .ok (.iload_n 1, 1) := by decide +kernel
theorem dX8_isGone_18 : decode cX8_isGone 18 = .ok (.baload, 1) := by decide +kernel
theorem dX8_isGone_19 : decode cX8_isGone 19 = .ok (.ifCond .eq 7, 3) := by decide +kernel
theorem dX8_isGone_22 : decode cX8_isGone 22 = .ok (.iconst 1, 1) := by decide +kernel
theorem dX8_isGone_23 : decode cX8_isGone 23 = .ok (.goto 4, 3) := by decide +kernel
theorem dX8_isGone_26 : decode cX8_isGone 26 = .ok (.iconst 0, 1) := by decide +kernel
theorem dX8_isGone_27 : decode cX8_isGone 27 = .ok (.ireturn, 1) := by decide +kernel
theorem dX8_now_0 : decode cX8_now 0 = .ok (.iconst (-1), 1) := by decide +kernel
theorem dX8_now_1 : decode cX8_now 1 = .ok (.istore_n 2, 1) := by decide +kernel
theorem dX8_now_2 : decode cX8_now 2 = .ok (.iconst 0, 1) := by decide +kernel
theorem dX8_now_3 : decode cX8_now 3 = .ok (.istore_n 3, 1) := by decide +kernel
theorem dX8_now_4 : decode cX8_now 4 = .ok (.iload_n 3, 1) := by decide +kernel
theorem dX8_now_5 : decode cX8_now 5 = .ok (.iconst 2, 1) := by decide +kernel
theorem dX8_now_6 : decode cX8_now 6 = .ok (.aload_n 0, 1) := by decide +kernel
theorem dX8_now_7 : decode cX8_now 7 = .ok (.getfield 90, 3) := by decide +kernel
theorem dX8_now_10 : decode cX8_now 10 = .ok (.imul, 1) := by decide +kernel
theorem dX8_now_11 : decode cX8_now 11 = .ok (.if_icmp .ge 76, 3) := by decide +kernel
theorem dX8_now_14 : decode cX8_now 14 = .ok (.aload_n 0, 1) := by decide +kernel
theorem dX8_now_15 : decode cX8_now 15 = .ok (.getfield 34, 3) := by decide +kernel
theorem dX8_now_18 : decode cX8_now 18 = .ok (.iload_n 3, 1) := by decide +kernel
theorem dX8_now_19 : decode cX8_now 19 = .ok (.iaload, 1) := by decide +kernel
theorem dX8_now_20 : decode cX8_now 20 = .ok (.istore 4, 2) := by decide +kernel
theorem dX8_now_22 : decode cX8_now 22 = .ok (.iload 4, 2) := by decide +kernel
theorem dX8_now_24 : decode cX8_now 24 = .ok (.iconst (-1), 1) := by decide +kernel
theorem dX8_now_25 : decode cX8_now 25 = .ok (.if_icmp .eq 56, 3) := by decide +kernel
theorem dX8_now_28 : decode cX8_now 28 = .ok (.aload_n 0, 1) := by decide +kernel
theorem dX8_now_29 : decode cX8_now 29 = .ok (.getfield 102, 3) := by decide +kernel
theorem dX8_now_32 : decode cX8_now 32 = .ok (.lconst 0, 1) := by decide +kernel
theorem dX8_now_33 : decode cX8_now 33 = .ok (.lcmp, 1) := by decide +kernel
theorem dX8_now_34 : decode cX8_now 34 = .ok (.ifCond .eq 47, 3) := by decide +kernel
theorem dX8_now_37 : decode cX8_now 37 = .ok (.aload_n 0, 1) := by decide +kernel
theorem dX8_now_38 : decode cX8_now 38 = .ok (.getfield 43, 3) := by decide +kernel
theorem dX8_now_41 : decode cX8_now 41 = .ok (.iload_n 3, 1) := by decide +kernel
theorem dX8_now_42 : decode cX8_now 42 = .ok (.iaload, 1) := by decide +kernel
theorem dX8_now_43 : decode cX8_now 43 = .ok (.iload_n 1, 1) := by decide +kernel
theorem dX8_now_44 : decode cX8_now 44 = .ok (.if_icmp .ne 37, 3) := by decide +kernel
theorem dX8_now_47 : decode cX8_now 47 = .ok (.aload_n 0, 1) := by decide +kernel
theorem dX8_now_48 : decode cX8_now 48 = .ok (.getfield 7, 3) := by decide +kernel
theorem dX8_now_51 : decode cX8_now 51 = .ok (.iload 4, 2) := by decide +kernel
theorem dX8_now_53 : decode cX8_now 53 = .ok (.laload, 1) := by decide +kernel
theorem dX8_now_54 : decode cX8_now 54 = .ok (.aload_n 0, 1) := by decide +kernel
theorem dX8_now_55 : decode cX8_now 55 = .ok (.getfield 102, 3) := by decide +kernel
theorem dX8_now_58 : decode cX8_now 58 = .ok (.lcmp, 1) := by decide +kernel
theorem dX8_now_59 : decode cX8_now 59 = .ok (.ifCond .eq 18, 3) := by decide +kernel
theorem dX8_now_62 : decode cX8_now 62 = .ok (.aload_n 0, 1) := by decide +kernel
theorem dX8_now_63 : decode cX8_now 63 = .ok (.getfield 13, 3) := by decide +kernel
theorem dX8_now_66 : decode cX8_now 66 = .ok (.iload 4, 2) := by decide +kernel
theorem dX8_now_68 : decode cX8_now 68 = .ok (.laload, 1) := by decide +kernel
theorem dX8_now_69 : decode cX8_now 69 = .ok (.aload_n 0, 1) := by decide +kernel
theorem dX8_now_70 : decode cX8_now 70 = .ok (.getfield 102, 3) := by decide +kernel
theorem dX8_now_73 : decode cX8_now 73 = .ok (.lcmp, 1) := by decide +kernel
theorem dX8_now_74 : decode cX8_now 74 = .ok (.ifCond .ne 7, 3) := by decide +kernel
theorem dX8_now_77 : decode cX8_now 77 = .ok (.iload_n 3, 1) := by decide +kernel
theorem dX8_now_78 : decode cX8_now 78 = .ok (.iconst 2, 1) := by decide +kernel
theorem dX8_now_79 : decode cX8_now 79 = .ok (.idiv, 1) := by decide +kernel
theorem dX8_now_80 : decode cX8_now 80 = .ok (.istore_n 2, 1) := by decide +kernel
theorem dX8_now_81 : decode cX8_now 81 = .ok (.iinc 3 1, 3) := by decide +kernel
theorem dX8_now_84 : decode cX8_now 84 = .ok (.goto (-80), 3) := by decide +kernel
theorem dX8_now_87 : decode cX8_now 87 = .ok (.iload_n 2, 1) := by decide +kernel
theorem dX8_now_88 : decode cX8_now 88 = .ok (.ireturn, 1) := by decide +kernel
theorem dX8_latest_0 : decode cX8_latest 0 = .ok (.iconst (-1), 1) := by decide +kernel
theorem dX8_latest_1 : decode cX8_latest 1 = .ok (.istore_n 2, 1) := by decide +kernel
theorem dX8_latest_2 : decode cX8_latest 2 = .ok (.iconst 0, 1) := by decide +kernel
theorem dX8_latest_3 : decode cX8_latest 3 = .ok (.istore_n 3, 1) := by decide +kernel
theorem dX8_latest_4 : decode cX8_latest 4 = .ok (.iload_n 3, 1) := by decide +kernel
theorem dX8_latest_5 : decode cX8_latest 5 = .ok (.aload_n 0, 1) := by decide +kernel
theorem dX8_latest_6 : decode cX8_latest 6 = .ok (.getfield 118, 3) := by decide +kernel
theorem dX8_latest_9 : decode cX8_latest 9 = .ok (.if_icmp .ge 48, 3) := by decide +kernel
theorem dX8_latest_12 : decode cX8_latest 12 = .ok (.aload_n 0, 1) := by decide +kernel
theorem dX8_latest_13 : decode cX8_latest 13 = .ok (.getfield 102, 3) := by decide +kernel
theorem dX8_latest_16 : decode cX8_latest 16 = .ok (.lconst 0, 1) := by decide +kernel
theorem dX8_latest_17 : decode cX8_latest 17 = .ok (.lcmp, 1) := by decide +kernel
theorem dX8_latest_18 : decode cX8_latest 18 = .ok (.ifCond .eq 31, 3) := by decide +kernel
theorem dX8_latest_21 : decode cX8_latest 21 = .ok (.aload_n 0, 1) := by decide +kernel
theorem dX8_latest_22 : decode cX8_latest 22 = .ok (.getfield 52, 3) := by decide +kernel
theorem dX8_latest_25 : decode cX8_latest 25 = .ok (.iload_n 3, 1) := by decide +kernel
theorem dX8_latest_26 : decode cX8_latest 26 = .ok (.laload, 1) := by decide +kernel
theorem dX8_latest_27 : decode cX8_latest 27 = .ok (.aload_n 0, 1) := by decide +kernel
theorem dX8_latest_28 : decode cX8_latest 28 = .ok (.getfield 102, 3) := by decide +kernel
theorem dX8_latest_31 : decode cX8_latest 31 = .ok (.lcmp, 1) := by decide +kernel
theorem dX8_latest_32 : decode cX8_latest 32 = .ok (.ifCond .ne 17, 3) := by decide +kernel
theorem dX8_latest_35 : decode cX8_latest 35 = .ok (.aload_n 0, 1) := by decide +kernel
theorem dX8_latest_36 : decode cX8_latest 36 = .ok (.getfield 55, 3) := by decide +kernel
theorem dX8_latest_39 : decode cX8_latest 39 = .ok (.iload_n 3, 1) := by decide +kernel
theorem dX8_latest_40 : decode cX8_latest 40 = .ok (.iaload, 1) := by decide +kernel
theorem dX8_latest_41 : decode cX8_latest 41 = .ok (.iload_n 1, 1) := by decide +kernel
theorem dX8_latest_42 : decode cX8_latest 42 = .ok (.if_icmp .ne 7, 3) := by decide +kernel
theorem dX8_latest_45 : decode cX8_latest 45 = .ok (.iload_n 3, 1) := by decide +kernel
theorem dX8_latest_46 : decode cX8_latest 46 = .ok (.goto 4, 3) := by decide +kernel
theorem dX8_latest_49 : decode cX8_latest 49 = .ok (.iload_n 2, 1) := by decide +kernel
theorem dX8_latest_50 : decode cX8_latest 50 = .ok (.istore_n 2, 1) := by decide +kernel
theorem dX8_latest_51 : decode cX8_latest 51 = .ok (.iinc 3 1, 3) := by decide +kernel
theorem dX8_latest_54 : decode cX8_latest 54 = .ok (.goto (-50), 3) := by decide +kernel
theorem dX8_latest_57 : decode cX8_latest 57 = .ok (.iload_n 2, 1) := by decide +kernel
theorem dX8_latest_58 : decode cX8_latest 58 = .ok (.ireturn, 1) := by decide +kernel
theorem dX8_find_0 : decode cX8_find 0 = .ok (.aload_n 0, 1) := by decide +kernel
theorem dX8_find_1 : decode cX8_find 1 = .ok (.aload_n 0, 1) := by decide +kernel
theorem dX8_find_2 : decode cX8_find 2 = .ok (.iload_n 1, 1) := by decide +kernel
theorem dX8_find_3 : decode cX8_find 3 = .ok (.invokevirtual 203, 3) := by decide +kernel
theorem dX8_find_6 : decode cX8_find 6 = .ok (.iconst (-1), 1) := by decide +kernel
theorem dX8_find_7 : decode cX8_find 7 = .ok (.if_icmp .eq 7, 3) := by decide +kernel
theorem dX8_find_10 : decode cX8_find 10 = .ok (.iconst 1, 1) := by decide +kernel
theorem dX8_find_11 : decode cX8_find 11 = .ok (.goto 4, 3) := by decide +kernel
theorem dX8_find_14 : decode cX8_find 14 = .ok (.iconst 0, 1) := by decide +kernel
theorem dX8_find_15 : decode cX8_find 15 = .ok (.iconst 1, 1) := by decide +kernel
theorem dX8_find_16 : decode cX8_find 16 = .ok (.invokevirtual 93, 3) := by decide +kernel
theorem dX8_find_19 : decode cX8_find 19 = .ok (.ifCond .eq 7, 3) := by decide +kernel
theorem dX8_find_22 : decode cX8_find 22 = .ok (.iconst 0, 1) := by decide +kernel
theorem dX8_find_23 : decode cX8_find 23 = .ok (.goto 8, 3) := by decide +kernel
theorem dX8_find_26 : decode cX8_find 26 = .ok (.aload_n 0, 1) := by decide +kernel
theorem dX8_find_27 : decode cX8_find 27 = .ok (.iload_n 1, 1) := by decide +kernel
theorem dX8_find_28 : decode cX8_find 28 = .ok (.invokevirtual 203, 3) := by decide +kernel
theorem dX8_find_31 : decode cX8_find 31 = .ok (.ireturn, 1) := by decide +kernel
theorem dX8_send_0 : decode cX8_send 0 = .ok (.aload_n 0, 1) := by decide +kernel
theorem dX8_send_1 : decode cX8_send 1 = .ok (.iload_n 1, 1) := by decide +kernel
theorem dX8_send_2 : decode cX8_send 2 = .ok (.invokevirtual 203, 3) := by decide +kernel
theorem dX8_send_5 : decode cX8_send 5 = .ok (.istore_n 2, 1) := by decide +kernel
theorem dX8_send_6 : decode cX8_send 6 = .ok (.iload_n 2, 1) := by decide +kernel
theorem dX8_send_7 : decode cX8_send 7 = .ok (.iconst (-1), 1) := by decide +kernel
theorem dX8_send_8 : decode cX8_send 8 = .ok (.if_icmp .eq 10, 3) := by decide +kernel
theorem dX8_send_11 : decode cX8_send 11 = .ok (.aload_n 0, 1) := by decide +kernel
theorem dX8_send_12 : decode cX8_send 12 = .ok (.iconst 0, 1) := by decide +kernel
theorem dX8_send_13 : decode cX8_send 13 = .ok (.putfield 79, 3) := by decide +kernel
theorem dX8_send_16 : decode cX8_send 16 = .ok (.iload_n 2, 1) := by decide +kernel
theorem dX8_send_17 : decode cX8_send 17 = .ok (.ireturn, 1) := by decide +kernel
theorem dX8_send_18 : decode cX8_send 18 = .ok (.aload_n 0, 1) := by decide +kernel
theorem dX8_send_19 : decode cX8_send 19 = .ok (.iload_n 1, 1) := by decide +kernel
theorem dX8_send_20 : decode cX8_send 20 = .ok (.invokevirtual 206, 3) := by decide +kernel
theorem dX8_send_23 : decode cX8_send 23 = .ok (.istore_n 3, 1) := by decide +kernel
theorem dX8_send_24 : decode cX8_send 24 = .ok (.aload_n 0, 1) := by decide +kernel
theorem dX8_send_25 : decode cX8_send 25 = .ok (.iload_n 3, 1) := by decide +kernel
theorem dX8_send_26 : decode cX8_send 26 = .ok (.iconst (-1), 1) := by decide +kernel
theorem dX8_send_27 : decode cX8_send 27 = .ok (.if_icmp .eq 7, 3) := by decide +kernel
theorem dX8_send_30 : decode cX8_send 30 = .ok (.iconst 1, 1) := by decide +kernel
theorem dX8_send_31 : decode cX8_send 31 = .ok (.goto 4, 3) := by decide +kernel
theorem dX8_send_34 : decode cX8_send 34 = .ok (.iconst 0, 1) := by decide +kernel
theorem dX8_send_35 : decode cX8_send 35 = .ok (.iconst 1, 1) := by decide +kernel
theorem dX8_send_36 : decode cX8_send 36 = .ok (.invokevirtual 93, 3) := by decide +kernel
theorem dX8_send_39 : decode cX8_send 39 = .ok (.ifCond .ne 29, 3) := by decide +kernel
theorem dX8_send_42 : decode cX8_send 42 = .ok (.aload_n 0, 1) := by decide +kernel
theorem dX8_send_43 : decode cX8_send 43 = .ok (.aload_n 0, 1) := by decide +kernel
theorem dX8_send_44 : decode cX8_send 44 = .ok (.aload_n 0, 1) := by decide +kernel
theorem dX8_send_45 : decode cX8_send 45 = .ok (.getfield 58, 3) := by decide +kernel
theorem dX8_send_48 : decode cX8_send 48 = .ok (.iload_n 3, 1) := by decide +kernel
theorem dX8_send_49 : decode cX8_send 49 = .ok (.iaload, 1) := by decide +kernel
theorem dX8_send_50 : decode cX8_send 50 = .ok (.invokevirtual 180, 3) := by decide +kernel
theorem dX8_send_53 : decode cX8_send 53 = .ok (.ifCond .lt 7, 3) := by decide +kernel
theorem dX8_send_56 : decode cX8_send 56 = .ok (.iconst 1, 1) := by decide +kernel
theorem dX8_send_57 : decode cX8_send 57 = .ok (.goto 4, 3) := by decide +kernel
theorem dX8_send_60 : decode cX8_send 60 = .ok (.iconst 0, 1) := by decide +kernel
theorem dX8_send_61 : decode cX8_send 61 = .ok (.iconst 2, 1) := by decide +kernel
theorem dX8_send_62 : decode cX8_send 62 = .ok (.invokevirtual 93, 3) := by decide +kernel
theorem dX8_send_65 : decode cX8_send 65 = .ok (.ifCond .eq 5, 3) := by decide +kernel
theorem dX8_send_68 : decode cX8_send 68 = .ok (.iconst 0, 1) := by decide +kernel
theorem dX8_send_69 : decode cX8_send 69 = .ok (.ireturn, 1) := by decide +kernel
theorem dX8_send_70 : decode cX8_send 70 = .ok (.aload_n 0, 1) := by decide +kernel
theorem dX8_send_71 : decode cX8_send 71 = .ok (.aload_n 0, 1) := by decide +kernel
theorem dX8_send_72 : decode cX8_send 72 = .ok (.getfield 58, 3) := by decide +kernel
theorem dX8_send_75 : decode cX8_send 75 = .ok (.iload_n 3, 1) := by decide +kernel
theorem dX8_send_76 : decode cX8_send 76 = .ok (.iaload, 1) := by decide +kernel
theorem dX8_send_77 : decode cX8_send 77 = .ok (.invokevirtual 180, 3) := by decide +kernel
theorem dX8_send_80 : decode cX8_send 80 = .ok (.ireturn, 1) := by decide +kernel
theorem dX8_until_0 : decode cX8_until 0 = .ok (.aload_n 0, 1) := by decide +kernel
theorem dX8_until_1 : decode cX8_until 1 = .ok (.aload_n 0, 1) := by decide +kernel
theorem dX8_until_2 : decode cX8_until 2 = .ok (.iload_n 1, 1) := by decide +kernel
theorem dX8_until_3 : decode cX8_until 3 = .ok (.invokevirtual 206, 3) := by decide +kernel
theorem dX8_until_6 : decode cX8_until 6 = .ok (.iconst (-1), 1) := by decide +kernel
theorem dX8_until_7 : decode cX8_until 7 = .ok (.if_icmp .eq 7, 3) := by decide +kernel
theorem dX8_until_10 : decode cX8_until 10 = .ok (.iconst 1, 1) := by decide +kernel
theorem dX8_until_11 : decode cX8_until 11 = .ok (.goto 4, 3) := by decide +kernel
theorem dX8_until_14 : decode cX8_until 14 = .ok (.iconst 0, 1) := by decide +kernel
theorem dX8_until_15 : decode cX8_until 15 = .ok (.iconst 1, 1) := by decide +kernel
theorem dX8_until_16 : decode cX8_until 16 = .ok (.invokevirtual 93, 3) := by decide +kernel
theorem dX8_until_19 : decode cX8_until 19 = .ok (.ifCond .eq 7, 3) := by decide +kernel
theorem dX8_until_22 : decode cX8_until 22 = .ok (.iconst 0, 1) := by decide +kernel
theorem dX8_until_23 : decode cX8_until 23 = .ok (.goto 13, 3) := by decide +kernel
theorem dX8_until_26 : decode cX8_until 26 = .ok (.aload_n 0, 1) := by decide +kernel
theorem dX8_until_27 : decode cX8_until 27 = .ok (.getfield 61, 3) := by decide +kernel
theorem dX8_until_30 : decode cX8_until 30 = .ok (.aload_n 0, 1) := by decide +kernel
theorem dX8_until_31 : decode cX8_until 31 = .ok (.iload_n 1, 1) := by decide +kernel
theorem dX8_until_32 : decode cX8_until 32 = .ok (.invokevirtual 206, 3) := by decide +kernel
theorem dX8_until_35 : decode cX8_until 35 = .ok (.iaload, 1) := by decide +kernel
theorem dX8_until_36 : decode cX8_until 36 = .ok (.ireturn, 1) := by decide +kernel
theorem dX8_olds_0 : decode cX8_olds 0 = .ok (.aload_n 0, 1) := by decide +kernel
theorem dX8_olds_1 : decode cX8_olds 1 = .ok (.getfield 118, 3) := by decide +kernel
theorem dX8_olds_4 : decode cX8_olds 4 = .ok (.ireturn, 1) := by decide +kernel
theorem dX8_doorsOf_0 : decode cX8_doorsOf 0 = .ok (.iconst 0, 1) := by decide +kernel
theorem dX8_doorsOf_1 : decode cX8_doorsOf 1 = .ok (.istore_n 2, 1) := by decide +kernel
theorem dX8_doorsOf_2 : decode cX8_doorsOf 2 = .ok (.iconst 0, 1) := by decide +kernel
theorem dX8_doorsOf_3 : decode cX8_doorsOf 3 = .ok (.istore_n 3, 1) := by decide +kernel
theorem dX8_doorsOf_4 : decode cX8_doorsOf 4 = .ok (.iload_n 3, 1) := by decide +kernel
theorem dX8_doorsOf_5 : decode cX8_doorsOf 5 = .ok (.bipush 80, 2) := by decide +kernel
theorem dX8_doorsOf_7 : decode cX8_doorsOf 7 = .ok (.if_icmp .ge 27, 3) := by decide +kernel
theorem dX8_doorsOf_10 : decode cX8_doorsOf 10 = .ok (.iload_n 2, 1) := by decide +kernel
theorem dX8_doorsOf_11 : decode cX8_doorsOf 11 = .ok (.aload_n 0, 1) := by decide +kernel
theorem dX8_doorsOf_12 : decode cX8_doorsOf 12 = .ok (.getfield 34, 3) := by decide +kernel
theorem dX8_doorsOf_15 : decode cX8_doorsOf 15 = .ok (.iload_n 3, 1) := by decide +kernel
theorem dX8_doorsOf_16 : decode cX8_doorsOf 16 = .ok (.iaload, 1) := by decide +kernel
theorem dX8_doorsOf_17 : decode cX8_doorsOf 17 = .ok (.iload_n 1, 1) := by decide +kernel
theorem dX8_doorsOf_18 : decode cX8_doorsOf 18 = .ok (.if_icmp .ne 7, 3) := by decide +kernel
theorem dX8_doorsOf_21 : decode cX8_doorsOf 21 = .ok (.iconst 1, 1) := by decide +kernel
theorem dX8_doorsOf_22 : decode cX8_doorsOf 22 = .ok (.goto 4, 3) := by decide +kernel
theorem dX8_doorsOf_25 : decode cX8_doorsOf 25 = .ok (.iconst 0, 1) := by decide +kernel
theorem dX8_doorsOf_26 : decode cX8_doorsOf 26 = .ok (.iadd, 1) := by decide +kernel
theorem dX8_doorsOf_27 : decode cX8_doorsOf 27 = .ok (.istore_n 2, 1) := by decide +kernel
theorem dX8_doorsOf_28 : decode cX8_doorsOf 28 = .ok (.iinc 3 1, 3) := by decide +kernel
theorem dX8_doorsOf_31 : decode cX8_doorsOf 31 = .ok (.goto (-27), 3) := by decide +kernel
theorem dX8_doorsOf_34 : decode cX8_doorsOf 34 = .ok (.iload_n 2, 1) := by decide +kernel
theorem dX8_doorsOf_35 : decode cX8_doorsOf 35 = .ok (.ireturn, 1) := by decide +kernel
theorem dX8_doors_0 : decode cX8_doors 0 = .ok (.aload_n 0, 1) := by decide +kernel
theorem dX8_doors_1 : decode cX8_doors 1 = .ok (.aload_n 0, 1) := by decide +kernel
theorem dX8_doors_2 : decode cX8_doors 2 = .ok (.iload_n 1, 1) := by decide +kernel
theorem dX8_doors_3 : decode cX8_doors 3 = .ok (.invokevirtual 132, 3) := by decide +kernel
theorem dX8_doors_6 : decode cX8_doors 6 = .ok (.iconst 1, 1) := by decide +kernel
theorem dX8_doors_7 : decode cX8_doors 7 = .ok (.invokevirtual 93, 3) := by decide +kernel
theorem dX8_doors_10 : decode cX8_doors 10 = .ok (.ifCond .eq 7, 3) := by decide +kernel
theorem dX8_doors_13 : decode cX8_doors 13 = .ok (.iconst 0, 1) := by decide +kernel
theorem dX8_doors_14 : decode cX8_doors 14 = .ok (.goto 8, 3) := by decide +kernel
theorem dX8_doors_17 : decode cX8_doors 17 = .ok (.aload_n 0, 1) := by decide +kernel
theorem dX8_doors_18 : decode cX8_doors 18 = .ok (.iload_n 1, 1) := by decide +kernel
theorem dX8_doors_19 : decode cX8_doors 19 = .ok (.invokevirtual 209, 3) := by decide +kernel
theorem dX8_doors_22 : decode cX8_doors 22 = .ok (.ireturn, 1) := by decide +kernel
theorem dX8_isAhead_0 : decode cX8_isAhead 0 = .ok (.aload_n 0, 1) := by decide +kernel
theorem dX8_isAhead_1 : decode cX8_isAhead 1 = .ok (.getfield 40, 3) := by decide +kernel
theorem dX8_isAhead_4 : decode cX8_isAhead 4 = .ok (.iload_n 1, 1) := by decide +kernel
theorem dX8_isAhead_5 : decode cX8_isAhead 5 = .ok (.caload, 1) := by decide +kernel
theorem dX8_isAhead_6 : decode cX8_isAhead 6 = .ok (.aload_n 0, 1) := by decide +kernel
theorem dX8_isAhead_7 : decode cX8_isAhead 7 = .ok (.getfield 40, 3) := by decide +kernel
theorem dX8_isAhead_10 : decode cX8_isAhead 10 = .ok (.iload_n 2, 1) := by decide +kernel
theorem dX8_isAhead_11 : decode cX8_isAhead 11 = .ok (.caload, 1) := by decide +kernel
theorem dX8_isAhead_12 : decode cX8_isAhead 12 = .ok (.if_icmp .eq 20, 3) := by decide +kernel
theorem dX8_isAhead_15 : decode cX8_isAhead 15 = .ok (.aload_n 0, 1) := by decide +kernel
theorem dX8_isAhead_16 : decode cX8_isAhead 16 = .ok (.getfield 40, 3) := by decide +kernel
theorem dX8_isAhead_19 : decode cX8_isAhead 19 = .ok (.iload_n 1, 1) := by decide +kernel
theorem dX8_isAhead_20 : decode cX8_isAhead 20 = .ok (.caload, 1) := by decide +kernel
theorem dX8_isAhead_21 : decode cX8_isAhead 21 = .ok (.bipush 108, 2) := by decide +kernel
theorem dX8_isAhead_23 : decode cX8_isAhead 23 = .ok (.if_icmp .ne 7, 3) := by decide +kernel
theorem dX8_isAhead_26 : decode cX8_isAhead 26 = .ok (.iconst 1, 1) := by decide +kernel
theorem dX8_isAhead_27 : decode cX8_isAhead 27 = .ok (.goto 4, 3) := by decide +kernel
theorem dX8_isAhead_30 : decode cX8_isAhead 30 = .ok (.iconst 0, 1) := by decide +kernel
theorem dX8_isAhead_31 : decode cX8_isAhead 31 = .ok (.ireturn, 1) := by decide +kernel
theorem dX8_isAhead_32 : decode cX8_isAhead 32 = .ok (.aload_n 0, 1) := by decide +kernel
theorem dX8_isAhead_33 : decode cX8_isAhead 33 = .ok (.getfield 37, 3) := by decide +kernel
theorem dX8_isAhead_36 : decode cX8_isAhead 36 = .ok (.iload_n 1, 1) := by decide +kernel
theorem dX8_isAhead_37 : decode cX8_isAhead 37 = .ok (.iaload, 1) := by decide +kernel
theorem dX8_isAhead_38 : decode cX8_isAhead 38 = .ok (.aload_n 0, 1) := by decide +kernel
theorem dX8_isAhead_39 : decode cX8_isAhead 39 = .ok (.getfield 37, 3) := by decide +kernel
theorem dX8_isAhead_42 : decode cX8_isAhead 42 = .ok (.iload_n 2, 1) := by decide +kernel
theorem dX8_isAhead_43 : decode cX8_isAhead 43 = .ok (.iaload, 1) := by decide +kernel
theorem dX8_isAhead_44 : decode cX8_isAhead 44 = .ok (.if_icmp .eq 58, 3) := by decide +kernel
theorem dX8_isAhead_47 : decode cX8_isAhead 47 = .ok (.aload_n 0, 1) := by decide +kernel
theorem dX8_isAhead_48 : decode cX8_isAhead 48 = .ok (.getfield 40, 3) := by decide +kernel
theorem dX8_isAhead_51 : decode cX8_isAhead 51 = .ok (.iload_n 1, 1) := by decide +kernel
theorem dX8_isAhead_52 : decode cX8_isAhead 52 = .ok (.caload, 1) := by decide +kernel
theorem dX8_isAhead_53 : decode cX8_isAhead 53 = .ok (.bipush 108, 2) := by decide +kernel
theorem dX8_isAhead_55 : decode cX8_isAhead 55 = .ok (.if_icmp .ne 26, 3) := by decide +kernel
theorem dX8_isAhead_58 : decode cX8_isAhead 58 = .ok (.aload_n 0, 1) := by decide +kernel
theorem dX8_isAhead_59 : decode cX8_isAhead 59 = .ok (.getfield 37, 3) := by decide +kernel
theorem dX8_isAhead_62 : decode cX8_isAhead 62 = .ok (.iload_n 1, 1) := by decide +kernel
theorem dX8_isAhead_63 : decode cX8_isAhead 63 = .ok (.iaload, 1) := by decide +kernel
theorem dX8_isAhead_64 : decode cX8_isAhead 64 = .ok (.aload_n 0, 1) := by decide +kernel
theorem dX8_isAhead_65 : decode cX8_isAhead 65 = .ok (.getfield 37, 3) := by decide +kernel
theorem dX8_isAhead_68 : decode cX8_isAhead 68 = .ok (.iload_n 2, 1) := by decide +kernel
theorem dX8_isAhead_69 : decode cX8_isAhead 69 = .ok (.iaload, 1) := by decide +kernel
theorem dX8_isAhead_70 : decode cX8_isAhead 70 = .ok (.if_icmp .ge 7, 3) := by decide +kernel
theorem dX8_isAhead_73 : decode cX8_isAhead 73 = .ok (.iconst 1, 1) := by decide +kernel
theorem dX8_isAhead_74 : decode cX8_isAhead 74 = .ok (.goto 27, 3) := by decide +kernel
theorem dX8_isAhead_77 : decode cX8_isAhead 77 = .ok (.iconst 0, 1) := by decide +kernel
theorem dX8_isAhead_78 : decode cX8_isAhead 78 = .ok (.goto 23, 3) := by decide +kernel
theorem dX8_isAhead_81 : decode cX8_isAhead 81 = .ok (.aload_n 0, 1) := by decide +kernel
theorem dX8_isAhead_82 : decode cX8_isAhead 82 = .ok (.getfield 37, 3) := by decide +kernel
theorem dX8_isAhead_85 : decode cX8_isAhead 85 = .ok (.iload_n 1, 1) := by decide +kernel
theorem dX8_isAhead_86 : decode cX8_isAhead 86 = .ok (.iaload, 1) := by decide +kernel
theorem dX8_isAhead_87 : decode cX8_isAhead 87 = .ok (.aload_n 0, 1) := by decide +kernel
theorem dX8_isAhead_88 : decode cX8_isAhead 88 = .ok (.getfield 37, 3) := by decide +kernel
theorem dX8_isAhead_91 : decode cX8_isAhead 91 = .ok (.iload_n 2, 1) := by decide +kernel
theorem dX8_isAhead_92 : decode cX8_isAhead 92 = .ok (.iaload, 1) := by decide +kernel
theorem dX8_isAhead_93 : decode cX8_isAhead 93 = .ok (.if_icmp .le 7, 3) := by decide +kernel
theorem dX8_isAhead_96 : decode cX8_isAhead 96 = .ok (.iconst 1, 1) := by decide +kernel
theorem dX8_isAhead_97 : decode cX8_isAhead 97 = .ok (.goto 4, 3) := by decide +kernel
theorem dX8_isAhead_100 : decode cX8_isAhead 100 = .ok (.iconst 0, 1) := by decide +kernel
theorem dX8_isAhead_101 : decode cX8_isAhead 101 = .ok (.ireturn, 1) := by decide +kernel
theorem dX8_isAhead_102 : decode cX8_isAhead 102 = .ok (.iload_n 1, 1) := by decide +kernel
theorem dX8_isAhead_103 : decode cX8_isAhead 103 = .ok (.iconst 2, 1) := by decide +kernel
theorem dX8_isAhead_104 : decode cX8_isAhead 104 = .ok (.idiv, 1) := by decide +kernel
theorem dX8_isAhead_105 : decode cX8_isAhead 105 = .ok (.iload_n 2, 1) := by decide +kernel
theorem dX8_isAhead_106 : decode cX8_isAhead 106 = .ok (.iconst 2, 1) := by decide +kernel
theorem dX8_isAhead_107 : decode cX8_isAhead 107 = .ok (.idiv, 1) := by decide +kernel
theorem dX8_isAhead_108 : decode cX8_isAhead 108 = .ok (.if_icmp .ge 7, 3) := by decide +kernel
theorem dX8_isAhead_111 : decode cX8_isAhead 111 = .ok (.iconst 1, 1) := by decide +kernel
theorem dX8_isAhead_112 : decode cX8_isAhead 112 = .ok (.goto 4, 3) := by decide +kernel
theorem dX8_isAhead_115 : decode cX8_isAhead 115 = .ok (.iconst 0, 1) := by decide +kernel
theorem dX8_isAhead_116 : decode cX8_isAhead 116 = .ok (.ireturn, 1) := by decide +kernel
theorem dX8_walks_0 : decode cX8_walks 0 = .ok (.aload_n 0, 1) := by decide +kernel
theorem dX8_walks_1 : decode cX8_walks 1 = .ok (.iconst 0, 1) := by decide +kernel
theorem dX8_walks_2 : decode cX8_walks 2 = .ok (.putfield 212, 3) := by decide +kernel
theorem dX8_walks_5 : decode cX8_walks 5 = .ok (.iconst 0, 1) := by decide +kernel
theorem dX8_walks_6 : decode cX8_walks 6 = .ok (.istore_n 2, 1) := by decide +kernel
theorem dX8_walks_7 : decode cX8_walks 7 = .ok (.iload_n 2, 1) := by decide +kernel
theorem dX8_walks_8 : decode cX8_walks 8 = .ok (.iconst 2, 1) := by decide +kernel
theorem dX8_walks_9 : decode cX8_walks 9 = .ok (.aload_n 0, 1) := by decide +kernel
theorem dX8_walks_10 : decode cX8_walks 10 = .ok (.getfield 90, 3) := by decide +kernel
theorem dX8_walks_13 : decode cX8_walks 13 = .ok (.imul, 1) := by decide +kernel
theorem dX8_walks_14 : decode cX8_walks 14 = .ok (.if_icmp .ge 84, 3) := by decide +kernel
theorem dX8_walks_17 : decode cX8_walks 17 = .ok (.aload_n 0, 1) := by decide +kernel
theorem dX8_walks_18 : decode cX8_walks 18 = .ok (.getfield 34, 3) := by decide +kernel
theorem dX8_walks_21 : decode cX8_walks 21 = .ok (.iload_n 2, 1) := by decide +kernel
theorem dX8_walks_22 : decode cX8_walks 22 = .ok (.iaload, 1) := by decide +kernel
theorem dX8_walks_23 : decode cX8_walks 23 = .ok (.iload_n 1, 1) := by decide +kernel
theorem dX8_walks_24 : decode cX8_walks 24 = .ok (.if_icmp .eq 6, 3) := by decide +kernel
theorem dX8_walks_27 : decode cX8_walks 27 = .ok (.goto 65, 3) := by decide +kernel
theorem dX8_walks_30 : decode cX8_walks 30 = .ok (.aload_n 0, 1) := by decide +kernel
theorem dX8_walks_31 : decode cX8_walks 31 = .ok (.getfield 212, 3) := by decide +kernel
theorem dX8_walks_34 : decode cX8_walks 34 = .ok (.istore_n 3, 1) := by decide +kernel
theorem dX8_walks_35 : decode cX8_walks 35 = .ok (.iload_n 3, 1) := by decide +kernel
theorem dX8_walks_36 : decode cX8_walks 36 = .ok (.ifCond .le 39, 3) := by decide +kernel
theorem dX8_walks_39 : decode cX8_walks 39 = .ok (.aload_n 0, 1) := by decide +kernel
theorem dX8_walks_40 : decode cX8_walks 40 = .ok (.iload_n 2, 1) := by decide +kernel
theorem dX8_walks_41 : decode cX8_walks 41 = .ok (.aload_n 0, 1) := by decide +kernel
theorem dX8_walks_42 : decode cX8_walks 42 = .ok (.getfield 76, 3) := by decide +kernel
theorem dX8_walks_45 : decode cX8_walks 45 = .ok (.iload_n 3, 1) := by decide +kernel
theorem dX8_walks_46 : decode cX8_walks 46 = .ok (.iconst 1, 1) := by decide +kernel
theorem dX8_walks_47 : decode cX8_walks 47 = .ok (.isub, 1) := by decide +kernel
theorem dX8_walks_48 : decode cX8_walks 48 = .ok (.iaload, 1) := by decide +kernel
theorem dX8_walks_49 : decode cX8_walks 49 = .ok (.invokevirtual 215, 3) := by decide +kernel
theorem dX8_walks_52 : decode cX8_walks 52 = .ok (.ifCond .eq 23, 3) := by decide +kernel
theorem dX8_walks_55 : decode cX8_walks 55 = .ok (.aload_n 0, 1) := by decide +kernel
theorem dX8_walks_56 : decode cX8_walks 56 = .ok (.getfield 76, 3) := by decide +kernel
theorem dX8_walks_59 : decode cX8_walks 59 = .ok (.iload_n 3, 1) := by decide +kernel
theorem dX8_walks_60 : decode cX8_walks 60 = .ok (.aload_n 0, 1) := by decide +kernel
theorem dX8_walks_61 : decode cX8_walks 61 = .ok (.getfield 76, 3) := by decide +kernel
theorem dX8_walks_64 : decode cX8_walks 64 = .ok (.iload_n 3, 1) := by decide +kernel
theorem dX8_walks_65 : decode cX8_walks 65 = .ok (.iconst 1, 1) := by decide +kernel
theorem dX8_walks_66 : decode cX8_walks 66 = .ok (.isub, 1) := by decide +kernel
theorem dX8_walks_67 : decode cX8_walks 67 = .ok (.iaload, 1) := by decide +kernel
theorem dX8_walks_68 : decode cX8_walks 68 = .ok (.iastore, 1) := by decide +kernel
theorem dX8_walks_69 : decode cX8_walks 69 = .ok (.iinc 3 (-1), 3) := by decide +kernel
theorem dX8_walks_72 : decode cX8_walks 72 = .ok (.goto (-37), 3) := by decide +kernel
theorem dX8_walks_75 : decode cX8_walks 75 = .ok (.aload_n 0, 1) := by decide +kernel
theorem dX8_walks_76 : decode cX8_walks 76 = .ok (.getfield 76, 3) := by decide +kernel
theorem dX8_walks_79 : decode cX8_walks 79 = .ok (.iload_n 3, 1) := by decide +kernel
theorem dX8_walks_80 : decode cX8_walks 80 = .ok (.iload_n 2, 1) := by decide +kernel
theorem dX8_walks_81 : decode cX8_walks 81 = .ok (.iastore, 1) := by decide +kernel
theorem dX8_walks_82 : decode cX8_walks 82 = .ok (.aload_n 0, 1) := by decide +kernel
theorem dX8_walks_83 : decode cX8_walks 83 = .ok (.dup, 1) := by decide +kernel
theorem dX8_walks_84 : decode cX8_walks 84 = .ok (.getfield 212, 3) := by decide +kernel
theorem dX8_walks_87 : decode cX8_walks 87 = .ok (.iconst 1, 1) := by decide +kernel
theorem dX8_walks_88 : decode cX8_walks 88 = .ok (.iadd, 1) := by decide +kernel
theorem dX8_walks_89 : decode cX8_walks 89 = .ok (.putfield 212, 3) := by decide +kernel
theorem dX8_walks_92 : decode cX8_walks 92 = .ok (.iinc 2 1, 3) := by decide +kernel
theorem dX8_walks_95 : decode cX8_walks 95 = .ok (.goto (-88), 3) := by decide +kernel
theorem dX8_walks_98 : decode cX8_walks 98 = .ok (.return_, 1) := by decide +kernel
theorem dX8_walk_0 : decode cX8_walk 0 = .ok (.aload_n 0, 1) := by decide +kernel
theorem dX8_walk_1 : decode cX8_walk 1 = .ok (.aload_n 0, 1) := by decide +kernel
theorem dX8_walk_2 : decode cX8_walk 2 = .ok (.iload_n 1, 1) := by decide +kernel
theorem dX8_walk_3 : decode cX8_walk 3 = .ok (.invokevirtual 132, 3) := by decide +kernel
theorem dX8_walk_6 : decode cX8_walk 6 = .ok (.iconst 1, 1) := by decide +kernel
theorem dX8_walk_7 : decode cX8_walk 7 = .ok (.invokevirtual 93, 3) := by decide +kernel
theorem dX8_walk_10 : decode cX8_walk 10 = .ok (.ifCond .eq 5, 3) := by decide +kernel
theorem dX8_walk_13 : decode cX8_walk 13 = .ok (.iconst 0, 1) := by decide +kernel
theorem dX8_walk_14 : decode cX8_walk 14 = .ok (.ireturn, 1) := by decide +kernel
theorem dX8_walk_15 : decode cX8_walk 15 = .ok (.aload_n 0, 1) := by decide +kernel
theorem dX8_walk_16 : decode cX8_walk 16 = .ok (.iload_n 1, 1) := by decide +kernel
theorem dX8_walk_17 : decode cX8_walk 17 = .ok (.invokevirtual 218, 3) := by decide +kernel
theorem dX8_walk_20 : decode cX8_walk 20 = .ok (.aload_n 0, 1) := by decide +kernel
theorem dX8_walk_21 : decode cX8_walk 21 = .ok (.iload_n 2, 1) := by decide +kernel
theorem dX8_walk_22 : decode cX8_walk 22 = .ok (.iconst 0, 1) := by decide +kernel
theorem dX8_walk_23 : decode cX8_walk 23 = .ok (.aload_n 0, 1) := by decide +kernel
theorem dX8_walk_24 : decode cX8_walk 24 = .ok (.getfield 212, 3) := by decide +kernel
theorem dX8_walk_27 : decode cX8_walk 27 = .ok (.iconst 1, 1) := by decide +kernel
theorem dX8_walk_28 : decode cX8_walk 28 = .ok (.isub, 1) := by decide +kernel
theorem dX8_walk_29 : decode cX8_walk 29 = .ok (.invokestatic 86, 3) := by decide +kernel
theorem dX8_walk_32 : decode cX8_walk 32 = .ok (.iconst 2, 1) := by decide +kernel
theorem dX8_walk_33 : decode cX8_walk 33 = .ok (.invokevirtual 93, 3) := by decide +kernel
theorem dX8_walk_36 : decode cX8_walk 36 = .ok (.ifCond .eq 7, 3) := by decide +kernel
theorem dX8_walk_39 : decode cX8_walk 39 = .ok (.iconst 0, 1) := by decide +kernel
theorem dX8_walk_40 : decode cX8_walk 40 = .ok (.goto 11, 3) := by decide +kernel
theorem dX8_walk_43 : decode cX8_walk 43 = .ok (.aload_n 0, 1) := by decide +kernel
theorem dX8_walk_44 : decode cX8_walk 44 = .ok (.getfield 76, 3) := by decide +kernel
theorem dX8_walk_47 : decode cX8_walk 47 = .ok (.iload_n 2, 1) := by decide +kernel
theorem dX8_walk_48 : decode cX8_walk 48 = .ok (.iaload, 1) := by decide +kernel
theorem dX8_walk_49 : decode cX8_walk 49 = .ok (.iconst 2, 1) := by decide +kernel
theorem dX8_walk_50 : decode cX8_walk 50 = .ok (.idiv, 1) := by decide +kernel
theorem dX8_walk_51 : decode cX8_walk 51 = .ok (.ireturn, 1) := by decide +kernel
theorem dX8_steps_0 : decode cX8_steps 0 = .ok (.aload_n 0, 1) := by decide +kernel
theorem dX8_steps_1 : decode cX8_steps 1 = .ok (.aload_n 0, 1) := by decide +kernel
theorem dX8_steps_2 : decode cX8_steps 2 = .ok (.iload_n 1, 1) := by decide +kernel
theorem dX8_steps_3 : decode cX8_steps 3 = .ok (.invokevirtual 132, 3) := by decide +kernel
theorem dX8_steps_6 : decode cX8_steps 6 = .ok (.iconst 1, 1) := by decide +kernel
theorem dX8_steps_7 : decode cX8_steps 7 = .ok (.invokevirtual 93, 3) := by decide +kernel
theorem dX8_steps_10 : decode cX8_steps 10 = .ok (.ifCond .eq 5, 3) := by decide +kernel
theorem dX8_steps_13 : decode cX8_steps 13 = .ok (.iconst 0, 1) := by decide +kernel
theorem dX8_steps_14 : decode cX8_steps 14 = .ok (.ireturn, 1) := by decide +kernel
theorem dX8_steps_15 : decode cX8_steps 15 = .ok (.aload_n 0, 1) := by decide +kernel
theorem dX8_steps_16 : decode cX8_steps 16 = .ok (.iload_n 1, 1) := by decide +kernel
theorem dX8_steps_17 : decode cX8_steps 17 = .ok (.invokevirtual 218, 3) := by decide +kernel
theorem dX8_steps_20 : decode cX8_steps 20 = .ok (.iconst 0, 1) := by decide +kernel
theorem dX8_steps_21 : decode cX8_steps 21 = .ok (.istore_n 2, 1) := by decide +kernel
theorem dX8_steps_22 : decode cX8_steps 22 = .ok (.iconst 1, 1) := by decide +kernel
theorem dX8_steps_23 : decode cX8_steps 23 = .ok (.istore_n 3, 1) := by decide +kernel
theorem dX8_steps_24 : decode cX8_steps 24 = .ok (.iload_n 3, 1) := by decide +kernel
theorem dX8_steps_25 : decode cX8_steps 25 = .ok (.aload_n 0, 1) := by decide +kernel
theorem dX8_steps_26 : decode cX8_steps 26 = .ok (.getfield 212, 3) := by decide +kernel
theorem dX8_steps_29 : decode cX8_steps 29 = .ok (.if_icmp .ge 87, 3) := by decide +kernel
theorem dX8_steps_32 : decode cX8_steps 32 = .ok (.aload_n 0, 1) := by decide +kernel
theorem dX8_steps_33 : decode cX8_steps 33 = .ok (.getfield 37, 3) := by decide +kernel
theorem dX8_steps_36 : decode cX8_steps 36 = .ok (.aload_n 0, 1) := by decide +kernel
theorem dX8_steps_37 : decode cX8_steps 37 = .ok (.getfield 76, 3) := by decide +kernel
theorem dX8_steps_40 : decode cX8_steps 40 = .ok (.iload_n 3, 1) := by decide +kernel
theorem dX8_steps_41 : decode cX8_steps 41 = .ok (.iaload, 1) := by decide +kernel
theorem dX8_steps_42 : decode cX8_steps 42 = .ok (.iaload, 1) := by decide +kernel
theorem dX8_steps_43 : decode cX8_steps 43 = .ok (.aload_n 0, 1) := by decide +kernel
theorem dX8_steps_44 : decode cX8_steps 44 = .ok (.getfield 37, 3) := by decide +kernel
theorem dX8_steps_47 : decode cX8_steps 47 = .ok (.aload_n 0, 1) := by decide +kernel
theorem dX8_steps_48 : decode cX8_steps 48 = .ok (.getfield 76, 3) := by decide +kernel
theorem dX8_steps_51 : decode cX8_steps 51 = .ok (.iload_n 3, 1) := by decide +kernel
theorem dX8_steps_52 : decode cX8_steps 52 = .ok (.iconst 1, 1) := by decide +kernel
theorem dX8_steps_53 : decode cX8_steps 53 = .ok (.isub, 1) := by decide +kernel
theorem dX8_steps_54 : decode cX8_steps 54 = .ok (.iaload, 1) := by decide +kernel
theorem dX8_steps_55 : decode cX8_steps 55 = .ok (.iaload, 1) := by decide +kernel
theorem dX8_steps_56 : decode cX8_steps 56 = .ok (.isub, 1) := by decide +kernel
theorem dX8_steps_57 : decode cX8_steps 57 = .ok (.istore 4, 2) := by decide +kernel
theorem dX8_steps_59 : decode cX8_steps 59 = .ok (.iload_n 2, 1) := by decide +kernel
theorem dX8_steps_60 : decode cX8_steps 60 = .ok (.iload 4, 2) := by decide +kernel
theorem dX8_steps_62 : decode cX8_steps 62 = .ok (.ifCond .ge 9, 3) := by decide +kernel
theorem dX8_steps_65 : decode cX8_steps 65 = .ok (.iload 4, 2) := by decide +kernel
theorem dX8_steps_67 : decode cX8_steps 67 = .ok (.ineg, 1) := by decide +kernel
theorem dX8_steps_68 : decode cX8_steps 68 = .ok (.goto 5, 3) := by decide +kernel
theorem dX8_steps_71 : decode cX8_steps 71 = .ok (.iload 4, 2) := by decide +kernel
theorem dX8_steps_73 : decode cX8_steps 73 = .ok (.iadd, 1) := by decide +kernel
theorem dX8_steps_74 : decode cX8_steps 74 = .ok (.istore_n 2, 1) := by decide +kernel
theorem dX8_steps_75 : decode cX8_steps 75 = .ok (.iload_n 2, 1) := by decide +kernel
theorem dX8_steps_76 : decode cX8_steps 76 = .ok (.aload_n 0, 1) := by decide +kernel
theorem dX8_steps_77 : decode cX8_steps 77 = .ok (.getfield 40, 3) := by decide +kernel
theorem dX8_steps_80 : decode cX8_steps 80 = .ok (.aload_n 0, 1) := by decide +kernel
theorem dX8_steps_81 : decode cX8_steps 81 = .ok (.getfield 76, 3) := by decide +kernel
theorem dX8_steps_84 : decode cX8_steps 84 = .ok (.iload_n 3, 1) := by decide +kernel
theorem dX8_steps_85 : decode cX8_steps 85 = .ok (.iaload, 1) := by decide +kernel
theorem dX8_steps_86 : decode cX8_steps 86 = .ok (.caload, 1) := by decide +kernel
theorem dX8_steps_87 : decode cX8_steps 87 = .ok (.aload_n 0, 1) := by decide +kernel
theorem dX8_steps_88 : decode cX8_steps 88 = .ok (.getfield 40, 3) := by decide +kernel
theorem dX8_steps_91 : decode cX8_steps 91 = .ok (.aload_n 0, 1) := by decide +kernel
theorem dX8_steps_92 : decode cX8_steps 92 = .ok (.getfield 76, 3) := by decide +kernel
theorem dX8_steps_95 : decode cX8_steps 95 = .ok (.iload_n 3, 1) := by decide +kernel
theorem dX8_steps_96 : decode cX8_steps 96 = .ok (.iconst 1, 1) := by decide +kernel
theorem dX8_steps_97 : decode cX8_steps 97 = .ok (.isub, 1) := by decide +kernel
theorem dX8_steps_98 : decode cX8_steps 98 = .ok (.iaload, 1) := by decide +kernel
theorem dX8_steps_99 : decode cX8_steps 99 = .ok (.caload, 1) := by decide +kernel
theorem dX8_steps_100 : decode cX8_steps 100 = .ok (.if_icmp .eq 7, 3) := by decide +kernel
theorem dX8_steps_103 : decode cX8_steps 103 = .ok (.iconst 5, 1) := by decide +kernel
theorem dX8_steps_104 : decode cX8_steps 104 = .ok (.goto 4, 3) := by decide +kernel
theorem dX8_steps_107 : decode cX8_steps 107 = .ok (.iconst 0, 1) := by decide +kernel
theorem dX8_steps_108 : decode cX8_steps 108 = .ok (.iadd, 1) := by decide +kernel
theorem dX8_steps_109 : decode cX8_steps 109 = .ok (.istore_n 2, 1) := by decide +kernel
theorem dX8_steps_110 : decode cX8_steps 110 = .ok (.iinc 3 1, 3) := by decide +kernel
theorem dX8_steps_113 : decode cX8_steps 113 = .ok (.goto (-89), 3) := by decide +kernel
theorem dX8_steps_116 : decode cX8_steps 116 = .ok (.iload_n 2, 1) := by decide +kernel
theorem dX8_steps_117 : decode cX8_steps 117 = .ok (.ireturn, 1) := by decide +kernel
theorem dX8_clashes_0 : decode cX8_clashes 0 = .ok (.aload_n 0, 1) := by decide +kernel
theorem dX8_clashes_1 : decode cX8_clashes 1 = .ok (.aload_n 0, 1) := by decide +kernel
theorem dX8_clashes_2 : decode cX8_clashes 2 = .ok (.iload_n 1, 1) := by decide +kernel
theorem dX8_clashes_3 : decode cX8_clashes 3 = .ok (.invokevirtual 132, 3) := by decide +kernel
theorem dX8_clashes_6 : decode cX8_clashes 6 = .ok (.iconst 1, 1) := by decide +kernel
theorem dX8_clashes_7 : decode cX8_clashes 7 = .ok (.invokevirtual 93, 3) := by decide +kernel
theorem dX8_clashes_10 : decode cX8_clashes 10 = .ok (.ifCond .eq 5, 3) := by decide +kernel
theorem dX8_clashes_13 : decode cX8_clashes 13 = .ok (.iconst 0, 1) := by decide +kernel
theorem dX8_clashes_14 : decode cX8_clashes 14 = .ok (.ireturn, 1) := by decide +kernel
theorem dX8_clashes_15 : decode cX8_clashes 15 = .ok (.iconst 0, 1) := by decide +kernel
theorem dX8_clashes_16 : decode cX8_clashes 16 = .ok (.istore_n 2, 1) := by decide +kernel
theorem dX8_clashes_17 : decode cX8_clashes 17 = .ok (.iconst 0, 1) := by decide +kernel
theorem dX8_clashes_18 : decode cX8_clashes 18 = .ok (.istore_n 3, 1) := by decide +kernel
theorem dX8_clashes_19 : decode cX8_clashes 19 = .ok (.iload_n 3, 1) := by decide +kernel
theorem dX8_clashes_20 : decode cX8_clashes 20 = .ok (.iconst 2, 1) := by decide +kernel
theorem dX8_clashes_21 : decode cX8_clashes 21 = .ok (.aload_n 0, 1) := by decide +kernel
theorem dX8_clashes_22 : decode cX8_clashes 22 = .ok (.getfield 90, 3) := by decide +kernel
theorem dX8_clashes_25 : decode cX8_clashes 25 = .ok (.imul, 1) := by decide +kernel
theorem dX8_clashes_26 : decode cX8_clashes 26 = .ok (.if_icmp .ge 119, 3) := by decide +kernel
theorem dX8_clashes_29 : decode cX8_clashes 29 = .ok (.iconst 0, 1) := by decide +kernel
theorem dX8_clashes_30 : decode cX8_clashes 30 = .ok (.istore 4, 2) := by decide +kernel
theorem dX8_clashes_32 : decode cX8_clashes 32 = .ok (.iload 4, 2) := by decide +kernel
theorem dX8_clashes_34 : decode cX8_clashes 34 = .ok (.iconst 2, 1) := by decide +kernel
theorem dX8_clashes_35 : decode cX8_clashes 35 = .ok (.aload_n 0, 1) := by decide +kernel
theorem dX8_clashes_36 : decode cX8_clashes 36 = .ok (.getfield 90, 3) := by decide +kernel
theorem dX8_clashes_39 : decode cX8_clashes 39 = .ok (.imul, 1) := by decide +kernel
theorem dX8_clashes_40 : decode cX8_clashes 40 = .ok (.if_icmp .ge 99, 3) := by decide +kernel
theorem dX8_clashes_43 : decode cX8_clashes 43 = .ok (.iload_n 3, 1) := by decide +kernel
theorem dX8_clashes_44 : decode cX8_clashes 44 = .ok (.iload 4, 2) := by decide +kernel
theorem dX8_clashes_46 : decode cX8_clashes 46 = .ok (.if_icmp .eq 44, 3) := by decide +kernel
theorem dX8_clashes_49 : decode cX8_clashes 49 = .ok (.aload_n 0, 1) := by decide +kernel
theorem dX8_clashes_50 : decode cX8_clashes 50 = .ok (.getfield 34, 3) := by decide +kernel
theorem dX8_clashes_53 : decode cX8_clashes 53 = .ok (.iload_n 3, 1) := by decide +kernel
theorem dX8_clashes_54 : decode cX8_clashes 54 = .ok (.iaload, 1) := by decide +kernel
theorem dX8_clashes_55 : decode cX8_clashes 55 = .ok (.iload_n 1, 1) := by decide +kernel
theorem dX8_clashes_56 : decode cX8_clashes 56 = .ok (.if_icmp .ne 34, 3) := by decide +kernel
theorem dX8_clashes_59 : decode cX8_clashes 59 = .ok (.aload_n 0, 1) := by decide +kernel
theorem dX8_clashes_60 : decode cX8_clashes 60 = .ok (.getfield 34, 3) := by decide +kernel
theorem dX8_clashes_63 : decode cX8_clashes 63 = .ok (.iload 4, 2) := by decide +kernel
theorem dX8_clashes_65 : decode cX8_clashes 65 = .ok (.iaload, 1) := by decide +kernel
theorem dX8_clashes_66 : decode cX8_clashes 66 = .ok (.iload_n 1, 1) := by decide +kernel
theorem dX8_clashes_67 : decode cX8_clashes 67 = .ok (.if_icmp .ne 23, 3) := by decide +kernel
theorem dX8_clashes_70 : decode cX8_clashes 70 = .ok (.aload_n 0, 1) := by decide +kernel
theorem dX8_clashes_71 : decode cX8_clashes 71 = .ok (.getfield 40, 3) := by decide +kernel
theorem dX8_clashes_74 : decode cX8_clashes 74 = .ok (.iload_n 3, 1) := by decide +kernel
theorem dX8_clashes_75 : decode cX8_clashes 75 = .ok (.caload, 1) := by decide +kernel
theorem dX8_clashes_76 : decode cX8_clashes 76 = .ok (.aload_n 0, 1) := by decide +kernel
theorem dX8_clashes_77 : decode cX8_clashes 77 = .ok (.getfield 40, 3) := by decide +kernel
theorem dX8_clashes_80 : decode cX8_clashes 80 = .ok (.iload 4, 2) := by decide +kernel
theorem dX8_clashes_82 : decode cX8_clashes 82 = .ok (.caload, 1) := by decide +kernel
theorem dX8_clashes_83 : decode cX8_clashes 83 = .ok (.if_icmp .ne 7, 3) := by decide +kernel
theorem dX8_clashes_86 : decode cX8_clashes 86 = .ok (.iconst 1, 1) := by decide +kernel
theorem dX8_clashes_87 : decode cX8_clashes 87 = .ok (.goto 4, 3) := by decide +kernel
theorem dX8_clashes_90 : decode cX8_clashes 90 = .ok (.iconst 0, 1) := by decide +kernel
theorem dX8_clashes_91 : decode cX8_clashes 91 = .ok (.istore 5, 2) := by decide +kernel
theorem dX8_clashes_93 : decode cX8_clashes 93 = .ok (.iload_n 2, 1) := by decide +kernel
theorem dX8_clashes_94 : decode cX8_clashes 94 = .ok (.iload 5, 2) := by decide +kernel
theorem dX8_clashes_96 : decode cX8_clashes 96 = .ok (.ifCond .eq 34, 3) := by decide +kernel
theorem dX8_clashes_99 : decode cX8_clashes 99 = .ok (.aload_n 0, 1) := by decide +kernel
theorem dX8_clashes_100 : decode cX8_clashes 100 = .ok (.iload_n 1, 1) := by decide +kernel
theorem dX8_clashes_101 : decode cX8_clashes 101 = .ok (.iload_n 3, 1) := by decide +kernel
theorem dX8_clashes_102 : decode cX8_clashes 102 = .ok (.iload 4, 2) := by decide +kernel
theorem dX8_clashes_104 : decode cX8_clashes 104 = .ok (.invokevirtual 151, 3) := by decide +kernel
theorem dX8_clashes_107 : decode cX8_clashes 107 = .ok (.ifCond .eq 23, 3) := by decide +kernel
theorem dX8_clashes_110 : decode cX8_clashes 110 = .ok (.aload_n 0, 1) := by decide +kernel
theorem dX8_clashes_111 : decode cX8_clashes 111 = .ok (.getfield 43, 3) := by decide +kernel
theorem dX8_clashes_114 : decode cX8_clashes 114 = .ok (.iload_n 3, 1) := by decide +kernel
theorem dX8_clashes_115 : decode cX8_clashes 115 = .ok (.iaload, 1) := by decide +kernel
theorem dX8_clashes_116 : decode cX8_clashes 116 = .ok (.aload_n 0, 1) := by decide +kernel
theorem dX8_clashes_117 : decode cX8_clashes 117 = .ok (.getfield 43, 3) := by decide +kernel
theorem dX8_clashes_120 : decode cX8_clashes 120 = .ok (.iload 4, 2) := by decide +kernel
theorem dX8_clashes_122 : decode cX8_clashes 122 = .ok (.iaload, 1) := by decide +kernel
theorem dX8_clashes_123 : decode cX8_clashes 123 = .ok (.if_icmp .ge 7, 3) := by decide +kernel
theorem dX8_clashes_126 : decode cX8_clashes 126 = .ok (.iconst 1, 1) := by decide +kernel
theorem dX8_clashes_127 : decode cX8_clashes 127 = .ok (.goto 4, 3) := by decide +kernel
theorem dX8_clashes_130 : decode cX8_clashes 130 = .ok (.iconst 0, 1) := by decide +kernel
theorem dX8_clashes_131 : decode cX8_clashes 131 = .ok (.iadd, 1) := by decide +kernel
theorem dX8_clashes_132 : decode cX8_clashes 132 = .ok (.istore_n 2, 1) := by decide +kernel
theorem dX8_clashes_133 : decode cX8_clashes 133 = .ok (.iinc 4 1, 3) := by decide +kernel
theorem dX8_clashes_136 : decode cX8_clashes 136 = .ok (.goto (-104), 3) := by decide +kernel
theorem dX8_clashes_139 : decode cX8_clashes 139 = .ok (.iinc 3 1, 3) := by decide +kernel
theorem dX8_clashes_142 : decode cX8_clashes 142 = .ok (.goto (-123), 3) := by decide +kernel
theorem dX8_clashes_145 : decode cX8_clashes 145 = .ok (.iload_n 2, 1) := by decide +kernel
theorem dX8_clashes_146 : decode cX8_clashes 146 = .ok (.ireturn, 1) := by decide +kernel
theorem dX8_streets_0 : decode cX8_streets 0 = .ok (.iconst 0, 1) := by decide +kernel
theorem dX8_streets_1 : decode cX8_streets 1 = .ok (.istore_n 1, 1) := by decide +kernel
theorem dX8_streets_2 : decode cX8_streets 2 = .ok (.iconst 0, 1) := by decide +kernel
theorem dX8_streets_3 : decode cX8_streets 3 = .ok (.istore_n 2, 1) := by decide +kernel
theorem dX8_streets_4 : decode cX8_streets 4 = .ok (.iload_n 2, 1) := by decide +kernel
theorem dX8_streets_5 : decode cX8_streets 5 = .ok (.aload_n 0, 1) := by decide +kernel
theorem dX8_streets_6 : decode cX8_streets 6 = .ok (.getfield 83, 3) := by decide +kernel
theorem dX8_streets_9 : decode cX8_streets 9 = .ok (.if_icmp .ge 26, 3) := by decide +kernel
theorem dX8_streets_12 : decode cX8_streets 12 = .ok (.iload_n 1, 1) := by decide +kernel
theorem dX8_streets_13 : decode cX8_streets 13 = .ok (.aload_n 0, 1) := by decide +kernel
theorem dX8_streets_14 : decode cX8_streets 14 = .ok (.getfield 28, 3) := by decide +kernel
theorem dX8_streets_17 : decode cX8_streets 17 = .ok (.iload_n 2, 1) := by decide +kernel
theorem dX8_streets_18 : decode cX8_streets 18 = .ok (.baload, 1) := by decide +kernel
theorem dX8_streets_19 : decode cX8_streets 19 = .ok (.ifCond .eq 7, 3) := by decide +kernel
theorem dX8_streets_22 : decode cX8_streets 22 = .ok (.iconst 0, 1) := by decide +kernel
theorem dX8_streets_23 : decode cX8_streets 23 = .ok (.goto 4, 3) := by decide +kernel
theorem dX8_streets_26 : decode cX8_streets 26 = .ok (.iconst 1, 1) := by decide +kernel
theorem dX8_streets_27 : decode cX8_streets 27 = .ok (.iadd, 1) := by decide +kernel
theorem dX8_streets_28 : decode cX8_streets 28 = .ok (.istore_n 1, 1) := by decide +kernel
theorem dX8_streets_29 : decode cX8_streets 29 = .ok (.iinc 2 1, 3) := by decide +kernel
theorem dX8_streets_32 : decode cX8_streets 32 = .ok (.goto (-28), 3) := by decide +kernel
theorem dX8_streets_35 : decode cX8_streets 35 = .ok (.iload_n 1, 1) := by decide +kernel
theorem dX8_streets_36 : decode cX8_streets 36 = .ok (.ireturn, 1) := by decide +kernel
theorem dX8_goneShare_0 : decode cX8_goneShare 0 = .ok (.iconst 0, 1) := by decide +kernel
theorem dX8_goneShare_1 : decode cX8_goneShare 1 = .ok (.istore_n 1, 1) := by decide +kernel
theorem dX8_goneShare_2 : decode cX8_goneShare 2 = .ok (.iconst 0, 1) := by decide +kernel
theorem dX8_goneShare_3 : decode cX8_goneShare 3 = .ok (.istore_n 2, 1) := by decide +kernel
theorem dX8_goneShare_4 : decode cX8_goneShare 4 = .ok (.iload_n 2, 1) := by decide +kernel
theorem dX8_goneShare_5 : decode cX8_goneShare 5 = .ok (.aload_n 0, 1) := by decide +kernel
theorem dX8_goneShare_6 : decode cX8_goneShare 6 = .ok (.getfield 90, 3) := by decide +kernel
theorem dX8_goneShare_9 : decode cX8_goneShare 9 = .ok (.if_icmp .ge 26, 3) := by decide +kernel
theorem dX8_goneShare_12 : decode cX8_goneShare 12 = .ok (.iload_n 1, 1) := by decide +kernel
theorem dX8_goneShare_13 : decode cX8_goneShare 13 = .ok (.aload_n 0, 1) := by decide +kernel
theorem dX8_goneShare_14 : decode cX8_goneShare 14 = .ok (.getfield 46, 3) := by decide +kernel
theorem dX8_goneShare_17 : decode cX8_goneShare 17 = .ok (.iload_n 2, 1) := by decide +kernel
theorem dX8_goneShare_18 : decode cX8_goneShare 18 = .ok (.baload, 1) := by decide +kernel
theorem dX8_goneShare_19 : decode cX8_goneShare 19 = .ok (.ifCond .eq 7, 3) := by decide +kernel
theorem dX8_goneShare_22 : decode cX8_goneShare 22 = .ok (.iconst 1, 1) := by decide +kernel
theorem dX8_goneShare_23 : decode cX8_goneShare 23 = .ok (.goto 4, 3) := by decide +kernel
theorem dX8_goneShare_26 : decode cX8_goneShare 26 = .ok (.iconst 0, 1) := by decide +kernel
theorem dX8_goneShare_27 : decode cX8_goneShare 27 = .ok (.iadd, 1) := by decide +kernel
theorem dX8_goneShare_28 : decode cX8_goneShare 28 = .ok (.istore_n 1, 1) := by decide +kernel
theorem dX8_goneShare_29 : decode cX8_goneShare 29 = .ok (.iinc 2 1, 3) := by decide +kernel
theorem dX8_goneShare_32 : decode cX8_goneShare 32 = .ok (.goto (-28), 3) := by decide +kernel
theorem dX8_goneShare_35 : decode cX8_goneShare 35 = .ok (.aload_n 0, 1) := by decide +kernel
theorem dX8_goneShare_36 : decode cX8_goneShare 36 = .ok (.aload_n 0, 1) := by decide +kernel
theorem dX8_goneShare_37 : decode cX8_goneShare 37 = .ok (.getfield 90, 3) := by decide +kernel
theorem dX8_goneShare_40 : decode cX8_goneShare 40 = .ok (.ifCond .le 7, 3) := by decide +kernel
theorem dX8_goneShare_43 : decode cX8_goneShare 43 = .ok (.iconst 1, 1) := by decide +kernel
theorem dX8_goneShare_44 : decode cX8_goneShare 44 = .ok (.goto 4, 3) := by decide +kernel
theorem dX8_goneShare_47 : decode cX8_goneShare 47 = .ok (.iconst 0, 1) := by decide +kernel
theorem dX8_goneShare_48 : decode cX8_goneShare 48 = .ok (.iconst 1, 1) := by decide +kernel
theorem dX8_goneShare_49 : decode cX8_goneShare 49 = .ok (.invokevirtual 93, 3) := by decide +kernel
theorem dX8_goneShare_52 : decode cX8_goneShare 52 = .ok (.ifCond .eq 7, 3) := by decide +kernel
theorem dX8_goneShare_55 : decode cX8_goneShare 55 = .ok (.fconst 0, 1) := by decide +kernel
theorem dX8_goneShare_56 : decode cX8_goneShare 56 = .ok (.goto 11, 3) := by decide +kernel
theorem dX8_goneShare_59 : decode cX8_goneShare 59 = .ok (.iload_n 1, 1) := by decide +kernel
theorem dX8_goneShare_60 : decode cX8_goneShare 60 = .ok (.i2f, 1) := by decide +kernel
theorem dX8_goneShare_61 : decode cX8_goneShare 61 = .ok (.aload_n 0, 1) := by decide +kernel
theorem dX8_goneShare_62 : decode cX8_goneShare 62 = .ok (.getfield 90, 3) := by decide +kernel
theorem dX8_goneShare_65 : decode cX8_goneShare 65 = .ok (.i2f, 1) := by decide +kernel
theorem dX8_goneShare_66 : decode cX8_goneShare 66 = .ok (.fdiv, 1) := by decide +kernel
theorem dX8_goneShare_67 : decode cX8_goneShare 67 = .ok (.freturn, 1) := by decide +kernel
theorem dX8_meanDoors_0 : decode cX8_meanDoors 0 = .ok (.iconst 0, 1) := by decide +kernel
theorem dX8_meanDoors_1 : decode cX8_meanDoors 1 = .ok (.istore_n 1, 1) := by decide +kernel
theorem dX8_meanDoors_2 : decode cX8_meanDoors 2 = .ok (.iconst 0, 1) := by decide +kernel
theorem dX8_meanDoors_3 : decode cX8_meanDoors 3 = .ok (.istore_n 2, 1) := by decide +kernel
theorem dX8_meanDoors_4 : decode cX8_meanDoors 4 = .ok (.iload_n 2, 1) := by decide +kernel
theorem dX8_meanDoors_5 : decode cX8_meanDoors 5 = .ok (.aload_n 0, 1) := by decide +kernel
theorem dX8_meanDoors_6 : decode cX8_meanDoors 6 = .ok (.getfield 83, 3) := by decide +kernel
theorem dX8_meanDoors_9 : decode cX8_meanDoors 9 = .ok (.if_icmp .ge 30, 3) := by decide +kernel
theorem dX8_meanDoors_12 : decode cX8_meanDoors 12 = .ok (.iload_n 1, 1) := by decide +kernel
theorem dX8_meanDoors_13 : decode cX8_meanDoors 13 = .ok (.aload_n 0, 1) := by decide +kernel
theorem dX8_meanDoors_14 : decode cX8_meanDoors 14 = .ok (.getfield 28, 3) := by decide +kernel
theorem dX8_meanDoors_17 : decode cX8_meanDoors 17 = .ok (.iload_n 2, 1) := by decide +kernel
theorem dX8_meanDoors_18 : decode cX8_meanDoors 18 = .ok (.baload, 1) := by decide +kernel
theorem dX8_meanDoors_19 : decode cX8_meanDoors 19 = .ok (.ifCond .eq 7, 3) := by decide +kernel
theorem dX8_meanDoors_22 : decode cX8_meanDoors 22 = .ok (.iconst 0, 1) := by decide +kernel
theorem dX8_meanDoors_23 : decode cX8_meanDoors 23 = .ok (.goto 8, 3) := by decide +kernel
theorem dX8_meanDoors_26 : decode cX8_meanDoors 26 = .ok (.aload_n 0, 1) := by decide +kernel
theorem dX8_meanDoors_27 : decode cX8_meanDoors 27 = .ok (.iload_n 2, 1) := by decide +kernel
theorem dX8_meanDoors_28 : decode cX8_meanDoors 28 = .ok (.invokevirtual 209, 3) := by decide +kernel
theorem dX8_meanDoors_31 : decode cX8_meanDoors 31 = .ok (.iadd, 1) := by decide +kernel
theorem dX8_meanDoors_32 : decode cX8_meanDoors 32 = .ok (.istore_n 1, 1) := by decide +kernel
theorem dX8_meanDoors_33 : decode cX8_meanDoors 33 = .ok (.iinc 2 1, 3) := by decide +kernel
theorem dX8_meanDoors_36 : decode cX8_meanDoors 36 = .ok (.goto (-32), 3) := by decide +kernel
theorem dX8_meanDoors_39 : decode cX8_meanDoors 39 = .ok (.aload_n 0, 1) := by decide +kernel
theorem dX8_meanDoors_40 : decode cX8_meanDoors 40 = .ok (.aload_n 0, 1) := by decide +kernel
theorem dX8_meanDoors_41 : decode cX8_meanDoors 41 = .ok (.invokevirtual 221, 3) := by decide +kernel
theorem dX8_meanDoors_44 : decode cX8_meanDoors 44 = .ok (.ifCond .le 7, 3) := by decide +kernel
theorem dX8_meanDoors_47 : decode cX8_meanDoors 47 = .ok (.iconst 1, 1) := by decide +kernel
theorem dX8_meanDoors_48 : decode cX8_meanDoors 48 = .ok (.goto 4, 3) := by decide +kernel
theorem dX8_meanDoors_51 : decode cX8_meanDoors 51 = .ok (.iconst 0, 1) := by decide +kernel
theorem dX8_meanDoors_52 : decode cX8_meanDoors 52 = .ok (.iconst 1, 1) := by decide +kernel
theorem dX8_meanDoors_53 : decode cX8_meanDoors 53 = .ok (.invokevirtual 93, 3) := by decide +kernel
theorem dX8_meanDoors_56 : decode cX8_meanDoors 56 = .ok (.ifCond .eq 7, 3) := by decide +kernel
theorem dX8_meanDoors_59 : decode cX8_meanDoors 59 = .ok (.dconst 0, 1) := by decide +kernel
theorem dX8_meanDoors_60 : decode cX8_meanDoors 60 = .ok (.goto 11, 3) := by decide +kernel
theorem dX8_meanDoors_63 : decode cX8_meanDoors 63 = .ok (.iload_n 1, 1) := by decide +kernel
theorem dX8_meanDoors_64 : decode cX8_meanDoors 64 = .ok (.i2d, 1) := by decide +kernel
theorem dX8_meanDoors_65 : decode cX8_meanDoors 65 = .ok (.aload_n 0, 1) := by decide +kernel
theorem dX8_meanDoors_66 : decode cX8_meanDoors 66 = .ok (.invokevirtual 221, 3) := by decide +kernel
theorem dX8_meanDoors_69 : decode cX8_meanDoors 69 = .ok (.i2d, 1) := by decide +kernel
theorem dX8_meanDoors_70 : decode cX8_meanDoors 70 = .ok (.ddiv, 1) := by decide +kernel
theorem dX8_meanDoors_71 : decode cX8_meanDoors 71 = .ok (.dreturn, 1) := by decide +kernel
theorem dX8_checksum_0 : decode cX8_checksum 0 = .ok (.ldc2_w 223, 3) := by decide +kernel
theorem dX8_checksum_3 : decode cX8_checksum 3 = .ok (.lstore_n 1, 1) := by decide +kernel
theorem dX8_checksum_4 : decode cX8_checksum 4 = .ok (.iconst 0, 1) := by decide +kernel
theorem dX8_checksum_5 : decode cX8_checksum 5 = .ok (.istore_n 3, 1) := by decide +kernel
theorem dX8_checksum_6 : decode cX8_checksum 6 = .ok (.iload_n 3, 1) := by decide +kernel
theorem dX8_checksum_7 : decode cX8_checksum 7 = .ok (.aload_n 0, 1) := by decide +kernel
theorem dX8_checksum_8 : decode cX8_checksum 8 = .ok (.getfield 83, 3) := by decide +kernel
theorem dX8_checksum_11 : decode cX8_checksum 11 = .ok (.if_icmp .ge 48, 3) := by decide +kernel
theorem dX8_checksum_14 : decode cX8_checksum 14 = .ok (.aload_n 0, 1) := by decide +kernel
theorem dX8_checksum_15 : decode cX8_checksum 15 = .ok (.getfield 28, 3) := by decide +kernel
theorem dX8_checksum_18 : decode cX8_checksum 18 = .ok (.iload_n 3, 1) := by decide +kernel
theorem dX8_checksum_19 : decode cX8_checksum 19 = .ok (.baload, 1) := by decide +kernel
theorem dX8_checksum_20 : decode cX8_checksum 20 = .ok (.ifCond .eq 6, 3) := by decide +kernel
theorem dX8_checksum_23 : decode cX8_checksum 23 = .ok (.goto 30, 3) := by decide +kernel
theorem dX8_checksum_26 : decode cX8_checksum 26 = .ok (.ldc2_w 225, 3) := by decide +kernel
theorem dX8_checksum_29 : decode cX8_checksum 29 = .ok (.lload_n 1, 1) := by decide +kernel
theorem dX8_checksum_30 : decode cX8_checksum 30 = .ok (.lmul, 1) := by decide +kernel
theorem dX8_checksum_31 : decode cX8_checksum 31 = .ok (.aload_n 0, 1) := by decide +kernel
theorem dX8_checksum_32 : decode cX8_checksum 32 = .ok (.getfield 16, 3) := by decide +kernel
theorem dX8_checksum_35 : decode cX8_checksum 35 = .ok (.iload_n 3, 1) := by decide +kernel
theorem dX8_checksum_36 : decode cX8_checksum 36 = .ok (.iaload, 1) := by decide +kernel
theorem dX8_checksum_37 : decode cX8_checksum 37 = .ok (.i2l, 1) := by decide +kernel
theorem dX8_checksum_38 : decode cX8_checksum 38 = .ok (.ladd, 1) := by decide +kernel
theorem dX8_checksum_39 : decode cX8_checksum 39 = .ok (.lstore_n 1, 1) := by decide +kernel
theorem dX8_checksum_40 : decode cX8_checksum 40 = .ok (.ldc2_w 225, 3) := by decide +kernel
theorem dX8_checksum_43 : decode cX8_checksum 43 = .ok (.lload_n 1, 1) := by decide +kernel
theorem dX8_checksum_44 : decode cX8_checksum 44 = .ok (.lmul, 1) := by decide +kernel
theorem dX8_checksum_45 : decode cX8_checksum 45 = .ok (.aload_n 0, 1) := by decide +kernel
theorem dX8_checksum_46 : decode cX8_checksum 46 = .ok (.iload_n 3, 1) := by decide +kernel
theorem dX8_checksum_47 : decode cX8_checksum 47 = .ok (.invokevirtual 209, 3) := by decide +kernel
theorem dX8_checksum_50 : decode cX8_checksum 50 = .ok (.i2l, 1) := by decide +kernel
theorem dX8_checksum_51 : decode cX8_checksum 51 = .ok (.ladd, 1) := by decide +kernel
theorem dX8_checksum_52 : decode cX8_checksum 52 = .ok (.lstore_n 1, 1) := by decide +kernel
theorem dX8_checksum_53 : decode cX8_checksum 53 = .ok (.iinc 3 1, 3) := by decide +kernel
theorem dX8_checksum_56 : decode cX8_checksum 56 = .ok (.goto (-50), 3) := by decide +kernel
theorem dX8_checksum_59 : decode cX8_checksum 59 = .ok (.iconst 0, 1) := by decide +kernel
theorem dX8_checksum_60 : decode cX8_checksum 60 = .ok (.istore_n 3, 1) := by decide +kernel
theorem dX8_checksum_61 : decode cX8_checksum 61 = .ok (.iload_n 3, 1) := by decide +kernel
theorem dX8_checksum_62 : decode cX8_checksum 62 = .ok (.aload_n 0, 1) := by decide +kernel
theorem dX8_checksum_63 : decode cX8_checksum 63 = .ok (.getfield 90, 3) := by decide +kernel
theorem dX8_checksum_66 : decode cX8_checksum 66 = .ok (.if_icmp .ge 69, 3) := by decide +kernel
theorem dX8_checksum_69 : decode cX8_checksum 69 = .ok (.aload_n 0, 1) := by decide +kernel
theorem dX8_checksum_70 : decode cX8_checksum 70 = .ok (.getfield 46, 3) := by decide +kernel
theorem dX8_checksum_73 : decode cX8_checksum 73 = .ok (.iload_n 3, 1) := by decide +kernel
theorem dX8_checksum_74 : decode cX8_checksum 74 = .ok (.baload, 1) := by decide +kernel
theorem dX8_checksum_75 : decode cX8_checksum 75 = .ok (.ifCond .eq 6, 3) := by decide +kernel
theorem dX8_checksum_78 : decode cX8_checksum 78 = .ok (.goto 51, 3) := by decide +kernel
theorem dX8_checksum_81 : decode cX8_checksum 81 = .ok (.ldc2_w 225, 3) := by decide +kernel
theorem dX8_checksum_84 : decode cX8_checksum 84 = .ok (.lload_n 1, 1) := by decide +kernel
theorem dX8_checksum_85 : decode cX8_checksum 85 = .ok (.lmul, 1) := by decide +kernel
theorem dX8_checksum_86 : decode cX8_checksum 86 = .ok (.aload_n 0, 1) := by decide +kernel
theorem dX8_checksum_87 : decode cX8_checksum 87 = .ok (.getfield 43, 3) := by decide +kernel
theorem dX8_checksum_90 : decode cX8_checksum 90 = .ok (.iconst 2, 1) := by decide +kernel
theorem dX8_checksum_91 : decode cX8_checksum 91 = .ok (.iload_n 3, 1) := by decide +kernel
theorem dX8_checksum_92 : decode cX8_checksum 92 = .ok (.imul, 1) := by decide +kernel
theorem dX8_checksum_93 : decode cX8_checksum 93 = .ok (.iaload, 1) := by decide +kernel
theorem dX8_checksum_94 : decode cX8_checksum 94 = .ok (.i2l, 1) := by decide +kernel
theorem dX8_checksum_95 : decode cX8_checksum 95 = .ok (.ladd, 1) := by decide +kernel
theorem dX8_checksum_96 : decode cX8_checksum 96 = .ok (.lstore_n 1, 1) := by decide +kernel
theorem dX8_checksum_97 : decode cX8_checksum 97 = .ok (.aload_n 0, 1) := by decide +kernel
theorem dX8_checksum_98 : decode cX8_checksum 98 = .ok (.getfield 34, 3) := by decide +kernel
theorem dX8_checksum_101 : decode cX8_checksum 101 = .ok (.iconst 2, 1) := by decide +kernel
theorem dX8_checksum_102 : decode cX8_checksum 102 = .ok (.iload_n 3, 1) := by decide +kernel
theorem dX8_checksum_103 : decode cX8_checksum 103 = .ok (.imul, 1) := by decide +kernel
theorem dX8_checksum_104 : decode cX8_checksum 104 = .ok (.iconst 1, 1) := by decide +kernel
theorem dX8_checksum_105 : decode cX8_checksum 105 = .ok (.iadd, 1) := by decide +kernel
theorem dX8_checksum_106 : decode cX8_checksum 106 = .ok (.iaload, 1) := by decide +kernel
theorem dX8_checksum_107 : decode cX8_checksum 107 = .ok (.iconst (-1), 1) := by decide +kernel
theorem dX8_checksum_108 : decode cX8_checksum 108 = .ok (.if_icmp .eq 21, 3) := by decide +kernel
theorem dX8_checksum_111 : decode cX8_checksum 111 = .ok (.ldc2_w 225, 3) := by decide +kernel
theorem dX8_checksum_114 : decode cX8_checksum 114 = .ok (.lload_n 1, 1) := by decide +kernel
theorem dX8_checksum_115 : decode cX8_checksum 115 = .ok (.lmul, 1) := by decide +kernel
theorem dX8_checksum_116 : decode cX8_checksum 116 = .ok (.aload_n 0, 1) := by decide +kernel
theorem dX8_checksum_117 : decode cX8_checksum 117 = .ok (.getfield 43, 3) := by decide +kernel
theorem dX8_checksum_120 : decode cX8_checksum 120 = .ok (.iconst 2, 1) := by decide +kernel
theorem dX8_checksum_121 : decode cX8_checksum 121 = .ok (.iload_n 3, 1) := by decide +kernel
theorem dX8_checksum_122 : decode cX8_checksum 122 = .ok (.imul, 1) := by decide +kernel
theorem dX8_checksum_123 : decode cX8_checksum 123 = .ok (.iconst 1, 1) := by decide +kernel
theorem dX8_checksum_124 : decode cX8_checksum 124 = .ok (.iadd, 1) := by decide +kernel
theorem dX8_checksum_125 : decode cX8_checksum 125 = .ok (.iaload, 1) := by decide +kernel
theorem dX8_checksum_126 : decode cX8_checksum 126 = .ok (.i2l, 1) := by decide +kernel
theorem dX8_checksum_127 : decode cX8_checksum 127 = .ok (.ladd, 1) := by decide +kernel
theorem dX8_checksum_128 : decode cX8_checksum 128 = .ok (.lstore_n 1, 1) := by decide +kernel
theorem dX8_checksum_129 : decode cX8_checksum 129 = .ok (.iinc 3 1, 3) := by decide +kernel
theorem dX8_checksum_132 : decode cX8_checksum 132 = .ok (.goto (-71), 3) := by decide +kernel
theorem dX8_checksum_135 : decode cX8_checksum 135 = .ok (.ldc2_w 225, 3) := by decide +kernel
theorem dX8_checksum_138 : decode cX8_checksum 138 = .ok (.lload_n 1, 1) := by decide +kernel
theorem dX8_checksum_139 : decode cX8_checksum 139 = .ok (.lmul, 1) := by decide +kernel
theorem dX8_checksum_140 : decode cX8_checksum 140 = .ok (.aload_n 0, 1) := by decide +kernel
theorem dX8_checksum_141 : decode cX8_checksum 141 = .ok (.getfield 118, 3) := by decide +kernel
theorem dX8_checksum_144 : decode cX8_checksum 144 = .ok (.i2l, 1) := by decide +kernel
theorem dX8_checksum_145 : decode cX8_checksum 145 = .ok (.ladd, 1) := by decide +kernel
theorem dX8_checksum_146 : decode cX8_checksum 146 = .ok (.lreturn, 1) := by decide +kernel
theorem dX8_isTrue_0 : decode cX8_isTrue 0 = .ok (.iconst 1, 1) := by decide +kernel
theorem dX8_isTrue_1 : decode cX8_isTrue 1 = .ok (.ireturn, 1) := by decide +kernel
theorem dJx00060_init_a7421_0 : decode cJx00060_init_a7421 0 = .ok (.aload_n 0, 1) := by decide +kernel
theorem dJx00060_init_a7421_1 : decode cJx00060_init_a7421 1 = .ok (.aload_n 1, 1) := by decide +kernel
theorem dJx00060_init_a7421_2 : decode cJx00060_init_a7421 2 = .ok (.invokespecial 7, 3) := by decide +kernel
theorem dJx00060_init_a7421_5 : decode cJx00060_init_a7421 5 = .ok (.return_, 1) := by decide +kernel
theorem dJ9_abs_0f7a4_0 : decode cJ9_abs_0f7a4 0 = .ok (.iload_n 0, 1) := by decide +kernel
theorem dJ9_abs_0f7a4_1 : decode cJ9_abs_0f7a4 1 = .ok (.ifCond .ge 8, 3) := by decide +kernel
theorem dJ9_abs_0f7a4_4 : decode cJ9_abs_0f7a4 4 = .ok (.iload_n 0, 1) := by decide +kernel
theorem dJ9_abs_0f7a4_5 : decode cJ9_abs_0f7a4 5 = .ok (.ineg, 1) := by decide +kernel
theorem dJ9_abs_0f7a4_6 : decode cJ9_abs_0f7a4 6 = .ok (.goto 4, 3) := by decide +kernel
theorem dJ9_abs_0f7a4_9 : decode cJ9_abs_0f7a4 9 = .ok (.iload_n 0, 1) := by decide +kernel
theorem dJ9_abs_0f7a4_10 : decode cJ9_abs_0f7a4 10 = .ok (.ireturn, 1) := by decide +kernel
theorem dJ9_max_7cf53_0 : decode cJ9_max_7cf53 0 = .ok (.iload_n 0, 1) := by decide +kernel
theorem dJ9_max_7cf53_1 : decode cJ9_max_7cf53 1 = .ok (.iload_n 1, 1) := by decide +kernel
theorem dJ9_max_7cf53_2 : decode cJ9_max_7cf53 2 = .ok (.if_icmp .lt 7, 3) := by decide +kernel
theorem dJ9_max_7cf53_5 : decode cJ9_max_7cf53 5 = .ok (.iload_n 0, 1) := by decide +kernel
theorem dJ9_max_7cf53_6 : decode cJ9_max_7cf53 6 = .ok (.goto 4, 3) := by decide +kernel
theorem dJ9_max_7cf53_9 : decode cJ9_max_7cf53 9 = .ok (.iload_n 1, 1) := by decide +kernel
theorem dJ9_max_7cf53_10 : decode cJ9_max_7cf53 10 = .ok (.ireturn, 1) := by decide +kernel
theorem dJ9_min_7cf53_0 : decode cJ9_min_7cf53 0 = .ok (.iload_n 0, 1) := by decide +kernel
theorem dJ9_min_7cf53_1 : decode cJ9_min_7cf53 1 = .ok (.iload_n 1, 1) := by decide +kernel
theorem dJ9_min_7cf53_2 : decode cJ9_min_7cf53 2 = .ok (.if_icmp .gt 7, 3) := by decide +kernel
theorem dJ9_min_7cf53_5 : decode cJ9_min_7cf53 5 = .ok (.iload_n 0, 1) := by decide +kernel
theorem dJ9_min_7cf53_6 : decode cJ9_min_7cf53 6 = .ok (.goto 4, 3) := by decide +kernel
theorem dJ9_min_7cf53_9 : decode cJ9_min_7cf53 9 = .ok (.iload_n 1, 1) := by decide +kernel
theorem dJ9_min_7cf53_10 : decode cJ9_min_7cf53 10 = .ok (.ireturn, 1) := by decide +kernel
theorem dJ7_fill_53178_0 : decode cJ7_fill_53178 0 = .ok (.iconst 0, 1) := by decide +kernel
theorem dJ7_fill_53178_1 : decode cJ7_fill_53178 1 = .ok (.istore_n 2, 1) := by decide +kernel
theorem dJ7_fill_53178_2 : decode cJ7_fill_53178 2 = .ok (.aload_n 0, 1) := by decide +kernel
theorem dJ7_fill_53178_3 : decode cJ7_fill_53178 3 = .ok (.arraylength, 1) := by decide +kernel
theorem dJ7_fill_53178_4 : decode cJ7_fill_53178 4 = .ok (.istore_n 3, 1) := by decide +kernel
theorem dJ7_fill_53178_5 : decode cJ7_fill_53178 5 = .ok (.iload_n 2, 1) := by decide +kernel
theorem dJ7_fill_53178_6 : decode cJ7_fill_53178 6 = .ok (.iload_n 3, 1) := by decide +kernel
theorem dJ7_fill_53178_7 : decode cJ7_fill_53178 7 = .ok (.if_icmp .ge 13, 3) := by decide +kernel
theorem dJ7_fill_53178_10 : decode cJ7_fill_53178 10 = .ok (.aload_n 0, 1) := by decide +kernel
theorem dJ7_fill_53178_11 : decode cJ7_fill_53178 11 = .ok (.iload_n 2, 1) := by decide +kernel
theorem dJ7_fill_53178_12 : decode cJ7_fill_53178 12 = .ok (.iload_n 1, 1) := by decide +kernel
theorem dJ7_fill_53178_13 : decode cJ7_fill_53178 13 = .ok (.iastore, 1) := by decide +kernel
theorem dJ7_fill_53178_14 : decode cJ7_fill_53178 14 = .ok (.iinc 2 1, 3) := by decide +kernel
theorem dJ7_fill_53178_17 : decode cJ7_fill_53178 17 = .ok (.goto (-12), 3) := by decide +kernel
theorem dJ7_fill_53178_20 : decode cJ7_fill_53178 20 = .ok (.return_, 1) := by decide +kernel
