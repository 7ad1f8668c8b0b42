set_option maxRecDepth 20000 in
theorem gX8_comes_X8_lettered : GoodIn wsX8_comes (wsV RX8 147 RX8 yX8_lettered wsX8_lettered) := goodIn_app (goodIn_of _ (by decide +kernel)) ggX8_comes_X8_lettered
set_option maxRecDepth 20000 in
theorem ggX8_comes_X8_isFarther : GoodIn wsX8_comes wsX8_isFarther := goodIn_ca (goodIn_r _ [26, 7, 8, 9, 10, 11, 12, 13, 14, 31, 32, 33, 34, 35, 36, 37, 38, 39, 40, 41, 42, 43, 44, 45, 46, 47, 48, 49, 50, 51, 52, 53, 54, 55, 56, 57, 58, 59, 60] (by decide +kernel) (by decide +kernel)) (goodIn_sub (fun _ h => List.mem_cons_of_mem _ (List.mem_append_right _ h)) (by decide +kernel))
set_option maxRecDepth 20000 in
theorem gX8_comes_X8_isFarther : GoodIn wsX8_comes (wsV RX8 151 RX8 yX8_isFarther wsX8_isFarther) := goodIn_app (goodIn_of _ (by decide +kernel)) ggX8_comes_X8_isFarther
set_option maxRecDepth 20000 in
theorem ggX8_comes_X8_isNumberGiven : GoodIn wsX8_comes wsX8_isNumberGiven := goodIn_ca (goodIn_r _ [30, 3, 4, 5, 31, 32, 33, 34, 35, 36, 37, 38, 39, 40, 41, 42, 43, 44, 45, 46, 47, 48, 49, 50, 51, 52, 53, 54, 55, 56, 57, 58, 59, 60] (by decide +kernel) (by decide +kernel)) (goodIn_sub (fun _ h => List.mem_cons_of_mem _ (List.mem_append_right _ h)) (by decide +kernel))
set_option maxRecDepth 20000 in
theorem gX8_comes_X8_isNumberGiven : GoodIn wsX8_comes (wsV RX8 154 RX8 yX8_isNumberGiven wsX8_isNumberGiven) := goodIn_app (goodIn_of _ (by decide +kernel)) ggX8_comes_X8_isNumberGiven
theorem dX8_comes_0 : decode cX8_comes 0 = .ok (.aload_n 0, 1) := by decide +kernel
theorem dX8_comes_1 : decode cX8_comes 1 = .ok (.iload_n 1, 1) := by decide +kernel
theorem dX8_comes_2 : decode cX8_comes 2 = .ok (.iload_n 3, 1) := by decide +kernel
theorem dX8_comes_3 : decode cX8_comes 3 = .ok (.invokevirtual 144, 3) := by decide +kernel
theorem dX8_comes_6 : decode cX8_comes 6 = .ok (.istore 5, 2) := by decide +kernel
theorem dX8_comes_8 : decode cX8_comes 8 = .ok (.aload_n 0, 1) := by decide +kernel
theorem dX8_comes_9 : decode cX8_comes 9 = .ok (.getfield 20, 3) := by decide +kernel
theorem dX8_comes_12 : decode cX8_comes 12 = .ok (.iload_n 1, 1) := by decide +kernel
theorem dX8_comes_13 : decode cX8_comes 13 = .ok (.caload, 1) := by decide +kernel
theorem dX8_comes_14 : decode cX8_comes 14 = .ok (.bipush 109, 2) := by decide +kernel
theorem dX8_comes_16 : decode cX8_comes 16 = .ok (.if_icmp .ne 30, 3) := by decide +kernel
theorem dX8_comes_19 : decode cX8_comes 19 = .ok (.aload_n 0, 1) := by decide +kernel
theorem dX8_comes_20 : decode cX8_comes 20 = .ok (.iload_n 1, 1) := by decide +kernel
theorem dX8_comes_21 : decode cX8_comes 21 = .ok (.iconst 2, 1) := by decide +kernel
theorem dX8_comes_22 : decode cX8_comes 22 = .ok (.iload 5, 2) := by decide +kernel
theorem dX8_comes_24 : decode cX8_comes 24 = .ok (.bipush 10, 2) := by decide +kernel
theorem dX8_comes_26 : decode cX8_comes 26 = .ok (.idiv, 1) := by decide +kernel
theorem dX8_comes_27 : decode cX8_comes 27 = .ok (.imul, 1) := by decide +kernel
theorem dX8_comes_28 : decode cX8_comes 28 = .ok (.iload 4, 2) := by decide +kernel
theorem dX8_comes_30 : decode cX8_comes 30 = .ok (.bipush 108, 2) := by decide +kernel
theorem dX8_comes_32 : decode cX8_comes 32 = .ok (.if_icmp .ne 7, 3) := by decide +kernel
theorem dX8_comes_35 : decode cX8_comes 35 = .ok (.iconst 1, 1) := by decide +kernel
theorem dX8_comes_36 : decode cX8_comes 36 = .ok (.goto 4, 3) := by decide +kernel
theorem dX8_comes_39 : decode cX8_comes 39 = .ok (.iconst 2, 1) := by decide +kernel
theorem dX8_comes_40 : decode cX8_comes 40 = .ok (.iadd, 1) := by decide +kernel
theorem dX8_comes_41 : decode cX8_comes 41 = .ok (.iconst 0, 1) := by decide +kernel
theorem dX8_comes_42 : decode cX8_comes 42 = .ok (.invokevirtual 147, 3) := by decide +kernel
theorem dX8_comes_45 : decode cX8_comes 45 = .ok (.ireturn, 1) := by decide +kernel
theorem dX8_comes_46 : decode cX8_comes 46 = .ok (.aload_n 0, 1) := by decide +kernel
theorem dX8_comes_47 : decode cX8_comes 47 = .ok (.getfield 20, 3) := by decide +kernel
theorem dX8_comes_50 : decode cX8_comes 50 = .ok (.iload_n 1, 1) := by decide +kernel
theorem dX8_comes_51 : decode cX8_comes 51 = .ok (.caload, 1) := by decide +kernel
theorem dX8_comes_52 : decode cX8_comes 52 = .ok (.bipush 121, 2) := by decide +kernel
theorem dX8_comes_54 : decode cX8_comes 54 = .ok (.if_icmp .ne 15, 3) := by decide +kernel
theorem dX8_comes_57 : decode cX8_comes 57 = .ok (.bipush 10, 2) := by decide +kernel
theorem dX8_comes_59 : decode cX8_comes 59 = .ok (.aload_n 0, 1) := by decide +kernel
theorem dX8_comes_60 : decode cX8_comes 60 = .ok (.getfield 31, 3) := by decide +kernel
theorem dX8_comes_63 : decode cX8_comes 63 = .ok (.iload_n 1, 1) := by decide +kernel
theorem dX8_comes_64 : decode cX8_comes 64 = .ok (.iaload, 1) := by decide +kernel
theorem dX8_comes_65 : decode cX8_comes 65 = .ok (.iconst 1, 1) := by decide +kernel
theorem dX8_comes_66 : decode cX8_comes 66 = .ok (.iadd, 1) := by decide +kernel
theorem dX8_comes_67 : decode cX8_comes 67 = .ok (.imul, 1) := by decide +kernel
theorem dX8_comes_68 : decode cX8_comes 68 = .ok (.ireturn, 1) := by decide +kernel
theorem dX8_comes_69 : decode cX8_comes 69 = .ok (.iconst (-1), 1) := by decide +kernel
theorem dX8_comes_70 : decode cX8_comes 70 = .ok (.istore 6, 2) := by decide +kernel
theorem dX8_comes_72 : decode cX8_comes 72 = .ok (.iconst (-1), 1) := by decide +kernel
theorem dX8_comes_73 : decode cX8_comes 73 = .ok (.istore 7, 2) := by decide +kernel
theorem dX8_comes_75 : decode cX8_comes 75 = .ok (.iconst 0, 1) := by decide +kernel
theorem dX8_comes_76 : decode cX8_comes 76 = .ok (.istore 8, 2) := by decide +kernel
theorem dX8_comes_78 : decode cX8_comes 78 = .ok (.iload 8, 2) := by decide +kernel
theorem dX8_comes_80 : decode cX8_comes 80 = .ok (.iconst 2, 1) := by decide +kernel
theorem dX8_comes_81 : decode cX8_comes 81 = .ok (.aload_n 0, 1) := by decide +kernel
theorem dX8_comes_82 : decode cX8_comes 82 = .ok (.getfield 90, 3) := by decide +kernel
theorem dX8_comes_85 : decode cX8_comes 85 = .ok (.imul, 1) := by decide +kernel
theorem dX8_comes_86 : decode cX8_comes 86 = .ok (.if_icmp .ge 138, 3) := by decide +kernel
theorem dX8_comes_89 : decode cX8_comes 89 = .ok (.aload_n 0, 1) := by decide +kernel
theorem dX8_comes_90 : decode cX8_comes 90 = .ok (.getfield 34, 3) := by decide +kernel
theorem dX8_comes_93 : decode cX8_comes 93 = .ok (.iload 8, 2) := by decide +kernel
theorem dX8_comes_95 : decode cX8_comes 95 = .ok (.iaload, 1) := by decide +kernel
theorem dX8_comes_96 : decode cX8_comes 96 = .ok (.iload_n 1, 1) := by decide +kernel
theorem dX8_comes_97 : decode cX8_comes 97 = .ok (.if_icmp .ne 121, 3) := by decide +kernel
theorem dX8_comes_100 : decode cX8_comes 100 = .ok (.aload_n 0, 1) := by decide +kernel
theorem dX8_comes_101 : decode cX8_comes 101 = .ok (.getfield 43, 3) := by decide +kernel
theorem dX8_comes_104 : decode cX8_comes 104 = .ok (.iload 8, 2) := by decide +kernel
theorem dX8_comes_106 : decode cX8_comes 106 = .ok (.iaload, 1) := by decide +kernel
theorem dX8_comes_107 : decode cX8_comes 107 = .ok (.ifCond .lt 111, 3) := by decide +kernel
theorem dX8_comes_110 : decode cX8_comes 110 = .ok (.aload_n 0, 1) := by decide +kernel
theorem dX8_comes_111 : decode cX8_comes 111 = .ok (.getfield 40, 3) := by decide +kernel
theorem dX8_comes_114 : decode cX8_comes 114 = .ok (.iload 8, 2) := by decide +kernel
theorem dX8_comes_116 : decode cX8_comes 116 = .ok (.caload, 1) := by decide +kernel
theorem dX8_comes_117 : decode cX8_comes 117 = .ok (.iload 4, 2) := by decide +kernel
theorem dX8_comes_119 : decode cX8_comes 119 = .ok (.if_icmp .eq 6, 3) := by decide +kernel
theorem dX8_comes_122 : decode cX8_comes 122 = .ok (.goto 96, 3) := by decide +kernel
theorem dX8_comes_125 : decode cX8_comes 125 = .ok (.aload_n 0, 1) := by decide +kernel
theorem dX8_comes_126 : decode cX8_comes 126 = .ok (.iload_n 1, 1) := by decide +kernel
theorem dX8_comes_127 : decode cX8_comes 127 = .ok (.aload_n 0, 1) := by decide +kernel
theorem dX8_comes_128 : decode cX8_comes 128 = .ok (.getfield 37, 3) := by decide +kernel
theorem dX8_comes_131 : decode cX8_comes 131 = .ok (.iload 8, 2) := by decide +kernel
theorem dX8_comes_133 : decode cX8_comes 133 = .ok (.iaload, 1) := by decide +kernel
theorem dX8_comes_134 : decode cX8_comes 134 = .ok (.invokevirtual 144, 3) := by decide +kernel
theorem dX8_comes_137 : decode cX8_comes 137 = .ok (.istore 9, 2) := by decide +kernel
theorem dX8_comes_139 : decode cX8_comes 139 = .ok (.iload 9, 2) := by decide +kernel
theorem dX8_comes_141 : decode cX8_comes 141 = .ok (.iload 5, 2) := by decide +kernel
theorem dX8_comes_143 : decode cX8_comes 143 = .ok (.if_icmp .lt 18, 3) := by decide +kernel
theorem dX8_comes_146 : decode cX8_comes 146 = .ok (.iload 9, 2) := by decide +kernel
theorem dX8_comes_148 : decode cX8_comes 148 = .ok (.iload 5, 2) := by decide +kernel
theorem dX8_comes_150 : decode cX8_comes 150 = .ok (.if_icmp .ne 41, 3) := by decide +kernel
theorem dX8_comes_153 : decode cX8_comes 153 = .ok (.iload 8, 2) := by decide +kernel
theorem dX8_comes_155 : decode cX8_comes 155 = .ok (.iconst 2, 1) := by decide +kernel
theorem dX8_comes_156 : decode cX8_comes 156 = .ok (.idiv, 1) := by decide +kernel
theorem dX8_comes_157 : decode cX8_comes 157 = .ok (.iload_n 2, 1) := by decide +kernel
theorem dX8_comes_158 : decode cX8_comes 158 = .ok (.if_icmp .ge 33, 3) := by decide +kernel
theorem dX8_comes_161 : decode cX8_comes 161 = .ok (.iload 6, 2) := by decide +kernel
theorem dX8_comes_163 : decode cX8_comes 163 = .ok (.iconst (-1), 1) := by decide +kernel
theorem dX8_comes_164 : decode cX8_comes 164 = .ok (.if_icmp .eq 15, 3) := by decide +kernel
theorem dX8_comes_167 : decode cX8_comes 167 = .ok (.aload_n 0, 1) := by decide +kernel
theorem dX8_comes_168 : decode cX8_comes 168 = .ok (.iload_n 1, 1) := by decide +kernel
theorem dX8_comes_169 : decode cX8_comes 169 = .ok (.iload 8, 2) := by decide +kernel
theorem dX8_comes_171 : decode cX8_comes 171 = .ok (.iload 6, 2) := by decide +kernel
theorem dX8_comes_173 : decode cX8_comes 173 = .ok (.invokevirtual 151, 3) := by decide +kernel
theorem dX8_comes_176 : decode cX8_comes 176 = .ok (.ifCond .eq 8, 3) := by decide +kernel
theorem dX8_comes_179 : decode cX8_comes 179 = .ok (.iload 8, 2) := by decide +kernel
theorem dX8_comes_181 : decode cX8_comes 181 = .ok (.goto 5, 3) := by decide +kernel
theorem dX8_comes_184 : decode cX8_comes 184 = .ok (.iload 6, 2) := by decide +kernel
theorem dX8_comes_186 : decode cX8_comes 186 = .ok (.istore 6, 2) := by decide +kernel
theorem dX8_comes_188 : decode cX8_comes 188 = .ok (.goto 30, 3) := by decide +kernel
theorem dX8_comes_191 : decode cX8_comes 191 = .ok (.iload 7, 2) := by decide +kernel
theorem dX8_comes_193 : decode cX8_comes 193 = .ok (.iconst (-1), 1) := by decide +kernel
theorem dX8_comes_194 : decode cX8_comes 194 = .ok (.if_icmp .eq 15, 3) := by decide +kernel
theorem dX8_comes_197 : decode cX8_comes 197 = .ok (.aload_n 0, 1) := by decide +kernel
theorem dX8_comes_198 : decode cX8_comes 198 = .ok (.iload_n 1, 1) := by decide +kernel
theorem dX8_comes_199 : decode cX8_comes 199 = .ok (.iload 7, 2) := by decide +kernel
theorem dX8_comes_201 : decode cX8_comes 201 = .ok (.iload 8, 2) := by decide +kernel
theorem dX8_comes_203 : decode cX8_comes 203 = .ok (.invokevirtual 151, 3) := by decide +kernel
theorem dX8_comes_206 : decode cX8_comes 206 = .ok (.ifCond .eq 8, 3) := by decide +kernel
theorem dX8_comes_209 : decode cX8_comes 209 = .ok (.iload 8, 2) := by decide +kernel
theorem dX8_comes_211 : decode cX8_comes 211 = .ok (.goto 5, 3) := by decide +kernel
theorem dX8_comes_214 : decode cX8_comes 214 = .ok (.iload 7, 2) := by decide +kernel
theorem dX8_comes_216 : decode cX8_comes 216 = .ok (.istore 7, 2) := by decide +kernel
theorem dX8_comes_218 : decode cX8_comes 218 = .ok (.iinc 8 1, 3) := by decide +kernel
theorem dX8_comes_221 : decode cX8_comes 221 = .ok (.goto (-143), 3) := by decide +kernel
theorem dX8_comes_224 : decode cX8_comes 224 = .ok (.iload 6, 2) := by decide +kernel
theorem dX8_comes_226 : decode cX8_comes 226 = .ok (.iconst (-1), 1) := by decide +kernel
theorem dX8_comes_227 : decode cX8_comes 227 = .ok (.if_icmp .ne 7, 3) := by decide +kernel
theorem dX8_comes_230 : decode cX8_comes 230 = .ok (.iconst 0, 1) := by decide +kernel
theorem dX8_comes_231 : decode cX8_comes 231 = .ok (.goto 13, 3) := by decide +kernel
theorem dX8_comes_234 : decode cX8_comes 234 = .ok (.aload_n 0, 1) := by decide +kernel
theorem dX8_comes_235 : decode cX8_comes 235 = .ok (.getfield 43, 3) := by decide +kernel
theorem dX8_comes_238 : decode cX8_comes 238 = .ok (.iload 6, 2) := by decide +kernel
theorem dX8_comes_240 : decode cX8_comes 240 = .ok (.iaload, 1) := by decide +kernel
theorem dX8_comes_241 : decode cX8_comes 241 = .ok (.bipush 10, 2) := by decide +kernel
theorem dX8_comes_243 : decode cX8_comes 243 = .ok (.idiv, 1) := by decide +kernel
theorem dX8_comes_244 : decode cX8_comes 244 = .ok (.istore 8, 2) := by decide +kernel
theorem dX8_comes_246 : decode cX8_comes 246 = .ok (.iload 4, 2) := by decide +kernel
theorem dX8_comes_248 : decode cX8_comes 248 = .ok (.bipush 108, 2) := by decide +kernel
theorem dX8_comes_250 : decode cX8_comes 250 = .ok (.if_icmp .ne 7, 3) := by decide +kernel
theorem dX8_comes_253 : decode cX8_comes 253 = .ok (.iconst 1, 1) := by decide +kernel
theorem dX8_comes_254 : decode cX8_comes 254 = .ok (.goto 4, 3) := by decide +kernel
theorem dX8_comes_257 : decode cX8_comes 257 = .ok (.iconst 2, 1) := by decide +kernel
theorem dX8_comes_258 : decode cX8_comes 258 = .ok (.istore 9, 2) := by decide +kernel
theorem dX8_comes_260 : decode cX8_comes 260 = .ok (.iload 9, 2) := by decide +kernel
theorem dX8_comes_262 : decode cX8_comes 262 = .ok (.iload 8, 2) := by decide +kernel
theorem dX8_comes_264 : decode cX8_comes 264 = .ok (.if_icmp .le 13, 3) := by decide +kernel
theorem dX8_comes_267 : decode cX8_comes 267 = .ok (.aload_n 0, 1) := by decide +kernel
theorem dX8_comes_268 : decode cX8_comes 268 = .ok (.iload_n 1, 1) := by decide +kernel
theorem dX8_comes_269 : decode cX8_comes 269 = .ok (.iload 9, 2) := by decide +kernel
theorem dX8_comes_271 : decode cX8_comes 271 = .ok (.invokevirtual 154, 3) := by decide +kernel
theorem dX8_comes_274 : decode cX8_comes 274 = .ok (.ifCond .eq 9, 3) := by decide +kernel
theorem dX8_comes_277 : decode cX8_comes 277 = .ok (.iinc 9 2, 3) := by decide +kernel
theorem dX8_comes_280 : decode cX8_comes 280 = .ok (.goto (-20), 3) := by decide +kernel
theorem dX8_comes_283 : decode cX8_comes 283 = .ok (.iload 7, 2) := by decide +kernel
theorem dX8_comes_285 : decode cX8_comes 285 = .ok (.iconst (-1), 1) := by decide +kernel
theorem dX8_comes_286 : decode cX8_comes 286 = .ok (.if_icmp .eq 18, 3) := by decide +kernel
theorem dX8_comes_289 : decode cX8_comes 289 = .ok (.iload 9, 2) := by decide +kernel
theorem dX8_comes_291 : decode cX8_comes 291 = .ok (.aload_n 0, 1) := by decide +kernel
theorem dX8_comes_292 : decode cX8_comes 292 = .ok (.getfield 43, 3) := by decide +kernel
theorem dX8_comes_295 : decode cX8_comes 295 = .ok (.iload 7, 2) := by decide +kernel
theorem dX8_comes_297 : decode cX8_comes 297 = .ok (.iaload, 1) := by decide +kernel
theorem dX8_comes_298 : decode cX8_comes 298 = .ok (.bipush 10, 2) := by decide +kernel
theorem dX8_comes_300 : decode cX8_comes 300 = .ok (.idiv, 1) := by decide +kernel
theorem dX8_comes_301 : decode cX8_comes 301 = .ok (.if_icmp .ge 9, 3) := by decide +kernel
theorem dX8_comes_304 : decode cX8_comes 304 = .ok (.bipush 10, 2) := by decide +kernel
theorem dX8_comes_306 : decode cX8_comes 306 = .ok (.iload 9, 2) := by decide +kernel
theorem dX8_comes_308 : decode cX8_comes 308 = .ok (.imul, 1) := by decide +kernel
theorem dX8_comes_309 : decode cX8_comes 309 = .ok (.ireturn, 1) := by decide +kernel
theorem dX8_comes_310 : decode cX8_comes 310 = .ok (.aload_n 0, 1) := by decide +kernel
theorem dX8_comes_311 : decode cX8_comes 311 = .ok (.iload_n 1, 1) := by decide +kernel
theorem dX8_comes_312 : decode cX8_comes 312 = .ok (.iload 6, 2) := by decide +kernel
theorem dX8_comes_314 : decode cX8_comes 314 = .ok (.iconst (-1), 1) := by decide +kernel
theorem dX8_comes_315 : decode cX8_comes 315 = .ok (.if_icmp .eq 8, 3) := by decide +kernel
theorem dX8_comes_318 : decode cX8_comes 318 = .ok (.iload 8, 2) := by decide +kernel
theorem dX8_comes_320 : decode cX8_comes 320 = .ok (.goto 13, 3) := by decide +kernel
theorem dX8_comes_323 : decode cX8_comes 323 = .ok (.aload_n 0, 1) := by decide +kernel
theorem dX8_comes_324 : decode cX8_comes 324 = .ok (.getfield 43, 3) := by decide +kernel
theorem dX8_comes_327 : decode cX8_comes 327 = .ok (.iload 7, 2) := by decide +kernel
theorem dX8_comes_329 : decode cX8_comes 329 = .ok (.iaload, 1) := by decide +kernel
theorem dX8_comes_330 : decode cX8_comes 330 = .ok (.bipush 10, 2) := by decide +kernel
theorem dX8_comes_332 : decode cX8_comes 332 = .ok (.idiv, 1) := by decide +kernel
theorem dX8_comes_333 : decode cX8_comes 333 = .ok (.iconst 1, 1) := by decide +kernel
theorem dX8_comes_334 : decode cX8_comes 334 = .ok (.invokevirtual 147, 3) := by decide +kernel
theorem dX8_comes_337 : decode cX8_comes 337 = .ok (.ireturn, 1) := by decide +kernel
set_option maxRecDepth 20000 in
theorem ggX8_isFarther_X8_from : GoodIn wsX8_isFarther wsX8_from := goodIn_ca (goodIn_r _ [6, 7, 8, 9, 10, 11, 12, 13, 14, 15, 16, 17, 18, 19, 20, 21, 22, 23, 24, 25, 26, 27, 28, 29, 30, 31, 32, 33, 34, 35, 36, 37, 38] (by decide +kernel) (by decide +kernel)) (goodIn_sub (fun _ h => List.mem_cons_of_mem _ (List.mem_append_right _ h)) (by decide +kernel))
set_option maxRecDepth 20000 in
theorem gX8_isFarther_X8_from : GoodIn wsX8_isFarther (wsV RX8 144 RX8 yX8_from wsX8_from) := goodIn_app (goodIn_of _ (by decide +kernel)) ggX8_isFarther_X8_from
theorem dX8_isFarther_0 : decode cX8_isFarther 0 = .ok (.aload_n 0, 1) := by decide +kernel
theorem dX8_isFarther_1 : decode cX8_isFarther 1 = .ok (.iload_n 1, 1) := by decide +kernel
theorem dX8_isFarther_2 : decode cX8_isFarther 2 = .ok (.aload_n 0, 1) := by decide +kernel
theorem dX8_isFarther_3 : decode cX8_isFarther 3 = .ok (.getfield 37, 3) := by decide +kernel
theorem dX8_isFarther_6 : decode cX8_isFarther 6 = .ok (.iload_n 2, 1) := by decide +kernel
theorem dX8_isFarther_7 : decode cX8_isFarther 7 = .ok (.iaload, 1) := by decide +kernel
theorem dX8_isFarther_8 : decode cX8_isFarther 8 = .ok (.invokevirtual 144, 3) := by decide +kernel
theorem dX8_isFarther_11 : decode cX8_isFarther 11 = .ok (.istore 4, 2) := by decide +kernel
theorem dX8_isFarther_13 : decode cX8_isFarther 13 = .ok (.aload_n 0, 1) := by decide +kernel
theorem dX8_isFarther_14 : decode cX8_isFarther 14 = .ok (.iload_n 1, 1) := by decide +kernel
theorem dX8_isFarther_15 : decode cX8_isFarther 15 = .ok (.aload_n 0, 1) := by decide +kernel
theorem dX8_isFarther_16 : decode cX8_isFarther 16 = .ok (.getfield 37, 3) := by decide +kernel
theorem dX8_isFarther_19 : decode cX8_isFarther 19 = .ok (.iload_n 3, 1) := by decide +kernel
theorem dX8_isFarther_20 : decode cX8_isFarther 20 = .ok (.iaload, 1) := by decide +kernel
theorem dX8_isFarther_21 : decode cX8_isFarther 21 = .ok (.invokevirtual 144, 3) := by decide +kernel
theorem dX8_isFarther_24 : decode cX8_isFarther 24 = .ok (.istore 5, 2) := by decide +kernel
theorem dX8_isFarther_26 : decode cX8_isFarther 26 = .ok (.iload 4, 2) := by decide +kernel
theorem dX8_isFarther_28 : decode cX8_isFarther 28 = .ok (.iload 5, 2) := by decide +kernel
theorem dX8_isFarther_30 : decode cX8_isFarther 30 = .ok (.if_icmp .gt 19, 3) := by decide +kernel
theorem dX8_isFarther_33 : decode cX8_isFarther 33 = .ok (.iload 4, 2) := by decide +kernel
theorem dX8_isFarther_35 : decode cX8_isFarther 35 = .ok (.iload 5, 2) := by decide +kernel
theorem dX8_isFarther_37 : decode cX8_isFarther 37 = .ok (.if_icmp .ne 16, 3) := by decide +kernel
theorem dX8_isFarther_40 : decode cX8_isFarther 40 = .ok (.iload_n 2, 1) := by decide +kernel
theorem dX8_isFarther_41 : decode cX8_isFarther 41 = .ok (.iconst 2, 1) := by decide +kernel
theorem dX8_isFarther_42 : decode cX8_isFarther 42 = .ok (.idiv, 1) := by decide +kernel
theorem dX8_isFarther_43 : decode cX8_isFarther 43 = .ok (.iload_n 3, 1) := by decide +kernel
theorem dX8_isFarther_44 : decode cX8_isFarther 44 = .ok (.iconst 2, 1) := by decide +kernel
theorem dX8_isFarther_45 : decode cX8_isFarther 45 = .ok (.idiv, 1) := by decide +kernel
theorem dX8_isFarther_46 : decode cX8_isFarther 46 = .ok (.if_icmp .le 7, 3) := by decide +kernel
theorem dX8_isFarther_49 : decode cX8_isFarther 49 = .ok (.iconst 1, 1) := by decide +kernel
theorem dX8_isFarther_50 : decode cX8_isFarther 50 = .ok (.goto 4, 3) := by decide +kernel
theorem dX8_isFarther_53 : decode cX8_isFarther 53 = .ok (.iconst 0, 1) := by decide +kernel
theorem dX8_isFarther_54 : decode cX8_isFarther 54 = .ok (.ireturn, 1) := by decide +kernel
theorem dX8_puts_0 : decode cX8_puts 0 = .ok (.aload_n 0, 1) := by decide +kernel
theorem dX8_puts_1 : decode cX8_puts 1 = .ok (.getfield 34, 3) := by decide +kernel
theorem dX8_puts_4 : decode cX8_puts 4 = .ok (.iload_n 1, 1) := by decide +kernel
theorem dX8_puts_5 : decode cX8_puts 5 = .ok (.iload_n 2, 1) := by decide +kernel
theorem dX8_puts_6 : decode cX8_puts 6 = .ok (.iastore, 1) := by decide +kernel
theorem dX8_puts_7 : decode cX8_puts 7 = .ok (.aload_n 0, 1) := by decide +kernel
theorem dX8_puts_8 : decode cX8_puts 8 = .ok (.getfield 37, 3) := by decide +kernel
theorem dX8_puts_11 : decode cX8_puts 11 = .ok (.iload_n 1, 1) := by decide +kernel
theorem dX8_puts_12 : decode cX8_puts 12 = .ok (.iload_n 3, 1) := by decide +kernel
theorem dX8_puts_13 : decode cX8_puts 13 = .ok (.iastore, 1) := by decide +kernel
theorem dX8_puts_14 : decode cX8_puts 14 = .ok (.aload_n 0, 1) := by decide +kernel
theorem dX8_puts_15 : decode cX8_puts 15 = .ok (.getfield 40, 3) := by decide +kernel
theorem dX8_puts_18 : decode cX8_puts 18 = .ok (.iload_n 1, 1) := by decide +kernel
theorem dX8_puts_19 : decode cX8_puts 19 = .ok (.iload 4, 2) := by decide +kernel
theorem dX8_puts_21 : decode cX8_puts 21 = .ok (.castore, 1) := by decide +kernel
theorem dX8_puts_22 : decode cX8_puts 22 = .ok (.aload_n 0, 1) := by decide +kernel
theorem dX8_puts_23 : decode cX8_puts 23 = .ok (.getfield 43, 3) := by decide +kernel
theorem dX8_puts_26 : decode cX8_puts 26 = .ok (.iload_n 1, 1) := by decide +kernel
theorem dX8_puts_27 : decode cX8_puts 27 = .ok (.iload 5, 2) := by decide +kernel
theorem dX8_puts_29 : decode cX8_puts 29 = .ok (.iastore, 1) := by decide +kernel
theorem dX8_puts_30 : decode cX8_puts 30 = .ok (.aload_n 0, 1) := by decide +kernel
theorem dX8_puts_31 : decode cX8_puts 31 = .ok (.getfield 31, 3) := by decide +kernel
theorem dX8_puts_34 : decode cX8_puts 34 = .ok (.iload_n 2, 1) := by decide +kernel
theorem dX8_puts_35 : decode cX8_puts 35 = .ok (.iload 5, 2) := by decide +kernel
theorem dX8_puts_37 : decode cX8_puts 37 = .ok (.bipush 10, 2) := by decide +kernel
theorem dX8_puts_39 : decode cX8_puts 39 = .ok (.idiv, 1) := by decide +kernel
theorem dX8_puts_40 : decode cX8_puts 40 = .ok (.aload_n 0, 1) := by decide +kernel
theorem dX8_puts_41 : decode cX8_puts 41 = .ok (.getfield 31, 3) := by decide +kernel
theorem dX8_puts_44 : decode cX8_puts 44 = .ok (.iload_n 2, 1) := by decide +kernel
theorem dX8_puts_45 : decode cX8_puts 45 = .ok (.iaload, 1) := by decide +kernel
theorem dX8_puts_46 : decode cX8_puts 46 = .ok (.if_icmp .le 11, 3) := by decide +kernel
theorem dX8_puts_49 : decode cX8_puts 49 = .ok (.iload 5, 2) := by decide +kernel
theorem dX8_puts_51 : decode cX8_puts 51 = .ok (.bipush 10, 2) := by decide +kernel
theorem dX8_puts_53 : decode cX8_puts 53 = .ok (.idiv, 1) := by decide +kernel
theorem dX8_puts_54 : decode cX8_puts 54 = .ok (.goto 9, 3) := by decide +kernel
theorem dX8_puts_57 : decode cX8_puts 57 = .ok (.aload_n 0, 1) := by decide +kernel
theorem dX8_puts_58 : decode cX8_puts 58 = .ok (.getfield 31, 3) := by decide +kernel
theorem dX8_puts_61 : decode cX8_puts 61 = .ok (.iload_n 2, 1) := by decide +kernel
theorem dX8_puts_62 : decode cX8_puts 62 = .ok (.iaload, 1) := by decide +kernel
theorem dX8_puts_63 : decode cX8_puts 63 = .ok (.iastore, 1) := by decide +kernel
theorem dX8_puts_64 : decode cX8_puts 64 = .ok (.return_, 1) := by decide +kernel
set_option maxRecDepth 20000 in
theorem ggX8_isPlace_X8_isBetween : GoodIn wsX8_isPlace wsX8_isBetween := goodIn_r _ [5] (by decide +kernel) (by decide +kernel)
set_option maxRecDepth 20000 in
theorem gX8_isPlace_X8_isBetween : GoodIn wsX8_isPlace (va_wsS RX8 86 yX8_isBetween wsX8_isBetween) := goodIn_app (goodIn_of _ (by decide +kernel)) ggX8_isPlace_X8_isBetween
theorem dX8_isPlace_0 : decode cX8_isPlace 0 = .ok (.iload_n 2, 1) := by decide +kernel
theorem dX8_isPlace_1 : decode cX8_isPlace 1 = .ok (.iconst 0, 1) := by decide +kernel
theorem dX8_isPlace_2 : decode cX8_isPlace 2 = .ok (.aload_n 0, 1) := by decide +kernel
theorem dX8_isPlace_3 : decode cX8_isPlace 3 = .ok (.getfield 16, 3) := by decide +kernel
theorem dX8_isPlace_6 : decode cX8_isPlace 6 = .ok (.iload_n 1, 1) := by decide +kernel
theorem dX8_isPlace_7 : decode cX8_isPlace 7 = .ok (.iaload, 1) := by decide +kernel
theorem dX8_isPlace_8 : decode cX8_isPlace 8 = .ok (.invokestatic 86, 3) := by decide +kernel
theorem dX8_isPlace_11 : decode cX8_isPlace 11 = .ok (.ifCond .eq 19, 3) := by decide +kernel
theorem dX8_isPlace_14 : decode cX8_isPlace 14 = .ok (.iload_n 3, 1) := by decide +kernel
theorem dX8_isPlace_15 : decode cX8_isPlace 15 = .ok (.bipush 108, 2) := by decide +kernel
theorem dX8_isPlace_17 : decode cX8_isPlace 17 = .ok (.if_icmp .eq 9, 3) := by decide +kernel
theorem dX8_isPlace_20 : decode cX8_isPlace 20 = .ok (.iload_n 3, 1) := by decide +kernel
theorem dX8_isPlace_21 : decode cX8_isPlace 21 = .ok (.bipush 114, 2) := by decide +kernel
theorem dX8_isPlace_23 : decode cX8_isPlace 23 = .ok (.if_icmp .ne 7, 3) := by decide +kernel
theorem dX8_isPlace_26 : decode cX8_isPlace 26 = .ok (.iconst 1, 1) := by decide +kernel
theorem dX8_isPlace_27 : decode cX8_isPlace 27 = .ok (.goto 4, 3) := by decide +kernel
theorem dX8_isPlace_30 : decode cX8_isPlace 30 = .ok (.iconst 0, 1) := by decide +kernel
theorem dX8_isPlace_31 : decode cX8_isPlace 31 = .ok (.ireturn, 1) := by decide +kernel
set_option maxRecDepth 20000 in
theorem ggX8_door_X8_isStreet : GoodIn wsX8_door wsX8_isStreet := goodIn_ca (goodIn_r _ [7, 8, 9, 10, 11, 6, 12, 58, 59, 60, 61, 62, 63, 64, 65, 66, 67, 68, 69, 70, 71, 72, 73, 74, 75, 76, 77, 78, 79, 80, 81, 82, 83, 84, 85, 86, 87] (by decide +kernel) (by decide +kernel)) (goodIn_sub (fun _ h => List.mem_cons_of_mem _ (List.mem_append_right _ h)) (by decide +kernel))
set_option maxRecDepth 20000 in
theorem gX8_door_X8_isStreet : GoodIn wsX8_door (wsV RX8 132 RX8 yX8_isStreet wsX8_isStreet) := goodIn_app (goodIn_of _ (by decide +kernel)) ggX8_door_X8_isStreet
set_option maxRecDepth 20000 in
theorem ggX8_door_X8_no : GoodIn wsX8_door wsX8_no := goodIn_r _ [16, 17, 58, 59, 60, 61, 62, 63, 64, 65, 66, 67, 68, 69, 70, 71, 72, 73, 74, 75, 76, 77, 78, 79, 80, 81, 82, 83, 84, 85, 86, 87] (by decide +kernel) (by decide +kernel)
set_option maxRecDepth 20000 in
theorem gX8_door_X8_no : GoodIn wsX8_door (wsV RX8 93 RX8 yX8_no wsX8_no) := goodIn_app (goodIn_of _ (by decide +kernel)) ggX8_door_X8_no
set_option maxRecDepth 20000 in
theorem ggX8_door_X8_isPlace : GoodIn wsX8_door wsX8_isPlace := goodIn_ca (goodIn_r _ [21, 22, 10, 11, 6, 12, 58, 59, 60, 61, 62, 63, 64, 65, 66, 67, 68, 69, 70, 71, 72, 73, 74, 75, 76, 77, 78, 79, 80, 81, 82, 83, 84, 85, 86, 87] (by decide +kernel) (by decide +kernel)) (goodIn_sub (fun _ h => List.mem_cons_of_mem _ (List.mem_append_right _ h)) (by decide +kernel))
set_option maxRecDepth 20000 in
theorem gX8_door_X8_isPlace : GoodIn wsX8_door (wsV RX8 157 RX8 yX8_isPlace wsX8_isPlace) := goodIn_app (goodIn_of _ (by decide +kernel)) ggX8_door_X8_isPlace
set_option maxRecDepth 20000 in
theorem ggX8_door_X8_comes : GoodIn wsX8_door wsX8_comes := goodIn_ca (goodIn_r _ [26, 27, 28, 1, 29, 30, 31, 32, 33, 34, 35, 6, 36, 37, 22, 38, 39, 40, 41, 42, 43, 44, 45, 46, 47, 48, 49, 50, 51, 52, 53, 58, 59, 60, 61, 62, 63, 64, 65, 66, 67, 68, 69, 70, 71, 72, 73, 74, 75, 76, 77, 78, 79, 80, 81, 82, 83, 84, 85, 86, 87] (by decide +kernel) (by decide +kernel)) (goodIn_sub (fun _ h => List.mem_cons_of_mem _ (List.mem_append_right _ h)) (by decide +kernel))
set_option maxRecDepth 20000 in
theorem gX8_door_X8_comes : GoodIn wsX8_door (wsV RX8 161 RX8 yX8_comes wsX8_comes) := goodIn_app (goodIn_of _ (by decide +kernel)) ggX8_door_X8_comes
set_option maxRecDepth 20000 in
theorem ggX8_door_X8_puts : GoodIn wsX8_door wsX8_puts := goodIn_ca (goodIn_r _ [57, 29, 32, 31, 30, 28, 58, 59, 60, 61, 62, 63, 64, 65, 66, 67, 68, 69, 70, 71, 72, 73, 74, 75, 76, 77, 78, 79, 80, 81, 82, 83, 84, 85, 86, 87] (by decide +kernel) (by decide +kernel)) (goodIn_sub (fun _ h => List.mem_cons_of_mem _ (List.mem_append_right _ h)) (by decide +kernel))
set_option maxRecDepth 20000 in
theorem gX8_door_X8_puts : GoodIn wsX8_door (wsV RX8 165 RX8 yX8_puts wsX8_puts) := goodIn_app (goodIn_of _ (by decide +kernel)) ggX8_door_X8_puts
theorem dX8_door_0 : decode cX8_door 0 = .ok (.aload_n 0, 1) := by decide +kernel
theorem dX8_door_1 : decode cX8_door 1 = .ok (.aload_n 0, 1) := by decide +kernel
theorem dX8_door_2 : decode cX8_door 2 = .ok (.iload_n 1, 1) := by decide +kernel
theorem dX8_door_3 : decode cX8_door 3 = .ok (.invokevirtual 132, 3) := by decide +kernel
theorem dX8_door_6 : decode cX8_door 6 = .ok (.iconst 1, 1) := by decide +kernel
theorem dX8_door_7 : decode cX8_door 7 = .ok (.invokevirtual 93, 3) := by decide +kernel
theorem dX8_door_10 : decode cX8_door 10 = .ok (.ifCond .ne 18, 3) := by decide +kernel
theorem dX8_door_13 : decode cX8_door 13 = .ok (.aload_n 0, 1) := by decide +kernel
theorem dX8_door_14 : decode cX8_door 14 = .ok (.aload_n 0, 1) := by decide +kernel
theorem dX8_door_15 : decode cX8_door 15 = .ok (.iload_n 1, 1) := by decide +kernel
theorem dX8_door_16 : decode cX8_door 16 = .ok (.iload_n 2, 1) := by decide +kernel
theorem dX8_door_17 : decode cX8_door 17 = .ok (.iload_n 3, 1) := by decide +kernel
theorem dX8_door_18 : decode cX8_door 18 = .ok (.invokevirtual 157, 3) := by decide +kernel
theorem dX8_door_21 : decode cX8_door 21 = .ok (.iconst 2, 1) := by decide +kernel
theorem dX8_door_22 : decode cX8_door 22 = .ok (.invokevirtual 93, 3) := by decide +kernel
theorem dX8_door_25 : decode cX8_door 25 = .ok (.ifCond .eq 5, 3) := by decide +kernel
theorem dX8_door_28 : decode cX8_door 28 = .ok (.iconst 0, 1) := by decide +kernel
theorem dX8_door_29 : decode cX8_door 29 = .ok (.ireturn, 1) := by decide +kernel
theorem dX8_door_30 : decode cX8_door 30 = .ok (.aload_n 0, 1) := by decide +kernel
theorem dX8_door_31 : decode cX8_door 31 = .ok (.iload_n 1, 1) := by decide +kernel
theorem dX8_door_32 : decode cX8_door 32 = .ok (.aload_n 0, 1) := by decide +kernel
theorem dX8_door_33 : decode cX8_door 33 = .ok (.getfield 90, 3) := by decide +kernel
theorem dX8_door_36 : decode cX8_door 36 = .ok (.iload_n 2, 1) := by decide +kernel
theorem dX8_door_37 : decode cX8_door 37 = .ok (.iload_n 3, 1) := by decide +kernel
theorem dX8_door_38 : decode cX8_door 38 = .ok (.invokevirtual 161, 3) := by decide +kernel
theorem dX8_door_41 : decode cX8_door 41 = .ok (.istore 4, 2) := by decide +kernel
theorem dX8_door_43 : decode cX8_door 43 = .ok (.aload_n 0, 1) := by decide +kernel
theorem dX8_door_44 : decode cX8_door 44 = .ok (.iload 4, 2) := by decide +kernel
theorem dX8_door_46 : decode cX8_door 46 = .ok (.ifCond .lt 7, 3) := by decide +kernel
theorem dX8_door_49 : decode cX8_door 49 = .ok (.iconst 1, 1) := by decide +kernel
theorem dX8_door_50 : decode cX8_door 50 = .ok (.goto 4, 3) := by decide +kernel
theorem dX8_door_53 : decode cX8_door 53 = .ok (.iconst 0, 1) := by decide +kernel
theorem dX8_door_54 : decode cX8_door 54 = .ok (.iconst 3, 1) := by decide +kernel
theorem dX8_door_55 : decode cX8_door 55 = .ok (.invokevirtual 93, 3) := by decide +kernel
theorem dX8_door_58 : decode cX8_door 58 = .ok (.ifCond .ne 25, 3) := by decide +kernel
theorem dX8_door_61 : decode cX8_door 61 = .ok (.aload_n 0, 1) := by decide +kernel
theorem dX8_door_62 : decode cX8_door 62 = .ok (.aload_n 0, 1) := by decide +kernel
theorem dX8_door_63 : decode cX8_door 63 = .ok (.getfield 90, 3) := by decide +kernel
theorem dX8_door_66 : decode cX8_door 66 = .ok (.bipush 40, 2) := by decide +kernel
theorem dX8_door_68 : decode cX8_door 68 = .ok (.if_icmp .ge 7, 3) := by decide +kernel
theorem dX8_door_71 : decode cX8_door 71 = .ok (.iconst 1, 1) := by decide +kernel
theorem dX8_door_72 : decode cX8_door 72 = .ok (.goto 4, 3) := by decide +kernel
theorem dX8_door_75 : decode cX8_door 75 = .ok (.iconst 0, 1) := by decide +kernel
theorem dX8_door_76 : decode cX8_door 76 = .ok (.iconst 4, 1) := by decide +kernel
theorem dX8_door_77 : decode cX8_door 77 = .ok (.invokevirtual 93, 3) := by decide +kernel
theorem dX8_door_80 : decode cX8_door 80 = .ok (.ifCond .eq 5, 3) := by decide +kernel
theorem dX8_door_83 : decode cX8_door 83 = .ok (.iconst 0, 1) := by decide +kernel
theorem dX8_door_84 : decode cX8_door 84 = .ok (.ireturn, 1) := by decide +kernel
theorem dX8_door_85 : decode cX8_door 85 = .ok (.aload_n 0, 1) := by decide +kernel
theorem dX8_door_86 : decode cX8_door 86 = .ok (.getfield 49, 3) := by decide +kernel
theorem dX8_door_89 : decode cX8_door 89 = .ok (.aload_n 0, 1) := by decide +kernel
theorem dX8_door_90 : decode cX8_door 90 = .ok (.getfield 90, 3) := by decide +kernel
theorem dX8_door_93 : decode cX8_door 93 = .ok (.iconst (-1), 1) := by decide +kernel
theorem dX8_door_94 : decode cX8_door 94 = .ok (.iastore, 1) := by decide +kernel
theorem dX8_door_95 : decode cX8_door 95 = .ok (.aload_n 0, 1) := by decide +kernel
theorem dX8_door_96 : decode cX8_door 96 = .ok (.iconst 2, 1) := by decide +kernel
theorem dX8_door_97 : decode cX8_door 97 = .ok (.aload_n 0, 1) := by decide +kernel
theorem dX8_door_98 : decode cX8_door 98 = .ok (.getfield 90, 3) := by decide +kernel
theorem dX8_door_101 : decode cX8_door 101 = .ok (.imul, 1) := by decide +kernel
theorem dX8_door_102 : decode cX8_door 102 = .ok (.iload_n 1, 1) := by decide +kernel
theorem dX8_door_103 : decode cX8_door 103 = .ok (.iload_n 2, 1) := by decide +kernel
theorem dX8_door_104 : decode cX8_door 104 = .ok (.iload_n 3, 1) := by decide +kernel
theorem dX8_door_105 : decode cX8_door 105 = .ok (.iload 4, 2) := by decide +kernel
theorem dX8_door_107 : decode cX8_door 107 = .ok (.invokevirtual 165, 3) := by decide +kernel
theorem dX8_door_110 : decode cX8_door 110 = .ok (.aload_n 0, 1) := by decide +kernel
theorem dX8_door_111 : decode cX8_door 111 = .ok (.dup, 1) := by decide +kernel
theorem dX8_door_112 : decode cX8_door 112 = .ok (.getfield 90, 3) := by decide +kernel
theorem dX8_door_115 : decode cX8_door 115 = .ok (.iconst 1, 1) := by decide +kernel
theorem dX8_door_116 : decode cX8_door 116 = .ok (.iadd, 1) := by decide +kernel
theorem dX8_door_117 : decode cX8_door 117 = .ok (.putfield 90, 3) := by decide +kernel
theorem dX8_door_120 : decode cX8_door 120 = .ok (.aload_n 0, 1) := by decide +kernel
theorem dX8_door_121 : decode cX8_door 121 = .ok (.getfield 90, 3) := by decide +kernel
theorem dX8_door_124 : decode cX8_door 124 = .ok (.iconst 1, 1) := by decide +kernel
theorem dX8_door_125 : decode cX8_door 125 = .ok (.isub, 1) := by decide +kernel
theorem dX8_door_126 : decode cX8_door 126 = .ok (.ireturn, 1) := by decide +kernel
set_option maxRecDepth 20000 in
theorem ggX8_corner_X8_isDoor : GoodIn wsX8_corner wsX8_isDoor := goodIn_r _ [7, 8, 9, 10, 6, 11, 62, 63, 64, 65, 66, 67, 68, 69, 70, 71, 72, 73, 74, 75, 76, 77, 78, 79, 80, 81, 82, 83, 84, 85, 86, 87, 88, 89, 90, 91] (by decide +kernel) (by decide +kernel)
set_option maxRecDepth 20000 in
theorem gX8_corner_X8_isDoor : GoodIn wsX8_corner (wsV RX8 169 RX8 yX8_isDoor wsX8_isDoor) := goodIn_app (goodIn_of _ (by decide +kernel)) ggX8_corner_X8_isDoor
set_option maxRecDepth 20000 in
theorem ggX8_corner_X8_isStreet : GoodIn wsX8_corner wsX8_isStreet := goodIn_ca (goodIn_r _ [15, 16, 17, 9, 10, 6, 11, 62, 63, 64, 65, 66, 67, 68, 69, 70, 71, 72, 73, 74, 75, 76, 77, 78, 79, 80, 81, 82, 83, 84, 85, 86, 87, 88, 89, 90, 91] (by decide +kernel) (by decide +kernel)) (goodIn_sub (fun _ h => List.mem_cons_of_mem _ (List.mem_append_right _ h)) (by decide +kernel))
set_option maxRecDepth 20000 in
theorem gX8_corner_X8_isStreet : GoodIn wsX8_corner (wsV RX8 132 RX8 yX8_isStreet wsX8_isStreet) := goodIn_app (goodIn_of _ (by decide +kernel)) ggX8_corner_X8_isStreet
set_option maxRecDepth 20000 in
theorem ggX8_corner_X8_no : GoodIn wsX8_corner wsX8_no := goodIn_r _ [21, 22, 62, 63, 64, 65, 66, 67, 68, 69, 70, 71, 72, 73, 74, 75, 76, 77, 78, 79, 80, 81, 82, 83, 84, 85, 86, 87, 88, 89, 90, 91] (by decide +kernel) (by decide +kernel)
set_option maxRecDepth 20000 in
theorem gX8_corner_X8_no : GoodIn wsX8_corner (wsV RX8 93 RX8 yX8_no wsX8_no) := goodIn_app (goodIn_of _ (by decide +kernel)) ggX8_corner_X8_no
set_option maxRecDepth 20000 in
theorem ggX8_corner_X8_isPlace : GoodIn wsX8_corner wsX8_isPlace := goodIn_ca (goodIn_r _ [26, 27, 9, 10, 6, 11, 62, 63, 64, 65, 66, 67, 68, 69, 70, 71, 72, 73, 74, 75, 76, 77, 78, 79, 80, 81, 82, 83, 84, 85, 86, 87, 88, 89, 90, 91] (by decide +kernel) (by decide +kernel)) (goodIn_sub (fun _ h => List.mem_cons_of_mem _ (List.mem_append_right _ h)) (by decide +kernel))
set_option maxRecDepth 20000 in
theorem gX8_corner_X8_isPlace : GoodIn wsX8_corner (wsV RX8 157 RX8 yX8_isPlace wsX8_isPlace) := goodIn_app (goodIn_of _ (by decide +kernel)) ggX8_corner_X8_isPlace
set_option maxRecDepth 20000 in
theorem ggX8_corner_X8_comes : GoodIn wsX8_corner wsX8_comes := goodIn_ca (goodIn_r _ [31, 32, 33, 8, 2, 34, 35, 36, 37, 38, 39, 6, 40, 41, 27, 42, 43, 44, 45, 46, 47, 48, 49, 50, 51, 52, 53, 54, 55, 56, 57, 62, 63, 64, 65, 66, 67, 68, 69, 70, 71, 72, 73, 74, 75, 76, 77, 78, 79, 80, 81, 82, 83, 84, 85, 86, 87, 88, 89, 90, 91] (by decide +kernel) (by decide +kernel)) (goodIn_sub (fun _ h => List.mem_cons_of_mem _ (List.mem_append_right _ h)) (by decide +kernel))
set_option maxRecDepth 20000 in
theorem gX8_corner_X8_comes : GoodIn wsX8_corner (wsV RX8 161 RX8 yX8_comes wsX8_comes) := goodIn_app (goodIn_of _ (by decide +kernel)) ggX8_corner_X8_comes
set_option maxRecDepth 20000 in
theorem ggX8_corner_X8_puts : GoodIn wsX8_corner wsX8_puts := goodIn_ca (goodIn_r _ [61, 2, 36, 35, 34, 33, 62, 63, 64, 65, 66, 67, 68, 69, 70, 71, 72, 73, 74, 75, 76, 77, 78, 79, 80, 81, 82, 83, 84, 85, 86, 87, 88, 89, 90, 91] (by decide +kernel) (by decide +kernel)) (goodIn_sub (fun _ h => List.mem_cons_of_mem _ (List.mem_append_right _ h)) (by decide +kernel))
set_option maxRecDepth 20000 in
theorem gX8_corner_X8_puts : GoodIn wsX8_corner (wsV RX8 165 RX8 yX8_puts wsX8_puts) := goodIn_app (goodIn_of _ (by decide +kernel)) ggX8_corner_X8_puts
theorem dX8_corner_0 : decode cX8_corner 0 = .ok (.aload_n 0, 1) := by decide +kernel
theorem dX8_corner_1 : decode cX8_corner 1 = .ok (.aload_n 0, 1) := by decide +kernel
theorem dX8_corner_2 : decode cX8_corner 2 = .ok (.iload_n 1, 1) := by decide +kernel
theorem dX8_corner_3 : decode cX8_corner 3 = .ok (.invokevirtual 169, 3) := by decide +kernel
theorem dX8_corner_6 : decode cX8_corner 6 = .ok (.ifCond .eq 15, 3) := by decide +kernel
theorem dX8_corner_9 : decode cX8_corner 9 = .ok (.aload_n 0, 1) := by decide +kernel
theorem dX8_corner_10 : decode cX8_corner 10 = .ok (.iload_n 2, 1) := by decide +kernel
theorem dX8_corner_11 : decode cX8_corner 11 = .ok (.invokevirtual 132, 3) := by decide +kernel
theorem dX8_corner_14 : decode cX8_corner 14 = .ok (.ifCond .eq 7, 3) := by decide +kernel
theorem dX8_corner_17 : decode cX8_corner 17 = .ok (.iconst 1, 1) := by decide +kernel
theorem dX8_corner_18 : decode cX8_corner 18 = .ok (.goto 4, 3) := by decide +kernel
theorem dX8_corner_21 : decode cX8_corner 21 = .ok (.iconst 0, 1) := by decide +kernel
theorem dX8_corner_22 : decode cX8_corner 22 = .ok (.iconst 1, 1) := by decide +kernel
theorem dX8_corner_23 : decode cX8_corner 23 = .ok (.invokevirtual 93, 3) := by decide +kernel
theorem dX8_corner_26 : decode cX8_corner 26 = .ok (.ifCond .ne 19, 3) := by decide +kernel
theorem dX8_corner_29 : decode cX8_corner 29 = .ok (.aload_n 0, 1) := by decide +kernel
theorem dX8_corner_30 : decode cX8_corner 30 = .ok (.aload_n 0, 1) := by decide +kernel
theorem dX8_corner_31 : decode cX8_corner 31 = .ok (.iload_n 2, 1) := by decide +kernel
theorem dX8_corner_32 : decode cX8_corner 32 = .ok (.iload_n 3, 1) := by decide +kernel
theorem dX8_corner_33 : decode cX8_corner 33 = .ok (.iload 4, 2) := by decide +kernel
theorem dX8_corner_35 : decode cX8_corner 35 = .ok (.invokevirtual 157, 3) := by decide +kernel
theorem dX8_corner_38 : decode cX8_corner 38 = .ok (.iconst 2, 1) := by decide +kernel
theorem dX8_corner_39 : decode cX8_corner 39 = .ok (.invokevirtual 93, 3) := by decide +kernel
theorem dX8_corner_42 : decode cX8_corner 42 = .ok (.ifCond .eq 5, 3) := by decide +kernel
theorem dX8_corner_45 : decode cX8_corner 45 = .ok (.iconst 0, 1) := by decide +kernel
theorem dX8_corner_46 : decode cX8_corner 46 = .ok (.ireturn, 1) := by decide +kernel
theorem dX8_corner_47 : decode cX8_corner 47 = .ok (.aload_n 0, 1) := by decide +kernel
theorem dX8_corner_48 : decode cX8_corner 48 = .ok (.getfield 46, 3) := by decide +kernel
theorem dX8_corner_51 : decode cX8_corner 51 = .ok (.iload_n 1, 1) := by decide +kernel
theorem dX8_corner_52 : decode cX8_corner 52 = .ok (.baload, 1) := by decide +kernel
theorem dX8_corner_53 : decode cX8_corner 53 = .ok (.ifCond .ne 33, 3) := by decide +kernel
theorem dX8_corner_56 : decode cX8_corner 56 = .ok (.aload_n 0, 1) := by decide +kernel
theorem dX8_corner_57 : decode cX8_corner 57 = .ok (.getfield 34, 3) := by decide +kernel
theorem dX8_corner_60 : decode cX8_corner 60 = .ok (.iconst 2, 1) := by decide +kernel
theorem dX8_corner_61 : decode cX8_corner 61 = .ok (.iload_n 1, 1) := by decide +kernel
theorem dX8_corner_62 : decode cX8_corner 62 = .ok (.imul, 1) := by decide +kernel
theorem dX8_corner_63 : decode cX8_corner 63 = .ok (.iconst 1, 1) := by decide +kernel
theorem dX8_corner_64 : decode cX8_corner 64 = .ok (.iadd, 1) := by decide +kernel
theorem dX8_corner_65 : decode cX8_corner 65 = .ok (.iaload, 1) := by decide +kernel
theorem dX8_corner_66 : decode cX8_corner 66 = .ok (.iconst (-1), 1) := by decide +kernel
theorem dX8_corner_67 : decode cX8_corner 67 = .ok (.if_icmp .ne 19, 3) := by decide +kernel
theorem dX8_corner_70 : decode cX8_corner 70 = .ok (.aload_n 0, 1) := by decide +kernel
theorem dX8_corner_71 : decode cX8_corner 71 = .ok (.getfield 34, 3) := by decide +kernel
theorem dX8_corner_74 : decode cX8_corner 74 = .ok (.iconst 2, 1) := by decide +kernel
theorem dX8_corner_75 : decode cX8_corner 75 = .ok (.iload_n 1, 1) := by decide +kernel
theorem dX8_corner_76 : decode cX8_corner 76 = .ok (.imul, 1) := by decide +kernel
theorem dX8_corner_77 : decode cX8_corner 77 = .ok (.iaload, 1) := by decide +kernel
theorem dX8_corner_78 : decode cX8_corner 78 = .ok (.iload_n 2, 1) := by decide +kernel
theorem dX8_corner_79 : decode cX8_corner 79 = .ok (.if_icmp .eq 7, 3) := by decide +kernel
theorem dX8_corner_82 : decode cX8_corner 82 = .ok (.iconst 1, 1) := by decide +kernel
theorem dX8_corner_83 : decode cX8_corner 83 = .ok (.goto 4, 3) := by decide +kernel
theorem dX8_corner_86 : decode cX8_corner 86 = .ok (.iconst 0, 1) := by decide +kernel
theorem dX8_corner_87 : decode cX8_corner 87 = .ok (.istore 5, 2) := by decide +kernel
theorem dX8_corner_89 : decode cX8_corner 89 = .ok (.iload 5, 2) := by decide +kernel
theorem dX8_corner_91 : decode cX8_corner 91 = .ok (.ifCond .eq 15, 3) := by decide +kernel
theorem dX8_corner_94 : decode cX8_corner 94 = .ok (.aload_n 0, 1) := by decide +kernel
theorem dX8_corner_95 : decode cX8_corner 95 = .ok (.iload_n 2, 1) := by decide +kernel
theorem dX8_corner_96 : decode cX8_corner 96 = .ok (.iload_n 1, 1) := by decide +kernel
theorem dX8_corner_97 : decode cX8_corner 97 = .ok (.iload_n 3, 1) := by decide +kernel
theorem dX8_corner_98 : decode cX8_corner 98 = .ok (.iload 4, 2) := by decide +kernel
theorem dX8_corner_100 : decode cX8_corner 100 = .ok (.invokevirtual 161, 3) := by decide +kernel
theorem dX8_corner_103 : decode cX8_corner 103 = .ok (.goto 4, 3) := by decide +kernel
theorem dX8_corner_106 : decode cX8_corner 106 = .ok (.iconst (-1), 1) := by decide +kernel
theorem dX8_corner_107 : decode cX8_corner 107 = .ok (.istore 6, 2) := by decide +kernel
theorem dX8_corner_109 : decode cX8_corner 109 = .ok (.aload_n 0, 1) := by decide +kernel
theorem dX8_corner_110 : decode cX8_corner 110 = .ok (.iload 6, 2) := by decide +kernel
theorem dX8_corner_112 : decode cX8_corner 112 = .ok (.ifCond .lt 7, 3) := by decide +kernel
theorem dX8_corner_115 : decode cX8_corner 115 = .ok (.iconst 1, 1) := by decide +kernel
theorem dX8_corner_116 : decode cX8_corner 116 = .ok (.goto 4, 3) := by decide +kernel
theorem dX8_corner_119 : decode cX8_corner 119 = .ok (.iconst 0, 1) := by decide +kernel
theorem dX8_corner_120 : decode cX8_corner 120 = .ok (.iconst 3, 1) := by decide +kernel
theorem dX8_corner_121 : decode cX8_corner 121 = .ok (.invokevirtual 93, 3) := by decide +kernel
theorem dX8_corner_124 : decode cX8_corner 124 = .ok (.ifCond .eq 5, 3) := by decide +kernel
theorem dX8_corner_127 : decode cX8_corner 127 = .ok (.iconst 0, 1) := by decide +kernel
theorem dX8_corner_128 : decode cX8_corner 128 = .ok (.ireturn, 1) := by decide +kernel
theorem dX8_corner_129 : decode cX8_corner 129 = .ok (.aload_n 0, 1) := by decide +kernel
theorem dX8_corner_130 : decode cX8_corner 130 = .ok (.iconst 2, 1) := by decide +kernel
theorem dX8_corner_131 : decode cX8_corner 131 = .ok (.iload_n 1, 1) := by decide +kernel
theorem dX8_corner_132 : decode cX8_corner 132 = .ok (.imul, 1) := by decide +kernel
theorem dX8_corner_133 : decode cX8_corner 133 = .ok (.iconst 1, 1) := by decide +kernel
theorem dX8_corner_134 : decode cX8_corner 134 = .ok (.iadd, 1) := by decide +kernel
theorem dX8_corner_135 : decode cX8_corner 135 = .ok (.iload_n 2, 1) := by decide +kernel
theorem dX8_corner_136 : decode cX8_corner 136 = .ok (.iload_n 3, 1) := by decide +kernel
theorem dX8_corner_137 : decode cX8_corner 137 = .ok (.iload 4, 2) := by decide +kernel
theorem dX8_corner_139 : decode cX8_corner 139 = .ok (.iload 6, 2) := by decide +kernel
theorem dX8_corner_141 : decode cX8_corner 141 = .ok (.invokevirtual 165, 3) := by decide +kernel
theorem dX8_corner_144 : decode cX8_corner 144 = .ok (.iload 6, 2) := by decide +kernel
theorem dX8_corner_146 : decode cX8_corner 146 = .ok (.ireturn, 1) := by decide +kernel
set_option maxRecDepth 20000 in
theorem ggX8_leaves_X8_old : GoodIn wsX8_leaves wsX8_old := goodIn_ca (goodIn_r _ [9, 10, 11, 12, 13, 14, 15, 16, 17, 18, 19, 20, 21, 22, 23, 24, 25, 26, 27, 28, 29, 30, 31, 32, 33, 34, 35, 36, 37, 38, 39, 40, 41, 42, 43, 44, 45] (by decide +kernel) (by decide +kernel)) (goodIn_sub (fun _ h => List.mem_cons_of_mem _ (List.mem_append_right _ h)) (by decide +kernel))
set_option maxRecDepth 20000 in
theorem gX8_leaves_X8_old : GoodIn wsX8_leaves (wsV RX8 128 RX8 yX8_old wsX8_old) := goodIn_app (goodIn_of _ (by decide +kernel)) ggX8_leaves_X8_old
theorem dX8_leaves_0 : decode cX8_leaves 0 = .ok (.aload_n 0, 1) := by decide +kernel
theorem dX8_leaves_1 : decode cX8_leaves 1 = .ok (.getfield 34, 3) := by decide +kernel
theorem dX8_leaves_4 : decode cX8_leaves 4 = .ok (.iload_n 1, 1) := by decide +kernel
theorem dX8_leaves_5 : decode cX8_leaves 5 = .ok (.iaload, 1) := by decide +kernel
theorem dX8_leaves_6 : decode cX8_leaves 6 = .ok (.istore_n 2, 1) := by decide +kernel
theorem dX8_leaves_7 : decode cX8_leaves 7 = .ok (.iload_n 2, 1) := by decide +kernel
theorem dX8_leaves_8 : decode cX8_leaves 8 = .ok (.iconst (-1), 1) := by decide +kernel
theorem dX8_leaves_9 : decode cX8_leaves 9 = .ok (.if_icmp .ne 4, 3) := by decide +kernel
theorem dX8_leaves_12 : decode cX8_leaves 12 = .ok (.return_, 1) := by decide +kernel
theorem dX8_leaves_13 : decode cX8_leaves 13 = .ok (.aload_n 0, 1) := by decide +kernel
theorem dX8_leaves_14 : decode cX8_leaves 14 = .ok (.aload_n 0, 1) := by decide +kernel
theorem dX8_leaves_15 : decode cX8_leaves 15 = .ok (.getfield 7, 3) := by decide +kernel
theorem dX8_leaves_18 : decode cX8_leaves 18 = .ok (.iload_n 2, 1) := by decide +kernel
theorem dX8_leaves_19 : decode cX8_leaves 19 = .ok (.laload, 1) := by decide +kernel
theorem dX8_leaves_20 : decode cX8_leaves 20 = .ok (.aload_n 0, 1) := by decide +kernel
theorem dX8_leaves_21 : decode cX8_leaves 21 = .ok (.getfield 43, 3) := by decide +kernel
theorem dX8_leaves_24 : decode cX8_leaves 24 = .ok (.iload_n 1, 1) := by decide +kernel
theorem dX8_leaves_25 : decode cX8_leaves 25 = .ok (.iaload, 1) := by decide +kernel
theorem dX8_leaves_26 : decode cX8_leaves 26 = .ok (.iload_n 1, 1) := by decide +kernel
theorem dX8_leaves_27 : decode cX8_leaves 27 = .ok (.iconst 2, 1) := by decide +kernel
theorem dX8_leaves_28 : decode cX8_leaves 28 = .ok (.idiv, 1) := by decide +kernel
theorem dX8_leaves_29 : decode cX8_leaves 29 = .ok (.invokevirtual 128, 3) := by decide +kernel
theorem dX8_leaves_32 : decode cX8_leaves 32 = .ok (.aload_n 0, 1) := by decide +kernel
theorem dX8_leaves_33 : decode cX8_leaves 33 = .ok (.aload_n 0, 1) := by decide +kernel
theorem dX8_leaves_34 : decode cX8_leaves 34 = .ok (.getfield 13, 3) := by decide +kernel
theorem dX8_leaves_37 : decode cX8_leaves 37 = .ok (.iload_n 2, 1) := by decide +kernel
theorem dX8_leaves_38 : decode cX8_leaves 38 = .ok (.laload, 1) := by decide +kernel
theorem dX8_leaves_39 : decode cX8_leaves 39 = .ok (.aload_n 0, 1) := by decide +kernel
theorem dX8_leaves_40 : decode cX8_leaves 40 = .ok (.getfield 43, 3) := by decide +kernel
theorem dX8_leaves_43 : decode cX8_leaves 43 = .ok (.iload_n 1, 1) := by decide +kernel
theorem dX8_leaves_44 : decode cX8_leaves 44 = .ok (.iaload, 1) := by decide +kernel
theorem dX8_leaves_45 : decode cX8_leaves 45 = .ok (.iload_n 1, 1) := by decide +kernel
theorem dX8_leaves_46 : decode cX8_leaves 46 = .ok (.iconst 2, 1) := by decide +kernel
theorem dX8_leaves_47 : decode cX8_leaves 47 = .ok (.idiv, 1) := by decide +kernel
theorem dX8_leaves_48 : decode cX8_leaves 48 = .ok (.invokevirtual 128, 3) := by decide +kernel
theorem dX8_leaves_51 : decode cX8_leaves 51 = .ok (.aload_n 0, 1) := by decide +kernel
theorem dX8_leaves_52 : decode cX8_leaves 52 = .ok (.getfield 34, 3) := by decide +kernel
theorem dX8_leaves_55 : decode cX8_leaves 55 = .ok (.iload_n 1, 1) := by decide +kernel
theorem dX8_leaves_56 : decode cX8_leaves 56 = .ok (.iconst (-1), 1) := by decide +kernel
theorem dX8_leaves_57 : decode cX8_leaves 57 = .ok (.iastore, 1) := by decide +kernel
theorem dX8_leaves_58 : decode cX8_leaves 58 = .ok (.aload_n 0, 1) := by decide +kernel
theorem dX8_leaves_59 : decode cX8_leaves 59 = .ok (.getfield 43, 3) := by decide +kernel
theorem dX8_leaves_62 : decode cX8_leaves 62 = .ok (.iload_n 1, 1) := by decide +kernel
theorem dX8_leaves_63 : decode cX8_leaves 63 = .ok (.iconst (-1), 1) := by decide +kernel
theorem dX8_leaves_64 : decode cX8_leaves 64 = .ok (.iastore, 1) := by decide +kernel
theorem dX8_leaves_65 : decode cX8_leaves 65 = .ok (.return_, 1) := by decide +kernel
set_option maxRecDepth 20000 in
theorem ggX8_goes_X8_leaves : GoodIn wsX8_goes wsX8_leaves := goodIn_ca (goodIn_r _ [7, 8, 9, 10, 11, 12, 13, 14, 6, 15, 16, 17, 18, 19, 20, 21, 22, 23, 24, 25, 26, 27, 28, 29, 30, 31, 32, 33, 34, 35, 36, 37, 38, 39, 40, 41, 42, 43, 44, 45, 46, 47, 48, 49, 50, 51] (by decide +kernel) (by decide +kernel)) (goodIn_sub (fun _ h => List.mem_cons_of_mem _ (List.mem_append_right _ h)) (by decide +kernel))
set_option maxRecDepth 20000 in
theorem gX8_goes_X8_leaves : GoodIn wsX8_goes (wsV RX8 172 RX8 yX8_leaves wsX8_leaves) := goodIn_app (goodIn_of _ (by decide +kernel)) ggX8_goes_X8_leaves
theorem dX8_goes_0 : decode cX8_goes 0 = .ok (.aload_n 0, 1) := by decide +kernel
theorem dX8_goes_1 : decode cX8_goes 1 = .ok (.iconst 2, 1) := by decide +kernel
theorem dX8_goes_2 : decode cX8_goes 2 = .ok (.iload_n 1, 1) := by decide +kernel
theorem dX8_goes_3 : decode cX8_goes 3 = .ok (.imul, 1) := by decide +kernel
theorem dX8_goes_4 : decode cX8_goes 4 = .ok (.invokevirtual 172, 3) := by decide +kernel
theorem dX8_goes_7 : decode cX8_goes 7 = .ok (.aload_n 0, 1) := by decide +kernel
theorem dX8_goes_8 : decode cX8_goes 8 = .ok (.iconst 2, 1) := by decide +kernel
theorem dX8_goes_9 : decode cX8_goes 9 = .ok (.iload_n 1, 1) := by decide +kernel
theorem dX8_goes_10 : decode cX8_goes 10 = .ok (.imul, 1) := by decide +kernel
theorem dX8_goes_11 : decode cX8_goes 11 = .ok (.iconst 1, 1) := by decide +kernel
theorem dX8_goes_12 : decode cX8_goes 12 = .ok (.iadd, 1) := by decide +kernel
theorem dX8_goes_13 : decode cX8_goes 13 = .ok (.invokevirtual 172, 3) := by decide +kernel
theorem dX8_goes_16 : decode cX8_goes 16 = .ok (.aload_n 0, 1) := by decide +kernel
theorem dX8_goes_17 : decode cX8_goes 17 = .ok (.getfield 46, 3) := by decide +kernel
theorem dX8_goes_20 : decode cX8_goes 20 = .ok (.iload_n 1, 1) := by decide +kernel
theorem dX8_goes_21 : decode cX8_goes 21 = .ok (.iconst 1, 1) := by decide +kernel
theorem dX8_goes_22 : decode cX8_goes 22 = .ok (.bastore, 1) := by decide +kernel
theorem dX8_goes_23 : decode cX8_goes 23 = .ok (.aload_n 0, 1) := by decide +kernel
theorem dX8_goes_24 : decode cX8_goes 24 = .ok (.getfield 49, 3) := by decide +kernel
theorem dX8_goes_27 : decode cX8_goes 27 = .ok (.iload_n 1, 1) := by decide +kernel
theorem dX8_goes_28 : decode cX8_goes 28 = .ok (.iload_n 2, 1) := by decide +kernel
theorem dX8_goes_29 : decode cX8_goes 29 = .ok (.iastore, 1) := by decide +kernel
theorem dX8_goes_30 : decode cX8_goes 30 = .ok (.return_, 1) := by decide +kernel
theorem dX8_endOf_0 : decode cX8_endOf 0 = .ok (.iload_n 1, 1) := by decide +kernel
theorem dX8_endOf_1 : decode cX8_endOf 1 = .ok (.istore_n 2, 1) := by decide +kernel
theorem dX8_endOf_2 : decode cX8_endOf 2 = .ok (.iload_n 2, 1) := by decide +kernel
theorem dX8_endOf_3 : decode cX8_endOf 3 = .ok (.ifCond .lt 22, 3) := by decide +kernel
theorem dX8_endOf_6 : decode cX8_endOf 6 = .ok (.aload_n 0, 1) := by decide +kernel
theorem dX8_endOf_7 : decode cX8_endOf 7 = .ok (.getfield 46, 3) := by decide +kernel
theorem dX8_endOf_10 : decode cX8_endOf 10 = .ok (.iload_n 2, 1) := by decide +kernel
theorem dX8_endOf_11 : decode cX8_endOf 11 = .ok (.baload, 1) := by decide +kernel
theorem dX8_endOf_12 : decode cX8_endOf 12 = .ok (.ifCond .eq 13, 3) := by decide +kernel
theorem dX8_endOf_15 : decode cX8_endOf 15 = .ok (.aload_n 0, 1) := by decide +kernel
theorem dX8_endOf_16 : decode cX8_endOf 16 = .ok (.getfield 49, 3) := by decide +kernel
theorem dX8_endOf_19 : decode cX8_endOf 19 = .ok (.iload_n 2, 1) := by decide +kernel
theorem dX8_endOf_20 : decode cX8_endOf 20 = .ok (.iaload, 1) := by decide +kernel
theorem dX8_endOf_21 : decode cX8_endOf 21 = .ok (.istore_n 2, 1) := by decide +kernel
theorem dX8_endOf_22 : decode cX8_endOf 22 = .ok (.goto (-20), 3) := by decide +kernel
theorem dX8_endOf_25 : decode cX8_endOf 25 = .ok (.iload_n 2, 1) := by decide +kernel
theorem dX8_endOf_26 : decode cX8_endOf 26 = .ok (.ireturn, 1) := by decide +kernel
set_option maxRecDepth 20000 in
theorem ggX8_merge_X8_isDoor : GoodIn wsX8_merge wsX8_isDoor := goodIn_r _ [7, 2, 8, 9, 6, 10, 43, 44, 45, 46, 47, 48, 49, 50, 51, 52, 53, 54, 55, 56, 57, 58, 59, 60, 61, 62, 63, 64, 65, 66, 67, 68, 69, 70, 71, 72] (by decide +kernel) (by decide +kernel)
set_option maxRecDepth 20000 in
theorem gX8_merge_X8_isDoor : GoodIn wsX8_merge (wsV RX8 169 RX8 yX8_isDoor wsX8_isDoor) := goodIn_app (goodIn_of _ (by decide +kernel)) ggX8_merge_X8_isDoor
set_option maxRecDepth 20000 in
theorem ggX8_merge_X8_no : GoodIn wsX8_merge wsX8_no := goodIn_r _ [14, 15, 43, 44, 45, 46, 47, 48, 49, 50, 51, 52, 53, 54, 55, 56, 57, 58, 59, 60, 61, 62, 63, 64, 65, 66, 67, 68, 69, 70, 71, 72] (by decide +kernel) (by decide +kernel)
set_option maxRecDepth 20000 in
theorem gX8_merge_X8_no : GoodIn wsX8_merge (wsV RX8 93 RX8 yX8_no wsX8_no) := goodIn_app (goodIn_of _ (by decide +kernel)) ggX8_merge_X8_no
set_option maxRecDepth 20000 in
theorem ggX8_merge_X8_goes : GoodIn wsX8_merge wsX8_goes := goodIn_ca (goodIn_r _ [19, 1, 20, 21, 22, 23, 6, 24, 25, 26, 27, 28, 29, 30, 31, 32, 33, 34, 35, 36, 37, 38, 43, 44, 45, 46, 47, 48, 49, 50, 51, 52, 53, 54, 55, 56, 57, 58, 59, 60, 61, 62, 63, 64, 65, 66, 67, 68, 69, 70, 71, 72] (by decide +kernel) (by decide +kernel)) (goodIn_sub (fun _ h => List.mem_cons_of_mem _ (List.mem_append_right _ h)) (by decide +kernel))
set_option maxRecDepth 20000 in
theorem gX8_merge_X8_goes : GoodIn wsX8_merge (wsV RX8 176 RX8 yX8_goes wsX8_goes) := goodIn_app (goodIn_of _ (by decide +kernel)) ggX8_merge_X8_goes
set_option maxRecDepth 20000 in
theorem ggX8_merge_X8_endOf : GoodIn wsX8_merge wsX8_endOf := goodIn_ca (goodIn_r _ [42, 1, 20, 43, 44, 45, 46, 47, 48, 49, 50, 51, 52, 53, 54, 55, 56, 57, 58, 59, 60, 61, 62, 63, 64, 65, 66, 67, 68, 69, 70, 71, 72] (by decide +kernel) (by decide +kernel)) (goodIn_sub (fun _ h => List.mem_cons_of_mem _ (List.mem_append_right _ h)) (by decide +kernel))
set_option maxRecDepth 20000 in
theorem gX8_merge_X8_endOf : GoodIn wsX8_merge (wsV RX8 180 RX8 yX8_endOf wsX8_endOf) := goodIn_app (goodIn_of _ (by decide +kernel)) ggX8_merge_X8_endOf
theorem dX8_merge_0 : decode cX8_merge 0 = .ok (.aload_n 0, 1) := by decide +kernel
theorem dX8_merge_1 : decode cX8_merge 1 = .ok (.aload_n 0, 1) := by decide +kernel
theorem dX8_merge_2 : decode cX8_merge 2 = .ok (.iload_n 1, 1) := by decide +kernel
theorem dX8_merge_3 : decode cX8_merge 3 = .ok (.invokevirtual 169, 3) := by decide +kernel
theorem dX8_merge_6 : decode cX8_merge 6 = .ok (.ifCond .eq 15, 3) := by decide +kernel
theorem dX8_merge_9 : decode cX8_merge 9 = .ok (.aload_n 0, 1) := by decide +kernel
theorem dX8_merge_10 : decode cX8_merge 10 = .ok (.iload_n 2, 1) := by decide +kernel
theorem dX8_merge_11 : decode cX8_merge 11 = .ok (.invokevirtual 169, 3) := by decide +kernel
theorem dX8_merge_14 : decode cX8_merge 14 = .ok (.ifCond .eq 7, 3) := by decide +kernel
theorem dX8_merge_17 : decode cX8_merge 17 = .ok (.iconst 1, 1) := by decide +kernel
theorem dX8_merge_18 : decode cX8_merge 18 = .ok (.goto 4, 3) := by decide +kernel
theorem dX8_merge_21 : decode cX8_merge 21 = .ok (.iconst 0, 1) := by decide +kernel
theorem dX8_merge_22 : decode cX8_merge 22 = .ok (.iconst 1, 1) := by decide +kernel
theorem dX8_merge_23 : decode cX8_merge 23 = .ok (.invokevirtual 93, 3) := by decide +kernel
theorem dX8_merge_26 : decode cX8_merge 26 = .ok (.ifCond .ne 52, 3) := by decide +kernel
theorem dX8_merge_29 : decode cX8_merge 29 = .ok (.aload_n 0, 1) := by decide +kernel
theorem dX8_merge_30 : decode cX8_merge 30 = .ok (.iload_n 1, 1) := by decide +kernel
theorem dX8_merge_31 : decode cX8_merge 31 = .ok (.iload_n 2, 1) := by decide +kernel
theorem dX8_merge_32 : decode cX8_merge 32 = .ok (.if_icmp .eq 7, 3) := by decide +kernel
theorem dX8_merge_35 : decode cX8_merge 35 = .ok (.iconst 1, 1) := by decide +kernel
theorem dX8_merge_36 : decode cX8_merge 36 = .ok (.goto 4, 3) := by decide +kernel
theorem dX8_merge_39 : decode cX8_merge 39 = .ok (.iconst 0, 1) := by decide +kernel
theorem dX8_merge_40 : decode cX8_merge 40 = .ok (.iconst 2, 1) := by decide +kernel
theorem dX8_merge_41 : decode cX8_merge 41 = .ok (.invokevirtual 93, 3) := by decide +kernel
theorem dX8_merge_44 : decode cX8_merge 44 = .ok (.ifCond .ne 34, 3) := by decide +kernel
theorem dX8_merge_47 : decode cX8_merge 47 = .ok (.aload_n 0, 1) := by decide +kernel
theorem dX8_merge_48 : decode cX8_merge 48 = .ok (.aload_n 0, 1) := by decide +kernel
theorem dX8_merge_49 : decode cX8_merge 49 = .ok (.getfield 46, 3) := by decide +kernel
theorem dX8_merge_52 : decode cX8_merge 52 = .ok (.iload_n 1, 1) := by decide +kernel
theorem dX8_merge_53 : decode cX8_merge 53 = .ok (.baload, 1) := by decide +kernel
theorem dX8_merge_54 : decode cX8_merge 54 = .ok (.ifCond .ne 16, 3) := by decide +kernel
theorem dX8_merge_57 : decode cX8_merge 57 = .ok (.aload_n 0, 1) := by decide +kernel
theorem dX8_merge_58 : decode cX8_merge 58 = .ok (.getfield 46, 3) := by decide +kernel
theorem dX8_merge_61 : decode cX8_merge 61 = .ok (.iload_n 2, 1) := by decide +kernel
theorem dX8_merge_62 : decode cX8_merge 62 = .ok (.baload, 1) := by decide +kernel
theorem dX8_merge_63 : decode cX8_merge 63 = .ok (.ifCond .ne 7, 3) := by decide +kernel
theorem dX8_merge_66 : decode cX8_merge 66 = .ok (.iconst 1, 1) := by decide +kernel
theorem dX8_merge_67 : decode cX8_merge 67 = .ok (.goto 4, 3) := by decide +kernel
theorem dX8_merge_70 : decode cX8_merge 70 = .ok (.iconst 0, 1) := by decide +kernel
theorem dX8_merge_71 : decode cX8_merge 71 = .ok (.iconst 3, 1) := by decide +kernel
theorem dX8_merge_72 : decode cX8_merge 72 = .ok (.invokevirtual 93, 3) := by decide +kernel
theorem dX8_merge_75 : decode cX8_merge 75 = .ok (.ifCond .eq 5, 3) := by decide +kernel
theorem dX8_merge_78 : decode cX8_merge 78 = .ok (.iconst 0, 1) := by decide +kernel
theorem dX8_merge_79 : decode cX8_merge 79 = .ok (.ireturn, 1) := by decide +kernel
theorem dX8_merge_80 : decode cX8_merge 80 = .ok (.aload_n 0, 1) := by decide +kernel
theorem dX8_merge_81 : decode cX8_merge 81 = .ok (.iload_n 1, 1) := by decide +kernel
theorem dX8_merge_82 : decode cX8_merge 82 = .ok (.iload_n 2, 1) := by decide +kernel
theorem dX8_merge_83 : decode cX8_merge 83 = .ok (.invokevirtual 176, 3) := by decide +kernel
theorem dX8_merge_86 : decode cX8_merge 86 = .ok (.iconst 0, 1) := by decide +kernel
theorem dX8_merge_87 : decode cX8_merge 87 = .ok (.istore_n 3, 1) := by decide +kernel
theorem dX8_merge_88 : decode cX8_merge 88 = .ok (.iconst 0, 1) := by decide +kernel
theorem dX8_merge_89 : decode cX8_merge 89 = .ok (.istore 4, 2) := by decide +kernel
theorem dX8_merge_91 : decode cX8_merge 91 = .ok (.iload 4, 2) := by decide +kernel
theorem dX8_merge_93 : decode cX8_merge 93 = .ok (.aload_n 0, 1) := by decide +kernel
theorem dX8_merge_94 : decode cX8_merge 94 = .ok (.getfield 90, 3) := by decide +kernel
theorem dX8_merge_97 : decode cX8_merge 97 = .ok (.if_icmp .ge 33, 3) := by decide +kernel
theorem dX8_merge_100 : decode cX8_merge 100 = .ok (.iload_n 3, 1) := by decide +kernel
theorem dX8_merge_101 : decode cX8_merge 101 = .ok (.iload 4, 2) := by decide +kernel
theorem dX8_merge_103 : decode cX8_merge 103 = .ok (.iload_n 2, 1) := by decide +kernel
theorem dX8_merge_104 : decode cX8_merge 104 = .ok (.if_icmp .eq 17, 3) := by decide +kernel
theorem dX8_merge_107 : decode cX8_merge 107 = .ok (.aload_n 0, 1) := by decide +kernel
theorem dX8_merge_108 : decode cX8_merge 108 = .ok (.iload 4, 2) := by decide +kernel
theorem dX8_merge_110 : decode cX8_merge 110 = .ok (.invokevirtual 180, 3) := by decide +kernel
theorem dX8_merge_113 : decode cX8_merge 113 = .ok (.iload_n 2, 1) := by decide +kernel
theorem dX8_merge_114 : decode cX8_merge 114 = .ok (.if_icmp .ne 7, 3) := by decide +kernel
theorem dX8_merge_117 : decode cX8_merge 117 = .ok (.iconst 1, 1) := by decide +kernel
theorem dX8_merge_118 : decode cX8_merge 118 = .ok (.goto 4, 3) := by decide +kernel
theorem dX8_merge_121 : decode cX8_merge 121 = .ok (.iconst 0, 1) := by decide +kernel
theorem dX8_merge_122 : decode cX8_merge 122 = .ok (.iadd, 1) := by decide +kernel
theorem dX8_merge_123 : decode cX8_merge 123 = .ok (.istore_n 3, 1) := by decide +kernel
theorem dX8_merge_124 : decode cX8_merge 124 = .ok (.iinc 4 1, 3) := by decide +kernel
theorem dX8_merge_127 : decode cX8_merge 127 = .ok (.goto (-36), 3) := by decide +kernel
theorem dX8_merge_130 : decode cX8_merge 130 = .ok (.iload_n 3, 1) := by decide +kernel
theorem dX8_merge_131 : decode cX8_merge 131 = .ok (.ireturn, 1) := by decide +kernel
set_option maxRecDepth 20000 in
theorem ggX8_remove_X8_isDoor : GoodIn wsX8_remove wsX8_isDoor := goodIn_r _ [7, 8, 9, 10, 6, 11, 39, 40, 41, 42, 43, 44, 45, 46, 47, 48, 49, 50, 51, 52, 53, 54, 55, 56, 57, 58, 59, 60, 61, 62, 63, 64, 65, 66, 67, 68] (by decide +kernel) (by decide +kernel)
set_option maxRecDepth 20000 in
theorem gX8_remove_X8_isDoor : GoodIn wsX8_remove (wsV RX8 169 RX8 yX8_isDoor wsX8_isDoor) := goodIn_app (goodIn_of _ (by decide +kernel)) ggX8_remove_X8_isDoor
set_option maxRecDepth 20000 in
theorem ggX8_remove_X8_no : GoodIn wsX8_remove wsX8_no := goodIn_r _ [15, 16, 39, 40, 41, 42, 43, 44, 45, 46, 47, 48, 49, 50, 51, 52, 53, 54, 55, 56, 57, 58, 59, 60, 61, 62, 63, 64, 65, 66, 67, 68] (by decide +kernel) (by decide +kernel)
set_option maxRecDepth 20000 in
theorem gX8_remove_X8_no : GoodIn wsX8_remove (wsV RX8 93 RX8 yX8_no wsX8_no) := goodIn_app (goodIn_of _ (by decide +kernel)) ggX8_remove_X8_no
set_option maxRecDepth 20000 in
theorem ggX8_remove_X8_goes : GoodIn wsX8_remove wsX8_goes := goodIn_ca (goodIn_r _ [20, 1, 21, 22, 23, 24, 6, 25, 26, 27, 28, 29, 30, 31, 32, 33, 2, 34, 35, 36, 37, 38, 39, 40, 41, 42, 43, 44, 45, 46, 47, 48, 49, 50, 51, 52, 53, 54, 55, 56, 57, 58, 59, 60, 61, 62, 63, 64, 65, 66, 67, 68] (by decide +kernel) (by decide +kernel)) (goodIn_sub (fun _ h => List.mem_cons_of_mem _ (List.mem_append_right _ h)) (by decide +kernel))
set_option maxRecDepth 20000 in
theorem gX8_remove_X8_goes : GoodIn wsX8_remove (wsV RX8 176 RX8 yX8_goes wsX8_goes) := goodIn_app (goodIn_of _ (by decide +kernel)) ggX8_remove_X8_goes
theorem dX8_remove_0 : decode cX8_remove 0 = .ok (.aload_n 0, 1) := by decide +kernel
theorem dX8_remove_1 : decode cX8_remove 1 = .ok (.aload_n 0, 1) := by decide +kernel
theorem dX8_remove_2 : decode cX8_remove 2 = .ok (.iload_n 1, 1) := by decide +kernel
theorem dX8_remove_3 : decode cX8_remove 3 = .ok (.invokevirtual 169, 3) := by decide +kernel
theorem dX8_remove_6 : decode cX8_remove 6 = .ok (.iconst 1, 1) := by decide +kernel
theorem dX8_remove_7 : decode cX8_remove 7 = .ok (.invokevirtual 93, 3) := by decide +kernel
theorem dX8_remove_10 : decode cX8_remove 10 = .ok (.ifCond .ne 25, 3) := by decide +kernel
theorem dX8_remove_13 : decode cX8_remove 13 = .ok (.aload_n 0, 1) := by decide +kernel
theorem dX8_remove_14 : decode cX8_remove 14 = .ok (.aload_n 0, 1) := by decide +kernel
theorem dX8_remove_15 : decode cX8_remove 15 = .ok (.getfield 46, 3) := by decide +kernel
theorem dX8_remove_18 : decode cX8_remove 18 = .ok (.iload_n 1, 1) := by decide +kernel
theorem dX8_remove_19 : decode cX8_remove 19 = .ok (.baload, 1) := by decide +kernel
theorem dX8_remove_20 : decode cX8_remove 20 = .ok (.ifCond .ne 7, 3) := by decide +kernel
theorem dX8_remove_23 : decode cX8_remove 23 = .ok (.iconst 1, 1) := by decide +kernel
theorem dX8_remove_24 : decode cX8_remove 24 = .ok (.goto 4, 3) := by decide +kernel
theorem dX8_remove_27 : decode cX8_remove 27 = .ok (.iconst 0, 1) := by decide +kernel
theorem dX8_remove_28 : decode cX8_remove 28 = .ok (.iconst 2, 1) := by decide +kernel
theorem dX8_remove_29 : decode cX8_remove 29 = .ok (.invokevirtual 93, 3) := by decide +kernel
theorem dX8_remove_32 : decode cX8_remove 32 = .ok (.ifCond .eq 5, 3) := by decide +kernel
theorem dX8_remove_35 : decode cX8_remove 35 = .ok (.iconst 0, 1) := by decide +kernel
theorem dX8_remove_36 : decode cX8_remove 36 = .ok (.ireturn, 1) := by decide +kernel
theorem dX8_remove_37 : decode cX8_remove 37 = .ok (.aload_n 0, 1) := by decide +kernel
theorem dX8_remove_38 : decode cX8_remove 38 = .ok (.iload_n 1, 1) := by decide +kernel
theorem dX8_remove_39 : decode cX8_remove 39 = .ok (.bipush (-2), 2) := by decide +kernel
theorem dX8_remove_41 : decode cX8_remove 41 = .ok (.invokevirtual 176, 3) := by decide +kernel
theorem dX8_remove_44 : decode cX8_remove 44 = .ok (.aload_n 0, 1) := by decide +kernel
theorem dX8_remove_45 : decode cX8_remove 45 = .ok (.getfield 118, 3) := by decide +kernel
theorem dX8_remove_48 : decode cX8_remove 48 = .ok (.ireturn, 1) := by decide +kernel
theorem dX8_keeps_0 : decode cX8_keeps 0 = .ok (.iconst 0, 1) := by decide +kernel
theorem dX8_keeps_1 : decode cX8_keeps 1 = .ok (.istore_n 1, 1) := by decide +kernel
theorem dX8_keeps_2 : decode cX8_keeps 2 = .ok (.iload_n 1, 1) := by decide +kernel
theorem dX8_keeps_3 : decode cX8_keeps 3 = .ok (.bipush 80, 2) := by decide +kernel
theorem dX8_keeps_5 : decode cX8_keeps 5 = .ok (.if_icmp .ge 57, 3) := by decide +kernel
theorem dX8_keeps_8 : decode cX8_keeps 8 = .ok (.aload_n 0, 1) := by decide +kernel
theorem dX8_keeps_9 : decode cX8_keeps 9 = .ok (.getfield 64, 3) := by decide +kernel
theorem dX8_keeps_12 : decode cX8_keeps 12 = .ok (.iload_n 1, 1) := by decide +kernel
theorem dX8_keeps_13 : decode cX8_keeps 13 = .ok (.aload_n 0, 1) := by decide +kernel
theorem dX8_keeps_14 : decode cX8_keeps 14 = .ok (.getfield 34, 3) := by decide +kernel
theorem dX8_keeps_17 : decode cX8_keeps 17 = .ok (.iload_n 1, 1) := by decide +kernel
theorem dX8_keeps_18 : decode cX8_keeps 18 = .ok (.iaload, 1) := by decide +kernel
theorem dX8_keeps_19 : decode cX8_keeps 19 = .ok (.iastore, 1) := by decide +kernel
theorem dX8_keeps_20 : decode cX8_keeps 20 = .ok (.aload_n 0, 1) := by decide +kernel
theorem dX8_keeps_21 : decode cX8_keeps 21 = .ok (.getfield 67, 3) := by decide +kernel
theorem dX8_keeps_24 : decode cX8_keeps 24 = .ok (.iload_n 1, 1) := by decide +kernel
theorem dX8_keeps_25 : decode cX8_keeps 25 = .ok (.aload_n 0, 1) := by decide +kernel
theorem dX8_keeps_26 : decode cX8_keeps 26 = .ok (.getfield 37, 3) := by decide +kernel
theorem dX8_keeps_29 : decode cX8_keeps 29 = .ok (.iload_n 1, 1) := by decide +kernel
theorem dX8_keeps_30 : decode cX8_keeps 30 = .ok (.iaload, 1) := by decide +kernel
theorem dX8_keeps_31 : decode cX8_keeps 31 = .ok (.iastore, 1) := by decide +kernel
theorem dX8_keeps_32 : decode cX8_keeps 32 = .ok (.aload_n 0, 1) := by decide +kernel
theorem dX8_keeps_33 : decode cX8_keeps 33 = .ok (.getfield 70, 3) := by decide +kernel
theorem dX8_keeps_36 : decode cX8_keeps 36 = .ok (.iload_n 1, 1) := by decide +kernel
theorem dX8_keeps_37 : decode cX8_keeps 37 = .ok (.aload_n 0, 1) := by decide +kernel
theorem dX8_keeps_38 : decode cX8_keeps 38 = .ok (.getfield 40, 3) := by decide +kernel
theorem dX8_keeps_41 : decode cX8_keeps 41 = .ok (.iload_n 1, 1) := by decide +kernel
theorem dX8_keeps_42 : decode cX8_keeps 42 = .ok (.caload, 1) := by decide +kernel
theorem dX8_keeps_43 : decode cX8_keeps 43 = .ok (.castore, 1) := by decide +kernel
theorem dX8_keeps_44 : decode cX8_keeps 44 = .ok (.aload_n 0, 1) := by decide +kernel
theorem dX8_keeps_45 : decode cX8_keeps 45 = .ok (.getfield 73, 3) := by decide +kernel
theorem dX8_keeps_48 : decode cX8_keeps 48 = .ok (.iload_n 1, 1) := by decide +kernel
theorem dX8_keeps_49 : decode cX8_keeps 49 = .ok (.aload_n 0, 1) := by decide +kernel
theorem dX8_keeps_50 : decode cX8_keeps 50 = .ok (.getfield 43, 3) := by decide +kernel
theorem dX8_keeps_53 : decode cX8_keeps 53 = .ok (.iload_n 1, 1) := by decide +kernel
theorem dX8_keeps_54 : decode cX8_keeps 54 = .ok (.iaload, 1) := by decide +kernel
theorem dX8_keeps_55 : decode cX8_keeps 55 = .ok (.iastore, 1) := by decide +kernel
theorem dX8_keeps_56 : decode cX8_keeps 56 = .ok (.iinc 1 1, 3) := by decide +kernel
theorem dX8_keeps_59 : decode cX8_keeps 59 = .ok (.goto (-57), 3) := by decide +kernel
theorem dX8_keeps_62 : decode cX8_keeps 62 = .ok (.return_, 1) := by decide +kernel
theorem dX8_givesBack_0 : decode cX8_givesBack 0 = .ok (.iconst 0, 1) := by decide +kernel
theorem dX8_givesBack_1 : decode cX8_givesBack 1 = .ok (.istore_n 1, 1) := by decide +kernel
theorem dX8_givesBack_2 : decode cX8_givesBack 2 = .ok (.iload_n 1, 1) := by decide +kernel
theorem dX8_givesBack_3 : decode cX8_givesBack 3 = .ok (.bipush 80, 2) := by decide +kernel
theorem dX8_givesBack_5 : decode cX8_givesBack 5 = .ok (.if_icmp .ge 57, 3) := by decide +kernel
theorem dX8_givesBack_8 : decode cX8_givesBack 8 = .ok (.aload_n 0, 1) := by decide +kernel
theorem dX8_givesBack_9 : decode cX8_givesBack 9 = .ok (.getfield 34, 3) := by decide +kernel
theorem dX8_givesBack_12 : decode cX8_givesBack 12 = .ok (.iload_n 1, 1) := by decide +kernel
theorem dX8_givesBack_13 : decode cX8_givesBack 13 = .ok (.aload_n 0, 1) := by decide +kernel
theorem dX8_givesBack_14 : decode cX8_givesBack 14 = .ok (.getfield 64, 3) := by decide +kernel
theorem dX8_givesBack_17 : decode cX8_givesBack 17 = .ok (.iload_n 1, 1) := by decide +kernel
theorem dX8_givesBack_18 : decode cX8_givesBack 18 = .ok (.iaload, 1) := by decide +kernel
theorem dX8_givesBack_19 : decode cX8_givesBack 19 = .ok (.iastore, 1) := by decide +kernel
theorem dX8_givesBack_20 : decode cX8_givesBack 20 = .ok (.aload_n 0, 1) := by decide +kernel
theorem dX8_givesBack_21 : decode cX8_givesBack 21 = .ok (.getfield 37, 3) := by decide +kernel
theorem dX8_givesBack_24 : decode cX8_givesBack 24 = .ok (.iload_n 1, 1) := by decide +kernel
theorem dX8_givesBack_25 : decode cX8_givesBack 25 = .ok (.aload_n 0, 1) := by decide +kernel
theorem dX8_givesBack_26 : decode cX8_givesBack 26 = .ok (.getfield 67, 3) := by decide +kernel
theorem dX8_givesBack_29 : decode cX8_givesBack 29 = .ok (.iload_n 1, 1) := by decide +kernel
theorem dX8_givesBack_30 : decode cX8_givesBack 30 = .ok (.iaload, 1) := by decide +kernel
theorem dX8_givesBack_31 : decode cX8_givesBack 31 = .ok (.iastore, 1) := by decide +kernel
theorem dX8_givesBack_32 : decode cX8_givesBack 32 = .ok (.aload_n 0, 1) := by decide +kernel
theorem dX8_givesBack_33 : decode cX8_givesBack 33 = .ok (.getfield 40, 3) := by decide +kernel
theorem dX8_givesBack_36 : decode cX8_givesBack 36 = .ok (.iload_n 1, 1) := by decide +kernel
theorem dX8_givesBack_37 : decode cX8_givesBack 37 = .ok (.aload_n 0, 1) := by decide +kernel
theorem dX8_givesBack_38 : decode cX8_givesBack 38 = .ok (.getfield 70, 3) := by decide +kernel
theorem dX8_givesBack_41 : decode cX8_givesBack 41 = .ok (.iload_n 1, 1) := by decide +kernel
theorem dX8_givesBack_42 : decode cX8_givesBack 42 = .ok (.caload, 1) := by decide +kernel
theorem dX8_givesBack_43 : decode cX8_givesBack 43 = .ok (.castore, 1) := by decide +kernel
theorem dX8_givesBack_44 : decode cX8_givesBack 44 = .ok (.aload_n 0, 1) := by decide +kernel
theorem dX8_givesBack_45 : decode cX8_givesBack 45 = .ok (.getfield 43, 3) := by decide +kernel
theorem dX8_givesBack_48 : decode cX8_givesBack 48 = .ok (.iload_n 1, 1) := by decide +kernel
theorem dX8_givesBack_49 : decode cX8_givesBack 49 = .ok (.aload_n 0, 1) := by decide +kernel
theorem dX8_givesBack_50 : decode cX8_givesBack 50 = .ok (.getfield 73, 3) := by decide +kernel
theorem dX8_givesBack_53 : decode cX8_givesBack 53 = .ok (.iload_n 1, 1) := by decide +kernel
theorem dX8_givesBack_54 : decode cX8_givesBack 54 = .ok (.iaload, 1) := by decide +kernel
theorem dX8_givesBack_55 : decode cX8_givesBack 55 = .ok (.iastore, 1) := by decide +kernel
theorem dX8_givesBack_56 : decode cX8_givesBack 56 = .ok (.iinc 1 1, 3) := by decide +kernel
theorem dX8_givesBack_59 : decode cX8_givesBack 59 = .ok (.goto (-57), 3) := by decide +kernel
theorem dX8_givesBack_62 : decode cX8_givesBack 62 = .ok (.return_, 1) := by decide +kernel
set_option maxRecDepth 20000 in
theorem ggX8_next_X8_isFarther : GoodIn wsX8_next wsX8_isFarther := goodIn_ca (goodIn_r _ [8, 9, 10, 11, 12, 7, 13, 14, 15, 16, 17, 18, 19, 20, 21, 22, 23, 24, 25, 26, 27, 28, 29, 30, 31, 32, 33, 34, 35, 36, 37, 38, 39, 40, 41, 42, 43, 44, 45] (by decide +kernel) (by decide +kernel)) (goodIn_sub (fun _ h => List.mem_cons_of_mem _ (List.mem_append_right _ h)) (by decide +kernel))
set_option maxRecDepth 20000 in
theorem gX8_next_X8_isFarther : GoodIn wsX8_next (wsV RX8 151 RX8 yX8_isFarther wsX8_isFarther) := goodIn_app (goodIn_of _ (by decide +kernel)) ggX8_next_X8_isFarther
theorem dX8_next_0 : decode cX8_next 0 = .ok (.iconst (-1), 1) := by decide +kernel
theorem dX8_next_1 : decode cX8_next 1 = .ok (.istore_n 3, 1) := by decide +kernel
theorem dX8_next_2 : decode cX8_next 2 = .ok (.iconst 0, 1) := by decide +kernel
theorem dX8_next_3 : decode cX8_next 3 = .ok (.istore 4, 2) := by decide +kernel
theorem dX8_next_5 : decode cX8_next 5 = .ok (.iload 4, 2) := by decide +kernel
theorem dX8_next_7 : decode cX8_next 7 = .ok (.iconst 2, 1) := by decide +kernel
theorem dX8_next_8 : decode cX8_next 8 = .ok (.aload_n 0, 1) := by decide +kernel
theorem dX8_next_9 : decode cX8_next 9 = .ok (.getfield 90, 3) := by decide +kernel
theorem dX8_next_12 : decode cX8_next 12 = .ok (.imul, 1) := by decide +kernel
theorem dX8_next_13 : decode cX8_next 13 = .ok (.if_icmp .ge 60, 3) := by decide +kernel
theorem dX8_next_16 : decode cX8_next 16 = .ok (.aload_n 0, 1) := by decide +kernel
theorem dX8_next_17 : decode cX8_next 17 = .ok (.getfield 34, 3) := by decide +kernel
theorem dX8_next_20 : decode cX8_next 20 = .ok (.iload 4, 2) := by decide +kernel
theorem dX8_next_22 : decode cX8_next 22 = .ok (.iaload, 1) := by decide +kernel
theorem dX8_next_23 : decode cX8_next 23 = .ok (.iload_n 1, 1) := by decide +kernel
theorem dX8_next_24 : decode cX8_next 24 = .ok (.if_icmp .ne 43, 3) := by decide +kernel
theorem dX8_next_27 : decode cX8_next 27 = .ok (.aload_n 0, 1) := by decide +kernel
theorem dX8_next_28 : decode cX8_next 28 = .ok (.getfield 43, 3) := by decide +kernel
theorem dX8_next_31 : decode cX8_next 31 = .ok (.iload 4, 2) := by decide +kernel
theorem dX8_next_33 : decode cX8_next 33 = .ok (.iaload, 1) := by decide +kernel
theorem dX8_next_34 : decode cX8_next 34 = .ok (.ifCond .lt 6, 3) := by decide +kernel
theorem dX8_next_37 : decode cX8_next 37 = .ok (.goto 30, 3) := by decide +kernel
theorem dX8_next_40 : decode cX8_next 40 = .ok (.iload_n 3, 1) := by decide +kernel
theorem dX8_next_41 : decode cX8_next 41 = .ok (.iconst (-1), 1) := by decide +kernel
theorem dX8_next_42 : decode cX8_next 42 = .ok (.if_icmp .eq 18, 3) := by decide +kernel
theorem dX8_next_45 : decode cX8_next 45 = .ok (.iload_n 2, 1) := by decide +kernel
theorem dX8_next_46 : decode cX8_next 46 = .ok (.ifCond .ne 19, 3) := by decide +kernel
theorem dX8_next_49 : decode cX8_next 49 = .ok (.aload_n 0, 1) := by decide +kernel
theorem dX8_next_50 : decode cX8_next 50 = .ok (.iload_n 1, 1) := by decide +kernel
theorem dX8_next_51 : decode cX8_next 51 = .ok (.iload_n 3, 1) := by decide +kernel
theorem dX8_next_52 : decode cX8_next 52 = .ok (.iload 4, 2) := by decide +kernel
theorem dX8_next_54 : decode cX8_next 54 = .ok (.invokevirtual 151, 3) := by decide +kernel
theorem dX8_next_57 : decode cX8_next 57 = .ok (.ifCond .eq 8, 3) := by decide +kernel
theorem dX8_next_60 : decode cX8_next 60 = .ok (.iload 4, 2) := by decide +kernel
theorem dX8_next_62 : decode cX8_next 62 = .ok (.goto 4, 3) := by decide +kernel
theorem dX8_next_65 : decode cX8_next 65 = .ok (.iload_n 3, 1) := by decide +kernel
theorem dX8_next_66 : decode cX8_next 66 = .ok (.istore_n 3, 1) := by decide +kernel
theorem dX8_next_67 : decode cX8_next 67 = .ok (.iinc 4 1, 3) := by decide +kernel
theorem dX8_next_70 : decode cX8_next 70 = .ok (.goto (-65), 3) := by decide +kernel
theorem dX8_next_73 : decode cX8_next 73 = .ok (.iload_n 3, 1) := by decide +kernel
theorem dX8_next_74 : decode cX8_next 74 = .ok (.ireturn, 1) := by decide +kernel
set_option maxRecDepth 20000 in
theorem ggX8_renumber_X8_isStreet : GoodIn wsX8_renumber wsX8_isStreet := goodIn_ca (goodIn_r _ [15, 16, 17, 18, 19, 14, 20, 85, 86, 87, 88, 89, 90, 91, 92, 93, 94, 95, 96, 97, 98, 99, 100, 101, 102, 103, 104, 105, 106, 107, 108, 109, 110, 111, 112, 113, 114] (by decide +kernel) (by decide +kernel)) (goodIn_sub (fun _ h => List.mem_cons_of_mem _ (List.mem_append_right _ h)) (by decide +kernel))
set_option maxRecDepth 20000 in
theorem gX8_renumber_X8_isStreet : GoodIn wsX8_renumber (wsV RX8 132 RX8 yX8_isStreet wsX8_isStreet) := goodIn_app (goodIn_of _ (by decide +kernel)) ggX8_renumber_X8_isStreet
set_option maxRecDepth 20000 in
theorem ggX8_renumber_X8_no : GoodIn wsX8_renumber wsX8_no := goodIn_r _ [24, 25, 85, 86, 87, 88, 89, 90, 91, 92, 93, 94, 95, 96, 97, 98, 99, 100, 101, 102, 103, 104, 105, 106, 107, 108, 109, 110, 111, 112, 113, 114] (by decide +kernel) (by decide +kernel)
set_option maxRecDepth 20000 in
theorem gX8_renumber_X8_no : GoodIn wsX8_renumber (wsV RX8 93 RX8 yX8_no wsX8_no) := goodIn_app (goodIn_of _ (by decide +kernel)) ggX8_renumber_X8_no
set_option maxRecDepth 20000 in
theorem ggX8_renumber_X8_keeps : GoodIn wsX8_renumber wsX8_keeps := goodIn_ca (goodIn_r _ [29, 30, 3, 31, 5, 32, 6, 8, 2, 85, 86, 87, 88, 89, 90, 91, 92, 93, 94, 95, 96, 97, 98, 99, 100, 101, 102, 103, 104, 105, 106, 107, 108, 109, 110, 111, 112, 113, 114] (by decide +kernel) (by decide +kernel)) (goodIn_sub (fun _ h => List.mem_cons_of_mem _ (List.mem_append_right _ h)) (by decide +kernel))
set_option maxRecDepth 20000 in
theorem gX8_renumber_X8_keeps : GoodIn wsX8_renumber (wsV RX8 184 RX8 yX8_keeps wsX8_keeps) := goodIn_app (goodIn_of _ (by decide +kernel)) ggX8_renumber_X8_keeps
set_option maxRecDepth 20000 in
theorem ggX8_renumber_X8_next : GoodIn wsX8_renumber wsX8_next := goodIn_ca (goodIn_r _ [36, 7, 3, 2, 37, 38, 39, 14, 40, 5, 41, 42, 43, 44, 45, 46, 85, 86, 87, 88, 89, 90, 91, 92, 93, 94, 95, 96, 97, 98, 99, 100, 101, 102, 103, 104, 105, 106, 107, 108, 109, 110, 111, 112, 113, 114] (by decide +kernel) (by decide +kernel)) (goodIn_sub (fun _ h => List.mem_cons_of_mem _ (List.mem_append_right _ h)) (by decide +kernel))
set_option maxRecDepth 20000 in
theorem gX8_renumber_X8_next : GoodIn wsX8_renumber (wsV RX8 187 RX8 yX8_next wsX8_next) := goodIn_app (goodIn_of _ (by decide +kernel)) ggX8_renumber_X8_next
set_option maxRecDepth 20000 in
theorem ggX8_renumber_X8_comes : GoodIn wsX8_renumber wsX8_comes := goodIn_ca (goodIn_r _ [50, 4, 1, 7, 3, 2, 6, 5, 41, 42, 43, 14, 44, 45, 46, 51, 52, 53, 54, 55, 56, 57, 58, 37, 38, 39, 40, 59, 60, 61, 62, 85, 86, 87, 88, 89, 90, 91, 92, 93, 94, 95, 96, 97, 98, 99, 100, 101, 102, 103, 104, 105, 106, 107, 108, 109, 110, 111, 112, 113, 114] (by decide +kernel) (by decide +kernel)) (goodIn_sub (fun _ h => List.mem_cons_of_mem _ (List.mem_append_right _ h)) (by decide +kernel))
set_option maxRecDepth 20000 in
theorem gX8_renumber_X8_comes : GoodIn wsX8_renumber (wsV RX8 161 RX8 yX8_comes wsX8_comes) := goodIn_app (goodIn_of _ (by decide +kernel)) ggX8_renumber_X8_comes
set_option maxRecDepth 20000 in
theorem ggX8_renumber_X8_puts : GoodIn wsX8_renumber wsX8_puts := goodIn_ca (goodIn_r _ [66, 3, 5, 6, 2, 1, 85, 86, 87, 88, 89, 90, 91, 92, 93, 94, 95, 96, 97, 98, 99, 100, 101, 102, 103, 104, 105, 106, 107, 108, 109, 110, 111, 112, 113, 114] (by decide +kernel) (by decide +kernel)) (goodIn_sub (fun _ h => List.mem_cons_of_mem _ (List.mem_append_right _ h)) (by decide +kernel))
set_option maxRecDepth 20000 in
theorem gX8_renumber_X8_puts : GoodIn wsX8_renumber (wsV RX8 165 RX8 yX8_puts wsX8_puts) := goodIn_app (goodIn_of _ (by decide +kernel)) ggX8_renumber_X8_puts
set_option maxRecDepth 20000 in
theorem ggX8_renumber_X8_givesBack : GoodIn wsX8_renumber wsX8_givesBack := goodIn_ca (goodIn_r _ [70, 3, 30, 5, 31, 6, 32, 2, 8, 85, 86, 87, 88, 89, 90, 91, 92, 93, 94, 95, 96, 97, 98, 99, 100, 101, 102, 103, 104, 105, 106, 107, 108, 109, 110, 111, 112, 113, 114] (by decide +kernel) (by decide +kernel)) (goodIn_sub (fun _ h => List.mem_cons_of_mem _ (List.mem_append_right _ h)) (by decide +kernel))
set_option maxRecDepth 20000 in
theorem gX8_renumber_X8_givesBack : GoodIn wsX8_renumber (wsV RX8 191 RX8 yX8_givesBack wsX8_givesBack) := goodIn_app (goodIn_of _ (by decide +kernel)) ggX8_renumber_X8_givesBack
set_option maxRecDepth 20000 in
theorem ggX8_renumber_X8_placeOn : GoodIn wsX8_renumber wsX8_placeOn := goodIn_ca (goodIn_r _ [74, 3, 85, 86, 87, 88, 89, 90, 91, 92, 93, 94, 95, 96, 97, 98, 99, 100, 101, 102, 103, 104, 105, 106, 107, 108, 109, 110, 111, 112, 113, 114] (by decide +kernel) (by decide +kernel)) (goodIn_sub (fun _ h => List.mem_cons_of_mem _ (List.mem_append_right _ h)) (by decide +kernel))
set_option maxRecDepth 20000 in
theorem gX8_renumber_X8_placeOn : GoodIn wsX8_renumber (wsV RX8 124 RX8 yX8_placeOn wsX8_placeOn) := goodIn_app (goodIn_of _ (by decide +kernel)) ggX8_renumber_X8_placeOn
set_option maxRecDepth 20000 in
theorem ggX8_renumber_X8_old : GoodIn wsX8_renumber wsX8_old := goodIn_ca (goodIn_r _ [78, 79, 80, 81, 82, 83, 84, 85, 86, 87, 88, 89, 90, 91, 92, 93, 94, 95, 96, 97, 98, 99, 100, 101, 102, 103, 104, 105, 106, 107, 108, 109, 110, 111, 112, 113, 114] (by decide +kernel) (by decide +kernel)) (goodIn_sub (fun _ h => List.mem_cons_of_mem _ (List.mem_append_right _ h)) (by decide +kernel))
set_option maxRecDepth 20000 in
theorem gX8_renumber_X8_old : GoodIn wsX8_renumber (wsV RX8 128 RX8 yX8_old wsX8_old) := goodIn_app (goodIn_of _ (by decide +kernel)) ggX8_renumber_X8_old
theorem dX8_renumber_0 : decode cX8_renumber 0 = .ok (.aload_n 0, 1) := by decide +kernel
theorem dX8_renumber_1 : decode cX8_renumber 1 = .ok (.aload_n 0, 1) := by decide +kernel
theorem dX8_renumber_2 : decode cX8_renumber 2 = .ok (.iload_n 1, 1) := by decide +kernel
theorem dX8_renumber_3 : decode cX8_renumber 3 = .ok (.invokevirtual 132, 3) := by decide +kernel
theorem dX8_renumber_6 : decode cX8_renumber 6 = .ok (.iconst 1, 1) := by decide +kernel
theorem dX8_renumber_7 : decode cX8_renumber 7 = .ok (.invokevirtual 93, 3) := by decide +kernel
theorem dX8_renumber_10 : decode cX8_renumber 10 = .ok (.ifCond .eq 5, 3) := by decide +kernel
theorem dX8_renumber_13 : decode cX8_renumber 13 = .ok (.iconst 0, 1) := by decide +kernel
theorem dX8_renumber_14 : decode cX8_renumber 14 = .ok (.ireturn, 1) := by decide +kernel
theorem dX8_renumber_15 : decode cX8_renumber 15 = .ok (.aload_n 0, 1) := by decide +kernel
theorem dX8_renumber_16 : decode cX8_renumber 16 = .ok (.invokevirtual 184, 3) := by decide +kernel
theorem dX8_renumber_19 : decode cX8_renumber 19 = .ok (.aload_n 0, 1) := by decide +kernel
theorem dX8_renumber_20 : decode cX8_renumber 20 = .ok (.getfield 31, 3) := by decide +kernel
theorem dX8_renumber_23 : decode cX8_renumber 23 = .ok (.iload_n 1, 1) := by decide +kernel
theorem dX8_renumber_24 : decode cX8_renumber 24 = .ok (.iaload, 1) := by decide +kernel
theorem dX8_renumber_25 : decode cX8_renumber 25 = .ok (.istore_n 2, 1) := by decide +kernel
theorem dX8_renumber_26 : decode cX8_renumber 26 = .ok (.aload_n 0, 1) := by decide +kernel
theorem dX8_renumber_27 : decode cX8_renumber 27 = .ok (.getfield 31, 3) := by decide +kernel
theorem dX8_renumber_30 : decode cX8_renumber 30 = .ok (.iload_n 1, 1) := by decide +kernel
theorem dX8_renumber_31 : decode cX8_renumber 31 = .ok (.iconst 0, 1) := by decide +kernel
theorem dX8_renumber_32 : decode cX8_renumber 32 = .ok (.iastore, 1) := by decide +kernel
theorem dX8_renumber_33 : decode cX8_renumber 33 = .ok (.iconst 0, 1) := by decide +kernel
theorem dX8_renumber_34 : decode cX8_renumber 34 = .ok (.istore_n 3, 1) := by decide +kernel
theorem dX8_renumber_35 : decode cX8_renumber 35 = .ok (.iload_n 3, 1) := by decide +kernel
theorem dX8_renumber_36 : decode cX8_renumber 36 = .ok (.bipush 80, 2) := by decide +kernel
theorem dX8_renumber_38 : decode cX8_renumber 38 = .ok (.if_icmp .ge 35, 3) := by decide +kernel
theorem dX8_renumber_41 : decode cX8_renumber 41 = .ok (.aload_n 0, 1) := by decide +kernel
theorem dX8_renumber_42 : decode cX8_renumber 42 = .ok (.getfield 43, 3) := by decide +kernel
theorem dX8_renumber_45 : decode cX8_renumber 45 = .ok (.iload_n 3, 1) := by decide +kernel
theorem dX8_renumber_46 : decode cX8_renumber 46 = .ok (.aload_n 0, 1) := by decide +kernel
theorem dX8_renumber_47 : decode cX8_renumber 47 = .ok (.getfield 34, 3) := by decide +kernel
theorem dX8_renumber_50 : decode cX8_renumber 50 = .ok (.iload_n 3, 1) := by decide +kernel
theorem dX8_renumber_51 : decode cX8_renumber 51 = .ok (.iaload, 1) := by decide +kernel
theorem dX8_renumber_52 : decode cX8_renumber 52 = .ok (.iload_n 1, 1) := by decide +kernel
theorem dX8_renumber_53 : decode cX8_renumber 53 = .ok (.if_icmp .ne 7, 3) := by decide +kernel
theorem dX8_renumber_56 : decode cX8_renumber 56 = .ok (.iconst (-1), 1) := by decide +kernel
theorem dX8_renumber_57 : decode cX8_renumber 57 = .ok (.goto 9, 3) := by decide +kernel
theorem dX8_renumber_60 : decode cX8_renumber 60 = .ok (.aload_n 0, 1) := by decide +kernel
theorem dX8_renumber_61 : decode cX8_renumber 61 = .ok (.getfield 43, 3) := by decide +kernel
theorem dX8_renumber_64 : decode cX8_renumber 64 = .ok (.iload_n 3, 1) := by decide +kernel
theorem dX8_renumber_65 : decode cX8_renumber 65 = .ok (.iaload, 1) := by decide +kernel
theorem dX8_renumber_66 : decode cX8_renumber 66 = .ok (.iastore, 1) := by decide +kernel
theorem dX8_renumber_67 : decode cX8_renumber 67 = .ok (.iinc 3 1, 3) := by decide +kernel
theorem dX8_renumber_70 : decode cX8_renumber 70 = .ok (.goto (-35), 3) := by decide +kernel
theorem dX8_renumber_73 : decode cX8_renumber 73 = .ok (.iconst 1, 1) := by decide +kernel
theorem dX8_renumber_74 : decode cX8_renumber 74 = .ok (.istore_n 3, 1) := by decide +kernel
theorem dX8_renumber_75 : decode cX8_renumber 75 = .ok (.aload_n 0, 1) := by decide +kernel
theorem dX8_renumber_76 : decode cX8_renumber 76 = .ok (.iload_n 1, 1) := by decide +kernel
theorem dX8_renumber_77 : decode cX8_renumber 77 = .ok (.aload_n 0, 1) := by decide +kernel
theorem dX8_renumber_78 : decode cX8_renumber 78 = .ok (.getfield 20, 3) := by decide +kernel
theorem dX8_renumber_81 : decode cX8_renumber 81 = .ok (.iload_n 1, 1) := by decide +kernel
theorem dX8_renumber_82 : decode cX8_renumber 82 = .ok (.caload, 1) := by decide +kernel
theorem dX8_renumber_83 : decode cX8_renumber 83 = .ok (.bipush 121, 2) := by decide +kernel
theorem dX8_renumber_85 : decode cX8_renumber 85 = .ok (.if_icmp .ne 7, 3) := by decide +kernel
theorem dX8_renumber_88 : decode cX8_renumber 88 = .ok (.iconst 1, 1) := by decide +kernel
theorem dX8_renumber_89 : decode cX8_renumber 89 = .ok (.goto 4, 3) := by decide +kernel
theorem dX8_renumber_92 : decode cX8_renumber 92 = .ok (.iconst 0, 1) := by decide +kernel
theorem dX8_renumber_93 : decode cX8_renumber 93 = .ok (.invokevirtual 187, 3) := by decide +kernel
theorem dX8_renumber_96 : decode cX8_renumber 96 = .ok (.istore 4, 2) := by decide +kernel
theorem dX8_renumber_98 : decode cX8_renumber 98 = .ok (.iload_n 3, 1) := by decide +kernel
theorem dX8_renumber_99 : decode cX8_renumber 99 = .ok (.ifCond .eq 98, 3) := by decide +kernel
theorem dX8_renumber_102 : decode cX8_renumber 102 = .ok (.iload 4, 2) := by decide +kernel
theorem dX8_renumber_104 : decode cX8_renumber 104 = .ok (.iconst (-1), 1) := by decide +kernel
theorem dX8_renumber_105 : decode cX8_renumber 105 = .ok (.if_icmp .eq 92, 3) := by decide +kernel
theorem dX8_renumber_108 : decode cX8_renumber 108 = .ok (.aload_n 0, 1) := by decide +kernel
theorem dX8_renumber_109 : decode cX8_renumber 109 = .ok (.iload_n 1, 1) := by decide +kernel
theorem dX8_renumber_110 : decode cX8_renumber 110 = .ok (.iload 4, 2) := by decide +kernel
theorem dX8_renumber_112 : decode cX8_renumber 112 = .ok (.iconst 2, 1) := by decide +kernel
theorem dX8_renumber_113 : decode cX8_renumber 113 = .ok (.idiv, 1) := by decide +kernel
theorem dX8_renumber_114 : decode cX8_renumber 114 = .ok (.aload_n 0, 1) := by decide +kernel
theorem dX8_renumber_115 : decode cX8_renumber 115 = .ok (.getfield 37, 3) := by decide +kernel
theorem dX8_renumber_118 : decode cX8_renumber 118 = .ok (.iload 4, 2) := by decide +kernel
theorem dX8_renumber_120 : decode cX8_renumber 120 = .ok (.iaload, 1) := by decide +kernel
theorem dX8_renumber_121 : decode cX8_renumber 121 = .ok (.aload_n 0, 1) := by decide +kernel
theorem dX8_renumber_122 : decode cX8_renumber 122 = .ok (.getfield 40, 3) := by decide +kernel
theorem dX8_renumber_125 : decode cX8_renumber 125 = .ok (.iload 4, 2) := by decide +kernel
theorem dX8_renumber_127 : decode cX8_renumber 127 = .ok (.caload, 1) := by decide +kernel
theorem dX8_renumber_128 : decode cX8_renumber 128 = .ok (.invokevirtual 161, 3) := by decide +kernel
theorem dX8_renumber_131 : decode cX8_renumber 131 = .ok (.istore 5, 2) := by decide +kernel
theorem dX8_renumber_133 : decode cX8_renumber 133 = .ok (.iload 5, 2) := by decide +kernel
theorem dX8_renumber_135 : decode cX8_renumber 135 = .ok (.ifCond .lt 7, 3) := by decide +kernel
theorem dX8_renumber_138 : decode cX8_renumber 138 = .ok (.iconst 1, 1) := by decide +kernel
theorem dX8_renumber_139 : decode cX8_renumber 139 = .ok (.goto 4, 3) := by decide +kernel
theorem dX8_renumber_142 : decode cX8_renumber 142 = .ok (.iconst 0, 1) := by decide +kernel
theorem dX8_renumber_143 : decode cX8_renumber 143 = .ok (.istore_n 3, 1) := by decide +kernel
theorem dX8_renumber_144 : decode cX8_renumber 144 = .ok (.iload_n 3, 1) := by decide +kernel
theorem dX8_renumber_145 : decode cX8_renumber 145 = .ok (.ifCond .eq 26, 3) := by decide +kernel
theorem dX8_renumber_148 : decode cX8_renumber 148 = .ok (.aload_n 0, 1) := by decide +kernel
theorem dX8_renumber_149 : decode cX8_renumber 149 = .ok (.iload 4, 2) := by decide +kernel
theorem dX8_renumber_151 : decode cX8_renumber 151 = .ok (.iload_n 1, 1) := by decide +kernel
theorem dX8_renumber_152 : decode cX8_renumber 152 = .ok (.aload_n 0, 1) := by decide +kernel
theorem dX8_renumber_153 : decode cX8_renumber 153 = .ok (.getfield 37, 3) := by decide +kernel
theorem dX8_renumber_156 : decode cX8_renumber 156 = .ok (.iload 4, 2) := by decide +kernel
theorem dX8_renumber_158 : decode cX8_renumber 158 = .ok (.iaload, 1) := by decide +kernel
theorem dX8_renumber_159 : decode cX8_renumber 159 = .ok (.aload_n 0, 1) := by decide +kernel
theorem dX8_renumber_160 : decode cX8_renumber 160 = .ok (.getfield 40, 3) := by decide +kernel
theorem dX8_renumber_163 : decode cX8_renumber 163 = .ok (.iload 4, 2) := by decide +kernel
theorem dX8_renumber_165 : decode cX8_renumber 165 = .ok (.caload, 1) := by decide +kernel
theorem dX8_renumber_166 : decode cX8_renumber 166 = .ok (.iload 5, 2) := by decide +kernel
theorem dX8_renumber_168 : decode cX8_renumber 168 = .ok (.invokevirtual 165, 3) := by decide +kernel
theorem dX8_renumber_171 : decode cX8_renumber 171 = .ok (.aload_n 0, 1) := by decide +kernel
theorem dX8_renumber_172 : decode cX8_renumber 172 = .ok (.iload_n 1, 1) := by decide +kernel
theorem dX8_renumber_173 : decode cX8_renumber 173 = .ok (.aload_n 0, 1) := by decide +kernel
theorem dX8_renumber_174 : decode cX8_renumber 174 = .ok (.getfield 20, 3) := by decide +kernel
theorem dX8_renumber_177 : decode cX8_renumber 177 = .ok (.iload_n 1, 1) := by decide +kernel
theorem dX8_renumber_178 : decode cX8_renumber 178 = .ok (.caload, 1) := by decide +kernel
theorem dX8_renumber_179 : decode cX8_renumber 179 = .ok (.bipush 121, 2) := by decide +kernel
theorem dX8_renumber_181 : decode cX8_renumber 181 = .ok (.if_icmp .ne 7, 3) := by decide +kernel
theorem dX8_renumber_184 : decode cX8_renumber 184 = .ok (.iconst 1, 1) := by decide +kernel
theorem dX8_renumber_185 : decode cX8_renumber 185 = .ok (.goto 4, 3) := by decide +kernel
theorem dX8_renumber_188 : decode cX8_renumber 188 = .ok (.iconst 0, 1) := by decide +kernel
theorem dX8_renumber_189 : decode cX8_renumber 189 = .ok (.invokevirtual 187, 3) := by decide +kernel
theorem dX8_renumber_192 : decode cX8_renumber 192 = .ok (.istore 4, 2) := by decide +kernel
theorem dX8_renumber_194 : decode cX8_renumber 194 = .ok (.goto (-96), 3) := by decide +kernel
theorem dX8_renumber_197 : decode cX8_renumber 197 = .ok (.aload_n 0, 1) := by decide +kernel
theorem dX8_renumber_198 : decode cX8_renumber 198 = .ok (.iload_n 3, 1) := by decide +kernel
theorem dX8_renumber_199 : decode cX8_renumber 199 = .ok (.iconst 2, 1) := by decide +kernel
theorem dX8_renumber_200 : decode cX8_renumber 200 = .ok (.invokevirtual 93, 3) := by decide +kernel
theorem dX8_renumber_203 : decode cX8_renumber 203 = .ok (.ifCond .eq 16, 3) := by decide +kernel
theorem dX8_renumber_206 : decode cX8_renumber 206 = .ok (.aload_n 0, 1) := by decide +kernel
theorem dX8_renumber_207 : decode cX8_renumber 207 = .ok (.invokevirtual 191, 3) := by decide +kernel
theorem dX8_renumber_210 : decode cX8_renumber 210 = .ok (.aload_n 0, 1) := by decide +kernel
theorem dX8_renumber_211 : decode cX8_renumber 211 = .ok (.getfield 31, 3) := by decide +kernel
theorem dX8_renumber_214 : decode cX8_renumber 214 = .ok (.iload_n 1, 1) := by decide +kernel
theorem dX8_renumber_215 : decode cX8_renumber 215 = .ok (.iload_n 2, 1) := by decide +kernel
theorem dX8_renumber_216 : decode cX8_renumber 216 = .ok (.iastore, 1) := by decide +kernel
theorem dX8_renumber_217 : decode cX8_renumber 217 = .ok (.iconst 0, 1) := by decide +kernel
theorem dX8_renumber_218 : decode cX8_renumber 218 = .ok (.ireturn, 1) := by decide +kernel
theorem dX8_renumber_219 : decode cX8_renumber 219 = .ok (.iconst 0, 1) := by decide +kernel
theorem dX8_renumber_220 : decode cX8_renumber 220 = .ok (.istore 4, 2) := by decide +kernel
theorem dX8_renumber_222 : decode cX8_renumber 222 = .ok (.iconst 0, 1) := by decide +kernel
theorem dX8_renumber_223 : decode cX8_renumber 223 = .ok (.istore 5, 2) := by decide +kernel
theorem dX8_renumber_225 : decode cX8_renumber 225 = .ok (.iload 5, 2) := by decide +kernel
theorem dX8_renumber_227 : decode cX8_renumber 227 = .ok (.aload_n 0, 1) := by decide +kernel
theorem dX8_renumber_228 : decode cX8_renumber 228 = .ok (.getfield 90, 3) := by decide +kernel
theorem dX8_renumber_231 : decode cX8_renumber 231 = .ok (.if_icmp .ge 85, 3) := by decide +kernel
theorem dX8_renumber_234 : decode cX8_renumber 234 = .ok (.aload_n 0, 1) := by decide +kernel
theorem dX8_renumber_235 : decode cX8_renumber 235 = .ok (.iload 5, 2) := by decide +kernel
theorem dX8_renumber_237 : decode cX8_renumber 237 = .ok (.iload_n 1, 1) := by decide +kernel
theorem dX8_renumber_238 : decode cX8_renumber 238 = .ok (.invokevirtual 124, 3) := by decide +kernel
theorem dX8_renumber_241 : decode cX8_renumber 241 = .ok (.istore 6, 2) := by decide +kernel
theorem dX8_renumber_243 : decode cX8_renumber 243 = .ok (.iload 6, 2) := by decide +kernel
theorem dX8_renumber_245 : decode cX8_renumber 245 = .ok (.iconst (-1), 1) := by decide +kernel
theorem dX8_renumber_246 : decode cX8_renumber 246 = .ok (.if_icmp .eq 64, 3) := by decide +kernel
theorem dX8_renumber_249 : decode cX8_renumber 249 = .ok (.aload_n 0, 1) := by decide +kernel
theorem dX8_renumber_250 : decode cX8_renumber 250 = .ok (.getfield 43, 3) := by decide +kernel
theorem dX8_renumber_253 : decode cX8_renumber 253 = .ok (.iload 6, 2) := by decide +kernel
theorem dX8_renumber_255 : decode cX8_renumber 255 = .ok (.iaload, 1) := by decide +kernel
theorem dX8_renumber_256 : decode cX8_renumber 256 = .ok (.aload_n 0, 1) := by decide +kernel
theorem dX8_renumber_257 : decode cX8_renumber 257 = .ok (.getfield 73, 3) := by decide +kernel
theorem dX8_renumber_260 : decode cX8_renumber 260 = .ok (.iload 6, 2) := by decide +kernel
theorem dX8_renumber_262 : decode cX8_renumber 262 = .ok (.iaload, 1) := by decide +kernel
theorem dX8_renumber_263 : decode cX8_renumber 263 = .ok (.if_icmp .ne 6, 3) := by decide +kernel
theorem dX8_renumber_266 : decode cX8_renumber 266 = .ok (.goto 44, 3) := by decide +kernel
theorem dX8_renumber_269 : decode cX8_renumber 269 = .ok (.aload_n 0, 1) := by decide +kernel
theorem dX8_renumber_270 : decode cX8_renumber 270 = .ok (.aload_n 0, 1) := by decide +kernel
theorem dX8_renumber_271 : decode cX8_renumber 271 = .ok (.getfield 7, 3) := by decide +kernel
theorem dX8_renumber_274 : decode cX8_renumber 274 = .ok (.iload_n 1, 1) := by decide +kernel
theorem dX8_renumber_275 : decode cX8_renumber 275 = .ok (.laload, 1) := by decide +kernel
theorem dX8_renumber_276 : decode cX8_renumber 276 = .ok (.aload_n 0, 1) := by decide +kernel
theorem dX8_renumber_277 : decode cX8_renumber 277 = .ok (.getfield 73, 3) := by decide +kernel
theorem dX8_renumber_280 : decode cX8_renumber 280 = .ok (.iload 6, 2) := by decide +kernel
theorem dX8_renumber_282 : decode cX8_renumber 282 = .ok (.iaload, 1) := by decide +kernel
theorem dX8_renumber_283 : decode cX8_renumber 283 = .ok (.iload 5, 2) := by decide +kernel
theorem dX8_renumber_285 : decode cX8_renumber 285 = .ok (.invokevirtual 128, 3) := by decide +kernel
theorem dX8_renumber_288 : decode cX8_renumber 288 = .ok (.aload_n 0, 1) := by decide +kernel
theorem dX8_renumber_289 : decode cX8_renumber 289 = .ok (.aload_n 0, 1) := by decide +kernel
theorem dX8_renumber_290 : decode cX8_renumber 290 = .ok (.getfield 13, 3) := by decide +kernel
theorem dX8_renumber_293 : decode cX8_renumber 293 = .ok (.iload_n 1, 1) := by decide +kernel
theorem dX8_renumber_294 : decode cX8_renumber 294 = .ok (.laload, 1) := by decide +kernel
theorem dX8_renumber_295 : decode cX8_renumber 295 = .ok (.aload_n 0, 1) := by decide +kernel
theorem dX8_renumber_296 : decode cX8_renumber 296 = .ok (.getfield 73, 3) := by decide +kernel
theorem dX8_renumber_299 : decode cX8_renumber 299 = .ok (.iload 6, 2) := by decide +kernel
theorem dX8_renumber_301 : decode cX8_renumber 301 = .ok (.iaload, 1) := by decide +kernel
theorem dX8_renumber_302 : decode cX8_renumber 302 = .ok (.iload 5, 2) := by decide +kernel
theorem dX8_renumber_304 : decode cX8_renumber 304 = .ok (.invokevirtual 128, 3) := by decide +kernel
theorem dX8_renumber_307 : decode cX8_renumber 307 = .ok (.iinc 4 1, 3) := by decide +kernel
theorem dX8_renumber_310 : decode cX8_renumber 310 = .ok (.iinc 5 1, 3) := by decide +kernel
theorem dX8_renumber_313 : decode cX8_renumber 313 = .ok (.goto (-88), 3) := by decide +kernel
theorem dX8_renumber_316 : decode cX8_renumber 316 = .ok (.iload 4, 2) := by decide +kernel
theorem dX8_renumber_318 : decode cX8_renumber 318 = .ok (.ireturn, 1) := by decide +kernel
set_option maxRecDepth 20000 in
theorem ggX8_least_X8_isFarther : GoodIn wsX8_least wsX8_isFarther := goodIn_ca (goodIn_r _ [7, 8, 9, 10, 11, 6, 12, 13, 14, 15, 16, 17, 18, 19, 20, 21, 22, 23, 24, 25, 26, 27, 28, 29, 30, 31, 32, 33, 34, 35, 36, 37, 38, 39, 40, 41, 42, 43, 44] (by decide +kernel) (by decide +kernel)) (goodIn_sub (fun _ h => List.mem_cons_of_mem _ (List.mem_append_right _ h)) (by decide +kernel))
set_option maxRecDepth 20000 in
theorem gX8_least_X8_isFarther : GoodIn wsX8_least (wsV RX8 151 RX8 yX8_isFarther wsX8_isFarther) := goodIn_app (goodIn_of _ (by decide +kernel)) ggX8_least_X8_isFarther
theorem dX8_least_0 : decode cX8_least 0 = .ok (.iconst (-1), 1) := by decide +kernel
theorem dX8_least_1 : decode cX8_least 1 = .ok (.istore_n 2, 1) := by decide +kernel
theorem dX8_least_2 : decode cX8_least 2 = .ok (.iconst 0, 1) := by decide +kernel
theorem dX8_least_3 : decode cX8_least 3 = .ok (.istore_n 3, 1) := by decide +kernel
theorem dX8_least_4 : decode cX8_least 4 = .ok (.iload_n 3, 1) := by decide +kernel
theorem dX8_least_5 : decode cX8_least 5 = .ok (.iconst 2, 1) := by decide +kernel
theorem dX8_least_6 : decode cX8_least 6 = .ok (.aload_n 0, 1) := by decide +kernel
theorem dX8_least_7 : decode cX8_least 7 = .ok (.getfield 90, 3) := by decide +kernel
theorem dX8_least_10 : decode cX8_least 10 = .ok (.imul, 1) := by decide +kernel
theorem dX8_least_11 : decode cX8_least 11 = .ok (.if_icmp .ge 40, 3) := by decide +kernel
theorem dX8_least_14 : decode cX8_least 14 = .ok (.aload_n 0, 1) := by decide +kernel
theorem dX8_least_15 : decode cX8_least 15 = .ok (.getfield 34, 3) := by decide +kernel
theorem dX8_least_18 : decode cX8_least 18 = .ok (.iload_n 3, 1) := by decide +kernel
theorem dX8_least_19 : decode cX8_least 19 = .ok (.iaload, 1) := by decide +kernel
theorem dX8_least_20 : decode cX8_least 20 = .ok (.iload_n 1, 1) := by decide +kernel
theorem dX8_least_21 : decode cX8_least 21 = .ok (.if_icmp .ne 22, 3) := by decide +kernel
theorem dX8_least_24 : decode cX8_least 24 = .ok (.iload_n 2, 1) := by decide +kernel
theorem dX8_least_25 : decode cX8_least 25 = .ok (.iconst (-1), 1) := by decide +kernel
theorem dX8_least_26 : decode cX8_least 26 = .ok (.if_icmp .eq 13, 3) := by decide +kernel
theorem dX8_least_29 : decode cX8_least 29 = .ok (.aload_n 0, 1) := by decide +kernel
theorem dX8_least_30 : decode cX8_least 30 = .ok (.iload_n 1, 1) := by decide +kernel
theorem dX8_least_31 : decode cX8_least 31 = .ok (.iload_n 2, 1) := by decide +kernel
theorem dX8_least_32 : decode cX8_least 32 = .ok (.iload_n 3, 1) := by decide +kernel
theorem dX8_least_33 : decode cX8_least 33 = .ok (.invokevirtual 151, 3) := by decide +kernel
theorem dX8_least_36 : decode cX8_least 36 = .ok (.ifCond .eq 7, 3) := by decide +kernel
theorem dX8_least_39 : decode cX8_least 39 = .ok (.iload_n 3, 1) := by decide +kernel
theorem dX8_least_40 : decode cX8_least 40 = .ok (.goto 4, 3) := by decide +kernel
theorem dX8_least_43 : decode cX8_least 43 = .ok (.iload_n 2, 1) := by decide +kernel
theorem dX8_least_44 : decode cX8_least 44 = .ok (.istore_n 2, 1) := by decide +kernel
theorem dX8_least_45 : decode cX8_least 45 = .ok (.iinc 3 1, 3) := by decide +kernel
theorem dX8_least_48 : decode cX8_least 48 = .ok (.goto (-44), 3) := by decide +kernel
theorem dX8_least_51 : decode cX8_least 51 = .ok (.iload_n 2, 1) := by decide +kernel
theorem dX8_least_52 : decode cX8_least 52 = .ok (.ireturn, 1) := by decide +kernel
set_option maxRecDepth 20000 in
theorem ggX8_moves_X8_placeOn : GoodIn wsX8_moves wsX8_placeOn := goodIn_ca (goodIn_r _ [9, 4, 43, 44, 45, 46, 47, 48, 49, 50, 51, 52, 53, 54, 55, 56, 57, 58, 59, 60, 61, 62, 63, 64, 65, 66, 67, 68, 69, 70, 71, 72] (by decide +kernel) (by decide +kernel)) (goodIn_sub (fun _ h => List.mem_cons_of_mem _ (List.mem_append_right _ h)) (by decide +kernel))
set_option maxRecDepth 20000 in
theorem gX8_moves_X8_placeOn : GoodIn wsX8_moves (wsV RX8 124 RX8 yX8_placeOn wsX8_placeOn) := goodIn_app (goodIn_of _ (by decide +kernel)) ggX8_moves_X8_placeOn
set_option maxRecDepth 20000 in
theorem ggX8_moves_X8_puts : GoodIn wsX8_moves wsX8_puts := goodIn_ca (goodIn_r _ [13, 4, 1, 2, 3, 14, 43, 44, 45, 46, 47, 48, 49, 50, 51, 52, 53, 54, 55, 56, 57, 58, 59, 60, 61, 62, 63, 64, 65, 66, 67, 68, 69, 70, 71, 72] (by decide +kernel) (by decide +kernel)) (goodIn_sub (fun _ h => List.mem_cons_of_mem _ (List.mem_append_right _ h)) (by decide +kernel))
set_option maxRecDepth 20000 in
theorem gX8_moves_X8_puts : GoodIn wsX8_moves (wsV RX8 165 RX8 yX8_puts wsX8_puts) := goodIn_app (goodIn_of _ (by decide +kernel)) ggX8_moves_X8_puts
set_option maxRecDepth 20000 in
theorem ggX8_moves_X8_comes : GoodIn wsX8_moves wsX8_comes := goodIn_ca (goodIn_r _ [18, 19, 14, 20, 4, 3, 2, 1, 21, 22, 23, 8, 24, 25, 26, 27, 28, 29, 30, 31, 32, 33, 34, 35, 36, 37, 38, 39, 40, 41, 42, 43, 44, 45, 46, 47, 48, 49, 50, 51, 52, 53, 54, 55, 56, 57, 58, 59, 60, 61, 62, 63, 64, 65, 66, 67, 68, 69, 70, 71, 72] (by decide +kernel) (by decide +kernel)) (goodIn_sub (fun _ h => List.mem_cons_of_mem _ (List.mem_append_right _ h)) (by decide +kernel))
set_option maxRecDepth 20000 in
theorem gX8_moves_X8_comes : GoodIn wsX8_moves (wsV RX8 161 RX8 yX8_comes wsX8_comes) := goodIn_app (goodIn_of _ (by decide +kernel)) ggX8_moves_X8_comes
theorem dX8_moves_0 : decode cX8_moves 0 = .ok (.iload_n 1, 1) := by decide +kernel
theorem dX8_moves_1 : decode cX8_moves 1 = .ok (.iconst 2, 1) := by decide +kernel
theorem dX8_moves_2 : decode cX8_moves 2 = .ok (.idiv, 1) := by decide +kernel
theorem dX8_moves_3 : decode cX8_moves 3 = .ok (.istore 4, 2) := by decide +kernel
theorem dX8_moves_5 : decode cX8_moves 5 = .ok (.aload_n 0, 1) := by decide +kernel
theorem dX8_moves_6 : decode cX8_moves 6 = .ok (.iload 4, 2) := by decide +kernel
theorem dX8_moves_8 : decode cX8_moves 8 = .ok (.iload_n 2, 1) := by decide +kernel
theorem dX8_moves_9 : decode cX8_moves 9 = .ok (.invokevirtual 124, 3) := by decide +kernel
theorem dX8_moves_12 : decode cX8_moves 12 = .ok (.istore 5, 2) := by decide +kernel
theorem dX8_moves_14 : decode cX8_moves 14 = .ok (.iload 5, 2) := by decide +kernel
theorem dX8_moves_16 : decode cX8_moves 16 = .ok (.iconst (-1), 1) := by decide +kernel
theorem dX8_moves_17 : decode cX8_moves 17 = .ok (.if_icmp .eq 71, 3) := by decide +kernel
theorem dX8_moves_20 : decode cX8_moves 20 = .ok (.aload_n 0, 1) := by decide +kernel
theorem dX8_moves_21 : decode cX8_moves 21 = .ok (.getfield 37, 3) := by decide +kernel
theorem dX8_moves_24 : decode cX8_moves 24 = .ok (.iload 5, 2) := by decide +kernel
theorem dX8_moves_26 : decode cX8_moves 26 = .ok (.iaload, 1) := by decide +kernel
theorem dX8_moves_27 : decode cX8_moves 27 = .ok (.istore 6, 2) := by decide +kernel
theorem dX8_moves_29 : decode cX8_moves 29 = .ok (.aload_n 0, 1) := by decide +kernel
theorem dX8_moves_30 : decode cX8_moves 30 = .ok (.getfield 40, 3) := by decide +kernel
theorem dX8_moves_33 : decode cX8_moves 33 = .ok (.iload 5, 2) := by decide +kernel
theorem dX8_moves_35 : decode cX8_moves 35 = .ok (.caload, 1) := by decide +kernel
theorem dX8_moves_36 : decode cX8_moves 36 = .ok (.istore 7, 2) := by decide +kernel
theorem dX8_moves_38 : decode cX8_moves 38 = .ok (.aload_n 0, 1) := by decide +kernel
theorem dX8_moves_39 : decode cX8_moves 39 = .ok (.getfield 43, 3) := by decide +kernel
theorem dX8_moves_42 : decode cX8_moves 42 = .ok (.iload 5, 2) := by decide +kernel
theorem dX8_moves_44 : decode cX8_moves 44 = .ok (.iaload, 1) := by decide +kernel
theorem dX8_moves_45 : decode cX8_moves 45 = .ok (.istore 8, 2) := by decide +kernel
theorem dX8_moves_47 : decode cX8_moves 47 = .ok (.aload_n 0, 1) := by decide +kernel
theorem dX8_moves_48 : decode cX8_moves 48 = .ok (.getfield 34, 3) := by decide +kernel
theorem dX8_moves_51 : decode cX8_moves 51 = .ok (.iconst 2, 1) := by decide +kernel
theorem dX8_moves_52 : decode cX8_moves 52 = .ok (.iload 4, 2) := by decide +kernel
theorem dX8_moves_54 : decode cX8_moves 54 = .ok (.imul, 1) := by decide +kernel
theorem dX8_moves_55 : decode cX8_moves 55 = .ok (.iconst 1, 1) := by decide +kernel
theorem dX8_moves_56 : decode cX8_moves 56 = .ok (.iadd, 1) := by decide +kernel
theorem dX8_moves_57 : decode cX8_moves 57 = .ok (.iconst (-1), 1) := by decide +kernel
theorem dX8_moves_58 : decode cX8_moves 58 = .ok (.iastore, 1) := by decide +kernel
theorem dX8_moves_59 : decode cX8_moves 59 = .ok (.aload_n 0, 1) := by decide +kernel
theorem dX8_moves_60 : decode cX8_moves 60 = .ok (.getfield 43, 3) := by decide +kernel
theorem dX8_moves_63 : decode cX8_moves 63 = .ok (.iconst 2, 1) := by decide +kernel
theorem dX8_moves_64 : decode cX8_moves 64 = .ok (.iload 4, 2) := by decide +kernel
theorem dX8_moves_66 : decode cX8_moves 66 = .ok (.imul, 1) := by decide +kernel
theorem dX8_moves_67 : decode cX8_moves 67 = .ok (.iconst 1, 1) := by decide +kernel
theorem dX8_moves_68 : decode cX8_moves 68 = .ok (.iadd, 1) := by decide +kernel
theorem dX8_moves_69 : decode cX8_moves 69 = .ok (.iconst (-1), 1) := by decide +kernel
theorem dX8_moves_70 : decode cX8_moves 70 = .ok (.iastore, 1) := by decide +kernel
theorem dX8_moves_71 : decode cX8_moves 71 = .ok (.aload_n 0, 1) := by decide +kernel
theorem dX8_moves_72 : decode cX8_moves 72 = .ok (.iconst 2, 1) := by decide +kernel
theorem dX8_moves_73 : decode cX8_moves 73 = .ok (.iload 4, 2) := by decide +kernel
theorem dX8_moves_75 : decode cX8_moves 75 = .ok (.imul, 1) := by decide +kernel
theorem dX8_moves_76 : decode cX8_moves 76 = .ok (.iload_n 2, 1) := by decide +kernel
theorem dX8_moves_77 : decode cX8_moves 77 = .ok (.iload 6, 2) := by decide +kernel
theorem dX8_moves_79 : decode cX8_moves 79 = .ok (.iload 7, 2) := by decide +kernel
theorem dX8_moves_81 : decode cX8_moves 81 = .ok (.iload 8, 2) := by decide +kernel
theorem dX8_moves_83 : decode cX8_moves 83 = .ok (.invokevirtual 165, 3) := by decide +kernel
theorem dX8_moves_86 : decode cX8_moves 86 = .ok (.iconst 1, 1) := by decide +kernel
theorem dX8_moves_87 : decode cX8_moves 87 = .ok (.ireturn, 1) := by decide +kernel
theorem dX8_moves_88 : decode cX8_moves 88 = .ok (.iload_n 3, 1) := by decide +kernel
theorem dX8_moves_89 : decode cX8_moves 89 = .ok (.aload_n 0, 1) := by decide +kernel
theorem dX8_moves_90 : decode cX8_moves 90 = .ok (.getfield 37, 3) := by decide +kernel
theorem dX8_moves_93 : decode cX8_moves 93 = .ok (.iload_n 1, 1) := by decide +kernel
theorem dX8_moves_94 : decode cX8_moves 94 = .ok (.iaload, 1) := by decide +kernel
theorem dX8_moves_95 : decode cX8_moves 95 = .ok (.iadd, 1) := by decide +kernel
theorem dX8_moves_96 : decode cX8_moves 96 = .ok (.istore 6, 2) := by decide +kernel
theorem dX8_moves_98 : decode cX8_moves 98 = .ok (.aload_n 0, 1) := by decide +kernel
theorem dX8_moves_99 : decode cX8_moves 99 = .ok (.getfield 34, 3) := by decide +kernel
theorem dX8_moves_102 : decode cX8_moves 102 = .ok (.iload_n 1, 1) := by decide +kernel
theorem dX8_moves_103 : decode cX8_moves 103 = .ok (.iconst (-1), 1) := by decide +kernel
theorem dX8_moves_104 : decode cX8_moves 104 = .ok (.iastore, 1) := by decide +kernel
theorem dX8_moves_105 : decode cX8_moves 105 = .ok (.aload_n 0, 1) := by decide +kernel
theorem dX8_moves_106 : decode cX8_moves 106 = .ok (.iload_n 2, 1) := by decide +kernel
theorem dX8_moves_107 : decode cX8_moves 107 = .ok (.iload 4, 2) := by decide +kernel
theorem dX8_moves_109 : decode cX8_moves 109 = .ok (.iload 6, 2) := by decide +kernel
theorem dX8_moves_111 : decode cX8_moves 111 = .ok (.aload_n 0, 1) := by decide +kernel
theorem dX8_moves_112 : decode cX8_moves 112 = .ok (.getfield 40, 3) := by decide +kernel
theorem dX8_moves_115 : decode cX8_moves 115 = .ok (.iload_n 1, 1) := by decide +kernel
theorem dX8_moves_116 : decode cX8_moves 116 = .ok (.caload, 1) := by decide +kernel
theorem dX8_moves_117 : decode cX8_moves 117 = .ok (.invokevirtual 161, 3) := by decide +kernel
theorem dX8_moves_120 : decode cX8_moves 120 = .ok (.istore 7, 2) := by decide +kernel
theorem dX8_moves_122 : decode cX8_moves 122 = .ok (.iload 7, 2) := by decide +kernel
theorem dX8_moves_124 : decode cX8_moves 124 = .ok (.ifCond .lt 19, 3) := by decide +kernel
theorem dX8_moves_127 : decode cX8_moves 127 = .ok (.aload_n 0, 1) := by decide +kernel
theorem dX8_moves_128 : decode cX8_moves 128 = .ok (.iload_n 1, 1) := by decide +kernel
theorem dX8_moves_129 : decode cX8_moves 129 = .ok (.iload_n 2, 1) := by decide +kernel
theorem dX8_moves_130 : decode cX8_moves 130 = .ok (.iload 6, 2) := by decide +kernel
theorem dX8_moves_132 : decode cX8_moves 132 = .ok (.aload_n 0, 1) := by decide +kernel
theorem dX8_moves_133 : decode cX8_moves 133 = .ok (.getfield 40, 3) := by decide +kernel
theorem dX8_moves_136 : decode cX8_moves 136 = .ok (.iload_n 1, 1) := by decide +kernel
theorem dX8_moves_137 : decode cX8_moves 137 = .ok (.caload, 1) := by decide +kernel
theorem dX8_moves_138 : decode cX8_moves 138 = .ok (.iload 7, 2) := by decide +kernel
theorem dX8_moves_140 : decode cX8_moves 140 = .ok (.invokevirtual 165, 3) := by decide +kernel
theorem dX8_moves_143 : decode cX8_moves 143 = .ok (.iload 7, 2) := by decide +kernel
theorem dX8_moves_145 : decode cX8_moves 145 = .ok (.ifCond .lt 7, 3) := by decide +kernel
theorem dX8_moves_148 : decode cX8_moves 148 = .ok (.iconst 1, 1) := by decide +kernel
theorem dX8_moves_149 : decode cX8_moves 149 = .ok (.goto 4, 3) := by decide +kernel
theorem dX8_moves_152 : decode cX8_moves 152 = .ok (.iconst 0, 1) := by decide +kernel
theorem dX8_moves_153 : decode cX8_moves 153 = .ok (.ireturn, 1) := by decide +kernel
set_option maxRecDepth 20000 in
theorem ggX8_join_X8_isStreet : GoodIn wsX8_join wsX8_isStreet := goodIn_ca (goodIn_r _ [13, 14, 8, 15, 16, 12, 17, 89, 90, 91, 92, 93, 94, 95, 96, 97, 98, 99, 100, 101, 102, 103, 104, 105, 106, 107, 108, 109, 110, 111, 112, 113, 114, 115, 116, 117, 118] (by decide +kernel) (by decide +kernel)) (goodIn_sub (fun _ h => List.mem_cons_of_mem _ (List.mem_append_right _ h)) (by decide +kernel))
set_option maxRecDepth 20000 in
theorem gX8_join_X8_isStreet : GoodIn wsX8_join (wsV RX8 132 RX8 yX8_isStreet wsX8_isStreet) := goodIn_app (goodIn_of _ (by decide +kernel)) ggX8_join_X8_isStreet
set_option maxRecDepth 20000 in
theorem ggX8_join_X8_no : GoodIn wsX8_join wsX8_no := goodIn_r _ [21, 22, 89, 90, 91, 92, 93, 94, 95, 96, 97, 98, 99, 100, 101, 102, 103, 104, 105, 106, 107, 108, 109, 110, 111, 112, 113, 114, 115, 116, 117, 118] (by decide +kernel) (by decide +kernel)
set_option maxRecDepth 20000 in
theorem gX8_join_X8_no : GoodIn wsX8_join (wsV RX8 93 RX8 yX8_no wsX8_no) := goodIn_app (goodIn_of _ (by decide +kernel)) ggX8_join_X8_no
set_option maxRecDepth 20000 in
theorem ggX8_join_X8_keeps : GoodIn wsX8_join wsX8_keeps := goodIn_ca (goodIn_r _ [26, 4, 27, 28, 29, 30, 31, 6, 32, 89, 90, 91, 92, 93, 94, 95, 96, 97, 98, 99, 100, 101, 102, 103, 104, 105, 106, 107, 108, 109, 110, 111, 112, 113, 114, 115, 116, 117, 118] (by decide +kernel) (by decide +kernel)) (goodIn_sub (fun _ h => List.mem_cons_of_mem _ (List.mem_append_right _ h)) (by decide +kernel))
set_option maxRecDepth 20000 in
theorem gX8_join_X8_keeps : GoodIn wsX8_join (wsV RX8 184 RX8 yX8_keeps wsX8_keeps) := goodIn_app (goodIn_of _ (by decide +kernel)) ggX8_join_X8_keeps
set_option maxRecDepth 20000 in
theorem ggX8_join_X8_least : GoodIn wsX8_join wsX8_least := goodIn_ca (goodIn_r _ [36, 3, 27, 37, 38, 39, 12, 40, 29, 41, 42, 43, 44, 45, 1, 89, 90, 91, 92, 93, 94, 95, 96, 97, 98, 99, 100, 101, 102, 103, 104, 105, 106, 107, 108, 109, 110, 111, 112, 113, 114, 115, 116, 117, 118] (by decide +kernel) (by decide +kernel)) (goodIn_sub (fun _ h => List.mem_cons_of_mem _ (List.mem_append_right _ h)) (by decide +kernel))
set_option maxRecDepth 20000 in
theorem gX8_join_X8_least : GoodIn wsX8_join (wsV RX8 194 RX8 yX8_least wsX8_least) := goodIn_app (goodIn_of _ (by decide +kernel)) ggX8_join_X8_least
set_option maxRecDepth 20000 in
theorem ggX8_join_X8_moves : GoodIn wsX8_join wsX8_moves := goodIn_ca (goodIn_r _ [49, 29, 31, 32, 27, 50, 51, 52, 12, 53, 54, 55, 56, 57, 2, 58, 59, 60, 61, 62, 3, 41, 42, 43, 44, 45, 1, 63, 64, 65, 66, 67, 68, 69, 70, 37, 38, 39, 40, 71, 72, 73, 74, 89, 90, 91, 92, 93, 94, 95, 96, 97, 98, 99, 100, 101, 102, 103, 104, 105, 106, 107, 108, 109, 110, 111, 112, 113, 114, 115, 116, 117, 118] (by decide +kernel) (by decide +kernel)) (goodIn_sub (fun _ h => List.mem_cons_of_mem _ (List.mem_append_right _ h)) (by decide +kernel))
set_option maxRecDepth 20000 in
theorem gX8_join_X8_moves : GoodIn wsX8_join (wsV RX8 197 RX8 yX8_moves wsX8_moves) := goodIn_app (goodIn_of _ (by decide +kernel)) ggX8_join_X8_moves
set_option maxRecDepth 20000 in
theorem ggX8_join_X8_givesBack : GoodIn wsX8_join wsX8_givesBack := goodIn_ca (goodIn_r _ [78, 27, 4, 29, 28, 31, 30, 32, 6, 89, 90, 91, 92, 93, 94, 95, 96, 97, 98, 99, 100, 101, 102, 103, 104, 105, 106, 107, 108, 109, 110, 111, 112, 113, 114, 115, 116, 117, 118] (by decide +kernel) (by decide +kernel)) (goodIn_sub (fun _ h => List.mem_cons_of_mem _ (List.mem_append_right _ h)) (by decide +kernel))
set_option maxRecDepth 20000 in
theorem gX8_join_X8_givesBack : GoodIn wsX8_join (wsV RX8 191 RX8 yX8_givesBack wsX8_givesBack) := goodIn_app (goodIn_of _ (by decide +kernel)) ggX8_join_X8_givesBack
set_option maxRecDepth 20000 in
theorem ggX8_join_X8_old : GoodIn wsX8_join wsX8_old := goodIn_ca (goodIn_r _ [82, 83, 84, 85, 86, 87, 88, 89, 90, 91, 92, 93, 94, 95, 96, 97, 98, 99, 100, 101, 102, 103, 104, 105, 106, 107, 108, 109, 110, 111, 112, 113, 114, 115, 116, 117, 118] (by decide +kernel) (by decide +kernel)) (goodIn_sub (fun _ h => List.mem_cons_of_mem _ (List.mem_append_right _ h)) (by decide +kernel))
set_option maxRecDepth 20000 in
theorem gX8_join_X8_old : GoodIn wsX8_join (wsV RX8 128 RX8 yX8_old wsX8_old) := goodIn_app (goodIn_of _ (by decide +kernel)) ggX8_join_X8_old
theorem dX8_join_0 : decode cX8_join 0 = .ok (.aload_n 0, 1) := by decide +kernel
theorem dX8_join_1 : decode cX8_join 1 = .ok (.aload_n 0, 1) := by decide +kernel
theorem dX8_join_2 : decode cX8_join 2 = .ok (.iload_n 1, 1) := by decide +kernel
theorem dX8_join_3 : decode cX8_join 3 = .ok (.invokevirtual 132, 3) := by decide +kernel
theorem dX8_join_6 : decode cX8_join 6 = .ok (.ifCond .eq 15, 3) := by decide +kernel
theorem dX8_join_9 : decode cX8_join 9 = .ok (.aload_n 0, 1) := by decide +kernel
theorem dX8_join_10 : decode cX8_join 10 = .ok (.iload_n 2, 1) := by decide +kernel
theorem dX8_join_11 : decode cX8_join 11 = .ok (.invokevirtual 132, 3) := by decide +kernel
theorem dX8_join_14 : decode cX8_join 14 = .ok (.ifCond .eq 7, 3) := by decide +kernel
theorem dX8_join_17 : decode cX8_join 17 = .ok (.iconst 1, 1) := by decide +kernel
theorem dX8_join_18 : decode cX8_join 18 = .ok (.goto 4, 3) := by decide +kernel
theorem dX8_join_21 : decode cX8_join 21 = .ok (.iconst 0, 1) := by decide +kernel
theorem dX8_join_22 : decode cX8_join 22 = .ok (.iconst 1, 1) := by decide +kernel
theorem dX8_join_23 : decode cX8_join 23 = .ok (.invokevirtual 93, 3) := by decide +kernel
theorem dX8_join_26 : decode cX8_join 26 = .ok (.ifCond .ne 40, 3) := by decide +kernel
theorem dX8_join_29 : decode cX8_join 29 = .ok (.aload_n 0, 1) := by decide +kernel
theorem dX8_join_30 : decode cX8_join 30 = .ok (.iload_n 1, 1) := by decide +kernel
theorem dX8_join_31 : decode cX8_join 31 = .ok (.iload_n 2, 1) := by decide +kernel
theorem dX8_join_32 : decode cX8_join 32 = .ok (.if_icmp .eq 26, 3) := by decide +kernel
theorem dX8_join_35 : decode cX8_join 35 = .ok (.aload_n 0, 1) := by decide +kernel
theorem dX8_join_36 : decode cX8_join 36 = .ok (.getfield 16, 3) := by decide +kernel
theorem dX8_join_39 : decode cX8_join 39 = .ok (.iload_n 1, 1) := by decide +kernel
theorem dX8_join_40 : decode cX8_join 40 = .ok (.iaload, 1) := by decide +kernel
theorem dX8_join_41 : decode cX8_join 41 = .ok (.aload_n 0, 1) := by decide +kernel
theorem dX8_join_42 : decode cX8_join 42 = .ok (.getfield 16, 3) := by decide +kernel
theorem dX8_join_45 : decode cX8_join 45 = .ok (.iload_n 2, 1) := by decide +kernel
theorem dX8_join_46 : decode cX8_join 46 = .ok (.iaload, 1) := by decide +kernel
theorem dX8_join_47 : decode cX8_join 47 = .ok (.iadd, 1) := by decide +kernel
theorem dX8_join_48 : decode cX8_join 48 = .ok (.sipush 999, 3) := by decide +kernel
theorem dX8_join_51 : decode cX8_join 51 = .ok (.if_icmp .gt 7, 3) := by decide +kernel
theorem dX8_join_54 : decode cX8_join 54 = .ok (.iconst 1, 1) := by decide +kernel
theorem dX8_join_55 : decode cX8_join 55 = .ok (.goto 4, 3) := by decide +kernel
theorem dX8_join_58 : decode cX8_join 58 = .ok (.iconst 0, 1) := by decide +kernel
theorem dX8_join_59 : decode cX8_join 59 = .ok (.iconst 2, 1) := by decide +kernel
theorem dX8_join_60 : decode cX8_join 60 = .ok (.invokevirtual 93, 3) := by decide +kernel
theorem dX8_join_63 : decode cX8_join 63 = .ok (.ifCond .eq 5, 3) := by decide +kernel
theorem dX8_join_66 : decode cX8_join 66 = .ok (.iconst 0, 1) := by decide +kernel
theorem dX8_join_67 : decode cX8_join 67 = .ok (.ireturn, 1) := by decide +kernel
theorem dX8_join_68 : decode cX8_join 68 = .ok (.aload_n 0, 1) := by decide +kernel
theorem dX8_join_69 : decode cX8_join 69 = .ok (.invokevirtual 184, 3) := by decide +kernel
theorem dX8_join_72 : decode cX8_join 72 = .ok (.aload_n 0, 1) := by decide +kernel
theorem dX8_join_73 : decode cX8_join 73 = .ok (.getfield 31, 3) := by decide +kernel
theorem dX8_join_76 : decode cX8_join 76 = .ok (.iload_n 1, 1) := by decide +kernel
theorem dX8_join_77 : decode cX8_join 77 = .ok (.iaload, 1) := by decide +kernel
theorem dX8_join_78 : decode cX8_join 78 = .ok (.istore_n 3, 1) := by decide +kernel
theorem dX8_join_79 : decode cX8_join 79 = .ok (.aload_n 0, 1) := by decide +kernel
theorem dX8_join_80 : decode cX8_join 80 = .ok (.getfield 16, 3) := by decide +kernel
theorem dX8_join_83 : decode cX8_join 83 = .ok (.iload_n 1, 1) := by decide +kernel
theorem dX8_join_84 : decode cX8_join 84 = .ok (.iaload, 1) := by decide +kernel
theorem dX8_join_85 : decode cX8_join 85 = .ok (.istore 4, 2) := by decide +kernel
theorem dX8_join_87 : decode cX8_join 87 = .ok (.aload_n 0, 1) := by decide +kernel
theorem dX8_join_88 : decode cX8_join 88 = .ok (.getfield 16, 3) := by decide +kernel
theorem dX8_join_91 : decode cX8_join 91 = .ok (.iload_n 1, 1) := by decide +kernel
theorem dX8_join_92 : decode cX8_join 92 = .ok (.dup2, 1) := by decide +kernel
theorem dX8_join_93 : decode cX8_join 93 = .ok (.iaload, 1) := by decide +kernel
theorem dX8_join_94 : decode cX8_join 94 = .ok (.aload_n 0, 1) := by decide +kernel
theorem dX8_join_95 : decode cX8_join 95 = .ok (.getfield 16, 3) := by decide +kernel
theorem dX8_join_98 : decode cX8_join 98 = .ok (.iload_n 2, 1) := by decide +kernel
theorem dX8_join_99 : decode cX8_join 99 = .ok (.iaload, 1) := by decide +kernel
theorem dX8_join_100 : decode cX8_join 100 = .ok (.iadd, 1) := by decide +kernel
theorem dX8_join_101 : decode cX8_join 101 = .ok (.iastore, 1) := by decide +kernel
theorem dX8_join_102 : decode cX8_join 102 = .ok (.iconst 1, 1) := by decide +kernel
theorem dX8_join_103 : decode cX8_join 103 = .ok (.istore 5, 2) := by decide +kernel
theorem dX8_join_105 : decode cX8_join 105 = .ok (.aload_n 0, 1) := by decide +kernel
theorem dX8_join_106 : decode cX8_join 106 = .ok (.iload_n 2, 1) := by decide +kernel
theorem dX8_join_107 : decode cX8_join 107 = .ok (.invokevirtual 194, 3) := by decide +kernel
theorem dX8_join_110 : decode cX8_join 110 = .ok (.istore 6, 2) := by decide +kernel
theorem dX8_join_112 : decode cX8_join 112 = .ok (.iload 5, 2) := by decide +kernel
theorem dX8_join_114 : decode cX8_join 114 = .ok (.ifCond .eq 30, 3) := by decide +kernel
theorem dX8_join_117 : decode cX8_join 117 = .ok (.iload 6, 2) := by decide +kernel
theorem dX8_join_119 : decode cX8_join 119 = .ok (.iconst (-1), 1) := by decide +kernel
theorem dX8_join_120 : decode cX8_join 120 = .ok (.if_icmp .eq 24, 3) := by decide +kernel
theorem dX8_join_123 : decode cX8_join 123 = .ok (.aload_n 0, 1) := by decide +kernel
theorem dX8_join_124 : decode cX8_join 124 = .ok (.iload 6, 2) := by decide +kernel
theorem dX8_join_126 : decode cX8_join 126 = .ok (.iload_n 1, 1) := by decide +kernel
theorem dX8_join_127 : decode cX8_join 127 = .ok (.iload 4, 2) := by decide +kernel
theorem dX8_join_129 : decode cX8_join 129 = .ok (.invokevirtual 197, 3) := by decide +kernel
theorem dX8_join_132 : decode cX8_join 132 = .ok (.istore 5, 2) := by decide +kernel
theorem dX8_join_134 : decode cX8_join 134 = .ok (.aload_n 0, 1) := by decide +kernel
theorem dX8_join_135 : decode cX8_join 135 = .ok (.iload_n 2, 1) := by decide +kernel
theorem dX8_join_136 : decode cX8_join 136 = .ok (.invokevirtual 194, 3) := by decide +kernel
theorem dX8_join_139 : decode cX8_join 139 = .ok (.istore 6, 2) := by decide +kernel
theorem dX8_join_141 : decode cX8_join 141 = .ok (.goto (-29), 3) := by decide +kernel
theorem dX8_join_144 : decode cX8_join 144 = .ok (.aload_n 0, 1) := by decide +kernel
theorem dX8_join_145 : decode cX8_join 145 = .ok (.iload 5, 2) := by decide +kernel
theorem dX8_join_147 : decode cX8_join 147 = .ok (.iconst 3, 1) := by decide +kernel
theorem dX8_join_148 : decode cX8_join 148 = .ok (.invokevirtual 93, 3) := by decide +kernel
theorem dX8_join_151 : decode cX8_join 151 = .ok (.ifCond .eq 24, 3) := by decide +kernel
theorem dX8_join_154 : decode cX8_join 154 = .ok (.aload_n 0, 1) := by decide +kernel
theorem dX8_join_155 : decode cX8_join 155 = .ok (.invokevirtual 191, 3) := by decide +kernel
theorem dX8_join_158 : decode cX8_join 158 = .ok (.aload_n 0, 1) := by decide +kernel
theorem dX8_join_159 : decode cX8_join 159 = .ok (.getfield 31, 3) := by decide +kernel
theorem dX8_join_162 : decode cX8_join 162 = .ok (.iload_n 1, 1) := by decide +kernel
theorem dX8_join_163 : decode cX8_join 163 = .ok (.iload_n 3, 1) := by decide +kernel
theorem dX8_join_164 : decode cX8_join 164 = .ok (.iastore, 1) := by decide +kernel
theorem dX8_join_165 : decode cX8_join 165 = .ok (.aload_n 0, 1) := by decide +kernel
theorem dX8_join_166 : decode cX8_join 166 = .ok (.getfield 16, 3) := by decide +kernel
theorem dX8_join_169 : decode cX8_join 169 = .ok (.iload_n 1, 1) := by decide +kernel
theorem dX8_join_170 : decode cX8_join 170 = .ok (.iload 4, 2) := by decide +kernel
theorem dX8_join_172 : decode cX8_join 172 = .ok (.iastore, 1) := by decide +kernel
theorem dX8_join_173 : decode cX8_join 173 = .ok (.iconst 0, 1) := by decide +kernel
theorem dX8_join_174 : decode cX8_join 174 = .ok (.ireturn, 1) := by decide +kernel
theorem dX8_join_175 : decode cX8_join 175 = .ok (.iconst 0, 1) := by decide +kernel
theorem dX8_join_176 : decode cX8_join 176 = .ok (.istore 6, 2) := by decide +kernel
theorem dX8_join_178 : decode cX8_join 178 = .ok (.iload 6, 2) := by decide +kernel
theorem dX8_join_180 : decode cX8_join 180 = .ok (.iconst 2, 1) := by decide +kernel
theorem dX8_join_181 : decode cX8_join 181 = .ok (.aload_n 0, 1) := by decide +kernel
theorem dX8_join_182 : decode cX8_join 182 = .ok (.getfield 90, 3) := by decide +kernel
theorem dX8_join_185 : decode cX8_join 185 = .ok (.imul, 1) := by decide +kernel
theorem dX8_join_186 : decode cX8_join 186 = .ok (.if_icmp .ge 65, 3) := by decide +kernel
theorem dX8_join_189 : decode cX8_join 189 = .ok (.aload_n 0, 1) := by decide +kernel
theorem dX8_join_190 : decode cX8_join 190 = .ok (.getfield 64, 3) := by decide +kernel
theorem dX8_join_193 : decode cX8_join 193 = .ok (.iload 6, 2) := by decide +kernel
theorem dX8_join_195 : decode cX8_join 195 = .ok (.iaload, 1) := by decide +kernel
theorem dX8_join_196 : decode cX8_join 196 = .ok (.iload_n 2, 1) := by decide +kernel
theorem dX8_join_197 : decode cX8_join 197 = .ok (.if_icmp .eq 6, 3) := by decide +kernel
theorem dX8_join_200 : decode cX8_join 200 = .ok (.goto 45, 3) := by decide +kernel
theorem dX8_join_203 : decode cX8_join 203 = .ok (.aload_n 0, 1) := by decide +kernel
theorem dX8_join_204 : decode cX8_join 204 = .ok (.aload_n 0, 1) := by decide +kernel
theorem dX8_join_205 : decode cX8_join 205 = .ok (.getfield 7, 3) := by decide +kernel
theorem dX8_join_208 : decode cX8_join 208 = .ok (.iload_n 2, 1) := by decide +kernel
theorem dX8_join_209 : decode cX8_join 209 = .ok (.laload, 1) := by decide +kernel
theorem dX8_join_210 : decode cX8_join 210 = .ok (.aload_n 0, 1) := by decide +kernel
theorem dX8_join_211 : decode cX8_join 211 = .ok (.getfield 73, 3) := by decide +kernel
theorem dX8_join_214 : decode cX8_join 214 = .ok (.iload 6, 2) := by decide +kernel
theorem dX8_join_216 : decode cX8_join 216 = .ok (.iaload, 1) := by decide +kernel
theorem dX8_join_217 : decode cX8_join 217 = .ok (.iload 6, 2) := by decide +kernel
theorem dX8_join_219 : decode cX8_join 219 = .ok (.iconst 2, 1) := by decide +kernel
theorem dX8_join_220 : decode cX8_join 220 = .ok (.idiv, 1) := by decide +kernel
theorem dX8_join_221 : decode cX8_join 221 = .ok (.invokevirtual 128, 3) := by decide +kernel
theorem dX8_join_224 : decode cX8_join 224 = .ok (.aload_n 0, 1) := by decide +kernel
theorem dX8_join_225 : decode cX8_join 225 = .ok (.aload_n 0, 1) := by decide +kernel
theorem dX8_join_226 : decode cX8_join 226 = .ok (.getfield 13, 3) := by decide +kernel
theorem dX8_join_229 : decode cX8_join 229 = .ok (.iload_n 2, 1) := by decide +kernel
theorem dX8_join_230 : decode cX8_join 230 = .ok (.laload, 1) := by decide +kernel
theorem dX8_join_231 : decode cX8_join 231 = .ok (.aload_n 0, 1) := by decide +kernel
theorem dX8_join_232 : decode cX8_join 232 = .ok (.getfield 73, 3) := by decide +kernel
theorem dX8_join_235 : decode cX8_join 235 = .ok (.iload 6, 2) := by decide +kernel
theorem dX8_join_237 : decode cX8_join 237 = .ok (.iaload, 1) := by decide +kernel
theorem dX8_join_238 : decode cX8_join 238 = .ok (.iload 6, 2) := by decide +kernel
theorem dX8_join_240 : decode cX8_join 240 = .ok (.iconst 2, 1) := by decide +kernel
theorem dX8_join_241 : decode cX8_join 241 = .ok (.idiv, 1) := by decide +kernel
theorem dX8_join_242 : decode cX8_join 242 = .ok (.invokevirtual 128, 3) := by decide +kernel
theorem dX8_join_245 : decode cX8_join 245 = .ok (.iinc 6 1, 3) := by decide +kernel
theorem dX8_join_248 : decode cX8_join 248 = .ok (.goto (-70), 3) := by decide +kernel
theorem dX8_join_251 : decode cX8_join 251 = .ok (.aload_n 0, 1) := by decide +kernel
theorem dX8_join_252 : decode cX8_join 252 = .ok (.getfield 28, 3) := by decide +kernel
theorem dX8_join_255 : decode cX8_join 255 = .ok (.iload_n 2, 1) := by decide +kernel
theorem dX8_join_256 : decode cX8_join 256 = .ok (.iconst 1, 1) := by decide +kernel
theorem dX8_join_257 : decode cX8_join 257 = .ok (.bastore, 1) := by decide +kernel
theorem dX8_join_258 : decode cX8_join 258 = .ok (.aload_n 0, 1) := by decide +kernel
theorem dX8_join_259 : decode cX8_join 259 = .ok (.getfield 16, 3) := by decide +kernel
theorem dX8_join_262 : decode cX8_join 262 = .ok (.iload_n 1, 1) := by decide +kernel
theorem dX8_join_263 : decode cX8_join 263 = .ok (.iaload, 1) := by decide +kernel
theorem dX8_join_264 : decode cX8_join 264 = .ok (.ireturn, 1) := by decide +kernel
set_option maxRecDepth 20000 in
theorem ggX8_day_X8_isBetween : GoodIn wsX8_day wsX8_isBetween := goodIn_r _ [5] (by decide +kernel) (by decide +kernel)
set_option maxRecDepth 20000 in
theorem gX8_day_X8_isBetween : GoodIn wsX8_day (va_wsS RX8 86 yX8_isBetween wsX8_isBetween) := goodIn_app (goodIn_of _ (by decide +kernel)) ggX8_day_X8_isBetween
set_option maxRecDepth 20000 in
theorem ggX8_day_X8_no : GoodIn wsX8_day wsX8_no := goodIn_r _ [9, 10, 11, 12, 13, 14, 15, 16, 17, 18, 19, 20, 21, 22, 23, 24, 25, 26, 27, 28, 29, 30, 31, 32, 33, 34, 35, 36, 37, 38, 39, 40] (by decide +kernel) (by decide +kernel)
set_option maxRecDepth 20000 in
theorem gX8_day_X8_no : GoodIn wsX8_day (wsV RX8 93 RX8 yX8_no wsX8_no) := goodIn_app (goodIn_of _ (by decide +kernel)) ggX8_day_X8_no
theorem dX8_day_0 : decode cX8_day 0 = .ok (.aload_n 0, 1) := by decide +kernel
theorem dX8_day_1 : decode cX8_day 1 = .ok (.iload_n 1, 1) := by decide +kernel
theorem dX8_day_2 : decode cX8_day 2 = .ok (.iconst 1, 1) := by decide +kernel
theorem dX8_day_3 : decode cX8_day 3 = .ok (.sipush 9999, 3) := by decide +kernel
theorem dX8_day_6 : decode cX8_day 6 = .ok (.invokestatic 86, 3) := by decide +kernel
theorem dX8_day_9 : decode cX8_day 9 = .ok (.iconst 1, 1) := by decide +kernel
theorem dX8_day_10 : decode cX8_day 10 = .ok (.invokevirtual 93, 3) := by decide +kernel
theorem dX8_day_13 : decode cX8_day 13 = .ok (.ifCond .eq 5, 3) := by decide +kernel
theorem dX8_day_16 : decode cX8_day 16 = .ok (.iconst 0, 1) := by decide +kernel
theorem dX8_day_17 : decode cX8_day 17 = .ok (.ireturn, 1) := by decide +kernel
theorem dX8_day_18 : decode cX8_day 18 = .ok (.aload_n 0, 1) := by decide +kernel
theorem dX8_day_19 : decode cX8_day 19 = .ok (.dup, 1) := by decide +kernel
theorem dX8_day_20 : decode cX8_day 20 = .ok (.getfield 121, 3) := by decide +kernel
theorem dX8_day_23 : decode cX8_day 23 = .ok (.iload_n 1, 1) := by decide +kernel
theorem dX8_day_24 : decode cX8_day 24 = .ok (.iadd, 1) := by decide +kernel
theorem dX8_day_25 : decode cX8_day 25 = .ok (.putfield 121, 3) := by decide +kernel
theorem dX8_day_28 : decode cX8_day 28 = .ok (.aload_n 0, 1) := by decide +kernel
theorem dX8_day_29 : decode cX8_day 29 = .ok (.getfield 121, 3) := by decide +kernel
theorem dX8_day_32 : decode cX8_day 32 = .ok (.ireturn, 1) := by decide +kernel
theorem dX8_placeOf_0 : decode cX8_placeOf 0 = .ok (.iconst 2, 1) := by decide +kernel
theorem dX8_placeOf_1 : decode cX8_placeOf 1 = .ok (.iload_n 1, 1) := by decide +kernel
theorem dX8_placeOf_2 : decode cX8_placeOf 2 = .ok (.imul, 1) := by decide +kernel
theorem dX8_placeOf_3 : decode cX8_placeOf 3 = .ok (.iload_n 2, 1) := by decide +kernel
theorem dX8_placeOf_4 : decode cX8_placeOf 4 = .ok (.ifCond .eq 7, 3) := by decide +kernel
theorem dX8_placeOf_7 : decode cX8_placeOf 7 = .ok (.iconst 1, 1) := by decide +kernel
theorem dX8_placeOf_8 : decode cX8_placeOf 8 = .ok (.goto 4, 3) := by decide +kernel
theorem dX8_placeOf_11 : decode cX8_placeOf 11 = .ok (.iconst 0, 1) := by decide +kernel
theorem dX8_placeOf_12 : decode cX8_placeOf 12 = .ok (.iadd, 1) := by decide +kernel
theorem dX8_placeOf_13 : decode cX8_placeOf 13 = .ok (.ireturn, 1) := by decide +kernel
set_option maxRecDepth 20000 in
theorem ggX8_address_X8_isDoor : GoodIn wsX8_address wsX8_isDoor := goodIn_r _ [7, 8, 9, 10, 6, 11, 21, 22, 23, 24, 25, 26, 27, 28, 29, 30, 31, 32, 33, 34, 35, 36, 37, 38, 39, 40, 41, 42, 43, 44, 45, 46, 47, 48, 49, 50] (by decide +kernel) (by decide +kernel)
