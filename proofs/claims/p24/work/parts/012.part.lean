theorem dX9_missed_50 : decode cX9_missed 50 = .ok (.iadd, 1) := by decide +kernel
theorem dX9_missed_51 : decode cX9_missed 51 = .ok (.istore_n 2, 1) := by decide +kernel
theorem dX9_missed_52 : decode cX9_missed 52 = .ok (.iinc 3 1, 3) := by decide +kernel
theorem dX9_missed_55 : decode cX9_missed 55 = .ok (.goto (-41), 3) := by decide +kernel
theorem dX9_missed_58 : decode cX9_missed 58 = .ok (.iload_n 2, 1) := by decide +kernel
theorem dX9_missed_59 : decode cX9_missed 59 = .ok (.ireturn, 1) := by decide +kernel
set_option maxRecDepth 20000 in
theorem ggX9_join_X9_is : GoodIn wsX9_join wsX9_is := goodIn_r _ [13, 5, 23, 24, 25, 26, 27, 28, 29, 30, 31, 32, 33, 34, 35, 36, 37, 38, 39, 40, 41, 42, 43, 44, 45] (by decide +kernel) (by decide +kernel)
set_option maxRecDepth 20000 in
theorem gX9_join_X9_is : GoodIn wsX9_join (wsV RX9 172 RX9 yX9_is wsX9_is) := goodIn_app (goodIn_of _ (by decide +kernel)) ggX9_join_X9_is
set_option maxRecDepth 20000 in
theorem ggX9_join_X9_begin : GoodIn wsX9_join wsX9_begin := goodIn_r _ [17, 5, 1, 2, 3, 4, 6, 18, 7, 23, 24, 25, 26, 27, 28, 29, 30, 31, 32, 33, 34, 35, 36, 37, 38, 39, 40, 41, 42, 43, 44, 45] (by decide +kernel) (by decide +kernel)
set_option maxRecDepth 20000 in
theorem gX9_join_X9_begin : GoodIn wsX9_join (wsV RX9 150 RX9 yX9_begin wsX9_begin) := goodIn_app (goodIn_of _ (by decide +kernel)) ggX9_join_X9_begin
set_option maxRecDepth 20000 in
theorem ggX9_join_X9_timesIn : GoodIn wsX9_join wsX9_timesIn := goodIn_r _ [22, 6, 8, 23, 24, 25, 26, 27, 28, 29, 30, 31, 32, 33, 34, 35, 36, 37, 38, 39, 40, 41, 42, 43, 44, 45] (by decide +kernel) (by decide +kernel)
set_option maxRecDepth 20000 in
theorem gX9_join_X9_timesIn : GoodIn wsX9_join (wsV RX9 181 RX9 yX9_timesIn wsX9_timesIn) := goodIn_app (goodIn_of _ (by decide +kernel)) ggX9_join_X9_timesIn
theorem dX9_join_0 : decode cX9_join 0 = .ok (.iload_n 1, 1) := by decide +kernel
theorem dX9_join_1 : decode cX9_join 1 = .ok (.ifCond .lt 24, 3) := by decide +kernel
theorem dX9_join_4 : decode cX9_join 4 = .ok (.iload_n 1, 1) := by decide +kernel
theorem dX9_join_5 : decode cX9_join 5 = .ok (.iconst 1, 1) := by decide +kernel
theorem dX9_join_6 : decode cX9_join 6 = .ok (.if_icmp .gt 19, 3) := by decide +kernel
theorem dX9_join_9 : decode cX9_join 9 = .ok (.aload_n 0, 1) := by decide +kernel
theorem dX9_join_10 : decode cX9_join 10 = .ok (.iload_n 2, 1) := by decide +kernel
theorem dX9_join_11 : decode cX9_join 11 = .ok (.invokevirtual 172, 3) := by decide +kernel
theorem dX9_join_14 : decode cX9_join 14 = .ok (.ifCond .eq 11, 3) := by decide +kernel
theorem dX9_join_17 : decode cX9_join 17 = .ok (.aload_n 0, 1) := by decide +kernel
theorem dX9_join_18 : decode cX9_join 18 = .ok (.iload_n 3, 1) := by decide +kernel
theorem dX9_join_19 : decode cX9_join 19 = .ok (.invokevirtual 172, 3) := by decide +kernel
theorem dX9_join_22 : decode cX9_join 22 = .ok (.ifCond .ne 5, 3) := by decide +kernel
theorem dX9_join_25 : decode cX9_join 25 = .ok (.iconst (-1), 1) := by decide +kernel
theorem dX9_join_26 : decode cX9_join 26 = .ok (.ireturn, 1) := by decide +kernel
theorem dX9_join_27 : decode cX9_join 27 = .ok (.aload_n 0, 1) := by decide +kernel
theorem dX9_join_28 : decode cX9_join 28 = .ok (.getfield 17, 3) := by decide +kernel
theorem dX9_join_31 : decode cX9_join 31 = .ok (.iload_n 2, 1) := by decide +kernel
theorem dX9_join_32 : decode cX9_join 32 = .ok (.iaload, 1) := by decide +kernel
theorem dX9_join_33 : decode cX9_join 33 = .ok (.ifCond .ne 57, 3) := by decide +kernel
theorem dX9_join_36 : decode cX9_join 36 = .ok (.aload_n 0, 1) := by decide +kernel
theorem dX9_join_37 : decode cX9_join 37 = .ok (.getfield 17, 3) := by decide +kernel
theorem dX9_join_40 : decode cX9_join 40 = .ok (.iload_n 3, 1) := by decide +kernel
theorem dX9_join_41 : decode cX9_join 41 = .ok (.iaload, 1) := by decide +kernel
theorem dX9_join_42 : decode cX9_join 42 = .ok (.ifCond .ne 48, 3) := by decide +kernel
theorem dX9_join_45 : decode cX9_join 45 = .ok (.aload_n 0, 1) := by decide +kernel
theorem dX9_join_46 : decode cX9_join 46 = .ok (.getfield 20, 3) := by decide +kernel
theorem dX9_join_49 : decode cX9_join 49 = .ok (.iload_n 2, 1) := by decide +kernel
theorem dX9_join_50 : decode cX9_join 50 = .ok (.iaload, 1) := by decide +kernel
theorem dX9_join_51 : decode cX9_join 51 = .ok (.aload_n 0, 1) := by decide +kernel
theorem dX9_join_52 : decode cX9_join 52 = .ok (.getfield 20, 3) := by decide +kernel
theorem dX9_join_55 : decode cX9_join 55 = .ok (.iload_n 3, 1) := by decide +kernel
theorem dX9_join_56 : decode cX9_join 56 = .ok (.iaload, 1) := by decide +kernel
theorem dX9_join_57 : decode cX9_join 57 = .ok (.if_icmp .ne 33, 3) := by decide +kernel
theorem dX9_join_60 : decode cX9_join 60 = .ok (.aload_n 0, 1) := by decide +kernel
theorem dX9_join_61 : decode cX9_join 61 = .ok (.getfield 23, 3) := by decide +kernel
theorem dX9_join_64 : decode cX9_join 64 = .ok (.iload_n 2, 1) := by decide +kernel
theorem dX9_join_65 : decode cX9_join 65 = .ok (.iaload, 1) := by decide +kernel
theorem dX9_join_66 : decode cX9_join 66 = .ok (.aload_n 0, 1) := by decide +kernel
theorem dX9_join_67 : decode cX9_join 67 = .ok (.getfield 23, 3) := by decide +kernel
theorem dX9_join_70 : decode cX9_join 70 = .ok (.iload_n 3, 1) := by decide +kernel
theorem dX9_join_71 : decode cX9_join 71 = .ok (.iaload, 1) := by decide +kernel
theorem dX9_join_72 : decode cX9_join 72 = .ok (.if_icmp .ne 18, 3) := by decide +kernel
theorem dX9_join_75 : decode cX9_join 75 = .ok (.aload_n 0, 1) := by decide +kernel
theorem dX9_join_76 : decode cX9_join 76 = .ok (.getfield 26, 3) := by decide +kernel
theorem dX9_join_79 : decode cX9_join 79 = .ok (.iload_n 2, 1) := by decide +kernel
theorem dX9_join_80 : decode cX9_join 80 = .ok (.iaload, 1) := by decide +kernel
theorem dX9_join_81 : decode cX9_join 81 = .ok (.aload_n 0, 1) := by decide +kernel
theorem dX9_join_82 : decode cX9_join 82 = .ok (.getfield 26, 3) := by decide +kernel
theorem dX9_join_85 : decode cX9_join 85 = .ok (.iload_n 3, 1) := by decide +kernel
theorem dX9_join_86 : decode cX9_join 86 = .ok (.iaload, 1) := by decide +kernel
theorem dX9_join_87 : decode cX9_join 87 = .ok (.if_icmp .eq 6, 3) := by decide +kernel
theorem dX9_join_90 : decode cX9_join 90 = .ok (.bipush (-2), 2) := by decide +kernel
theorem dX9_join_92 : decode cX9_join 92 = .ok (.ireturn, 1) := by decide +kernel
theorem dX9_join_93 : decode cX9_join 93 = .ok (.aload_n 0, 1) := by decide +kernel
theorem dX9_join_94 : decode cX9_join 94 = .ok (.getfield 88, 3) := by decide +kernel
theorem dX9_join_97 : decode cX9_join 97 = .ok (.bipush 30, 2) := by decide +kernel
theorem dX9_join_99 : decode cX9_join 99 = .ok (.if_icmp .eq 26, 3) := by decide +kernel
theorem dX9_join_102 : decode cX9_join 102 = .ok (.iload_n 1, 1) := by decide +kernel
theorem dX9_join_103 : decode cX9_join 103 = .ok (.ifCond .ne 25, 3) := by decide +kernel
theorem dX9_join_106 : decode cX9_join 106 = .ok (.aload_n 0, 1) := by decide +kernel
theorem dX9_join_107 : decode cX9_join 107 = .ok (.getfield 32, 3) := by decide +kernel
theorem dX9_join_110 : decode cX9_join 110 = .ok (.iload_n 2, 1) := by decide +kernel
theorem dX9_join_111 : decode cX9_join 111 = .ok (.iaload, 1) := by decide +kernel
theorem dX9_join_112 : decode cX9_join 112 = .ok (.aload_n 0, 1) := by decide +kernel
theorem dX9_join_113 : decode cX9_join 113 = .ok (.getfield 32, 3) := by decide +kernel
theorem dX9_join_116 : decode cX9_join 116 = .ok (.iload_n 3, 1) := by decide +kernel
theorem dX9_join_117 : decode cX9_join 117 = .ok (.iaload, 1) := by decide +kernel
theorem dX9_join_118 : decode cX9_join 118 = .ok (.iadd, 1) := by decide +kernel
theorem dX9_join_119 : decode cX9_join 119 = .ok (.sipush 1000, 3) := by decide +kernel
theorem dX9_join_122 : decode cX9_join 122 = .ok (.if_icmp .le 6, 3) := by decide +kernel
theorem dX9_join_125 : decode cX9_join 125 = .ok (.bipush (-4), 2) := by decide +kernel
theorem dX9_join_127 : decode cX9_join 127 = .ok (.ireturn, 1) := by decide +kernel
theorem dX9_join_128 : decode cX9_join 128 = .ok (.aload_n 0, 1) := by decide +kernel
theorem dX9_join_129 : decode cX9_join 129 = .ok (.iconst 0, 1) := by decide +kernel
theorem dX9_join_130 : decode cX9_join 130 = .ok (.aload_n 0, 1) := by decide +kernel
theorem dX9_join_131 : decode cX9_join 131 = .ok (.getfield 20, 3) := by decide +kernel
theorem dX9_join_134 : decode cX9_join 134 = .ok (.iload_n 2, 1) := by decide +kernel
theorem dX9_join_135 : decode cX9_join 135 = .ok (.iaload, 1) := by decide +kernel
theorem dX9_join_136 : decode cX9_join 136 = .ok (.aload_n 0, 1) := by decide +kernel
theorem dX9_join_137 : decode cX9_join 137 = .ok (.getfield 23, 3) := by decide +kernel
theorem dX9_join_140 : decode cX9_join 140 = .ok (.iload_n 2, 1) := by decide +kernel
theorem dX9_join_141 : decode cX9_join 141 = .ok (.iaload, 1) := by decide +kernel
theorem dX9_join_142 : decode cX9_join 142 = .ok (.aload_n 0, 1) := by decide +kernel
theorem dX9_join_143 : decode cX9_join 143 = .ok (.getfield 26, 3) := by decide +kernel
theorem dX9_join_146 : decode cX9_join 146 = .ok (.iload_n 2, 1) := by decide +kernel
theorem dX9_join_147 : decode cX9_join 147 = .ok (.iaload, 1) := by decide +kernel
theorem dX9_join_148 : decode cX9_join 148 = .ok (.invokevirtual 150, 3) := by decide +kernel
theorem dX9_join_151 : decode cX9_join 151 = .ok (.istore 4, 2) := by decide +kernel
theorem dX9_join_153 : decode cX9_join 153 = .ok (.iconst 0, 1) := by decide +kernel
theorem dX9_join_154 : decode cX9_join 154 = .ok (.istore 5, 2) := by decide +kernel
theorem dX9_join_156 : decode cX9_join 156 = .ok (.iload 5, 2) := by decide +kernel
theorem dX9_join_158 : decode cX9_join 158 = .ok (.aload_n 0, 1) := by decide +kernel
theorem dX9_join_159 : decode cX9_join 159 = .ok (.getfield 20, 3) := by decide +kernel
theorem dX9_join_162 : decode cX9_join 162 = .ok (.iload_n 2, 1) := by decide +kernel
theorem dX9_join_163 : decode cX9_join 163 = .ok (.iaload, 1) := by decide +kernel
theorem dX9_join_164 : decode cX9_join 164 = .ok (.if_icmp .ge 70, 3) := by decide +kernel
theorem dX9_join_167 : decode cX9_join 167 = .ok (.aload_n 0, 1) := by decide +kernel
theorem dX9_join_168 : decode cX9_join 168 = .ok (.getfield 36, 3) := by decide +kernel
theorem dX9_join_171 : decode cX9_join 171 = .ok (.iload_n 2, 1) := by decide +kernel
theorem dX9_join_172 : decode cX9_join 172 = .ok (.sipush 4096, 3) := by decide +kernel
theorem dX9_join_175 : decode cX9_join 175 = .ok (.imul, 1) := by decide +kernel
theorem dX9_join_176 : decode cX9_join 176 = .ok (.iload 5, 2) := by decide +kernel
theorem dX9_join_178 : decode cX9_join 178 = .ok (.iadd, 1) := by decide +kernel
theorem dX9_join_179 : decode cX9_join 179 = .ok (.iaload, 1) := by decide +kernel
theorem dX9_join_180 : decode cX9_join 180 = .ok (.istore 6, 2) := by decide +kernel
theorem dX9_join_182 : decode cX9_join 182 = .ok (.aload_n 0, 1) := by decide +kernel
theorem dX9_join_183 : decode cX9_join 183 = .ok (.getfield 36, 3) := by decide +kernel
theorem dX9_join_186 : decode cX9_join 186 = .ok (.iload_n 3, 1) := by decide +kernel
theorem dX9_join_187 : decode cX9_join 187 = .ok (.sipush 4096, 3) := by decide +kernel
theorem dX9_join_190 : decode cX9_join 190 = .ok (.imul, 1) := by decide +kernel
theorem dX9_join_191 : decode cX9_join 191 = .ok (.iload 5, 2) := by decide +kernel
theorem dX9_join_193 : decode cX9_join 193 = .ok (.iadd, 1) := by decide +kernel
theorem dX9_join_194 : decode cX9_join 194 = .ok (.iaload, 1) := by decide +kernel
theorem dX9_join_195 : decode cX9_join 195 = .ok (.istore 7, 2) := by decide +kernel
theorem dX9_join_197 : decode cX9_join 197 = .ok (.aload_n 0, 1) := by decide +kernel
theorem dX9_join_198 : decode cX9_join 198 = .ok (.getfield 36, 3) := by decide +kernel
theorem dX9_join_201 : decode cX9_join 201 = .ok (.iload 4, 2) := by decide +kernel
theorem dX9_join_203 : decode cX9_join 203 = .ok (.sipush 4096, 3) := by decide +kernel
theorem dX9_join_206 : decode cX9_join 206 = .ok (.imul, 1) := by decide +kernel
theorem dX9_join_207 : decode cX9_join 207 = .ok (.iload 5, 2) := by decide +kernel
theorem dX9_join_209 : decode cX9_join 209 = .ok (.iadd, 1) := by decide +kernel
theorem dX9_join_210 : decode cX9_join 210 = .ok (.iload_n 1, 1) := by decide +kernel
theorem dX9_join_211 : decode cX9_join 211 = .ok (.ifCond .ne 11, 3) := by decide +kernel
theorem dX9_join_214 : decode cX9_join 214 = .ok (.iload 6, 2) := by decide +kernel
theorem dX9_join_216 : decode cX9_join 216 = .ok (.iload 7, 2) := by decide +kernel
theorem dX9_join_218 : decode cX9_join 218 = .ok (.ior, 1) := by decide +kernel
theorem dX9_join_219 : decode cX9_join 219 = .ok (.goto 8, 3) := by decide +kernel
theorem dX9_join_222 : decode cX9_join 222 = .ok (.iload 6, 2) := by decide +kernel
theorem dX9_join_224 : decode cX9_join 224 = .ok (.iload 7, 2) := by decide +kernel
theorem dX9_join_226 : decode cX9_join 226 = .ok (.iand, 1) := by decide +kernel
theorem dX9_join_227 : decode cX9_join 227 = .ok (.iastore, 1) := by decide +kernel
theorem dX9_join_228 : decode cX9_join 228 = .ok (.iinc 5 1, 3) := by decide +kernel
theorem dX9_join_231 : decode cX9_join 231 = .ok (.goto (-75), 3) := by decide +kernel
theorem dX9_join_234 : decode cX9_join 234 = .ok (.iconst 0, 1) := by decide +kernel
theorem dX9_join_235 : decode cX9_join 235 = .ok (.istore 5, 2) := by decide +kernel
theorem dX9_join_237 : decode cX9_join 237 = .ok (.iload 5, 2) := by decide +kernel
theorem dX9_join_239 : decode cX9_join 239 = .ok (.aload_n 0, 1) := by decide +kernel
theorem dX9_join_240 : decode cX9_join 240 = .ok (.getfield 32, 3) := by decide +kernel
theorem dX9_join_243 : decode cX9_join 243 = .ok (.iload_n 2, 1) := by decide +kernel
theorem dX9_join_244 : decode cX9_join 244 = .ok (.iaload, 1) := by decide +kernel
theorem dX9_join_245 : decode cX9_join 245 = .ok (.if_icmp .ge 78, 3) := by decide +kernel
theorem dX9_join_248 : decode cX9_join 248 = .ok (.aload_n 0, 1) := by decide +kernel
theorem dX9_join_249 : decode cX9_join 249 = .ok (.getfield 29, 3) := by decide +kernel
theorem dX9_join_252 : decode cX9_join 252 = .ok (.iload_n 2, 1) := by decide +kernel
theorem dX9_join_253 : decode cX9_join 253 = .ok (.sipush 1000, 3) := by decide +kernel
theorem dX9_join_256 : decode cX9_join 256 = .ok (.imul, 1) := by decide +kernel
theorem dX9_join_257 : decode cX9_join 257 = .ok (.iload 5, 2) := by decide +kernel
theorem dX9_join_259 : decode cX9_join 259 = .ok (.iadd, 1) := by decide +kernel
theorem dX9_join_260 : decode cX9_join 260 = .ok (.laload, 1) := by decide +kernel
theorem dX9_join_261 : decode cX9_join 261 = .ok (.lstore 6, 2) := by decide +kernel
theorem dX9_join_263 : decode cX9_join 263 = .ok (.iload_n 1, 1) := by decide +kernel
theorem dX9_join_264 : decode cX9_join 264 = .ok (.ifCond .eq 21, 3) := by decide +kernel
theorem dX9_join_267 : decode cX9_join 267 = .ok (.aload_n 0, 1) := by decide +kernel
theorem dX9_join_268 : decode cX9_join 268 = .ok (.iload 4, 2) := by decide +kernel
theorem dX9_join_270 : decode cX9_join 270 = .ok (.lload 6, 2) := by decide +kernel
theorem dX9_join_272 : decode cX9_join 272 = .ok (.invokevirtual 181, 3) := by decide +kernel
theorem dX9_join_275 : decode cX9_join 275 = .ok (.aload_n 0, 1) := by decide +kernel
theorem dX9_join_276 : decode cX9_join 276 = .ok (.iload_n 3, 1) := by decide +kernel
theorem dX9_join_277 : decode cX9_join 277 = .ok (.lload 6, 2) := by decide +kernel
theorem dX9_join_279 : decode cX9_join 279 = .ok (.invokevirtual 181, 3) := by decide +kernel
theorem dX9_join_282 : decode cX9_join 282 = .ok (.if_icmp .ge 35, 3) := by decide +kernel
theorem dX9_join_285 : decode cX9_join 285 = .ok (.aload_n 0, 1) := by decide +kernel
theorem dX9_join_286 : decode cX9_join 286 = .ok (.getfield 29, 3) := by decide +kernel
theorem dX9_join_289 : decode cX9_join 289 = .ok (.iload 4, 2) := by decide +kernel
theorem dX9_join_291 : decode cX9_join 291 = .ok (.sipush 1000, 3) := by decide +kernel
theorem dX9_join_294 : decode cX9_join 294 = .ok (.imul, 1) := by decide +kernel
theorem dX9_join_295 : decode cX9_join 295 = .ok (.aload_n 0, 1) := by decide +kernel
theorem dX9_join_296 : decode cX9_join 296 = .ok (.getfield 32, 3) := by decide +kernel
theorem dX9_join_299 : decode cX9_join 299 = .ok (.iload 4, 2) := by decide +kernel
theorem dX9_join_301 : decode cX9_join 301 = .ok (.iaload, 1) := by decide +kernel
theorem dX9_join_302 : decode cX9_join 302 = .ok (.iadd, 1) := by decide +kernel
theorem dX9_join_303 : decode cX9_join 303 = .ok (.lload 6, 2) := by decide +kernel
theorem dX9_join_305 : decode cX9_join 305 = .ok (.lastore, 1) := by decide +kernel
theorem dX9_join_306 : decode cX9_join 306 = .ok (.aload_n 0, 1) := by decide +kernel
theorem dX9_join_307 : decode cX9_join 307 = .ok (.getfield 32, 3) := by decide +kernel
theorem dX9_join_310 : decode cX9_join 310 = .ok (.iload 4, 2) := by decide +kernel
theorem dX9_join_312 : decode cX9_join 312 = .ok (.dup2, 1) := by decide +kernel
theorem dX9_join_313 : decode cX9_join 313 = .ok (.iaload, 1) := by decide +kernel
theorem dX9_join_314 : decode cX9_join 314 = .ok (.iconst 1, 1) := by decide +kernel
theorem dX9_join_315 : decode cX9_join 315 = .ok (.iadd, 1) := by decide +kernel
theorem dX9_join_316 : decode cX9_join 316 = .ok (.iastore, 1) := by decide +kernel
theorem dX9_join_317 : decode cX9_join 317 = .ok (.iinc 5 1, 3) := by decide +kernel
theorem dX9_join_320 : decode cX9_join 320 = .ok (.goto (-83), 3) := by decide +kernel
theorem dX9_join_323 : decode cX9_join 323 = .ok (.iconst 0, 1) := by decide +kernel
theorem dX9_join_324 : decode cX9_join 324 = .ok (.istore 5, 2) := by decide +kernel
theorem dX9_join_326 : decode cX9_join 326 = .ok (.iload 5, 2) := by decide +kernel
theorem dX9_join_328 : decode cX9_join 328 = .ok (.aload_n 0, 1) := by decide +kernel
theorem dX9_join_329 : decode cX9_join 329 = .ok (.getfield 32, 3) := by decide +kernel
theorem dX9_join_332 : decode cX9_join 332 = .ok (.iload_n 3, 1) := by decide +kernel
theorem dX9_join_333 : decode cX9_join 333 = .ok (.iaload, 1) := by decide +kernel
theorem dX9_join_334 : decode cX9_join 334 = .ok (.if_icmp .ge 56, 3) := by decide +kernel
theorem dX9_join_337 : decode cX9_join 337 = .ok (.iload_n 1, 1) := by decide +kernel
theorem dX9_join_338 : decode cX9_join 338 = .ok (.ifCond .ne 52, 3) := by decide +kernel
theorem dX9_join_341 : decode cX9_join 341 = .ok (.aload_n 0, 1) := by decide +kernel
theorem dX9_join_342 : decode cX9_join 342 = .ok (.getfield 29, 3) := by decide +kernel
theorem dX9_join_345 : decode cX9_join 345 = .ok (.iload 4, 2) := by decide +kernel
theorem dX9_join_347 : decode cX9_join 347 = .ok (.sipush 1000, 3) := by decide +kernel
theorem dX9_join_350 : decode cX9_join 350 = .ok (.imul, 1) := by decide +kernel
theorem dX9_join_351 : decode cX9_join 351 = .ok (.aload_n 0, 1) := by decide +kernel
theorem dX9_join_352 : decode cX9_join 352 = .ok (.getfield 32, 3) := by decide +kernel
theorem dX9_join_355 : decode cX9_join 355 = .ok (.iload 4, 2) := by decide +kernel
theorem dX9_join_357 : decode cX9_join 357 = .ok (.iaload, 1) := by decide +kernel
theorem dX9_join_358 : decode cX9_join 358 = .ok (.iadd, 1) := by decide +kernel
theorem dX9_join_359 : decode cX9_join 359 = .ok (.aload_n 0, 1) := by decide +kernel
theorem dX9_join_360 : decode cX9_join 360 = .ok (.getfield 29, 3) := by decide +kernel
theorem dX9_join_363 : decode cX9_join 363 = .ok (.iload_n 3, 1) := by decide +kernel
theorem dX9_join_364 : decode cX9_join 364 = .ok (.sipush 1000, 3) := by decide +kernel
theorem dX9_join_367 : decode cX9_join 367 = .ok (.imul, 1) := by decide +kernel
theorem dX9_join_368 : decode cX9_join 368 = .ok (.iload 5, 2) := by decide +kernel
theorem dX9_join_370 : decode cX9_join 370 = .ok (.iadd, 1) := by decide +kernel
theorem dX9_join_371 : decode cX9_join 371 = .ok (.laload, 1) := by decide +kernel
theorem dX9_join_372 : decode cX9_join 372 = .ok (.lastore, 1) := by decide +kernel
theorem dX9_join_373 : decode cX9_join 373 = .ok (.aload_n 0, 1) := by decide +kernel
theorem dX9_join_374 : decode cX9_join 374 = .ok (.getfield 32, 3) := by decide +kernel
theorem dX9_join_377 : decode cX9_join 377 = .ok (.iload 4, 2) := by decide +kernel
theorem dX9_join_379 : decode cX9_join 379 = .ok (.dup2, 1) := by decide +kernel
theorem dX9_join_380 : decode cX9_join 380 = .ok (.iaload, 1) := by decide +kernel
theorem dX9_join_381 : decode cX9_join 381 = .ok (.iconst 1, 1) := by decide +kernel
theorem dX9_join_382 : decode cX9_join 382 = .ok (.iadd, 1) := by decide +kernel
theorem dX9_join_383 : decode cX9_join 383 = .ok (.iastore, 1) := by decide +kernel
theorem dX9_join_384 : decode cX9_join 384 = .ok (.iinc 5 1, 3) := by decide +kernel
theorem dX9_join_387 : decode cX9_join 387 = .ok (.goto (-61), 3) := by decide +kernel
theorem dX9_join_390 : decode cX9_join 390 = .ok (.iload 4, 2) := by decide +kernel
theorem dX9_join_392 : decode cX9_join 392 = .ok (.ireturn, 1) := by decide +kernel
set_option maxRecDepth 20000 in
theorem ggX9_fold_X9_is : GoodIn wsX9_fold wsX9_is := goodIn_r _ [13, 3, 19, 20, 21, 22, 23, 24, 25, 26, 27, 28, 29, 30, 31, 32, 33, 34, 35, 36, 37, 38, 39, 40, 41] (by decide +kernel) (by decide +kernel)
set_option maxRecDepth 20000 in
theorem gX9_fold_X9_is : GoodIn wsX9_fold (wsV RX9 172 RX9 yX9_is wsX9_is) := goodIn_app (goodIn_of _ (by decide +kernel)) ggX9_fold_X9_is
set_option maxRecDepth 20000 in
theorem ggX9_fold_X9_begin : GoodIn wsX9_fold wsX9_begin := goodIn_r _ [17, 3, 1, 2, 4, 5, 7, 18, 6, 19, 20, 21, 22, 23, 24, 25, 26, 27, 28, 29, 30, 31, 32, 33, 34, 35, 36, 37, 38, 39, 40, 41] (by decide +kernel) (by decide +kernel)
set_option maxRecDepth 20000 in
theorem gX9_fold_X9_begin : GoodIn wsX9_fold (wsV RX9 150 RX9 yX9_begin wsX9_begin) := goodIn_app (goodIn_of _ (by decide +kernel)) ggX9_fold_X9_begin
theorem dX9_fold_0 : decode cX9_fold 0 = .ok (.aload_n 0, 1) := by decide +kernel
theorem dX9_fold_1 : decode cX9_fold 1 = .ok (.iload_n 1, 1) := by decide +kernel
theorem dX9_fold_2 : decode cX9_fold 2 = .ok (.invokevirtual 172, 3) := by decide +kernel
theorem dX9_fold_5 : decode cX9_fold 5 = .ok (.ifCond .ne 5, 3) := by decide +kernel
theorem dX9_fold_8 : decode cX9_fold 8 = .ok (.iconst (-1), 1) := by decide +kernel
theorem dX9_fold_9 : decode cX9_fold 9 = .ok (.ireturn, 1) := by decide +kernel
theorem dX9_fold_10 : decode cX9_fold 10 = .ok (.aload_n 0, 1) := by decide +kernel
theorem dX9_fold_11 : decode cX9_fold 11 = .ok (.getfield 17, 3) := by decide +kernel
theorem dX9_fold_14 : decode cX9_fold 14 = .ok (.iload_n 1, 1) := by decide +kernel
theorem dX9_fold_15 : decode cX9_fold 15 = .ok (.iaload, 1) := by decide +kernel
theorem dX9_fold_16 : decode cX9_fold 16 = .ok (.ifCond .ne 14, 3) := by decide +kernel
theorem dX9_fold_19 : decode cX9_fold 19 = .ok (.aload_n 0, 1) := by decide +kernel
theorem dX9_fold_20 : decode cX9_fold 20 = .ok (.getfield 20, 3) := by decide +kernel
theorem dX9_fold_23 : decode cX9_fold 23 = .ok (.iload_n 1, 1) := by decide +kernel
theorem dX9_fold_24 : decode cX9_fold 24 = .ok (.iaload, 1) := by decide +kernel
theorem dX9_fold_25 : decode cX9_fold 25 = .ok (.bipush 8, 2) := by decide +kernel
theorem dX9_fold_27 : decode cX9_fold 27 = .ok (.if_icmp .ne 6, 3) := by decide +kernel
theorem dX9_fold_30 : decode cX9_fold 30 = .ok (.bipush (-2), 2) := by decide +kernel
theorem dX9_fold_32 : decode cX9_fold 32 = .ok (.ireturn, 1) := by decide +kernel
theorem dX9_fold_33 : decode cX9_fold 33 = .ok (.aload_n 0, 1) := by decide +kernel
theorem dX9_fold_34 : decode cX9_fold 34 = .ok (.getfield 88, 3) := by decide +kernel
theorem dX9_fold_37 : decode cX9_fold 37 = .ok (.bipush 30, 2) := by decide +kernel
theorem dX9_fold_39 : decode cX9_fold 39 = .ok (.if_icmp .ne 6, 3) := by decide +kernel
theorem dX9_fold_42 : decode cX9_fold 42 = .ok (.bipush (-4), 2) := by decide +kernel
theorem dX9_fold_44 : decode cX9_fold 44 = .ok (.ireturn, 1) := by decide +kernel
theorem dX9_fold_45 : decode cX9_fold 45 = .ok (.aload_n 0, 1) := by decide +kernel
theorem dX9_fold_46 : decode cX9_fold 46 = .ok (.getfield 20, 3) := by decide +kernel
theorem dX9_fold_49 : decode cX9_fold 49 = .ok (.iload_n 1, 1) := by decide +kernel
theorem dX9_fold_50 : decode cX9_fold 50 = .ok (.iaload, 1) := by decide +kernel
theorem dX9_fold_51 : decode cX9_fold 51 = .ok (.iconst 2, 1) := by decide +kernel
theorem dX9_fold_52 : decode cX9_fold 52 = .ok (.idiv, 1) := by decide +kernel
theorem dX9_fold_53 : decode cX9_fold 53 = .ok (.istore_n 2, 1) := by decide +kernel
theorem dX9_fold_54 : decode cX9_fold 54 = .ok (.aload_n 0, 1) := by decide +kernel
theorem dX9_fold_55 : decode cX9_fold 55 = .ok (.iconst 0, 1) := by decide +kernel
theorem dX9_fold_56 : decode cX9_fold 56 = .ok (.iload_n 2, 1) := by decide +kernel
theorem dX9_fold_57 : decode cX9_fold 57 = .ok (.aload_n 0, 1) := by decide +kernel
theorem dX9_fold_58 : decode cX9_fold 58 = .ok (.getfield 23, 3) := by decide +kernel
theorem dX9_fold_61 : decode cX9_fold 61 = .ok (.iload_n 1, 1) := by decide +kernel
theorem dX9_fold_62 : decode cX9_fold 62 = .ok (.iaload, 1) := by decide +kernel
theorem dX9_fold_63 : decode cX9_fold 63 = .ok (.aload_n 0, 1) := by decide +kernel
theorem dX9_fold_64 : decode cX9_fold 64 = .ok (.getfield 26, 3) := by decide +kernel
theorem dX9_fold_67 : decode cX9_fold 67 = .ok (.iload_n 1, 1) := by decide +kernel
theorem dX9_fold_68 : decode cX9_fold 68 = .ok (.iaload, 1) := by decide +kernel
theorem dX9_fold_69 : decode cX9_fold 69 = .ok (.invokevirtual 150, 3) := by decide +kernel
theorem dX9_fold_72 : decode cX9_fold 72 = .ok (.istore_n 3, 1) := by decide +kernel
theorem dX9_fold_73 : decode cX9_fold 73 = .ok (.iconst 0, 1) := by decide +kernel
theorem dX9_fold_74 : decode cX9_fold 74 = .ok (.istore 4, 2) := by decide +kernel
theorem dX9_fold_76 : decode cX9_fold 76 = .ok (.iload 4, 2) := by decide +kernel
theorem dX9_fold_78 : decode cX9_fold 78 = .ok (.iload_n 2, 1) := by decide +kernel
theorem dX9_fold_79 : decode cX9_fold 79 = .ok (.if_icmp .ge 51, 3) := by decide +kernel
theorem dX9_fold_82 : decode cX9_fold 82 = .ok (.aload_n 0, 1) := by decide +kernel
theorem dX9_fold_83 : decode cX9_fold 83 = .ok (.getfield 36, 3) := by decide +kernel
theorem dX9_fold_86 : decode cX9_fold 86 = .ok (.iload_n 3, 1) := by decide +kernel
theorem dX9_fold_87 : decode cX9_fold 87 = .ok (.sipush 4096, 3) := by decide +kernel
theorem dX9_fold_90 : decode cX9_fold 90 = .ok (.imul, 1) := by decide +kernel
theorem dX9_fold_91 : decode cX9_fold 91 = .ok (.iload 4, 2) := by decide +kernel
theorem dX9_fold_93 : decode cX9_fold 93 = .ok (.iadd, 1) := by decide +kernel
theorem dX9_fold_94 : decode cX9_fold 94 = .ok (.aload_n 0, 1) := by decide +kernel
theorem dX9_fold_95 : decode cX9_fold 95 = .ok (.getfield 36, 3) := by decide +kernel
theorem dX9_fold_98 : decode cX9_fold 98 = .ok (.iload_n 1, 1) := by decide +kernel
theorem dX9_fold_99 : decode cX9_fold 99 = .ok (.sipush 4096, 3) := by decide +kernel
theorem dX9_fold_102 : decode cX9_fold 102 = .ok (.imul, 1) := by decide +kernel
theorem dX9_fold_103 : decode cX9_fold 103 = .ok (.iload 4, 2) := by decide +kernel
theorem dX9_fold_105 : decode cX9_fold 105 = .ok (.iadd, 1) := by decide +kernel
theorem dX9_fold_106 : decode cX9_fold 106 = .ok (.iaload, 1) := by decide +kernel
theorem dX9_fold_107 : decode cX9_fold 107 = .ok (.aload_n 0, 1) := by decide +kernel
theorem dX9_fold_108 : decode cX9_fold 108 = .ok (.getfield 36, 3) := by decide +kernel
theorem dX9_fold_111 : decode cX9_fold 111 = .ok (.iload_n 1, 1) := by decide +kernel
theorem dX9_fold_112 : decode cX9_fold 112 = .ok (.sipush 4096, 3) := by decide +kernel
theorem dX9_fold_115 : decode cX9_fold 115 = .ok (.imul, 1) := by decide +kernel
theorem dX9_fold_116 : decode cX9_fold 116 = .ok (.iload_n 2, 1) := by decide +kernel
theorem dX9_fold_117 : decode cX9_fold 117 = .ok (.iadd, 1) := by decide +kernel
theorem dX9_fold_118 : decode cX9_fold 118 = .ok (.iload 4, 2) := by decide +kernel
theorem dX9_fold_120 : decode cX9_fold 120 = .ok (.iadd, 1) := by decide +kernel
theorem dX9_fold_121 : decode cX9_fold 121 = .ok (.iaload, 1) := by decide +kernel
theorem dX9_fold_122 : decode cX9_fold 122 = .ok (.ior, 1) := by decide +kernel
theorem dX9_fold_123 : decode cX9_fold 123 = .ok (.iastore, 1) := by decide +kernel
theorem dX9_fold_124 : decode cX9_fold 124 = .ok (.iinc 4 1, 3) := by decide +kernel
theorem dX9_fold_127 : decode cX9_fold 127 = .ok (.goto (-51), 3) := by decide +kernel
theorem dX9_fold_130 : decode cX9_fold 130 = .ok (.iconst 0, 1) := by decide +kernel
theorem dX9_fold_131 : decode cX9_fold 131 = .ok (.istore 4, 2) := by decide +kernel
theorem dX9_fold_133 : decode cX9_fold 133 = .ok (.iload 4, 2) := by decide +kernel
theorem dX9_fold_135 : decode cX9_fold 135 = .ok (.aload_n 0, 1) := by decide +kernel
theorem dX9_fold_136 : decode cX9_fold 136 = .ok (.getfield 32, 3) := by decide +kernel
theorem dX9_fold_139 : decode cX9_fold 139 = .ok (.iload_n 1, 1) := by decide +kernel
theorem dX9_fold_140 : decode cX9_fold 140 = .ok (.iaload, 1) := by decide +kernel
theorem dX9_fold_141 : decode cX9_fold 141 = .ok (.if_icmp .ge 35, 3) := by decide +kernel
theorem dX9_fold_144 : decode cX9_fold 144 = .ok (.aload_n 0, 1) := by decide +kernel
theorem dX9_fold_145 : decode cX9_fold 145 = .ok (.getfield 29, 3) := by decide +kernel
theorem dX9_fold_148 : decode cX9_fold 148 = .ok (.iload_n 3, 1) := by decide +kernel
theorem dX9_fold_149 : decode cX9_fold 149 = .ok (.sipush 1000, 3) := by decide +kernel
theorem dX9_fold_152 : decode cX9_fold 152 = .ok (.imul, 1) := by decide +kernel
theorem dX9_fold_153 : decode cX9_fold 153 = .ok (.iload 4, 2) := by decide +kernel
theorem dX9_fold_155 : decode cX9_fold 155 = .ok (.iadd, 1) := by decide +kernel
theorem dX9_fold_156 : decode cX9_fold 156 = .ok (.aload_n 0, 1) := by decide +kernel
theorem dX9_fold_157 : decode cX9_fold 157 = .ok (.getfield 29, 3) := by decide +kernel
theorem dX9_fold_160 : decode cX9_fold 160 = .ok (.iload_n 1, 1) := by decide +kernel
theorem dX9_fold_161 : decode cX9_fold 161 = .ok (.sipush 1000, 3) := by decide +kernel
theorem dX9_fold_164 : decode cX9_fold 164 = .ok (.imul, 1) := by decide +kernel
theorem dX9_fold_165 : decode cX9_fold 165 = .ok (.iload 4, 2) := by decide +kernel
theorem dX9_fold_167 : decode cX9_fold 167 = .ok (.iadd, 1) := by decide +kernel
theorem dX9_fold_168 : decode cX9_fold 168 = .ok (.laload, 1) := by decide +kernel
theorem dX9_fold_169 : decode cX9_fold 169 = .ok (.lastore, 1) := by decide +kernel
theorem dX9_fold_170 : decode cX9_fold 170 = .ok (.iinc 4 1, 3) := by decide +kernel
theorem dX9_fold_173 : decode cX9_fold 173 = .ok (.goto (-40), 3) := by decide +kernel
theorem dX9_fold_176 : decode cX9_fold 176 = .ok (.aload_n 0, 1) := by decide +kernel
theorem dX9_fold_177 : decode cX9_fold 177 = .ok (.getfield 32, 3) := by decide +kernel
theorem dX9_fold_180 : decode cX9_fold 180 = .ok (.iload_n 3, 1) := by decide +kernel
theorem dX9_fold_181 : decode cX9_fold 181 = .ok (.aload_n 0, 1) := by decide +kernel
theorem dX9_fold_182 : decode cX9_fold 182 = .ok (.getfield 32, 3) := by decide +kernel
theorem dX9_fold_185 : decode cX9_fold 185 = .ok (.iload_n 1, 1) := by decide +kernel
theorem dX9_fold_186 : decode cX9_fold 186 = .ok (.iaload, 1) := by decide +kernel
theorem dX9_fold_187 : decode cX9_fold 187 = .ok (.iastore, 1) := by decide +kernel
theorem dX9_fold_188 : decode cX9_fold 188 = .ok (.iload_n 3, 1) := by decide +kernel
theorem dX9_fold_189 : decode cX9_fold 189 = .ok (.ireturn, 1) := by decide +kernel
theorem dX9_places_0 : decode cX9_places 0 = .ok (.aload_n 0, 1) := by decide +kernel
theorem dX9_places_1 : decode cX9_places 1 = .ok (.getfield 17, 3) := by decide +kernel
theorem dX9_places_4 : decode cX9_places 4 = .ok (.iload_n 1, 1) := by decide +kernel
theorem dX9_places_5 : decode cX9_places 5 = .ok (.iaload, 1) := by decide +kernel
theorem dX9_places_6 : decode cX9_places 6 = .ok (.iconst 2, 1) := by decide +kernel
theorem dX9_places_7 : decode cX9_places 7 = .ok (.if_icmp .ne 14, 3) := by decide +kernel
theorem dX9_places_10 : decode cX9_places 10 = .ok (.iconst 4, 1) := by decide +kernel
theorem dX9_places_11 : decode cX9_places 11 = .ok (.aload_n 0, 1) := by decide +kernel
theorem dX9_places_12 : decode cX9_places 12 = .ok (.getfield 20, 3) := by decide +kernel
theorem dX9_places_15 : decode cX9_places 15 = .ok (.iload_n 1, 1) := by decide +kernel
theorem dX9_places_16 : decode cX9_places 16 = .ok (.iaload, 1) := by decide +kernel
theorem dX9_places_17 : decode cX9_places 17 = .ok (.imul, 1) := by decide +kernel
theorem dX9_places_18 : decode cX9_places 18 = .ok (.goto 30, 3) := by decide +kernel
theorem dX9_places_21 : decode cX9_places 21 = .ok (.aload_n 0, 1) := by decide +kernel
theorem dX9_places_22 : decode cX9_places 22 = .ok (.getfield 17, 3) := by decide +kernel
theorem dX9_places_25 : decode cX9_places 25 = .ok (.iload_n 1, 1) := by decide +kernel
theorem dX9_places_26 : decode cX9_places 26 = .ok (.iaload, 1) := by decide +kernel
theorem dX9_places_27 : decode cX9_places 27 = .ok (.iconst 3, 1) := by decide +kernel
theorem dX9_places_28 : decode cX9_places 28 = .ok (.if_icmp .ne 14, 3) := by decide +kernel
theorem dX9_places_31 : decode cX9_places 31 = .ok (.iconst 3, 1) := by decide +kernel
theorem dX9_places_32 : decode cX9_places 32 = .ok (.aload_n 0, 1) := by decide +kernel
theorem dX9_places_33 : decode cX9_places 33 = .ok (.getfield 20, 3) := by decide +kernel
theorem dX9_places_36 : decode cX9_places 36 = .ok (.iload_n 1, 1) := by decide +kernel
theorem dX9_places_37 : decode cX9_places 37 = .ok (.iaload, 1) := by decide +kernel
theorem dX9_places_38 : decode cX9_places 38 = .ok (.imul, 1) := by decide +kernel
theorem dX9_places_39 : decode cX9_places 39 = .ok (.goto 9, 3) := by decide +kernel
theorem dX9_places_42 : decode cX9_places 42 = .ok (.aload_n 0, 1) := by decide +kernel
theorem dX9_places_43 : decode cX9_places 43 = .ok (.getfield 20, 3) := by decide +kernel
theorem dX9_places_46 : decode cX9_places 46 = .ok (.iload_n 1, 1) := by decide +kernel
theorem dX9_places_47 : decode cX9_places 47 = .ok (.iaload, 1) := by decide +kernel
theorem dX9_places_48 : decode cX9_places 48 = .ok (.ireturn, 1) := by decide +kernel
theorem dX9_weight_0 : decode cX9_weight 0 = .ok (.aload_n 0, 1) := by decide +kernel
theorem dX9_weight_1 : decode cX9_weight 1 = .ok (.getfield 17, 3) := by decide +kernel
theorem dX9_weight_4 : decode cX9_weight 4 = .ok (.iload_n 1, 1) := by decide +kernel
theorem dX9_weight_5 : decode cX9_weight 5 = .ok (.iaload, 1) := by decide +kernel
theorem dX9_weight_6 : decode cX9_weight 6 = .ok (.tableswitch 66 0 3 #[30, 37, 46, 56], 30) := by decide +kernel
theorem dX9_weight_36 : decode cX9_weight 36 = .ok (.aload_n 0, 1) := by decide +kernel
theorem dX9_weight_37 : decode cX9_weight 37 = .ok (.getfield 20, 3) := by decide +kernel
theorem dX9_weight_40 : decode cX9_weight 40 = .ok (.iload_n 1, 1) := by decide +kernel
theorem dX9_weight_41 : decode cX9_weight 41 = .ok (.iaload, 1) := by decide +kernel
theorem dX9_weight_42 : decode cX9_weight 42 = .ok (.ireturn, 1) := by decide +kernel
theorem dX9_weight_43 : decode cX9_weight 43 = .ok (.iconst 4, 1) := by decide +kernel
theorem dX9_weight_44 : decode cX9_weight 44 = .ok (.aload_n 0, 1) := by decide +kernel
theorem dX9_weight_45 : decode cX9_weight 45 = .ok (.getfield 20, 3) := by decide +kernel
theorem dX9_weight_48 : decode cX9_weight 48 = .ok (.iload_n 1, 1) := by decide +kernel
theorem dX9_weight_49 : decode cX9_weight 49 = .ok (.iaload, 1) := by decide +kernel
theorem dX9_weight_50 : decode cX9_weight 50 = .ok (.imul, 1) := by decide +kernel
theorem dX9_weight_51 : decode cX9_weight 51 = .ok (.ireturn, 1) := by decide +kernel
theorem dX9_weight_52 : decode cX9_weight 52 = .ok (.bipush 32, 2) := by decide +kernel
theorem dX9_weight_54 : decode cX9_weight 54 = .ok (.aload_n 0, 1) := by decide +kernel
theorem dX9_weight_55 : decode cX9_weight 55 = .ok (.getfield 20, 3) := by decide +kernel
theorem dX9_weight_58 : decode cX9_weight 58 = .ok (.iload_n 1, 1) := by decide +kernel
theorem dX9_weight_59 : decode cX9_weight 59 = .ok (.iaload, 1) := by decide +kernel
theorem dX9_weight_60 : decode cX9_weight 60 = .ok (.imul, 1) := by decide +kernel
theorem dX9_weight_61 : decode cX9_weight 61 = .ok (.ireturn, 1) := by decide +kernel
theorem dX9_weight_62 : decode cX9_weight 62 = .ok (.bipush 24, 2) := by decide +kernel
theorem dX9_weight_64 : decode cX9_weight 64 = .ok (.aload_n 0, 1) := by decide +kernel
theorem dX9_weight_65 : decode cX9_weight 65 = .ok (.getfield 20, 3) := by decide +kernel
theorem dX9_weight_68 : decode cX9_weight 68 = .ok (.iload_n 1, 1) := by decide +kernel
theorem dX9_weight_69 : decode cX9_weight 69 = .ok (.iaload, 1) := by decide +kernel
theorem dX9_weight_70 : decode cX9_weight 70 = .ok (.imul, 1) := by decide +kernel
theorem dX9_weight_71 : decode cX9_weight 71 = .ok (.ireturn, 1) := by decide +kernel
theorem dX9_weight_72 : decode cX9_weight 72 = .ok (.bipush 64, 2) := by decide +kernel
theorem dX9_weight_74 : decode cX9_weight 74 = .ok (.aload_n 0, 1) := by decide +kernel
theorem dX9_weight_75 : decode cX9_weight 75 = .ok (.getfield 52, 3) := by decide +kernel
theorem dX9_weight_78 : decode cX9_weight 78 = .ok (.iload_n 1, 1) := by decide +kernel
theorem dX9_weight_79 : decode cX9_weight 79 = .ok (.iaload, 1) := by decide +kernel
theorem dX9_weight_80 : decode cX9_weight 80 = .ok (.imul, 1) := by decide +kernel
theorem dX9_weight_81 : decode cX9_weight 81 = .ok (.istore_n 2, 1) := by decide +kernel
theorem dX9_weight_82 : decode cX9_weight 82 = .ok (.iconst 0, 1) := by decide +kernel
theorem dX9_weight_83 : decode cX9_weight 83 = .ok (.istore_n 3, 1) := by decide +kernel
theorem dX9_weight_84 : decode cX9_weight 84 = .ok (.iload_n 3, 1) := by decide +kernel
theorem dX9_weight_85 : decode cX9_weight 85 = .ok (.aload_n 0, 1) := by decide +kernel
theorem dX9_weight_86 : decode cX9_weight 86 = .ok (.getfield 20, 3) := by decide +kernel
theorem dX9_weight_89 : decode cX9_weight 89 = .ok (.iload_n 1, 1) := by decide +kernel
theorem dX9_weight_90 : decode cX9_weight 90 = .ok (.iaload, 1) := by decide +kernel
theorem dX9_weight_91 : decode cX9_weight 91 = .ok (.if_icmp .ge 23, 3) := by decide +kernel
theorem dX9_weight_94 : decode cX9_weight 94 = .ok (.iload_n 2, 1) := by decide +kernel
theorem dX9_weight_95 : decode cX9_weight 95 = .ok (.aload_n 0, 1) := by decide +kernel
theorem dX9_weight_96 : decode cX9_weight 96 = .ok (.getfield 43, 3) := by decide +kernel
theorem dX9_weight_99 : decode cX9_weight 99 = .ok (.iload_n 1, 1) := by decide +kernel
theorem dX9_weight_100 : decode cX9_weight 100 = .ok (.bipush 20, 2) := by decide +kernel
theorem dX9_weight_102 : decode cX9_weight 102 = .ok (.imul, 1) := by decide +kernel
theorem dX9_weight_103 : decode cX9_weight 103 = .ok (.iload_n 3, 1) := by decide +kernel
theorem dX9_weight_104 : decode cX9_weight 104 = .ok (.iadd, 1) := by decide +kernel
theorem dX9_weight_105 : decode cX9_weight 105 = .ok (.iaload, 1) := by decide +kernel
theorem dX9_weight_106 : decode cX9_weight 106 = .ok (.iadd, 1) := by decide +kernel
theorem dX9_weight_107 : decode cX9_weight 107 = .ok (.istore_n 2, 1) := by decide +kernel
theorem dX9_weight_108 : decode cX9_weight 108 = .ok (.iinc 3 1, 3) := by decide +kernel
theorem dX9_weight_111 : decode cX9_weight 111 = .ok (.goto (-27), 3) := by decide +kernel
theorem dX9_weight_114 : decode cX9_weight 114 = .ok (.iload_n 2, 1) := by decide +kernel
theorem dX9_weight_115 : decode cX9_weight 115 = .ok (.ireturn, 1) := by decide +kernel
set_option maxRecDepth 20000 in
theorem ggX9_filled_X9_places : GoodIn wsX9_filled wsX9_places := goodIn_r _ [8, 1, 9, 10, 11, 12, 13, 14, 15, 16, 17, 18, 19, 20, 21, 22, 23, 24, 25, 26, 27, 28, 29, 30, 31, 32] (by decide +kernel) (by decide +kernel)
set_option maxRecDepth 20000 in
theorem gX9_filled_X9_places : GoodIn wsX9_filled (wsV RX9 184 RX9 yX9_places wsX9_places) := goodIn_app (goodIn_of _ (by decide +kernel)) ggX9_filled_X9_places
theorem dX9_filled_0 : decode cX9_filled 0 = .ok (.aload_n 0, 1) := by decide +kernel
theorem dX9_filled_1 : decode cX9_filled 1 = .ok (.getfield 17, 3) := by decide +kernel
theorem dX9_filled_4 : decode cX9_filled 4 = .ok (.iload_n 1, 1) := by decide +kernel
theorem dX9_filled_5 : decode cX9_filled 5 = .ok (.iaload, 1) := by decide +kernel
theorem dX9_filled_6 : decode cX9_filled 6 = .ok (.iconst 4, 1) := by decide +kernel
theorem dX9_filled_7 : decode cX9_filled 7 = .ok (.if_icmp .ne 10, 3) := by decide +kernel
theorem dX9_filled_10 : decode cX9_filled 10 = .ok (.aload_n 0, 1) := by decide +kernel
theorem dX9_filled_11 : decode cX9_filled 11 = .ok (.getfield 52, 3) := by decide +kernel
theorem dX9_filled_14 : decode cX9_filled 14 = .ok (.iload_n 1, 1) := by decide +kernel
theorem dX9_filled_15 : decode cX9_filled 15 = .ok (.iaload, 1) := by decide +kernel
theorem dX9_filled_16 : decode cX9_filled 16 = .ok (.ireturn, 1) := by decide +kernel
theorem dX9_filled_17 : decode cX9_filled 17 = .ok (.iconst 0, 1) := by decide +kernel
theorem dX9_filled_18 : decode cX9_filled 18 = .ok (.istore_n 2, 1) := by decide +kernel
theorem dX9_filled_19 : decode cX9_filled 19 = .ok (.iconst 0, 1) := by decide +kernel
theorem dX9_filled_20 : decode cX9_filled 20 = .ok (.istore_n 3, 1) := by decide +kernel
theorem dX9_filled_21 : decode cX9_filled 21 = .ok (.iload_n 3, 1) := by decide +kernel
theorem dX9_filled_22 : decode cX9_filled 22 = .ok (.aload_n 0, 1) := by decide +kernel
theorem dX9_filled_23 : decode cX9_filled 23 = .ok (.iload_n 1, 1) := by decide +kernel
theorem dX9_filled_24 : decode cX9_filled 24 = .ok (.invokevirtual 184, 3) := by decide +kernel
theorem dX9_filled_27 : decode cX9_filled 27 = .ok (.if_icmp .ge 32, 3) := by decide +kernel
theorem dX9_filled_30 : decode cX9_filled 30 = .ok (.iload_n 2, 1) := by decide +kernel
theorem dX9_filled_31 : decode cX9_filled 31 = .ok (.aload_n 0, 1) := by decide +kernel
theorem dX9_filled_32 : decode cX9_filled 32 = .ok (.getfield 36, 3) := by decide +kernel
theorem dX9_filled_35 : decode cX9_filled 35 = .ok (.iload_n 1, 1) := by decide +kernel
theorem dX9_filled_36 : decode cX9_filled 36 = .ok (.sipush 4096, 3) := by decide +kernel
theorem dX9_filled_39 : decode cX9_filled 39 = .ok (.imul, 1) := by decide +kernel
theorem dX9_filled_40 : decode cX9_filled 40 = .ok (.iload_n 3, 1) := by decide +kernel
theorem dX9_filled_41 : decode cX9_filled 41 = .ok (.iadd, 1) := by decide +kernel
theorem dX9_filled_42 : decode cX9_filled 42 = .ok (.iaload, 1) := by decide +kernel
theorem dX9_filled_43 : decode cX9_filled 43 = .ok (.ifCond .le 7, 3) := by decide +kernel
theorem dX9_filled_46 : decode cX9_filled 46 = .ok (.iconst 1, 1) := by decide +kernel
theorem dX9_filled_47 : decode cX9_filled 47 = .ok (.goto 4, 3) := by decide +kernel
theorem dX9_filled_50 : decode cX9_filled 50 = .ok (.iconst 0, 1) := by decide +kernel
theorem dX9_filled_51 : decode cX9_filled 51 = .ok (.iadd, 1) := by decide +kernel
theorem dX9_filled_52 : decode cX9_filled 52 = .ok (.istore_n 2, 1) := by decide +kernel
theorem dX9_filled_53 : decode cX9_filled 53 = .ok (.iinc 3 1, 3) := by decide +kernel
theorem dX9_filled_56 : decode cX9_filled 56 = .ok (.goto (-35), 3) := by decide +kernel
theorem dX9_filled_59 : decode cX9_filled 59 = .ok (.iload_n 2, 1) := by decide +kernel
theorem dX9_filled_60 : decode cX9_filled 60 = .ok (.ireturn, 1) := by decide +kernel
set_option maxRecDepth 20000 in
theorem ggX9_about_X9_is : GoodIn wsX9_about wsX9_is := goodIn_r _ [10, 11, 27, 28, 29, 30, 31, 32, 33, 34, 35, 36, 37, 38, 39, 40, 41, 42, 43, 44, 45, 46, 47, 48, 49] (by decide +kernel) (by decide +kernel)
set_option maxRecDepth 20000 in
theorem gX9_about_X9_is : GoodIn wsX9_about (wsV RX9 172 RX9 yX9_is wsX9_is) := goodIn_app (goodIn_of _ (by decide +kernel)) ggX9_about_X9_is
set_option maxRecDepth 20000 in
theorem ggX9_about_X9_weight : GoodIn wsX9_about wsX9_weight := goodIn_r _ [15, 1, 2, 16, 17, 27, 28, 29, 30, 31, 32, 33, 34, 35, 36, 37, 38, 39, 40, 41, 42, 43, 44, 45, 46, 47, 48, 49] (by decide +kernel) (by decide +kernel)
set_option maxRecDepth 20000 in
theorem gX9_about_X9_weight : GoodIn wsX9_about (wsV RX9 188 RX9 yX9_weight wsX9_weight) := goodIn_app (goodIn_of _ (by decide +kernel)) ggX9_about_X9_weight
set_option maxRecDepth 20000 in
theorem ggX9_about_X9_filled : GoodIn wsX9_about wsX9_filled := goodIn_r _ [21, 1, 16, 22, 23, 24, 25, 9, 26, 2, 27, 28, 29, 30, 31, 32, 33, 34, 35, 36, 37, 38, 39, 40, 41, 42, 43, 44, 45, 46, 47, 48, 49] (by decide +kernel) (by decide +kernel)
set_option maxRecDepth 20000 in
theorem gX9_about_X9_filled : GoodIn wsX9_about (wsV RX9 191 RX9 yX9_filled wsX9_filled) := goodIn_app (goodIn_of _ (by decide +kernel)) ggX9_about_X9_filled
theorem dX9_about_0 : decode cX9_about 0 = .ok (.aload_n 0, 1) := by decide +kernel
theorem dX9_about_1 : decode cX9_about 1 = .ok (.iload_n 1, 1) := by decide +kernel
theorem dX9_about_2 : decode cX9_about 2 = .ok (.invokevirtual 172, 3) := by decide +kernel
theorem dX9_about_5 : decode cX9_about 5 = .ok (.ifCond .eq 13, 3) := by decide +kernel
theorem dX9_about_8 : decode cX9_about 8 = .ok (.iload_n 2, 1) := by decide +kernel
theorem dX9_about_9 : decode cX9_about 9 = .ok (.ifCond .lt 9, 3) := by decide +kernel
theorem dX9_about_12 : decode cX9_about 12 = .ok (.iload_n 2, 1) := by decide +kernel
theorem dX9_about_13 : decode cX9_about 13 = .ok (.bipush 6, 2) := by decide +kernel
theorem dX9_about_15 : decode cX9_about 15 = .ok (.if_icmp .le 5, 3) := by decide +kernel
theorem dX9_about_18 : decode cX9_about 18 = .ok (.iconst (-1), 1) := by decide +kernel
theorem dX9_about_19 : decode cX9_about 19 = .ok (.ireturn, 1) := by decide +kernel
theorem dX9_about_20 : decode cX9_about 20 = .ok (.iload_n 2, 1) := by decide +kernel
theorem dX9_about_21 : decode cX9_about 21 = .ok (.tableswitch 101 0 5 #[39, 46, 74, 81, 88, 95], 39) := by decide +kernel
theorem dX9_about_60 : decode cX9_about 60 = .ok (.aload_n 0, 1) := by decide +kernel
theorem dX9_about_61 : decode cX9_about 61 = .ok (.getfield 17, 3) := by decide +kernel
theorem dX9_about_64 : decode cX9_about 64 = .ok (.iload_n 1, 1) := by decide +kernel
theorem dX9_about_65 : decode cX9_about 65 = .ok (.iaload, 1) := by decide +kernel
theorem dX9_about_66 : decode cX9_about 66 = .ok (.ireturn, 1) := by decide +kernel
theorem dX9_about_67 : decode cX9_about 67 = .ok (.aload_n 0, 1) := by decide +kernel
theorem dX9_about_68 : decode cX9_about 68 = .ok (.getfield 17, 3) := by decide +kernel
theorem dX9_about_71 : decode cX9_about 71 = .ok (.iload_n 1, 1) := by decide +kernel
theorem dX9_about_72 : decode cX9_about 72 = .ok (.iaload, 1) := by decide +kernel
theorem dX9_about_73 : decode cX9_about 73 = .ok (.iconst 3, 1) := by decide +kernel
theorem dX9_about_74 : decode cX9_about 74 = .ok (.if_icmp .ne 14, 3) := by decide +kernel
theorem dX9_about_77 : decode cX9_about 77 = .ok (.iconst 3, 1) := by decide +kernel
theorem dX9_about_78 : decode cX9_about 78 = .ok (.aload_n 0, 1) := by decide +kernel
theorem dX9_about_79 : decode cX9_about 79 = .ok (.getfield 20, 3) := by decide +kernel
theorem dX9_about_82 : decode cX9_about 82 = .ok (.iload_n 1, 1) := by decide +kernel
theorem dX9_about_83 : decode cX9_about 83 = .ok (.iaload, 1) := by decide +kernel
theorem dX9_about_84 : decode cX9_about 84 = .ok (.imul, 1) := by decide +kernel
theorem dX9_about_85 : decode cX9_about 85 = .ok (.goto 9, 3) := by decide +kernel
theorem dX9_about_88 : decode cX9_about 88 = .ok (.aload_n 0, 1) := by decide +kernel
theorem dX9_about_89 : decode cX9_about 89 = .ok (.getfield 20, 3) := by decide +kernel
theorem dX9_about_92 : decode cX9_about 92 = .ok (.iload_n 1, 1) := by decide +kernel
theorem dX9_about_93 : decode cX9_about 93 = .ok (.iaload, 1) := by decide +kernel
theorem dX9_about_94 : decode cX9_about 94 = .ok (.ireturn, 1) := by decide +kernel
theorem dX9_about_95 : decode cX9_about 95 = .ok (.aload_n 0, 1) := by decide +kernel
theorem dX9_about_96 : decode cX9_about 96 = .ok (.getfield 23, 3) := by decide +kernel
theorem dX9_about_99 : decode cX9_about 99 = .ok (.iload_n 1, 1) := by decide +kernel
theorem dX9_about_100 : decode cX9_about 100 = .ok (.iaload, 1) := by decide +kernel
theorem dX9_about_101 : decode cX9_about 101 = .ok (.ireturn, 1) := by decide +kernel
theorem dX9_about_102 : decode cX9_about 102 = .ok (.aload_n 0, 1) := by decide +kernel
theorem dX9_about_103 : decode cX9_about 103 = .ok (.getfield 26, 3) := by decide +kernel
theorem dX9_about_106 : decode cX9_about 106 = .ok (.iload_n 1, 1) := by decide +kernel
theorem dX9_about_107 : decode cX9_about 107 = .ok (.iaload, 1) := by decide +kernel
theorem dX9_about_108 : decode cX9_about 108 = .ok (.ireturn, 1) := by decide +kernel
theorem dX9_about_109 : decode cX9_about 109 = .ok (.aload_n 0, 1) := by decide +kernel
theorem dX9_about_110 : decode cX9_about 110 = .ok (.getfield 32, 3) := by decide +kernel
theorem dX9_about_113 : decode cX9_about 113 = .ok (.iload_n 1, 1) := by decide +kernel
theorem dX9_about_114 : decode cX9_about 114 = .ok (.iaload, 1) := by decide +kernel
theorem dX9_about_115 : decode cX9_about 115 = .ok (.ireturn, 1) := by decide +kernel
theorem dX9_about_116 : decode cX9_about 116 = .ok (.aload_n 0, 1) := by decide +kernel
theorem dX9_about_117 : decode cX9_about 117 = .ok (.iload_n 1, 1) := by decide +kernel
theorem dX9_about_118 : decode cX9_about 118 = .ok (.invokevirtual 188, 3) := by decide +kernel
theorem dX9_about_121 : decode cX9_about 121 = .ok (.ireturn, 1) := by decide +kernel
theorem dX9_about_122 : decode cX9_about 122 = .ok (.aload_n 0, 1) := by decide +kernel
theorem dX9_about_123 : decode cX9_about 123 = .ok (.iload_n 1, 1) := by decide +kernel
theorem dX9_about_124 : decode cX9_about 124 = .ok (.invokevirtual 191, 3) := by decide +kernel
theorem dX9_about_127 : decode cX9_about 127 = .ok (.ireturn, 1) := by decide +kernel
set_option maxRecDepth 20000 in
theorem ggX9_cell_X9_is : GoodIn wsX9_cell wsX9_is := goodIn_r _ [7, 8, 14, 15, 16, 17, 18, 19, 20, 21, 22, 23, 24, 25, 26, 27, 28, 29, 30, 31, 32, 33, 34, 35, 36] (by decide +kernel) (by decide +kernel)
set_option maxRecDepth 20000 in
theorem gX9_cell_X9_is : GoodIn wsX9_cell (wsV RX9 172 RX9 yX9_is wsX9_is) := goodIn_app (goodIn_of _ (by decide +kernel)) ggX9_cell_X9_is
set_option maxRecDepth 20000 in
theorem ggX9_cell_X9_places : GoodIn wsX9_cell wsX9_places := goodIn_r _ [12, 1, 13, 14, 15, 16, 17, 18, 19, 20, 21, 22, 23, 24, 25, 26, 27, 28, 29, 30, 31, 32, 33, 34, 35, 36] (by decide +kernel) (by decide +kernel)
set_option maxRecDepth 20000 in
theorem gX9_cell_X9_places : GoodIn wsX9_cell (wsV RX9 184 RX9 yX9_places wsX9_places) := goodIn_app (goodIn_of _ (by decide +kernel)) ggX9_cell_X9_places
theorem dX9_cell_0 : decode cX9_cell 0 = .ok (.aload_n 0, 1) := by decide +kernel
theorem dX9_cell_1 : decode cX9_cell 1 = .ok (.iload_n 1, 1) := by decide +kernel
theorem dX9_cell_2 : decode cX9_cell 2 = .ok (.invokevirtual 172, 3) := by decide +kernel
theorem dX9_cell_5 : decode cX9_cell 5 = .ok (.ifCond .ne 5, 3) := by decide +kernel
theorem dX9_cell_8 : decode cX9_cell 8 = .ok (.iconst (-1), 1) := by decide +kernel
theorem dX9_cell_9 : decode cX9_cell 9 = .ok (.ireturn, 1) := by decide +kernel
theorem dX9_cell_10 : decode cX9_cell 10 = .ok (.aload_n 0, 1) := by decide +kernel
theorem dX9_cell_11 : decode cX9_cell 11 = .ok (.getfield 17, 3) := by decide +kernel
theorem dX9_cell_14 : decode cX9_cell 14 = .ok (.iload_n 1, 1) := by decide +kernel
theorem dX9_cell_15 : decode cX9_cell 15 = .ok (.iaload, 1) := by decide +kernel
theorem dX9_cell_16 : decode cX9_cell 16 = .ok (.iconst 4, 1) := by decide +kernel
theorem dX9_cell_17 : decode cX9_cell 17 = .ok (.if_icmp .ne 6, 3) := by decide +kernel
theorem dX9_cell_20 : decode cX9_cell 20 = .ok (.bipush (-2), 2) := by decide +kernel
theorem dX9_cell_22 : decode cX9_cell 22 = .ok (.ireturn, 1) := by decide +kernel
theorem dX9_cell_23 : decode cX9_cell 23 = .ok (.iload_n 2, 1) := by decide +kernel
theorem dX9_cell_24 : decode cX9_cell 24 = .ok (.ifCond .lt 27, 3) := by decide +kernel
theorem dX9_cell_27 : decode cX9_cell 27 = .ok (.iload_n 2, 1) := by decide +kernel
theorem dX9_cell_28 : decode cX9_cell 28 = .ok (.aload_n 0, 1) := by decide +kernel
theorem dX9_cell_29 : decode cX9_cell 29 = .ok (.iload_n 1, 1) := by decide +kernel
theorem dX9_cell_30 : decode cX9_cell 30 = .ok (.invokevirtual 184, 3) := by decide +kernel
theorem dX9_cell_33 : decode cX9_cell 33 = .ok (.if_icmp .ge 18, 3) := by decide +kernel
theorem dX9_cell_36 : decode cX9_cell 36 = .ok (.aload_n 0, 1) := by decide +kernel
theorem dX9_cell_37 : decode cX9_cell 37 = .ok (.getfield 36, 3) := by decide +kernel
theorem dX9_cell_40 : decode cX9_cell 40 = .ok (.iload_n 1, 1) := by decide +kernel
theorem dX9_cell_41 : decode cX9_cell 41 = .ok (.sipush 4096, 3) := by decide +kernel
theorem dX9_cell_44 : decode cX9_cell 44 = .ok (.imul, 1) := by decide +kernel
theorem dX9_cell_45 : decode cX9_cell 45 = .ok (.iload_n 2, 1) := by decide +kernel
theorem dX9_cell_46 : decode cX9_cell 46 = .ok (.iadd, 1) := by decide +kernel
theorem dX9_cell_47 : decode cX9_cell 47 = .ok (.iaload, 1) := by decide +kernel
theorem dX9_cell_48 : decode cX9_cell 48 = .ok (.goto 4, 3) := by decide +kernel
theorem dX9_cell_51 : decode cX9_cell 51 = .ok (.iconst (-1), 1) := by decide +kernel
theorem dX9_cell_52 : decode cX9_cell 52 = .ok (.ireturn, 1) := by decide +kernel
set_option maxRecDepth 20000 in
theorem ggX9_layer_X9_is : GoodIn wsX9_layer wsX9_is := goodIn_r _ [10, 11, 12, 13, 14, 15, 16, 17, 18, 19, 20, 21, 22, 23, 24, 25, 26, 27, 28, 29, 30, 31, 32, 33, 34] (by decide +kernel) (by decide +kernel)
set_option maxRecDepth 20000 in
theorem gX9_layer_X9_is : GoodIn wsX9_layer (wsV RX9 172 RX9 yX9_is wsX9_is) := goodIn_app (goodIn_of _ (by decide +kernel)) ggX9_layer_X9_is
theorem dX9_layer_0 : decode cX9_layer 0 = .ok (.aload_n 0, 1) := by decide +kernel
theorem dX9_layer_1 : decode cX9_layer 1 = .ok (.iload_n 1, 1) := by decide +kernel
theorem dX9_layer_2 : decode cX9_layer 2 = .ok (.invokevirtual 172, 3) := by decide +kernel
theorem dX9_layer_5 : decode cX9_layer 5 = .ok (.ifCond .eq 12, 3) := by decide +kernel
theorem dX9_layer_8 : decode cX9_layer 8 = .ok (.iload_n 3, 1) := by decide +kernel
theorem dX9_layer_9 : decode cX9_layer 9 = .ok (.ifCond .lt 8, 3) := by decide +kernel
theorem dX9_layer_12 : decode cX9_layer 12 = .ok (.iload_n 3, 1) := by decide +kernel
theorem dX9_layer_13 : decode cX9_layer 13 = .ok (.iconst 2, 1) := by decide +kernel
theorem dX9_layer_14 : decode cX9_layer 14 = .ok (.if_icmp .le 5, 3) := by decide +kernel
theorem dX9_layer_17 : decode cX9_layer 17 = .ok (.iconst (-1), 1) := by decide +kernel
theorem dX9_layer_18 : decode cX9_layer 18 = .ok (.ireturn, 1) := by decide +kernel
theorem dX9_layer_19 : decode cX9_layer 19 = .ok (.aload_n 0, 1) := by decide +kernel
theorem dX9_layer_20 : decode cX9_layer 20 = .ok (.getfield 17, 3) := by decide +kernel
theorem dX9_layer_23 : decode cX9_layer 23 = .ok (.iload_n 1, 1) := by decide +kernel
theorem dX9_layer_24 : decode cX9_layer 24 = .ok (.iaload, 1) := by decide +kernel
theorem dX9_layer_25 : decode cX9_layer 25 = .ok (.iconst 4, 1) := by decide +kernel
theorem dX9_layer_26 : decode cX9_layer 26 = .ok (.if_icmp .eq 6, 3) := by decide +kernel
theorem dX9_layer_29 : decode cX9_layer 29 = .ok (.bipush (-2), 2) := by decide +kernel
theorem dX9_layer_31 : decode cX9_layer 31 = .ok (.ireturn, 1) := by decide +kernel
theorem dX9_layer_32 : decode cX9_layer 32 = .ok (.iload_n 2, 1) := by decide +kernel
theorem dX9_layer_33 : decode cX9_layer 33 = .ok (.ifCond .lt 13, 3) := by decide +kernel
theorem dX9_layer_36 : decode cX9_layer 36 = .ok (.iload_n 2, 1) := by decide +kernel
theorem dX9_layer_37 : decode cX9_layer 37 = .ok (.aload_n 0, 1) := by decide +kernel
theorem dX9_layer_38 : decode cX9_layer 38 = .ok (.getfield 20, 3) := by decide +kernel
theorem dX9_layer_41 : decode cX9_layer 41 = .ok (.iload_n 1, 1) := by decide +kernel
theorem dX9_layer_42 : decode cX9_layer 42 = .ok (.iaload, 1) := by decide +kernel
theorem dX9_layer_43 : decode cX9_layer 43 = .ok (.if_icmp .lt 5, 3) := by decide +kernel
theorem dX9_layer_46 : decode cX9_layer 46 = .ok (.iconst (-1), 1) := by decide +kernel
theorem dX9_layer_47 : decode cX9_layer 47 = .ok (.ireturn, 1) := by decide +kernel
theorem dX9_layer_48 : decode cX9_layer 48 = .ok (.iload_n 1, 1) := by decide +kernel
theorem dX9_layer_49 : decode cX9_layer 49 = .ok (.bipush 20, 2) := by decide +kernel
theorem dX9_layer_51 : decode cX9_layer 51 = .ok (.imul, 1) := by decide +kernel
theorem dX9_layer_52 : decode cX9_layer 52 = .ok (.iload_n 2, 1) := by decide +kernel
theorem dX9_layer_53 : decode cX9_layer 53 = .ok (.iadd, 1) := by decide +kernel
theorem dX9_layer_54 : decode cX9_layer 54 = .ok (.istore 4, 2) := by decide +kernel
theorem dX9_layer_56 : decode cX9_layer 56 = .ok (.iload_n 3, 1) := by decide +kernel
theorem dX9_layer_57 : decode cX9_layer 57 = .ok (.iconst 2, 1) := by decide +kernel
theorem dX9_layer_58 : decode cX9_layer 58 = .ok (.if_icmp .ge 25, 3) := by decide +kernel
theorem dX9_layer_61 : decode cX9_layer 61 = .ok (.iload_n 3, 1) := by decide +kernel
theorem dX9_layer_62 : decode cX9_layer 62 = .ok (.ifCond .ne 13, 3) := by decide +kernel
theorem dX9_layer_65 : decode cX9_layer 65 = .ok (.aload_n 0, 1) := by decide +kernel
theorem dX9_layer_66 : decode cX9_layer 66 = .ok (.getfield 43, 3) := by decide +kernel
theorem dX9_layer_69 : decode cX9_layer 69 = .ok (.iload 4, 2) := by decide +kernel
theorem dX9_layer_71 : decode cX9_layer 71 = .ok (.iaload, 1) := by decide +kernel
theorem dX9_layer_72 : decode cX9_layer 72 = .ok (.goto 10, 3) := by decide +kernel
theorem dX9_layer_75 : decode cX9_layer 75 = .ok (.aload_n 0, 1) := by decide +kernel
theorem dX9_layer_76 : decode cX9_layer 76 = .ok (.getfield 46, 3) := by decide +kernel
theorem dX9_layer_79 : decode cX9_layer 79 = .ok (.iload 4, 2) := by decide +kernel
theorem dX9_layer_81 : decode cX9_layer 81 = .ok (.iaload, 1) := by decide +kernel
theorem dX9_layer_82 : decode cX9_layer 82 = .ok (.ireturn, 1) := by decide +kernel
theorem dX9_layer_83 : decode cX9_layer 83 = .ok (.iconst 0, 1) := by decide +kernel
theorem dX9_layer_84 : decode cX9_layer 84 = .ok (.istore 5, 2) := by decide +kernel
theorem dX9_layer_86 : decode cX9_layer 86 = .ok (.iconst 0, 1) := by decide +kernel
theorem dX9_layer_87 : decode cX9_layer 87 = .ok (.istore 6, 2) := by decide +kernel
theorem dX9_layer_89 : decode cX9_layer 89 = .ok (.iload 6, 2) := by decide +kernel
theorem dX9_layer_91 : decode cX9_layer 91 = .ok (.aload_n 0, 1) := by decide +kernel
theorem dX9_layer_92 : decode cX9_layer 92 = .ok (.getfield 43, 3) := by decide +kernel
theorem dX9_layer_95 : decode cX9_layer 95 = .ok (.iload 4, 2) := by decide +kernel
theorem dX9_layer_97 : decode cX9_layer 97 = .ok (.iaload, 1) := by decide +kernel
theorem dX9_layer_98 : decode cX9_layer 98 = .ok (.if_icmp .ge 39, 3) := by decide +kernel
theorem dX9_layer_101 : decode cX9_layer 101 = .ok (.iload 5, 2) := by decide +kernel
theorem dX9_layer_103 : decode cX9_layer 103 = .ok (.aload_n 0, 1) := by decide +kernel
theorem dX9_layer_104 : decode cX9_layer 104 = .ok (.getfield 40, 3) := by decide +kernel
theorem dX9_layer_107 : decode cX9_layer 107 = .ok (.iload 4, 2) := by decide +kernel
theorem dX9_layer_109 : decode cX9_layer 109 = .ok (.sipush 128, 3) := by decide +kernel
theorem dX9_layer_112 : decode cX9_layer 112 = .ok (.imul, 1) := by decide +kernel
theorem dX9_layer_113 : decode cX9_layer 113 = .ok (.iload 6, 2) := by decide +kernel
theorem dX9_layer_115 : decode cX9_layer 115 = .ok (.bipush 32, 2) := by decide +kernel
theorem dX9_layer_117 : decode cX9_layer 117 = .ok (.idiv, 1) := by decide +kernel
theorem dX9_layer_118 : decode cX9_layer 118 = .ok (.iadd, 1) := by decide +kernel
theorem dX9_layer_119 : decode cX9_layer 119 = .ok (.iaload, 1) := by decide +kernel
theorem dX9_layer_120 : decode cX9_layer 120 = .ok (.iload 6, 2) := by decide +kernel
theorem dX9_layer_122 : decode cX9_layer 122 = .ok (.bipush 32, 2) := by decide +kernel
theorem dX9_layer_124 : decode cX9_layer 124 = .ok (.irem, 1) := by decide +kernel
theorem dX9_layer_125 : decode cX9_layer 125 = .ok (.ishr, 1) := by decide +kernel
theorem dX9_layer_126 : decode cX9_layer 126 = .ok (.iconst 1, 1) := by decide +kernel
theorem dX9_layer_127 : decode cX9_layer 127 = .ok (.iand, 1) := by decide +kernel
theorem dX9_layer_128 : decode cX9_layer 128 = .ok (.iadd, 1) := by decide +kernel
theorem dX9_layer_129 : decode cX9_layer 129 = .ok (.istore 5, 2) := by decide +kernel
theorem dX9_layer_131 : decode cX9_layer 131 = .ok (.iinc 6 1, 3) := by decide +kernel
theorem dX9_layer_134 : decode cX9_layer 134 = .ok (.goto (-45), 3) := by decide +kernel
theorem dX9_layer_137 : decode cX9_layer 137 = .ok (.iload 5, 2) := by decide +kernel
theorem dX9_layer_139 : decode cX9_layer 139 = .ok (.ireturn, 1) := by decide +kernel
set_option maxRecDepth 20000 in
theorem ggX9_mark_X9_is : GoodIn wsX9_mark wsX9_is := goodIn_r _ [9, 10, 37, 38, 39, 40, 41, 42, 43, 44, 45, 46, 47, 48, 49, 50, 51, 52, 53, 54, 55, 56, 57, 58, 59] (by decide +kernel) (by decide +kernel)
set_option maxRecDepth 20000 in
theorem gX9_mark_X9_is : GoodIn wsX9_mark (wsV RX9 172 RX9 yX9_is wsX9_is) := goodIn_app (goodIn_of _ (by decide +kernel)) ggX9_mark_X9_is
set_option maxRecDepth 20000 in
theorem ggX9_mark_X9_mix : GoodIn wsX9_mark wsX9_mix := goodIn_r _ [13, 14, 15, 16] (by decide +kernel) (by decide +kernel)
set_option maxRecDepth 20000 in
theorem gX9_mark_X9_mix : GoodIn wsX9_mark (va_wsS RX9 108 yX9_mix wsX9_mix) := goodIn_app (goodIn_of _ (by decide +kernel)) ggX9_mark_X9_mix
set_option maxRecDepth 20000 in
theorem ggX9_mark_X9_nestOf : GoodIn wsX9_mark wsX9_nestOf := goodIn_r _ [20, 3, 21, 4, 11, 12, 8, 13, 14, 15, 16, 22, 23, 24, 25, 26, 27, 28, 29, 37, 38, 39, 40, 41, 42, 43, 44, 45, 46, 47, 48, 49, 50, 51, 52, 53, 54, 55, 56, 57, 58, 59] (by decide +kernel) (by decide +kernel)
set_option maxRecDepth 20000 in
theorem gX9_mark_X9_nestOf : GoodIn wsX9_mark (wsV RX9 142 RX9 yX9_nestOf wsX9_nestOf) := goodIn_app (goodIn_of _ (by decide +kernel)) ggX9_mark_X9_nestOf
set_option maxRecDepth 20000 in
theorem ggX9_mark_X9_solvedPlace : GoodIn wsX9_mark wsX9_solvedPlace := goodIn_r _ [32, 33] (by decide +kernel) (by decide +kernel)
set_option maxRecDepth 20000 in
theorem gX9_mark_X9_solvedPlace : GoodIn wsX9_mark (va_wsS RX9 139 yX9_solvedPlace wsX9_solvedPlace) := goodIn_app (goodIn_of _ (by decide +kernel)) ggX9_mark_X9_solvedPlace
set_option maxRecDepth 20000 in
theorem ggX9_mark_X9_markOf : GoodIn wsX9_mark wsX9_markOf := goodIn_r _ [36, 21] (by decide +kernel) (by decide +kernel)
set_option maxRecDepth 20000 in
theorem gX9_mark_X9_markOf : GoodIn wsX9_mark (va_wsS RX9 124 yX9_markOf wsX9_markOf) := goodIn_app (goodIn_of _ (by decide +kernel)) ggX9_mark_X9_markOf
theorem dX9_mark_0 : decode cX9_mark 0 = .ok (.aload_n 0, 1) := by decide +kernel
theorem dX9_mark_1 : decode cX9_mark 1 = .ok (.iload_n 1, 1) := by decide +kernel
theorem dX9_mark_2 : decode cX9_mark 2 = .ok (.invokevirtual 172, 3) := by decide +kernel
theorem dX9_mark_5 : decode cX9_mark 5 = .ok (.ifCond .ne 5, 3) := by decide +kernel
theorem dX9_mark_8 : decode cX9_mark 8 = .ok (.iconst (-1), 1) := by decide +kernel
theorem dX9_mark_9 : decode cX9_mark 9 = .ok (.ireturn, 1) := by decide +kernel
theorem dX9_mark_10 : decode cX9_mark 10 = .ok (.aload_n 0, 1) := by decide +kernel
theorem dX9_mark_11 : decode cX9_mark 11 = .ok (.getfield 17, 3) := by decide +kernel
theorem dX9_mark_14 : decode cX9_mark 14 = .ok (.iload_n 1, 1) := by decide +kernel
theorem dX9_mark_15 : decode cX9_mark 15 = .ok (.iaload, 1) := by decide +kernel
theorem dX9_mark_16 : decode cX9_mark 16 = .ok (.iconst 4, 1) := by decide +kernel
theorem dX9_mark_17 : decode cX9_mark 17 = .ok (.if_icmp .ne 6, 3) := by decide +kernel
theorem dX9_mark_20 : decode cX9_mark 20 = .ok (.bipush (-2), 2) := by decide +kernel
theorem dX9_mark_22 : decode cX9_mark 22 = .ok (.ireturn, 1) := by decide +kernel
theorem dX9_mark_23 : decode cX9_mark 23 = .ok (.aload_n 0, 1) := by decide +kernel
theorem dX9_mark_24 : decode cX9_mark 24 = .ok (.getfield 17, 3) := by decide +kernel
theorem dX9_mark_27 : decode cX9_mark 27 = .ok (.iload_n 1, 1) := by decide +kernel
theorem dX9_mark_28 : decode cX9_mark 28 = .ok (.iaload, 1) := by decide +kernel
theorem dX9_mark_29 : decode cX9_mark 29 = .ok (.iconst 2, 1) := by decide +kernel
theorem dX9_mark_30 : decode cX9_mark 30 = .ok (.if_icmp .ne 7, 3) := by decide +kernel
theorem dX9_mark_33 : decode cX9_mark 33 = .ok (.iconst 2, 1) := by decide +kernel
theorem dX9_mark_34 : decode cX9_mark 34 = .ok (.goto 23, 3) := by decide +kernel
theorem dX9_mark_37 : decode cX9_mark 37 = .ok (.aload_n 0, 1) := by decide +kernel
theorem dX9_mark_38 : decode cX9_mark 38 = .ok (.getfield 17, 3) := by decide +kernel
theorem dX9_mark_41 : decode cX9_mark 41 = .ok (.iload_n 1, 1) := by decide +kernel
theorem dX9_mark_42 : decode cX9_mark 42 = .ok (.iaload, 1) := by decide +kernel
theorem dX9_mark_43 : decode cX9_mark 43 = .ok (.iconst 3, 1) := by decide +kernel
theorem dX9_mark_44 : decode cX9_mark 44 = .ok (.if_icmp .ne 7, 3) := by decide +kernel
theorem dX9_mark_47 : decode cX9_mark 47 = .ok (.iconst 3, 1) := by decide +kernel
theorem dX9_mark_48 : decode cX9_mark 48 = .ok (.goto 9, 3) := by decide +kernel
theorem dX9_mark_51 : decode cX9_mark 51 = .ok (.aload_n 0, 1) := by decide +kernel
theorem dX9_mark_52 : decode cX9_mark 52 = .ok (.getfield 23, 3) := by decide +kernel
theorem dX9_mark_55 : decode cX9_mark 55 = .ok (.iload_n 1, 1) := by decide +kernel
theorem dX9_mark_56 : decode cX9_mark 56 = .ok (.iaload, 1) := by decide +kernel
theorem dX9_mark_57 : decode cX9_mark 57 = .ok (.istore 5, 2) := by decide +kernel
theorem dX9_mark_59 : decode cX9_mark 59 = .ok (.iload 4, 2) := by decide +kernel
theorem dX9_mark_61 : decode cX9_mark 61 = .ok (.ifCond .lt 10, 3) := by decide +kernel
theorem dX9_mark_64 : decode cX9_mark 64 = .ok (.iload 4, 2) := by decide +kernel
theorem dX9_mark_66 : decode cX9_mark 66 = .ok (.iload 5, 2) := by decide +kernel
theorem dX9_mark_68 : decode cX9_mark 68 = .ok (.if_icmp .lt 5, 3) := by decide +kernel
theorem dX9_mark_71 : decode cX9_mark 71 = .ok (.iconst (-1), 1) := by decide +kernel
theorem dX9_mark_72 : decode cX9_mark 72 = .ok (.ireturn, 1) := by decide +kernel
theorem dX9_mark_73 : decode cX9_mark 73 = .ok (.lload_n 2, 1) := by decide +kernel
theorem dX9_mark_74 : decode cX9_mark 74 = .ok (.aload_n 0, 1) := by decide +kernel
theorem dX9_mark_75 : decode cX9_mark 75 = .ok (.getfield 26, 3) := by decide +kernel
theorem dX9_mark_78 : decode cX9_mark 78 = .ok (.iload_n 1, 1) := by decide +kernel
theorem dX9_mark_79 : decode cX9_mark 79 = .ok (.iaload, 1) := by decide +kernel
theorem dX9_mark_80 : decode cX9_mark 80 = .ok (.invokestatic 108, 3) := by decide +kernel
theorem dX9_mark_83 : decode cX9_mark 83 = .ok (.lstore 6, 2) := by decide +kernel
theorem dX9_mark_85 : decode cX9_mark 85 = .ok (.aload_n 0, 1) := by decide +kernel
theorem dX9_mark_86 : decode cX9_mark 86 = .ok (.getfield 17, 3) := by decide +kernel
theorem dX9_mark_89 : decode cX9_mark 89 = .ok (.iload_n 1, 1) := by decide +kernel
theorem dX9_mark_90 : decode cX9_mark 90 = .ok (.iaload, 1) := by decide +kernel
theorem dX9_mark_91 : decode cX9_mark 91 = .ok (.iconst 2, 1) := by decide +kernel
theorem dX9_mark_92 : decode cX9_mark 92 = .ok (.if_icmp .ne 14, 3) := by decide +kernel
theorem dX9_mark_95 : decode cX9_mark 95 = .ok (.aload_n 0, 1) := by decide +kernel
theorem dX9_mark_96 : decode cX9_mark 96 = .ok (.iload_n 1, 1) := by decide +kernel
theorem dX9_mark_97 : decode cX9_mark 97 = .ok (.lload_n 2, 1) := by decide +kernel
theorem dX9_mark_98 : decode cX9_mark 98 = .ok (.iload 4, 2) := by decide +kernel
theorem dX9_mark_100 : decode cX9_mark 100 = .ok (.invokevirtual 142, 3) := by decide +kernel
theorem dX9_mark_103 : decode cX9_mark 103 = .ok (.goto 42, 3) := by decide +kernel
theorem dX9_mark_106 : decode cX9_mark 106 = .ok (.aload_n 0, 1) := by decide +kernel
theorem dX9_mark_107 : decode cX9_mark 107 = .ok (.getfield 17, 3) := by decide +kernel
theorem dX9_mark_110 : decode cX9_mark 110 = .ok (.iload_n 1, 1) := by decide +kernel
theorem dX9_mark_111 : decode cX9_mark 111 = .ok (.iaload, 1) := by decide +kernel
theorem dX9_mark_112 : decode cX9_mark 112 = .ok (.iconst 3, 1) := by decide +kernel
theorem dX9_mark_113 : decode cX9_mark 113 = .ok (.if_icmp .ne 19, 3) := by decide +kernel
theorem dX9_mark_116 : decode cX9_mark 116 = .ok (.lload 6, 2) := by decide +kernel
theorem dX9_mark_118 : decode cX9_mark 118 = .ok (.iload 4, 2) := by decide +kernel
theorem dX9_mark_120 : decode cX9_mark 120 = .ok (.aload_n 0, 1) := by decide +kernel
theorem dX9_mark_121 : decode cX9_mark 121 = .ok (.getfield 20, 3) := by decide +kernel
theorem dX9_mark_124 : decode cX9_mark 124 = .ok (.iload_n 1, 1) := by decide +kernel
theorem dX9_mark_125 : decode cX9_mark 125 = .ok (.iaload, 1) := by decide +kernel
theorem dX9_mark_126 : decode cX9_mark 126 = .ok (.invokestatic 139, 3) := by decide +kernel
theorem dX9_mark_129 : decode cX9_mark 129 = .ok (.goto 16, 3) := by decide +kernel
theorem dX9_mark_132 : decode cX9_mark 132 = .ok (.lload 6, 2) := by decide +kernel
theorem dX9_mark_134 : decode cX9_mark 134 = .ok (.iload 4, 2) := by decide +kernel
theorem dX9_mark_136 : decode cX9_mark 136 = .ok (.aload_n 0, 1) := by decide +kernel
theorem dX9_mark_137 : decode cX9_mark 137 = .ok (.getfield 20, 3) := by decide +kernel
theorem dX9_mark_140 : decode cX9_mark 140 = .ok (.iload_n 1, 1) := by decide +kernel
theorem dX9_mark_141 : decode cX9_mark 141 = .ok (.iaload, 1) := by decide +kernel
theorem dX9_mark_142 : decode cX9_mark 142 = .ok (.invokestatic 124, 3) := by decide +kernel
theorem dX9_mark_145 : decode cX9_mark 145 = .ok (.ireturn, 1) := by decide +kernel
set_option maxRecDepth 20000 in
theorem ggX9_falselyLet_X9_mix : GoodIn wsX9_falselyLet wsX9_mix := goodIn_r _ [7, 8, 9, 10] (by decide +kernel) (by decide +kernel)
set_option maxRecDepth 20000 in
theorem gX9_falselyLet_X9_mix : GoodIn wsX9_falselyLet (va_wsS RX9 108 yX9_mix wsX9_mix) := goodIn_app (goodIn_of _ (by decide +kernel)) ggX9_falselyLet_X9_mix
set_option maxRecDepth 20000 in
theorem ggX9_falselyLet_X9_markOf : GoodIn wsX9_falselyLet wsX9_markOf := goodIn_r _ [13, 14] (by decide +kernel) (by decide +kernel)
set_option maxRecDepth 20000 in
theorem gX9_falselyLet_X9_markOf : GoodIn wsX9_falselyLet (va_wsS RX9 124 yX9_markOf wsX9_markOf) := goodIn_app (goodIn_of _ (by decide +kernel)) ggX9_falselyLet_X9_markOf
set_option maxRecDepth 20000 in
theorem ggX9_falselyLet_X9_placeOf : GoodIn wsX9_falselyLet wsX9_placeOf := goodIn_r _ [18, 2, 3, 19, 20, 21, 22, 23, 24, 25, 26, 27, 28, 29, 30, 31, 32, 33, 34, 35, 36, 37, 38, 39, 40, 41] (by decide +kernel) (by decide +kernel)
set_option maxRecDepth 20000 in
theorem gX9_falselyLet_X9_placeOf : GoodIn wsX9_falselyLet (wsV RX9 96 RX9 yX9_placeOf wsX9_placeOf) := goodIn_app (goodIn_of _ (by decide +kernel)) ggX9_falselyLet_X9_placeOf
theorem dX9_falselyLet_0 : decode cX9_falselyLet 0 = .ok (.iconst 0, 1) := by decide +kernel
theorem dX9_falselyLet_1 : decode cX9_falselyLet 1 = .ok (.istore 6, 2) := by decide +kernel
theorem dX9_falselyLet_3 : decode cX9_falselyLet 3 = .ok (.iload 6, 2) := by decide +kernel
theorem dX9_falselyLet_5 : decode cX9_falselyLet 5 = .ok (.iload_n 3, 1) := by decide +kernel
theorem dX9_falselyLet_6 : decode cX9_falselyLet 6 = .ok (.if_icmp .ge 17, 3) := by decide +kernel
theorem dX9_falselyLet_9 : decode cX9_falselyLet 9 = .ok (.aload_n 0, 1) := by decide +kernel
theorem dX9_falselyLet_10 : decode cX9_falselyLet 10 = .ok (.getfield 74, 3) := by decide +kernel
theorem dX9_falselyLet_13 : decode cX9_falselyLet 13 = .ok (.iload 6, 2) := by decide +kernel
theorem dX9_falselyLet_15 : decode cX9_falselyLet 15 = .ok (.iconst 0, 1) := by decide +kernel
theorem dX9_falselyLet_16 : decode cX9_falselyLet 16 = .ok (.iastore, 1) := by decide +kernel
theorem dX9_falselyLet_17 : decode cX9_falselyLet 17 = .ok (.iinc 6 1, 3) := by decide +kernel
theorem dX9_falselyLet_20 : decode cX9_falselyLet 20 = .ok (.goto (-17), 3) := by decide +kernel
theorem dX9_falselyLet_23 : decode cX9_falselyLet 23 = .ok (.iconst 0, 1) := by decide +kernel
theorem dX9_falselyLet_24 : decode cX9_falselyLet 24 = .ok (.istore 6, 2) := by decide +kernel
theorem dX9_falselyLet_26 : decode cX9_falselyLet 26 = .ok (.iload 6, 2) := by decide +kernel
theorem dX9_falselyLet_28 : decode cX9_falselyLet 28 = .ok (.aload_n 0, 1) := by decide +kernel
theorem dX9_falselyLet_29 : decode cX9_falselyLet 29 = .ok (.getfield 13, 3) := by decide +kernel
theorem dX9_falselyLet_32 : decode cX9_falselyLet 32 = .ok (.iload_n 1, 1) := by decide +kernel
theorem dX9_falselyLet_33 : decode cX9_falselyLet 33 = .ok (.iaload, 1) := by decide +kernel
theorem dX9_falselyLet_34 : decode cX9_falselyLet 34 = .ok (.if_icmp .ge 59, 3) := by decide +kernel
theorem dX9_falselyLet_37 : decode cX9_falselyLet 37 = .ok (.aload_n 0, 1) := by decide +kernel
theorem dX9_falselyLet_38 : decode cX9_falselyLet 38 = .ok (.getfield 9, 3) := by decide +kernel
theorem dX9_falselyLet_41 : decode cX9_falselyLet 41 = .ok (.iload_n 1, 1) := by decide +kernel
theorem dX9_falselyLet_42 : decode cX9_falselyLet 42 = .ok (.sipush 1000, 3) := by decide +kernel
theorem dX9_falselyLet_45 : decode cX9_falselyLet 45 = .ok (.imul, 1) := by decide +kernel
theorem dX9_falselyLet_46 : decode cX9_falselyLet 46 = .ok (.iload 6, 2) := by decide +kernel
theorem dX9_falselyLet_48 : decode cX9_falselyLet 48 = .ok (.iadd, 1) := by decide +kernel
theorem dX9_falselyLet_49 : decode cX9_falselyLet 49 = .ok (.laload, 1) := by decide +kernel
theorem dX9_falselyLet_50 : decode cX9_falselyLet 50 = .ok (.iload 5, 2) := by decide +kernel
theorem dX9_falselyLet_52 : decode cX9_falselyLet 52 = .ok (.invokestatic 108, 3) := by decide +kernel
theorem dX9_falselyLet_55 : decode cX9_falselyLet 55 = .ok (.lstore 7, 2) := by decide +kernel
theorem dX9_falselyLet_57 : decode cX9_falselyLet 57 = .ok (.iconst 0, 1) := by decide +kernel
theorem dX9_falselyLet_58 : decode cX9_falselyLet 58 = .ok (.istore 9, 2) := by decide +kernel
theorem dX9_falselyLet_60 : decode cX9_falselyLet 60 = .ok (.iload 9, 2) := by decide +kernel
theorem dX9_falselyLet_62 : decode cX9_falselyLet 62 = .ok (.iload 4, 2) := by decide +kernel
theorem dX9_falselyLet_64 : decode cX9_falselyLet 64 = .ok (.if_icmp .ge 23, 3) := by decide +kernel
theorem dX9_falselyLet_67 : decode cX9_falselyLet 67 = .ok (.aload_n 0, 1) := by decide +kernel
theorem dX9_falselyLet_68 : decode cX9_falselyLet 68 = .ok (.getfield 74, 3) := by decide +kernel
theorem dX9_falselyLet_71 : decode cX9_falselyLet 71 = .ok (.lload 7, 2) := by decide +kernel
theorem dX9_falselyLet_73 : decode cX9_falselyLet 73 = .ok (.iload 9, 2) := by decide +kernel
theorem dX9_falselyLet_75 : decode cX9_falselyLet 75 = .ok (.iload_n 3, 1) := by decide +kernel
theorem dX9_falselyLet_76 : decode cX9_falselyLet 76 = .ok (.invokestatic 124, 3) := by decide +kernel
theorem dX9_falselyLet_79 : decode cX9_falselyLet 79 = .ok (.iconst 1, 1) := by decide +kernel
theorem dX9_falselyLet_80 : decode cX9_falselyLet 80 = .ok (.iastore, 1) := by decide +kernel
theorem dX9_falselyLet_81 : decode cX9_falselyLet 81 = .ok (.iinc 9 1, 3) := by decide +kernel
theorem dX9_falselyLet_84 : decode cX9_falselyLet 84 = .ok (.goto (-24), 3) := by decide +kernel
theorem dX9_falselyLet_87 : decode cX9_falselyLet 87 = .ok (.iinc 6 1, 3) := by decide +kernel
theorem dX9_falselyLet_90 : decode cX9_falselyLet 90 = .ok (.goto (-64), 3) := by decide +kernel
theorem dX9_falselyLet_93 : decode cX9_falselyLet 93 = .ok (.iconst 0, 1) := by decide +kernel
theorem dX9_falselyLet_94 : decode cX9_falselyLet 94 = .ok (.istore 6, 2) := by decide +kernel
theorem dX9_falselyLet_96 : decode cX9_falselyLet 96 = .ok (.iconst 0, 1) := by decide +kernel
theorem dX9_falselyLet_97 : decode cX9_falselyLet 97 = .ok (.istore 7, 2) := by decide +kernel
theorem dX9_falselyLet_99 : decode cX9_falselyLet 99 = .ok (.iload 7, 2) := by decide +kernel
theorem dX9_falselyLet_101 : decode cX9_falselyLet 101 = .ok (.aload_n 0, 1) := by decide +kernel
theorem dX9_falselyLet_102 : decode cX9_falselyLet 102 = .ok (.getfield 13, 3) := by decide +kernel
theorem dX9_falselyLet_105 : decode cX9_falselyLet 105 = .ok (.iload_n 2, 1) := by decide +kernel
theorem dX9_falselyLet_106 : decode cX9_falselyLet 106 = .ok (.iaload, 1) := by decide +kernel
theorem dX9_falselyLet_107 : decode cX9_falselyLet 107 = .ok (.if_icmp .ge 106, 3) := by decide +kernel
theorem dX9_falselyLet_110 : decode cX9_falselyLet 110 = .ok (.aload_n 0, 1) := by decide +kernel
theorem dX9_falselyLet_111 : decode cX9_falselyLet 111 = .ok (.getfield 9, 3) := by decide +kernel
theorem dX9_falselyLet_114 : decode cX9_falselyLet 114 = .ok (.iload_n 2, 1) := by decide +kernel
theorem dX9_falselyLet_115 : decode cX9_falselyLet 115 = .ok (.sipush 1000, 3) := by decide +kernel
theorem dX9_falselyLet_118 : decode cX9_falselyLet 118 = .ok (.imul, 1) := by decide +kernel
theorem dX9_falselyLet_119 : decode cX9_falselyLet 119 = .ok (.iload 7, 2) := by decide +kernel
theorem dX9_falselyLet_121 : decode cX9_falselyLet 121 = .ok (.iadd, 1) := by decide +kernel
theorem dX9_falselyLet_122 : decode cX9_falselyLet 122 = .ok (.laload, 1) := by decide +kernel
theorem dX9_falselyLet_123 : decode cX9_falselyLet 123 = .ok (.lstore 8, 2) := by decide +kernel
theorem dX9_falselyLet_125 : decode cX9_falselyLet 125 = .ok (.lload 8, 2) := by decide +kernel
theorem dX9_falselyLet_127 : decode cX9_falselyLet 127 = .ok (.iload 5, 2) := by decide +kernel
theorem dX9_falselyLet_129 : decode cX9_falselyLet 129 = .ok (.invokestatic 108, 3) := by decide +kernel
theorem dX9_falselyLet_132 : decode cX9_falselyLet 132 = .ok (.lstore 10, 2) := by decide +kernel
theorem dX9_falselyLet_134 : decode cX9_falselyLet 134 = .ok (.iconst 1, 1) := by decide +kernel
theorem dX9_falselyLet_135 : decode cX9_falselyLet 135 = .ok (.istore 12, 2) := by decide +kernel
theorem dX9_falselyLet_137 : decode cX9_falselyLet 137 = .ok (.iconst 0, 1) := by decide +kernel
theorem dX9_falselyLet_138 : decode cX9_falselyLet 138 = .ok (.istore 13, 2) := by decide +kernel
theorem dX9_falselyLet_140 : decode cX9_falselyLet 140 = .ok (.iload 13, 2) := by decide +kernel
theorem dX9_falselyLet_142 : decode cX9_falselyLet 142 = .ok (.iload 4, 2) := by decide +kernel
theorem dX9_falselyLet_144 : decode cX9_falselyLet 144 = .ok (.if_icmp .ge 38, 3) := by decide +kernel
theorem dX9_falselyLet_147 : decode cX9_falselyLet 147 = .ok (.iload 12, 2) := by decide +kernel
theorem dX9_falselyLet_149 : decode cX9_falselyLet 149 = .ok (.ifCond .eq 24, 3) := by decide +kernel
theorem dX9_falselyLet_152 : decode cX9_falselyLet 152 = .ok (.aload_n 0, 1) := by decide +kernel
theorem dX9_falselyLet_153 : decode cX9_falselyLet 153 = .ok (.getfield 74, 3) := by decide +kernel
theorem dX9_falselyLet_156 : decode cX9_falselyLet 156 = .ok (.lload 10, 2) := by decide +kernel
theorem dX9_falselyLet_158 : decode cX9_falselyLet 158 = .ok (.iload 13, 2) := by decide +kernel
theorem dX9_falselyLet_160 : decode cX9_falselyLet 160 = .ok (.iload_n 3, 1) := by decide +kernel
theorem dX9_falselyLet_161 : decode cX9_falselyLet 161 = .ok (.invokestatic 124, 3) := by decide +kernel
theorem dX9_falselyLet_164 : decode cX9_falselyLet 164 = .ok (.iaload, 1) := by decide +kernel
theorem dX9_falselyLet_165 : decode cX9_falselyLet 165 = .ok (.iconst 1, 1) := by decide +kernel
theorem dX9_falselyLet_166 : decode cX9_falselyLet 166 = .ok (.if_icmp .ne 7, 3) := by decide +kernel
theorem dX9_falselyLet_169 : decode cX9_falselyLet 169 = .ok (.iconst 1, 1) := by decide +kernel
theorem dX9_falselyLet_170 : decode cX9_falselyLet 170 = .ok (.goto 4, 3) := by decide +kernel
theorem dX9_falselyLet_173 : decode cX9_falselyLet 173 = .ok (.iconst 0, 1) := by decide +kernel
theorem dX9_falselyLet_174 : decode cX9_falselyLet 174 = .ok (.istore 12, 2) := by decide +kernel
theorem dX9_falselyLet_176 : decode cX9_falselyLet 176 = .ok (.iinc 13 1, 3) := by decide +kernel
theorem dX9_falselyLet_179 : decode cX9_falselyLet 179 = .ok (.goto (-39), 3) := by decide +kernel
theorem dX9_falselyLet_182 : decode cX9_falselyLet 182 = .ok (.iload 6, 2) := by decide +kernel
theorem dX9_falselyLet_184 : decode cX9_falselyLet 184 = .ok (.iload 12, 2) := by decide +kernel
theorem dX9_falselyLet_186 : decode cX9_falselyLet 186 = .ok (.ifCond .eq 17, 3) := by decide +kernel
theorem dX9_falselyLet_189 : decode cX9_falselyLet 189 = .ok (.aload_n 0, 1) := by decide +kernel
theorem dX9_falselyLet_190 : decode cX9_falselyLet 190 = .ok (.iload_n 1, 1) := by decide +kernel
theorem dX9_falselyLet_191 : decode cX9_falselyLet 191 = .ok (.lload 8, 2) := by decide +kernel
theorem dX9_falselyLet_193 : decode cX9_falselyLet 193 = .ok (.invokevirtual 96, 3) := by decide +kernel
theorem dX9_falselyLet_196 : decode cX9_falselyLet 196 = .ok (.ifCond .ge 7, 3) := by decide +kernel
theorem dX9_falselyLet_199 : decode cX9_falselyLet 199 = .ok (.iconst 1, 1) := by decide +kernel
theorem dX9_falselyLet_200 : decode cX9_falselyLet 200 = .ok (.goto 4, 3) := by decide +kernel
theorem dX9_falselyLet_203 : decode cX9_falselyLet 203 = .ok (.iconst 0, 1) := by decide +kernel
theorem dX9_falselyLet_204 : decode cX9_falselyLet 204 = .ok (.iadd, 1) := by decide +kernel
theorem dX9_falselyLet_205 : decode cX9_falselyLet 205 = .ok (.istore 6, 2) := by decide +kernel
theorem dX9_falselyLet_207 : decode cX9_falselyLet 207 = .ok (.iinc 7 1, 3) := by decide +kernel
theorem dX9_falselyLet_210 : decode cX9_falselyLet 210 = .ok (.goto (-111), 3) := by decide +kernel
theorem dX9_falselyLet_213 : decode cX9_falselyLet 213 = .ok (.iload 6, 2) := by decide +kernel
theorem dX9_falselyLet_215 : decode cX9_falselyLet 215 = .ok (.ireturn, 1) := by decide +kernel
set_option maxRecDepth 20000 in
theorem ggX9_fewest_X9_isWorld : GoodIn wsX9_fewest wsX9_isWorld := goodIn_r _ [4] (by decide +kernel) (by decide +kernel)
set_option maxRecDepth 20000 in
theorem gX9_fewest_X9_isWorld : GoodIn wsX9_fewest (va_wsS RX9 92 yX9_isWorld wsX9_isWorld) := goodIn_app (goodIn_of _ (by decide +kernel)) ggX9_fewest_X9_isWorld
set_option maxRecDepth 20000 in
theorem ggX9_fewest_X9_falselyLet : GoodIn wsX9_fewest wsX9_falselyLet := goodIn_r _ [8, 9, 10, 11, 12, 13, 3, 14, 15, 16, 17, 18, 19, 20, 21, 22, 23, 24, 25, 26, 27, 28, 29, 30, 31, 32, 33, 34, 35, 36, 37, 38, 39, 40, 41, 42, 43, 44, 45, 46, 47, 48] (by decide +kernel) (by decide +kernel)
set_option maxRecDepth 20000 in
theorem gX9_fewest_X9_falselyLet : GoodIn wsX9_fewest (wsV RX9 194 RX9 yX9_falselyLet wsX9_falselyLet) := goodIn_app (goodIn_of _ (by decide +kernel)) ggX9_fewest_X9_falselyLet
theorem dX9_fewest_0 : decode cX9_fewest 0 = .ok (.iload_n 1, 1) := by decide +kernel
theorem dX9_fewest_1 : decode cX9_fewest 1 = .ok (.invokestatic 92, 3) := by decide +kernel
theorem dX9_fewest_4 : decode cX9_fewest 4 = .ok (.ifCond .eq 23, 3) := by decide +kernel
theorem dX9_fewest_7 : decode cX9_fewest 7 = .ok (.iload_n 2, 1) := by decide +kernel
theorem dX9_fewest_8 : decode cX9_fewest 8 = .ok (.invokestatic 92, 3) := by decide +kernel
theorem dX9_fewest_11 : decode cX9_fewest 11 = .ok (.ifCond .eq 16, 3) := by decide +kernel
theorem dX9_fewest_14 : decode cX9_fewest 14 = .ok (.iload_n 3, 1) := by decide +kernel
theorem dX9_fewest_15 : decode cX9_fewest 15 = .ok (.bipush 8, 2) := by decide +kernel
theorem dX9_fewest_17 : decode cX9_fewest 17 = .ok (.if_icmp .lt 10, 3) := by decide +kernel
theorem dX9_fewest_20 : decode cX9_fewest 20 = .ok (.iload_n 3, 1) := by decide +kernel
theorem dX9_fewest_21 : decode cX9_fewest 21 = .ok (.sipush 4096, 3) := by decide +kernel
theorem dX9_fewest_24 : decode cX9_fewest 24 = .ok (.if_icmp .le 5, 3) := by decide +kernel
theorem dX9_fewest_27 : decode cX9_fewest 27 = .ok (.iconst (-1), 1) := by decide +kernel
theorem dX9_fewest_28 : decode cX9_fewest 28 = .ok (.ireturn, 1) := by decide +kernel
theorem dX9_fewest_29 : decode cX9_fewest 29 = .ok (.iconst 0, 1) := by decide +kernel
theorem dX9_fewest_30 : decode cX9_fewest 30 = .ok (.istore 5, 2) := by decide +kernel
theorem dX9_fewest_32 : decode cX9_fewest 32 = .ok (.sipush 1001, 3) := by decide +kernel
theorem dX9_fewest_35 : decode cX9_fewest 35 = .ok (.istore 6, 2) := by decide +kernel
theorem dX9_fewest_37 : decode cX9_fewest 37 = .ok (.bipush 8, 2) := by decide +kernel
theorem dX9_fewest_39 : decode cX9_fewest 39 = .ok (.istore 7, 2) := by decide +kernel
theorem dX9_fewest_41 : decode cX9_fewest 41 = .ok (.iload 7, 2) := by decide +kernel
theorem dX9_fewest_43 : decode cX9_fewest 43 = .ok (.iload_n 3, 1) := by decide +kernel
theorem dX9_fewest_44 : decode cX9_fewest 44 = .ok (.if_icmp .gt 63, 3) := by decide +kernel
theorem dX9_fewest_47 : decode cX9_fewest 47 = .ok (.iconst 1, 1) := by decide +kernel
theorem dX9_fewest_48 : decode cX9_fewest 48 = .ok (.istore 8, 2) := by decide +kernel
theorem dX9_fewest_50 : decode cX9_fewest 50 = .ok (.iload 8, 2) := by decide +kernel
theorem dX9_fewest_52 : decode cX9_fewest 52 = .ok (.bipush 8, 2) := by decide +kernel
theorem dX9_fewest_54 : decode cX9_fewest 54 = .ok (.if_icmp .gt 44, 3) := by decide +kernel
theorem dX9_fewest_57 : decode cX9_fewest 57 = .ok (.aload_n 0, 1) := by decide +kernel
theorem dX9_fewest_58 : decode cX9_fewest 58 = .ok (.iload_n 1, 1) := by decide +kernel
theorem dX9_fewest_59 : decode cX9_fewest 59 = .ok (.iload_n 2, 1) := by decide +kernel
theorem dX9_fewest_60 : decode cX9_fewest 60 = .ok (.iload 7, 2) := by decide +kernel
theorem dX9_fewest_62 : decode cX9_fewest 62 = .ok (.iload 8, 2) := by decide +kernel
theorem dX9_fewest_64 : decode cX9_fewest 64 = .ok (.iload 4, 2) := by decide +kernel
theorem dX9_fewest_66 : decode cX9_fewest 66 = .ok (.invokevirtual 194, 3) := by decide +kernel
theorem dX9_fewest_69 : decode cX9_fewest 69 = .ok (.istore 9, 2) := by decide +kernel
theorem dX9_fewest_71 : decode cX9_fewest 71 = .ok (.iload 9, 2) := by decide +kernel
theorem dX9_fewest_73 : decode cX9_fewest 73 = .ok (.iload 6, 2) := by decide +kernel
theorem dX9_fewest_75 : decode cX9_fewest 75 = .ok (.if_icmp .ge 17, 3) := by decide +kernel
theorem dX9_fewest_78 : decode cX9_fewest 78 = .ok (.iload 9, 2) := by decide +kernel
theorem dX9_fewest_80 : decode cX9_fewest 80 = .ok (.istore 6, 2) := by decide +kernel
theorem dX9_fewest_82 : decode cX9_fewest 82 = .ok (.bipush 16, 2) := by decide +kernel
theorem dX9_fewest_84 : decode cX9_fewest 84 = .ok (.iload 7, 2) := by decide +kernel
theorem dX9_fewest_86 : decode cX9_fewest 86 = .ok (.imul, 1) := by decide +kernel
theorem dX9_fewest_87 : decode cX9_fewest 87 = .ok (.iload 8, 2) := by decide +kernel
theorem dX9_fewest_89 : decode cX9_fewest 89 = .ok (.iadd, 1) := by decide +kernel
theorem dX9_fewest_90 : decode cX9_fewest 90 = .ok (.istore 5, 2) := by decide +kernel
theorem dX9_fewest_92 : decode cX9_fewest 92 = .ok (.iinc 8 1, 3) := by decide +kernel
theorem dX9_fewest_95 : decode cX9_fewest 95 = .ok (.goto (-45), 3) := by decide +kernel
theorem dX9_fewest_98 : decode cX9_fewest 98 = .ok (.iconst 2, 1) := by decide +kernel
theorem dX9_fewest_99 : decode cX9_fewest 99 = .ok (.iload 7, 2) := by decide +kernel
theorem dX9_fewest_101 : decode cX9_fewest 101 = .ok (.imul, 1) := by decide +kernel
theorem dX9_fewest_102 : decode cX9_fewest 102 = .ok (.istore 7, 2) := by decide +kernel
theorem dX9_fewest_104 : decode cX9_fewest 104 = .ok (.goto (-63), 3) := by decide +kernel
theorem dX9_fewest_107 : decode cX9_fewest 107 = .ok (.iload 5, 2) := by decide +kernel
theorem dX9_fewest_109 : decode cX9_fewest 109 = .ok (.ireturn, 1) := by decide +kernel
theorem dX9_remove_0 : decode cX9_remove 0 = .ok (.aload_n 0, 1) := by decide +kernel
theorem dX9_remove_1 : decode cX9_remove 1 = .ok (.getfield 88, 3) := by decide +kernel
theorem dX9_remove_4 : decode cX9_remove 4 = .ok (.ifCond .ne 5, 3) := by decide +kernel
theorem dX9_remove_7 : decode cX9_remove 7 = .ok (.iconst (-1), 1) := by decide +kernel
theorem dX9_remove_8 : decode cX9_remove 8 = .ok (.ireturn, 1) := by decide +kernel
theorem dX9_remove_9 : decode cX9_remove 9 = .ok (.aload_n 0, 1) := by decide +kernel
theorem dX9_remove_10 : decode cX9_remove 10 = .ok (.dup, 1) := by decide +kernel
theorem dX9_remove_11 : decode cX9_remove 11 = .ok (.getfield 88, 3) := by decide +kernel
theorem dX9_remove_14 : decode cX9_remove 14 = .ok (.iconst 1, 1) := by decide +kernel
theorem dX9_remove_15 : decode cX9_remove 15 = .ok (.isub, 1) := by decide +kernel
theorem dX9_remove_16 : decode cX9_remove 16 = .ok (.putfield 88, 3) := by decide +kernel
theorem dX9_remove_19 : decode cX9_remove 19 = .ok (.aload_n 0, 1) := by decide +kernel
theorem dX9_remove_20 : decode cX9_remove 20 = .ok (.getfield 88, 3) := by decide +kernel
theorem dX9_remove_23 : decode cX9_remove 23 = .ok (.ireturn, 1) := by decide +kernel
theorem dX9_sieves_0 : decode cX9_sieves 0 = .ok (.aload_n 0, 1) := by decide +kernel
theorem dX9_sieves_1 : decode cX9_sieves 1 = .ok (.getfield 88, 3) := by decide +kernel
theorem dX9_sieves_4 : decode cX9_sieves 4 = .ok (.ireturn, 1) := by decide +kernel
