theorem dX9_solve_121 : decode cX9_solve 121 = .ok (.sipush 1000, 3) := by decide +kernel
theorem dX9_solve_124 : decode cX9_solve 124 = .ok (.imul, 1) := by decide +kernel
theorem dX9_solve_125 : decode cX9_solve 125 = .ok (.aload_n 0, 1) := by decide +kernel
theorem dX9_solve_126 : decode cX9_solve 126 = .ok (.getfield 64, 3) := by decide +kernel
theorem dX9_solve_129 : decode cX9_solve 129 = .ok (.iload 7, 2) := by decide +kernel
theorem dX9_solve_131 : decode cX9_solve 131 = .ok (.iaload, 1) := by decide +kernel
theorem dX9_solve_132 : decode cX9_solve 132 = .ok (.iadd, 1) := by decide +kernel
theorem dX9_solve_133 : decode cX9_solve 133 = .ok (.laload, 1) := by decide +kernel
theorem dX9_solve_134 : decode cX9_solve 134 = .ok (.iload_n 2, 1) := by decide +kernel
theorem dX9_solve_135 : decode cX9_solve 135 = .ok (.iload 5, 2) := by decide +kernel
theorem dX9_solve_137 : decode cX9_solve 137 = .ok (.iadd, 1) := by decide +kernel
theorem dX9_solve_138 : decode cX9_solve 138 = .ok (.invokestatic 108, 3) := by decide +kernel
theorem dX9_solve_141 : decode cX9_solve 141 = .ok (.lstore 8, 2) := by decide +kernel
theorem dX9_solve_143 : decode cX9_solve 143 = .ok (.lload 8, 2) := by decide +kernel
theorem dX9_solve_145 : decode cX9_solve 145 = .ok (.invokestatic 136, 3) := by decide +kernel
theorem dX9_solve_148 : decode cX9_solve 148 = .ok (.istore 10, 2) := by decide +kernel
theorem dX9_solve_150 : decode cX9_solve 150 = .ok (.iconst 0, 1) := by decide +kernel
theorem dX9_solve_151 : decode cX9_solve 151 = .ok (.istore 11, 2) := by decide +kernel
theorem dX9_solve_153 : decode cX9_solve 153 = .ok (.iload 11, 2) := by decide +kernel
theorem dX9_solve_155 : decode cX9_solve 155 = .ok (.iconst 3, 1) := by decide +kernel
theorem dX9_solve_156 : decode cX9_solve 156 = .ok (.if_icmp .ge 35, 3) := by decide +kernel
theorem dX9_solve_159 : decode cX9_solve 159 = .ok (.iload 10, 2) := by decide +kernel
theorem dX9_solve_161 : decode cX9_solve 161 = .ok (.aload_n 0, 1) := by decide +kernel
theorem dX9_solve_162 : decode cX9_solve 162 = .ok (.getfield 36, 3) := by decide +kernel
theorem dX9_solve_165 : decode cX9_solve 165 = .ok (.iload 6, 2) := by decide +kernel
theorem dX9_solve_167 : decode cX9_solve 167 = .ok (.sipush 4096, 3) := by decide +kernel
theorem dX9_solve_170 : decode cX9_solve 170 = .ok (.imul, 1) := by decide +kernel
theorem dX9_solve_171 : decode cX9_solve 171 = .ok (.lload 8, 2) := by decide +kernel
theorem dX9_solve_173 : decode cX9_solve 173 = .ok (.iload 11, 2) := by decide +kernel
theorem dX9_solve_175 : decode cX9_solve 175 = .ok (.iload 4, 2) := by decide +kernel
theorem dX9_solve_177 : decode cX9_solve 177 = .ok (.invokestatic 139, 3) := by decide +kernel
theorem dX9_solve_180 : decode cX9_solve 180 = .ok (.iadd, 1) := by decide +kernel
theorem dX9_solve_181 : decode cX9_solve 181 = .ok (.iaload, 1) := by decide +kernel
theorem dX9_solve_182 : decode cX9_solve 182 = .ok (.ixor, 1) := by decide +kernel
theorem dX9_solve_183 : decode cX9_solve 183 = .ok (.istore 10, 2) := by decide +kernel
theorem dX9_solve_185 : decode cX9_solve 185 = .ok (.iinc 11 1, 3) := by decide +kernel
theorem dX9_solve_188 : decode cX9_solve 188 = .ok (.goto (-35), 3) := by decide +kernel
theorem dX9_solve_191 : decode cX9_solve 191 = .ok (.aload_n 0, 1) := by decide +kernel
theorem dX9_solve_192 : decode cX9_solve 192 = .ok (.getfield 36, 3) := by decide +kernel
theorem dX9_solve_195 : decode cX9_solve 195 = .ok (.iload 6, 2) := by decide +kernel
theorem dX9_solve_197 : decode cX9_solve 197 = .ok (.sipush 4096, 3) := by decide +kernel
theorem dX9_solve_200 : decode cX9_solve 200 = .ok (.imul, 1) := by decide +kernel
theorem dX9_solve_201 : decode cX9_solve 201 = .ok (.aload_n 0, 1) := by decide +kernel
theorem dX9_solve_202 : decode cX9_solve 202 = .ok (.getfield 67, 3) := by decide +kernel
theorem dX9_solve_205 : decode cX9_solve 205 = .ok (.iload 7, 2) := by decide +kernel
theorem dX9_solve_207 : decode cX9_solve 207 = .ok (.iaload, 1) := by decide +kernel
theorem dX9_solve_208 : decode cX9_solve 208 = .ok (.iadd, 1) := by decide +kernel
theorem dX9_solve_209 : decode cX9_solve 209 = .ok (.iload 10, 2) := by decide +kernel
theorem dX9_solve_211 : decode cX9_solve 211 = .ok (.iastore, 1) := by decide +kernel
theorem dX9_solve_212 : decode cX9_solve 212 = .ok (.iinc 7 (-1), 3) := by decide +kernel
theorem dX9_solve_215 : decode cX9_solve 215 = .ok (.goto (-104), 3) := by decide +kernel
theorem dX9_solve_218 : decode cX9_solve 218 = .ok (.aload_n 0, 1) := by decide +kernel
theorem dX9_solve_219 : decode cX9_solve 219 = .ok (.iload 6, 2) := by decide +kernel
theorem dX9_solve_221 : decode cX9_solve 221 = .ok (.iload_n 1, 1) := by decide +kernel
theorem dX9_solve_222 : decode cX9_solve 222 = .ok (.invokevirtual 157, 3) := by decide +kernel
theorem dX9_solve_225 : decode cX9_solve 225 = .ok (.iload 6, 2) := by decide +kernel
theorem dX9_solve_227 : decode cX9_solve 227 = .ok (.ireturn, 1) := by decide +kernel
set_option maxRecDepth 20000 in
theorem gu_wsX9_lay_1 : ∀ w ∈ ([Cond.fieldLink RX9 43 "SieveCabinetModel" "layerSize" "[I", Cond.fieldLink RX9 46 "SieveCabinetModel" "layerCame" "[I", Cond.fieldLink RX9 40 "SieveCabinetModel" "bits" "[I", Cond.fieldLink RX9 55 "SieveCabinetModel" "come" "[J", Cond.fieldLink RX9 26 "SieveCabinetModel" "seed" "[I", Cond.fieldLink RX9 20 "SieveCabinetModel" "size" "[I", Cond.methodLink RX9 108 yX9_mix, Cond.static yX9_mix, Cond.initialized RX9, Cond.code yX9_mix cX9_mix 5 (some .long), Cond.constantLong RX9 80 (-7046029254386353131), Cond.constantLong RX9 82 (-4658895280553007687), Cond.constantLong RX9 84 (-7723592293110705685), Cond.methodLink RX9 124 yX9_markOf, Cond.static yX9_markOf, Cond.code yX9_markOf cX9_markOf 8 (some .int), Cond.constantLong RX9 86 (4294967295)] : List Cond), w ∈ wsX9_lay := fun _ h => List.mem_cons_of_mem _ (List.mem_append_left _ h)
set_option maxRecDepth 20000 in
theorem ggX9_lay_X9_mix : GoodIn wsX9_lay wsX9_mix := goodIn_sub (gi_c (gu_wsX9_lay_1 _ gm_9) (gi_c (gu_wsX9_lay_1 _ gm_10) (gi_c (gu_wsX9_lay_1 _ gm_11) (gi_c (gu_wsX9_lay_1 _ gm_12) gi_0)))) (by decide +kernel)
set_option maxRecDepth 20000 in
theorem gX9_lay_X9_mix : GoodIn wsX9_lay (va_wsS RX9 108 yX9_mix wsX9_mix) := goodIn_app (goodIn_sub (gi_c (gu_wsX9_lay_1 _ gm_6) (gi_c (gu_wsX9_lay_1 _ gm_7) (gi_c (gu_wsX9_lay_1 _ gm_8) gi_0))) (by decide +kernel)) ggX9_lay_X9_mix
set_option maxRecDepth 20000 in
theorem ggX9_lay_X9_markOf : GoodIn wsX9_lay wsX9_markOf := goodIn_sub (gi_c (gu_wsX9_lay_1 _ gm_15) (gi_c (gu_wsX9_lay_1 _ gm_16) gi_0)) (by decide +kernel)
set_option maxRecDepth 20000 in
theorem gX9_lay_X9_markOf : GoodIn wsX9_lay (va_wsS RX9 124 yX9_markOf wsX9_markOf) := goodIn_app (goodIn_sub (gi_c (gu_wsX9_lay_1 _ gm_13) (gi_c (gu_wsX9_lay_1 _ gm_14) (gi_c (gu_wsX9_lay_1 _ gm_8) gi_0))) (by decide +kernel)) ggX9_lay_X9_markOf
theorem dX9_lay_0 : decode cX9_lay 0 = .ok (.bipush 8, 2) := by decide +kernel
theorem dX9_lay_2 : decode cX9_lay 2 = .ok (.istore 4, 2) := by decide +kernel
theorem dX9_lay_4 : decode cX9_lay 4 = .ok (.iload 4, 2) := by decide +kernel
theorem dX9_lay_6 : decode cX9_lay 6 = .ok (.sipush 4096, 3) := by decide +kernel
theorem dX9_lay_9 : decode cX9_lay 9 = .ok (.if_icmp .ge 21, 3) := by decide +kernel
theorem dX9_lay_12 : decode cX9_lay 12 = .ok (.iload 4, 2) := by decide +kernel
theorem dX9_lay_14 : decode cX9_lay 14 = .ok (.bipush 8, 2) := by decide +kernel
theorem dX9_lay_16 : decode cX9_lay 16 = .ok (.iload_n 3, 1) := by decide +kernel
theorem dX9_lay_17 : decode cX9_lay 17 = .ok (.imul, 1) := by decide +kernel
theorem dX9_lay_18 : decode cX9_lay 18 = .ok (.if_icmp .ge 12, 3) := by decide +kernel
theorem dX9_lay_21 : decode cX9_lay 21 = .ok (.iconst 2, 1) := by decide +kernel
theorem dX9_lay_22 : decode cX9_lay 22 = .ok (.iload 4, 2) := by decide +kernel
theorem dX9_lay_24 : decode cX9_lay 24 = .ok (.imul, 1) := by decide +kernel
theorem dX9_lay_25 : decode cX9_lay 25 = .ok (.istore 4, 2) := by decide +kernel
theorem dX9_lay_27 : decode cX9_lay 27 = .ok (.goto (-23), 3) := by decide +kernel
theorem dX9_lay_30 : decode cX9_lay 30 = .ok (.iload_n 1, 1) := by decide +kernel
theorem dX9_lay_31 : decode cX9_lay 31 = .ok (.bipush 20, 2) := by decide +kernel
theorem dX9_lay_33 : decode cX9_lay 33 = .ok (.imul, 1) := by decide +kernel
theorem dX9_lay_34 : decode cX9_lay 34 = .ok (.iload_n 2, 1) := by decide +kernel
theorem dX9_lay_35 : decode cX9_lay 35 = .ok (.iadd, 1) := by decide +kernel
theorem dX9_lay_36 : decode cX9_lay 36 = .ok (.istore 5, 2) := by decide +kernel
theorem dX9_lay_38 : decode cX9_lay 38 = .ok (.aload_n 0, 1) := by decide +kernel
theorem dX9_lay_39 : decode cX9_lay 39 = .ok (.getfield 43, 3) := by decide +kernel
theorem dX9_lay_42 : decode cX9_lay 42 = .ok (.iload 5, 2) := by decide +kernel
theorem dX9_lay_44 : decode cX9_lay 44 = .ok (.iload 4, 2) := by decide +kernel
theorem dX9_lay_46 : decode cX9_lay 46 = .ok (.iastore, 1) := by decide +kernel
theorem dX9_lay_47 : decode cX9_lay 47 = .ok (.aload_n 0, 1) := by decide +kernel
theorem dX9_lay_48 : decode cX9_lay 48 = .ok (.getfield 46, 3) := by decide +kernel
theorem dX9_lay_51 : decode cX9_lay 51 = .ok (.iload 5, 2) := by decide +kernel
theorem dX9_lay_53 : decode cX9_lay 53 = .ok (.iload_n 3, 1) := by decide +kernel
theorem dX9_lay_54 : decode cX9_lay 54 = .ok (.iastore, 1) := by decide +kernel
theorem dX9_lay_55 : decode cX9_lay 55 = .ok (.iconst 0, 1) := by decide +kernel
theorem dX9_lay_56 : decode cX9_lay 56 = .ok (.istore 6, 2) := by decide +kernel
theorem dX9_lay_58 : decode cX9_lay 58 = .ok (.iload 6, 2) := by decide +kernel
theorem dX9_lay_60 : decode cX9_lay 60 = .ok (.sipush 128, 3) := by decide +kernel
theorem dX9_lay_63 : decode cX9_lay 63 = .ok (.if_icmp .ge 24, 3) := by decide +kernel
theorem dX9_lay_66 : decode cX9_lay 66 = .ok (.aload_n 0, 1) := by decide +kernel
theorem dX9_lay_67 : decode cX9_lay 67 = .ok (.getfield 40, 3) := by decide +kernel
theorem dX9_lay_70 : decode cX9_lay 70 = .ok (.iload 5, 2) := by decide +kernel
theorem dX9_lay_72 : decode cX9_lay 72 = .ok (.sipush 128, 3) := by decide +kernel
theorem dX9_lay_75 : decode cX9_lay 75 = .ok (.imul, 1) := by decide +kernel
theorem dX9_lay_76 : decode cX9_lay 76 = .ok (.iload 6, 2) := by decide +kernel
theorem dX9_lay_78 : decode cX9_lay 78 = .ok (.iadd, 1) := by decide +kernel
theorem dX9_lay_79 : decode cX9_lay 79 = .ok (.iconst 0, 1) := by decide +kernel
theorem dX9_lay_80 : decode cX9_lay 80 = .ok (.iastore, 1) := by decide +kernel
theorem dX9_lay_81 : decode cX9_lay 81 = .ok (.iinc 6 1, 3) := by decide +kernel
theorem dX9_lay_84 : decode cX9_lay 84 = .ok (.goto (-26), 3) := by decide +kernel
theorem dX9_lay_87 : decode cX9_lay 87 = .ok (.iconst 0, 1) := by decide +kernel
theorem dX9_lay_88 : decode cX9_lay 88 = .ok (.istore 6, 2) := by decide +kernel
theorem dX9_lay_90 : decode cX9_lay 90 = .ok (.iload 6, 2) := by decide +kernel
theorem dX9_lay_92 : decode cX9_lay 92 = .ok (.iload_n 3, 1) := by decide +kernel
theorem dX9_lay_93 : decode cX9_lay 93 = .ok (.if_icmp .ge 82, 3) := by decide +kernel
theorem dX9_lay_96 : decode cX9_lay 96 = .ok (.aload_n 0, 1) := by decide +kernel
theorem dX9_lay_97 : decode cX9_lay 97 = .ok (.getfield 55, 3) := by decide +kernel
theorem dX9_lay_100 : decode cX9_lay 100 = .ok (.iload 6, 2) := by decide +kernel
theorem dX9_lay_102 : decode cX9_lay 102 = .ok (.laload, 1) := by decide +kernel
theorem dX9_lay_103 : decode cX9_lay 103 = .ok (.aload_n 0, 1) := by decide +kernel
theorem dX9_lay_104 : decode cX9_lay 104 = .ok (.getfield 26, 3) := by decide +kernel
theorem dX9_lay_107 : decode cX9_lay 107 = .ok (.iload_n 1, 1) := by decide +kernel
theorem dX9_lay_108 : decode cX9_lay 108 = .ok (.iaload, 1) := by decide +kernel
theorem dX9_lay_109 : decode cX9_lay 109 = .ok (.iload_n 2, 1) := by decide +kernel
theorem dX9_lay_110 : decode cX9_lay 110 = .ok (.iadd, 1) := by decide +kernel
theorem dX9_lay_111 : decode cX9_lay 111 = .ok (.invokestatic 108, 3) := by decide +kernel
theorem dX9_lay_114 : decode cX9_lay 114 = .ok (.lstore 7, 2) := by decide +kernel
theorem dX9_lay_116 : decode cX9_lay 116 = .ok (.iconst 0, 1) := by decide +kernel
theorem dX9_lay_117 : decode cX9_lay 117 = .ok (.istore 9, 2) := by decide +kernel
theorem dX9_lay_119 : decode cX9_lay 119 = .ok (.iload 9, 2) := by decide +kernel
theorem dX9_lay_121 : decode cX9_lay 121 = .ok (.iconst 3, 1) := by decide +kernel
theorem dX9_lay_122 : decode cX9_lay 122 = .ok (.if_icmp .ge 47, 3) := by decide +kernel
theorem dX9_lay_125 : decode cX9_lay 125 = .ok (.lload 7, 2) := by decide +kernel
theorem dX9_lay_127 : decode cX9_lay 127 = .ok (.iload 9, 2) := by decide +kernel
theorem dX9_lay_129 : decode cX9_lay 129 = .ok (.iload 4, 2) := by decide +kernel
theorem dX9_lay_131 : decode cX9_lay 131 = .ok (.invokestatic 124, 3) := by decide +kernel
theorem dX9_lay_134 : decode cX9_lay 134 = .ok (.istore 10, 2) := by decide +kernel
theorem dX9_lay_136 : decode cX9_lay 136 = .ok (.aload_n 0, 1) := by decide +kernel
theorem dX9_lay_137 : decode cX9_lay 137 = .ok (.getfield 40, 3) := by decide +kernel
theorem dX9_lay_140 : decode cX9_lay 140 = .ok (.iload 5, 2) := by decide +kernel
theorem dX9_lay_142 : decode cX9_lay 142 = .ok (.sipush 128, 3) := by decide +kernel
theorem dX9_lay_145 : decode cX9_lay 145 = .ok (.imul, 1) := by decide +kernel
theorem dX9_lay_146 : decode cX9_lay 146 = .ok (.iload 10, 2) := by decide +kernel
theorem dX9_lay_148 : decode cX9_lay 148 = .ok (.bipush 32, 2) := by decide +kernel
theorem dX9_lay_150 : decode cX9_lay 150 = .ok (.idiv, 1) := by decide +kernel
theorem dX9_lay_151 : decode cX9_lay 151 = .ok (.iadd, 1) := by decide +kernel
theorem dX9_lay_152 : decode cX9_lay 152 = .ok (.dup2, 1) := by decide +kernel
theorem dX9_lay_153 : decode cX9_lay 153 = .ok (.iaload, 1) := by decide +kernel
theorem dX9_lay_154 : decode cX9_lay 154 = .ok (.iconst 1, 1) := by decide +kernel
theorem dX9_lay_155 : decode cX9_lay 155 = .ok (.iload 10, 2) := by decide +kernel
theorem dX9_lay_157 : decode cX9_lay 157 = .ok (.bipush 32, 2) := by decide +kernel
theorem dX9_lay_159 : decode cX9_lay 159 = .ok (.irem, 1) := by decide +kernel
theorem dX9_lay_160 : decode cX9_lay 160 = .ok (.ishl, 1) := by decide +kernel
theorem dX9_lay_161 : decode cX9_lay 161 = .ok (.ior, 1) := by decide +kernel
theorem dX9_lay_162 : decode cX9_lay 162 = .ok (.iastore, 1) := by decide +kernel
theorem dX9_lay_163 : decode cX9_lay 163 = .ok (.iinc 9 1, 3) := by decide +kernel
theorem dX9_lay_166 : decode cX9_lay 166 = .ok (.goto (-47), 3) := by decide +kernel
theorem dX9_lay_169 : decode cX9_lay 169 = .ok (.iinc 6 1, 3) := by decide +kernel
theorem dX9_lay_172 : decode cX9_lay 172 = .ok (.goto (-82), 3) := by decide +kernel
theorem dX9_lay_175 : decode cX9_lay 175 = .ok (.aload_n 0, 1) := by decide +kernel
theorem dX9_lay_176 : decode cX9_lay 176 = .ok (.getfield 20, 3) := by decide +kernel
theorem dX9_lay_179 : decode cX9_lay 179 = .ok (.iload_n 1, 1) := by decide +kernel
theorem dX9_lay_180 : decode cX9_lay 180 = .ok (.iload_n 2, 1) := by decide +kernel
theorem dX9_lay_181 : decode cX9_lay 181 = .ok (.iconst 1, 1) := by decide +kernel
theorem dX9_lay_182 : decode cX9_lay 182 = .ok (.iadd, 1) := by decide +kernel
theorem dX9_lay_183 : decode cX9_lay 183 = .ok (.iastore, 1) := by decide +kernel
theorem dX9_lay_184 : decode cX9_lay 184 = .ok (.return_, 1) := by decide +kernel
set_option maxRecDepth 20000 in
theorem gu_wsX9_layered_1 : ∀ w ∈ wsX9_layered_r1, w ∈ wsX9_layered := fun _ h => List.mem_cons_of_mem _ (List.mem_append_left _ (List.mem_append_left _ h))
set_option maxRecDepth 20000 in
theorem ggX9_layered_X9_isWorld : GoodIn wsX9_layered wsX9_isWorld := goodIn_sub (gi_c (gu_wsX9_layered_1 _ gm_12) (gi_0)) (by decide +kernel)
set_option maxRecDepth 20000 in
theorem gX9_layered_X9_isWorld : GoodIn wsX9_layered (va_wsS RX9 92 yX9_isWorld wsX9_isWorld) := goodIn_app (goodIn_sub (gi_c (gu_wsX9_layered_1 _ gm_9) (gi_c (gu_wsX9_layered_1 _ gm_10) (gi_c (gu_wsX9_layered_1 _ gm_11) gi_0))) (by decide +kernel)) ggX9_layered_X9_isWorld
set_option maxRecDepth 20000 in
theorem gu_wsX9_layered_4 : ∀ w ∈ wsX90, w ∈ wsX9_layered := fun _ h => List.mem_cons_of_mem _ (List.mem_append_right _ h)
set_option maxRecDepth 20000 in
theorem ggX9_layered_X9_begin : GoodIn wsX9_layered wsX9_begin := goodIn_sub (gi_c (gu_wsX9_layered_1 _ gm_16) (gi_a (gi_c (gu_wsX9_layered_1 _ gm_0) (gi_c (gu_wsX9_layered_1 _ gm_17) (gi_c (gu_wsX9_layered_1 _ gm_18) (gi_c (gu_wsX9_layered_1 _ gm_19) (gi_c (gu_wsX9_layered_1 _ gm_20) (gi_c (gu_wsX9_layered_1 _ gm_21) (gi_c (gu_wsX9_layered_1 _ gm_7) (gi_c (gu_wsX9_layered_1 _ gm_22) gi_0)))))))) (gu_wsX9_layered_4))) (by decide +kernel)
set_option maxRecDepth 20000 in
theorem gX9_layered_X9_begin : GoodIn wsX9_layered (wsV RX9 150 RX9 yX9_begin wsX9_begin) := goodIn_app (goodIn_sub (gi_c (gu_wsX9_layered_1 _ gm_13) (gi_c (gu_wsX9_layered_1 _ gm_14) (gi_c (gu_wsX9_layered_1 _ gm_15) (gi_c (gu_wsX9_layered_1 _ gm_11) gi_0)))) (by decide +kernel)) ggX9_layered_X9_begin
set_option maxRecDepth 20000 in
theorem gu_wsX9_layered_2 : ∀ w ∈ wsX9_layered_r2, w ∈ wsX9_layered := fun _ h => List.mem_cons_of_mem _ (List.mem_append_left _ (List.mem_append_right _ (List.mem_append_left _ h)))
set_option maxRecDepth 20000 in
theorem ggX9_layered_X9_fillFrom : GoodIn wsX9_layered wsX9_fillFrom := goodIn_sub (gi_c (gu_wsX9_layered_2 _ gm_2) (gi_a (gi_c (gu_wsX9_layered_1 _ gm_21) (gi_c (gu_wsX9_layered_1 _ gm_1) (gi_c (gu_wsX9_layered_2 _ gm_3) (gi_c (gu_wsX9_layered_1 _ gm_3) gi_0)))) (gu_wsX9_layered_4))) (by decide +kernel)
set_option maxRecDepth 20000 in
theorem gX9_layered_X9_fillFrom : GoodIn wsX9_layered (wsV RX9 157 RX9 yX9_fillFrom wsX9_fillFrom) := goodIn_app (goodIn_sub (gi_c (gu_wsX9_layered_1 _ gm_23) (gi_c (gu_wsX9_layered_2 _ gm_0) (gi_c (gu_wsX9_layered_2 _ gm_1) (gi_c (gu_wsX9_layered_1 _ gm_11) gi_0)))) (by decide +kernel)) ggX9_layered_X9_fillFrom
set_option maxRecDepth 20000 in
theorem ggX9_layered_X9_placeOf : GoodIn wsX9_layered wsX9_placeOf := goodIn_sub (gi_c (gu_wsX9_layered_2 _ gm_7) (gi_a (gi_c (gu_wsX9_layered_1 _ gm_1) (gi_c (gu_wsX9_layered_1 _ gm_3) gi_0)) (gu_wsX9_layered_4))) (by decide +kernel)
set_option maxRecDepth 20000 in
theorem gX9_layered_X9_placeOf : GoodIn wsX9_layered (wsV RX9 96 RX9 yX9_placeOf wsX9_placeOf) := goodIn_app (goodIn_sub (gi_c (gu_wsX9_layered_2 _ gm_4) (gi_c (gu_wsX9_layered_2 _ gm_5) (gi_c (gu_wsX9_layered_2 _ gm_6) (gi_c (gu_wsX9_layered_1 _ gm_11) gi_0)))) (by decide +kernel)) ggX9_layered_X9_placeOf
set_option maxRecDepth 20000 in
theorem ggX9_layered_X9_lay : GoodIn wsX9_layered wsX9_lay := goodIn_sub (gi_c (gu_wsX9_layered_2 _ gm_11) (gi_a (gi_c (gu_wsX9_layered_2 _ gm_12) (gi_c (gu_wsX9_layered_1 _ gm_5) (gi_c (gu_wsX9_layered_2 _ gm_13) (gi_c (gu_wsX9_layered_1 _ gm_2) (gi_c (gu_wsX9_layered_1 _ gm_20) (gi_c (gu_wsX9_layered_1 _ gm_18) (gi_c (gu_wsX9_layered_2 _ gm_14) (gi_c (gu_wsX9_layered_2 _ gm_15) (gi_c (gu_wsX9_layered_1 _ gm_11) (gi_c (gu_wsX9_layered_2 _ gm_16) (gi_c (gu_wsX9_layered_2 _ gm_17) (gi_c (gu_wsX9_layered_2 _ gm_18) (gi_c (gu_wsX9_layered_2 _ gm_19) (gi_c (gu_wsX9_layered_2 _ gm_20) (gi_c (gu_wsX9_layered_2 _ gm_21) (gi_c (gu_wsX9_layered_2 _ gm_22) (gi_c (gu_wsX9_layered_2 _ gm_23) gi_0))))))))))))))))) (gu_wsX9_layered_4))) (by decide +kernel)
set_option maxRecDepth 20000 in
theorem gX9_layered_X9_lay : GoodIn wsX9_layered (wsV RX9 161 RX9 yX9_lay wsX9_lay) := goodIn_app (goodIn_sub (gi_c (gu_wsX9_layered_2 _ gm_8) (gi_c (gu_wsX9_layered_2 _ gm_9) (gi_c (gu_wsX9_layered_2 _ gm_10) (gi_c (gu_wsX9_layered_1 _ gm_11) gi_0)))) (by decide +kernel)) ggX9_layered_X9_lay
set_option maxRecDepth 20000 in
theorem gu_wsX9_layered_3 : ∀ w ∈ wsX9_layered_r3, w ∈ wsX9_layered := fun _ h => List.mem_cons_of_mem _ (List.mem_append_left _ (List.mem_append_right _ (List.mem_append_right _ h)))
set_option maxRecDepth 20000 in
theorem ggX9_layered_X9_layerLets : GoodIn wsX9_layered wsX9_layerLets := goodIn_sub (gi_c (gu_wsX9_layered_3 _ gm_3) (gi_a (gi_c (gu_wsX9_layered_1 _ gm_20) (gi_c (gu_wsX9_layered_2 _ gm_12) (gi_c (gu_wsX9_layered_2 _ gm_13) (gi_c (gu_wsX9_layered_2 _ gm_14) (gi_c (gu_wsX9_layered_2 _ gm_15) (gi_c (gu_wsX9_layered_1 _ gm_11) (gi_c (gu_wsX9_layered_2 _ gm_16) (gi_c (gu_wsX9_layered_2 _ gm_17) (gi_c (gu_wsX9_layered_2 _ gm_18) (gi_c (gu_wsX9_layered_2 _ gm_19) (gi_c (gu_wsX9_layered_2 _ gm_20) (gi_c (gu_wsX9_layered_2 _ gm_21) (gi_c (gu_wsX9_layered_2 _ gm_22) (gi_c (gu_wsX9_layered_2 _ gm_23) gi_0)))))))))))))) (gu_wsX9_layered_4))) (by decide +kernel)
set_option maxRecDepth 20000 in
theorem gX9_layered_X9_layerLets : GoodIn wsX9_layered (wsV RX9 128 RX9 yX9_layerLets wsX9_layerLets) := goodIn_app (goodIn_sub (gi_c (gu_wsX9_layered_3 _ gm_0) (gi_c (gu_wsX9_layered_3 _ gm_1) (gi_c (gu_wsX9_layered_3 _ gm_2) (gi_c (gu_wsX9_layered_1 _ gm_11) gi_0)))) (by decide +kernel)) ggX9_layered_X9_layerLets
theorem dX9_layered_0 : decode cX9_layered 0 = .ok (.iload_n 1, 1) := by decide +kernel
theorem dX9_layered_1 : decode cX9_layered 1 = .ok (.invokestatic 92, 3) := by decide +kernel
theorem dX9_layered_4 : decode cX9_layered 4 = .ok (.ifCond .eq 10, 3) := by decide +kernel
theorem dX9_layered_7 : decode cX9_layered 7 = .ok (.iload_n 2, 1) := by decide +kernel
theorem dX9_layered_8 : decode cX9_layered 8 = .ok (.invokestatic 92, 3) := by decide +kernel
theorem dX9_layered_11 : decode cX9_layered 11 = .ok (.ifCond .ne 5, 3) := by decide +kernel
theorem dX9_layered_14 : decode cX9_layered 14 = .ok (.iconst (-1), 1) := by decide +kernel
theorem dX9_layered_15 : decode cX9_layered 15 = .ok (.ireturn, 1) := by decide +kernel
theorem dX9_layered_16 : decode cX9_layered 16 = .ok (.aload_n 0, 1) := by decide +kernel
theorem dX9_layered_17 : decode cX9_layered 17 = .ok (.getfield 88, 3) := by decide +kernel
theorem dX9_layered_20 : decode cX9_layered 20 = .ok (.bipush 30, 2) := by decide +kernel
theorem dX9_layered_22 : decode cX9_layered 22 = .ok (.if_icmp .ne 6, 3) := by decide +kernel
theorem dX9_layered_25 : decode cX9_layered 25 = .ok (.bipush (-4), 2) := by decide +kernel
theorem dX9_layered_27 : decode cX9_layered 27 = .ok (.ireturn, 1) := by decide +kernel
theorem dX9_layered_28 : decode cX9_layered 28 = .ok (.aload_n 0, 1) := by decide +kernel
theorem dX9_layered_29 : decode cX9_layered 29 = .ok (.iconst 4, 1) := by decide +kernel
theorem dX9_layered_30 : decode cX9_layered 30 = .ok (.iconst 0, 1) := by decide +kernel
theorem dX9_layered_31 : decode cX9_layered 31 = .ok (.iconst 3, 1) := by decide +kernel
theorem dX9_layered_32 : decode cX9_layered 32 = .ok (.iload_n 3, 1) := by decide +kernel
theorem dX9_layered_33 : decode cX9_layered 33 = .ok (.invokevirtual 150, 3) := by decide +kernel
theorem dX9_layered_36 : decode cX9_layered 36 = .ok (.istore 4, 2) := by decide +kernel
theorem dX9_layered_38 : decode cX9_layered 38 = .ok (.aload_n 0, 1) := by decide +kernel
theorem dX9_layered_39 : decode cX9_layered 39 = .ok (.iload 4, 2) := by decide +kernel
theorem dX9_layered_41 : decode cX9_layered 41 = .ok (.iload_n 1, 1) := by decide +kernel
theorem dX9_layered_42 : decode cX9_layered 42 = .ok (.invokevirtual 157, 3) := by decide +kernel
theorem dX9_layered_45 : decode cX9_layered 45 = .ok (.aload_n 0, 1) := by decide +kernel
theorem dX9_layered_46 : decode cX9_layered 46 = .ok (.getfield 13, 3) := by decide +kernel
theorem dX9_layered_49 : decode cX9_layered 49 = .ok (.iload_n 1, 1) := by decide +kernel
theorem dX9_layered_50 : decode cX9_layered 50 = .ok (.iaload, 1) := by decide +kernel
theorem dX9_layered_51 : decode cX9_layered 51 = .ok (.istore 5, 2) := by decide +kernel
theorem dX9_layered_53 : decode cX9_layered 53 = .ok (.iconst 0, 1) := by decide +kernel
theorem dX9_layered_54 : decode cX9_layered 54 = .ok (.istore 6, 2) := by decide +kernel
theorem dX9_layered_56 : decode cX9_layered 56 = .ok (.iconst 0, 1) := by decide +kernel
theorem dX9_layered_57 : decode cX9_layered 57 = .ok (.istore 7, 2) := by decide +kernel
theorem dX9_layered_59 : decode cX9_layered 59 = .ok (.iload 7, 2) := by decide +kernel
theorem dX9_layered_61 : decode cX9_layered 61 = .ok (.iload 5, 2) := by decide +kernel
theorem dX9_layered_63 : decode cX9_layered 63 = .ok (.if_icmp .ge 29, 3) := by decide +kernel
theorem dX9_layered_66 : decode cX9_layered 66 = .ok (.aload_n 0, 1) := by decide +kernel
theorem dX9_layered_67 : decode cX9_layered 67 = .ok (.getfield 55, 3) := by decide +kernel
theorem dX9_layered_70 : decode cX9_layered 70 = .ok (.iload 7, 2) := by decide +kernel
theorem dX9_layered_72 : decode cX9_layered 72 = .ok (.aload_n 0, 1) := by decide +kernel
theorem dX9_layered_73 : decode cX9_layered 73 = .ok (.getfield 9, 3) := by decide +kernel
theorem dX9_layered_76 : decode cX9_layered 76 = .ok (.iload_n 1, 1) := by decide +kernel
theorem dX9_layered_77 : decode cX9_layered 77 = .ok (.sipush 1000, 3) := by decide +kernel
theorem dX9_layered_80 : decode cX9_layered 80 = .ok (.imul, 1) := by decide +kernel
theorem dX9_layered_81 : decode cX9_layered 81 = .ok (.iload 7, 2) := by decide +kernel
theorem dX9_layered_83 : decode cX9_layered 83 = .ok (.iadd, 1) := by decide +kernel
theorem dX9_layered_84 : decode cX9_layered 84 = .ok (.laload, 1) := by decide +kernel
theorem dX9_layered_85 : decode cX9_layered 85 = .ok (.lastore, 1) := by decide +kernel
theorem dX9_layered_86 : decode cX9_layered 86 = .ok (.iinc 7 1, 3) := by decide +kernel
theorem dX9_layered_89 : decode cX9_layered 89 = .ok (.goto (-30), 3) := by decide +kernel
theorem dX9_layered_92 : decode cX9_layered 92 = .ok (.iconst 0, 1) := by decide +kernel
theorem dX9_layered_93 : decode cX9_layered 93 = .ok (.istore 7, 2) := by decide +kernel
theorem dX9_layered_95 : decode cX9_layered 95 = .ok (.iload 7, 2) := by decide +kernel
theorem dX9_layered_97 : decode cX9_layered 97 = .ok (.aload_n 0, 1) := by decide +kernel
theorem dX9_layered_98 : decode cX9_layered 98 = .ok (.getfield 13, 3) := by decide +kernel
theorem dX9_layered_101 : decode cX9_layered 101 = .ok (.iload_n 2, 1) := by decide +kernel
theorem dX9_layered_102 : decode cX9_layered 102 = .ok (.iaload, 1) := by decide +kernel
theorem dX9_layered_103 : decode cX9_layered 103 = .ok (.if_icmp .ge 53, 3) := by decide +kernel
theorem dX9_layered_106 : decode cX9_layered 106 = .ok (.aload_n 0, 1) := by decide +kernel
theorem dX9_layered_107 : decode cX9_layered 107 = .ok (.iload_n 1, 1) := by decide +kernel
theorem dX9_layered_108 : decode cX9_layered 108 = .ok (.aload_n 0, 1) := by decide +kernel
theorem dX9_layered_109 : decode cX9_layered 109 = .ok (.getfield 9, 3) := by decide +kernel
theorem dX9_layered_112 : decode cX9_layered 112 = .ok (.iload_n 2, 1) := by decide +kernel
theorem dX9_layered_113 : decode cX9_layered 113 = .ok (.sipush 1000, 3) := by decide +kernel
theorem dX9_layered_116 : decode cX9_layered 116 = .ok (.imul, 1) := by decide +kernel
theorem dX9_layered_117 : decode cX9_layered 117 = .ok (.iload 7, 2) := by decide +kernel
theorem dX9_layered_119 : decode cX9_layered 119 = .ok (.iadd, 1) := by decide +kernel
theorem dX9_layered_120 : decode cX9_layered 120 = .ok (.laload, 1) := by decide +kernel
theorem dX9_layered_121 : decode cX9_layered 121 = .ok (.invokevirtual 96, 3) := by decide +kernel
theorem dX9_layered_124 : decode cX9_layered 124 = .ok (.ifCond .ge 26, 3) := by decide +kernel
theorem dX9_layered_127 : decode cX9_layered 127 = .ok (.aload_n 0, 1) := by decide +kernel
theorem dX9_layered_128 : decode cX9_layered 128 = .ok (.getfield 58, 3) := by decide +kernel
theorem dX9_layered_131 : decode cX9_layered 131 = .ok (.iload 6, 2) := by decide +kernel
theorem dX9_layered_133 : decode cX9_layered 133 = .ok (.aload_n 0, 1) := by decide +kernel
theorem dX9_layered_134 : decode cX9_layered 134 = .ok (.getfield 9, 3) := by decide +kernel
theorem dX9_layered_137 : decode cX9_layered 137 = .ok (.iload_n 2, 1) := by decide +kernel
theorem dX9_layered_138 : decode cX9_layered 138 = .ok (.sipush 1000, 3) := by decide +kernel
theorem dX9_layered_141 : decode cX9_layered 141 = .ok (.imul, 1) := by decide +kernel
theorem dX9_layered_142 : decode cX9_layered 142 = .ok (.iload 7, 2) := by decide +kernel
theorem dX9_layered_144 : decode cX9_layered 144 = .ok (.iadd, 1) := by decide +kernel
theorem dX9_layered_145 : decode cX9_layered 145 = .ok (.laload, 1) := by decide +kernel
theorem dX9_layered_146 : decode cX9_layered 146 = .ok (.lastore, 1) := by decide +kernel
theorem dX9_layered_147 : decode cX9_layered 147 = .ok (.iinc 6 1, 3) := by decide +kernel
theorem dX9_layered_150 : decode cX9_layered 150 = .ok (.iinc 7 1, 3) := by decide +kernel
theorem dX9_layered_153 : decode cX9_layered 153 = .ok (.goto (-58), 3) := by decide +kernel
theorem dX9_layered_156 : decode cX9_layered 156 = .ok (.iconst 1, 1) := by decide +kernel
theorem dX9_layered_157 : decode cX9_layered 157 = .ok (.istore 7, 2) := by decide +kernel
theorem dX9_layered_159 : decode cX9_layered 159 = .ok (.iconst 0, 1) := by decide +kernel
theorem dX9_layered_160 : decode cX9_layered 160 = .ok (.istore 8, 2) := by decide +kernel
theorem dX9_layered_162 : decode cX9_layered 162 = .ok (.iload 7, 2) := by decide +kernel
theorem dX9_layered_164 : decode cX9_layered 164 = .ok (.ifCond .eq 238, 3) := by decide +kernel
theorem dX9_layered_167 : decode cX9_layered 167 = .ok (.iload 8, 2) := by decide +kernel
theorem dX9_layered_169 : decode cX9_layered 169 = .ok (.bipush 20, 2) := by decide +kernel
theorem dX9_layered_171 : decode cX9_layered 171 = .ok (.if_icmp .eq 29, 3) := by decide +kernel
theorem dX9_layered_174 : decode cX9_layered 174 = .ok (.iload 8, 2) := by decide +kernel
theorem dX9_layered_176 : decode cX9_layered 176 = .ok (.iconst 1, 1) := by decide +kernel
theorem dX9_layered_177 : decode cX9_layered 177 = .ok (.if_icmp .le 75, 3) := by decide +kernel
theorem dX9_layered_180 : decode cX9_layered 180 = .ok (.iload 5, 2) := by decide +kernel
theorem dX9_layered_182 : decode cX9_layered 182 = .ok (.aload_n 0, 1) := by decide +kernel
theorem dX9_layered_183 : decode cX9_layered 183 = .ok (.getfield 46, 3) := by decide +kernel
theorem dX9_layered_186 : decode cX9_layered 186 = .ok (.iload 4, 2) := by decide +kernel
theorem dX9_layered_188 : decode cX9_layered 188 = .ok (.bipush 20, 2) := by decide +kernel
theorem dX9_layered_190 : decode cX9_layered 190 = .ok (.imul, 1) := by decide +kernel
theorem dX9_layered_191 : decode cX9_layered 191 = .ok (.iload 8, 2) := by decide +kernel
theorem dX9_layered_193 : decode cX9_layered 193 = .ok (.iadd, 1) := by decide +kernel
theorem dX9_layered_194 : decode cX9_layered 194 = .ok (.iconst 2, 1) := by decide +kernel
theorem dX9_layered_195 : decode cX9_layered 195 = .ok (.isub, 1) := by decide +kernel
theorem dX9_layered_196 : decode cX9_layered 196 = .ok (.iaload, 1) := by decide +kernel
theorem dX9_layered_197 : decode cX9_layered 197 = .ok (.if_icmp .ne 55, 3) := by decide +kernel
theorem dX9_layered_200 : decode cX9_layered 200 = .ok (.iconst 0, 1) := by decide +kernel
theorem dX9_layered_201 : decode cX9_layered 201 = .ok (.istore 9, 2) := by decide +kernel
theorem dX9_layered_203 : decode cX9_layered 203 = .ok (.iload 9, 2) := by decide +kernel
theorem dX9_layered_205 : decode cX9_layered 205 = .ok (.iload 5, 2) := by decide +kernel
theorem dX9_layered_207 : decode cX9_layered 207 = .ok (.if_icmp .ge 30, 3) := by decide +kernel
theorem dX9_layered_210 : decode cX9_layered 210 = .ok (.aload_n 0, 1) := by decide +kernel
theorem dX9_layered_211 : decode cX9_layered 211 = .ok (.getfield 49, 3) := by decide +kernel
theorem dX9_layered_214 : decode cX9_layered 214 = .ok (.iload 4, 2) := by decide +kernel
theorem dX9_layered_216 : decode cX9_layered 216 = .ok (.sipush 1000, 3) := by decide +kernel
theorem dX9_layered_219 : decode cX9_layered 219 = .ok (.imul, 1) := by decide +kernel
theorem dX9_layered_220 : decode cX9_layered 220 = .ok (.iload 9, 2) := by decide +kernel
theorem dX9_layered_222 : decode cX9_layered 222 = .ok (.iadd, 1) := by decide +kernel
theorem dX9_layered_223 : decode cX9_layered 223 = .ok (.aload_n 0, 1) := by decide +kernel
theorem dX9_layered_224 : decode cX9_layered 224 = .ok (.getfield 55, 3) := by decide +kernel
theorem dX9_layered_227 : decode cX9_layered 227 = .ok (.iload 9, 2) := by decide +kernel
theorem dX9_layered_229 : decode cX9_layered 229 = .ok (.laload, 1) := by decide +kernel
theorem dX9_layered_230 : decode cX9_layered 230 = .ok (.lastore, 1) := by decide +kernel
theorem dX9_layered_231 : decode cX9_layered 231 = .ok (.iinc 9 1, 3) := by decide +kernel
theorem dX9_layered_234 : decode cX9_layered 234 = .ok (.goto (-31), 3) := by decide +kernel
theorem dX9_layered_237 : decode cX9_layered 237 = .ok (.aload_n 0, 1) := by decide +kernel
theorem dX9_layered_238 : decode cX9_layered 238 = .ok (.getfield 52, 3) := by decide +kernel
theorem dX9_layered_241 : decode cX9_layered 241 = .ok (.iload 4, 2) := by decide +kernel
theorem dX9_layered_243 : decode cX9_layered 243 = .ok (.iload 5, 2) := by decide +kernel
theorem dX9_layered_245 : decode cX9_layered 245 = .ok (.iastore, 1) := by decide +kernel
theorem dX9_layered_246 : decode cX9_layered 246 = .ok (.iconst 0, 1) := by decide +kernel
theorem dX9_layered_247 : decode cX9_layered 247 = .ok (.istore 7, 2) := by decide +kernel
theorem dX9_layered_249 : decode cX9_layered 249 = .ok (.goto 147, 3) := by decide +kernel
theorem dX9_layered_252 : decode cX9_layered 252 = .ok (.aload_n 0, 1) := by decide +kernel
theorem dX9_layered_253 : decode cX9_layered 253 = .ok (.iload 4, 2) := by decide +kernel
theorem dX9_layered_255 : decode cX9_layered 255 = .ok (.iload 8, 2) := by decide +kernel
theorem dX9_layered_257 : decode cX9_layered 257 = .ok (.iload 5, 2) := by decide +kernel
theorem dX9_layered_259 : decode cX9_layered 259 = .ok (.invokevirtual 161, 3) := by decide +kernel
theorem dX9_layered_262 : decode cX9_layered 262 = .ok (.iconst 0, 1) := by decide +kernel
theorem dX9_layered_263 : decode cX9_layered 263 = .ok (.istore 9, 2) := by decide +kernel
theorem dX9_layered_265 : decode cX9_layered 265 = .ok (.iconst 0, 1) := by decide +kernel
theorem dX9_layered_266 : decode cX9_layered 266 = .ok (.istore 10, 2) := by decide +kernel
theorem dX9_layered_268 : decode cX9_layered 268 = .ok (.iload 10, 2) := by decide +kernel
theorem dX9_layered_270 : decode cX9_layered 270 = .ok (.iload 6, 2) := by decide +kernel
theorem dX9_layered_272 : decode cX9_layered 272 = .ok (.if_icmp .ge 44, 3) := by decide +kernel
theorem dX9_layered_275 : decode cX9_layered 275 = .ok (.aload_n 0, 1) := by decide +kernel
theorem dX9_layered_276 : decode cX9_layered 276 = .ok (.iload 4, 2) := by decide +kernel
theorem dX9_layered_278 : decode cX9_layered 278 = .ok (.iload 8, 2) := by decide +kernel
theorem dX9_layered_280 : decode cX9_layered 280 = .ok (.aload_n 0, 1) := by decide +kernel
theorem dX9_layered_281 : decode cX9_layered 281 = .ok (.getfield 58, 3) := by decide +kernel
theorem dX9_layered_284 : decode cX9_layered 284 = .ok (.iload 10, 2) := by decide +kernel
theorem dX9_layered_286 : decode cX9_layered 286 = .ok (.laload, 1) := by decide +kernel
theorem dX9_layered_287 : decode cX9_layered 287 = .ok (.invokevirtual 128, 3) := by decide +kernel
theorem dX9_layered_290 : decode cX9_layered 290 = .ok (.ifCond .eq 20, 3) := by decide +kernel
theorem dX9_layered_293 : decode cX9_layered 293 = .ok (.aload_n 0, 1) := by decide +kernel
theorem dX9_layered_294 : decode cX9_layered 294 = .ok (.getfield 61, 3) := by decide +kernel
theorem dX9_layered_297 : decode cX9_layered 297 = .ok (.iload 9, 2) := by decide +kernel
theorem dX9_layered_299 : decode cX9_layered 299 = .ok (.aload_n 0, 1) := by decide +kernel
theorem dX9_layered_300 : decode cX9_layered 300 = .ok (.getfield 58, 3) := by decide +kernel
theorem dX9_layered_303 : decode cX9_layered 303 = .ok (.iload 10, 2) := by decide +kernel
theorem dX9_layered_305 : decode cX9_layered 305 = .ok (.laload, 1) := by decide +kernel
theorem dX9_layered_306 : decode cX9_layered 306 = .ok (.lastore, 1) := by decide +kernel
theorem dX9_layered_307 : decode cX9_layered 307 = .ok (.iinc 9 1, 3) := by decide +kernel
theorem dX9_layered_310 : decode cX9_layered 310 = .ok (.iinc 10 1, 3) := by decide +kernel
theorem dX9_layered_313 : decode cX9_layered 313 = .ok (.goto (-45), 3) := by decide +kernel
theorem dX9_layered_316 : decode cX9_layered 316 = .ok (.iload 9, 2) := by decide +kernel
theorem dX9_layered_318 : decode cX9_layered 318 = .ok (.ifCond .le 7, 3) := by decide +kernel
theorem dX9_layered_321 : decode cX9_layered 321 = .ok (.iconst 1, 1) := by decide +kernel
theorem dX9_layered_322 : decode cX9_layered 322 = .ok (.goto 4, 3) := by decide +kernel
theorem dX9_layered_325 : decode cX9_layered 325 = .ok (.iconst 0, 1) := by decide +kernel
theorem dX9_layered_326 : decode cX9_layered 326 = .ok (.istore 7, 2) := by decide +kernel
theorem dX9_layered_328 : decode cX9_layered 328 = .ok (.iload 5, 2) := by decide +kernel
theorem dX9_layered_330 : decode cX9_layered 330 = .ok (.istore 6, 2) := by decide +kernel
theorem dX9_layered_332 : decode cX9_layered 332 = .ok (.iconst 0, 1) := by decide +kernel
theorem dX9_layered_333 : decode cX9_layered 333 = .ok (.istore 10, 2) := by decide +kernel
theorem dX9_layered_335 : decode cX9_layered 335 = .ok (.iload 10, 2) := by decide +kernel
theorem dX9_layered_337 : decode cX9_layered 337 = .ok (.iload 5, 2) := by decide +kernel
theorem dX9_layered_339 : decode cX9_layered 339 = .ok (.if_icmp .ge 23, 3) := by decide +kernel
theorem dX9_layered_342 : decode cX9_layered 342 = .ok (.aload_n 0, 1) := by decide +kernel
theorem dX9_layered_343 : decode cX9_layered 343 = .ok (.getfield 58, 3) := by decide +kernel
theorem dX9_layered_346 : decode cX9_layered 346 = .ok (.iload 10, 2) := by decide +kernel
theorem dX9_layered_348 : decode cX9_layered 348 = .ok (.aload_n 0, 1) := by decide +kernel
theorem dX9_layered_349 : decode cX9_layered 349 = .ok (.getfield 55, 3) := by decide +kernel
theorem dX9_layered_352 : decode cX9_layered 352 = .ok (.iload 10, 2) := by decide +kernel
theorem dX9_layered_354 : decode cX9_layered 354 = .ok (.laload, 1) := by decide +kernel
theorem dX9_layered_355 : decode cX9_layered 355 = .ok (.lastore, 1) := by decide +kernel
theorem dX9_layered_356 : decode cX9_layered 356 = .ok (.iinc 10 1, 3) := by decide +kernel
theorem dX9_layered_359 : decode cX9_layered 359 = .ok (.goto (-24), 3) := by decide +kernel
theorem dX9_layered_362 : decode cX9_layered 362 = .ok (.iload 9, 2) := by decide +kernel
theorem dX9_layered_364 : decode cX9_layered 364 = .ok (.istore 5, 2) := by decide +kernel
theorem dX9_layered_366 : decode cX9_layered 366 = .ok (.iconst 0, 1) := by decide +kernel
theorem dX9_layered_367 : decode cX9_layered 367 = .ok (.istore 10, 2) := by decide +kernel
theorem dX9_layered_369 : decode cX9_layered 369 = .ok (.iload 10, 2) := by decide +kernel
theorem dX9_layered_371 : decode cX9_layered 371 = .ok (.iload 5, 2) := by decide +kernel
theorem dX9_layered_373 : decode cX9_layered 373 = .ok (.if_icmp .ge 23, 3) := by decide +kernel
theorem dX9_layered_376 : decode cX9_layered 376 = .ok (.aload_n 0, 1) := by decide +kernel
theorem dX9_layered_377 : decode cX9_layered 377 = .ok (.getfield 55, 3) := by decide +kernel
theorem dX9_layered_380 : decode cX9_layered 380 = .ok (.iload 10, 2) := by decide +kernel
theorem dX9_layered_382 : decode cX9_layered 382 = .ok (.aload_n 0, 1) := by decide +kernel
theorem dX9_layered_383 : decode cX9_layered 383 = .ok (.getfield 61, 3) := by decide +kernel
theorem dX9_layered_386 : decode cX9_layered 386 = .ok (.iload 10, 2) := by decide +kernel
theorem dX9_layered_388 : decode cX9_layered 388 = .ok (.laload, 1) := by decide +kernel
theorem dX9_layered_389 : decode cX9_layered 389 = .ok (.lastore, 1) := by decide +kernel
theorem dX9_layered_390 : decode cX9_layered 390 = .ok (.iinc 10 1, 3) := by decide +kernel
theorem dX9_layered_393 : decode cX9_layered 393 = .ok (.goto (-24), 3) := by decide +kernel
theorem dX9_layered_396 : decode cX9_layered 396 = .ok (.iinc 8 1, 3) := by decide +kernel
theorem dX9_layered_399 : decode cX9_layered 399 = .ok (.goto (-237), 3) := by decide +kernel
theorem dX9_layered_402 : decode cX9_layered 402 = .ok (.iload 4, 2) := by decide +kernel
theorem dX9_layered_404 : decode cX9_layered 404 = .ok (.ireturn, 1) := by decide +kernel
theorem dX9_emptyPlace_0 : decode cX9_emptyPlace 0 = .ok (.iconst 0, 1) := by decide +kernel
theorem dX9_emptyPlace_1 : decode cX9_emptyPlace 1 = .ok (.istore_n 2, 1) := by decide +kernel
theorem dX9_emptyPlace_2 : decode cX9_emptyPlace 2 = .ok (.iload_n 2, 1) := by decide +kernel
theorem dX9_emptyPlace_3 : decode cX9_emptyPlace 3 = .ok (.iconst 4, 1) := by decide +kernel
theorem dX9_emptyPlace_4 : decode cX9_emptyPlace 4 = .ok (.if_icmp .ge 21, 3) := by decide +kernel
theorem dX9_emptyPlace_7 : decode cX9_emptyPlace 7 = .ok (.aload_n 0, 1) := by decide +kernel
theorem dX9_emptyPlace_8 : decode cX9_emptyPlace 8 = .ok (.iload_n 1, 1) := by decide +kernel
theorem dX9_emptyPlace_9 : decode cX9_emptyPlace 9 = .ok (.iload_n 2, 1) := by decide +kernel
theorem dX9_emptyPlace_10 : decode cX9_emptyPlace 10 = .ok (.iadd, 1) := by decide +kernel
theorem dX9_emptyPlace_11 : decode cX9_emptyPlace 11 = .ok (.iaload, 1) := by decide +kernel
theorem dX9_emptyPlace_12 : decode cX9_emptyPlace 12 = .ok (.ifCond .ne 7, 3) := by decide +kernel
theorem dX9_emptyPlace_15 : decode cX9_emptyPlace 15 = .ok (.iload_n 1, 1) := by decide +kernel
theorem dX9_emptyPlace_16 : decode cX9_emptyPlace 16 = .ok (.iload_n 2, 1) := by decide +kernel
theorem dX9_emptyPlace_17 : decode cX9_emptyPlace 17 = .ok (.iadd, 1) := by decide +kernel
theorem dX9_emptyPlace_18 : decode cX9_emptyPlace 18 = .ok (.ireturn, 1) := by decide +kernel
theorem dX9_emptyPlace_19 : decode cX9_emptyPlace 19 = .ok (.iinc 2 1, 3) := by decide +kernel
theorem dX9_emptyPlace_22 : decode cX9_emptyPlace 22 = .ok (.goto (-20), 3) := by decide +kernel
theorem dX9_emptyPlace_25 : decode cX9_emptyPlace 25 = .ok (.iconst (-1), 1) := by decide +kernel
theorem dX9_emptyPlace_26 : decode cX9_emptyPlace 26 = .ok (.ireturn, 1) := by decide +kernel
set_option maxRecDepth 20000 in
theorem gu_wsX9_putTag_1 : ∀ w ∈ wsX9_putTag_r1, w ∈ wsX9_putTag := fun _ h => List.mem_cons_of_mem _ (List.mem_append_left _ (List.mem_append_left _ h))
set_option maxRecDepth 20000 in
theorem ggX9_putTag_X9_mix : GoodIn wsX9_putTag wsX9_mix := goodIn_sub (gi_c (gu_wsX9_putTag_1 _ gm_6) (gi_c (gu_wsX9_putTag_1 _ gm_7) (gi_c (gu_wsX9_putTag_1 _ gm_8) (gi_c (gu_wsX9_putTag_1 _ gm_9) gi_0)))) (by decide +kernel)
set_option maxRecDepth 20000 in
theorem gX9_putTag_X9_mix : GoodIn wsX9_putTag (va_wsS RX9 108 yX9_mix wsX9_mix) := goodIn_app (goodIn_sub (gi_c (gu_wsX9_putTag_1 _ gm_3) (gi_c (gu_wsX9_putTag_1 _ gm_4) (gi_c (gu_wsX9_putTag_1 _ gm_5) gi_0))) (by decide +kernel)) ggX9_putTag_X9_mix
set_option maxRecDepth 20000 in
theorem ggX9_putTag_X9_tagOf : GoodIn wsX9_putTag wsX9_tagOf := goodIn_sub (gi_c (gu_wsX9_putTag_1 _ gm_12) (gi_c (gu_wsX9_putTag_1 _ gm_13) gi_0)) (by decide +kernel)
set_option maxRecDepth 20000 in
theorem gX9_putTag_X9_tagOf : GoodIn wsX9_putTag (va_wsS RX9 112 yX9_tagOf wsX9_tagOf) := goodIn_app (goodIn_sub (gi_c (gu_wsX9_putTag_1 _ gm_10) (gi_c (gu_wsX9_putTag_1 _ gm_11) (gi_c (gu_wsX9_putTag_1 _ gm_5) gi_0))) (by decide +kernel)) ggX9_putTag_X9_tagOf
set_option maxRecDepth 20000 in
theorem gu_wsX9_putTag_3 : ∀ w ∈ wsX90, w ∈ wsX9_putTag := fun _ h => List.mem_cons_of_mem _ (List.mem_append_right _ h)
set_option maxRecDepth 20000 in
theorem ggX9_putTag_X9_nestOf : GoodIn wsX9_putTag wsX9_nestOf := goodIn_sub (gi_c (gu_wsX9_putTag_1 _ gm_17) (gi_a (gi_c (gu_wsX9_putTag_1 _ gm_0) (gi_c (gu_wsX9_putTag_1 _ gm_18) (gi_c (gu_wsX9_putTag_1 _ gm_2) (gi_c (gu_wsX9_putTag_1 _ gm_3) (gi_c (gu_wsX9_putTag_1 _ gm_4) (gi_c (gu_wsX9_putTag_1 _ gm_5) (gi_c (gu_wsX9_putTag_1 _ gm_6) (gi_c (gu_wsX9_putTag_1 _ gm_7) (gi_c (gu_wsX9_putTag_1 _ gm_8) (gi_c (gu_wsX9_putTag_1 _ gm_9) (gi_c (gu_wsX9_putTag_1 _ gm_10) (gi_c (gu_wsX9_putTag_1 _ gm_11) (gi_c (gu_wsX9_putTag_1 _ gm_12) (gi_c (gu_wsX9_putTag_1 _ gm_13) (gi_c (gu_wsX9_putTag_1 _ gm_19) (gi_c (gu_wsX9_putTag_1 _ gm_20) (gi_c (gu_wsX9_putTag_1 _ gm_21) (gi_c (gu_wsX9_putTag_1 _ gm_22) gi_0)))))))))))))))))) (gu_wsX9_putTag_3))) (by decide +kernel)
set_option maxRecDepth 20000 in
theorem gX9_putTag_X9_nestOf : GoodIn wsX9_putTag (wsV RX9 142 RX9 yX9_nestOf wsX9_nestOf) := goodIn_app (goodIn_sub (gi_c (gu_wsX9_putTag_1 _ gm_14) (gi_c (gu_wsX9_putTag_1 _ gm_15) (gi_c (gu_wsX9_putTag_1 _ gm_16) (gi_c (gu_wsX9_putTag_1 _ gm_5) gi_0)))) (by decide +kernel)) ggX9_putTag_X9_nestOf
set_option maxRecDepth 20000 in
theorem gu_wsX9_putTag_2 : ∀ w ∈ wsX9_putTag_r2, w ∈ wsX9_putTag := fun _ h => List.mem_cons_of_mem _ (List.mem_append_left _ (List.mem_append_right _ h))
set_option maxRecDepth 20000 in
theorem ggX9_putTag_X9_emptyPlace : GoodIn wsX9_putTag wsX9_emptyPlace := goodIn_sub (gi_c (gu_wsX9_putTag_2 _ gm_1) (gi_0)) (by decide +kernel)
set_option maxRecDepth 20000 in
theorem gX9_putTag_X9_emptyPlace : GoodIn wsX9_putTag (va_wsS RX9 165 yX9_emptyPlace wsX9_emptyPlace) := goodIn_app (goodIn_sub (gi_c (gu_wsX9_putTag_1 _ gm_23) (gi_c (gu_wsX9_putTag_2 _ gm_0) (gi_c (gu_wsX9_putTag_1 _ gm_5) gi_0))) (by decide +kernel)) ggX9_putTag_X9_emptyPlace
set_option maxRecDepth 20000 in
theorem ggX9_putTag_X9_otherNest : GoodIn wsX9_putTag wsX9_otherNest := goodIn_sub (gi_c (gu_wsX9_putTag_1 _ gm_21) (gi_c (gu_wsX9_putTag_1 _ gm_22) gi_0)) (by decide +kernel)
set_option maxRecDepth 20000 in
theorem gX9_putTag_X9_otherNest : GoodIn wsX9_putTag (va_wsS RX9 116 yX9_otherNest wsX9_otherNest) := goodIn_app (goodIn_sub (gi_c (gu_wsX9_putTag_1 _ gm_19) (gi_c (gu_wsX9_putTag_1 _ gm_20) (gi_c (gu_wsX9_putTag_1 _ gm_5) gi_0))) (by decide +kernel)) ggX9_putTag_X9_otherNest
theorem dX9_putTag_0 : decode cX9_putTag 0 = .ok (.iload_n 1, 1) := by decide +kernel
theorem dX9_putTag_1 : decode cX9_putTag 1 = .ok (.sipush 4096, 3) := by decide +kernel
theorem dX9_putTag_4 : decode cX9_putTag 4 = .ok (.imul, 1) := by decide +kernel
theorem dX9_putTag_5 : decode cX9_putTag 5 = .ok (.istore 4, 2) := by decide +kernel
theorem dX9_putTag_7 : decode cX9_putTag 7 = .ok (.lload_n 2, 1) := by decide +kernel
theorem dX9_putTag_8 : decode cX9_putTag 8 = .ok (.aload_n 0, 1) := by decide +kernel
theorem dX9_putTag_9 : decode cX9_putTag 9 = .ok (.getfield 26, 3) := by decide +kernel
theorem dX9_putTag_12 : decode cX9_putTag 12 = .ok (.iload_n 1, 1) := by decide +kernel
theorem dX9_putTag_13 : decode cX9_putTag 13 = .ok (.iaload, 1) := by decide +kernel
theorem dX9_putTag_14 : decode cX9_putTag 14 = .ok (.invokestatic 108, 3) := by decide +kernel
theorem dX9_putTag_17 : decode cX9_putTag 17 = .ok (.invokestatic 112, 3) := by decide +kernel
theorem dX9_putTag_20 : decode cX9_putTag 20 = .ok (.istore 5, 2) := by decide +kernel
theorem dX9_putTag_22 : decode cX9_putTag 22 = .ok (.aload_n 0, 1) := by decide +kernel
theorem dX9_putTag_23 : decode cX9_putTag 23 = .ok (.iload_n 1, 1) := by decide +kernel
theorem dX9_putTag_24 : decode cX9_putTag 24 = .ok (.lload_n 2, 1) := by decide +kernel
theorem dX9_putTag_25 : decode cX9_putTag 25 = .ok (.iconst 0, 1) := by decide +kernel
theorem dX9_putTag_26 : decode cX9_putTag 26 = .ok (.invokevirtual 142, 3) := by decide +kernel
theorem dX9_putTag_29 : decode cX9_putTag 29 = .ok (.istore 6, 2) := by decide +kernel
theorem dX9_putTag_31 : decode cX9_putTag 31 = .ok (.aload_n 0, 1) := by decide +kernel
theorem dX9_putTag_32 : decode cX9_putTag 32 = .ok (.getfield 36, 3) := by decide +kernel
theorem dX9_putTag_35 : decode cX9_putTag 35 = .ok (.iload 4, 2) := by decide +kernel
theorem dX9_putTag_37 : decode cX9_putTag 37 = .ok (.iconst 4, 1) := by decide +kernel
theorem dX9_putTag_38 : decode cX9_putTag 38 = .ok (.iload 6, 2) := by decide +kernel
theorem dX9_putTag_40 : decode cX9_putTag 40 = .ok (.imul, 1) := by decide +kernel
theorem dX9_putTag_41 : decode cX9_putTag 41 = .ok (.iadd, 1) := by decide +kernel
theorem dX9_putTag_42 : decode cX9_putTag 42 = .ok (.invokestatic 165, 3) := by decide +kernel
theorem dX9_putTag_45 : decode cX9_putTag 45 = .ok (.istore 7, 2) := by decide +kernel
theorem dX9_putTag_47 : decode cX9_putTag 47 = .ok (.iload 7, 2) := by decide +kernel
theorem dX9_putTag_49 : decode cX9_putTag 49 = .ok (.ifCond .ge 24, 3) := by decide +kernel
theorem dX9_putTag_52 : decode cX9_putTag 52 = .ok (.aload_n 0, 1) := by decide +kernel
theorem dX9_putTag_53 : decode cX9_putTag 53 = .ok (.getfield 36, 3) := by decide +kernel
theorem dX9_putTag_56 : decode cX9_putTag 56 = .ok (.iload 4, 2) := by decide +kernel
theorem dX9_putTag_58 : decode cX9_putTag 58 = .ok (.iconst 4, 1) := by decide +kernel
theorem dX9_putTag_59 : decode cX9_putTag 59 = .ok (.aload_n 0, 1) := by decide +kernel
theorem dX9_putTag_60 : decode cX9_putTag 60 = .ok (.iload_n 1, 1) := by decide +kernel
theorem dX9_putTag_61 : decode cX9_putTag 61 = .ok (.lload_n 2, 1) := by decide +kernel
theorem dX9_putTag_62 : decode cX9_putTag 62 = .ok (.iconst 1, 1) := by decide +kernel
theorem dX9_putTag_63 : decode cX9_putTag 63 = .ok (.invokevirtual 142, 3) := by decide +kernel
theorem dX9_putTag_66 : decode cX9_putTag 66 = .ok (.imul, 1) := by decide +kernel
theorem dX9_putTag_67 : decode cX9_putTag 67 = .ok (.iadd, 1) := by decide +kernel
theorem dX9_putTag_68 : decode cX9_putTag 68 = .ok (.invokestatic 165, 3) := by decide +kernel
theorem dX9_putTag_71 : decode cX9_putTag 71 = .ok (.istore 7, 2) := by decide +kernel
theorem dX9_putTag_73 : decode cX9_putTag 73 = .ok (.iconst 0, 1) := by decide +kernel
theorem dX9_putTag_74 : decode cX9_putTag 74 = .ok (.istore 8, 2) := by decide +kernel
theorem dX9_putTag_76 : decode cX9_putTag 76 = .ok (.iload 8, 2) := by decide +kernel
theorem dX9_putTag_78 : decode cX9_putTag 78 = .ok (.sipush 200, 3) := by decide +kernel
theorem dX9_putTag_81 : decode cX9_putTag 81 = .ok (.if_icmp .ge 81, 3) := by decide +kernel
theorem dX9_putTag_84 : decode cX9_putTag 84 = .ok (.iload 7, 2) := by decide +kernel
theorem dX9_putTag_86 : decode cX9_putTag 86 = .ok (.ifCond .ge 76, 3) := by decide +kernel
theorem dX9_putTag_89 : decode cX9_putTag 89 = .ok (.iload 4, 2) := by decide +kernel
theorem dX9_putTag_91 : decode cX9_putTag 91 = .ok (.iconst 4, 1) := by decide +kernel
theorem dX9_putTag_92 : decode cX9_putTag 92 = .ok (.iload 6, 2) := by decide +kernel
theorem dX9_putTag_94 : decode cX9_putTag 94 = .ok (.imul, 1) := by decide +kernel
theorem dX9_putTag_95 : decode cX9_putTag 95 = .ok (.iadd, 1) := by decide +kernel
theorem dX9_putTag_96 : decode cX9_putTag 96 = .ok (.iload 8, 2) := by decide +kernel
theorem dX9_putTag_98 : decode cX9_putTag 98 = .ok (.iconst 4, 1) := by decide +kernel
theorem dX9_putTag_99 : decode cX9_putTag 99 = .ok (.irem, 1) := by decide +kernel
theorem dX9_putTag_100 : decode cX9_putTag 100 = .ok (.iadd, 1) := by decide +kernel
theorem dX9_putTag_101 : decode cX9_putTag 101 = .ok (.istore 9, 2) := by decide +kernel
theorem dX9_putTag_103 : decode cX9_putTag 103 = .ok (.aload_n 0, 1) := by decide +kernel
theorem dX9_putTag_104 : decode cX9_putTag 104 = .ok (.getfield 36, 3) := by decide +kernel
theorem dX9_putTag_107 : decode cX9_putTag 107 = .ok (.iload 9, 2) := by decide +kernel
theorem dX9_putTag_109 : decode cX9_putTag 109 = .ok (.iaload, 1) := by decide +kernel
theorem dX9_putTag_110 : decode cX9_putTag 110 = .ok (.istore 10, 2) := by decide +kernel
theorem dX9_putTag_112 : decode cX9_putTag 112 = .ok (.aload_n 0, 1) := by decide +kernel
theorem dX9_putTag_113 : decode cX9_putTag 113 = .ok (.getfield 36, 3) := by decide +kernel
theorem dX9_putTag_116 : decode cX9_putTag 116 = .ok (.iload 9, 2) := by decide +kernel
theorem dX9_putTag_118 : decode cX9_putTag 118 = .ok (.iload 5, 2) := by decide +kernel
theorem dX9_putTag_120 : decode cX9_putTag 120 = .ok (.iastore, 1) := by decide +kernel
theorem dX9_putTag_121 : decode cX9_putTag 121 = .ok (.iload 10, 2) := by decide +kernel
theorem dX9_putTag_123 : decode cX9_putTag 123 = .ok (.istore 5, 2) := by decide +kernel
theorem dX9_putTag_125 : decode cX9_putTag 125 = .ok (.iload 6, 2) := by decide +kernel
theorem dX9_putTag_127 : decode cX9_putTag 127 = .ok (.iload 5, 2) := by decide +kernel
theorem dX9_putTag_129 : decode cX9_putTag 129 = .ok (.aload_n 0, 1) := by decide +kernel
theorem dX9_putTag_130 : decode cX9_putTag 130 = .ok (.getfield 20, 3) := by decide +kernel
theorem dX9_putTag_133 : decode cX9_putTag 133 = .ok (.iload_n 1, 1) := by decide +kernel
theorem dX9_putTag_134 : decode cX9_putTag 134 = .ok (.iaload, 1) := by decide +kernel
theorem dX9_putTag_135 : decode cX9_putTag 135 = .ok (.invokestatic 116, 3) := by decide +kernel
theorem dX9_putTag_138 : decode cX9_putTag 138 = .ok (.istore 6, 2) := by decide +kernel
theorem dX9_putTag_140 : decode cX9_putTag 140 = .ok (.aload_n 0, 1) := by decide +kernel
theorem dX9_putTag_141 : decode cX9_putTag 141 = .ok (.getfield 36, 3) := by decide +kernel
theorem dX9_putTag_144 : decode cX9_putTag 144 = .ok (.iload 4, 2) := by decide +kernel
theorem dX9_putTag_146 : decode cX9_putTag 146 = .ok (.iconst 4, 1) := by decide +kernel
theorem dX9_putTag_147 : decode cX9_putTag 147 = .ok (.iload 6, 2) := by decide +kernel
theorem dX9_putTag_149 : decode cX9_putTag 149 = .ok (.imul, 1) := by decide +kernel
theorem dX9_putTag_150 : decode cX9_putTag 150 = .ok (.iadd, 1) := by decide +kernel
theorem dX9_putTag_151 : decode cX9_putTag 151 = .ok (.invokestatic 165, 3) := by decide +kernel
theorem dX9_putTag_154 : decode cX9_putTag 154 = .ok (.istore 7, 2) := by decide +kernel
theorem dX9_putTag_156 : decode cX9_putTag 156 = .ok (.iinc 8 1, 3) := by decide +kernel
theorem dX9_putTag_159 : decode cX9_putTag 159 = .ok (.goto (-83), 3) := by decide +kernel
theorem dX9_putTag_162 : decode cX9_putTag 162 = .ok (.iload 7, 2) := by decide +kernel
theorem dX9_putTag_164 : decode cX9_putTag 164 = .ok (.ifCond .lt 12, 3) := by decide +kernel
theorem dX9_putTag_167 : decode cX9_putTag 167 = .ok (.aload_n 0, 1) := by decide +kernel
theorem dX9_putTag_168 : decode cX9_putTag 168 = .ok (.getfield 36, 3) := by decide +kernel
theorem dX9_putTag_171 : decode cX9_putTag 171 = .ok (.iload 7, 2) := by decide +kernel
theorem dX9_putTag_173 : decode cX9_putTag 173 = .ok (.iload 5, 2) := by decide +kernel
theorem dX9_putTag_175 : decode cX9_putTag 175 = .ok (.iastore, 1) := by decide +kernel
theorem dX9_putTag_176 : decode cX9_putTag 176 = .ok (.iload 7, 2) := by decide +kernel
theorem dX9_putTag_178 : decode cX9_putTag 178 = .ok (.ifCond .lt 7, 3) := by decide +kernel
theorem dX9_putTag_181 : decode cX9_putTag 181 = .ok (.iconst 1, 1) := by decide +kernel
theorem dX9_putTag_182 : decode cX9_putTag 182 = .ok (.goto 4, 3) := by decide +kernel
theorem dX9_putTag_185 : decode cX9_putTag 185 = .ok (.iconst 0, 1) := by decide +kernel
theorem dX9_putTag_186 : decode cX9_putTag 186 = .ok (.ireturn, 1) := by decide +kernel
set_option maxRecDepth 20000 in
theorem gu_wsX9_doPut_2 : ∀ w ∈ wsX9_doPut_r2, w ∈ wsX9_doPut := fun _ h => List.mem_cons_of_mem _ (List.mem_append_left _ (List.mem_append_right _ h))
set_option maxRecDepth 20000 in
theorem gu_wsX9_doPut_1 : ∀ w ∈ wsX9_doPut_r1, w ∈ wsX9_doPut := fun _ h => List.mem_cons_of_mem _ (List.mem_append_left _ (List.mem_append_left _ h))
set_option maxRecDepth 20000 in
theorem gu_wsX9_doPut_3 : ∀ w ∈ wsX90, w ∈ wsX9_doPut := fun _ h => List.mem_cons_of_mem _ (List.mem_append_right _ h)
set_option maxRecDepth 20000 in
theorem ggX9_doPut_X9_putTag : GoodIn wsX9_doPut wsX9_putTag := goodIn_sub (gi_c (gu_wsX9_doPut_1 _ gm_12) (gi_a (gi_a (gi_c (gu_wsX9_doPut_1 _ gm_5) (gi_c (gu_wsX9_doPut_1 _ gm_4) (gi_c (gu_wsX9_doPut_1 _ gm_2) (gi_c (gu_wsX9_doPut_1 _ gm_13) (gi_c (gu_wsX9_doPut_1 _ gm_14) (gi_c (gu_wsX9_doPut_1 _ gm_11) (gi_c (gu_wsX9_doPut_1 _ gm_15) (gi_c (gu_wsX9_doPut_1 _ gm_16) (gi_c (gu_wsX9_doPut_1 _ gm_17) (gi_c (gu_wsX9_doPut_1 _ gm_18) (gi_c (gu_wsX9_doPut_1 _ gm_19) (gi_c (gu_wsX9_doPut_1 _ gm_20) (gi_c (gu_wsX9_doPut_1 _ gm_21) (gi_c (gu_wsX9_doPut_1 _ gm_22) (gi_c (gu_wsX9_doPut_1 _ gm_23) (gi_c (gu_wsX9_doPut_2 _ gm_0) (gi_c (gu_wsX9_doPut_2 _ gm_1) (gi_c (gu_wsX9_doPut_2 _ gm_2) (gi_c (gu_wsX9_doPut_2 _ gm_3) (gi_c (gu_wsX9_doPut_2 _ gm_4) (gi_c (gu_wsX9_doPut_2 _ gm_5) (gi_c (gu_wsX9_doPut_2 _ gm_6) (gi_c (gu_wsX9_doPut_2 _ gm_7) (gi_c (gu_wsX9_doPut_2 _ gm_8) gi_0)))))))))))))))))))))))) (gi_c (gu_wsX9_doPut_2 _ gm_9) (gi_c (gu_wsX9_doPut_2 _ gm_10) gi_0))) (gu_wsX9_doPut_3))) (by decide +kernel)
set_option maxRecDepth 20000 in
theorem gX9_doPut_X9_putTag : GoodIn wsX9_doPut (wsV RX9 169 RX9 yX9_putTag wsX9_putTag) := goodIn_app (goodIn_sub (gi_c (gu_wsX9_doPut_1 _ gm_8) (gi_c (gu_wsX9_doPut_1 _ gm_9) (gi_c (gu_wsX9_doPut_1 _ gm_10) (gi_c (gu_wsX9_doPut_1 _ gm_11) gi_0)))) (by decide +kernel)) ggX9_doPut_X9_putTag
set_option maxRecDepth 20000 in
theorem ggX9_doPut_X9_mix : GoodIn wsX9_doPut wsX9_mix := goodIn_sub (gi_c (gu_wsX9_doPut_1 _ gm_15) (gi_c (gu_wsX9_doPut_1 _ gm_16) (gi_c (gu_wsX9_doPut_1 _ gm_17) (gi_c (gu_wsX9_doPut_1 _ gm_18) gi_0)))) (by decide +kernel)
set_option maxRecDepth 20000 in
theorem gX9_doPut_X9_mix : GoodIn wsX9_doPut (va_wsS RX9 108 yX9_mix wsX9_mix) := goodIn_app (goodIn_sub (gi_c (gu_wsX9_doPut_1 _ gm_13) (gi_c (gu_wsX9_doPut_1 _ gm_14) (gi_c (gu_wsX9_doPut_1 _ gm_11) gi_0))) (by decide +kernel)) ggX9_doPut_X9_mix
set_option maxRecDepth 20000 in
theorem ggX9_doPut_X9_markOf : GoodIn wsX9_doPut wsX9_markOf := goodIn_sub (gi_c (gu_wsX9_doPut_2 _ gm_13) (gi_c (gu_wsX9_doPut_2 _ gm_3) gi_0)) (by decide +kernel)
set_option maxRecDepth 20000 in
theorem gX9_doPut_X9_markOf : GoodIn wsX9_doPut (va_wsS RX9 124 yX9_markOf wsX9_markOf) := goodIn_app (goodIn_sub (gi_c (gu_wsX9_doPut_2 _ gm_11) (gi_c (gu_wsX9_doPut_2 _ gm_12) (gi_c (gu_wsX9_doPut_1 _ gm_11) gi_0))) (by decide +kernel)) ggX9_doPut_X9_markOf
theorem dX9_doPut_0 : decode cX9_doPut 0 = .ok (.aload_n 0, 1) := by decide +kernel
theorem dX9_doPut_1 : decode cX9_doPut 1 = .ok (.getfield 32, 3) := by decide +kernel
theorem dX9_doPut_4 : decode cX9_doPut 4 = .ok (.iload_n 1, 1) := by decide +kernel
theorem dX9_doPut_5 : decode cX9_doPut 5 = .ok (.iaload, 1) := by decide +kernel
theorem dX9_doPut_6 : decode cX9_doPut 6 = .ok (.sipush 1000, 3) := by decide +kernel
theorem dX9_doPut_9 : decode cX9_doPut 9 = .ok (.if_icmp .ne 6, 3) := by decide +kernel
theorem dX9_doPut_12 : decode cX9_doPut 12 = .ok (.bipush (-4), 2) := by decide +kernel
theorem dX9_doPut_14 : decode cX9_doPut 14 = .ok (.ireturn, 1) := by decide +kernel
theorem dX9_doPut_15 : decode cX9_doPut 15 = .ok (.iload_n 1, 1) := by decide +kernel
theorem dX9_doPut_16 : decode cX9_doPut 16 = .ok (.sipush 4096, 3) := by decide +kernel
theorem dX9_doPut_19 : decode cX9_doPut 19 = .ok (.imul, 1) := by decide +kernel
theorem dX9_doPut_20 : decode cX9_doPut 20 = .ok (.istore 4, 2) := by decide +kernel
theorem dX9_doPut_22 : decode cX9_doPut 22 = .ok (.aload_n 0, 1) := by decide +kernel
theorem dX9_doPut_23 : decode cX9_doPut 23 = .ok (.getfield 17, 3) := by decide +kernel
theorem dX9_doPut_26 : decode cX9_doPut 26 = .ok (.iload_n 1, 1) := by decide +kernel
theorem dX9_doPut_27 : decode cX9_doPut 27 = .ok (.iaload, 1) := by decide +kernel
theorem dX9_doPut_28 : decode cX9_doPut 28 = .ok (.iconst 2, 1) := by decide +kernel
theorem dX9_doPut_29 : decode cX9_doPut 29 = .ok (.if_icmp .ne 93, 3) := by decide +kernel
theorem dX9_doPut_32 : decode cX9_doPut 32 = .ok (.iconst 0, 1) := by decide +kernel
theorem dX9_doPut_33 : decode cX9_doPut 33 = .ok (.istore 5, 2) := by decide +kernel
theorem dX9_doPut_35 : decode cX9_doPut 35 = .ok (.iload 5, 2) := by decide +kernel
theorem dX9_doPut_37 : decode cX9_doPut 37 = .ok (.iconst 4, 1) := by decide +kernel
theorem dX9_doPut_38 : decode cX9_doPut 38 = .ok (.aload_n 0, 1) := by decide +kernel
theorem dX9_doPut_39 : decode cX9_doPut 39 = .ok (.getfield 20, 3) := by decide +kernel
theorem dX9_doPut_42 : decode cX9_doPut 42 = .ok (.iload_n 1, 1) := by decide +kernel
theorem dX9_doPut_43 : decode cX9_doPut 43 = .ok (.iaload, 1) := by decide +kernel
theorem dX9_doPut_44 : decode cX9_doPut 44 = .ok (.imul, 1) := by decide +kernel
theorem dX9_doPut_45 : decode cX9_doPut 45 = .ok (.if_icmp .ge 26, 3) := by decide +kernel
theorem dX9_doPut_48 : decode cX9_doPut 48 = .ok (.aload_n 0, 1) := by decide +kernel
theorem dX9_doPut_49 : decode cX9_doPut 49 = .ok (.getfield 77, 3) := by decide +kernel
theorem dX9_doPut_52 : decode cX9_doPut 52 = .ok (.iload 5, 2) := by decide +kernel
theorem dX9_doPut_54 : decode cX9_doPut 54 = .ok (.aload_n 0, 1) := by decide +kernel
theorem dX9_doPut_55 : decode cX9_doPut 55 = .ok (.getfield 36, 3) := by decide +kernel
theorem dX9_doPut_58 : decode cX9_doPut 58 = .ok (.iload 4, 2) := by decide +kernel
theorem dX9_doPut_60 : decode cX9_doPut 60 = .ok (.iload 5, 2) := by decide +kernel
theorem dX9_doPut_62 : decode cX9_doPut 62 = .ok (.iadd, 1) := by decide +kernel
theorem dX9_doPut_63 : decode cX9_doPut 63 = .ok (.iaload, 1) := by decide +kernel
theorem dX9_doPut_64 : decode cX9_doPut 64 = .ok (.iastore, 1) := by decide +kernel
theorem dX9_doPut_65 : decode cX9_doPut 65 = .ok (.iinc 5 1, 3) := by decide +kernel
theorem dX9_doPut_68 : decode cX9_doPut 68 = .ok (.goto (-33), 3) := by decide +kernel
theorem dX9_doPut_71 : decode cX9_doPut 71 = .ok (.aload_n 0, 1) := by decide +kernel
theorem dX9_doPut_72 : decode cX9_doPut 72 = .ok (.iload_n 1, 1) := by decide +kernel
theorem dX9_doPut_73 : decode cX9_doPut 73 = .ok (.lload_n 2, 1) := by decide +kernel
theorem dX9_doPut_74 : decode cX9_doPut 74 = .ok (.invokevirtual 169, 3) := by decide +kernel
theorem dX9_doPut_77 : decode cX9_doPut 77 = .ok (.ifCond .ne 145, 3) := by decide +kernel
theorem dX9_doPut_80 : decode cX9_doPut 80 = .ok (.iconst 0, 1) := by decide +kernel
theorem dX9_doPut_81 : decode cX9_doPut 81 = .ok (.istore 5, 2) := by decide +kernel
theorem dX9_doPut_83 : decode cX9_doPut 83 = .ok (.iload 5, 2) := by decide +kernel
theorem dX9_doPut_85 : decode cX9_doPut 85 = .ok (.iconst 4, 1) := by decide +kernel
theorem dX9_doPut_86 : decode cX9_doPut 86 = .ok (.aload_n 0, 1) := by decide +kernel
theorem dX9_doPut_87 : decode cX9_doPut 87 = .ok (.getfield 20, 3) := by decide +kernel
theorem dX9_doPut_90 : decode cX9_doPut 90 = .ok (.iload_n 1, 1) := by decide +kernel
theorem dX9_doPut_91 : decode cX9_doPut 91 = .ok (.iaload, 1) := by decide +kernel
theorem dX9_doPut_92 : decode cX9_doPut 92 = .ok (.imul, 1) := by decide +kernel
theorem dX9_doPut_93 : decode cX9_doPut 93 = .ok (.if_icmp .ge 26, 3) := by decide +kernel
theorem dX9_doPut_96 : decode cX9_doPut 96 = .ok (.aload_n 0, 1) := by decide +kernel
theorem dX9_doPut_97 : decode cX9_doPut 97 = .ok (.getfield 36, 3) := by decide +kernel
theorem dX9_doPut_100 : decode cX9_doPut 100 = .ok (.iload 4, 2) := by decide +kernel
theorem dX9_doPut_102 : decode cX9_doPut 102 = .ok (.iload 5, 2) := by decide +kernel
theorem dX9_doPut_104 : decode cX9_doPut 104 = .ok (.iadd, 1) := by decide +kernel
theorem dX9_doPut_105 : decode cX9_doPut 105 = .ok (.aload_n 0, 1) := by decide +kernel
theorem dX9_doPut_106 : decode cX9_doPut 106 = .ok (.getfield 77, 3) := by decide +kernel
theorem dX9_doPut_109 : decode cX9_doPut 109 = .ok (.iload 5, 2) := by decide +kernel
theorem dX9_doPut_111 : decode cX9_doPut 111 = .ok (.iaload, 1) := by decide +kernel
theorem dX9_doPut_112 : decode cX9_doPut 112 = .ok (.iastore, 1) := by decide +kernel
theorem dX9_doPut_113 : decode cX9_doPut 113 = .ok (.iinc 5 1, 3) := by decide +kernel
theorem dX9_doPut_116 : decode cX9_doPut 116 = .ok (.goto (-33), 3) := by decide +kernel
theorem dX9_doPut_119 : decode cX9_doPut 119 = .ok (.bipush (-3), 2) := by decide +kernel
theorem dX9_doPut_121 : decode cX9_doPut 121 = .ok (.ireturn, 1) := by decide +kernel
theorem dX9_doPut_122 : decode cX9_doPut 122 = .ok (.lload_n 2, 1) := by decide +kernel
theorem dX9_doPut_123 : decode cX9_doPut 123 = .ok (.aload_n 0, 1) := by decide +kernel
theorem dX9_doPut_124 : decode cX9_doPut 124 = .ok (.getfield 26, 3) := by decide +kernel
theorem dX9_doPut_127 : decode cX9_doPut 127 = .ok (.iload_n 1, 1) := by decide +kernel
theorem dX9_doPut_128 : decode cX9_doPut 128 = .ok (.iaload, 1) := by decide +kernel
theorem dX9_doPut_129 : decode cX9_doPut 129 = .ok (.invokestatic 108, 3) := by decide +kernel
theorem dX9_doPut_132 : decode cX9_doPut 132 = .ok (.lstore 5, 2) := by decide +kernel
theorem dX9_doPut_134 : decode cX9_doPut 134 = .ok (.aload_n 0, 1) := by decide +kernel
theorem dX9_doPut_135 : decode cX9_doPut 135 = .ok (.getfield 17, 3) := by decide +kernel
theorem dX9_doPut_138 : decode cX9_doPut 138 = .ok (.iload_n 1, 1) := by decide +kernel
theorem dX9_doPut_139 : decode cX9_doPut 139 = .ok (.iaload, 1) := by decide +kernel
theorem dX9_doPut_140 : decode cX9_doPut 140 = .ok (.ifCond .ne 7, 3) := by decide +kernel
theorem dX9_doPut_143 : decode cX9_doPut 143 = .ok (.iconst 1, 1) := by decide +kernel
theorem dX9_doPut_144 : decode cX9_doPut 144 = .ok (.goto 5, 3) := by decide +kernel
theorem dX9_doPut_147 : decode cX9_doPut 147 = .ok (.bipush 15, 2) := by decide +kernel
theorem dX9_doPut_149 : decode cX9_doPut 149 = .ok (.istore 7, 2) := by decide +kernel
theorem dX9_doPut_151 : decode cX9_doPut 151 = .ok (.iconst 0, 1) := by decide +kernel
theorem dX9_doPut_152 : decode cX9_doPut 152 = .ok (.istore 8, 2) := by decide +kernel
theorem dX9_doPut_154 : decode cX9_doPut 154 = .ok (.iload 8, 2) := by decide +kernel
theorem dX9_doPut_156 : decode cX9_doPut 156 = .ok (.aload_n 0, 1) := by decide +kernel
theorem dX9_doPut_157 : decode cX9_doPut 157 = .ok (.getfield 23, 3) := by decide +kernel
theorem dX9_doPut_160 : decode cX9_doPut 160 = .ok (.iload_n 1, 1) := by decide +kernel
theorem dX9_doPut_161 : decode cX9_doPut 161 = .ok (.iaload, 1) := by decide +kernel
theorem dX9_doPut_162 : decode cX9_doPut 162 = .ok (.if_icmp .ge 60, 3) := by decide +kernel
theorem dX9_doPut_165 : decode cX9_doPut 165 = .ok (.iload 4, 2) := by decide +kernel
theorem dX9_doPut_167 : decode cX9_doPut 167 = .ok (.lload 5, 2) := by decide +kernel
theorem dX9_doPut_169 : decode cX9_doPut 169 = .ok (.iload 8, 2) := by decide +kernel
theorem dX9_doPut_171 : decode cX9_doPut 171 = .ok (.aload_n 0, 1) := by decide +kernel
theorem dX9_doPut_172 : decode cX9_doPut 172 = .ok (.getfield 20, 3) := by decide +kernel
theorem dX9_doPut_175 : decode cX9_doPut 175 = .ok (.iload_n 1, 1) := by decide +kernel
theorem dX9_doPut_176 : decode cX9_doPut 176 = .ok (.iaload, 1) := by decide +kernel
theorem dX9_doPut_177 : decode cX9_doPut 177 = .ok (.invokestatic 124, 3) := by decide +kernel
theorem dX9_doPut_180 : decode cX9_doPut 180 = .ok (.iadd, 1) := by decide +kernel
theorem dX9_doPut_181 : decode cX9_doPut 181 = .ok (.istore 9, 2) := by decide +kernel
theorem dX9_doPut_183 : decode cX9_doPut 183 = .ok (.aload_n 0, 1) := by decide +kernel
theorem dX9_doPut_184 : decode cX9_doPut 184 = .ok (.getfield 36, 3) := by decide +kernel
theorem dX9_doPut_187 : decode cX9_doPut 187 = .ok (.iload 9, 2) := by decide +kernel
theorem dX9_doPut_189 : decode cX9_doPut 189 = .ok (.aload_n 0, 1) := by decide +kernel
theorem dX9_doPut_190 : decode cX9_doPut 190 = .ok (.getfield 36, 3) := by decide +kernel
theorem dX9_doPut_193 : decode cX9_doPut 193 = .ok (.iload 9, 2) := by decide +kernel
theorem dX9_doPut_195 : decode cX9_doPut 195 = .ok (.iaload, 1) := by decide +kernel
theorem dX9_doPut_196 : decode cX9_doPut 196 = .ok (.iload 7, 2) := by decide +kernel
theorem dX9_doPut_198 : decode cX9_doPut 198 = .ok (.if_icmp .ge 15, 3) := by decide +kernel
theorem dX9_doPut_201 : decode cX9_doPut 201 = .ok (.aload_n 0, 1) := by decide +kernel
theorem dX9_doPut_202 : decode cX9_doPut 202 = .ok (.getfield 36, 3) := by decide +kernel
theorem dX9_doPut_205 : decode cX9_doPut 205 = .ok (.iload 9, 2) := by decide +kernel
theorem dX9_doPut_207 : decode cX9_doPut 207 = .ok (.iaload, 1) := by decide +kernel
theorem dX9_doPut_208 : decode cX9_doPut 208 = .ok (.iconst 1, 1) := by decide +kernel
theorem dX9_doPut_209 : decode cX9_doPut 209 = .ok (.iadd, 1) := by decide +kernel
theorem dX9_doPut_210 : decode cX9_doPut 210 = .ok (.goto 5, 3) := by decide +kernel
theorem dX9_doPut_213 : decode cX9_doPut 213 = .ok (.iload 7, 2) := by decide +kernel
theorem dX9_doPut_215 : decode cX9_doPut 215 = .ok (.iastore, 1) := by decide +kernel
theorem dX9_doPut_216 : decode cX9_doPut 216 = .ok (.iinc 8 1, 3) := by decide +kernel
theorem dX9_doPut_219 : decode cX9_doPut 219 = .ok (.goto (-65), 3) := by decide +kernel
theorem dX9_doPut_222 : decode cX9_doPut 222 = .ok (.aload_n 0, 1) := by decide +kernel
theorem dX9_doPut_223 : decode cX9_doPut 223 = .ok (.getfield 29, 3) := by decide +kernel
theorem dX9_doPut_226 : decode cX9_doPut 226 = .ok (.iload_n 1, 1) := by decide +kernel
theorem dX9_doPut_227 : decode cX9_doPut 227 = .ok (.sipush 1000, 3) := by decide +kernel
theorem dX9_doPut_230 : decode cX9_doPut 230 = .ok (.imul, 1) := by decide +kernel
theorem dX9_doPut_231 : decode cX9_doPut 231 = .ok (.aload_n 0, 1) := by decide +kernel
theorem dX9_doPut_232 : decode cX9_doPut 232 = .ok (.getfield 32, 3) := by decide +kernel
theorem dX9_doPut_235 : decode cX9_doPut 235 = .ok (.iload_n 1, 1) := by decide +kernel
theorem dX9_doPut_236 : decode cX9_doPut 236 = .ok (.iaload, 1) := by decide +kernel
theorem dX9_doPut_237 : decode cX9_doPut 237 = .ok (.iadd, 1) := by decide +kernel
theorem dX9_doPut_238 : decode cX9_doPut 238 = .ok (.lload_n 2, 1) := by decide +kernel
theorem dX9_doPut_239 : decode cX9_doPut 239 = .ok (.lastore, 1) := by decide +kernel
theorem dX9_doPut_240 : decode cX9_doPut 240 = .ok (.aload_n 0, 1) := by decide +kernel
theorem dX9_doPut_241 : decode cX9_doPut 241 = .ok (.getfield 32, 3) := by decide +kernel
theorem dX9_doPut_244 : decode cX9_doPut 244 = .ok (.iload_n 1, 1) := by decide +kernel
theorem dX9_doPut_245 : decode cX9_doPut 245 = .ok (.dup2, 1) := by decide +kernel
theorem dX9_doPut_246 : decode cX9_doPut 246 = .ok (.iaload, 1) := by decide +kernel
theorem dX9_doPut_247 : decode cX9_doPut 247 = .ok (.iconst 1, 1) := by decide +kernel
theorem dX9_doPut_248 : decode cX9_doPut 248 = .ok (.iadd, 1) := by decide +kernel
theorem dX9_doPut_249 : decode cX9_doPut 249 = .ok (.iastore, 1) := by decide +kernel
theorem dX9_doPut_250 : decode cX9_doPut 250 = .ok (.aload_n 0, 1) := by decide +kernel
theorem dX9_doPut_251 : decode cX9_doPut 251 = .ok (.getfield 32, 3) := by decide +kernel
theorem dX9_doPut_254 : decode cX9_doPut 254 = .ok (.iload_n 1, 1) := by decide +kernel
theorem dX9_doPut_255 : decode cX9_doPut 255 = .ok (.iaload, 1) := by decide +kernel
theorem dX9_doPut_256 : decode cX9_doPut 256 = .ok (.ireturn, 1) := by decide +kernel
set_option maxRecDepth 20000 in
theorem gu_wsX9_put_1 : ∀ w ∈ wsX9_put_r1, w ∈ wsX9_put := fun _ h => List.mem_cons_of_mem _ (List.mem_append_left _ (List.mem_append_left _ h))
set_option maxRecDepth 20000 in
theorem gu_wsX9_put_3 : ∀ w ∈ wsX90, w ∈ wsX9_put := fun _ h => List.mem_cons_of_mem _ (List.mem_append_right _ h)
set_option maxRecDepth 20000 in
theorem ggX9_put_X9_is : GoodIn wsX9_put wsX9_is := goodIn_sub (gi_c (gu_wsX9_put_1 _ gm_5) (gi_a (gi_c (gu_wsX9_put_1 _ gm_6) gi_0) (gu_wsX9_put_3))) (by decide +kernel)
set_option maxRecDepth 20000 in
theorem gX9_put_X9_is : GoodIn wsX9_put (wsV RX9 172 RX9 yX9_is wsX9_is) := goodIn_app (goodIn_sub (gi_c (gu_wsX9_put_1 _ gm_1) (gi_c (gu_wsX9_put_1 _ gm_2) (gi_c (gu_wsX9_put_1 _ gm_3) (gi_c (gu_wsX9_put_1 _ gm_4) gi_0)))) (by decide +kernel)) ggX9_put_X9_is
set_option maxRecDepth 20000 in
theorem gu_wsX9_put_2 : ∀ w ∈ wsX9_put_r2, w ∈ wsX9_put := fun _ h => List.mem_cons_of_mem _ (List.mem_append_left _ (List.mem_append_right _ h))
set_option maxRecDepth 20000 in
theorem ggX9_put_X9_doPut : GoodIn wsX9_put wsX9_doPut := goodIn_sub (gi_c (gu_wsX9_put_1 _ gm_10) (gi_a (gi_a (gi_c (gu_wsX9_put_1 _ gm_11) (gi_c (gu_wsX9_put_1 _ gm_0) (gi_c (gu_wsX9_put_1 _ gm_12) (gi_c (gu_wsX9_put_1 _ gm_13) (gi_c (gu_wsX9_put_1 _ gm_14) (gi_c (gu_wsX9_put_1 _ gm_15) (gi_c (gu_wsX9_put_1 _ gm_16) (gi_c (gu_wsX9_put_1 _ gm_17) (gi_c (gu_wsX9_put_1 _ gm_18) (gi_c (gu_wsX9_put_1 _ gm_19) (gi_c (gu_wsX9_put_1 _ gm_20) (gi_c (gu_wsX9_put_1 _ gm_4) (gi_c (gu_wsX9_put_1 _ gm_21) (gi_c (gu_wsX9_put_1 _ gm_22) (gi_c (gu_wsX9_put_1 _ gm_23) (gi_c (gu_wsX9_put_2 _ gm_0) (gi_c (gu_wsX9_put_2 _ gm_1) (gi_c (gu_wsX9_put_2 _ gm_2) (gi_c (gu_wsX9_put_2 _ gm_3) (gi_c (gu_wsX9_put_2 _ gm_4) (gi_c (gu_wsX9_put_2 _ gm_5) (gi_c (gu_wsX9_put_2 _ gm_6) (gi_c (gu_wsX9_put_2 _ gm_7) (gi_c (gu_wsX9_put_2 _ gm_8) gi_0)))))))))))))))))))))))) (gi_c (gu_wsX9_put_2 _ gm_9) (gi_c (gu_wsX9_put_2 _ gm_10) (gi_c (gu_wsX9_put_2 _ gm_11) (gi_c (gu_wsX9_put_2 _ gm_12) (gi_c (gu_wsX9_put_2 _ gm_13) (gi_c (gu_wsX9_put_2 _ gm_14) (gi_c (gu_wsX9_put_2 _ gm_15) (gi_c (gu_wsX9_put_2 _ gm_16) (gi_c (gu_wsX9_put_2 _ gm_17) (gi_c (gu_wsX9_put_2 _ gm_18) (gi_c (gu_wsX9_put_2 _ gm_19) (gi_c (gu_wsX9_put_2 _ gm_20) (gi_c (gu_wsX9_put_2 _ gm_21) (gi_c (gu_wsX9_put_2 _ gm_22) gi_0))))))))))))))) (gu_wsX9_put_3))) (by decide +kernel)
set_option maxRecDepth 20000 in
theorem gX9_put_X9_doPut : GoodIn wsX9_put (wsV RX9 175 RX9 yX9_doPut wsX9_doPut) := goodIn_app (goodIn_sub (gi_c (gu_wsX9_put_1 _ gm_7) (gi_c (gu_wsX9_put_1 _ gm_8) (gi_c (gu_wsX9_put_1 _ gm_9) (gi_c (gu_wsX9_put_1 _ gm_4) gi_0)))) (by decide +kernel)) ggX9_put_X9_doPut
theorem dX9_put_0 : decode cX9_put 0 = .ok (.aload_n 0, 1) := by decide +kernel
theorem dX9_put_1 : decode cX9_put 1 = .ok (.iload_n 1, 1) := by decide +kernel
theorem dX9_put_2 : decode cX9_put 2 = .ok (.invokevirtual 172, 3) := by decide +kernel
theorem dX9_put_5 : decode cX9_put 5 = .ok (.ifCond .ne 5, 3) := by decide +kernel
theorem dX9_put_8 : decode cX9_put 8 = .ok (.iconst (-1), 1) := by decide +kernel
theorem dX9_put_9 : decode cX9_put 9 = .ok (.ireturn, 1) := by decide +kernel
theorem dX9_put_10 : decode cX9_put 10 = .ok (.aload_n 0, 1) := by decide +kernel
theorem dX9_put_11 : decode cX9_put 11 = .ok (.getfield 17, 3) := by decide +kernel
theorem dX9_put_14 : decode cX9_put 14 = .ok (.iload_n 1, 1) := by decide +kernel
theorem dX9_put_15 : decode cX9_put 15 = .ok (.iaload, 1) := by decide +kernel
theorem dX9_put_16 : decode cX9_put 16 = .ok (.iconst 2, 1) := by decide +kernel
theorem dX9_put_17 : decode cX9_put 17 = .ok (.if_icmp .le 8, 3) := by decide +kernel
theorem dX9_put_20 : decode cX9_put 20 = .ok (.bipush (-2), 2) := by decide +kernel
theorem dX9_put_22 : decode cX9_put 22 = .ok (.goto 9, 3) := by decide +kernel
theorem dX9_put_25 : decode cX9_put 25 = .ok (.aload_n 0, 1) := by decide +kernel
theorem dX9_put_26 : decode cX9_put 26 = .ok (.iload_n 1, 1) := by decide +kernel
theorem dX9_put_27 : decode cX9_put 27 = .ok (.lload_n 2, 1) := by decide +kernel
theorem dX9_put_28 : decode cX9_put 28 = .ok (.invokevirtual 175, 3) := by decide +kernel
theorem dX9_put_31 : decode cX9_put 31 = .ok (.ireturn, 1) := by decide +kernel
set_option maxRecDepth 20000 in
theorem gu_wsX9_putAll_1 : ∀ w ∈ wsX9_putAll_r1, w ∈ wsX9_putAll := fun _ h => List.mem_cons_of_mem _ (List.mem_append_left _ (List.mem_append_left _ h))
set_option maxRecDepth 20000 in
theorem gu_wsX9_putAll_4 : ∀ w ∈ wsX90, w ∈ wsX9_putAll := fun _ h => List.mem_cons_of_mem _ (List.mem_append_right _ h)
set_option maxRecDepth 20000 in
theorem ggX9_putAll_X9_is : GoodIn wsX9_putAll wsX9_is := goodIn_sub (gi_c (gu_wsX9_putAll_1 _ gm_7) (gi_a (gi_c (gu_wsX9_putAll_1 _ gm_8) gi_0) (gu_wsX9_putAll_4))) (by decide +kernel)
set_option maxRecDepth 20000 in
theorem gX9_putAll_X9_is : GoodIn wsX9_putAll (wsV RX9 172 RX9 yX9_is wsX9_is) := goodIn_app (goodIn_sub (gi_c (gu_wsX9_putAll_1 _ gm_3) (gi_c (gu_wsX9_putAll_1 _ gm_4) (gi_c (gu_wsX9_putAll_1 _ gm_5) (gi_c (gu_wsX9_putAll_1 _ gm_6) gi_0)))) (by decide +kernel)) ggX9_putAll_X9_is
set_option maxRecDepth 20000 in
theorem ggX9_putAll_X9_isWorld : GoodIn wsX9_putAll wsX9_isWorld := goodIn_sub (gi_c (gu_wsX9_putAll_1 _ gm_11) (gi_0)) (by decide +kernel)
set_option maxRecDepth 20000 in
theorem gX9_putAll_X9_isWorld : GoodIn wsX9_putAll (va_wsS RX9 92 yX9_isWorld wsX9_isWorld) := goodIn_app (goodIn_sub (gi_c (gu_wsX9_putAll_1 _ gm_9) (gi_c (gu_wsX9_putAll_1 _ gm_10) (gi_c (gu_wsX9_putAll_1 _ gm_6) gi_0))) (by decide +kernel)) ggX9_putAll_X9_isWorld
set_option maxRecDepth 20000 in
theorem gu_wsX9_putAll_2 : ∀ w ∈ wsX9_putAll_r2, w ∈ wsX9_putAll := fun _ h => List.mem_cons_of_mem _ (List.mem_append_left _ (List.mem_append_right _ (List.mem_append_left _ h)))
set_option maxRecDepth 20000 in
theorem gu_wsX9_putAll_3 : ∀ w ∈ wsX9_putAll_r3, w ∈ wsX9_putAll := fun _ h => List.mem_cons_of_mem _ (List.mem_append_left _ (List.mem_append_right _ (List.mem_append_right _ h)))
set_option maxRecDepth 20000 in
theorem ggX9_putAll_X9_doPut : GoodIn wsX9_putAll wsX9_doPut := goodIn_sub (gi_c (gu_wsX9_putAll_1 _ gm_15) (gi_a (gi_a (gi_c (gu_wsX9_putAll_1 _ gm_16) (gi_c (gu_wsX9_putAll_1 _ gm_0) (gi_c (gu_wsX9_putAll_1 _ gm_17) (gi_c (gu_wsX9_putAll_1 _ gm_18) (gi_c (gu_wsX9_putAll_1 _ gm_19) (gi_c (gu_wsX9_putAll_1 _ gm_20) (gi_c (gu_wsX9_putAll_1 _ gm_21) (gi_c (gu_wsX9_putAll_1 _ gm_22) (gi_c (gu_wsX9_putAll_1 _ gm_23) (gi_c (gu_wsX9_putAll_2 _ gm_0) (gi_c (gu_wsX9_putAll_2 _ gm_1) (gi_c (gu_wsX9_putAll_1 _ gm_6) (gi_c (gu_wsX9_putAll_2 _ gm_2) (gi_c (gu_wsX9_putAll_2 _ gm_3) (gi_c (gu_wsX9_putAll_2 _ gm_4) (gi_c (gu_wsX9_putAll_2 _ gm_5) (gi_c (gu_wsX9_putAll_2 _ gm_6) (gi_c (gu_wsX9_putAll_2 _ gm_7) (gi_c (gu_wsX9_putAll_2 _ gm_8) (gi_c (gu_wsX9_putAll_2 _ gm_9) (gi_c (gu_wsX9_putAll_2 _ gm_10) (gi_c (gu_wsX9_putAll_2 _ gm_11) (gi_c (gu_wsX9_putAll_2 _ gm_12) (gi_c (gu_wsX9_putAll_2 _ gm_13) gi_0)))))))))))))))))))))))) (gi_c (gu_wsX9_putAll_2 _ gm_14) (gi_c (gu_wsX9_putAll_2 _ gm_15) (gi_c (gu_wsX9_putAll_2 _ gm_16) (gi_c (gu_wsX9_putAll_2 _ gm_17) (gi_c (gu_wsX9_putAll_2 _ gm_18) (gi_c (gu_wsX9_putAll_2 _ gm_19) (gi_c (gu_wsX9_putAll_2 _ gm_20) (gi_c (gu_wsX9_putAll_2 _ gm_21) (gi_c (gu_wsX9_putAll_2 _ gm_22) (gi_c (gu_wsX9_putAll_2 _ gm_23) (gi_c (gu_wsX9_putAll_3 _ gm_0) (gi_c (gu_wsX9_putAll_3 _ gm_1) (gi_c (gu_wsX9_putAll_3 _ gm_2) (gi_c (gu_wsX9_putAll_3 _ gm_3) gi_0))))))))))))))) (gu_wsX9_putAll_4))) (by decide +kernel)
set_option maxRecDepth 20000 in
theorem gX9_putAll_X9_doPut : GoodIn wsX9_putAll (wsV RX9 175 RX9 yX9_doPut wsX9_doPut) := goodIn_app (goodIn_sub (gi_c (gu_wsX9_putAll_1 _ gm_12) (gi_c (gu_wsX9_putAll_1 _ gm_13) (gi_c (gu_wsX9_putAll_1 _ gm_14) (gi_c (gu_wsX9_putAll_1 _ gm_6) gi_0)))) (by decide +kernel)) ggX9_putAll_X9_doPut
theorem dX9_putAll_0 : decode cX9_putAll 0 = .ok (.aload_n 0, 1) := by decide +kernel
theorem dX9_putAll_1 : decode cX9_putAll 1 = .ok (.iload_n 1, 1) := by decide +kernel
theorem dX9_putAll_2 : decode cX9_putAll 2 = .ok (.invokevirtual 172, 3) := by decide +kernel
theorem dX9_putAll_5 : decode cX9_putAll 5 = .ok (.ifCond .eq 10, 3) := by decide +kernel
theorem dX9_putAll_8 : decode cX9_putAll 8 = .ok (.iload_n 2, 1) := by decide +kernel
theorem dX9_putAll_9 : decode cX9_putAll 9 = .ok (.invokestatic 92, 3) := by decide +kernel
theorem dX9_putAll_12 : decode cX9_putAll 12 = .ok (.ifCond .ne 5, 3) := by decide +kernel
theorem dX9_putAll_15 : decode cX9_putAll 15 = .ok (.iconst (-1), 1) := by decide +kernel
theorem dX9_putAll_16 : decode cX9_putAll 16 = .ok (.ireturn, 1) := by decide +kernel
theorem dX9_putAll_17 : decode cX9_putAll 17 = .ok (.aload_n 0, 1) := by decide +kernel
theorem dX9_putAll_18 : decode cX9_putAll 18 = .ok (.getfield 17, 3) := by decide +kernel
theorem dX9_putAll_21 : decode cX9_putAll 21 = .ok (.iload_n 1, 1) := by decide +kernel
theorem dX9_putAll_22 : decode cX9_putAll 22 = .ok (.iaload, 1) := by decide +kernel
theorem dX9_putAll_23 : decode cX9_putAll 23 = .ok (.iconst 2, 1) := by decide +kernel
theorem dX9_putAll_24 : decode cX9_putAll 24 = .ok (.if_icmp .le 6, 3) := by decide +kernel
theorem dX9_putAll_27 : decode cX9_putAll 27 = .ok (.bipush (-2), 2) := by decide +kernel
theorem dX9_putAll_29 : decode cX9_putAll 29 = .ok (.ireturn, 1) := by decide +kernel
theorem dX9_putAll_30 : decode cX9_putAll 30 = .ok (.iconst 0, 1) := by decide +kernel
theorem dX9_putAll_31 : decode cX9_putAll 31 = .ok (.istore_n 3, 1) := by decide +kernel
theorem dX9_putAll_32 : decode cX9_putAll 32 = .ok (.iload_n 3, 1) := by decide +kernel
theorem dX9_putAll_33 : decode cX9_putAll 33 = .ok (.aload_n 0, 1) := by decide +kernel
theorem dX9_putAll_34 : decode cX9_putAll 34 = .ok (.getfield 13, 3) := by decide +kernel
theorem dX9_putAll_37 : decode cX9_putAll 37 = .ok (.iload_n 2, 1) := by decide +kernel
theorem dX9_putAll_38 : decode cX9_putAll 38 = .ok (.iaload, 1) := by decide +kernel
theorem dX9_putAll_39 : decode cX9_putAll 39 = .ok (.if_icmp .ge 29, 3) := by decide +kernel
theorem dX9_putAll_42 : decode cX9_putAll 42 = .ok (.aload_n 0, 1) := by decide +kernel
theorem dX9_putAll_43 : decode cX9_putAll 43 = .ok (.iload_n 1, 1) := by decide +kernel
theorem dX9_putAll_44 : decode cX9_putAll 44 = .ok (.aload_n 0, 1) := by decide +kernel
theorem dX9_putAll_45 : decode cX9_putAll 45 = .ok (.getfield 9, 3) := by decide +kernel
theorem dX9_putAll_48 : decode cX9_putAll 48 = .ok (.iload_n 2, 1) := by decide +kernel
theorem dX9_putAll_49 : decode cX9_putAll 49 = .ok (.sipush 1000, 3) := by decide +kernel
theorem dX9_putAll_52 : decode cX9_putAll 52 = .ok (.imul, 1) := by decide +kernel
theorem dX9_putAll_53 : decode cX9_putAll 53 = .ok (.iload_n 3, 1) := by decide +kernel
theorem dX9_putAll_54 : decode cX9_putAll 54 = .ok (.iadd, 1) := by decide +kernel
theorem dX9_putAll_55 : decode cX9_putAll 55 = .ok (.laload, 1) := by decide +kernel
theorem dX9_putAll_56 : decode cX9_putAll 56 = .ok (.invokevirtual 175, 3) := by decide +kernel
theorem dX9_putAll_59 : decode cX9_putAll 59 = .ok (.ifCond .le 9, 3) := by decide +kernel
theorem dX9_putAll_62 : decode cX9_putAll 62 = .ok (.iinc 3 1, 3) := by decide +kernel
theorem dX9_putAll_65 : decode cX9_putAll 65 = .ok (.goto (-33), 3) := by decide +kernel
theorem dX9_putAll_68 : decode cX9_putAll 68 = .ok (.iload_n 3, 1) := by decide +kernel
theorem dX9_putAll_69 : decode cX9_putAll 69 = .ok (.ireturn, 1) := by decide +kernel
set_option maxRecDepth 20000 in
theorem gu_wsX9_drop_1 : ∀ w ∈ wsX9_drop_r1, w ∈ wsX9_drop := fun _ h => List.mem_cons_of_mem _ (List.mem_append_left _ (List.mem_append_left _ h))
set_option maxRecDepth 20000 in
theorem gu_wsX9_drop_4 : ∀ w ∈ wsX90, w ∈ wsX9_drop := fun _ h => List.mem_cons_of_mem _ (List.mem_append_right _ h)
set_option maxRecDepth 20000 in
theorem ggX9_drop_X9_is : GoodIn wsX9_drop wsX9_is := goodIn_sub (gi_c (gu_wsX9_drop_1 _ gm_11) (gi_a (gi_c (gu_wsX9_drop_1 _ gm_12) gi_0) (gu_wsX9_drop_4))) (by decide +kernel)
set_option maxRecDepth 20000 in
theorem gX9_drop_X9_is : GoodIn wsX9_drop (wsV RX9 172 RX9 yX9_is wsX9_is) := goodIn_app (goodIn_sub (gi_c (gu_wsX9_drop_1 _ gm_7) (gi_c (gu_wsX9_drop_1 _ gm_8) (gi_c (gu_wsX9_drop_1 _ gm_9) (gi_c (gu_wsX9_drop_1 _ gm_10) gi_0)))) (by decide +kernel)) ggX9_drop_X9_is
set_option maxRecDepth 20000 in
theorem gu_wsX9_drop_2 : ∀ w ∈ wsX9_drop_r2, w ∈ wsX9_drop := fun _ h => List.mem_cons_of_mem _ (List.mem_append_left _ (List.mem_append_right _ (List.mem_append_left _ h)))
set_option maxRecDepth 20000 in
theorem gu_wsX9_drop_3 : ∀ w ∈ wsX9_drop_r3, w ∈ wsX9_drop := fun _ h => List.mem_cons_of_mem _ (List.mem_append_left _ (List.mem_append_right _ (List.mem_append_right _ h)))
set_option maxRecDepth 20000 in
theorem ggX9_drop_X9_letsThrough : GoodIn wsX9_drop wsX9_letsThrough := goodIn_sub (gi_c (gu_wsX9_drop_1 _ gm_16) (gi_a (gi_a (gi_c (gu_wsX9_drop_1 _ gm_1) (gi_c (gu_wsX9_drop_1 _ gm_0) (gi_c (gu_wsX9_drop_1 _ gm_4) (gi_c (gu_wsX9_drop_1 _ gm_3) (gi_c (gu_wsX9_drop_1 _ gm_2) (gi_c (gu_wsX9_drop_1 _ gm_17) (gi_c (gu_wsX9_drop_1 _ gm_18) (gi_c (gu_wsX9_drop_1 _ gm_10) (gi_c (gu_wsX9_drop_1 _ gm_19) (gi_c (gu_wsX9_drop_1 _ gm_20) (gi_c (gu_wsX9_drop_1 _ gm_21) (gi_c (gu_wsX9_drop_1 _ gm_22) (gi_c (gu_wsX9_drop_1 _ gm_23) (gi_c (gu_wsX9_drop_2 _ gm_0) (gi_c (gu_wsX9_drop_2 _ gm_1) (gi_c (gu_wsX9_drop_2 _ gm_2) (gi_c (gu_wsX9_drop_2 _ gm_3) (gi_c (gu_wsX9_drop_2 _ gm_4) (gi_c (gu_wsX9_drop_2 _ gm_5) (gi_c (gu_wsX9_drop_2 _ gm_6) (gi_c (gu_wsX9_drop_2 _ gm_7) (gi_c (gu_wsX9_drop_2 _ gm_8) (gi_c (gu_wsX9_drop_2 _ gm_9) (gi_c (gu_wsX9_drop_2 _ gm_10) gi_0)))))))))))))))))))))))) (gi_c (gu_wsX9_drop_2 _ gm_11) (gi_c (gu_wsX9_drop_2 _ gm_12) (gi_c (gu_wsX9_drop_2 _ gm_13) (gi_c (gu_wsX9_drop_2 _ gm_14) (gi_c (gu_wsX9_drop_2 _ gm_15) (gi_c (gu_wsX9_drop_2 _ gm_16) (gi_c (gu_wsX9_drop_2 _ gm_17) (gi_c (gu_wsX9_drop_2 _ gm_18) (gi_c (gu_wsX9_drop_2 _ gm_19) (gi_c (gu_wsX9_drop_2 _ gm_20) (gi_c (gu_wsX9_drop_2 _ gm_21) (gi_c (gu_wsX9_drop_2 _ gm_22) (gi_c (gu_wsX9_drop_2 _ gm_23) (gi_c (gu_wsX9_drop_3 _ gm_0) (gi_c (gu_wsX9_drop_3 _ gm_1) (gi_c (gu_wsX9_drop_3 _ gm_2) (gi_c (gu_wsX9_drop_3 _ gm_3) (gi_c (gu_wsX9_drop_3 _ gm_4) (gi_c (gu_wsX9_drop_3 _ gm_5) (gi_c (gu_wsX9_drop_3 _ gm_6) (gi_c (gu_wsX9_drop_3 _ gm_7) (gi_c (gu_wsX9_drop_3 _ gm_8) (gi_c (gu_wsX9_drop_3 _ gm_9) (gi_c (gu_wsX9_drop_3 _ gm_10) gi_0))))))))))))))))))))))))) (gu_wsX9_drop_4))) (by decide +kernel)
set_option maxRecDepth 20000 in
theorem gX9_drop_X9_letsThrough : GoodIn wsX9_drop (wsV RX9 178 RX9 yX9_letsThrough wsX9_letsThrough) := goodIn_app (goodIn_sub (gi_c (gu_wsX9_drop_1 _ gm_13) (gi_c (gu_wsX9_drop_1 _ gm_14) (gi_c (gu_wsX9_drop_1 _ gm_15) (gi_c (gu_wsX9_drop_1 _ gm_10) gi_0)))) (by decide +kernel)) ggX9_drop_X9_letsThrough
set_option maxRecDepth 20000 in
theorem ggX9_drop_X9_mix : GoodIn wsX9_drop wsX9_mix := goodIn_sub (gi_c (gu_wsX9_drop_1 _ gm_19) (gi_c (gu_wsX9_drop_1 _ gm_20) (gi_c (gu_wsX9_drop_1 _ gm_21) (gi_c (gu_wsX9_drop_1 _ gm_22) gi_0)))) (by decide +kernel)
set_option maxRecDepth 20000 in
theorem gX9_drop_X9_mix : GoodIn wsX9_drop (va_wsS RX9 108 yX9_mix wsX9_mix) := goodIn_app (goodIn_sub (gi_c (gu_wsX9_drop_1 _ gm_17) (gi_c (gu_wsX9_drop_1 _ gm_18) (gi_c (gu_wsX9_drop_1 _ gm_10) gi_0))) (by decide +kernel)) ggX9_drop_X9_mix
set_option maxRecDepth 20000 in
theorem ggX9_drop_X9_markOf : GoodIn wsX9_drop wsX9_markOf := goodIn_sub (gi_c (gu_wsX9_drop_2 _ gm_13) (gi_c (gu_wsX9_drop_2 _ gm_14) gi_0)) (by decide +kernel)
set_option maxRecDepth 20000 in
theorem gX9_drop_X9_markOf : GoodIn wsX9_drop (va_wsS RX9 124 yX9_markOf wsX9_markOf) := goodIn_app (goodIn_sub (gi_c (gu_wsX9_drop_2 _ gm_11) (gi_c (gu_wsX9_drop_2 _ gm_12) (gi_c (gu_wsX9_drop_1 _ gm_10) gi_0))) (by decide +kernel)) ggX9_drop_X9_markOf
set_option maxRecDepth 20000 in
theorem ggX9_drop_X9_nestOf : GoodIn wsX9_drop wsX9_nestOf := goodIn_sub (gi_c (gu_wsX9_drop_3 _ gm_2) (gi_a (gi_c (gu_wsX9_drop_1 _ gm_1) (gi_c (gu_wsX9_drop_2 _ gm_14) (gi_c (gu_wsX9_drop_1 _ gm_3) (gi_c (gu_wsX9_drop_1 _ gm_17) (gi_c (gu_wsX9_drop_1 _ gm_18) (gi_c (gu_wsX9_drop_1 _ gm_10) (gi_c (gu_wsX9_drop_1 _ gm_19) (gi_c (gu_wsX9_drop_1 _ gm_20) (gi_c (gu_wsX9_drop_1 _ gm_21) (gi_c (gu_wsX9_drop_1 _ gm_22) (gi_c (gu_wsX9_drop_3 _ gm_3) (gi_c (gu_wsX9_drop_3 _ gm_4) (gi_c (gu_wsX9_drop_3 _ gm_5) (gi_c (gu_wsX9_drop_3 _ gm_6) (gi_c (gu_wsX9_drop_3 _ gm_7) (gi_c (gu_wsX9_drop_3 _ gm_8) (gi_c (gu_wsX9_drop_3 _ gm_9) (gi_c (gu_wsX9_drop_3 _ gm_10) gi_0)))))))))))))))))) (gu_wsX9_drop_4))) (by decide +kernel)
set_option maxRecDepth 20000 in
theorem gX9_drop_X9_nestOf : GoodIn wsX9_drop (wsV RX9 142 RX9 yX9_nestOf wsX9_nestOf) := goodIn_app (goodIn_sub (gi_c (gu_wsX9_drop_2 _ gm_23) (gi_c (gu_wsX9_drop_3 _ gm_0) (gi_c (gu_wsX9_drop_3 _ gm_1) (gi_c (gu_wsX9_drop_1 _ gm_10) gi_0)))) (by decide +kernel)) ggX9_drop_X9_nestOf
set_option maxRecDepth 20000 in
theorem ggX9_drop_X9_tagOf : GoodIn wsX9_drop wsX9_tagOf := goodIn_sub (gi_c (gu_wsX9_drop_3 _ gm_5) (gi_c (gu_wsX9_drop_3 _ gm_6) gi_0)) (by decide +kernel)
set_option maxRecDepth 20000 in
theorem gX9_drop_X9_tagOf : GoodIn wsX9_drop (va_wsS RX9 112 yX9_tagOf wsX9_tagOf) := goodIn_app (goodIn_sub (gi_c (gu_wsX9_drop_3 _ gm_3) (gi_c (gu_wsX9_drop_3 _ gm_4) (gi_c (gu_wsX9_drop_1 _ gm_10) gi_0))) (by decide +kernel)) ggX9_drop_X9_tagOf
theorem dX9_drop_0 : decode cX9_drop 0 = .ok (.aload_n 0, 1) := by decide +kernel
theorem dX9_drop_1 : decode cX9_drop 1 = .ok (.iload_n 1, 1) := by decide +kernel
theorem dX9_drop_2 : decode cX9_drop 2 = .ok (.invokevirtual 172, 3) := by decide +kernel
theorem dX9_drop_5 : decode cX9_drop 5 = .ok (.ifCond .ne 5, 3) := by decide +kernel
theorem dX9_drop_8 : decode cX9_drop 8 = .ok (.iconst (-1), 1) := by decide +kernel
theorem dX9_drop_9 : decode cX9_drop 9 = .ok (.ireturn, 1) := by decide +kernel
theorem dX9_drop_10 : decode cX9_drop 10 = .ok (.aload_n 0, 1) := by decide +kernel
theorem dX9_drop_11 : decode cX9_drop 11 = .ok (.getfield 17, 3) := by decide +kernel
theorem dX9_drop_14 : decode cX9_drop 14 = .ok (.iload_n 1, 1) := by decide +kernel
theorem dX9_drop_15 : decode cX9_drop 15 = .ok (.iaload, 1) := by decide +kernel
theorem dX9_drop_16 : decode cX9_drop 16 = .ok (.iconst 1, 1) := by decide +kernel
theorem dX9_drop_17 : decode cX9_drop 17 = .ok (.if_icmp .eq 16, 3) := by decide +kernel
theorem dX9_drop_20 : decode cX9_drop 20 = .ok (.aload_n 0, 1) := by decide +kernel
theorem dX9_drop_21 : decode cX9_drop 21 = .ok (.getfield 17, 3) := by decide +kernel
theorem dX9_drop_24 : decode cX9_drop 24 = .ok (.iload_n 1, 1) := by decide +kernel
theorem dX9_drop_25 : decode cX9_drop 25 = .ok (.iaload, 1) := by decide +kernel
theorem dX9_drop_26 : decode cX9_drop 26 = .ok (.iconst 2, 1) := by decide +kernel
theorem dX9_drop_27 : decode cX9_drop 27 = .ok (.if_icmp .eq 6, 3) := by decide +kernel
theorem dX9_drop_30 : decode cX9_drop 30 = .ok (.bipush (-2), 2) := by decide +kernel
theorem dX9_drop_32 : decode cX9_drop 32 = .ok (.ireturn, 1) := by decide +kernel
theorem dX9_drop_33 : decode cX9_drop 33 = .ok (.aload_n 0, 1) := by decide +kernel
theorem dX9_drop_34 : decode cX9_drop 34 = .ok (.iload_n 1, 1) := by decide +kernel
theorem dX9_drop_35 : decode cX9_drop 35 = .ok (.lload_n 2, 1) := by decide +kernel
theorem dX9_drop_36 : decode cX9_drop 36 = .ok (.invokevirtual 178, 3) := by decide +kernel
theorem dX9_drop_39 : decode cX9_drop 39 = .ok (.ifCond .ne 6, 3) := by decide +kernel
theorem dX9_drop_42 : decode cX9_drop 42 = .ok (.bipush (-5), 2) := by decide +kernel
theorem dX9_drop_44 : decode cX9_drop 44 = .ok (.ireturn, 1) := by decide +kernel
theorem dX9_drop_45 : decode cX9_drop 45 = .ok (.lload_n 2, 1) := by decide +kernel
theorem dX9_drop_46 : decode cX9_drop 46 = .ok (.aload_n 0, 1) := by decide +kernel
theorem dX9_drop_47 : decode cX9_drop 47 = .ok (.getfield 26, 3) := by decide +kernel
theorem dX9_drop_50 : decode cX9_drop 50 = .ok (.iload_n 1, 1) := by decide +kernel
theorem dX9_drop_51 : decode cX9_drop 51 = .ok (.iaload, 1) := by decide +kernel
theorem dX9_drop_52 : decode cX9_drop 52 = .ok (.invokestatic 108, 3) := by decide +kernel
theorem dX9_drop_55 : decode cX9_drop 55 = .ok (.lstore 4, 2) := by decide +kernel
theorem dX9_drop_57 : decode cX9_drop 57 = .ok (.aload_n 0, 1) := by decide +kernel
theorem dX9_drop_58 : decode cX9_drop 58 = .ok (.getfield 17, 3) := by decide +kernel
theorem dX9_drop_61 : decode cX9_drop 61 = .ok (.iload_n 1, 1) := by decide +kernel
theorem dX9_drop_62 : decode cX9_drop 62 = .ok (.iaload, 1) := by decide +kernel
theorem dX9_drop_63 : decode cX9_drop 63 = .ok (.iconst 1, 1) := by decide +kernel
theorem dX9_drop_64 : decode cX9_drop 64 = .ok (.if_icmp .ne 95, 3) := by decide +kernel
theorem dX9_drop_67 : decode cX9_drop 67 = .ok (.iconst 0, 1) := by decide +kernel
theorem dX9_drop_68 : decode cX9_drop 68 = .ok (.istore 6, 2) := by decide +kernel
theorem dX9_drop_70 : decode cX9_drop 70 = .ok (.iload 6, 2) := by decide +kernel
theorem dX9_drop_72 : decode cX9_drop 72 = .ok (.aload_n 0, 1) := by decide +kernel
theorem dX9_drop_73 : decode cX9_drop 73 = .ok (.getfield 23, 3) := by decide +kernel
theorem dX9_drop_76 : decode cX9_drop 76 = .ok (.iload_n 1, 1) := by decide +kernel
theorem dX9_drop_77 : decode cX9_drop 77 = .ok (.iaload, 1) := by decide +kernel
theorem dX9_drop_78 : decode cX9_drop 78 = .ok (.if_icmp .ge 78, 3) := by decide +kernel
theorem dX9_drop_81 : decode cX9_drop 81 = .ok (.iload_n 1, 1) := by decide +kernel
theorem dX9_drop_82 : decode cX9_drop 82 = .ok (.sipush 4096, 3) := by decide +kernel
theorem dX9_drop_85 : decode cX9_drop 85 = .ok (.imul, 1) := by decide +kernel
theorem dX9_drop_86 : decode cX9_drop 86 = .ok (.lload 4, 2) := by decide +kernel
theorem dX9_drop_88 : decode cX9_drop 88 = .ok (.iload 6, 2) := by decide +kernel
theorem dX9_drop_90 : decode cX9_drop 90 = .ok (.aload_n 0, 1) := by decide +kernel
theorem dX9_drop_91 : decode cX9_drop 91 = .ok (.getfield 20, 3) := by decide +kernel
theorem dX9_drop_94 : decode cX9_drop 94 = .ok (.iload_n 1, 1) := by decide +kernel
theorem dX9_drop_95 : decode cX9_drop 95 = .ok (.iaload, 1) := by decide +kernel
theorem dX9_drop_96 : decode cX9_drop 96 = .ok (.invokestatic 124, 3) := by decide +kernel
theorem dX9_drop_99 : decode cX9_drop 99 = .ok (.iadd, 1) := by decide +kernel
theorem dX9_drop_100 : decode cX9_drop 100 = .ok (.istore 7, 2) := by decide +kernel
theorem dX9_drop_102 : decode cX9_drop 102 = .ok (.aload_n 0, 1) := by decide +kernel
theorem dX9_drop_103 : decode cX9_drop 103 = .ok (.getfield 36, 3) := by decide +kernel
theorem dX9_drop_106 : decode cX9_drop 106 = .ok (.iload 7, 2) := by decide +kernel
theorem dX9_drop_108 : decode cX9_drop 108 = .ok (.aload_n 0, 1) := by decide +kernel
theorem dX9_drop_109 : decode cX9_drop 109 = .ok (.getfield 36, 3) := by decide +kernel
theorem dX9_drop_112 : decode cX9_drop 112 = .ok (.iload 7, 2) := by decide +kernel
theorem dX9_drop_114 : decode cX9_drop 114 = .ok (.iaload, 1) := by decide +kernel
theorem dX9_drop_115 : decode cX9_drop 115 = .ok (.bipush 15, 2) := by decide +kernel
theorem dX9_drop_117 : decode cX9_drop 117 = .ok (.if_icmp .eq 13, 3) := by decide +kernel
theorem dX9_drop_120 : decode cX9_drop 120 = .ok (.aload_n 0, 1) := by decide +kernel
theorem dX9_drop_121 : decode cX9_drop 121 = .ok (.getfield 36, 3) := by decide +kernel
theorem dX9_drop_124 : decode cX9_drop 124 = .ok (.iload 7, 2) := by decide +kernel
theorem dX9_drop_126 : decode cX9_drop 126 = .ok (.iaload, 1) := by decide +kernel
theorem dX9_drop_127 : decode cX9_drop 127 = .ok (.ifCond .ne 13, 3) := by decide +kernel
theorem dX9_drop_130 : decode cX9_drop 130 = .ok (.aload_n 0, 1) := by decide +kernel
theorem dX9_drop_131 : decode cX9_drop 131 = .ok (.getfield 36, 3) := by decide +kernel
theorem dX9_drop_134 : decode cX9_drop 134 = .ok (.iload 7, 2) := by decide +kernel
theorem dX9_drop_136 : decode cX9_drop 136 = .ok (.iaload, 1) := by decide +kernel
theorem dX9_drop_137 : decode cX9_drop 137 = .ok (.goto 12, 3) := by decide +kernel
theorem dX9_drop_140 : decode cX9_drop 140 = .ok (.aload_n 0, 1) := by decide +kernel
theorem dX9_drop_141 : decode cX9_drop 141 = .ok (.getfield 36, 3) := by decide +kernel
theorem dX9_drop_144 : decode cX9_drop 144 = .ok (.iload 7, 2) := by decide +kernel
theorem dX9_drop_146 : decode cX9_drop 146 = .ok (.iaload, 1) := by decide +kernel
theorem dX9_drop_147 : decode cX9_drop 147 = .ok (.iconst 1, 1) := by decide +kernel
theorem dX9_drop_148 : decode cX9_drop 148 = .ok (.isub, 1) := by decide +kernel
theorem dX9_drop_149 : decode cX9_drop 149 = .ok (.iastore, 1) := by decide +kernel
theorem dX9_drop_150 : decode cX9_drop 150 = .ok (.iinc 6 1, 3) := by decide +kernel
theorem dX9_drop_153 : decode cX9_drop 153 = .ok (.goto (-83), 3) := by decide +kernel
theorem dX9_drop_156 : decode cX9_drop 156 = .ok (.goto 77, 3) := by decide +kernel
theorem dX9_drop_159 : decode cX9_drop 159 = .ok (.iconst 0, 1) := by decide +kernel
theorem dX9_drop_160 : decode cX9_drop 160 = .ok (.istore 6, 2) := by decide +kernel
theorem dX9_drop_162 : decode cX9_drop 162 = .ok (.aload_n 0, 1) := by decide +kernel
theorem dX9_drop_163 : decode cX9_drop 163 = .ok (.getfield 36, 3) := by decide +kernel
theorem dX9_drop_166 : decode cX9_drop 166 = .ok (.iload_n 1, 1) := by decide +kernel
theorem dX9_drop_167 : decode cX9_drop 167 = .ok (.sipush 4096, 3) := by decide +kernel
theorem dX9_drop_170 : decode cX9_drop 170 = .ok (.imul, 1) := by decide +kernel
theorem dX9_drop_171 : decode cX9_drop 171 = .ok (.iconst 4, 1) := by decide +kernel
theorem dX9_drop_172 : decode cX9_drop 172 = .ok (.aload_n 0, 1) := by decide +kernel
theorem dX9_drop_173 : decode cX9_drop 173 = .ok (.iload_n 1, 1) := by decide +kernel
theorem dX9_drop_174 : decode cX9_drop 174 = .ok (.lload_n 2, 1) := by decide +kernel
theorem dX9_drop_175 : decode cX9_drop 175 = .ok (.iload 6, 2) := by decide +kernel
theorem dX9_drop_177 : decode cX9_drop 177 = .ok (.iconst 4, 1) := by decide +kernel
theorem dX9_drop_178 : decode cX9_drop 178 = .ok (.idiv, 1) := by decide +kernel
theorem dX9_drop_179 : decode cX9_drop 179 = .ok (.invokevirtual 142, 3) := by decide +kernel
theorem dX9_drop_182 : decode cX9_drop 182 = .ok (.imul, 1) := by decide +kernel
theorem dX9_drop_183 : decode cX9_drop 183 = .ok (.iadd, 1) := by decide +kernel
theorem dX9_drop_184 : decode cX9_drop 184 = .ok (.iload 6, 2) := by decide +kernel
theorem dX9_drop_186 : decode cX9_drop 186 = .ok (.iconst 4, 1) := by decide +kernel
theorem dX9_drop_187 : decode cX9_drop 187 = .ok (.irem, 1) := by decide +kernel
theorem dX9_drop_188 : decode cX9_drop 188 = .ok (.iadd, 1) := by decide +kernel
theorem dX9_drop_189 : decode cX9_drop 189 = .ok (.iaload, 1) := by decide +kernel
theorem dX9_drop_190 : decode cX9_drop 190 = .ok (.lload 4, 2) := by decide +kernel
theorem dX9_drop_192 : decode cX9_drop 192 = .ok (.invokestatic 112, 3) := by decide +kernel
theorem dX9_drop_195 : decode cX9_drop 195 = .ok (.if_icmp .eq 9, 3) := by decide +kernel
theorem dX9_drop_198 : decode cX9_drop 198 = .ok (.iinc 6 1, 3) := by decide +kernel
theorem dX9_drop_201 : decode cX9_drop 201 = .ok (.goto (-39), 3) := by decide +kernel
theorem dX9_drop_204 : decode cX9_drop 204 = .ok (.aload_n 0, 1) := by decide +kernel
theorem dX9_drop_205 : decode cX9_drop 205 = .ok (.getfield 36, 3) := by decide +kernel
theorem dX9_drop_208 : decode cX9_drop 208 = .ok (.iload_n 1, 1) := by decide +kernel
theorem dX9_drop_209 : decode cX9_drop 209 = .ok (.sipush 4096, 3) := by decide +kernel
theorem dX9_drop_212 : decode cX9_drop 212 = .ok (.imul, 1) := by decide +kernel
theorem dX9_drop_213 : decode cX9_drop 213 = .ok (.iconst 4, 1) := by decide +kernel
theorem dX9_drop_214 : decode cX9_drop 214 = .ok (.aload_n 0, 1) := by decide +kernel
theorem dX9_drop_215 : decode cX9_drop 215 = .ok (.iload_n 1, 1) := by decide +kernel
theorem dX9_drop_216 : decode cX9_drop 216 = .ok (.lload_n 2, 1) := by decide +kernel
theorem dX9_drop_217 : decode cX9_drop 217 = .ok (.iload 6, 2) := by decide +kernel
theorem dX9_drop_219 : decode cX9_drop 219 = .ok (.iconst 4, 1) := by decide +kernel
theorem dX9_drop_220 : decode cX9_drop 220 = .ok (.idiv, 1) := by decide +kernel
theorem dX9_drop_221 : decode cX9_drop 221 = .ok (.invokevirtual 142, 3) := by decide +kernel
theorem dX9_drop_224 : decode cX9_drop 224 = .ok (.imul, 1) := by decide +kernel
theorem dX9_drop_225 : decode cX9_drop 225 = .ok (.iadd, 1) := by decide +kernel
theorem dX9_drop_226 : decode cX9_drop 226 = .ok (.iload 6, 2) := by decide +kernel
theorem dX9_drop_228 : decode cX9_drop 228 = .ok (.iconst 4, 1) := by decide +kernel
theorem dX9_drop_229 : decode cX9_drop 229 = .ok (.irem, 1) := by decide +kernel
theorem dX9_drop_230 : decode cX9_drop 230 = .ok (.iadd, 1) := by decide +kernel
theorem dX9_drop_231 : decode cX9_drop 231 = .ok (.iconst 0, 1) := by decide +kernel
theorem dX9_drop_232 : decode cX9_drop 232 = .ok (.iastore, 1) := by decide +kernel
theorem dX9_drop_233 : decode cX9_drop 233 = .ok (.iconst 0, 1) := by decide +kernel
theorem dX9_drop_234 : decode cX9_drop 234 = .ok (.istore 6, 2) := by decide +kernel
theorem dX9_drop_236 : decode cX9_drop 236 = .ok (.iload 6, 2) := by decide +kernel
theorem dX9_drop_238 : decode cX9_drop 238 = .ok (.aload_n 0, 1) := by decide +kernel
theorem dX9_drop_239 : decode cX9_drop 239 = .ok (.getfield 32, 3) := by decide +kernel
theorem dX9_drop_242 : decode cX9_drop 242 = .ok (.iload_n 1, 1) := by decide +kernel
theorem dX9_drop_243 : decode cX9_drop 243 = .ok (.iaload, 1) := by decide +kernel
theorem dX9_drop_244 : decode cX9_drop 244 = .ok (.if_icmp .ge 27, 3) := by decide +kernel
theorem dX9_drop_247 : decode cX9_drop 247 = .ok (.aload_n 0, 1) := by decide +kernel
theorem dX9_drop_248 : decode cX9_drop 248 = .ok (.getfield 29, 3) := by decide +kernel
theorem dX9_drop_251 : decode cX9_drop 251 = .ok (.iload_n 1, 1) := by decide +kernel
theorem dX9_drop_252 : decode cX9_drop 252 = .ok (.sipush 1000, 3) := by decide +kernel
theorem dX9_drop_255 : decode cX9_drop 255 = .ok (.imul, 1) := by decide +kernel
theorem dX9_drop_256 : decode cX9_drop 256 = .ok (.iload 6, 2) := by decide +kernel
theorem dX9_drop_258 : decode cX9_drop 258 = .ok (.iadd, 1) := by decide +kernel
theorem dX9_drop_259 : decode cX9_drop 259 = .ok (.laload, 1) := by decide +kernel
theorem dX9_drop_260 : decode cX9_drop 260 = .ok (.lload_n 2, 1) := by decide +kernel
theorem dX9_drop_261 : decode cX9_drop 261 = .ok (.lcmp, 1) := by decide +kernel
theorem dX9_drop_262 : decode cX9_drop 262 = .ok (.ifCond .eq 9, 3) := by decide +kernel
theorem dX9_drop_265 : decode cX9_drop 265 = .ok (.iinc 6 1, 3) := by decide +kernel
theorem dX9_drop_268 : decode cX9_drop 268 = .ok (.goto (-32), 3) := by decide +kernel
theorem dX9_drop_271 : decode cX9_drop 271 = .ok (.iload 6, 2) := by decide +kernel
theorem dX9_drop_273 : decode cX9_drop 273 = .ok (.aload_n 0, 1) := by decide +kernel
theorem dX9_drop_274 : decode cX9_drop 274 = .ok (.getfield 32, 3) := by decide +kernel
theorem dX9_drop_277 : decode cX9_drop 277 = .ok (.iload_n 1, 1) := by decide +kernel
theorem dX9_drop_278 : decode cX9_drop 278 = .ok (.iaload, 1) := by decide +kernel
theorem dX9_drop_279 : decode cX9_drop 279 = .ok (.if_icmp .ge 43, 3) := by decide +kernel
theorem dX9_drop_282 : decode cX9_drop 282 = .ok (.aload_n 0, 1) := by decide +kernel
theorem dX9_drop_283 : decode cX9_drop 283 = .ok (.getfield 32, 3) := by decide +kernel
theorem dX9_drop_286 : decode cX9_drop 286 = .ok (.iload_n 1, 1) := by decide +kernel
theorem dX9_drop_287 : decode cX9_drop 287 = .ok (.dup2, 1) := by decide +kernel
theorem dX9_drop_288 : decode cX9_drop 288 = .ok (.iaload, 1) := by decide +kernel
theorem dX9_drop_289 : decode cX9_drop 289 = .ok (.iconst 1, 1) := by decide +kernel
theorem dX9_drop_290 : decode cX9_drop 290 = .ok (.isub, 1) := by decide +kernel
theorem dX9_drop_291 : decode cX9_drop 291 = .ok (.iastore, 1) := by decide +kernel
theorem dX9_drop_292 : decode cX9_drop 292 = .ok (.aload_n 0, 1) := by decide +kernel
theorem dX9_drop_293 : decode cX9_drop 293 = .ok (.getfield 29, 3) := by decide +kernel
theorem dX9_drop_296 : decode cX9_drop 296 = .ok (.iload_n 1, 1) := by decide +kernel
theorem dX9_drop_297 : decode cX9_drop 297 = .ok (.sipush 1000, 3) := by decide +kernel
theorem dX9_drop_300 : decode cX9_drop 300 = .ok (.imul, 1) := by decide +kernel
theorem dX9_drop_301 : decode cX9_drop 301 = .ok (.iload 6, 2) := by decide +kernel
theorem dX9_drop_303 : decode cX9_drop 303 = .ok (.iadd, 1) := by decide +kernel
theorem dX9_drop_304 : decode cX9_drop 304 = .ok (.aload_n 0, 1) := by decide +kernel
theorem dX9_drop_305 : decode cX9_drop 305 = .ok (.getfield 29, 3) := by decide +kernel
theorem dX9_drop_308 : decode cX9_drop 308 = .ok (.iload_n 1, 1) := by decide +kernel
theorem dX9_drop_309 : decode cX9_drop 309 = .ok (.sipush 1000, 3) := by decide +kernel
theorem dX9_drop_312 : decode cX9_drop 312 = .ok (.imul, 1) := by decide +kernel
theorem dX9_drop_313 : decode cX9_drop 313 = .ok (.aload_n 0, 1) := by decide +kernel
theorem dX9_drop_314 : decode cX9_drop 314 = .ok (.getfield 32, 3) := by decide +kernel
theorem dX9_drop_317 : decode cX9_drop 317 = .ok (.iload_n 1, 1) := by decide +kernel
theorem dX9_drop_318 : decode cX9_drop 318 = .ok (.iaload, 1) := by decide +kernel
theorem dX9_drop_319 : decode cX9_drop 319 = .ok (.iadd, 1) := by decide +kernel
theorem dX9_drop_320 : decode cX9_drop 320 = .ok (.laload, 1) := by decide +kernel
theorem dX9_drop_321 : decode cX9_drop 321 = .ok (.lastore, 1) := by decide +kernel
theorem dX9_drop_322 : decode cX9_drop 322 = .ok (.aload_n 0, 1) := by decide +kernel
theorem dX9_drop_323 : decode cX9_drop 323 = .ok (.getfield 32, 3) := by decide +kernel
theorem dX9_drop_326 : decode cX9_drop 326 = .ok (.iload_n 1, 1) := by decide +kernel
theorem dX9_drop_327 : decode cX9_drop 327 = .ok (.iaload, 1) := by decide +kernel
theorem dX9_drop_328 : decode cX9_drop 328 = .ok (.ireturn, 1) := by decide +kernel
set_option maxRecDepth 20000 in
theorem gu_wsX9_lets_1 : ∀ w ∈ wsX9_lets_r1, w ∈ wsX9_lets := fun _ h => List.mem_cons_of_mem _ (List.mem_append_left _ (List.mem_append_left _ h))
set_option maxRecDepth 20000 in
theorem gu_wsX9_lets_4 : ∀ w ∈ wsX90, w ∈ wsX9_lets := fun _ h => List.mem_cons_of_mem _ (List.mem_append_right _ h)
set_option maxRecDepth 20000 in
theorem ggX9_lets_X9_is : GoodIn wsX9_lets wsX9_is := goodIn_sub (gi_c (gu_wsX9_lets_1 _ gm_4) (gi_a (gi_c (gu_wsX9_lets_1 _ gm_5) gi_0) (gu_wsX9_lets_4))) (by decide +kernel)
set_option maxRecDepth 20000 in
theorem gX9_lets_X9_is : GoodIn wsX9_lets (wsV RX9 172 RX9 yX9_is wsX9_is) := goodIn_app (goodIn_sub (gi_c (gu_wsX9_lets_1 _ gm_0) (gi_c (gu_wsX9_lets_1 _ gm_1) (gi_c (gu_wsX9_lets_1 _ gm_2) (gi_c (gu_wsX9_lets_1 _ gm_3) gi_0)))) (by decide +kernel)) ggX9_lets_X9_is
set_option maxRecDepth 20000 in
theorem gu_wsX9_lets_2 : ∀ w ∈ wsX9_lets_r2, w ∈ wsX9_lets := fun _ h => List.mem_cons_of_mem _ (List.mem_append_left _ (List.mem_append_right _ (List.mem_append_left _ h)))
set_option maxRecDepth 20000 in
theorem gu_wsX9_lets_3 : ∀ w ∈ wsX9_lets_r3, w ∈ wsX9_lets := fun _ h => List.mem_cons_of_mem _ (List.mem_append_left _ (List.mem_append_right _ (List.mem_append_right _ h)))
set_option maxRecDepth 20000 in
theorem ggX9_lets_X9_letsThrough : GoodIn wsX9_lets wsX9_letsThrough := goodIn_sub (gi_c (gu_wsX9_lets_1 _ gm_9) (gi_a (gi_a (gi_c (gu_wsX9_lets_1 _ gm_10) (gi_c (gu_wsX9_lets_1 _ gm_11) (gi_c (gu_wsX9_lets_1 _ gm_12) (gi_c (gu_wsX9_lets_1 _ gm_13) (gi_c (gu_wsX9_lets_1 _ gm_14) (gi_c (gu_wsX9_lets_1 _ gm_15) (gi_c (gu_wsX9_lets_1 _ gm_16) (gi_c (gu_wsX9_lets_1 _ gm_3) (gi_c (gu_wsX9_lets_1 _ gm_17) (gi_c (gu_wsX9_lets_1 _ gm_18) (gi_c (gu_wsX9_lets_1 _ gm_19) (gi_c (gu_wsX9_lets_1 _ gm_20) (gi_c (gu_wsX9_lets_1 _ gm_21) (gi_c (gu_wsX9_lets_1 _ gm_22) (gi_c (gu_wsX9_lets_1 _ gm_23) (gi_c (gu_wsX9_lets_2 _ gm_0) (gi_c (gu_wsX9_lets_2 _ gm_1) (gi_c (gu_wsX9_lets_2 _ gm_2) (gi_c (gu_wsX9_lets_2 _ gm_3) (gi_c (gu_wsX9_lets_2 _ gm_4) (gi_c (gu_wsX9_lets_2 _ gm_5) (gi_c (gu_wsX9_lets_2 _ gm_6) (gi_c (gu_wsX9_lets_2 _ gm_7) (gi_c (gu_wsX9_lets_2 _ gm_8) gi_0)))))))))))))))))))))))) (gi_c (gu_wsX9_lets_2 _ gm_9) (gi_c (gu_wsX9_lets_2 _ gm_10) (gi_c (gu_wsX9_lets_2 _ gm_11) (gi_c (gu_wsX9_lets_2 _ gm_12) (gi_c (gu_wsX9_lets_2 _ gm_13) (gi_c (gu_wsX9_lets_2 _ gm_14) (gi_c (gu_wsX9_lets_2 _ gm_15) (gi_c (gu_wsX9_lets_2 _ gm_16) (gi_c (gu_wsX9_lets_2 _ gm_17) (gi_c (gu_wsX9_lets_2 _ gm_18) (gi_c (gu_wsX9_lets_2 _ gm_19) (gi_c (gu_wsX9_lets_2 _ gm_20) (gi_c (gu_wsX9_lets_2 _ gm_21) (gi_c (gu_wsX9_lets_2 _ gm_22) (gi_c (gu_wsX9_lets_2 _ gm_23) (gi_c (gu_wsX9_lets_3 _ gm_0) (gi_c (gu_wsX9_lets_3 _ gm_1) (gi_c (gu_wsX9_lets_3 _ gm_2) (gi_c (gu_wsX9_lets_3 _ gm_3) (gi_c (gu_wsX9_lets_3 _ gm_4) (gi_c (gu_wsX9_lets_3 _ gm_5) (gi_c (gu_wsX9_lets_3 _ gm_6) (gi_c (gu_wsX9_lets_3 _ gm_7) (gi_c (gu_wsX9_lets_3 _ gm_8) gi_0))))))))))))))))))))))))) (gu_wsX9_lets_4))) (by decide +kernel)
set_option maxRecDepth 20000 in
theorem gX9_lets_X9_letsThrough : GoodIn wsX9_lets (wsV RX9 178 RX9 yX9_letsThrough wsX9_letsThrough) := goodIn_app (goodIn_sub (gi_c (gu_wsX9_lets_1 _ gm_6) (gi_c (gu_wsX9_lets_1 _ gm_7) (gi_c (gu_wsX9_lets_1 _ gm_8) (gi_c (gu_wsX9_lets_1 _ gm_3) gi_0)))) (by decide +kernel)) ggX9_lets_X9_letsThrough
theorem dX9_lets_0 : decode cX9_lets 0 = .ok (.aload_n 0, 1) := by decide +kernel
theorem dX9_lets_1 : decode cX9_lets 1 = .ok (.iload_n 1, 1) := by decide +kernel
theorem dX9_lets_2 : decode cX9_lets 2 = .ok (.invokevirtual 172, 3) := by decide +kernel
theorem dX9_lets_5 : decode cX9_lets 5 = .ok (.ifCond .eq 20, 3) := by decide +kernel
theorem dX9_lets_8 : decode cX9_lets 8 = .ok (.aload_n 0, 1) := by decide +kernel
theorem dX9_lets_9 : decode cX9_lets 9 = .ok (.iload_n 1, 1) := by decide +kernel
theorem dX9_lets_10 : decode cX9_lets 10 = .ok (.lload_n 2, 1) := by decide +kernel
theorem dX9_lets_11 : decode cX9_lets 11 = .ok (.invokevirtual 178, 3) := by decide +kernel
theorem dX9_lets_14 : decode cX9_lets 14 = .ok (.ifCond .eq 7, 3) := by decide +kernel
theorem dX9_lets_17 : decode cX9_lets 17 = .ok (.iconst 1, 1) := by decide +kernel
theorem dX9_lets_18 : decode cX9_lets 18 = .ok (.goto 8, 3) := by decide +kernel
theorem dX9_lets_21 : decode cX9_lets 21 = .ok (.iconst 0, 1) := by decide +kernel
theorem dX9_lets_22 : decode cX9_lets 22 = .ok (.goto 4, 3) := by decide +kernel
theorem dX9_lets_25 : decode cX9_lets 25 = .ok (.iconst (-1), 1) := by decide +kernel
theorem dX9_lets_26 : decode cX9_lets 26 = .ok (.ireturn, 1) := by decide +kernel
set_option maxRecDepth 20000 in
theorem gu_wsX9_falses_1 : ∀ w ∈ wsX9_falses_r1, w ∈ wsX9_falses := fun _ h => List.mem_cons_of_mem _ (List.mem_append_left _ (List.mem_append_left _ h))
set_option maxRecDepth 20000 in
theorem gu_wsX9_falses_4 : ∀ w ∈ wsX90, w ∈ wsX9_falses := fun _ h => List.mem_cons_of_mem _ (List.mem_append_right _ h)
set_option maxRecDepth 20000 in
theorem ggX9_falses_X9_is : GoodIn wsX9_falses wsX9_is := goodIn_sub (gi_c (gu_wsX9_falses_1 _ gm_6) (gi_a (gi_c (gu_wsX9_falses_1 _ gm_7) gi_0) (gu_wsX9_falses_4))) (by decide +kernel)
set_option maxRecDepth 20000 in
theorem gX9_falses_X9_is : GoodIn wsX9_falses (wsV RX9 172 RX9 yX9_is wsX9_is) := goodIn_app (goodIn_sub (gi_c (gu_wsX9_falses_1 _ gm_2) (gi_c (gu_wsX9_falses_1 _ gm_3) (gi_c (gu_wsX9_falses_1 _ gm_4) (gi_c (gu_wsX9_falses_1 _ gm_5) gi_0)))) (by decide +kernel)) ggX9_falses_X9_is
set_option maxRecDepth 20000 in
theorem ggX9_falses_X9_isWorld : GoodIn wsX9_falses wsX9_isWorld := goodIn_sub (gi_c (gu_wsX9_falses_1 _ gm_10) (gi_0)) (by decide +kernel)
set_option maxRecDepth 20000 in
theorem gX9_falses_X9_isWorld : GoodIn wsX9_falses (va_wsS RX9 92 yX9_isWorld wsX9_isWorld) := goodIn_app (goodIn_sub (gi_c (gu_wsX9_falses_1 _ gm_8) (gi_c (gu_wsX9_falses_1 _ gm_9) (gi_c (gu_wsX9_falses_1 _ gm_5) gi_0))) (by decide +kernel)) ggX9_falses_X9_isWorld
set_option maxRecDepth 20000 in
theorem gu_wsX9_falses_2 : ∀ w ∈ wsX9_falses_r2, w ∈ wsX9_falses := fun _ h => List.mem_cons_of_mem _ (List.mem_append_left _ (List.mem_append_right _ (List.mem_append_left _ h)))
set_option maxRecDepth 20000 in
theorem gu_wsX9_falses_3 : ∀ w ∈ wsX9_falses_r3, w ∈ wsX9_falses := fun _ h => List.mem_cons_of_mem _ (List.mem_append_left _ (List.mem_append_right _ (List.mem_append_right _ h)))
set_option maxRecDepth 20000 in
theorem ggX9_falses_X9_letsThrough : GoodIn wsX9_falses wsX9_letsThrough := goodIn_sub (gi_c (gu_wsX9_falses_1 _ gm_14) (gi_a (gi_a (gi_c (gu_wsX9_falses_1 _ gm_15) (gi_c (gu_wsX9_falses_1 _ gm_16) (gi_c (gu_wsX9_falses_1 _ gm_17) (gi_c (gu_wsX9_falses_1 _ gm_18) (gi_c (gu_wsX9_falses_1 _ gm_19) (gi_c (gu_wsX9_falses_1 _ gm_20) (gi_c (gu_wsX9_falses_1 _ gm_21) (gi_c (gu_wsX9_falses_1 _ gm_5) (gi_c (gu_wsX9_falses_1 _ gm_22) (gi_c (gu_wsX9_falses_1 _ gm_23) (gi_c (gu_wsX9_falses_2 _ gm_0) (gi_c (gu_wsX9_falses_2 _ gm_1) (gi_c (gu_wsX9_falses_2 _ gm_2) (gi_c (gu_wsX9_falses_2 _ gm_3) (gi_c (gu_wsX9_falses_2 _ gm_4) (gi_c (gu_wsX9_falses_2 _ gm_5) (gi_c (gu_wsX9_falses_2 _ gm_6) (gi_c (gu_wsX9_falses_2 _ gm_7) (gi_c (gu_wsX9_falses_2 _ gm_8) (gi_c (gu_wsX9_falses_2 _ gm_9) (gi_c (gu_wsX9_falses_2 _ gm_10) (gi_c (gu_wsX9_falses_2 _ gm_11) (gi_c (gu_wsX9_falses_2 _ gm_12) (gi_c (gu_wsX9_falses_2 _ gm_13) gi_0)))))))))))))))))))))))) (gi_c (gu_wsX9_falses_2 _ gm_14) (gi_c (gu_wsX9_falses_2 _ gm_15) (gi_c (gu_wsX9_falses_2 _ gm_16) (gi_c (gu_wsX9_falses_2 _ gm_17) (gi_c (gu_wsX9_falses_2 _ gm_18) (gi_c (gu_wsX9_falses_2 _ gm_19) (gi_c (gu_wsX9_falses_2 _ gm_20) (gi_c (gu_wsX9_falses_2 _ gm_21) (gi_c (gu_wsX9_falses_2 _ gm_22) (gi_c (gu_wsX9_falses_2 _ gm_23) (gi_c (gu_wsX9_falses_3 _ gm_0) (gi_c (gu_wsX9_falses_3 _ gm_1) (gi_c (gu_wsX9_falses_3 _ gm_2) (gi_c (gu_wsX9_falses_3 _ gm_3) (gi_c (gu_wsX9_falses_3 _ gm_4) (gi_c (gu_wsX9_falses_3 _ gm_5) (gi_c (gu_wsX9_falses_3 _ gm_6) (gi_c (gu_wsX9_falses_3 _ gm_7) (gi_c (gu_wsX9_falses_3 _ gm_8) (gi_c (gu_wsX9_falses_3 _ gm_9) (gi_c (gu_wsX9_falses_3 _ gm_10) (gi_c (gu_wsX9_falses_3 _ gm_11) (gi_c (gu_wsX9_falses_3 _ gm_12) (gi_c (gu_wsX9_falses_3 _ gm_13) gi_0))))))))))))))))))))))))) (gu_wsX9_falses_4))) (by decide +kernel)
set_option maxRecDepth 20000 in
theorem gX9_falses_X9_letsThrough : GoodIn wsX9_falses (wsV RX9 178 RX9 yX9_letsThrough wsX9_letsThrough) := goodIn_app (goodIn_sub (gi_c (gu_wsX9_falses_1 _ gm_11) (gi_c (gu_wsX9_falses_1 _ gm_12) (gi_c (gu_wsX9_falses_1 _ gm_13) (gi_c (gu_wsX9_falses_1 _ gm_5) gi_0)))) (by decide +kernel)) ggX9_falses_X9_letsThrough
set_option maxRecDepth 20000 in
theorem ggX9_falses_X9_timesIn : GoodIn wsX9_falses wsX9_timesIn := goodIn_sub (gi_c (gu_wsX9_falses_3 _ gm_17) (gi_a (gi_c (gu_wsX9_falses_3 _ gm_18) (gi_c (gu_wsX9_falses_3 _ gm_19) gi_0)) (gu_wsX9_falses_4))) (by decide +kernel)
set_option maxRecDepth 20000 in
theorem gX9_falses_X9_timesIn : GoodIn wsX9_falses (wsV RX9 181 RX9 yX9_timesIn wsX9_timesIn) := goodIn_app (goodIn_sub (gi_c (gu_wsX9_falses_3 _ gm_14) (gi_c (gu_wsX9_falses_3 _ gm_15) (gi_c (gu_wsX9_falses_3 _ gm_16) (gi_c (gu_wsX9_falses_1 _ gm_5) gi_0)))) (by decide +kernel)) ggX9_falses_X9_timesIn
theorem dX9_falses_0 : decode cX9_falses 0 = .ok (.aload_n 0, 1) := by decide +kernel
theorem dX9_falses_1 : decode cX9_falses 1 = .ok (.iload_n 1, 1) := by decide +kernel
theorem dX9_falses_2 : decode cX9_falses 2 = .ok (.invokevirtual 172, 3) := by decide +kernel
theorem dX9_falses_5 : decode cX9_falses 5 = .ok (.ifCond .eq 10, 3) := by decide +kernel
theorem dX9_falses_8 : decode cX9_falses 8 = .ok (.iload_n 2, 1) := by decide +kernel
theorem dX9_falses_9 : decode cX9_falses 9 = .ok (.invokestatic 92, 3) := by decide +kernel
theorem dX9_falses_12 : decode cX9_falses 12 = .ok (.ifCond .ne 5, 3) := by decide +kernel
theorem dX9_falses_15 : decode cX9_falses 15 = .ok (.iconst (-1), 1) := by decide +kernel
theorem dX9_falses_16 : decode cX9_falses 16 = .ok (.ireturn, 1) := by decide +kernel
theorem dX9_falses_17 : decode cX9_falses 17 = .ok (.iconst 0, 1) := by decide +kernel
theorem dX9_falses_18 : decode cX9_falses 18 = .ok (.istore_n 3, 1) := by decide +kernel
theorem dX9_falses_19 : decode cX9_falses 19 = .ok (.iconst 0, 1) := by decide +kernel
theorem dX9_falses_20 : decode cX9_falses 20 = .ok (.istore 4, 2) := by decide +kernel
theorem dX9_falses_22 : decode cX9_falses 22 = .ok (.iload 4, 2) := by decide +kernel
theorem dX9_falses_24 : decode cX9_falses 24 = .ok (.aload_n 0, 1) := by decide +kernel
theorem dX9_falses_25 : decode cX9_falses 25 = .ok (.getfield 13, 3) := by decide +kernel
theorem dX9_falses_28 : decode cX9_falses 28 = .ok (.iload_n 2, 1) := by decide +kernel
theorem dX9_falses_29 : decode cX9_falses 29 = .ok (.iaload, 1) := by decide +kernel
theorem dX9_falses_30 : decode cX9_falses 30 = .ok (.if_icmp .ge 52, 3) := by decide +kernel
theorem dX9_falses_33 : decode cX9_falses 33 = .ok (.aload_n 0, 1) := by decide +kernel
theorem dX9_falses_34 : decode cX9_falses 34 = .ok (.getfield 9, 3) := by decide +kernel
theorem dX9_falses_37 : decode cX9_falses 37 = .ok (.iload_n 2, 1) := by decide +kernel
theorem dX9_falses_38 : decode cX9_falses 38 = .ok (.sipush 1000, 3) := by decide +kernel
theorem dX9_falses_41 : decode cX9_falses 41 = .ok (.imul, 1) := by decide +kernel
theorem dX9_falses_42 : decode cX9_falses 42 = .ok (.iload 4, 2) := by decide +kernel
theorem dX9_falses_44 : decode cX9_falses 44 = .ok (.iadd, 1) := by decide +kernel
theorem dX9_falses_45 : decode cX9_falses 45 = .ok (.laload, 1) := by decide +kernel
theorem dX9_falses_46 : decode cX9_falses 46 = .ok (.lstore 5, 2) := by decide +kernel
theorem dX9_falses_48 : decode cX9_falses 48 = .ok (.iload_n 3, 1) := by decide +kernel
theorem dX9_falses_49 : decode cX9_falses 49 = .ok (.aload_n 0, 1) := by decide +kernel
theorem dX9_falses_50 : decode cX9_falses 50 = .ok (.iload_n 1, 1) := by decide +kernel
theorem dX9_falses_51 : decode cX9_falses 51 = .ok (.lload 5, 2) := by decide +kernel
theorem dX9_falses_53 : decode cX9_falses 53 = .ok (.invokevirtual 178, 3) := by decide +kernel
theorem dX9_falses_56 : decode cX9_falses 56 = .ok (.ifCond .eq 17, 3) := by decide +kernel
theorem dX9_falses_59 : decode cX9_falses 59 = .ok (.aload_n 0, 1) := by decide +kernel
theorem dX9_falses_60 : decode cX9_falses 60 = .ok (.iload_n 1, 1) := by decide +kernel
theorem dX9_falses_61 : decode cX9_falses 61 = .ok (.lload 5, 2) := by decide +kernel
theorem dX9_falses_63 : decode cX9_falses 63 = .ok (.invokevirtual 181, 3) := by decide +kernel
theorem dX9_falses_66 : decode cX9_falses 66 = .ok (.ifCond .ne 7, 3) := by decide +kernel
theorem dX9_falses_69 : decode cX9_falses 69 = .ok (.iconst 1, 1) := by decide +kernel
theorem dX9_falses_70 : decode cX9_falses 70 = .ok (.goto 4, 3) := by decide +kernel
theorem dX9_falses_73 : decode cX9_falses 73 = .ok (.iconst 0, 1) := by decide +kernel
theorem dX9_falses_74 : decode cX9_falses 74 = .ok (.iadd, 1) := by decide +kernel
theorem dX9_falses_75 : decode cX9_falses 75 = .ok (.istore_n 3, 1) := by decide +kernel
theorem dX9_falses_76 : decode cX9_falses 76 = .ok (.iinc 4 1, 3) := by decide +kernel
theorem dX9_falses_79 : decode cX9_falses 79 = .ok (.goto (-57), 3) := by decide +kernel
theorem dX9_falses_82 : decode cX9_falses 82 = .ok (.iload_n 3, 1) := by decide +kernel
theorem dX9_falses_83 : decode cX9_falses 83 = .ok (.ireturn, 1) := by decide +kernel
set_option maxRecDepth 20000 in
theorem gu_wsX9_falseOne_1 : ∀ w ∈ wsX9_falseOne_r1, w ∈ wsX9_falseOne := fun _ h => List.mem_cons_of_mem _ (List.mem_append_left _ (List.mem_append_left _ h))
set_option maxRecDepth 20000 in
theorem gu_wsX9_falseOne_4 : ∀ w ∈ wsX90, w ∈ wsX9_falseOne := fun _ h => List.mem_cons_of_mem _ (List.mem_append_right _ h)
set_option maxRecDepth 20000 in
theorem ggX9_falseOne_X9_is : GoodIn wsX9_falseOne wsX9_is := goodIn_sub (gi_c (gu_wsX9_falseOne_1 _ gm_6) (gi_a (gi_c (gu_wsX9_falseOne_1 _ gm_7) gi_0) (gu_wsX9_falseOne_4))) (by decide +kernel)
set_option maxRecDepth 20000 in
theorem gX9_falseOne_X9_is : GoodIn wsX9_falseOne (wsV RX9 172 RX9 yX9_is wsX9_is) := goodIn_app (goodIn_sub (gi_c (gu_wsX9_falseOne_1 _ gm_2) (gi_c (gu_wsX9_falseOne_1 _ gm_3) (gi_c (gu_wsX9_falseOne_1 _ gm_4) (gi_c (gu_wsX9_falseOne_1 _ gm_5) gi_0)))) (by decide +kernel)) ggX9_falseOne_X9_is
set_option maxRecDepth 20000 in
theorem ggX9_falseOne_X9_isWorld : GoodIn wsX9_falseOne wsX9_isWorld := goodIn_sub (gi_c (gu_wsX9_falseOne_1 _ gm_10) (gi_0)) (by decide +kernel)
set_option maxRecDepth 20000 in
theorem gX9_falseOne_X9_isWorld : GoodIn wsX9_falseOne (va_wsS RX9 92 yX9_isWorld wsX9_isWorld) := goodIn_app (goodIn_sub (gi_c (gu_wsX9_falseOne_1 _ gm_8) (gi_c (gu_wsX9_falseOne_1 _ gm_9) (gi_c (gu_wsX9_falseOne_1 _ gm_5) gi_0))) (by decide +kernel)) ggX9_falseOne_X9_isWorld
set_option maxRecDepth 20000 in
theorem gu_wsX9_falseOne_2 : ∀ w ∈ wsX9_falseOne_r2, w ∈ wsX9_falseOne := fun _ h => List.mem_cons_of_mem _ (List.mem_append_left _ (List.mem_append_right _ (List.mem_append_left _ h)))
set_option maxRecDepth 20000 in
theorem gu_wsX9_falseOne_3 : ∀ w ∈ wsX9_falseOne_r3, w ∈ wsX9_falseOne := fun _ h => List.mem_cons_of_mem _ (List.mem_append_left _ (List.mem_append_right _ (List.mem_append_right _ h)))
set_option maxRecDepth 20000 in
theorem ggX9_falseOne_X9_letsThrough : GoodIn wsX9_falseOne wsX9_letsThrough := goodIn_sub (gi_c (gu_wsX9_falseOne_1 _ gm_14) (gi_a (gi_a (gi_c (gu_wsX9_falseOne_1 _ gm_15) (gi_c (gu_wsX9_falseOne_1 _ gm_16) (gi_c (gu_wsX9_falseOne_1 _ gm_17) (gi_c (gu_wsX9_falseOne_1 _ gm_18) (gi_c (gu_wsX9_falseOne_1 _ gm_19) (gi_c (gu_wsX9_falseOne_1 _ gm_20) (gi_c (gu_wsX9_falseOne_1 _ gm_21) (gi_c (gu_wsX9_falseOne_1 _ gm_5) (gi_c (gu_wsX9_falseOne_1 _ gm_22) (gi_c (gu_wsX9_falseOne_1 _ gm_23) (gi_c (gu_wsX9_falseOne_2 _ gm_0) (gi_c (gu_wsX9_falseOne_2 _ gm_1) (gi_c (gu_wsX9_falseOne_2 _ gm_2) (gi_c (gu_wsX9_falseOne_2 _ gm_3) (gi_c (gu_wsX9_falseOne_2 _ gm_4) (gi_c (gu_wsX9_falseOne_2 _ gm_5) (gi_c (gu_wsX9_falseOne_2 _ gm_6) (gi_c (gu_wsX9_falseOne_2 _ gm_7) (gi_c (gu_wsX9_falseOne_2 _ gm_8) (gi_c (gu_wsX9_falseOne_2 _ gm_9) (gi_c (gu_wsX9_falseOne_2 _ gm_10) (gi_c (gu_wsX9_falseOne_2 _ gm_11) (gi_c (gu_wsX9_falseOne_2 _ gm_12) (gi_c (gu_wsX9_falseOne_2 _ gm_13) gi_0)))))))))))))))))))))))) (gi_c (gu_wsX9_falseOne_2 _ gm_14) (gi_c (gu_wsX9_falseOne_2 _ gm_15) (gi_c (gu_wsX9_falseOne_2 _ gm_16) (gi_c (gu_wsX9_falseOne_2 _ gm_17) (gi_c (gu_wsX9_falseOne_2 _ gm_18) (gi_c (gu_wsX9_falseOne_2 _ gm_19) (gi_c (gu_wsX9_falseOne_2 _ gm_20) (gi_c (gu_wsX9_falseOne_2 _ gm_21) (gi_c (gu_wsX9_falseOne_2 _ gm_22) (gi_c (gu_wsX9_falseOne_2 _ gm_23) (gi_c (gu_wsX9_falseOne_3 _ gm_0) (gi_c (gu_wsX9_falseOne_3 _ gm_1) (gi_c (gu_wsX9_falseOne_3 _ gm_2) (gi_c (gu_wsX9_falseOne_3 _ gm_3) (gi_c (gu_wsX9_falseOne_3 _ gm_4) (gi_c (gu_wsX9_falseOne_3 _ gm_5) (gi_c (gu_wsX9_falseOne_3 _ gm_6) (gi_c (gu_wsX9_falseOne_3 _ gm_7) (gi_c (gu_wsX9_falseOne_3 _ gm_8) (gi_c (gu_wsX9_falseOne_3 _ gm_9) (gi_c (gu_wsX9_falseOne_3 _ gm_10) (gi_c (gu_wsX9_falseOne_3 _ gm_11) (gi_c (gu_wsX9_falseOne_3 _ gm_12) (gi_c (gu_wsX9_falseOne_3 _ gm_13) gi_0))))))))))))))))))))))))) (gu_wsX9_falseOne_4))) (by decide +kernel)
set_option maxRecDepth 20000 in
theorem gX9_falseOne_X9_letsThrough : GoodIn wsX9_falseOne (wsV RX9 178 RX9 yX9_letsThrough wsX9_letsThrough) := goodIn_app (goodIn_sub (gi_c (gu_wsX9_falseOne_1 _ gm_11) (gi_c (gu_wsX9_falseOne_1 _ gm_12) (gi_c (gu_wsX9_falseOne_1 _ gm_13) (gi_c (gu_wsX9_falseOne_1 _ gm_5) gi_0)))) (by decide +kernel)) ggX9_falseOne_X9_letsThrough
set_option maxRecDepth 20000 in
theorem ggX9_falseOne_X9_timesIn : GoodIn wsX9_falseOne wsX9_timesIn := goodIn_sub (gi_c (gu_wsX9_falseOne_3 _ gm_17) (gi_a (gi_c (gu_wsX9_falseOne_3 _ gm_18) (gi_c (gu_wsX9_falseOne_3 _ gm_19) gi_0)) (gu_wsX9_falseOne_4))) (by decide +kernel)
set_option maxRecDepth 20000 in
theorem gX9_falseOne_X9_timesIn : GoodIn wsX9_falseOne (wsV RX9 181 RX9 yX9_timesIn wsX9_timesIn) := goodIn_app (goodIn_sub (gi_c (gu_wsX9_falseOne_3 _ gm_14) (gi_c (gu_wsX9_falseOne_3 _ gm_15) (gi_c (gu_wsX9_falseOne_3 _ gm_16) (gi_c (gu_wsX9_falseOne_1 _ gm_5) gi_0)))) (by decide +kernel)) ggX9_falseOne_X9_timesIn
theorem dX9_falseOne_0 : decode cX9_falseOne 0 = .ok (.aload_n 0, 1) := by decide +kernel
theorem dX9_falseOne_1 : decode cX9_falseOne 1 = .ok (.iload_n 1, 1) := by decide +kernel
theorem dX9_falseOne_2 : decode cX9_falseOne 2 = .ok (.invokevirtual 172, 3) := by decide +kernel
theorem dX9_falseOne_5 : decode cX9_falseOne 5 = .ok (.ifCond .eq 14, 3) := by decide +kernel
theorem dX9_falseOne_8 : decode cX9_falseOne 8 = .ok (.iload_n 2, 1) := by decide +kernel
theorem dX9_falseOne_9 : decode cX9_falseOne 9 = .ok (.invokestatic 92, 3) := by decide +kernel
theorem dX9_falseOne_12 : decode cX9_falseOne 12 = .ok (.ifCond .eq 7, 3) := by decide +kernel
theorem dX9_falseOne_15 : decode cX9_falseOne 15 = .ok (.iload_n 3, 1) := by decide +kernel
theorem dX9_falseOne_16 : decode cX9_falseOne 16 = .ok (.ifCond .ge 5, 3) := by decide +kernel
theorem dX9_falseOne_19 : decode cX9_falseOne 19 = .ok (.lconst 0, 1) := by decide +kernel
theorem dX9_falseOne_20 : decode cX9_falseOne 20 = .ok (.lreturn, 1) := by decide +kernel
theorem dX9_falseOne_21 : decode cX9_falseOne 21 = .ok (.iload_n 3, 1) := by decide +kernel
theorem dX9_falseOne_22 : decode cX9_falseOne 22 = .ok (.istore 4, 2) := by decide +kernel
theorem dX9_falseOne_24 : decode cX9_falseOne 24 = .ok (.iconst 0, 1) := by decide +kernel
theorem dX9_falseOne_25 : decode cX9_falseOne 25 = .ok (.istore 5, 2) := by decide +kernel
theorem dX9_falseOne_27 : decode cX9_falseOne 27 = .ok (.iload 5, 2) := by decide +kernel
theorem dX9_falseOne_29 : decode cX9_falseOne 29 = .ok (.aload_n 0, 1) := by decide +kernel
theorem dX9_falseOne_30 : decode cX9_falseOne 30 = .ok (.getfield 13, 3) := by decide +kernel
theorem dX9_falseOne_33 : decode cX9_falseOne 33 = .ok (.iload_n 2, 1) := by decide +kernel
theorem dX9_falseOne_34 : decode cX9_falseOne 34 = .ok (.iaload, 1) := by decide +kernel
theorem dX9_falseOne_35 : decode cX9_falseOne 35 = .ok (.if_icmp .ge 55, 3) := by decide +kernel
theorem dX9_falseOne_38 : decode cX9_falseOne 38 = .ok (.aload_n 0, 1) := by decide +kernel
theorem dX9_falseOne_39 : decode cX9_falseOne 39 = .ok (.getfield 9, 3) := by decide +kernel
theorem dX9_falseOne_42 : decode cX9_falseOne 42 = .ok (.iload_n 2, 1) := by decide +kernel
theorem dX9_falseOne_43 : decode cX9_falseOne 43 = .ok (.sipush 1000, 3) := by decide +kernel
theorem dX9_falseOne_46 : decode cX9_falseOne 46 = .ok (.imul, 1) := by decide +kernel
theorem dX9_falseOne_47 : decode cX9_falseOne 47 = .ok (.iload 5, 2) := by decide +kernel
theorem dX9_falseOne_49 : decode cX9_falseOne 49 = .ok (.iadd, 1) := by decide +kernel
theorem dX9_falseOne_50 : decode cX9_falseOne 50 = .ok (.laload, 1) := by decide +kernel
theorem dX9_falseOne_51 : decode cX9_falseOne 51 = .ok (.lstore 6, 2) := by decide +kernel
theorem dX9_falseOne_53 : decode cX9_falseOne 53 = .ok (.aload_n 0, 1) := by decide +kernel
theorem dX9_falseOne_54 : decode cX9_falseOne 54 = .ok (.iload_n 1, 1) := by decide +kernel
theorem dX9_falseOne_55 : decode cX9_falseOne 55 = .ok (.lload 6, 2) := by decide +kernel
theorem dX9_falseOne_57 : decode cX9_falseOne 57 = .ok (.invokevirtual 178, 3) := by decide +kernel
theorem dX9_falseOne_60 : decode cX9_falseOne 60 = .ok (.ifCond .eq 24, 3) := by decide +kernel
theorem dX9_falseOne_63 : decode cX9_falseOne 63 = .ok (.aload_n 0, 1) := by decide +kernel
theorem dX9_falseOne_64 : decode cX9_falseOne 64 = .ok (.iload_n 1, 1) := by decide +kernel
theorem dX9_falseOne_65 : decode cX9_falseOne 65 = .ok (.lload 6, 2) := by decide +kernel
theorem dX9_falseOne_67 : decode cX9_falseOne 67 = .ok (.invokevirtual 181, 3) := by decide +kernel
theorem dX9_falseOne_70 : decode cX9_falseOne 70 = .ok (.ifCond .ne 14, 3) := by decide +kernel
theorem dX9_falseOne_73 : decode cX9_falseOne 73 = .ok (.iload 4, 2) := by decide +kernel
theorem dX9_falseOne_75 : decode cX9_falseOne 75 = .ok (.ifCond .ne 6, 3) := by decide +kernel
theorem dX9_falseOne_78 : decode cX9_falseOne 78 = .ok (.lload 6, 2) := by decide +kernel
theorem dX9_falseOne_80 : decode cX9_falseOne 80 = .ok (.lreturn, 1) := by decide +kernel
theorem dX9_falseOne_81 : decode cX9_falseOne 81 = .ok (.iinc 4 (-1), 3) := by decide +kernel
theorem dX9_falseOne_84 : decode cX9_falseOne 84 = .ok (.iinc 5 1, 3) := by decide +kernel
theorem dX9_falseOne_87 : decode cX9_falseOne 87 = .ok (.goto (-60), 3) := by decide +kernel
theorem dX9_falseOne_90 : decode cX9_falseOne 90 = .ok (.lconst 0, 1) := by decide +kernel
theorem dX9_falseOne_91 : decode cX9_falseOne 91 = .ok (.lreturn, 1) := by decide +kernel
set_option maxRecDepth 20000 in
theorem gu_wsX9_missed_1 : ∀ w ∈ wsX9_missed_r1, w ∈ wsX9_missed := fun _ h => List.mem_cons_of_mem _ (List.mem_append_left _ (List.mem_append_left _ h))
set_option maxRecDepth 20000 in
theorem gu_wsX9_missed_4 : ∀ w ∈ wsX90, w ∈ wsX9_missed := fun _ h => List.mem_cons_of_mem _ (List.mem_append_right _ h)
set_option maxRecDepth 20000 in
theorem ggX9_missed_X9_is : GoodIn wsX9_missed wsX9_is := goodIn_sub (gi_c (gu_wsX9_missed_1 _ gm_6) (gi_a (gi_c (gu_wsX9_missed_1 _ gm_7) gi_0) (gu_wsX9_missed_4))) (by decide +kernel)
set_option maxRecDepth 20000 in
theorem gX9_missed_X9_is : GoodIn wsX9_missed (wsV RX9 172 RX9 yX9_is wsX9_is) := goodIn_app (goodIn_sub (gi_c (gu_wsX9_missed_1 _ gm_2) (gi_c (gu_wsX9_missed_1 _ gm_3) (gi_c (gu_wsX9_missed_1 _ gm_4) (gi_c (gu_wsX9_missed_1 _ gm_5) gi_0)))) (by decide +kernel)) ggX9_missed_X9_is
set_option maxRecDepth 20000 in
theorem gu_wsX9_missed_2 : ∀ w ∈ wsX9_missed_r2, w ∈ wsX9_missed := fun _ h => List.mem_cons_of_mem _ (List.mem_append_left _ (List.mem_append_right _ (List.mem_append_left _ h)))
set_option maxRecDepth 20000 in
theorem gu_wsX9_missed_3 : ∀ w ∈ wsX9_missed_r3, w ∈ wsX9_missed := fun _ h => List.mem_cons_of_mem _ (List.mem_append_left _ (List.mem_append_right _ (List.mem_append_right _ h)))
set_option maxRecDepth 20000 in
theorem ggX9_missed_X9_letsThrough : GoodIn wsX9_missed wsX9_letsThrough := goodIn_sub (gi_c (gu_wsX9_missed_1 _ gm_11) (gi_a (gi_a (gi_c (gu_wsX9_missed_1 _ gm_12) (gi_c (gu_wsX9_missed_1 _ gm_13) (gi_c (gu_wsX9_missed_1 _ gm_14) (gi_c (gu_wsX9_missed_1 _ gm_15) (gi_c (gu_wsX9_missed_1 _ gm_16) (gi_c (gu_wsX9_missed_1 _ gm_17) (gi_c (gu_wsX9_missed_1 _ gm_18) (gi_c (gu_wsX9_missed_1 _ gm_5) (gi_c (gu_wsX9_missed_1 _ gm_19) (gi_c (gu_wsX9_missed_1 _ gm_20) (gi_c (gu_wsX9_missed_1 _ gm_21) (gi_c (gu_wsX9_missed_1 _ gm_22) (gi_c (gu_wsX9_missed_1 _ gm_23) (gi_c (gu_wsX9_missed_2 _ gm_0) (gi_c (gu_wsX9_missed_2 _ gm_1) (gi_c (gu_wsX9_missed_2 _ gm_2) (gi_c (gu_wsX9_missed_2 _ gm_3) (gi_c (gu_wsX9_missed_2 _ gm_4) (gi_c (gu_wsX9_missed_2 _ gm_5) (gi_c (gu_wsX9_missed_2 _ gm_6) (gi_c (gu_wsX9_missed_2 _ gm_7) (gi_c (gu_wsX9_missed_2 _ gm_8) (gi_c (gu_wsX9_missed_2 _ gm_9) (gi_c (gu_wsX9_missed_2 _ gm_10) gi_0)))))))))))))))))))))))) (gi_c (gu_wsX9_missed_2 _ gm_11) (gi_c (gu_wsX9_missed_2 _ gm_12) (gi_c (gu_wsX9_missed_2 _ gm_13) (gi_c (gu_wsX9_missed_2 _ gm_14) (gi_c (gu_wsX9_missed_2 _ gm_15) (gi_c (gu_wsX9_missed_2 _ gm_16) (gi_c (gu_wsX9_missed_2 _ gm_17) (gi_c (gu_wsX9_missed_2 _ gm_18) (gi_c (gu_wsX9_missed_2 _ gm_19) (gi_c (gu_wsX9_missed_2 _ gm_20) (gi_c (gu_wsX9_missed_2 _ gm_21) (gi_c (gu_wsX9_missed_2 _ gm_22) (gi_c (gu_wsX9_missed_2 _ gm_23) (gi_c (gu_wsX9_missed_3 _ gm_0) (gi_c (gu_wsX9_missed_3 _ gm_1) (gi_c (gu_wsX9_missed_3 _ gm_2) (gi_c (gu_wsX9_missed_3 _ gm_3) (gi_c (gu_wsX9_missed_3 _ gm_4) (gi_c (gu_wsX9_missed_3 _ gm_5) (gi_c (gu_wsX9_missed_3 _ gm_6) (gi_c (gu_wsX9_missed_3 _ gm_7) (gi_c (gu_wsX9_missed_3 _ gm_8) (gi_c (gu_wsX9_missed_3 _ gm_9) (gi_c (gu_wsX9_missed_3 _ gm_10) gi_0))))))))))))))))))))))))) (gu_wsX9_missed_4))) (by decide +kernel)
set_option maxRecDepth 20000 in
theorem gX9_missed_X9_letsThrough : GoodIn wsX9_missed (wsV RX9 178 RX9 yX9_letsThrough wsX9_letsThrough) := goodIn_app (goodIn_sub (gi_c (gu_wsX9_missed_1 _ gm_8) (gi_c (gu_wsX9_missed_1 _ gm_9) (gi_c (gu_wsX9_missed_1 _ gm_10) (gi_c (gu_wsX9_missed_1 _ gm_5) gi_0)))) (by decide +kernel)) ggX9_missed_X9_letsThrough
theorem dX9_missed_0 : decode cX9_missed 0 = .ok (.aload_n 0, 1) := by decide +kernel
theorem dX9_missed_1 : decode cX9_missed 1 = .ok (.iload_n 1, 1) := by decide +kernel
theorem dX9_missed_2 : decode cX9_missed 2 = .ok (.invokevirtual 172, 3) := by decide +kernel
theorem dX9_missed_5 : decode cX9_missed 5 = .ok (.ifCond .ne 5, 3) := by decide +kernel
theorem dX9_missed_8 : decode cX9_missed 8 = .ok (.iconst (-1), 1) := by decide +kernel
theorem dX9_missed_9 : decode cX9_missed 9 = .ok (.ireturn, 1) := by decide +kernel
theorem dX9_missed_10 : decode cX9_missed 10 = .ok (.iconst 0, 1) := by decide +kernel
theorem dX9_missed_11 : decode cX9_missed 11 = .ok (.istore_n 2, 1) := by decide +kernel
theorem dX9_missed_12 : decode cX9_missed 12 = .ok (.iconst 0, 1) := by decide +kernel
theorem dX9_missed_13 : decode cX9_missed 13 = .ok (.istore_n 3, 1) := by decide +kernel
theorem dX9_missed_14 : decode cX9_missed 14 = .ok (.iload_n 3, 1) := by decide +kernel
theorem dX9_missed_15 : decode cX9_missed 15 = .ok (.aload_n 0, 1) := by decide +kernel
theorem dX9_missed_16 : decode cX9_missed 16 = .ok (.getfield 32, 3) := by decide +kernel
theorem dX9_missed_19 : decode cX9_missed 19 = .ok (.iload_n 1, 1) := by decide +kernel
theorem dX9_missed_20 : decode cX9_missed 20 = .ok (.iaload, 1) := by decide +kernel
theorem dX9_missed_21 : decode cX9_missed 21 = .ok (.if_icmp .ge 37, 3) := by decide +kernel
theorem dX9_missed_24 : decode cX9_missed 24 = .ok (.iload_n 2, 1) := by decide +kernel
theorem dX9_missed_25 : decode cX9_missed 25 = .ok (.aload_n 0, 1) := by decide +kernel
theorem dX9_missed_26 : decode cX9_missed 26 = .ok (.iload_n 1, 1) := by decide +kernel
theorem dX9_missed_27 : decode cX9_missed 27 = .ok (.aload_n 0, 1) := by decide +kernel
theorem dX9_missed_28 : decode cX9_missed 28 = .ok (.getfield 29, 3) := by decide +kernel
theorem dX9_missed_31 : decode cX9_missed 31 = .ok (.iload_n 1, 1) := by decide +kernel
theorem dX9_missed_32 : decode cX9_missed 32 = .ok (.sipush 1000, 3) := by decide +kernel
theorem dX9_missed_35 : decode cX9_missed 35 = .ok (.imul, 1) := by decide +kernel
theorem dX9_missed_36 : decode cX9_missed 36 = .ok (.iload_n 3, 1) := by decide +kernel
theorem dX9_missed_37 : decode cX9_missed 37 = .ok (.iadd, 1) := by decide +kernel
theorem dX9_missed_38 : decode cX9_missed 38 = .ok (.laload, 1) := by decide +kernel
theorem dX9_missed_39 : decode cX9_missed 39 = .ok (.invokevirtual 178, 3) := by decide +kernel
theorem dX9_missed_42 : decode cX9_missed 42 = .ok (.ifCond .eq 7, 3) := by decide +kernel
theorem dX9_missed_45 : decode cX9_missed 45 = .ok (.iconst 0, 1) := by decide +kernel
theorem dX9_missed_46 : decode cX9_missed 46 = .ok (.goto 4, 3) := by decide +kernel
theorem dX9_missed_49 : decode cX9_missed 49 = .ok (.iconst 1, 1) := by decide +kernel
