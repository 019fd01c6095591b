theorem dX9_init_0 : decode cX9_init 0 = .ok (.aload_n 0, 1) := by decide +kernel
theorem dX9_init_1 : decode cX9_init 1 = .ok (.invokespecial 1, 3) := by decide +kernel
theorem dX9_init_4 : decode cX9_init 4 = .ok (.aload_n 0, 1) := by decide +kernel
theorem dX9_init_5 : decode cX9_init 5 = .ok (.sipush 8000, 3) := by decide +kernel
theorem dX9_init_8 : decode cX9_init 8 = .ok (.newarray .long, 2) := by decide +kernel
theorem dX9_init_10 : decode cX9_init 10 = .ok (.putfield 9, 3) := by decide +kernel
theorem dX9_init_13 : decode cX9_init 13 = .ok (.aload_n 0, 1) := by decide +kernel
theorem dX9_init_14 : decode cX9_init 14 = .ok (.bipush 8, 2) := by decide +kernel
theorem dX9_init_16 : decode cX9_init 16 = .ok (.newarray .int, 2) := by decide +kernel
theorem dX9_init_18 : decode cX9_init 18 = .ok (.putfield 13, 3) := by decide +kernel
theorem dX9_init_21 : decode cX9_init 21 = .ok (.aload_n 0, 1) := by decide +kernel
theorem dX9_init_22 : decode cX9_init 22 = .ok (.bipush 30, 2) := by decide +kernel
theorem dX9_init_24 : decode cX9_init 24 = .ok (.newarray .int, 2) := by decide +kernel
theorem dX9_init_26 : decode cX9_init 26 = .ok (.putfield 17, 3) := by decide +kernel
theorem dX9_init_29 : decode cX9_init 29 = .ok (.aload_n 0, 1) := by decide +kernel
theorem dX9_init_30 : decode cX9_init 30 = .ok (.bipush 30, 2) := by decide +kernel
theorem dX9_init_32 : decode cX9_init 32 = .ok (.newarray .int, 2) := by decide +kernel
theorem dX9_init_34 : decode cX9_init 34 = .ok (.putfield 20, 3) := by decide +kernel
theorem dX9_init_37 : decode cX9_init 37 = .ok (.aload_n 0, 1) := by decide +kernel
theorem dX9_init_38 : decode cX9_init 38 = .ok (.bipush 30, 2) := by decide +kernel
theorem dX9_init_40 : decode cX9_init 40 = .ok (.newarray .int, 2) := by decide +kernel
theorem dX9_init_42 : decode cX9_init 42 = .ok (.putfield 23, 3) := by decide +kernel
theorem dX9_init_45 : decode cX9_init 45 = .ok (.aload_n 0, 1) := by decide +kernel
theorem dX9_init_46 : decode cX9_init 46 = .ok (.bipush 30, 2) := by decide +kernel
theorem dX9_init_48 : decode cX9_init 48 = .ok (.newarray .int, 2) := by decide +kernel
theorem dX9_init_50 : decode cX9_init 50 = .ok (.putfield 26, 3) := by decide +kernel
theorem dX9_init_53 : decode cX9_init 53 = .ok (.aload_n 0, 1) := by decide +kernel
theorem dX9_init_54 : decode cX9_init 54 = .ok (.sipush 30000, 3) := by decide +kernel
theorem dX9_init_57 : decode cX9_init 57 = .ok (.newarray .long, 2) := by decide +kernel
theorem dX9_init_59 : decode cX9_init 59 = .ok (.putfield 29, 3) := by decide +kernel
theorem dX9_init_62 : decode cX9_init 62 = .ok (.aload_n 0, 1) := by decide +kernel
theorem dX9_init_63 : decode cX9_init 63 = .ok (.bipush 30, 2) := by decide +kernel
theorem dX9_init_65 : decode cX9_init 65 = .ok (.newarray .int, 2) := by decide +kernel
theorem dX9_init_67 : decode cX9_init 67 = .ok (.putfield 32, 3) := by decide +kernel
theorem dX9_init_70 : decode cX9_init 70 = .ok (.aload_n 0, 1) := by decide +kernel
theorem dX9_init_71 : decode cX9_init 71 = .ok (.ldc 35, 2) := by decide +kernel
theorem dX9_init_73 : decode cX9_init 73 = .ok (.newarray .int, 2) := by decide +kernel
theorem dX9_init_75 : decode cX9_init 75 = .ok (.putfield 36, 3) := by decide +kernel
theorem dX9_init_78 : decode cX9_init 78 = .ok (.aload_n 0, 1) := by decide +kernel
theorem dX9_init_79 : decode cX9_init 79 = .ok (.ldc 39, 2) := by decide +kernel
theorem dX9_init_81 : decode cX9_init 81 = .ok (.newarray .int, 2) := by decide +kernel
theorem dX9_init_83 : decode cX9_init 83 = .ok (.putfield 40, 3) := by decide +kernel
theorem dX9_init_86 : decode cX9_init 86 = .ok (.aload_n 0, 1) := by decide +kernel
theorem dX9_init_87 : decode cX9_init 87 = .ok (.sipush 600, 3) := by decide +kernel
theorem dX9_init_90 : decode cX9_init 90 = .ok (.newarray .int, 2) := by decide +kernel
theorem dX9_init_92 : decode cX9_init 92 = .ok (.putfield 43, 3) := by decide +kernel
theorem dX9_init_95 : decode cX9_init 95 = .ok (.aload_n 0, 1) := by decide +kernel
theorem dX9_init_96 : decode cX9_init 96 = .ok (.sipush 600, 3) := by decide +kernel
theorem dX9_init_99 : decode cX9_init 99 = .ok (.newarray .int, 2) := by decide +kernel
theorem dX9_init_101 : decode cX9_init 101 = .ok (.putfield 46, 3) := by decide +kernel
theorem dX9_init_104 : decode cX9_init 104 = .ok (.aload_n 0, 1) := by decide +kernel
theorem dX9_init_105 : decode cX9_init 105 = .ok (.sipush 30000, 3) := by decide +kernel
theorem dX9_init_108 : decode cX9_init 108 = .ok (.newarray .long, 2) := by decide +kernel
theorem dX9_init_110 : decode cX9_init 110 = .ok (.putfield 49, 3) := by decide +kernel
theorem dX9_init_113 : decode cX9_init 113 = .ok (.aload_n 0, 1) := by decide +kernel
theorem dX9_init_114 : decode cX9_init 114 = .ok (.bipush 30, 2) := by decide +kernel
theorem dX9_init_116 : decode cX9_init 116 = .ok (.newarray .int, 2) := by decide +kernel
theorem dX9_init_118 : decode cX9_init 118 = .ok (.putfield 52, 3) := by decide +kernel
theorem dX9_init_121 : decode cX9_init 121 = .ok (.aload_n 0, 1) := by decide +kernel
theorem dX9_init_122 : decode cX9_init 122 = .ok (.sipush 1000, 3) := by decide +kernel
theorem dX9_init_125 : decode cX9_init 125 = .ok (.newarray .long, 2) := by decide +kernel
theorem dX9_init_127 : decode cX9_init 127 = .ok (.putfield 55, 3) := by decide +kernel
theorem dX9_init_130 : decode cX9_init 130 = .ok (.aload_n 0, 1) := by decide +kernel
theorem dX9_init_131 : decode cX9_init 131 = .ok (.sipush 1000, 3) := by decide +kernel
theorem dX9_init_134 : decode cX9_init 134 = .ok (.newarray .long, 2) := by decide +kernel
theorem dX9_init_136 : decode cX9_init 136 = .ok (.putfield 58, 3) := by decide +kernel
theorem dX9_init_139 : decode cX9_init 139 = .ok (.aload_n 0, 1) := by decide +kernel
theorem dX9_init_140 : decode cX9_init 140 = .ok (.sipush 1000, 3) := by decide +kernel
theorem dX9_init_143 : decode cX9_init 143 = .ok (.newarray .long, 2) := by decide +kernel
theorem dX9_init_145 : decode cX9_init 145 = .ok (.putfield 61, 3) := by decide +kernel
theorem dX9_init_148 : decode cX9_init 148 = .ok (.aload_n 0, 1) := by decide +kernel
theorem dX9_init_149 : decode cX9_init 149 = .ok (.sipush 1000, 3) := by decide +kernel
theorem dX9_init_152 : decode cX9_init 152 = .ok (.newarray .int, 2) := by decide +kernel
theorem dX9_init_154 : decode cX9_init 154 = .ok (.putfield 64, 3) := by decide +kernel
theorem dX9_init_157 : decode cX9_init 157 = .ok (.aload_n 0, 1) := by decide +kernel
theorem dX9_init_158 : decode cX9_init 158 = .ok (.sipush 1000, 3) := by decide +kernel
theorem dX9_init_161 : decode cX9_init 161 = .ok (.newarray .int, 2) := by decide +kernel
theorem dX9_init_163 : decode cX9_init 163 = .ok (.putfield 67, 3) := by decide +kernel
theorem dX9_init_166 : decode cX9_init 166 = .ok (.aload_n 0, 1) := by decide +kernel
theorem dX9_init_167 : decode cX9_init 167 = .ok (.sipush 1000, 3) := by decide +kernel
theorem dX9_init_170 : decode cX9_init 170 = .ok (.newarray .boolean, 2) := by decide +kernel
theorem dX9_init_172 : decode cX9_init 172 = .ok (.putfield 70, 3) := by decide +kernel
theorem dX9_init_175 : decode cX9_init 175 = .ok (.aload_n 0, 1) := by decide +kernel
theorem dX9_init_176 : decode cX9_init 176 = .ok (.sipush 4096, 3) := by decide +kernel
theorem dX9_init_179 : decode cX9_init 179 = .ok (.newarray .int, 2) := by decide +kernel
theorem dX9_init_181 : decode cX9_init 181 = .ok (.putfield 74, 3) := by decide +kernel
theorem dX9_init_184 : decode cX9_init 184 = .ok (.aload_n 0, 1) := by decide +kernel
theorem dX9_init_185 : decode cX9_init 185 = .ok (.sipush 4096, 3) := by decide +kernel
theorem dX9_init_188 : decode cX9_init 188 = .ok (.newarray .int, 2) := by decide +kernel
theorem dX9_init_190 : decode cX9_init 190 = .ok (.putfield 77, 3) := by decide +kernel
theorem dX9_init_193 : decode cX9_init 193 = .ok (.return_, 1) := by decide +kernel
theorem dX9_mix_0 : decode cX9_mix 0 = .ok (.lload_n 0, 1) := by decide +kernel
theorem dX9_mix_1 : decode cX9_mix 1 = .ok (.iload_n 2, 1) := by decide +kernel
theorem dX9_mix_2 : decode cX9_mix 2 = .ok (.i2l, 1) := by decide +kernel
theorem dX9_mix_3 : decode cX9_mix 3 = .ok (.ldc2_w 80, 3) := by decide +kernel
theorem dX9_mix_6 : decode cX9_mix 6 = .ok (.lmul, 1) := by decide +kernel
theorem dX9_mix_7 : decode cX9_mix 7 = .ok (.ladd, 1) := by decide +kernel
theorem dX9_mix_8 : decode cX9_mix 8 = .ok (.lstore_n 3, 1) := by decide +kernel
theorem dX9_mix_9 : decode cX9_mix 9 = .ok (.lload_n 3, 1) := by decide +kernel
theorem dX9_mix_10 : decode cX9_mix 10 = .ok (.lload_n 3, 1) := by decide +kernel
theorem dX9_mix_11 : decode cX9_mix 11 = .ok (.bipush 30, 2) := by decide +kernel
theorem dX9_mix_13 : decode cX9_mix 13 = .ok (.lushr, 1) := by decide +kernel
theorem dX9_mix_14 : decode cX9_mix 14 = .ok (.lxor, 1) := by decide +kernel
theorem dX9_mix_15 : decode cX9_mix 15 = .ok (.ldc2_w 82, 3) := by decide +kernel
theorem dX9_mix_18 : decode cX9_mix 18 = .ok (.lmul, 1) := by decide +kernel
theorem dX9_mix_19 : decode cX9_mix 19 = .ok (.lstore_n 3, 1) := by decide +kernel
theorem dX9_mix_20 : decode cX9_mix 20 = .ok (.lload_n 3, 1) := by decide +kernel
theorem dX9_mix_21 : decode cX9_mix 21 = .ok (.lload_n 3, 1) := by decide +kernel
theorem dX9_mix_22 : decode cX9_mix 22 = .ok (.bipush 27, 2) := by decide +kernel
theorem dX9_mix_24 : decode cX9_mix 24 = .ok (.lushr, 1) := by decide +kernel
theorem dX9_mix_25 : decode cX9_mix 25 = .ok (.lxor, 1) := by decide +kernel
theorem dX9_mix_26 : decode cX9_mix 26 = .ok (.ldc2_w 84, 3) := by decide +kernel
theorem dX9_mix_29 : decode cX9_mix 29 = .ok (.lmul, 1) := by decide +kernel
theorem dX9_mix_30 : decode cX9_mix 30 = .ok (.lstore_n 3, 1) := by decide +kernel
theorem dX9_mix_31 : decode cX9_mix 31 = .ok (.lload_n 3, 1) := by decide +kernel
theorem dX9_mix_32 : decode cX9_mix 32 = .ok (.lload_n 3, 1) := by decide +kernel
theorem dX9_mix_33 : decode cX9_mix 33 = .ok (.bipush 31, 2) := by decide +kernel
theorem dX9_mix_35 : decode cX9_mix 35 = .ok (.lushr, 1) := by decide +kernel
theorem dX9_mix_36 : decode cX9_mix 36 = .ok (.lxor, 1) := by decide +kernel
theorem dX9_mix_37 : decode cX9_mix 37 = .ok (.lreturn, 1) := by decide +kernel
theorem dX9_markOf_0 : decode cX9_markOf 0 = .ok (.lload_n 0, 1) := by decide +kernel
theorem dX9_markOf_1 : decode cX9_markOf 1 = .ok (.ldc2_w 86, 3) := by decide +kernel
theorem dX9_markOf_4 : decode cX9_markOf 4 = .ok (.land, 1) := by decide +kernel
theorem dX9_markOf_5 : decode cX9_markOf 5 = .ok (.lstore 4, 2) := by decide +kernel
theorem dX9_markOf_7 : decode cX9_markOf 7 = .ok (.lload_n 0, 1) := by decide +kernel
theorem dX9_markOf_8 : decode cX9_markOf 8 = .ok (.bipush 32, 2) := by decide +kernel
theorem dX9_markOf_10 : decode cX9_markOf 10 = .ok (.lushr, 1) := by decide +kernel
theorem dX9_markOf_11 : decode cX9_markOf 11 = .ok (.lconst 1, 1) := by decide +kernel
theorem dX9_markOf_12 : decode cX9_markOf 12 = .ok (.lor, 1) := by decide +kernel
theorem dX9_markOf_13 : decode cX9_markOf 13 = .ok (.lstore 6, 2) := by decide +kernel
theorem dX9_markOf_15 : decode cX9_markOf 15 = .ok (.lload 4, 2) := by decide +kernel
theorem dX9_markOf_17 : decode cX9_markOf 17 = .ok (.iload_n 2, 1) := by decide +kernel
theorem dX9_markOf_18 : decode cX9_markOf 18 = .ok (.i2l, 1) := by decide +kernel
theorem dX9_markOf_19 : decode cX9_markOf 19 = .ok (.lload 6, 2) := by decide +kernel
theorem dX9_markOf_21 : decode cX9_markOf 21 = .ok (.lmul, 1) := by decide +kernel
theorem dX9_markOf_22 : decode cX9_markOf 22 = .ok (.ladd, 1) := by decide +kernel
theorem dX9_markOf_23 : decode cX9_markOf 23 = .ok (.iload_n 3, 1) := by decide +kernel
theorem dX9_markOf_24 : decode cX9_markOf 24 = .ok (.i2l, 1) := by decide +kernel
theorem dX9_markOf_25 : decode cX9_markOf 25 = .ok (.lrem, 1) := by decide +kernel
theorem dX9_markOf_26 : decode cX9_markOf 26 = .ok (.l2i, 1) := by decide +kernel
theorem dX9_markOf_27 : decode cX9_markOf 27 = .ok (.ireturn, 1) := by decide +kernel
theorem dX9_isWorld_0 : decode cX9_isWorld 0 = .ok (.iload_n 0, 1) := by decide +kernel
theorem dX9_isWorld_1 : decode cX9_isWorld 1 = .ok (.ifCond .lt 13, 3) := by decide +kernel
theorem dX9_isWorld_4 : decode cX9_isWorld 4 = .ok (.iload_n 0, 1) := by decide +kernel
theorem dX9_isWorld_5 : decode cX9_isWorld 5 = .ok (.bipush 8, 2) := by decide +kernel
theorem dX9_isWorld_7 : decode cX9_isWorld 7 = .ok (.if_icmp .ge 7, 3) := by decide +kernel
theorem dX9_isWorld_10 : decode cX9_isWorld 10 = .ok (.iconst 1, 1) := by decide +kernel
theorem dX9_isWorld_11 : decode cX9_isWorld 11 = .ok (.goto 4, 3) := by decide +kernel
theorem dX9_isWorld_14 : decode cX9_isWorld 14 = .ok (.iconst 0, 1) := by decide +kernel
theorem dX9_isWorld_15 : decode cX9_isWorld 15 = .ok (.ireturn, 1) := by decide +kernel
theorem dX9_is_0 : decode cX9_is 0 = .ok (.iload_n 1, 1) := by decide +kernel
theorem dX9_is_1 : decode cX9_is 1 = .ok (.ifCond .lt 15, 3) := by decide +kernel
theorem dX9_is_4 : decode cX9_is 4 = .ok (.iload_n 1, 1) := by decide +kernel
theorem dX9_is_5 : decode cX9_is 5 = .ok (.aload_n 0, 1) := by decide +kernel
theorem dX9_is_6 : decode cX9_is 6 = .ok (.getfield 88, 3) := by decide +kernel
theorem dX9_is_9 : decode cX9_is 9 = .ok (.if_icmp .ge 7, 3) := by decide +kernel
theorem dX9_is_12 : decode cX9_is 12 = .ok (.iconst 1, 1) := by decide +kernel
theorem dX9_is_13 : decode cX9_is 13 = .ok (.goto 4, 3) := by decide +kernel
theorem dX9_is_16 : decode cX9_is 16 = .ok (.iconst 0, 1) := by decide +kernel
theorem dX9_is_17 : decode cX9_is 17 = .ok (.ireturn, 1) := by decide +kernel
theorem dX9_placeOf_0 : decode cX9_placeOf 0 = .ok (.iconst 0, 1) := by decide +kernel
theorem dX9_placeOf_1 : decode cX9_placeOf 1 = .ok (.istore 4, 2) := by decide +kernel
theorem dX9_placeOf_3 : decode cX9_placeOf 3 = .ok (.iload 4, 2) := by decide +kernel
theorem dX9_placeOf_5 : decode cX9_placeOf 5 = .ok (.aload_n 0, 1) := by decide +kernel
theorem dX9_placeOf_6 : decode cX9_placeOf 6 = .ok (.getfield 13, 3) := by decide +kernel
theorem dX9_placeOf_9 : decode cX9_placeOf 9 = .ok (.iload_n 1, 1) := by decide +kernel
theorem dX9_placeOf_10 : decode cX9_placeOf 10 = .ok (.iaload, 1) := by decide +kernel
theorem dX9_placeOf_11 : decode cX9_placeOf 11 = .ok (.if_icmp .ge 30, 3) := by decide +kernel
theorem dX9_placeOf_14 : decode cX9_placeOf 14 = .ok (.aload_n 0, 1) := by decide +kernel
theorem dX9_placeOf_15 : decode cX9_placeOf 15 = .ok (.getfield 9, 3) := by decide +kernel
theorem dX9_placeOf_18 : decode cX9_placeOf 18 = .ok (.iload_n 1, 1) := by decide +kernel
theorem dX9_placeOf_19 : decode cX9_placeOf 19 = .ok (.sipush 1000, 3) := by decide +kernel
theorem dX9_placeOf_22 : decode cX9_placeOf 22 = .ok (.imul, 1) := by decide +kernel
theorem dX9_placeOf_23 : decode cX9_placeOf 23 = .ok (.iload 4, 2) := by decide +kernel
theorem dX9_placeOf_25 : decode cX9_placeOf 25 = .ok (.iadd, 1) := by decide +kernel
theorem dX9_placeOf_26 : decode cX9_placeOf 26 = .ok (.laload, 1) := by decide +kernel
theorem dX9_placeOf_27 : decode cX9_placeOf 27 = .ok (.lload_n 2, 1) := by decide +kernel
theorem dX9_placeOf_28 : decode cX9_placeOf 28 = .ok (.lcmp, 1) := by decide +kernel
theorem dX9_placeOf_29 : decode cX9_placeOf 29 = .ok (.ifCond .ne 6, 3) := by decide +kernel
theorem dX9_placeOf_32 : decode cX9_placeOf 32 = .ok (.iload 4, 2) := by decide +kernel
theorem dX9_placeOf_34 : decode cX9_placeOf 34 = .ok (.ireturn, 1) := by decide +kernel
theorem dX9_placeOf_35 : decode cX9_placeOf 35 = .ok (.iinc 4 1, 3) := by decide +kernel
theorem dX9_placeOf_38 : decode cX9_placeOf 38 = .ok (.goto (-35), 3) := by decide +kernel
theorem dX9_placeOf_41 : decode cX9_placeOf 41 = .ok (.iconst (-1), 1) := by decide +kernel
theorem dX9_placeOf_42 : decode cX9_placeOf 42 = .ok (.ireturn, 1) := by decide +kernel
theorem dX9_enter_0 : decode cX9_enter 0 = .ok (.aload_n 0, 1) := by decide +kernel
theorem dX9_enter_1 : decode cX9_enter 1 = .ok (.getfield 13, 3) := by decide +kernel
theorem dX9_enter_4 : decode cX9_enter 4 = .ok (.iload_n 1, 1) := by decide +kernel
theorem dX9_enter_5 : decode cX9_enter 5 = .ok (.iaload, 1) := by decide +kernel
theorem dX9_enter_6 : decode cX9_enter 6 = .ok (.istore 4, 2) := by decide +kernel
theorem dX9_enter_8 : decode cX9_enter 8 = .ok (.iload 4, 2) := by decide +kernel
theorem dX9_enter_10 : decode cX9_enter 10 = .ok (.ifCond .le 57, 3) := by decide +kernel
theorem dX9_enter_13 : decode cX9_enter 13 = .ok (.aload_n 0, 1) := by decide +kernel
theorem dX9_enter_14 : decode cX9_enter 14 = .ok (.getfield 9, 3) := by decide +kernel
theorem dX9_enter_17 : decode cX9_enter 17 = .ok (.iload_n 1, 1) := by decide +kernel
theorem dX9_enter_18 : decode cX9_enter 18 = .ok (.sipush 1000, 3) := by decide +kernel
theorem dX9_enter_21 : decode cX9_enter 21 = .ok (.imul, 1) := by decide +kernel
theorem dX9_enter_22 : decode cX9_enter 22 = .ok (.iload 4, 2) := by decide +kernel
theorem dX9_enter_24 : decode cX9_enter 24 = .ok (.iadd, 1) := by decide +kernel
theorem dX9_enter_25 : decode cX9_enter 25 = .ok (.iconst 1, 1) := by decide +kernel
theorem dX9_enter_26 : decode cX9_enter 26 = .ok (.isub, 1) := by decide +kernel
theorem dX9_enter_27 : decode cX9_enter 27 = .ok (.laload, 1) := by decide +kernel
theorem dX9_enter_28 : decode cX9_enter 28 = .ok (.lload_n 2, 1) := by decide +kernel
theorem dX9_enter_29 : decode cX9_enter 29 = .ok (.lcmp, 1) := by decide +kernel
theorem dX9_enter_30 : decode cX9_enter 30 = .ok (.ifCond .le 37, 3) := by decide +kernel
theorem dX9_enter_33 : decode cX9_enter 33 = .ok (.aload_n 0, 1) := by decide +kernel
theorem dX9_enter_34 : decode cX9_enter 34 = .ok (.getfield 9, 3) := by decide +kernel
theorem dX9_enter_37 : decode cX9_enter 37 = .ok (.iload_n 1, 1) := by decide +kernel
theorem dX9_enter_38 : decode cX9_enter 38 = .ok (.sipush 1000, 3) := by decide +kernel
theorem dX9_enter_41 : decode cX9_enter 41 = .ok (.imul, 1) := by decide +kernel
theorem dX9_enter_42 : decode cX9_enter 42 = .ok (.iload 4, 2) := by decide +kernel
theorem dX9_enter_44 : decode cX9_enter 44 = .ok (.iadd, 1) := by decide +kernel
theorem dX9_enter_45 : decode cX9_enter 45 = .ok (.aload_n 0, 1) := by decide +kernel
theorem dX9_enter_46 : decode cX9_enter 46 = .ok (.getfield 9, 3) := by decide +kernel
theorem dX9_enter_49 : decode cX9_enter 49 = .ok (.iload_n 1, 1) := by decide +kernel
theorem dX9_enter_50 : decode cX9_enter 50 = .ok (.sipush 1000, 3) := by decide +kernel
theorem dX9_enter_53 : decode cX9_enter 53 = .ok (.imul, 1) := by decide +kernel
theorem dX9_enter_54 : decode cX9_enter 54 = .ok (.iload 4, 2) := by decide +kernel
theorem dX9_enter_56 : decode cX9_enter 56 = .ok (.iadd, 1) := by decide +kernel
theorem dX9_enter_57 : decode cX9_enter 57 = .ok (.iconst 1, 1) := by decide +kernel
theorem dX9_enter_58 : decode cX9_enter 58 = .ok (.isub, 1) := by decide +kernel
theorem dX9_enter_59 : decode cX9_enter 59 = .ok (.laload, 1) := by decide +kernel
theorem dX9_enter_60 : decode cX9_enter 60 = .ok (.lastore, 1) := by decide +kernel
theorem dX9_enter_61 : decode cX9_enter 61 = .ok (.iinc 4 (-1), 3) := by decide +kernel
theorem dX9_enter_64 : decode cX9_enter 64 = .ok (.goto (-56), 3) := by decide +kernel
theorem dX9_enter_67 : decode cX9_enter 67 = .ok (.aload_n 0, 1) := by decide +kernel
theorem dX9_enter_68 : decode cX9_enter 68 = .ok (.getfield 9, 3) := by decide +kernel
theorem dX9_enter_71 : decode cX9_enter 71 = .ok (.iload_n 1, 1) := by decide +kernel
theorem dX9_enter_72 : decode cX9_enter 72 = .ok (.sipush 1000, 3) := by decide +kernel
theorem dX9_enter_75 : decode cX9_enter 75 = .ok (.imul, 1) := by decide +kernel
theorem dX9_enter_76 : decode cX9_enter 76 = .ok (.iload 4, 2) := by decide +kernel
theorem dX9_enter_78 : decode cX9_enter 78 = .ok (.iadd, 1) := by decide +kernel
theorem dX9_enter_79 : decode cX9_enter 79 = .ok (.lload_n 2, 1) := by decide +kernel
theorem dX9_enter_80 : decode cX9_enter 80 = .ok (.lastore, 1) := by decide +kernel
theorem dX9_enter_81 : decode cX9_enter 81 = .ok (.aload_n 0, 1) := by decide +kernel
theorem dX9_enter_82 : decode cX9_enter 82 = .ok (.getfield 13, 3) := by decide +kernel
theorem dX9_enter_85 : decode cX9_enter 85 = .ok (.iload_n 1, 1) := by decide +kernel
theorem dX9_enter_86 : decode cX9_enter 86 = .ok (.dup2, 1) := by decide +kernel
theorem dX9_enter_87 : decode cX9_enter 87 = .ok (.iaload, 1) := by decide +kernel
theorem dX9_enter_88 : decode cX9_enter 88 = .ok (.iconst 1, 1) := by decide +kernel
theorem dX9_enter_89 : decode cX9_enter 89 = .ok (.iadd, 1) := by decide +kernel
theorem dX9_enter_90 : decode cX9_enter 90 = .ok (.iastore, 1) := by decide +kernel
theorem dX9_enter_91 : decode cX9_enter 91 = .ok (.return_, 1) := by decide +kernel
set_option maxRecDepth 20000 in
theorem gu_wsX9_span_1 : ∀ w ∈ ([Cond.fieldLink RX9 13 "SieveCabinetModel" "inWorld" "[I", Cond.methodLink RX9 92 yX9_isWorld, Cond.static yX9_isWorld, Cond.initialized RX9, Cond.code yX9_isWorld cX9_isWorld 1 (some .boolean), Cond.methodLink RX9 96 yX9_placeOf, Cond.instanceMethod yX9_placeOf, Cond.selects RX9 yX9_placeOf yX9_placeOf, Cond.code yX9_placeOf cX9_placeOf 5 (some .int), Cond.fieldLink RX9 9 "SieveCabinetModel" "worlds" "[J", Cond.methodLink RX9 100 yX9_enter, Cond.instanceMethod yX9_enter, Cond.selects RX9 yX9_enter yX9_enter, Cond.code yX9_enter cX9_enter 5 none] : List Cond), w ∈ wsX9_span := fun _ h => List.mem_cons_of_mem _ (List.mem_append_left _ h)
set_option maxRecDepth 20000 in
theorem ggX9_span_X9_isWorld : GoodIn wsX9_span wsX9_isWorld := goodIn_sub (gi_c (gu_wsX9_span_1 _ gm_4) (gi_0)) (by decide +kernel)
set_option maxRecDepth 20000 in
theorem gX9_span_X9_isWorld : GoodIn wsX9_span (va_wsS RX9 92 yX9_isWorld wsX9_isWorld) := goodIn_app (goodIn_sub (gi_c (gu_wsX9_span_1 _ gm_1) (gi_c (gu_wsX9_span_1 _ gm_2) (gi_c (gu_wsX9_span_1 _ gm_3) gi_0))) (by decide +kernel)) ggX9_span_X9_isWorld
set_option maxRecDepth 20000 in
theorem gu_wsX9_span_2 : ∀ w ∈ wsX90, w ∈ wsX9_span := fun _ h => List.mem_cons_of_mem _ (List.mem_append_right _ h)
set_option maxRecDepth 20000 in
theorem ggX9_span_X9_placeOf : GoodIn wsX9_span wsX9_placeOf := goodIn_sub (gi_c (gu_wsX9_span_1 _ gm_8) (gi_a (gi_c (gu_wsX9_span_1 _ gm_0) (gi_c (gu_wsX9_span_1 _ gm_9) gi_0)) (gu_wsX9_span_2))) (by decide +kernel)
set_option maxRecDepth 20000 in
theorem gX9_span_X9_placeOf : GoodIn wsX9_span (wsV RX9 96 RX9 yX9_placeOf wsX9_placeOf) := goodIn_app (goodIn_sub (gi_c (gu_wsX9_span_1 _ gm_5) (gi_c (gu_wsX9_span_1 _ gm_6) (gi_c (gu_wsX9_span_1 _ gm_7) (gi_c (gu_wsX9_span_1 _ gm_3) gi_0)))) (by decide +kernel)) ggX9_span_X9_placeOf
set_option maxRecDepth 20000 in
theorem ggX9_span_X9_enter : GoodIn wsX9_span wsX9_enter := goodIn_sub (gi_c (gu_wsX9_span_1 _ gm_13) (gi_a (gi_c (gu_wsX9_span_1 _ gm_0) (gi_c (gu_wsX9_span_1 _ gm_9) gi_0)) (gu_wsX9_span_2))) (by decide +kernel)
set_option maxRecDepth 20000 in
theorem gX9_span_X9_enter : GoodIn wsX9_span (wsV RX9 100 RX9 yX9_enter wsX9_enter) := goodIn_app (goodIn_sub (gi_c (gu_wsX9_span_1 _ gm_10) (gi_c (gu_wsX9_span_1 _ gm_11) (gi_c (gu_wsX9_span_1 _ gm_12) (gi_c (gu_wsX9_span_1 _ gm_3) gi_0)))) (by decide +kernel)) ggX9_span_X9_enter
theorem dX9_span_0 : decode cX9_span 0 = .ok (.iload_n 1, 1) := by decide +kernel
theorem dX9_span_1 : decode cX9_span 1 = .ok (.invokestatic 92, 3) := by decide +kernel
theorem dX9_span_4 : decode cX9_span 4 = .ok (.ifCond .eq 17, 3) := by decide +kernel
theorem dX9_span_7 : decode cX9_span 7 = .ok (.iload 5, 2) := by decide +kernel
theorem dX9_span_9 : decode cX9_span 9 = .ok (.iconst 1, 1) := by decide +kernel
theorem dX9_span_10 : decode cX9_span 10 = .ok (.if_icmp .lt 11, 3) := by decide +kernel
theorem dX9_span_13 : decode cX9_span 13 = .ok (.iload 5, 2) := by decide +kernel
theorem dX9_span_15 : decode cX9_span 15 = .ok (.sipush 1000, 3) := by decide +kernel
theorem dX9_span_18 : decode cX9_span 18 = .ok (.if_icmp .le 5, 3) := by decide +kernel
theorem dX9_span_21 : decode cX9_span 21 = .ok (.iconst (-1), 1) := by decide +kernel
theorem dX9_span_22 : decode cX9_span 22 = .ok (.ireturn, 1) := by decide +kernel
theorem dX9_span_23 : decode cX9_span 23 = .ok (.iconst 0, 1) := by decide +kernel
theorem dX9_span_24 : decode cX9_span 24 = .ok (.istore 6, 2) := by decide +kernel
theorem dX9_span_26 : decode cX9_span 26 = .ok (.iconst 0, 1) := by decide +kernel
theorem dX9_span_27 : decode cX9_span 27 = .ok (.istore 7, 2) := by decide +kernel
theorem dX9_span_29 : decode cX9_span 29 = .ok (.iload 7, 2) := by decide +kernel
theorem dX9_span_31 : decode cX9_span 31 = .ok (.iload 5, 2) := by decide +kernel
theorem dX9_span_33 : decode cX9_span 33 = .ok (.if_icmp .ge 50, 3) := by decide +kernel
theorem dX9_span_36 : decode cX9_span 36 = .ok (.lload_n 2, 1) := by decide +kernel
theorem dX9_span_37 : decode cX9_span 37 = .ok (.iload 7, 2) := by decide +kernel
theorem dX9_span_39 : decode cX9_span 39 = .ok (.i2l, 1) := by decide +kernel
theorem dX9_span_40 : decode cX9_span 40 = .ok (.iload 4, 2) := by decide +kernel
theorem dX9_span_42 : decode cX9_span 42 = .ok (.i2l, 1) := by decide +kernel
theorem dX9_span_43 : decode cX9_span 43 = .ok (.lmul, 1) := by decide +kernel
theorem dX9_span_44 : decode cX9_span 44 = .ok (.ladd, 1) := by decide +kernel
theorem dX9_span_45 : decode cX9_span 45 = .ok (.lstore 8, 2) := by decide +kernel
theorem dX9_span_47 : decode cX9_span 47 = .ok (.iload 6, 2) := by decide +kernel
theorem dX9_span_49 : decode cX9_span 49 = .ok (.aload_n 0, 1) := by decide +kernel
theorem dX9_span_50 : decode cX9_span 50 = .ok (.iload_n 1, 1) := by decide +kernel
theorem dX9_span_51 : decode cX9_span 51 = .ok (.lload 8, 2) := by decide +kernel
theorem dX9_span_53 : decode cX9_span 53 = .ok (.invokevirtual 96, 3) := by decide +kernel
theorem dX9_span_56 : decode cX9_span 56 = .ok (.ifCond .ge 17, 3) := by decide +kernel
theorem dX9_span_59 : decode cX9_span 59 = .ok (.iload 4, 2) := by decide +kernel
theorem dX9_span_61 : decode cX9_span 61 = .ok (.ifCond .ne 8, 3) := by decide +kernel
theorem dX9_span_64 : decode cX9_span 64 = .ok (.iload 7, 2) := by decide +kernel
theorem dX9_span_66 : decode cX9_span 66 = .ok (.ifCond .ne 7, 3) := by decide +kernel
theorem dX9_span_69 : decode cX9_span 69 = .ok (.iconst 1, 1) := by decide +kernel
theorem dX9_span_70 : decode cX9_span 70 = .ok (.goto 4, 3) := by decide +kernel
theorem dX9_span_73 : decode cX9_span 73 = .ok (.iconst 0, 1) := by decide +kernel
theorem dX9_span_74 : decode cX9_span 74 = .ok (.iadd, 1) := by decide +kernel
theorem dX9_span_75 : decode cX9_span 75 = .ok (.istore 6, 2) := by decide +kernel
theorem dX9_span_77 : decode cX9_span 77 = .ok (.iinc 7 1, 3) := by decide +kernel
theorem dX9_span_80 : decode cX9_span 80 = .ok (.goto (-51), 3) := by decide +kernel
theorem dX9_span_83 : decode cX9_span 83 = .ok (.aload_n 0, 1) := by decide +kernel
theorem dX9_span_84 : decode cX9_span 84 = .ok (.getfield 13, 3) := by decide +kernel
theorem dX9_span_87 : decode cX9_span 87 = .ok (.iload_n 1, 1) := by decide +kernel
theorem dX9_span_88 : decode cX9_span 88 = .ok (.iaload, 1) := by decide +kernel
theorem dX9_span_89 : decode cX9_span 89 = .ok (.iload 6, 2) := by decide +kernel
theorem dX9_span_91 : decode cX9_span 91 = .ok (.iadd, 1) := by decide +kernel
theorem dX9_span_92 : decode cX9_span 92 = .ok (.sipush 1000, 3) := by decide +kernel
theorem dX9_span_95 : decode cX9_span 95 = .ok (.if_icmp .le 6, 3) := by decide +kernel
theorem dX9_span_98 : decode cX9_span 98 = .ok (.bipush (-4), 2) := by decide +kernel
theorem dX9_span_100 : decode cX9_span 100 = .ok (.ireturn, 1) := by decide +kernel
theorem dX9_span_101 : decode cX9_span 101 = .ok (.iconst 0, 1) := by decide +kernel
theorem dX9_span_102 : decode cX9_span 102 = .ok (.istore 7, 2) := by decide +kernel
theorem dX9_span_104 : decode cX9_span 104 = .ok (.iload 7, 2) := by decide +kernel
theorem dX9_span_106 : decode cX9_span 106 = .ok (.iload 5, 2) := by decide +kernel
theorem dX9_span_108 : decode cX9_span 108 = .ok (.if_icmp .ge 37, 3) := by decide +kernel
theorem dX9_span_111 : decode cX9_span 111 = .ok (.lload_n 2, 1) := by decide +kernel
theorem dX9_span_112 : decode cX9_span 112 = .ok (.iload 7, 2) := by decide +kernel
theorem dX9_span_114 : decode cX9_span 114 = .ok (.i2l, 1) := by decide +kernel
theorem dX9_span_115 : decode cX9_span 115 = .ok (.iload 4, 2) := by decide +kernel
theorem dX9_span_117 : decode cX9_span 117 = .ok (.i2l, 1) := by decide +kernel
theorem dX9_span_118 : decode cX9_span 118 = .ok (.lmul, 1) := by decide +kernel
theorem dX9_span_119 : decode cX9_span 119 = .ok (.ladd, 1) := by decide +kernel
theorem dX9_span_120 : decode cX9_span 120 = .ok (.lstore 8, 2) := by decide +kernel
theorem dX9_span_122 : decode cX9_span 122 = .ok (.aload_n 0, 1) := by decide +kernel
theorem dX9_span_123 : decode cX9_span 123 = .ok (.iload_n 1, 1) := by decide +kernel
theorem dX9_span_124 : decode cX9_span 124 = .ok (.lload 8, 2) := by decide +kernel
theorem dX9_span_126 : decode cX9_span 126 = .ok (.invokevirtual 96, 3) := by decide +kernel
theorem dX9_span_129 : decode cX9_span 129 = .ok (.ifCond .ge 10, 3) := by decide +kernel
theorem dX9_span_132 : decode cX9_span 132 = .ok (.aload_n 0, 1) := by decide +kernel
theorem dX9_span_133 : decode cX9_span 133 = .ok (.iload_n 1, 1) := by decide +kernel
theorem dX9_span_134 : decode cX9_span 134 = .ok (.lload 8, 2) := by decide +kernel
theorem dX9_span_136 : decode cX9_span 136 = .ok (.invokevirtual 100, 3) := by decide +kernel
theorem dX9_span_139 : decode cX9_span 139 = .ok (.iinc 7 1, 3) := by decide +kernel
theorem dX9_span_142 : decode cX9_span 142 = .ok (.goto (-38), 3) := by decide +kernel
theorem dX9_span_145 : decode cX9_span 145 = .ok (.aload_n 0, 1) := by decide +kernel
theorem dX9_span_146 : decode cX9_span 146 = .ok (.getfield 13, 3) := by decide +kernel
theorem dX9_span_149 : decode cX9_span 149 = .ok (.iload_n 1, 1) := by decide +kernel
theorem dX9_span_150 : decode cX9_span 150 = .ok (.iaload, 1) := by decide +kernel
theorem dX9_span_151 : decode cX9_span 151 = .ok (.ireturn, 1) := by decide +kernel
set_option maxRecDepth 20000 in
theorem gu_wsX9_take_1 : ∀ w ∈ ([Cond.fieldLink RX9 13 "SieveCabinetModel" "inWorld" "[I", Cond.fieldLink RX9 9 "SieveCabinetModel" "worlds" "[J", Cond.methodLink RX9 92 yX9_isWorld, Cond.static yX9_isWorld, Cond.initialized RX9, Cond.code yX9_isWorld cX9_isWorld 1 (some .boolean), Cond.methodLink RX9 96 yX9_placeOf, Cond.instanceMethod yX9_placeOf, Cond.selects RX9 yX9_placeOf yX9_placeOf, Cond.code yX9_placeOf cX9_placeOf 5 (some .int)] : List Cond), w ∈ wsX9_take := fun _ h => List.mem_cons_of_mem _ (List.mem_append_left _ h)
set_option maxRecDepth 20000 in
theorem ggX9_take_X9_isWorld : GoodIn wsX9_take wsX9_isWorld := goodIn_sub (gi_c (gu_wsX9_take_1 _ gm_5) (gi_0)) (by decide +kernel)
set_option maxRecDepth 20000 in
theorem gX9_take_X9_isWorld : GoodIn wsX9_take (va_wsS RX9 92 yX9_isWorld wsX9_isWorld) := goodIn_app (goodIn_sub (gi_c (gu_wsX9_take_1 _ gm_2) (gi_c (gu_wsX9_take_1 _ gm_3) (gi_c (gu_wsX9_take_1 _ gm_4) gi_0))) (by decide +kernel)) ggX9_take_X9_isWorld
set_option maxRecDepth 20000 in
theorem gu_wsX9_take_2 : ∀ w ∈ wsX90, w ∈ wsX9_take := fun _ h => List.mem_cons_of_mem _ (List.mem_append_right _ h)
set_option maxRecDepth 20000 in
theorem ggX9_take_X9_placeOf : GoodIn wsX9_take wsX9_placeOf := goodIn_sub (gi_c (gu_wsX9_take_1 _ gm_9) (gi_a (gi_c (gu_wsX9_take_1 _ gm_0) (gi_c (gu_wsX9_take_1 _ gm_1) gi_0)) (gu_wsX9_take_2))) (by decide +kernel)
set_option maxRecDepth 20000 in
theorem gX9_take_X9_placeOf : GoodIn wsX9_take (wsV RX9 96 RX9 yX9_placeOf wsX9_placeOf) := goodIn_app (goodIn_sub (gi_c (gu_wsX9_take_1 _ gm_6) (gi_c (gu_wsX9_take_1 _ gm_7) (gi_c (gu_wsX9_take_1 _ gm_8) (gi_c (gu_wsX9_take_1 _ gm_4) gi_0)))) (by decide +kernel)) ggX9_take_X9_placeOf
theorem dX9_take_0 : decode cX9_take 0 = .ok (.iload_n 1, 1) := by decide +kernel
theorem dX9_take_1 : decode cX9_take 1 = .ok (.invokestatic 92, 3) := by decide +kernel
theorem dX9_take_4 : decode cX9_take 4 = .ok (.ifCond .eq 12, 3) := by decide +kernel
theorem dX9_take_7 : decode cX9_take 7 = .ok (.aload_n 0, 1) := by decide +kernel
theorem dX9_take_8 : decode cX9_take 8 = .ok (.iload_n 1, 1) := by decide +kernel
theorem dX9_take_9 : decode cX9_take 9 = .ok (.lload_n 2, 1) := by decide +kernel
theorem dX9_take_10 : decode cX9_take 10 = .ok (.invokevirtual 96, 3) := by decide +kernel
theorem dX9_take_13 : decode cX9_take 13 = .ok (.goto 4, 3) := by decide +kernel
theorem dX9_take_16 : decode cX9_take 16 = .ok (.iconst (-1), 1) := by decide +kernel
theorem dX9_take_17 : decode cX9_take 17 = .ok (.istore 4, 2) := by decide +kernel
theorem dX9_take_19 : decode cX9_take 19 = .ok (.iload 4, 2) := by decide +kernel
theorem dX9_take_21 : decode cX9_take 21 = .ok (.ifCond .ge 5, 3) := by decide +kernel
theorem dX9_take_24 : decode cX9_take 24 = .ok (.iconst (-1), 1) := by decide +kernel
theorem dX9_take_25 : decode cX9_take 25 = .ok (.ireturn, 1) := by decide +kernel
theorem dX9_take_26 : decode cX9_take 26 = .ok (.aload_n 0, 1) := by decide +kernel
theorem dX9_take_27 : decode cX9_take 27 = .ok (.getfield 13, 3) := by decide +kernel
theorem dX9_take_30 : decode cX9_take 30 = .ok (.iload_n 1, 1) := by decide +kernel
theorem dX9_take_31 : decode cX9_take 31 = .ok (.dup2, 1) := by decide +kernel
theorem dX9_take_32 : decode cX9_take 32 = .ok (.iaload, 1) := by decide +kernel
theorem dX9_take_33 : decode cX9_take 33 = .ok (.iconst 1, 1) := by decide +kernel
theorem dX9_take_34 : decode cX9_take 34 = .ok (.isub, 1) := by decide +kernel
theorem dX9_take_35 : decode cX9_take 35 = .ok (.iastore, 1) := by decide +kernel
theorem dX9_take_36 : decode cX9_take 36 = .ok (.iload 4, 2) := by decide +kernel
theorem dX9_take_38 : decode cX9_take 38 = .ok (.istore 5, 2) := by decide +kernel
theorem dX9_take_40 : decode cX9_take 40 = .ok (.iload 5, 2) := by decide +kernel
theorem dX9_take_42 : decode cX9_take 42 = .ok (.aload_n 0, 1) := by decide +kernel
theorem dX9_take_43 : decode cX9_take 43 = .ok (.getfield 13, 3) := by decide +kernel
theorem dX9_take_46 : decode cX9_take 46 = .ok (.iload_n 1, 1) := by decide +kernel
theorem dX9_take_47 : decode cX9_take 47 = .ok (.iaload, 1) := by decide +kernel
theorem dX9_take_48 : decode cX9_take 48 = .ok (.if_icmp .ge 37, 3) := by decide +kernel
theorem dX9_take_51 : decode cX9_take 51 = .ok (.aload_n 0, 1) := by decide +kernel
theorem dX9_take_52 : decode cX9_take 52 = .ok (.getfield 9, 3) := by decide +kernel
theorem dX9_take_55 : decode cX9_take 55 = .ok (.iload_n 1, 1) := by decide +kernel
theorem dX9_take_56 : decode cX9_take 56 = .ok (.sipush 1000, 3) := by decide +kernel
theorem dX9_take_59 : decode cX9_take 59 = .ok (.imul, 1) := by decide +kernel
theorem dX9_take_60 : decode cX9_take 60 = .ok (.iload 5, 2) := by decide +kernel
theorem dX9_take_62 : decode cX9_take 62 = .ok (.iadd, 1) := by decide +kernel
theorem dX9_take_63 : decode cX9_take 63 = .ok (.aload_n 0, 1) := by decide +kernel
theorem dX9_take_64 : decode cX9_take 64 = .ok (.getfield 9, 3) := by decide +kernel
theorem dX9_take_67 : decode cX9_take 67 = .ok (.iload_n 1, 1) := by decide +kernel
theorem dX9_take_68 : decode cX9_take 68 = .ok (.sipush 1000, 3) := by decide +kernel
theorem dX9_take_71 : decode cX9_take 71 = .ok (.imul, 1) := by decide +kernel
theorem dX9_take_72 : decode cX9_take 72 = .ok (.iload 5, 2) := by decide +kernel
theorem dX9_take_74 : decode cX9_take 74 = .ok (.iadd, 1) := by decide +kernel
theorem dX9_take_75 : decode cX9_take 75 = .ok (.iconst 1, 1) := by decide +kernel
theorem dX9_take_76 : decode cX9_take 76 = .ok (.iadd, 1) := by decide +kernel
theorem dX9_take_77 : decode cX9_take 77 = .ok (.laload, 1) := by decide +kernel
theorem dX9_take_78 : decode cX9_take 78 = .ok (.lastore, 1) := by decide +kernel
theorem dX9_take_79 : decode cX9_take 79 = .ok (.iinc 5 1, 3) := by decide +kernel
theorem dX9_take_82 : decode cX9_take 82 = .ok (.goto (-42), 3) := by decide +kernel
theorem dX9_take_85 : decode cX9_take 85 = .ok (.aload_n 0, 1) := by decide +kernel
theorem dX9_take_86 : decode cX9_take 86 = .ok (.getfield 13, 3) := by decide +kernel
theorem dX9_take_89 : decode cX9_take 89 = .ok (.iload_n 1, 1) := by decide +kernel
theorem dX9_take_90 : decode cX9_take 90 = .ok (.iaload, 1) := by decide +kernel
theorem dX9_take_91 : decode cX9_take 91 = .ok (.ireturn, 1) := by decide +kernel
set_option maxRecDepth 20000 in
theorem gu_wsX9_things_1 : ∀ w ∈ ([Cond.fieldLink RX9 13 "SieveCabinetModel" "inWorld" "[I", Cond.methodLink RX9 92 yX9_isWorld, Cond.static yX9_isWorld, Cond.initialized RX9, Cond.code yX9_isWorld cX9_isWorld 1 (some .boolean)] : List Cond), w ∈ wsX9_things := fun _ h => List.mem_cons_of_mem _ (List.mem_append_left _ h)
set_option maxRecDepth 20000 in
theorem ggX9_things_X9_isWorld : GoodIn wsX9_things wsX9_isWorld := goodIn_sub (gi_c (gu_wsX9_things_1 _ gm_4) (gi_0)) (by decide +kernel)
set_option maxRecDepth 20000 in
theorem gX9_things_X9_isWorld : GoodIn wsX9_things (va_wsS RX9 92 yX9_isWorld wsX9_isWorld) := goodIn_app (goodIn_sub (gi_c (gu_wsX9_things_1 _ gm_1) (gi_c (gu_wsX9_things_1 _ gm_2) (gi_c (gu_wsX9_things_1 _ gm_3) gi_0))) (by decide +kernel)) ggX9_things_X9_isWorld
theorem dX9_things_0 : decode cX9_things 0 = .ok (.iload_n 1, 1) := by decide +kernel
theorem dX9_things_1 : decode cX9_things 1 = .ok (.invokestatic 92, 3) := by decide +kernel
theorem dX9_things_4 : decode cX9_things 4 = .ok (.ifCond .eq 12, 3) := by decide +kernel
theorem dX9_things_7 : decode cX9_things 7 = .ok (.aload_n 0, 1) := by decide +kernel
theorem dX9_things_8 : decode cX9_things 8 = .ok (.getfield 13, 3) := by decide +kernel
theorem dX9_things_11 : decode cX9_things 11 = .ok (.iload_n 1, 1) := by decide +kernel
theorem dX9_things_12 : decode cX9_things 12 = .ok (.iaload, 1) := by decide +kernel
theorem dX9_things_13 : decode cX9_things 13 = .ok (.goto 4, 3) := by decide +kernel
theorem dX9_things_16 : decode cX9_things 16 = .ok (.iconst (-1), 1) := by decide +kernel
theorem dX9_things_17 : decode cX9_things 17 = .ok (.ireturn, 1) := by decide +kernel
set_option maxRecDepth 20000 in
theorem gu_wsX9_thing_1 : ∀ w ∈ ([Cond.fieldLink RX9 13 "SieveCabinetModel" "inWorld" "[I", Cond.fieldLink RX9 9 "SieveCabinetModel" "worlds" "[J", Cond.methodLink RX9 92 yX9_isWorld, Cond.static yX9_isWorld, Cond.initialized RX9, Cond.code yX9_isWorld cX9_isWorld 1 (some .boolean)] : List Cond), w ∈ wsX9_thing := fun _ h => List.mem_cons_of_mem _ (List.mem_append_left _ h)
set_option maxRecDepth 20000 in
theorem ggX9_thing_X9_isWorld : GoodIn wsX9_thing wsX9_isWorld := goodIn_sub (gi_c (gu_wsX9_thing_1 _ gm_5) (gi_0)) (by decide +kernel)
set_option maxRecDepth 20000 in
theorem gX9_thing_X9_isWorld : GoodIn wsX9_thing (va_wsS RX9 92 yX9_isWorld wsX9_isWorld) := goodIn_app (goodIn_sub (gi_c (gu_wsX9_thing_1 _ gm_2) (gi_c (gu_wsX9_thing_1 _ gm_3) (gi_c (gu_wsX9_thing_1 _ gm_4) gi_0))) (by decide +kernel)) ggX9_thing_X9_isWorld
theorem dX9_thing_0 : decode cX9_thing 0 = .ok (.iload_n 1, 1) := by decide +kernel
theorem dX9_thing_1 : decode cX9_thing 1 = .ok (.invokestatic 92, 3) := by decide +kernel
theorem dX9_thing_4 : decode cX9_thing 4 = .ok (.ifCond .eq 32, 3) := by decide +kernel
theorem dX9_thing_7 : decode cX9_thing 7 = .ok (.iload_n 2, 1) := by decide +kernel
theorem dX9_thing_8 : decode cX9_thing 8 = .ok (.ifCond .lt 28, 3) := by decide +kernel
theorem dX9_thing_11 : decode cX9_thing 11 = .ok (.iload_n 2, 1) := by decide +kernel
theorem dX9_thing_12 : decode cX9_thing 12 = .ok (.aload_n 0, 1) := by decide +kernel
theorem dX9_thing_13 : decode cX9_thing 13 = .ok (.getfield 13, 3) := by decide +kernel
theorem dX9_thing_16 : decode cX9_thing 16 = .ok (.iload_n 1, 1) := by decide +kernel
theorem dX9_thing_17 : decode cX9_thing 17 = .ok (.iaload, 1) := by decide +kernel
theorem dX9_thing_18 : decode cX9_thing 18 = .ok (.if_icmp .ge 18, 3) := by decide +kernel
theorem dX9_thing_21 : decode cX9_thing 21 = .ok (.aload_n 0, 1) := by decide +kernel
theorem dX9_thing_22 : decode cX9_thing 22 = .ok (.getfield 9, 3) := by decide +kernel
theorem dX9_thing_25 : decode cX9_thing 25 = .ok (.iload_n 1, 1) := by decide +kernel
theorem dX9_thing_26 : decode cX9_thing 26 = .ok (.sipush 1000, 3) := by decide +kernel
theorem dX9_thing_29 : decode cX9_thing 29 = .ok (.imul, 1) := by decide +kernel
theorem dX9_thing_30 : decode cX9_thing 30 = .ok (.iload_n 2, 1) := by decide +kernel
theorem dX9_thing_31 : decode cX9_thing 31 = .ok (.iadd, 1) := by decide +kernel
theorem dX9_thing_32 : decode cX9_thing 32 = .ok (.laload, 1) := by decide +kernel
theorem dX9_thing_33 : decode cX9_thing 33 = .ok (.goto 4, 3) := by decide +kernel
theorem dX9_thing_36 : decode cX9_thing 36 = .ok (.lconst 0, 1) := by decide +kernel
theorem dX9_thing_37 : decode cX9_thing 37 = .ok (.lreturn, 1) := by decide +kernel
theorem dX9_tagOf_0 : decode cX9_tagOf 0 = .ok (.iconst 1, 1) := by decide +kernel
theorem dX9_tagOf_1 : decode cX9_tagOf 1 = .ok (.lload_n 0, 1) := by decide +kernel
theorem dX9_tagOf_2 : decode cX9_tagOf 2 = .ok (.bipush 56, 2) := by decide +kernel
theorem dX9_tagOf_4 : decode cX9_tagOf 4 = .ok (.lushr, 1) := by decide +kernel
theorem dX9_tagOf_5 : decode cX9_tagOf 5 = .ok (.ldc2_w 104, 3) := by decide +kernel
theorem dX9_tagOf_8 : decode cX9_tagOf 8 = .ok (.lrem, 1) := by decide +kernel
theorem dX9_tagOf_9 : decode cX9_tagOf 9 = .ok (.l2i, 1) := by decide +kernel
theorem dX9_tagOf_10 : decode cX9_tagOf 10 = .ok (.iadd, 1) := by decide +kernel
theorem dX9_tagOf_11 : decode cX9_tagOf 11 = .ok (.ireturn, 1) := by decide +kernel
theorem dX9_otherNest_0 : decode cX9_otherNest 0 = .ok (.iload_n 0, 1) := by decide +kernel
theorem dX9_otherNest_1 : decode cX9_otherNest 1 = .ok (.iload_n 1, 1) := by decide +kernel
theorem dX9_otherNest_2 : decode cX9_otherNest 2 = .ok (.i2l, 1) := by decide +kernel
theorem dX9_otherNest_3 : decode cX9_otherNest 3 = .ok (.ldc2_w 106, 3) := by decide +kernel
theorem dX9_otherNest_6 : decode cX9_otherNest 6 = .ok (.lmul, 1) := by decide +kernel
theorem dX9_otherNest_7 : decode cX9_otherNest 7 = .ok (.bipush 8, 2) := by decide +kernel
theorem dX9_otherNest_9 : decode cX9_otherNest 9 = .ok (.lushr, 1) := by decide +kernel
theorem dX9_otherNest_10 : decode cX9_otherNest 10 = .ok (.iload_n 2, 1) := by decide +kernel
theorem dX9_otherNest_11 : decode cX9_otherNest 11 = .ok (.i2l, 1) := by decide +kernel
theorem dX9_otherNest_12 : decode cX9_otherNest 12 = .ok (.lrem, 1) := by decide +kernel
theorem dX9_otherNest_13 : decode cX9_otherNest 13 = .ok (.l2i, 1) := by decide +kernel
theorem dX9_otherNest_14 : decode cX9_otherNest 14 = .ok (.ixor, 1) := by decide +kernel
theorem dX9_otherNest_15 : decode cX9_otherNest 15 = .ok (.ireturn, 1) := by decide +kernel
set_option maxRecDepth 20000 in
theorem gu_wsX9_nestOf_1 : ∀ w ∈ ([Cond.fieldLink RX9 26 "SieveCabinetModel" "seed" "[I", Cond.constantLong RX9 86 (4294967295), Cond.fieldLink RX9 20 "SieveCabinetModel" "size" "[I", Cond.methodLink RX9 108 yX9_mix, Cond.static yX9_mix, Cond.initialized RX9, Cond.code yX9_mix cX9_mix 5 (some .long), Cond.constantLong RX9 80 (-7046029254386353131), Cond.constantLong RX9 82 (-4658895280553007687), Cond.constantLong RX9 84 (-7723592293110705685), Cond.methodLink RX9 112 yX9_tagOf, Cond.static yX9_tagOf, Cond.code yX9_tagOf cX9_tagOf 2 (some .int), Cond.constantLong RX9 104 (255), Cond.methodLink RX9 116 yX9_otherNest, Cond.static yX9_otherNest, Cond.code yX9_otherNest cX9_otherNest 3 (some .int), Cond.constantLong RX9 106 (2654435761)] : List Cond), w ∈ wsX9_nestOf := fun _ h => List.mem_cons_of_mem _ (List.mem_append_left _ h)
set_option maxRecDepth 20000 in
theorem ggX9_nestOf_X9_mix : GoodIn wsX9_nestOf wsX9_mix := goodIn_sub (gi_c (gu_wsX9_nestOf_1 _ gm_6) (gi_c (gu_wsX9_nestOf_1 _ gm_7) (gi_c (gu_wsX9_nestOf_1 _ gm_8) (gi_c (gu_wsX9_nestOf_1 _ gm_9) gi_0)))) (by decide +kernel)
set_option maxRecDepth 20000 in
theorem gX9_nestOf_X9_mix : GoodIn wsX9_nestOf (va_wsS RX9 108 yX9_mix wsX9_mix) := goodIn_app (goodIn_sub (gi_c (gu_wsX9_nestOf_1 _ gm_3) (gi_c (gu_wsX9_nestOf_1 _ gm_4) (gi_c (gu_wsX9_nestOf_1 _ gm_5) gi_0))) (by decide +kernel)) ggX9_nestOf_X9_mix
set_option maxRecDepth 20000 in
theorem ggX9_nestOf_X9_tagOf : GoodIn wsX9_nestOf wsX9_tagOf := goodIn_sub (gi_c (gu_wsX9_nestOf_1 _ gm_12) (gi_c (gu_wsX9_nestOf_1 _ gm_13) gi_0)) (by decide +kernel)
set_option maxRecDepth 20000 in
theorem gX9_nestOf_X9_tagOf : GoodIn wsX9_nestOf (va_wsS RX9 112 yX9_tagOf wsX9_tagOf) := goodIn_app (goodIn_sub (gi_c (gu_wsX9_nestOf_1 _ gm_10) (gi_c (gu_wsX9_nestOf_1 _ gm_11) (gi_c (gu_wsX9_nestOf_1 _ gm_5) gi_0))) (by decide +kernel)) ggX9_nestOf_X9_tagOf
set_option maxRecDepth 20000 in
theorem ggX9_nestOf_X9_otherNest : GoodIn wsX9_nestOf wsX9_otherNest := goodIn_sub (gi_c (gu_wsX9_nestOf_1 _ gm_16) (gi_c (gu_wsX9_nestOf_1 _ gm_17) gi_0)) (by decide +kernel)
set_option maxRecDepth 20000 in
theorem gX9_nestOf_X9_otherNest : GoodIn wsX9_nestOf (va_wsS RX9 116 yX9_otherNest wsX9_otherNest) := goodIn_app (goodIn_sub (gi_c (gu_wsX9_nestOf_1 _ gm_14) (gi_c (gu_wsX9_nestOf_1 _ gm_15) (gi_c (gu_wsX9_nestOf_1 _ gm_5) gi_0))) (by decide +kernel)) ggX9_nestOf_X9_otherNest
theorem dX9_nestOf_0 : decode cX9_nestOf 0 = .ok (.lload_n 2, 1) := by decide +kernel
theorem dX9_nestOf_1 : decode cX9_nestOf 1 = .ok (.aload_n 0, 1) := by decide +kernel
theorem dX9_nestOf_2 : decode cX9_nestOf 2 = .ok (.getfield 26, 3) := by decide +kernel
theorem dX9_nestOf_5 : decode cX9_nestOf 5 = .ok (.iload_n 1, 1) := by decide +kernel
theorem dX9_nestOf_6 : decode cX9_nestOf 6 = .ok (.iaload, 1) := by decide +kernel
theorem dX9_nestOf_7 : decode cX9_nestOf 7 = .ok (.invokestatic 108, 3) := by decide +kernel
theorem dX9_nestOf_10 : decode cX9_nestOf 10 = .ok (.lstore 5, 2) := by decide +kernel
theorem dX9_nestOf_12 : decode cX9_nestOf 12 = .ok (.lload 5, 2) := by decide +kernel
theorem dX9_nestOf_14 : decode cX9_nestOf 14 = .ok (.ldc2_w 86, 3) := by decide +kernel
theorem dX9_nestOf_17 : decode cX9_nestOf 17 = .ok (.land, 1) := by decide +kernel
theorem dX9_nestOf_18 : decode cX9_nestOf 18 = .ok (.aload_n 0, 1) := by decide +kernel
theorem dX9_nestOf_19 : decode cX9_nestOf 19 = .ok (.getfield 20, 3) := by decide +kernel
theorem dX9_nestOf_22 : decode cX9_nestOf 22 = .ok (.iload_n 1, 1) := by decide +kernel
theorem dX9_nestOf_23 : decode cX9_nestOf 23 = .ok (.iaload, 1) := by decide +kernel
theorem dX9_nestOf_24 : decode cX9_nestOf 24 = .ok (.i2l, 1) := by decide +kernel
theorem dX9_nestOf_25 : decode cX9_nestOf 25 = .ok (.lrem, 1) := by decide +kernel
theorem dX9_nestOf_26 : decode cX9_nestOf 26 = .ok (.l2i, 1) := by decide +kernel
theorem dX9_nestOf_27 : decode cX9_nestOf 27 = .ok (.istore 7, 2) := by decide +kernel
theorem dX9_nestOf_29 : decode cX9_nestOf 29 = .ok (.iload 4, 2) := by decide +kernel
theorem dX9_nestOf_31 : decode cX9_nestOf 31 = .ok (.ifCond .ne 8, 3) := by decide +kernel
theorem dX9_nestOf_34 : decode cX9_nestOf 34 = .ok (.iload 7, 2) := by decide +kernel
theorem dX9_nestOf_36 : decode cX9_nestOf 36 = .ok (.goto 19, 3) := by decide +kernel
theorem dX9_nestOf_39 : decode cX9_nestOf 39 = .ok (.iload 7, 2) := by decide +kernel
theorem dX9_nestOf_41 : decode cX9_nestOf 41 = .ok (.lload 5, 2) := by decide +kernel
theorem dX9_nestOf_43 : decode cX9_nestOf 43 = .ok (.invokestatic 112, 3) := by decide +kernel
theorem dX9_nestOf_46 : decode cX9_nestOf 46 = .ok (.aload_n 0, 1) := by decide +kernel
theorem dX9_nestOf_47 : decode cX9_nestOf 47 = .ok (.getfield 20, 3) := by decide +kernel
theorem dX9_nestOf_50 : decode cX9_nestOf 50 = .ok (.iload_n 1, 1) := by decide +kernel
theorem dX9_nestOf_51 : decode cX9_nestOf 51 = .ok (.iaload, 1) := by decide +kernel
theorem dX9_nestOf_52 : decode cX9_nestOf 52 = .ok (.invokestatic 116, 3) := by decide +kernel
theorem dX9_nestOf_55 : decode cX9_nestOf 55 = .ok (.ireturn, 1) := by decide +kernel
theorem dX9_solvedPlace_0 : decode cX9_solvedPlace 0 = .ok (.iload_n 2, 1) := by decide +kernel
theorem dX9_solvedPlace_1 : decode cX9_solvedPlace 1 = .ok (.iload_n 3, 1) := by decide +kernel
theorem dX9_solvedPlace_2 : decode cX9_solvedPlace 2 = .ok (.imul, 1) := by decide +kernel
theorem dX9_solvedPlace_3 : decode cX9_solvedPlace 3 = .ok (.lload_n 0, 1) := by decide +kernel
theorem dX9_solvedPlace_4 : decode cX9_solvedPlace 4 = .ok (.bipush 20, 2) := by decide +kernel
theorem dX9_solvedPlace_6 : decode cX9_solvedPlace 6 = .ok (.iload_n 2, 1) := by decide +kernel
theorem dX9_solvedPlace_7 : decode cX9_solvedPlace 7 = .ok (.imul, 1) := by decide +kernel
theorem dX9_solvedPlace_8 : decode cX9_solvedPlace 8 = .ok (.lushr, 1) := by decide +kernel
theorem dX9_solvedPlace_9 : decode cX9_solvedPlace 9 = .ok (.ldc2_w 120, 3) := by decide +kernel
theorem dX9_solvedPlace_12 : decode cX9_solvedPlace 12 = .ok (.land, 1) := by decide +kernel
theorem dX9_solvedPlace_13 : decode cX9_solvedPlace 13 = .ok (.iload_n 3, 1) := by decide +kernel
theorem dX9_solvedPlace_14 : decode cX9_solvedPlace 14 = .ok (.i2l, 1) := by decide +kernel
theorem dX9_solvedPlace_15 : decode cX9_solvedPlace 15 = .ok (.lrem, 1) := by decide +kernel
theorem dX9_solvedPlace_16 : decode cX9_solvedPlace 16 = .ok (.l2i, 1) := by decide +kernel
theorem dX9_solvedPlace_17 : decode cX9_solvedPlace 17 = .ok (.iadd, 1) := by decide +kernel
theorem dX9_solvedPlace_18 : decode cX9_solvedPlace 18 = .ok (.ireturn, 1) := by decide +kernel
theorem dX9_solvedTag_0 : decode cX9_solvedTag 0 = .ok (.lload_n 0, 1) := by decide +kernel
theorem dX9_solvedTag_1 : decode cX9_solvedTag 1 = .ok (.bipush 60, 2) := by decide +kernel
theorem dX9_solvedTag_3 : decode cX9_solvedTag 3 = .ok (.lushr, 1) := by decide +kernel
theorem dX9_solvedTag_4 : decode cX9_solvedTag 4 = .ok (.l2i, 1) := by decide +kernel
theorem dX9_solvedTag_5 : decode cX9_solvedTag 5 = .ok (.bipush 16, 2) := by decide +kernel
theorem dX9_solvedTag_7 : decode cX9_solvedTag 7 = .ok (.imul, 1) := by decide +kernel
theorem dX9_solvedTag_8 : decode cX9_solvedTag 8 = .ok (.lload_n 0, 1) := by decide +kernel
theorem dX9_solvedTag_9 : decode cX9_solvedTag 9 = .ok (.ldc2_w 122, 3) := by decide +kernel
theorem dX9_solvedTag_12 : decode cX9_solvedTag 12 = .ok (.land, 1) := by decide +kernel
theorem dX9_solvedTag_13 : decode cX9_solvedTag 13 = .ok (.l2i, 1) := by decide +kernel
theorem dX9_solvedTag_14 : decode cX9_solvedTag 14 = .ok (.iadd, 1) := by decide +kernel
theorem dX9_solvedTag_15 : decode cX9_solvedTag 15 = .ok (.ireturn, 1) := by decide +kernel
set_option maxRecDepth 20000 in
theorem gu_wsX9_layerLets_1 : ∀ w ∈ ([Cond.fieldLink RX9 26 "SieveCabinetModel" "seed" "[I", Cond.fieldLink RX9 43 "SieveCabinetModel" "layerSize" "[I", Cond.fieldLink RX9 40 "SieveCabinetModel" "bits" "[I", Cond.methodLink RX9 108 yX9_mix, Cond.static yX9_mix, Cond.initialized RX9, Cond.code yX9_mix cX9_mix 5 (some .long), Cond.constantLong RX9 80 (-7046029254386353131), Cond.constantLong RX9 82 (-4658895280553007687), Cond.constantLong RX9 84 (-7723592293110705685), Cond.methodLink RX9 124 yX9_markOf, Cond.static yX9_markOf, Cond.code yX9_markOf cX9_markOf 8 (some .int), Cond.constantLong RX9 86 (4294967295)] : List Cond), w ∈ wsX9_layerLets := fun _ h => List.mem_cons_of_mem _ (List.mem_append_left _ h)
set_option maxRecDepth 20000 in
theorem ggX9_layerLets_X9_mix : GoodIn wsX9_layerLets wsX9_mix := goodIn_sub (gi_c (gu_wsX9_layerLets_1 _ gm_6) (gi_c (gu_wsX9_layerLets_1 _ gm_7) (gi_c (gu_wsX9_layerLets_1 _ gm_8) (gi_c (gu_wsX9_layerLets_1 _ gm_9) gi_0)))) (by decide +kernel)
set_option maxRecDepth 20000 in
theorem gX9_layerLets_X9_mix : GoodIn wsX9_layerLets (va_wsS RX9 108 yX9_mix wsX9_mix) := goodIn_app (goodIn_sub (gi_c (gu_wsX9_layerLets_1 _ gm_3) (gi_c (gu_wsX9_layerLets_1 _ gm_4) (gi_c (gu_wsX9_layerLets_1 _ gm_5) gi_0))) (by decide +kernel)) ggX9_layerLets_X9_mix
set_option maxRecDepth 20000 in
theorem ggX9_layerLets_X9_markOf : GoodIn wsX9_layerLets wsX9_markOf := goodIn_sub (gi_c (gu_wsX9_layerLets_1 _ gm_12) (gi_c (gu_wsX9_layerLets_1 _ gm_13) gi_0)) (by decide +kernel)
set_option maxRecDepth 20000 in
theorem gX9_layerLets_X9_markOf : GoodIn wsX9_layerLets (va_wsS RX9 124 yX9_markOf wsX9_markOf) := goodIn_app (goodIn_sub (gi_c (gu_wsX9_layerLets_1 _ gm_10) (gi_c (gu_wsX9_layerLets_1 _ gm_11) (gi_c (gu_wsX9_layerLets_1 _ gm_5) gi_0))) (by decide +kernel)) ggX9_layerLets_X9_markOf
theorem dX9_layerLets_0 : decode cX9_layerLets 0 = .ok (.lload_n 3, 1) := by decide +kernel
theorem dX9_layerLets_1 : decode cX9_layerLets 1 = .ok (.aload_n 0, 1) := by decide +kernel
theorem dX9_layerLets_2 : decode cX9_layerLets 2 = .ok (.getfield 26, 3) := by decide +kernel
theorem dX9_layerLets_5 : decode cX9_layerLets 5 = .ok (.iload_n 1, 1) := by decide +kernel
theorem dX9_layerLets_6 : decode cX9_layerLets 6 = .ok (.iaload, 1) := by decide +kernel
theorem dX9_layerLets_7 : decode cX9_layerLets 7 = .ok (.iload_n 2, 1) := by decide +kernel
theorem dX9_layerLets_8 : decode cX9_layerLets 8 = .ok (.iadd, 1) := by decide +kernel
theorem dX9_layerLets_9 : decode cX9_layerLets 9 = .ok (.invokestatic 108, 3) := by decide +kernel
theorem dX9_layerLets_12 : decode cX9_layerLets 12 = .ok (.lstore 5, 2) := by decide +kernel
theorem dX9_layerLets_14 : decode cX9_layerLets 14 = .ok (.iconst 1, 1) := by decide +kernel
theorem dX9_layerLets_15 : decode cX9_layerLets 15 = .ok (.istore 7, 2) := by decide +kernel
theorem dX9_layerLets_17 : decode cX9_layerLets 17 = .ok (.iconst 0, 1) := by decide +kernel
theorem dX9_layerLets_18 : decode cX9_layerLets 18 = .ok (.istore 8, 2) := by decide +kernel
theorem dX9_layerLets_20 : decode cX9_layerLets 20 = .ok (.iload 8, 2) := by decide +kernel
theorem dX9_layerLets_22 : decode cX9_layerLets 22 = .ok (.iconst 3, 1) := by decide +kernel
theorem dX9_layerLets_23 : decode cX9_layerLets 23 = .ok (.if_icmp .ge 74, 3) := by decide +kernel
theorem dX9_layerLets_26 : decode cX9_layerLets 26 = .ok (.lload 5, 2) := by decide +kernel
theorem dX9_layerLets_28 : decode cX9_layerLets 28 = .ok (.iload 8, 2) := by decide +kernel
theorem dX9_layerLets_30 : decode cX9_layerLets 30 = .ok (.aload_n 0, 1) := by decide +kernel
theorem dX9_layerLets_31 : decode cX9_layerLets 31 = .ok (.getfield 43, 3) := by decide +kernel
theorem dX9_layerLets_34 : decode cX9_layerLets 34 = .ok (.iload_n 1, 1) := by decide +kernel
theorem dX9_layerLets_35 : decode cX9_layerLets 35 = .ok (.bipush 20, 2) := by decide +kernel
theorem dX9_layerLets_37 : decode cX9_layerLets 37 = .ok (.imul, 1) := by decide +kernel
theorem dX9_layerLets_38 : decode cX9_layerLets 38 = .ok (.iload_n 2, 1) := by decide +kernel
theorem dX9_layerLets_39 : decode cX9_layerLets 39 = .ok (.iadd, 1) := by decide +kernel
theorem dX9_layerLets_40 : decode cX9_layerLets 40 = .ok (.iaload, 1) := by decide +kernel
theorem dX9_layerLets_41 : decode cX9_layerLets 41 = .ok (.invokestatic 124, 3) := by decide +kernel
theorem dX9_layerLets_44 : decode cX9_layerLets 44 = .ok (.istore 9, 2) := by decide +kernel
theorem dX9_layerLets_46 : decode cX9_layerLets 46 = .ok (.iload 7, 2) := by decide +kernel
theorem dX9_layerLets_48 : decode cX9_layerLets 48 = .ok (.ifCond .eq 40, 3) := by decide +kernel
theorem dX9_layerLets_51 : decode cX9_layerLets 51 = .ok (.aload_n 0, 1) := by decide +kernel
theorem dX9_layerLets_52 : decode cX9_layerLets 52 = .ok (.getfield 40, 3) := by decide +kernel
theorem dX9_layerLets_55 : decode cX9_layerLets 55 = .ok (.iload_n 1, 1) := by decide +kernel
theorem dX9_layerLets_56 : decode cX9_layerLets 56 = .ok (.bipush 20, 2) := by decide +kernel
theorem dX9_layerLets_58 : decode cX9_layerLets 58 = .ok (.imul, 1) := by decide +kernel
theorem dX9_layerLets_59 : decode cX9_layerLets 59 = .ok (.iload_n 2, 1) := by decide +kernel
theorem dX9_layerLets_60 : decode cX9_layerLets 60 = .ok (.iadd, 1) := by decide +kernel
theorem dX9_layerLets_61 : decode cX9_layerLets 61 = .ok (.sipush 128, 3) := by decide +kernel
theorem dX9_layerLets_64 : decode cX9_layerLets 64 = .ok (.imul, 1) := by decide +kernel
theorem dX9_layerLets_65 : decode cX9_layerLets 65 = .ok (.iload 9, 2) := by decide +kernel
theorem dX9_layerLets_67 : decode cX9_layerLets 67 = .ok (.bipush 32, 2) := by decide +kernel
theorem dX9_layerLets_69 : decode cX9_layerLets 69 = .ok (.idiv, 1) := by decide +kernel
theorem dX9_layerLets_70 : decode cX9_layerLets 70 = .ok (.iadd, 1) := by decide +kernel
theorem dX9_layerLets_71 : decode cX9_layerLets 71 = .ok (.iaload, 1) := by decide +kernel
theorem dX9_layerLets_72 : decode cX9_layerLets 72 = .ok (.iload 9, 2) := by decide +kernel
theorem dX9_layerLets_74 : decode cX9_layerLets 74 = .ok (.bipush 32, 2) := by decide +kernel
theorem dX9_layerLets_76 : decode cX9_layerLets 76 = .ok (.irem, 1) := by decide +kernel
theorem dX9_layerLets_77 : decode cX9_layerLets 77 = .ok (.ishr, 1) := by decide +kernel
theorem dX9_layerLets_78 : decode cX9_layerLets 78 = .ok (.iconst 1, 1) := by decide +kernel
theorem dX9_layerLets_79 : decode cX9_layerLets 79 = .ok (.iand, 1) := by decide +kernel
theorem dX9_layerLets_80 : decode cX9_layerLets 80 = .ok (.iconst 1, 1) := by decide +kernel
theorem dX9_layerLets_81 : decode cX9_layerLets 81 = .ok (.if_icmp .ne 7, 3) := by decide +kernel
theorem dX9_layerLets_84 : decode cX9_layerLets 84 = .ok (.iconst 1, 1) := by decide +kernel
theorem dX9_layerLets_85 : decode cX9_layerLets 85 = .ok (.goto 4, 3) := by decide +kernel
theorem dX9_layerLets_88 : decode cX9_layerLets 88 = .ok (.iconst 0, 1) := by decide +kernel
theorem dX9_layerLets_89 : decode cX9_layerLets 89 = .ok (.istore 7, 2) := by decide +kernel
theorem dX9_layerLets_91 : decode cX9_layerLets 91 = .ok (.iinc 8 1, 3) := by decide +kernel
theorem dX9_layerLets_94 : decode cX9_layerLets 94 = .ok (.goto (-74), 3) := by decide +kernel
theorem dX9_layerLets_97 : decode cX9_layerLets 97 = .ok (.iload 7, 2) := by decide +kernel
theorem dX9_layerLets_99 : decode cX9_layerLets 99 = .ok (.ireturn, 1) := by decide +kernel
set_option maxRecDepth 20000 in
theorem gu_wsX9_layeredLets_1 : ∀ w ∈ ([Cond.fieldLink RX9 20 "SieveCabinetModel" "size" "[I", Cond.fieldLink RX9 52 "SieveCabinetModel" "restMany" "[I", Cond.fieldLink RX9 49 "SieveCabinetModel" "rest" "[J", Cond.methodLink RX9 128 yX9_layerLets, Cond.instanceMethod yX9_layerLets, Cond.selects RX9 yX9_layerLets yX9_layerLets, Cond.initialized RX9, Cond.code yX9_layerLets cX9_layerLets 10 (some .boolean), Cond.fieldLink RX9 26 "SieveCabinetModel" "seed" "[I", Cond.fieldLink RX9 43 "SieveCabinetModel" "layerSize" "[I", Cond.fieldLink RX9 40 "SieveCabinetModel" "bits" "[I", Cond.methodLink RX9 108 yX9_mix, Cond.static yX9_mix, Cond.code yX9_mix cX9_mix 5 (some .long), Cond.constantLong RX9 80 (-7046029254386353131), Cond.constantLong RX9 82 (-4658895280553007687), Cond.constantLong RX9 84 (-7723592293110705685), Cond.methodLink RX9 124 yX9_markOf, Cond.static yX9_markOf, Cond.code yX9_markOf cX9_markOf 8 (some .int), Cond.constantLong RX9 86 (4294967295)] : List Cond), w ∈ wsX9_layeredLets := fun _ h => List.mem_cons_of_mem _ (List.mem_append_left _ h)
set_option maxRecDepth 20000 in
theorem gu_wsX9_layeredLets_2 : ∀ w ∈ wsX90, w ∈ wsX9_layeredLets := fun _ h => List.mem_cons_of_mem _ (List.mem_append_right _ h)
set_option maxRecDepth 20000 in
theorem ggX9_layeredLets_X9_layerLets : GoodIn wsX9_layeredLets wsX9_layerLets := goodIn_sub (gi_c (gu_wsX9_layeredLets_1 _ gm_7) (gi_a (gi_c (gu_wsX9_layeredLets_1 _ gm_8) (gi_c (gu_wsX9_layeredLets_1 _ gm_9) (gi_c (gu_wsX9_layeredLets_1 _ gm_10) (gi_c (gu_wsX9_layeredLets_1 _ gm_11) (gi_c (gu_wsX9_layeredLets_1 _ gm_12) (gi_c (gu_wsX9_layeredLets_1 _ gm_6) (gi_c (gu_wsX9_layeredLets_1 _ gm_13) (gi_c (gu_wsX9_layeredLets_1 _ gm_14) (gi_c (gu_wsX9_layeredLets_1 _ gm_15) (gi_c (gu_wsX9_layeredLets_1 _ gm_16) (gi_c (gu_wsX9_layeredLets_1 _ gm_17) (gi_c (gu_wsX9_layeredLets_1 _ gm_18) (gi_c (gu_wsX9_layeredLets_1 _ gm_19) (gi_c (gu_wsX9_layeredLets_1 _ gm_20) gi_0)))))))))))))) (gu_wsX9_layeredLets_2))) (by decide +kernel)
set_option maxRecDepth 20000 in
theorem gX9_layeredLets_X9_layerLets : GoodIn wsX9_layeredLets (wsV RX9 128 RX9 yX9_layerLets wsX9_layerLets) := goodIn_app (goodIn_sub (gi_c (gu_wsX9_layeredLets_1 _ gm_3) (gi_c (gu_wsX9_layeredLets_1 _ gm_4) (gi_c (gu_wsX9_layeredLets_1 _ gm_5) (gi_c (gu_wsX9_layeredLets_1 _ gm_6) gi_0)))) (by decide +kernel)) ggX9_layeredLets_X9_layerLets
theorem dX9_layeredLets_0 : decode cX9_layeredLets 0 = .ok (.iconst 0, 1) := by decide +kernel
theorem dX9_layeredLets_1 : decode cX9_layeredLets 1 = .ok (.istore 4, 2) := by decide +kernel
theorem dX9_layeredLets_3 : decode cX9_layeredLets 3 = .ok (.iload 4, 2) := by decide +kernel
theorem dX9_layeredLets_5 : decode cX9_layeredLets 5 = .ok (.aload_n 0, 1) := by decide +kernel
theorem dX9_layeredLets_6 : decode cX9_layeredLets 6 = .ok (.getfield 20, 3) := by decide +kernel
theorem dX9_layeredLets_9 : decode cX9_layeredLets 9 = .ok (.iload_n 1, 1) := by decide +kernel
theorem dX9_layeredLets_10 : decode cX9_layeredLets 10 = .ok (.iaload, 1) := by decide +kernel
theorem dX9_layeredLets_11 : decode cX9_layeredLets 11 = .ok (.if_icmp .ge 34, 3) := by decide +kernel
theorem dX9_layeredLets_14 : decode cX9_layeredLets 14 = .ok (.aload_n 0, 1) := by decide +kernel
theorem dX9_layeredLets_15 : decode cX9_layeredLets 15 = .ok (.iload_n 1, 1) := by decide +kernel
theorem dX9_layeredLets_16 : decode cX9_layeredLets 16 = .ok (.iload 4, 2) := by decide +kernel
theorem dX9_layeredLets_18 : decode cX9_layeredLets 18 = .ok (.lload_n 2, 1) := by decide +kernel
theorem dX9_layeredLets_19 : decode cX9_layeredLets 19 = .ok (.invokevirtual 128, 3) := by decide +kernel
theorem dX9_layeredLets_22 : decode cX9_layeredLets 22 = .ok (.ifCond .ne 17, 3) := by decide +kernel
theorem dX9_layeredLets_25 : decode cX9_layeredLets 25 = .ok (.iload 4, 2) := by decide +kernel
theorem dX9_layeredLets_27 : decode cX9_layeredLets 27 = .ok (.iconst 2, 1) := by decide +kernel
theorem dX9_layeredLets_28 : decode cX9_layeredLets 28 = .ok (.irem, 1) := by decide +kernel
theorem dX9_layeredLets_29 : decode cX9_layeredLets 29 = .ok (.iconst 1, 1) := by decide +kernel
theorem dX9_layeredLets_30 : decode cX9_layeredLets 30 = .ok (.if_icmp .ne 7, 3) := by decide +kernel
theorem dX9_layeredLets_33 : decode cX9_layeredLets 33 = .ok (.iconst 1, 1) := by decide +kernel
theorem dX9_layeredLets_34 : decode cX9_layeredLets 34 = .ok (.goto 4, 3) := by decide +kernel
theorem dX9_layeredLets_37 : decode cX9_layeredLets 37 = .ok (.iconst 0, 1) := by decide +kernel
theorem dX9_layeredLets_38 : decode cX9_layeredLets 38 = .ok (.ireturn, 1) := by decide +kernel
theorem dX9_layeredLets_39 : decode cX9_layeredLets 39 = .ok (.iinc 4 1, 3) := by decide +kernel
theorem dX9_layeredLets_42 : decode cX9_layeredLets 42 = .ok (.goto (-39), 3) := by decide +kernel
theorem dX9_layeredLets_45 : decode cX9_layeredLets 45 = .ok (.aload_n 0, 1) := by decide +kernel
theorem dX9_layeredLets_46 : decode cX9_layeredLets 46 = .ok (.getfield 20, 3) := by decide +kernel
theorem dX9_layeredLets_49 : decode cX9_layeredLets 49 = .ok (.iload_n 1, 1) := by decide +kernel
theorem dX9_layeredLets_50 : decode cX9_layeredLets 50 = .ok (.iaload, 1) := by decide +kernel
theorem dX9_layeredLets_51 : decode cX9_layeredLets 51 = .ok (.iconst 2, 1) := by decide +kernel
theorem dX9_layeredLets_52 : decode cX9_layeredLets 52 = .ok (.irem, 1) := by decide +kernel
theorem dX9_layeredLets_53 : decode cX9_layeredLets 53 = .ok (.iconst 1, 1) := by decide +kernel
theorem dX9_layeredLets_54 : decode cX9_layeredLets 54 = .ok (.if_icmp .ne 7, 3) := by decide +kernel
theorem dX9_layeredLets_57 : decode cX9_layeredLets 57 = .ok (.iconst 1, 1) := by decide +kernel
theorem dX9_layeredLets_58 : decode cX9_layeredLets 58 = .ok (.goto 4, 3) := by decide +kernel
theorem dX9_layeredLets_61 : decode cX9_layeredLets 61 = .ok (.iconst 0, 1) := by decide +kernel
theorem dX9_layeredLets_62 : decode cX9_layeredLets 62 = .ok (.istore 4, 2) := by decide +kernel
theorem dX9_layeredLets_64 : decode cX9_layeredLets 64 = .ok (.aload_n 0, 1) := by decide +kernel
theorem dX9_layeredLets_65 : decode cX9_layeredLets 65 = .ok (.getfield 52, 3) := by decide +kernel
theorem dX9_layeredLets_68 : decode cX9_layeredLets 68 = .ok (.iload_n 1, 1) := by decide +kernel
theorem dX9_layeredLets_69 : decode cX9_layeredLets 69 = .ok (.iaload, 1) := by decide +kernel
theorem dX9_layeredLets_70 : decode cX9_layeredLets 70 = .ok (.ifCond .ne 6, 3) := by decide +kernel
theorem dX9_layeredLets_73 : decode cX9_layeredLets 73 = .ok (.iload 4, 2) := by decide +kernel
theorem dX9_layeredLets_75 : decode cX9_layeredLets 75 = .ok (.ireturn, 1) := by decide +kernel
theorem dX9_layeredLets_76 : decode cX9_layeredLets 76 = .ok (.iconst 0, 1) := by decide +kernel
theorem dX9_layeredLets_77 : decode cX9_layeredLets 77 = .ok (.istore 5, 2) := by decide +kernel
theorem dX9_layeredLets_79 : decode cX9_layeredLets 79 = .ok (.iconst 0, 1) := by decide +kernel
theorem dX9_layeredLets_80 : decode cX9_layeredLets 80 = .ok (.istore 6, 2) := by decide +kernel
theorem dX9_layeredLets_82 : decode cX9_layeredLets 82 = .ok (.iload 6, 2) := by decide +kernel
theorem dX9_layeredLets_84 : decode cX9_layeredLets 84 = .ok (.aload_n 0, 1) := by decide +kernel
theorem dX9_layeredLets_85 : decode cX9_layeredLets 85 = .ok (.getfield 52, 3) := by decide +kernel
theorem dX9_layeredLets_88 : decode cX9_layeredLets 88 = .ok (.iload_n 1, 1) := by decide +kernel
theorem dX9_layeredLets_89 : decode cX9_layeredLets 89 = .ok (.iaload, 1) := by decide +kernel
theorem dX9_layeredLets_90 : decode cX9_layeredLets 90 = .ok (.if_icmp .ge 39, 3) := by decide +kernel
theorem dX9_layeredLets_93 : decode cX9_layeredLets 93 = .ok (.iload 5, 2) := by decide +kernel
theorem dX9_layeredLets_95 : decode cX9_layeredLets 95 = .ok (.ifCond .ne 21, 3) := by decide +kernel
theorem dX9_layeredLets_98 : decode cX9_layeredLets 98 = .ok (.aload_n 0, 1) := by decide +kernel
theorem dX9_layeredLets_99 : decode cX9_layeredLets 99 = .ok (.getfield 49, 3) := by decide +kernel
theorem dX9_layeredLets_102 : decode cX9_layeredLets 102 = .ok (.iload_n 1, 1) := by decide +kernel
theorem dX9_layeredLets_103 : decode cX9_layeredLets 103 = .ok (.sipush 1000, 3) := by decide +kernel
theorem dX9_layeredLets_106 : decode cX9_layeredLets 106 = .ok (.imul, 1) := by decide +kernel
theorem dX9_layeredLets_107 : decode cX9_layeredLets 107 = .ok (.iload 6, 2) := by decide +kernel
theorem dX9_layeredLets_109 : decode cX9_layeredLets 109 = .ok (.iadd, 1) := by decide +kernel
theorem dX9_layeredLets_110 : decode cX9_layeredLets 110 = .ok (.laload, 1) := by decide +kernel
theorem dX9_layeredLets_111 : decode cX9_layeredLets 111 = .ok (.lload_n 2, 1) := by decide +kernel
theorem dX9_layeredLets_112 : decode cX9_layeredLets 112 = .ok (.lcmp, 1) := by decide +kernel
theorem dX9_layeredLets_113 : decode cX9_layeredLets 113 = .ok (.ifCond .ne 7, 3) := by decide +kernel
theorem dX9_layeredLets_116 : decode cX9_layeredLets 116 = .ok (.iconst 1, 1) := by decide +kernel
theorem dX9_layeredLets_117 : decode cX9_layeredLets 117 = .ok (.goto 4, 3) := by decide +kernel
theorem dX9_layeredLets_120 : decode cX9_layeredLets 120 = .ok (.iconst 0, 1) := by decide +kernel
theorem dX9_layeredLets_121 : decode cX9_layeredLets 121 = .ok (.istore 5, 2) := by decide +kernel
theorem dX9_layeredLets_123 : decode cX9_layeredLets 123 = .ok (.iinc 6 1, 3) := by decide +kernel
theorem dX9_layeredLets_126 : decode cX9_layeredLets 126 = .ok (.goto (-44), 3) := by decide +kernel
theorem dX9_layeredLets_129 : decode cX9_layeredLets 129 = .ok (.iload 4, 2) := by decide +kernel
theorem dX9_layeredLets_131 : decode cX9_layeredLets 131 = .ok (.iload 5, 2) := by decide +kernel
theorem dX9_layeredLets_133 : decode cX9_layeredLets 133 = .ok (.if_icmp .eq 7, 3) := by decide +kernel
theorem dX9_layeredLets_136 : decode cX9_layeredLets 136 = .ok (.iconst 1, 1) := by decide +kernel
theorem dX9_layeredLets_137 : decode cX9_layeredLets 137 = .ok (.goto 4, 3) := by decide +kernel
theorem dX9_layeredLets_140 : decode cX9_layeredLets 140 = .ok (.iconst 0, 1) := by decide +kernel
theorem dX9_layeredLets_141 : decode cX9_layeredLets 141 = .ok (.ireturn, 1) := by decide +kernel
set_option maxRecDepth 20000 in
theorem gu_wsX9_letsThrough_1 : ∀ w ∈ wsX9_letsThrough_r1, w ∈ wsX9_letsThrough := fun _ h => List.mem_cons_of_mem _ (List.mem_append_left _ (List.mem_append_left _ h))
set_option maxRecDepth 20000 in
theorem ggX9_letsThrough_X9_mix : GoodIn wsX9_letsThrough wsX9_mix := goodIn_sub (gi_c (gu_wsX9_letsThrough_1 _ gm_8) (gi_c (gu_wsX9_letsThrough_1 _ gm_9) (gi_c (gu_wsX9_letsThrough_1 _ gm_10) (gi_c (gu_wsX9_letsThrough_1 _ gm_11) gi_0)))) (by decide +kernel)
set_option maxRecDepth 20000 in
theorem gX9_letsThrough_X9_mix : GoodIn wsX9_letsThrough (va_wsS RX9 108 yX9_mix wsX9_mix) := goodIn_app (goodIn_sub (gi_c (gu_wsX9_letsThrough_1 _ gm_5) (gi_c (gu_wsX9_letsThrough_1 _ gm_6) (gi_c (gu_wsX9_letsThrough_1 _ gm_7) gi_0))) (by decide +kernel)) ggX9_letsThrough_X9_mix
set_option maxRecDepth 20000 in
theorem gu_wsX9_letsThrough_2 : ∀ w ∈ wsX9_letsThrough_r2, w ∈ wsX9_letsThrough := fun _ h => List.mem_cons_of_mem _ (List.mem_append_left _ (List.mem_append_right _ h))
set_option maxRecDepth 20000 in
theorem gu_wsX9_letsThrough_3 : ∀ w ∈ wsX90, w ∈ wsX9_letsThrough := fun _ h => List.mem_cons_of_mem _ (List.mem_append_right _ h)
set_option maxRecDepth 20000 in
theorem ggX9_letsThrough_X9_layeredLets : GoodIn wsX9_letsThrough wsX9_layeredLets := goodIn_sub (gi_c (gu_wsX9_letsThrough_1 _ gm_15) (gi_a (gi_c (gu_wsX9_letsThrough_1 _ gm_3) (gi_c (gu_wsX9_letsThrough_1 _ gm_16) (gi_c (gu_wsX9_letsThrough_1 _ gm_17) (gi_c (gu_wsX9_letsThrough_1 _ gm_18) (gi_c (gu_wsX9_letsThrough_1 _ gm_19) (gi_c (gu_wsX9_letsThrough_1 _ gm_20) (gi_c (gu_wsX9_letsThrough_1 _ gm_7) (gi_c (gu_wsX9_letsThrough_1 _ gm_21) (gi_c (gu_wsX9_letsThrough_1 _ gm_0) (gi_c (gu_wsX9_letsThrough_1 _ gm_22) (gi_c (gu_wsX9_letsThrough_1 _ gm_23) (gi_c (gu_wsX9_letsThrough_1 _ gm_5) (gi_c (gu_wsX9_letsThrough_1 _ gm_6) (gi_c (gu_wsX9_letsThrough_1 _ gm_8) (gi_c (gu_wsX9_letsThrough_1 _ gm_9) (gi_c (gu_wsX9_letsThrough_1 _ gm_10) (gi_c (gu_wsX9_letsThrough_1 _ gm_11) (gi_c (gu_wsX9_letsThrough_2 _ gm_0) (gi_c (gu_wsX9_letsThrough_2 _ gm_1) (gi_c (gu_wsX9_letsThrough_2 _ gm_2) (gi_c (gu_wsX9_letsThrough_2 _ gm_3) gi_0))))))))))))))))))))) (gu_wsX9_letsThrough_3))) (by decide +kernel)
set_option maxRecDepth 20000 in
theorem gX9_letsThrough_X9_layeredLets : GoodIn wsX9_letsThrough (wsV RX9 132 RX9 yX9_layeredLets wsX9_layeredLets) := goodIn_app (goodIn_sub (gi_c (gu_wsX9_letsThrough_1 _ gm_12) (gi_c (gu_wsX9_letsThrough_1 _ gm_13) (gi_c (gu_wsX9_letsThrough_1 _ gm_14) (gi_c (gu_wsX9_letsThrough_1 _ gm_7) gi_0)))) (by decide +kernel)) ggX9_letsThrough_X9_layeredLets
set_option maxRecDepth 20000 in
theorem ggX9_letsThrough_X9_solvedTag : GoodIn wsX9_letsThrough wsX9_solvedTag := goodIn_sub (gi_c (gu_wsX9_letsThrough_2 _ gm_6) (gi_c (gu_wsX9_letsThrough_2 _ gm_7) gi_0)) (by decide +kernel)
set_option maxRecDepth 20000 in
theorem gX9_letsThrough_X9_solvedTag : GoodIn wsX9_letsThrough (va_wsS RX9 136 yX9_solvedTag wsX9_solvedTag) := goodIn_app (goodIn_sub (gi_c (gu_wsX9_letsThrough_2 _ gm_4) (gi_c (gu_wsX9_letsThrough_2 _ gm_5) (gi_c (gu_wsX9_letsThrough_1 _ gm_7) gi_0))) (by decide +kernel)) ggX9_letsThrough_X9_solvedTag
set_option maxRecDepth 20000 in
theorem ggX9_letsThrough_X9_solvedPlace : GoodIn wsX9_letsThrough wsX9_solvedPlace := goodIn_sub (gi_c (gu_wsX9_letsThrough_2 _ gm_10) (gi_c (gu_wsX9_letsThrough_2 _ gm_11) gi_0)) (by decide +kernel)
set_option maxRecDepth 20000 in
theorem gX9_letsThrough_X9_solvedPlace : GoodIn wsX9_letsThrough (va_wsS RX9 139 yX9_solvedPlace wsX9_solvedPlace) := goodIn_app (goodIn_sub (gi_c (gu_wsX9_letsThrough_2 _ gm_8) (gi_c (gu_wsX9_letsThrough_2 _ gm_9) (gi_c (gu_wsX9_letsThrough_1 _ gm_7) gi_0))) (by decide +kernel)) ggX9_letsThrough_X9_solvedPlace
set_option maxRecDepth 20000 in
theorem ggX9_letsThrough_X9_nestOf : GoodIn wsX9_letsThrough wsX9_nestOf := goodIn_sub (gi_c (gu_wsX9_letsThrough_2 _ gm_15) (gi_a (gi_c (gu_wsX9_letsThrough_1 _ gm_0) (gi_c (gu_wsX9_letsThrough_2 _ gm_3) (gi_c (gu_wsX9_letsThrough_1 _ gm_3) (gi_c (gu_wsX9_letsThrough_1 _ gm_5) (gi_c (gu_wsX9_letsThrough_1 _ gm_6) (gi_c (gu_wsX9_letsThrough_1 _ gm_7) (gi_c (gu_wsX9_letsThrough_1 _ gm_8) (gi_c (gu_wsX9_letsThrough_1 _ gm_9) (gi_c (gu_wsX9_letsThrough_1 _ gm_10) (gi_c (gu_wsX9_letsThrough_1 _ gm_11) (gi_c (gu_wsX9_letsThrough_2 _ gm_16) (gi_c (gu_wsX9_letsThrough_2 _ gm_17) (gi_c (gu_wsX9_letsThrough_2 _ gm_18) (gi_c (gu_wsX9_letsThrough_2 _ gm_19) (gi_c (gu_wsX9_letsThrough_2 _ gm_20) (gi_c (gu_wsX9_letsThrough_2 _ gm_21) (gi_c (gu_wsX9_letsThrough_2 _ gm_22) (gi_c (gu_wsX9_letsThrough_2 _ gm_23) gi_0)))))))))))))))))) (gu_wsX9_letsThrough_3))) (by decide +kernel)
set_option maxRecDepth 20000 in
theorem gX9_letsThrough_X9_nestOf : GoodIn wsX9_letsThrough (wsV RX9 142 RX9 yX9_nestOf wsX9_nestOf) := goodIn_app (goodIn_sub (gi_c (gu_wsX9_letsThrough_2 _ gm_12) (gi_c (gu_wsX9_letsThrough_2 _ gm_13) (gi_c (gu_wsX9_letsThrough_2 _ gm_14) (gi_c (gu_wsX9_letsThrough_1 _ gm_7) gi_0)))) (by decide +kernel)) ggX9_letsThrough_X9_nestOf
set_option maxRecDepth 20000 in
theorem ggX9_letsThrough_X9_tagOf : GoodIn wsX9_letsThrough wsX9_tagOf := goodIn_sub (gi_c (gu_wsX9_letsThrough_2 _ gm_18) (gi_c (gu_wsX9_letsThrough_2 _ gm_19) gi_0)) (by decide +kernel)
set_option maxRecDepth 20000 in
theorem gX9_letsThrough_X9_tagOf : GoodIn wsX9_letsThrough (va_wsS RX9 112 yX9_tagOf wsX9_tagOf) := goodIn_app (goodIn_sub (gi_c (gu_wsX9_letsThrough_2 _ gm_16) (gi_c (gu_wsX9_letsThrough_2 _ gm_17) (gi_c (gu_wsX9_letsThrough_1 _ gm_7) gi_0))) (by decide +kernel)) ggX9_letsThrough_X9_tagOf
set_option maxRecDepth 20000 in
theorem ggX9_letsThrough_X9_markOf : GoodIn wsX9_letsThrough wsX9_markOf := goodIn_sub (gi_c (gu_wsX9_letsThrough_2 _ gm_2) (gi_c (gu_wsX9_letsThrough_2 _ gm_3) gi_0)) (by decide +kernel)
set_option maxRecDepth 20000 in
theorem gX9_letsThrough_X9_markOf : GoodIn wsX9_letsThrough (va_wsS RX9 124 yX9_markOf wsX9_markOf) := goodIn_app (goodIn_sub (gi_c (gu_wsX9_letsThrough_2 _ gm_0) (gi_c (gu_wsX9_letsThrough_2 _ gm_1) (gi_c (gu_wsX9_letsThrough_1 _ gm_7) gi_0))) (by decide +kernel)) ggX9_letsThrough_X9_markOf
theorem dX9_letsThrough_0 : decode cX9_letsThrough 0 = .ok (.lload_n 2, 1) := by decide +kernel
theorem dX9_letsThrough_1 : decode cX9_letsThrough 1 = .ok (.aload_n 0, 1) := by decide +kernel
theorem dX9_letsThrough_2 : decode cX9_letsThrough 2 = .ok (.getfield 26, 3) := by decide +kernel
theorem dX9_letsThrough_5 : decode cX9_letsThrough 5 = .ok (.iload_n 1, 1) := by decide +kernel
theorem dX9_letsThrough_6 : decode cX9_letsThrough 6 = .ok (.iaload, 1) := by decide +kernel
theorem dX9_letsThrough_7 : decode cX9_letsThrough 7 = .ok (.invokestatic 108, 3) := by decide +kernel
theorem dX9_letsThrough_10 : decode cX9_letsThrough 10 = .ok (.lstore 4, 2) := by decide +kernel
theorem dX9_letsThrough_12 : decode cX9_letsThrough 12 = .ok (.iload_n 1, 1) := by decide +kernel
theorem dX9_letsThrough_13 : decode cX9_letsThrough 13 = .ok (.sipush 4096, 3) := by decide +kernel
theorem dX9_letsThrough_16 : decode cX9_letsThrough 16 = .ok (.imul, 1) := by decide +kernel
theorem dX9_letsThrough_17 : decode cX9_letsThrough 17 = .ok (.istore 6, 2) := by decide +kernel
theorem dX9_letsThrough_19 : decode cX9_letsThrough 19 = .ok (.aload_n 0, 1) := by decide +kernel
theorem dX9_letsThrough_20 : decode cX9_letsThrough 20 = .ok (.getfield 17, 3) := by decide +kernel
theorem dX9_letsThrough_23 : decode cX9_letsThrough 23 = .ok (.iload_n 1, 1) := by decide +kernel
theorem dX9_letsThrough_24 : decode cX9_letsThrough 24 = .ok (.iaload, 1) := by decide +kernel
theorem dX9_letsThrough_25 : decode cX9_letsThrough 25 = .ok (.iconst 4, 1) := by decide +kernel
theorem dX9_letsThrough_26 : decode cX9_letsThrough 26 = .ok (.if_icmp .ne 10, 3) := by decide +kernel
theorem dX9_letsThrough_29 : decode cX9_letsThrough 29 = .ok (.aload_n 0, 1) := by decide +kernel
theorem dX9_letsThrough_30 : decode cX9_letsThrough 30 = .ok (.iload_n 1, 1) := by decide +kernel
theorem dX9_letsThrough_31 : decode cX9_letsThrough 31 = .ok (.lload_n 2, 1) := by decide +kernel
theorem dX9_letsThrough_32 : decode cX9_letsThrough 32 = .ok (.invokevirtual 132, 3) := by decide +kernel
theorem dX9_letsThrough_35 : decode cX9_letsThrough 35 = .ok (.ireturn, 1) := by decide +kernel
theorem dX9_letsThrough_36 : decode cX9_letsThrough 36 = .ok (.aload_n 0, 1) := by decide +kernel
theorem dX9_letsThrough_37 : decode cX9_letsThrough 37 = .ok (.getfield 17, 3) := by decide +kernel
theorem dX9_letsThrough_40 : decode cX9_letsThrough 40 = .ok (.iload_n 1, 1) := by decide +kernel
theorem dX9_letsThrough_41 : decode cX9_letsThrough 41 = .ok (.iaload, 1) := by decide +kernel
theorem dX9_letsThrough_42 : decode cX9_letsThrough 42 = .ok (.iconst 3, 1) := by decide +kernel
theorem dX9_letsThrough_43 : decode cX9_letsThrough 43 = .ok (.if_icmp .ne 62, 3) := by decide +kernel
theorem dX9_letsThrough_46 : decode cX9_letsThrough 46 = .ok (.lload 4, 2) := by decide +kernel
theorem dX9_letsThrough_48 : decode cX9_letsThrough 48 = .ok (.invokestatic 136, 3) := by decide +kernel
theorem dX9_letsThrough_51 : decode cX9_letsThrough 51 = .ok (.istore 7, 2) := by decide +kernel
theorem dX9_letsThrough_53 : decode cX9_letsThrough 53 = .ok (.iconst 0, 1) := by decide +kernel
theorem dX9_letsThrough_54 : decode cX9_letsThrough 54 = .ok (.istore 8, 2) := by decide +kernel
theorem dX9_letsThrough_56 : decode cX9_letsThrough 56 = .ok (.iload 8, 2) := by decide +kernel
theorem dX9_letsThrough_58 : decode cX9_letsThrough 58 = .ok (.iconst 3, 1) := by decide +kernel
theorem dX9_letsThrough_59 : decode cX9_letsThrough 59 = .ok (.if_icmp .ge 35, 3) := by decide +kernel
theorem dX9_letsThrough_62 : decode cX9_letsThrough 62 = .ok (.iload 7, 2) := by decide +kernel
theorem dX9_letsThrough_64 : decode cX9_letsThrough 64 = .ok (.aload_n 0, 1) := by decide +kernel
theorem dX9_letsThrough_65 : decode cX9_letsThrough 65 = .ok (.getfield 36, 3) := by decide +kernel
theorem dX9_letsThrough_68 : decode cX9_letsThrough 68 = .ok (.iload 6, 2) := by decide +kernel
theorem dX9_letsThrough_70 : decode cX9_letsThrough 70 = .ok (.lload 4, 2) := by decide +kernel
theorem dX9_letsThrough_72 : decode cX9_letsThrough 72 = .ok (.iload 8, 2) := by decide +kernel
theorem dX9_letsThrough_74 : decode cX9_letsThrough 74 = .ok (.aload_n 0, 1) := by decide +kernel
theorem dX9_letsThrough_75 : decode cX9_letsThrough 75 = .ok (.getfield 20, 3) := by decide +kernel
theorem dX9_letsThrough_78 : decode cX9_letsThrough 78 = .ok (.iload_n 1, 1) := by decide +kernel
theorem dX9_letsThrough_79 : decode cX9_letsThrough 79 = .ok (.iaload, 1) := by decide +kernel
theorem dX9_letsThrough_80 : decode cX9_letsThrough 80 = .ok (.invokestatic 139, 3) := by decide +kernel
theorem dX9_letsThrough_83 : decode cX9_letsThrough 83 = .ok (.iadd, 1) := by decide +kernel
theorem dX9_letsThrough_84 : decode cX9_letsThrough 84 = .ok (.iaload, 1) := by decide +kernel
theorem dX9_letsThrough_85 : decode cX9_letsThrough 85 = .ok (.ixor, 1) := by decide +kernel
theorem dX9_letsThrough_86 : decode cX9_letsThrough 86 = .ok (.istore 7, 2) := by decide +kernel
theorem dX9_letsThrough_88 : decode cX9_letsThrough 88 = .ok (.iinc 8 1, 3) := by decide +kernel
theorem dX9_letsThrough_91 : decode cX9_letsThrough 91 = .ok (.goto (-35), 3) := by decide +kernel
theorem dX9_letsThrough_94 : decode cX9_letsThrough 94 = .ok (.iload 7, 2) := by decide +kernel
theorem dX9_letsThrough_96 : decode cX9_letsThrough 96 = .ok (.ifCond .ne 7, 3) := by decide +kernel
theorem dX9_letsThrough_99 : decode cX9_letsThrough 99 = .ok (.iconst 1, 1) := by decide +kernel
theorem dX9_letsThrough_100 : decode cX9_letsThrough 100 = .ok (.goto 4, 3) := by decide +kernel
theorem dX9_letsThrough_103 : decode cX9_letsThrough 103 = .ok (.iconst 0, 1) := by decide +kernel
theorem dX9_letsThrough_104 : decode cX9_letsThrough 104 = .ok (.ireturn, 1) := by decide +kernel
theorem dX9_letsThrough_105 : decode cX9_letsThrough 105 = .ok (.aload_n 0, 1) := by decide +kernel
theorem dX9_letsThrough_106 : decode cX9_letsThrough 106 = .ok (.getfield 17, 3) := by decide +kernel
theorem dX9_letsThrough_109 : decode cX9_letsThrough 109 = .ok (.iload_n 1, 1) := by decide +kernel
theorem dX9_letsThrough_110 : decode cX9_letsThrough 110 = .ok (.iaload, 1) := by decide +kernel
theorem dX9_letsThrough_111 : decode cX9_letsThrough 111 = .ok (.iconst 2, 1) := by decide +kernel
theorem dX9_letsThrough_112 : decode cX9_letsThrough 112 = .ok (.if_icmp .ne 70, 3) := by decide +kernel
theorem dX9_letsThrough_115 : decode cX9_letsThrough 115 = .ok (.iconst 0, 1) := by decide +kernel
theorem dX9_letsThrough_116 : decode cX9_letsThrough 116 = .ok (.istore 7, 2) := by decide +kernel
theorem dX9_letsThrough_118 : decode cX9_letsThrough 118 = .ok (.iconst 0, 1) := by decide +kernel
theorem dX9_letsThrough_119 : decode cX9_letsThrough 119 = .ok (.istore 8, 2) := by decide +kernel
theorem dX9_letsThrough_121 : decode cX9_letsThrough 121 = .ok (.iload 8, 2) := by decide +kernel
theorem dX9_letsThrough_123 : decode cX9_letsThrough 123 = .ok (.bipush 8, 2) := by decide +kernel
theorem dX9_letsThrough_125 : decode cX9_letsThrough 125 = .ok (.if_icmp .ge 54, 3) := by decide +kernel
theorem dX9_letsThrough_128 : decode cX9_letsThrough 128 = .ok (.iload 7, 2) := by decide +kernel
theorem dX9_letsThrough_130 : decode cX9_letsThrough 130 = .ok (.ifCond .ne 36, 3) := by decide +kernel
theorem dX9_letsThrough_133 : decode cX9_letsThrough 133 = .ok (.aload_n 0, 1) := by decide +kernel
theorem dX9_letsThrough_134 : decode cX9_letsThrough 134 = .ok (.getfield 36, 3) := by decide +kernel
theorem dX9_letsThrough_137 : decode cX9_letsThrough 137 = .ok (.iload 6, 2) := by decide +kernel
theorem dX9_letsThrough_139 : decode cX9_letsThrough 139 = .ok (.iconst 4, 1) := by decide +kernel
theorem dX9_letsThrough_140 : decode cX9_letsThrough 140 = .ok (.aload_n 0, 1) := by decide +kernel
theorem dX9_letsThrough_141 : decode cX9_letsThrough 141 = .ok (.iload_n 1, 1) := by decide +kernel
theorem dX9_letsThrough_142 : decode cX9_letsThrough 142 = .ok (.lload_n 2, 1) := by decide +kernel
theorem dX9_letsThrough_143 : decode cX9_letsThrough 143 = .ok (.iload 8, 2) := by decide +kernel
theorem dX9_letsThrough_145 : decode cX9_letsThrough 145 = .ok (.iconst 4, 1) := by decide +kernel
theorem dX9_letsThrough_146 : decode cX9_letsThrough 146 = .ok (.idiv, 1) := by decide +kernel
theorem dX9_letsThrough_147 : decode cX9_letsThrough 147 = .ok (.invokevirtual 142, 3) := by decide +kernel
theorem dX9_letsThrough_150 : decode cX9_letsThrough 150 = .ok (.imul, 1) := by decide +kernel
theorem dX9_letsThrough_151 : decode cX9_letsThrough 151 = .ok (.iadd, 1) := by decide +kernel
theorem dX9_letsThrough_152 : decode cX9_letsThrough 152 = .ok (.iload 8, 2) := by decide +kernel
theorem dX9_letsThrough_154 : decode cX9_letsThrough 154 = .ok (.iconst 4, 1) := by decide +kernel
theorem dX9_letsThrough_155 : decode cX9_letsThrough 155 = .ok (.irem, 1) := by decide +kernel
theorem dX9_letsThrough_156 : decode cX9_letsThrough 156 = .ok (.iadd, 1) := by decide +kernel
theorem dX9_letsThrough_157 : decode cX9_letsThrough 157 = .ok (.iaload, 1) := by decide +kernel
theorem dX9_letsThrough_158 : decode cX9_letsThrough 158 = .ok (.lload 4, 2) := by decide +kernel
theorem dX9_letsThrough_160 : decode cX9_letsThrough 160 = .ok (.invokestatic 112, 3) := by decide +kernel
theorem dX9_letsThrough_163 : decode cX9_letsThrough 163 = .ok (.if_icmp .ne 7, 3) := by decide +kernel
theorem dX9_letsThrough_166 : decode cX9_letsThrough 166 = .ok (.iconst 1, 1) := by decide +kernel
theorem dX9_letsThrough_167 : decode cX9_letsThrough 167 = .ok (.goto 4, 3) := by decide +kernel
theorem dX9_letsThrough_170 : decode cX9_letsThrough 170 = .ok (.iconst 0, 1) := by decide +kernel
theorem dX9_letsThrough_171 : decode cX9_letsThrough 171 = .ok (.istore 7, 2) := by decide +kernel
theorem dX9_letsThrough_173 : decode cX9_letsThrough 173 = .ok (.iinc 8 1, 3) := by decide +kernel
theorem dX9_letsThrough_176 : decode cX9_letsThrough 176 = .ok (.goto (-55), 3) := by decide +kernel
theorem dX9_letsThrough_179 : decode cX9_letsThrough 179 = .ok (.iload 7, 2) := by decide +kernel
theorem dX9_letsThrough_181 : decode cX9_letsThrough 181 = .ok (.ireturn, 1) := by decide +kernel
theorem dX9_letsThrough_182 : decode cX9_letsThrough 182 = .ok (.iconst 1, 1) := by decide +kernel
theorem dX9_letsThrough_183 : decode cX9_letsThrough 183 = .ok (.istore 7, 2) := by decide +kernel
theorem dX9_letsThrough_185 : decode cX9_letsThrough 185 = .ok (.iconst 0, 1) := by decide +kernel
theorem dX9_letsThrough_186 : decode cX9_letsThrough 186 = .ok (.istore 8, 2) := by decide +kernel
theorem dX9_letsThrough_188 : decode cX9_letsThrough 188 = .ok (.iload 8, 2) := by decide +kernel
theorem dX9_letsThrough_190 : decode cX9_letsThrough 190 = .ok (.aload_n 0, 1) := by decide +kernel
theorem dX9_letsThrough_191 : decode cX9_letsThrough 191 = .ok (.getfield 23, 3) := by decide +kernel
theorem dX9_letsThrough_194 : decode cX9_letsThrough 194 = .ok (.iload_n 1, 1) := by decide +kernel
theorem dX9_letsThrough_195 : decode cX9_letsThrough 195 = .ok (.iaload, 1) := by decide +kernel
theorem dX9_letsThrough_196 : decode cX9_letsThrough 196 = .ok (.if_icmp .ge 45, 3) := by decide +kernel
theorem dX9_letsThrough_199 : decode cX9_letsThrough 199 = .ok (.iload 7, 2) := by decide +kernel
theorem dX9_letsThrough_201 : decode cX9_letsThrough 201 = .ok (.ifCond .eq 31, 3) := by decide +kernel
theorem dX9_letsThrough_204 : decode cX9_letsThrough 204 = .ok (.aload_n 0, 1) := by decide +kernel
theorem dX9_letsThrough_205 : decode cX9_letsThrough 205 = .ok (.getfield 36, 3) := by decide +kernel
theorem dX9_letsThrough_208 : decode cX9_letsThrough 208 = .ok (.iload 6, 2) := by decide +kernel
theorem dX9_letsThrough_210 : decode cX9_letsThrough 210 = .ok (.lload 4, 2) := by decide +kernel
theorem dX9_letsThrough_212 : decode cX9_letsThrough 212 = .ok (.iload 8, 2) := by decide +kernel
theorem dX9_letsThrough_214 : decode cX9_letsThrough 214 = .ok (.aload_n 0, 1) := by decide +kernel
theorem dX9_letsThrough_215 : decode cX9_letsThrough 215 = .ok (.getfield 20, 3) := by decide +kernel
theorem dX9_letsThrough_218 : decode cX9_letsThrough 218 = .ok (.iload_n 1, 1) := by decide +kernel
theorem dX9_letsThrough_219 : decode cX9_letsThrough 219 = .ok (.iaload, 1) := by decide +kernel
theorem dX9_letsThrough_220 : decode cX9_letsThrough 220 = .ok (.invokestatic 124, 3) := by decide +kernel
theorem dX9_letsThrough_223 : decode cX9_letsThrough 223 = .ok (.iadd, 1) := by decide +kernel
theorem dX9_letsThrough_224 : decode cX9_letsThrough 224 = .ok (.iaload, 1) := by decide +kernel
theorem dX9_letsThrough_225 : decode cX9_letsThrough 225 = .ok (.ifCond .le 7, 3) := by decide +kernel
theorem dX9_letsThrough_228 : decode cX9_letsThrough 228 = .ok (.iconst 1, 1) := by decide +kernel
theorem dX9_letsThrough_229 : decode cX9_letsThrough 229 = .ok (.goto 4, 3) := by decide +kernel
theorem dX9_letsThrough_232 : decode cX9_letsThrough 232 = .ok (.iconst 0, 1) := by decide +kernel
theorem dX9_letsThrough_233 : decode cX9_letsThrough 233 = .ok (.istore 7, 2) := by decide +kernel
theorem dX9_letsThrough_235 : decode cX9_letsThrough 235 = .ok (.iinc 8 1, 3) := by decide +kernel
theorem dX9_letsThrough_238 : decode cX9_letsThrough 238 = .ok (.goto (-50), 3) := by decide +kernel
theorem dX9_letsThrough_241 : decode cX9_letsThrough 241 = .ok (.iload 7, 2) := by decide +kernel
theorem dX9_letsThrough_243 : decode cX9_letsThrough 243 = .ok (.ireturn, 1) := by decide +kernel
theorem dX9_timesIn_0 : decode cX9_timesIn 0 = .ok (.iconst 0, 1) := by decide +kernel
theorem dX9_timesIn_1 : decode cX9_timesIn 1 = .ok (.istore 4, 2) := by decide +kernel
theorem dX9_timesIn_3 : decode cX9_timesIn 3 = .ok (.iconst 0, 1) := by decide +kernel
theorem dX9_timesIn_4 : decode cX9_timesIn 4 = .ok (.istore 5, 2) := by decide +kernel
theorem dX9_timesIn_6 : decode cX9_timesIn 6 = .ok (.iload 5, 2) := by decide +kernel
theorem dX9_timesIn_8 : decode cX9_timesIn 8 = .ok (.aload_n 0, 1) := by decide +kernel
theorem dX9_timesIn_9 : decode cX9_timesIn 9 = .ok (.getfield 32, 3) := by decide +kernel
theorem dX9_timesIn_12 : decode cX9_timesIn 12 = .ok (.iload_n 1, 1) := by decide +kernel
theorem dX9_timesIn_13 : decode cX9_timesIn 13 = .ok (.iaload, 1) := by decide +kernel
theorem dX9_timesIn_14 : decode cX9_timesIn 14 = .ok (.if_icmp .ge 37, 3) := by decide +kernel
theorem dX9_timesIn_17 : decode cX9_timesIn 17 = .ok (.iload 4, 2) := by decide +kernel
theorem dX9_timesIn_19 : decode cX9_timesIn 19 = .ok (.aload_n 0, 1) := by decide +kernel
theorem dX9_timesIn_20 : decode cX9_timesIn 20 = .ok (.getfield 29, 3) := by decide +kernel
theorem dX9_timesIn_23 : decode cX9_timesIn 23 = .ok (.iload_n 1, 1) := by decide +kernel
theorem dX9_timesIn_24 : decode cX9_timesIn 24 = .ok (.sipush 1000, 3) := by decide +kernel
theorem dX9_timesIn_27 : decode cX9_timesIn 27 = .ok (.imul, 1) := by decide +kernel
theorem dX9_timesIn_28 : decode cX9_timesIn 28 = .ok (.iload 5, 2) := by decide +kernel
theorem dX9_timesIn_30 : decode cX9_timesIn 30 = .ok (.iadd, 1) := by decide +kernel
theorem dX9_timesIn_31 : decode cX9_timesIn 31 = .ok (.laload, 1) := by decide +kernel
theorem dX9_timesIn_32 : decode cX9_timesIn 32 = .ok (.lload_n 2, 1) := by decide +kernel
theorem dX9_timesIn_33 : decode cX9_timesIn 33 = .ok (.lcmp, 1) := by decide +kernel
theorem dX9_timesIn_34 : decode cX9_timesIn 34 = .ok (.ifCond .ne 7, 3) := by decide +kernel
theorem dX9_timesIn_37 : decode cX9_timesIn 37 = .ok (.iconst 1, 1) := by decide +kernel
theorem dX9_timesIn_38 : decode cX9_timesIn 38 = .ok (.goto 4, 3) := by decide +kernel
theorem dX9_timesIn_41 : decode cX9_timesIn 41 = .ok (.iconst 0, 1) := by decide +kernel
theorem dX9_timesIn_42 : decode cX9_timesIn 42 = .ok (.iadd, 1) := by decide +kernel
theorem dX9_timesIn_43 : decode cX9_timesIn 43 = .ok (.istore 4, 2) := by decide +kernel
theorem dX9_timesIn_45 : decode cX9_timesIn 45 = .ok (.iinc 5 1, 3) := by decide +kernel
theorem dX9_timesIn_48 : decode cX9_timesIn 48 = .ok (.goto (-42), 3) := by decide +kernel
theorem dX9_timesIn_51 : decode cX9_timesIn 51 = .ok (.iload 4, 2) := by decide +kernel
theorem dX9_timesIn_53 : decode cX9_timesIn 53 = .ok (.ireturn, 1) := by decide +kernel
theorem dX9_isWide_0 : decode cX9_isWide 0 = .ok (.iload_n 0, 1) := by decide +kernel
theorem dX9_isWide_1 : decode cX9_isWide 1 = .ok (.iload_n 1, 1) := by decide +kernel
theorem dX9_isWide_2 : decode cX9_isWide 2 = .ok (.if_icmp .lt 20, 3) := by decide +kernel
theorem dX9_isWide_5 : decode cX9_isWide 5 = .ok (.iload_n 0, 1) := by decide +kernel
theorem dX9_isWide_6 : decode cX9_isWide 6 = .ok (.iload_n 2, 1) := by decide +kernel
theorem dX9_isWide_7 : decode cX9_isWide 7 = .ok (.if_icmp .gt 15, 3) := by decide +kernel
theorem dX9_isWide_10 : decode cX9_isWide 10 = .ok (.iload_n 0, 1) := by decide +kernel
theorem dX9_isWide_11 : decode cX9_isWide 11 = .ok (.iload_n 0, 1) := by decide +kernel
theorem dX9_isWide_12 : decode cX9_isWide 12 = .ok (.iconst 1, 1) := by decide +kernel
theorem dX9_isWide_13 : decode cX9_isWide 13 = .ok (.isub, 1) := by decide +kernel
theorem dX9_isWide_14 : decode cX9_isWide 14 = .ok (.iand, 1) := by decide +kernel
theorem dX9_isWide_15 : decode cX9_isWide 15 = .ok (.ifCond .ne 7, 3) := by decide +kernel
theorem dX9_isWide_18 : decode cX9_isWide 18 = .ok (.iconst 1, 1) := by decide +kernel
theorem dX9_isWide_19 : decode cX9_isWide 19 = .ok (.goto 4, 3) := by decide +kernel
theorem dX9_isWide_22 : decode cX9_isWide 22 = .ok (.iconst 0, 1) := by decide +kernel
theorem dX9_isWide_23 : decode cX9_isWide 23 = .ok (.ireturn, 1) := by decide +kernel
theorem dX9_begin_0 : decode cX9_begin 0 = .ok (.aload_n 0, 1) := by decide +kernel
theorem dX9_begin_1 : decode cX9_begin 1 = .ok (.getfield 88, 3) := by decide +kernel
theorem dX9_begin_4 : decode cX9_begin 4 = .ok (.istore 5, 2) := by decide +kernel
theorem dX9_begin_6 : decode cX9_begin 6 = .ok (.aload_n 0, 1) := by decide +kernel
theorem dX9_begin_7 : decode cX9_begin 7 = .ok (.getfield 17, 3) := by decide +kernel
theorem dX9_begin_10 : decode cX9_begin 10 = .ok (.iload 5, 2) := by decide +kernel
theorem dX9_begin_12 : decode cX9_begin 12 = .ok (.iload_n 1, 1) := by decide +kernel
theorem dX9_begin_13 : decode cX9_begin 13 = .ok (.iastore, 1) := by decide +kernel
theorem dX9_begin_14 : decode cX9_begin 14 = .ok (.aload_n 0, 1) := by decide +kernel
theorem dX9_begin_15 : decode cX9_begin 15 = .ok (.getfield 20, 3) := by decide +kernel
theorem dX9_begin_18 : decode cX9_begin 18 = .ok (.iload 5, 2) := by decide +kernel
theorem dX9_begin_20 : decode cX9_begin 20 = .ok (.iload_n 2, 1) := by decide +kernel
theorem dX9_begin_21 : decode cX9_begin 21 = .ok (.iastore, 1) := by decide +kernel
theorem dX9_begin_22 : decode cX9_begin 22 = .ok (.aload_n 0, 1) := by decide +kernel
theorem dX9_begin_23 : decode cX9_begin 23 = .ok (.getfield 23, 3) := by decide +kernel
theorem dX9_begin_26 : decode cX9_begin 26 = .ok (.iload 5, 2) := by decide +kernel
theorem dX9_begin_28 : decode cX9_begin 28 = .ok (.iload_n 3, 1) := by decide +kernel
theorem dX9_begin_29 : decode cX9_begin 29 = .ok (.iastore, 1) := by decide +kernel
theorem dX9_begin_30 : decode cX9_begin 30 = .ok (.aload_n 0, 1) := by decide +kernel
theorem dX9_begin_31 : decode cX9_begin 31 = .ok (.getfield 26, 3) := by decide +kernel
theorem dX9_begin_34 : decode cX9_begin 34 = .ok (.iload 5, 2) := by decide +kernel
theorem dX9_begin_36 : decode cX9_begin 36 = .ok (.iload 4, 2) := by decide +kernel
theorem dX9_begin_38 : decode cX9_begin 38 = .ok (.iastore, 1) := by decide +kernel
theorem dX9_begin_39 : decode cX9_begin 39 = .ok (.aload_n 0, 1) := by decide +kernel
theorem dX9_begin_40 : decode cX9_begin 40 = .ok (.getfield 32, 3) := by decide +kernel
theorem dX9_begin_43 : decode cX9_begin 43 = .ok (.iload 5, 2) := by decide +kernel
theorem dX9_begin_45 : decode cX9_begin 45 = .ok (.iconst 0, 1) := by decide +kernel
theorem dX9_begin_46 : decode cX9_begin 46 = .ok (.iastore, 1) := by decide +kernel
theorem dX9_begin_47 : decode cX9_begin 47 = .ok (.aload_n 0, 1) := by decide +kernel
theorem dX9_begin_48 : decode cX9_begin 48 = .ok (.getfield 52, 3) := by decide +kernel
theorem dX9_begin_51 : decode cX9_begin 51 = .ok (.iload 5, 2) := by decide +kernel
theorem dX9_begin_53 : decode cX9_begin 53 = .ok (.iconst 0, 1) := by decide +kernel
theorem dX9_begin_54 : decode cX9_begin 54 = .ok (.iastore, 1) := by decide +kernel
theorem dX9_begin_55 : decode cX9_begin 55 = .ok (.iconst 0, 1) := by decide +kernel
theorem dX9_begin_56 : decode cX9_begin 56 = .ok (.istore 6, 2) := by decide +kernel
theorem dX9_begin_58 : decode cX9_begin 58 = .ok (.iload 6, 2) := by decide +kernel
theorem dX9_begin_60 : decode cX9_begin 60 = .ok (.sipush 4096, 3) := by decide +kernel
theorem dX9_begin_63 : decode cX9_begin 63 = .ok (.if_icmp .ge 24, 3) := by decide +kernel
theorem dX9_begin_66 : decode cX9_begin 66 = .ok (.aload_n 0, 1) := by decide +kernel
theorem dX9_begin_67 : decode cX9_begin 67 = .ok (.getfield 36, 3) := by decide +kernel
theorem dX9_begin_70 : decode cX9_begin 70 = .ok (.iload 5, 2) := by decide +kernel
theorem dX9_begin_72 : decode cX9_begin 72 = .ok (.sipush 4096, 3) := by decide +kernel
theorem dX9_begin_75 : decode cX9_begin 75 = .ok (.imul, 1) := by decide +kernel
theorem dX9_begin_76 : decode cX9_begin 76 = .ok (.iload 6, 2) := by decide +kernel
theorem dX9_begin_78 : decode cX9_begin 78 = .ok (.iadd, 1) := by decide +kernel
theorem dX9_begin_79 : decode cX9_begin 79 = .ok (.iconst 0, 1) := by decide +kernel
theorem dX9_begin_80 : decode cX9_begin 80 = .ok (.iastore, 1) := by decide +kernel
theorem dX9_begin_81 : decode cX9_begin 81 = .ok (.iinc 6 1, 3) := by decide +kernel
theorem dX9_begin_84 : decode cX9_begin 84 = .ok (.goto (-26), 3) := by decide +kernel
theorem dX9_begin_87 : decode cX9_begin 87 = .ok (.aload_n 0, 1) := by decide +kernel
theorem dX9_begin_88 : decode cX9_begin 88 = .ok (.dup, 1) := by decide +kernel
theorem dX9_begin_89 : decode cX9_begin 89 = .ok (.getfield 88, 3) := by decide +kernel
theorem dX9_begin_92 : decode cX9_begin 92 = .ok (.iconst 1, 1) := by decide +kernel
theorem dX9_begin_93 : decode cX9_begin 93 = .ok (.iadd, 1) := by decide +kernel
theorem dX9_begin_94 : decode cX9_begin 94 = .ok (.putfield 88, 3) := by decide +kernel
theorem dX9_begin_97 : decode cX9_begin 97 = .ok (.iload 5, 2) := by decide +kernel
theorem dX9_begin_99 : decode cX9_begin 99 = .ok (.ireturn, 1) := by decide +kernel
set_option maxRecDepth 20000 in
theorem gu_wsX9_make_1 : ∀ w ∈ ([Cond.fieldLink RX9 88 "SieveCabinetModel" "many" "I", Cond.methodLink RX9 146 yX9_isWide, Cond.static yX9_isWide, Cond.initialized RX9, Cond.code yX9_isWide cX9_isWide 3 (some .boolean), Cond.methodLink RX9 150 yX9_begin, Cond.instanceMethod yX9_begin, Cond.selects RX9 yX9_begin yX9_begin, Cond.code yX9_begin cX9_begin 7 (some .int), Cond.fieldLink RX9 17 "SieveCabinetModel" "kind" "[I", Cond.fieldLink RX9 20 "SieveCabinetModel" "size" "[I", Cond.fieldLink RX9 23 "SieveCabinetModel" "marks" "[I", Cond.fieldLink RX9 26 "SieveCabinetModel" "seed" "[I", Cond.fieldLink RX9 32 "SieveCabinetModel" "contentMany" "[I", Cond.fieldLink RX9 52 "SieveCabinetModel" "restMany" "[I", Cond.fieldLink RX9 36 "SieveCabinetModel" "row" "[I"] : List Cond), w ∈ wsX9_make := fun _ h => List.mem_cons_of_mem _ (List.mem_append_left _ h)
set_option maxRecDepth 20000 in
theorem ggX9_make_X9_isWide : GoodIn wsX9_make wsX9_isWide := goodIn_sub (gi_c (gu_wsX9_make_1 _ gm_4) (gi_0)) (by decide +kernel)
set_option maxRecDepth 20000 in
theorem gX9_make_X9_isWide : GoodIn wsX9_make (va_wsS RX9 146 yX9_isWide wsX9_isWide) := goodIn_app (goodIn_sub (gi_c (gu_wsX9_make_1 _ gm_1) (gi_c (gu_wsX9_make_1 _ gm_2) (gi_c (gu_wsX9_make_1 _ gm_3) gi_0))) (by decide +kernel)) ggX9_make_X9_isWide
set_option maxRecDepth 20000 in
theorem gu_wsX9_make_2 : ∀ w ∈ wsX90, w ∈ wsX9_make := fun _ h => List.mem_cons_of_mem _ (List.mem_append_right _ h)
set_option maxRecDepth 20000 in
theorem ggX9_make_X9_begin : GoodIn wsX9_make wsX9_begin := goodIn_sub (gi_c (gu_wsX9_make_1 _ gm_8) (gi_a (gi_c (gu_wsX9_make_1 _ gm_0) (gi_c (gu_wsX9_make_1 _ gm_9) (gi_c (gu_wsX9_make_1 _ gm_10) (gi_c (gu_wsX9_make_1 _ gm_11) (gi_c (gu_wsX9_make_1 _ gm_12) (gi_c (gu_wsX9_make_1 _ gm_13) (gi_c (gu_wsX9_make_1 _ gm_14) (gi_c (gu_wsX9_make_1 _ gm_15) gi_0)))))))) (gu_wsX9_make_2))) (by decide +kernel)
set_option maxRecDepth 20000 in
theorem gX9_make_X9_begin : GoodIn wsX9_make (wsV RX9 150 RX9 yX9_begin wsX9_begin) := goodIn_app (goodIn_sub (gi_c (gu_wsX9_make_1 _ gm_5) (gi_c (gu_wsX9_make_1 _ gm_6) (gi_c (gu_wsX9_make_1 _ gm_7) (gi_c (gu_wsX9_make_1 _ gm_3) gi_0)))) (by decide +kernel)) ggX9_make_X9_begin
theorem dX9_make_0 : decode cX9_make 0 = .ok (.iload_n 1, 1) := by decide +kernel
theorem dX9_make_1 : decode cX9_make 1 = .ok (.ifCond .lt 8, 3) := by decide +kernel
theorem dX9_make_4 : decode cX9_make 4 = .ok (.iload_n 1, 1) := by decide +kernel
theorem dX9_make_5 : decode cX9_make 5 = .ok (.iconst 2, 1) := by decide +kernel
theorem dX9_make_6 : decode cX9_make 6 = .ok (.if_icmp .le 5, 3) := by decide +kernel
theorem dX9_make_9 : decode cX9_make 9 = .ok (.iconst (-1), 1) := by decide +kernel
theorem dX9_make_10 : decode cX9_make 10 = .ok (.ireturn, 1) := by decide +kernel
theorem dX9_make_11 : decode cX9_make 11 = .ok (.iload_n 1, 1) := by decide +kernel
theorem dX9_make_12 : decode cX9_make 12 = .ok (.iconst 2, 1) := by decide +kernel
theorem dX9_make_13 : decode cX9_make 13 = .ok (.if_icmp .ne 17, 3) := by decide +kernel
theorem dX9_make_16 : decode cX9_make 16 = .ok (.iload_n 2, 1) := by decide +kernel
theorem dX9_make_17 : decode cX9_make 17 = .ok (.iconst 1, 1) := by decide +kernel
theorem dX9_make_18 : decode cX9_make 18 = .ok (.sipush 256, 3) := by decide +kernel
theorem dX9_make_21 : decode cX9_make 21 = .ok (.invokestatic 146, 3) := by decide +kernel
theorem dX9_make_24 : decode cX9_make 24 = .ok (.ifCond .ne 31, 3) := by decide +kernel
theorem dX9_make_27 : decode cX9_make 27 = .ok (.goto 26, 3) := by decide +kernel
theorem dX9_make_30 : decode cX9_make 30 = .ok (.iload_n 2, 1) := by decide +kernel
theorem dX9_make_31 : decode cX9_make 31 = .ok (.bipush 8, 2) := by decide +kernel
theorem dX9_make_33 : decode cX9_make 33 = .ok (.sipush 4096, 3) := by decide +kernel
theorem dX9_make_36 : decode cX9_make 36 = .ok (.invokestatic 146, 3) := by decide +kernel
theorem dX9_make_39 : decode cX9_make 39 = .ok (.ifCond .eq 14, 3) := by decide +kernel
theorem dX9_make_42 : decode cX9_make 42 = .ok (.iload_n 3, 1) := by decide +kernel
theorem dX9_make_43 : decode cX9_make 43 = .ok (.iconst 1, 1) := by decide +kernel
theorem dX9_make_44 : decode cX9_make 44 = .ok (.if_icmp .lt 9, 3) := by decide +kernel
theorem dX9_make_47 : decode cX9_make 47 = .ok (.iload_n 3, 1) := by decide +kernel
theorem dX9_make_48 : decode cX9_make 48 = .ok (.bipush 8, 2) := by decide +kernel
theorem dX9_make_50 : decode cX9_make 50 = .ok (.if_icmp .le 5, 3) := by decide +kernel
theorem dX9_make_53 : decode cX9_make 53 = .ok (.iconst (-1), 1) := by decide +kernel
theorem dX9_make_54 : decode cX9_make 54 = .ok (.ireturn, 1) := by decide +kernel
theorem dX9_make_55 : decode cX9_make 55 = .ok (.aload_n 0, 1) := by decide +kernel
theorem dX9_make_56 : decode cX9_make 56 = .ok (.getfield 88, 3) := by decide +kernel
theorem dX9_make_59 : decode cX9_make 59 = .ok (.bipush 30, 2) := by decide +kernel
theorem dX9_make_61 : decode cX9_make 61 = .ok (.if_icmp .ne 8, 3) := by decide +kernel
theorem dX9_make_64 : decode cX9_make 64 = .ok (.bipush (-4), 2) := by decide +kernel
theorem dX9_make_66 : decode cX9_make 66 = .ok (.goto 21, 3) := by decide +kernel
theorem dX9_make_69 : decode cX9_make 69 = .ok (.aload_n 0, 1) := by decide +kernel
theorem dX9_make_70 : decode cX9_make 70 = .ok (.iload_n 1, 1) := by decide +kernel
theorem dX9_make_71 : decode cX9_make 71 = .ok (.iload_n 2, 1) := by decide +kernel
theorem dX9_make_72 : decode cX9_make 72 = .ok (.iload_n 1, 1) := by decide +kernel
theorem dX9_make_73 : decode cX9_make 73 = .ok (.iconst 2, 1) := by decide +kernel
theorem dX9_make_74 : decode cX9_make 74 = .ok (.if_icmp .ne 7, 3) := by decide +kernel
theorem dX9_make_77 : decode cX9_make 77 = .ok (.iconst 0, 1) := by decide +kernel
theorem dX9_make_78 : decode cX9_make 78 = .ok (.goto 4, 3) := by decide +kernel
theorem dX9_make_81 : decode cX9_make 81 = .ok (.iload_n 3, 1) := by decide +kernel
theorem dX9_make_82 : decode cX9_make 82 = .ok (.iload 4, 2) := by decide +kernel
theorem dX9_make_84 : decode cX9_make 84 = .ok (.invokevirtual 150, 3) := by decide +kernel
theorem dX9_make_87 : decode cX9_make 87 = .ok (.ireturn, 1) := by decide +kernel
theorem dX9_fillFrom_0 : decode cX9_fillFrom 0 = .ok (.aload_n 0, 1) := by decide +kernel
theorem dX9_fillFrom_1 : decode cX9_fillFrom 1 = .ok (.getfield 32, 3) := by decide +kernel
theorem dX9_fillFrom_4 : decode cX9_fillFrom 4 = .ok (.iload_n 1, 1) := by decide +kernel
theorem dX9_fillFrom_5 : decode cX9_fillFrom 5 = .ok (.aload_n 0, 1) := by decide +kernel
theorem dX9_fillFrom_6 : decode cX9_fillFrom 6 = .ok (.getfield 13, 3) := by decide +kernel
theorem dX9_fillFrom_9 : decode cX9_fillFrom 9 = .ok (.iload_n 2, 1) := by decide +kernel
theorem dX9_fillFrom_10 : decode cX9_fillFrom 10 = .ok (.iaload, 1) := by decide +kernel
theorem dX9_fillFrom_11 : decode cX9_fillFrom 11 = .ok (.iastore, 1) := by decide +kernel
theorem dX9_fillFrom_12 : decode cX9_fillFrom 12 = .ok (.iconst 0, 1) := by decide +kernel
theorem dX9_fillFrom_13 : decode cX9_fillFrom 13 = .ok (.istore_n 3, 1) := by decide +kernel
theorem dX9_fillFrom_14 : decode cX9_fillFrom 14 = .ok (.iload_n 3, 1) := by decide +kernel
theorem dX9_fillFrom_15 : decode cX9_fillFrom 15 = .ok (.aload_n 0, 1) := by decide +kernel
theorem dX9_fillFrom_16 : decode cX9_fillFrom 16 = .ok (.getfield 13, 3) := by decide +kernel
theorem dX9_fillFrom_19 : decode cX9_fillFrom 19 = .ok (.iload_n 2, 1) := by decide +kernel
theorem dX9_fillFrom_20 : decode cX9_fillFrom 20 = .ok (.iaload, 1) := by decide +kernel
theorem dX9_fillFrom_21 : decode cX9_fillFrom 21 = .ok (.if_icmp .ge 33, 3) := by decide +kernel
theorem dX9_fillFrom_24 : decode cX9_fillFrom 24 = .ok (.aload_n 0, 1) := by decide +kernel
theorem dX9_fillFrom_25 : decode cX9_fillFrom 25 = .ok (.getfield 29, 3) := by decide +kernel
theorem dX9_fillFrom_28 : decode cX9_fillFrom 28 = .ok (.iload_n 1, 1) := by decide +kernel
theorem dX9_fillFrom_29 : decode cX9_fillFrom 29 = .ok (.sipush 1000, 3) := by decide +kernel
theorem dX9_fillFrom_32 : decode cX9_fillFrom 32 = .ok (.imul, 1) := by decide +kernel
theorem dX9_fillFrom_33 : decode cX9_fillFrom 33 = .ok (.iload_n 3, 1) := by decide +kernel
theorem dX9_fillFrom_34 : decode cX9_fillFrom 34 = .ok (.iadd, 1) := by decide +kernel
theorem dX9_fillFrom_35 : decode cX9_fillFrom 35 = .ok (.aload_n 0, 1) := by decide +kernel
theorem dX9_fillFrom_36 : decode cX9_fillFrom 36 = .ok (.getfield 9, 3) := by decide +kernel
theorem dX9_fillFrom_39 : decode cX9_fillFrom 39 = .ok (.iload_n 2, 1) := by decide +kernel
theorem dX9_fillFrom_40 : decode cX9_fillFrom 40 = .ok (.sipush 1000, 3) := by decide +kernel
theorem dX9_fillFrom_43 : decode cX9_fillFrom 43 = .ok (.imul, 1) := by decide +kernel
theorem dX9_fillFrom_44 : decode cX9_fillFrom 44 = .ok (.iload_n 3, 1) := by decide +kernel
theorem dX9_fillFrom_45 : decode cX9_fillFrom 45 = .ok (.iadd, 1) := by decide +kernel
theorem dX9_fillFrom_46 : decode cX9_fillFrom 46 = .ok (.laload, 1) := by decide +kernel
theorem dX9_fillFrom_47 : decode cX9_fillFrom 47 = .ok (.lastore, 1) := by decide +kernel
theorem dX9_fillFrom_48 : decode cX9_fillFrom 48 = .ok (.iinc 3 1, 3) := by decide +kernel
theorem dX9_fillFrom_51 : decode cX9_fillFrom 51 = .ok (.goto (-37), 3) := by decide +kernel
theorem dX9_fillFrom_54 : decode cX9_fillFrom 54 = .ok (.return_, 1) := by decide +kernel
set_option maxRecDepth 20000 in
theorem gu_wsX9_takeOff_1 : ∀ w ∈ ([Cond.fieldLink RX9 13 "SieveCabinetModel" "inWorld" "[I", Cond.fieldLink RX9 74 "SieveCabinetModel" "alone" "[I", Cond.fieldLink RX9 70 "SieveCabinetModel" "isOff" "[Z", Cond.fieldLink RX9 9 "SieveCabinetModel" "worlds" "[J", Cond.fieldLink RX9 64 "SieveCabinetModel" "order" "[I", Cond.fieldLink RX9 67 "SieveCabinetModel" "offAt" "[I", Cond.methodLink RX9 108 yX9_mix, Cond.static yX9_mix, Cond.initialized RX9, Cond.code yX9_mix cX9_mix 5 (some .long), Cond.constantLong RX9 80 (-7046029254386353131), Cond.constantLong RX9 82 (-4658895280553007687), Cond.constantLong RX9 84 (-7723592293110705685), Cond.methodLink RX9 139 yX9_solvedPlace, Cond.static yX9_solvedPlace, Cond.code yX9_solvedPlace cX9_solvedPlace 4 (some .int), Cond.constantLong RX9 120 (1048575)] : List Cond), w ∈ wsX9_takeOff := fun _ h => List.mem_cons_of_mem _ (List.mem_append_left _ h)
set_option maxRecDepth 20000 in
theorem ggX9_takeOff_X9_mix : GoodIn wsX9_takeOff wsX9_mix := goodIn_sub (gi_c (gu_wsX9_takeOff_1 _ gm_9) (gi_c (gu_wsX9_takeOff_1 _ gm_10) (gi_c (gu_wsX9_takeOff_1 _ gm_11) (gi_c (gu_wsX9_takeOff_1 _ gm_12) gi_0)))) (by decide +kernel)
set_option maxRecDepth 20000 in
theorem gX9_takeOff_X9_mix : GoodIn wsX9_takeOff (va_wsS RX9 108 yX9_mix wsX9_mix) := goodIn_app (goodIn_sub (gi_c (gu_wsX9_takeOff_1 _ gm_6) (gi_c (gu_wsX9_takeOff_1 _ gm_7) (gi_c (gu_wsX9_takeOff_1 _ gm_8) gi_0))) (by decide +kernel)) ggX9_takeOff_X9_mix
set_option maxRecDepth 20000 in
theorem ggX9_takeOff_X9_solvedPlace : GoodIn wsX9_takeOff wsX9_solvedPlace := goodIn_sub (gi_c (gu_wsX9_takeOff_1 _ gm_15) (gi_c (gu_wsX9_takeOff_1 _ gm_16) gi_0)) (by decide +kernel)
set_option maxRecDepth 20000 in
theorem gX9_takeOff_X9_solvedPlace : GoodIn wsX9_takeOff (va_wsS RX9 139 yX9_solvedPlace wsX9_solvedPlace) := goodIn_app (goodIn_sub (gi_c (gu_wsX9_takeOff_1 _ gm_13) (gi_c (gu_wsX9_takeOff_1 _ gm_14) (gi_c (gu_wsX9_takeOff_1 _ gm_8) gi_0))) (by decide +kernel)) ggX9_takeOff_X9_solvedPlace
theorem dX9_takeOff_0 : decode cX9_takeOff 0 = .ok (.aload_n 0, 1) := by decide +kernel
theorem dX9_takeOff_1 : decode cX9_takeOff 1 = .ok (.getfield 13, 3) := by decide +kernel
theorem dX9_takeOff_4 : decode cX9_takeOff 4 = .ok (.iload_n 1, 1) := by decide +kernel
theorem dX9_takeOff_5 : decode cX9_takeOff 5 = .ok (.iaload, 1) := by decide +kernel
theorem dX9_takeOff_6 : decode cX9_takeOff 6 = .ok (.istore 4, 2) := by decide +kernel
theorem dX9_takeOff_8 : decode cX9_takeOff 8 = .ok (.iconst 0, 1) := by decide +kernel
theorem dX9_takeOff_9 : decode cX9_takeOff 9 = .ok (.istore 5, 2) := by decide +kernel
theorem dX9_takeOff_11 : decode cX9_takeOff 11 = .ok (.iload 5, 2) := by decide +kernel
theorem dX9_takeOff_13 : decode cX9_takeOff 13 = .ok (.iconst 3, 1) := by decide +kernel
theorem dX9_takeOff_14 : decode cX9_takeOff 14 = .ok (.iload_n 3, 1) := by decide +kernel
theorem dX9_takeOff_15 : decode cX9_takeOff 15 = .ok (.imul, 1) := by decide +kernel
theorem dX9_takeOff_16 : decode cX9_takeOff 16 = .ok (.if_icmp .ge 17, 3) := by decide +kernel
theorem dX9_takeOff_19 : decode cX9_takeOff 19 = .ok (.aload_n 0, 1) := by decide +kernel
theorem dX9_takeOff_20 : decode cX9_takeOff 20 = .ok (.getfield 74, 3) := by decide +kernel
theorem dX9_takeOff_23 : decode cX9_takeOff 23 = .ok (.iload 5, 2) := by decide +kernel
theorem dX9_takeOff_25 : decode cX9_takeOff 25 = .ok (.iconst 0, 1) := by decide +kernel
theorem dX9_takeOff_26 : decode cX9_takeOff 26 = .ok (.iastore, 1) := by decide +kernel
theorem dX9_takeOff_27 : decode cX9_takeOff 27 = .ok (.iinc 5 1, 3) := by decide +kernel
theorem dX9_takeOff_30 : decode cX9_takeOff 30 = .ok (.goto (-19), 3) := by decide +kernel
theorem dX9_takeOff_33 : decode cX9_takeOff 33 = .ok (.iconst 0, 1) := by decide +kernel
theorem dX9_takeOff_34 : decode cX9_takeOff 34 = .ok (.istore 5, 2) := by decide +kernel
theorem dX9_takeOff_36 : decode cX9_takeOff 36 = .ok (.iload 5, 2) := by decide +kernel
theorem dX9_takeOff_38 : decode cX9_takeOff 38 = .ok (.iload 4, 2) := by decide +kernel
theorem dX9_takeOff_40 : decode cX9_takeOff 40 = .ok (.if_icmp .ge 68, 3) := by decide +kernel
theorem dX9_takeOff_43 : decode cX9_takeOff 43 = .ok (.aload_n 0, 1) := by decide +kernel
theorem dX9_takeOff_44 : decode cX9_takeOff 44 = .ok (.getfield 70, 3) := by decide +kernel
theorem dX9_takeOff_47 : decode cX9_takeOff 47 = .ok (.iload 5, 2) := by decide +kernel
theorem dX9_takeOff_49 : decode cX9_takeOff 49 = .ok (.iconst 0, 1) := by decide +kernel
theorem dX9_takeOff_50 : decode cX9_takeOff 50 = .ok (.bastore, 1) := by decide +kernel
theorem dX9_takeOff_51 : decode cX9_takeOff 51 = .ok (.aload_n 0, 1) := by decide +kernel
theorem dX9_takeOff_52 : decode cX9_takeOff 52 = .ok (.getfield 9, 3) := by decide +kernel
theorem dX9_takeOff_55 : decode cX9_takeOff 55 = .ok (.iload_n 1, 1) := by decide +kernel
theorem dX9_takeOff_56 : decode cX9_takeOff 56 = .ok (.sipush 1000, 3) := by decide +kernel
theorem dX9_takeOff_59 : decode cX9_takeOff 59 = .ok (.imul, 1) := by decide +kernel
theorem dX9_takeOff_60 : decode cX9_takeOff 60 = .ok (.iload 5, 2) := by decide +kernel
theorem dX9_takeOff_62 : decode cX9_takeOff 62 = .ok (.iadd, 1) := by decide +kernel
theorem dX9_takeOff_63 : decode cX9_takeOff 63 = .ok (.laload, 1) := by decide +kernel
theorem dX9_takeOff_64 : decode cX9_takeOff 64 = .ok (.iload_n 2, 1) := by decide +kernel
theorem dX9_takeOff_65 : decode cX9_takeOff 65 = .ok (.invokestatic 108, 3) := by decide +kernel
theorem dX9_takeOff_68 : decode cX9_takeOff 68 = .ok (.lstore 6, 2) := by decide +kernel
theorem dX9_takeOff_70 : decode cX9_takeOff 70 = .ok (.iconst 0, 1) := by decide +kernel
theorem dX9_takeOff_71 : decode cX9_takeOff 71 = .ok (.istore 8, 2) := by decide +kernel
theorem dX9_takeOff_73 : decode cX9_takeOff 73 = .ok (.iload 8, 2) := by decide +kernel
theorem dX9_takeOff_75 : decode cX9_takeOff 75 = .ok (.iconst 3, 1) := by decide +kernel
theorem dX9_takeOff_76 : decode cX9_takeOff 76 = .ok (.if_icmp .ge 26, 3) := by decide +kernel
theorem dX9_takeOff_79 : decode cX9_takeOff 79 = .ok (.aload_n 0, 1) := by decide +kernel
theorem dX9_takeOff_80 : decode cX9_takeOff 80 = .ok (.getfield 74, 3) := by decide +kernel
theorem dX9_takeOff_83 : decode cX9_takeOff 83 = .ok (.lload 6, 2) := by decide +kernel
theorem dX9_takeOff_85 : decode cX9_takeOff 85 = .ok (.iload 8, 2) := by decide +kernel
theorem dX9_takeOff_87 : decode cX9_takeOff 87 = .ok (.iload_n 3, 1) := by decide +kernel
theorem dX9_takeOff_88 : decode cX9_takeOff 88 = .ok (.invokestatic 139, 3) := by decide +kernel
theorem dX9_takeOff_91 : decode cX9_takeOff 91 = .ok (.dup2, 1) := by decide +kernel
theorem dX9_takeOff_92 : decode cX9_takeOff 92 = .ok (.iaload, 1) := by decide +kernel
theorem dX9_takeOff_93 : decode cX9_takeOff 93 = .ok (.iconst 1, 1) := by decide +kernel
theorem dX9_takeOff_94 : decode cX9_takeOff 94 = .ok (.iadd, 1) := by decide +kernel
theorem dX9_takeOff_95 : decode cX9_takeOff 95 = .ok (.iastore, 1) := by decide +kernel
theorem dX9_takeOff_96 : decode cX9_takeOff 96 = .ok (.iinc 8 1, 3) := by decide +kernel
theorem dX9_takeOff_99 : decode cX9_takeOff 99 = .ok (.goto (-26), 3) := by decide +kernel
theorem dX9_takeOff_102 : decode cX9_takeOff 102 = .ok (.iinc 5 1, 3) := by decide +kernel
theorem dX9_takeOff_105 : decode cX9_takeOff 105 = .ok (.goto (-69), 3) := by decide +kernel
theorem dX9_takeOff_108 : decode cX9_takeOff 108 = .ok (.iconst 0, 1) := by decide +kernel
theorem dX9_takeOff_109 : decode cX9_takeOff 109 = .ok (.istore 5, 2) := by decide +kernel
theorem dX9_takeOff_111 : decode cX9_takeOff 111 = .ok (.iload 5, 2) := by decide +kernel
theorem dX9_takeOff_113 : decode cX9_takeOff 113 = .ok (.iload 4, 2) := by decide +kernel
theorem dX9_takeOff_115 : decode cX9_takeOff 115 = .ok (.if_icmp .ge 169, 3) := by decide +kernel
theorem dX9_takeOff_118 : decode cX9_takeOff 118 = .ok (.iconst 0, 1) := by decide +kernel
theorem dX9_takeOff_119 : decode cX9_takeOff 119 = .ok (.istore 6, 2) := by decide +kernel
theorem dX9_takeOff_121 : decode cX9_takeOff 121 = .ok (.iload 6, 2) := by decide +kernel
theorem dX9_takeOff_123 : decode cX9_takeOff 123 = .ok (.iconst 3, 1) := by decide +kernel
theorem dX9_takeOff_124 : decode cX9_takeOff 124 = .ok (.iload_n 3, 1) := by decide +kernel
theorem dX9_takeOff_125 : decode cX9_takeOff 125 = .ok (.imul, 1) := by decide +kernel
theorem dX9_takeOff_126 : decode cX9_takeOff 126 = .ok (.if_icmp .ge 20, 3) := by decide +kernel
theorem dX9_takeOff_129 : decode cX9_takeOff 129 = .ok (.aload_n 0, 1) := by decide +kernel
theorem dX9_takeOff_130 : decode cX9_takeOff 130 = .ok (.getfield 74, 3) := by decide +kernel
theorem dX9_takeOff_133 : decode cX9_takeOff 133 = .ok (.iload 6, 2) := by decide +kernel
theorem dX9_takeOff_135 : decode cX9_takeOff 135 = .ok (.iaload, 1) := by decide +kernel
theorem dX9_takeOff_136 : decode cX9_takeOff 136 = .ok (.iconst 1, 1) := by decide +kernel
theorem dX9_takeOff_137 : decode cX9_takeOff 137 = .ok (.if_icmp .eq 9, 3) := by decide +kernel
theorem dX9_takeOff_140 : decode cX9_takeOff 140 = .ok (.iinc 6 1, 3) := by decide +kernel
theorem dX9_takeOff_143 : decode cX9_takeOff 143 = .ok (.goto (-22), 3) := by decide +kernel
theorem dX9_takeOff_146 : decode cX9_takeOff 146 = .ok (.iload 6, 2) := by decide +kernel
theorem dX9_takeOff_148 : decode cX9_takeOff 148 = .ok (.iconst 3, 1) := by decide +kernel
theorem dX9_takeOff_149 : decode cX9_takeOff 149 = .ok (.iload_n 3, 1) := by decide +kernel
theorem dX9_takeOff_150 : decode cX9_takeOff 150 = .ok (.imul, 1) := by decide +kernel
theorem dX9_takeOff_151 : decode cX9_takeOff 151 = .ok (.if_icmp .ne 5, 3) := by decide +kernel
theorem dX9_takeOff_154 : decode cX9_takeOff 154 = .ok (.iconst 0, 1) := by decide +kernel
theorem dX9_takeOff_155 : decode cX9_takeOff 155 = .ok (.ireturn, 1) := by decide +kernel
theorem dX9_takeOff_156 : decode cX9_takeOff 156 = .ok (.iconst 0, 1) := by decide +kernel
theorem dX9_takeOff_157 : decode cX9_takeOff 157 = .ok (.istore 7, 2) := by decide +kernel
theorem dX9_takeOff_159 : decode cX9_takeOff 159 = .ok (.aload_n 0, 1) := by decide +kernel
theorem dX9_takeOff_160 : decode cX9_takeOff 160 = .ok (.getfield 70, 3) := by decide +kernel
theorem dX9_takeOff_163 : decode cX9_takeOff 163 = .ok (.iload 7, 2) := by decide +kernel
theorem dX9_takeOff_165 : decode cX9_takeOff 165 = .ok (.baload, 1) := by decide +kernel
theorem dX9_takeOff_166 : decode cX9_takeOff 166 = .ok (.ifCond .ne 33, 3) := by decide +kernel
theorem dX9_takeOff_169 : decode cX9_takeOff 169 = .ok (.aload_n 0, 1) := by decide +kernel
theorem dX9_takeOff_170 : decode cX9_takeOff 170 = .ok (.getfield 9, 3) := by decide +kernel
theorem dX9_takeOff_173 : decode cX9_takeOff 173 = .ok (.iload_n 1, 1) := by decide +kernel
theorem dX9_takeOff_174 : decode cX9_takeOff 174 = .ok (.sipush 1000, 3) := by decide +kernel
theorem dX9_takeOff_177 : decode cX9_takeOff 177 = .ok (.imul, 1) := by decide +kernel
theorem dX9_takeOff_178 : decode cX9_takeOff 178 = .ok (.iload 7, 2) := by decide +kernel
theorem dX9_takeOff_180 : decode cX9_takeOff 180 = .ok (.iadd, 1) := by decide +kernel
theorem dX9_takeOff_181 : decode cX9_takeOff 181 = .ok (.laload, 1) := by decide +kernel
theorem dX9_takeOff_182 : decode cX9_takeOff 182 = .ok (.iload_n 2, 1) := by decide +kernel
theorem dX9_takeOff_183 : decode cX9_takeOff 183 = .ok (.invokestatic 108, 3) := by decide +kernel
theorem dX9_takeOff_186 : decode cX9_takeOff 186 = .ok (.iload 6, 2) := by decide +kernel
theorem dX9_takeOff_188 : decode cX9_takeOff 188 = .ok (.iload_n 3, 1) := by decide +kernel
theorem dX9_takeOff_189 : decode cX9_takeOff 189 = .ok (.idiv, 1) := by decide +kernel
theorem dX9_takeOff_190 : decode cX9_takeOff 190 = .ok (.iload_n 3, 1) := by decide +kernel
theorem dX9_takeOff_191 : decode cX9_takeOff 191 = .ok (.invokestatic 139, 3) := by decide +kernel
theorem dX9_takeOff_194 : decode cX9_takeOff 194 = .ok (.iload 6, 2) := by decide +kernel
theorem dX9_takeOff_196 : decode cX9_takeOff 196 = .ok (.if_icmp .eq 9, 3) := by decide +kernel
theorem dX9_takeOff_199 : decode cX9_takeOff 199 = .ok (.iinc 7 1, 3) := by decide +kernel
theorem dX9_takeOff_202 : decode cX9_takeOff 202 = .ok (.goto (-43), 3) := by decide +kernel
theorem dX9_takeOff_205 : decode cX9_takeOff 205 = .ok (.aload_n 0, 1) := by decide +kernel
theorem dX9_takeOff_206 : decode cX9_takeOff 206 = .ok (.getfield 70, 3) := by decide +kernel
theorem dX9_takeOff_209 : decode cX9_takeOff 209 = .ok (.iload 7, 2) := by decide +kernel
theorem dX9_takeOff_211 : decode cX9_takeOff 211 = .ok (.iconst 1, 1) := by decide +kernel
theorem dX9_takeOff_212 : decode cX9_takeOff 212 = .ok (.bastore, 1) := by decide +kernel
theorem dX9_takeOff_213 : decode cX9_takeOff 213 = .ok (.aload_n 0, 1) := by decide +kernel
theorem dX9_takeOff_214 : decode cX9_takeOff 214 = .ok (.getfield 64, 3) := by decide +kernel
theorem dX9_takeOff_217 : decode cX9_takeOff 217 = .ok (.iload 5, 2) := by decide +kernel
theorem dX9_takeOff_219 : decode cX9_takeOff 219 = .ok (.iload 7, 2) := by decide +kernel
theorem dX9_takeOff_221 : decode cX9_takeOff 221 = .ok (.iastore, 1) := by decide +kernel
theorem dX9_takeOff_222 : decode cX9_takeOff 222 = .ok (.aload_n 0, 1) := by decide +kernel
theorem dX9_takeOff_223 : decode cX9_takeOff 223 = .ok (.getfield 67, 3) := by decide +kernel
theorem dX9_takeOff_226 : decode cX9_takeOff 226 = .ok (.iload 5, 2) := by decide +kernel
theorem dX9_takeOff_228 : decode cX9_takeOff 228 = .ok (.iload 6, 2) := by decide +kernel
theorem dX9_takeOff_230 : decode cX9_takeOff 230 = .ok (.iastore, 1) := by decide +kernel
theorem dX9_takeOff_231 : decode cX9_takeOff 231 = .ok (.iconst 0, 1) := by decide +kernel
theorem dX9_takeOff_232 : decode cX9_takeOff 232 = .ok (.istore 8, 2) := by decide +kernel
theorem dX9_takeOff_234 : decode cX9_takeOff 234 = .ok (.iload 8, 2) := by decide +kernel
theorem dX9_takeOff_236 : decode cX9_takeOff 236 = .ok (.iconst 3, 1) := by decide +kernel
theorem dX9_takeOff_237 : decode cX9_takeOff 237 = .ok (.if_icmp .ge 41, 3) := by decide +kernel
theorem dX9_takeOff_240 : decode cX9_takeOff 240 = .ok (.aload_n 0, 1) := by decide +kernel
theorem dX9_takeOff_241 : decode cX9_takeOff 241 = .ok (.getfield 74, 3) := by decide +kernel
theorem dX9_takeOff_244 : decode cX9_takeOff 244 = .ok (.aload_n 0, 1) := by decide +kernel
theorem dX9_takeOff_245 : decode cX9_takeOff 245 = .ok (.getfield 9, 3) := by decide +kernel
theorem dX9_takeOff_248 : decode cX9_takeOff 248 = .ok (.iload_n 1, 1) := by decide +kernel
theorem dX9_takeOff_249 : decode cX9_takeOff 249 = .ok (.sipush 1000, 3) := by decide +kernel
theorem dX9_takeOff_252 : decode cX9_takeOff 252 = .ok (.imul, 1) := by decide +kernel
theorem dX9_takeOff_253 : decode cX9_takeOff 253 = .ok (.iload 7, 2) := by decide +kernel
theorem dX9_takeOff_255 : decode cX9_takeOff 255 = .ok (.iadd, 1) := by decide +kernel
theorem dX9_takeOff_256 : decode cX9_takeOff 256 = .ok (.laload, 1) := by decide +kernel
theorem dX9_takeOff_257 : decode cX9_takeOff 257 = .ok (.iload_n 2, 1) := by decide +kernel
theorem dX9_takeOff_258 : decode cX9_takeOff 258 = .ok (.invokestatic 108, 3) := by decide +kernel
theorem dX9_takeOff_261 : decode cX9_takeOff 261 = .ok (.iload 8, 2) := by decide +kernel
theorem dX9_takeOff_263 : decode cX9_takeOff 263 = .ok (.iload_n 3, 1) := by decide +kernel
theorem dX9_takeOff_264 : decode cX9_takeOff 264 = .ok (.invokestatic 139, 3) := by decide +kernel
theorem dX9_takeOff_267 : decode cX9_takeOff 267 = .ok (.dup2, 1) := by decide +kernel
theorem dX9_takeOff_268 : decode cX9_takeOff 268 = .ok (.iaload, 1) := by decide +kernel
theorem dX9_takeOff_269 : decode cX9_takeOff 269 = .ok (.iconst 1, 1) := by decide +kernel
theorem dX9_takeOff_270 : decode cX9_takeOff 270 = .ok (.isub, 1) := by decide +kernel
theorem dX9_takeOff_271 : decode cX9_takeOff 271 = .ok (.iastore, 1) := by decide +kernel
theorem dX9_takeOff_272 : decode cX9_takeOff 272 = .ok (.iinc 8 1, 3) := by decide +kernel
theorem dX9_takeOff_275 : decode cX9_takeOff 275 = .ok (.goto (-41), 3) := by decide +kernel
theorem dX9_takeOff_278 : decode cX9_takeOff 278 = .ok (.iinc 5 1, 3) := by decide +kernel
theorem dX9_takeOff_281 : decode cX9_takeOff 281 = .ok (.goto (-170), 3) := by decide +kernel
theorem dX9_takeOff_284 : decode cX9_takeOff 284 = .ok (.iconst 1, 1) := by decide +kernel
theorem dX9_takeOff_285 : decode cX9_takeOff 285 = .ok (.ireturn, 1) := by decide +kernel
set_option maxRecDepth 20000 in
theorem gu_wsX9_solve_1 : ∀ w ∈ wsX9_solve_r1, w ∈ wsX9_solve := fun _ h => List.mem_cons_of_mem _ (List.mem_append_left _ (List.mem_append_left _ h))
set_option maxRecDepth 20000 in
theorem ggX9_solve_X9_isWorld : GoodIn wsX9_solve wsX9_isWorld := goodIn_sub (gi_c (gu_wsX9_solve_1 _ gm_9) (gi_0)) (by decide +kernel)
set_option maxRecDepth 20000 in
theorem gX9_solve_X9_isWorld : GoodIn wsX9_solve (va_wsS RX9 92 yX9_isWorld wsX9_isWorld) := goodIn_app (goodIn_sub (gi_c (gu_wsX9_solve_1 _ gm_6) (gi_c (gu_wsX9_solve_1 _ gm_7) (gi_c (gu_wsX9_solve_1 _ gm_8) gi_0))) (by decide +kernel)) ggX9_solve_X9_isWorld
set_option maxRecDepth 20000 in
theorem gu_wsX9_solve_2 : ∀ w ∈ wsX9_solve_r2, w ∈ wsX9_solve := fun _ h => List.mem_cons_of_mem _ (List.mem_append_left _ (List.mem_append_right _ h))
set_option maxRecDepth 20000 in
theorem gu_wsX9_solve_3 : ∀ w ∈ wsX90, w ∈ wsX9_solve := fun _ h => List.mem_cons_of_mem _ (List.mem_append_right _ h)
set_option maxRecDepth 20000 in
theorem ggX9_solve_X9_takeOff : GoodIn wsX9_solve wsX9_takeOff := goodIn_sub (gi_c (gu_wsX9_solve_1 _ gm_13) (gi_a (gi_c (gu_wsX9_solve_1 _ gm_0) (gi_c (gu_wsX9_solve_1 _ gm_14) (gi_c (gu_wsX9_solve_1 _ gm_15) (gi_c (gu_wsX9_solve_1 _ gm_2) (gi_c (gu_wsX9_solve_1 _ gm_3) (gi_c (gu_wsX9_solve_1 _ gm_5) (gi_c (gu_wsX9_solve_1 _ gm_16) (gi_c (gu_wsX9_solve_1 _ gm_17) (gi_c (gu_wsX9_solve_1 _ gm_8) (gi_c (gu_wsX9_solve_1 _ gm_18) (gi_c (gu_wsX9_solve_1 _ gm_19) (gi_c (gu_wsX9_solve_1 _ gm_20) (gi_c (gu_wsX9_solve_1 _ gm_21) (gi_c (gu_wsX9_solve_1 _ gm_22) (gi_c (gu_wsX9_solve_1 _ gm_23) (gi_c (gu_wsX9_solve_2 _ gm_0) (gi_c (gu_wsX9_solve_2 _ gm_1) gi_0))))))))))))))))) (gu_wsX9_solve_3))) (by decide +kernel)
set_option maxRecDepth 20000 in
theorem gX9_solve_X9_takeOff : GoodIn wsX9_solve (wsV RX9 154 RX9 yX9_takeOff wsX9_takeOff) := goodIn_app (goodIn_sub (gi_c (gu_wsX9_solve_1 _ gm_10) (gi_c (gu_wsX9_solve_1 _ gm_11) (gi_c (gu_wsX9_solve_1 _ gm_12) (gi_c (gu_wsX9_solve_1 _ gm_8) gi_0)))) (by decide +kernel)) ggX9_solve_X9_takeOff
set_option maxRecDepth 20000 in
theorem ggX9_solve_X9_begin : GoodIn wsX9_solve wsX9_begin := goodIn_sub (gi_c (gu_wsX9_solve_2 _ gm_5) (gi_a (gi_c (gu_wsX9_solve_1 _ gm_1) (gi_c (gu_wsX9_solve_2 _ gm_6) (gi_c (gu_wsX9_solve_2 _ gm_7) (gi_c (gu_wsX9_solve_2 _ gm_8) (gi_c (gu_wsX9_solve_2 _ gm_9) (gi_c (gu_wsX9_solve_2 _ gm_10) (gi_c (gu_wsX9_solve_2 _ gm_11) (gi_c (gu_wsX9_solve_1 _ gm_4) gi_0)))))))) (gu_wsX9_solve_3))) (by decide +kernel)
set_option maxRecDepth 20000 in
theorem gX9_solve_X9_begin : GoodIn wsX9_solve (wsV RX9 150 RX9 yX9_begin wsX9_begin) := goodIn_app (goodIn_sub (gi_c (gu_wsX9_solve_2 _ gm_2) (gi_c (gu_wsX9_solve_2 _ gm_3) (gi_c (gu_wsX9_solve_2 _ gm_4) (gi_c (gu_wsX9_solve_1 _ gm_8) gi_0)))) (by decide +kernel)) ggX9_solve_X9_begin
set_option maxRecDepth 20000 in
theorem ggX9_solve_X9_mix : GoodIn wsX9_solve wsX9_mix := goodIn_sub (gi_c (gu_wsX9_solve_1 _ gm_18) (gi_c (gu_wsX9_solve_1 _ gm_19) (gi_c (gu_wsX9_solve_1 _ gm_20) (gi_c (gu_wsX9_solve_1 _ gm_21) gi_0)))) (by decide +kernel)
set_option maxRecDepth 20000 in
theorem gX9_solve_X9_mix : GoodIn wsX9_solve (va_wsS RX9 108 yX9_mix wsX9_mix) := goodIn_app (goodIn_sub (gi_c (gu_wsX9_solve_1 _ gm_16) (gi_c (gu_wsX9_solve_1 _ gm_17) (gi_c (gu_wsX9_solve_1 _ gm_8) gi_0))) (by decide +kernel)) ggX9_solve_X9_mix
set_option maxRecDepth 20000 in
theorem ggX9_solve_X9_solvedTag : GoodIn wsX9_solve wsX9_solvedTag := goodIn_sub (gi_c (gu_wsX9_solve_2 _ gm_14) (gi_c (gu_wsX9_solve_2 _ gm_15) gi_0)) (by decide +kernel)
set_option maxRecDepth 20000 in
theorem gX9_solve_X9_solvedTag : GoodIn wsX9_solve (va_wsS RX9 136 yX9_solvedTag wsX9_solvedTag) := goodIn_app (goodIn_sub (gi_c (gu_wsX9_solve_2 _ gm_12) (gi_c (gu_wsX9_solve_2 _ gm_13) (gi_c (gu_wsX9_solve_1 _ gm_8) gi_0))) (by decide +kernel)) ggX9_solve_X9_solvedTag
set_option maxRecDepth 20000 in
theorem ggX9_solve_X9_solvedPlace : GoodIn wsX9_solve wsX9_solvedPlace := goodIn_sub (gi_c (gu_wsX9_solve_2 _ gm_0) (gi_c (gu_wsX9_solve_2 _ gm_1) gi_0)) (by decide +kernel)
set_option maxRecDepth 20000 in
theorem gX9_solve_X9_solvedPlace : GoodIn wsX9_solve (va_wsS RX9 139 yX9_solvedPlace wsX9_solvedPlace) := goodIn_app (goodIn_sub (gi_c (gu_wsX9_solve_1 _ gm_22) (gi_c (gu_wsX9_solve_1 _ gm_23) (gi_c (gu_wsX9_solve_1 _ gm_8) gi_0))) (by decide +kernel)) ggX9_solve_X9_solvedPlace
set_option maxRecDepth 20000 in
theorem ggX9_solve_X9_fillFrom : GoodIn wsX9_solve wsX9_fillFrom := goodIn_sub (gi_c (gu_wsX9_solve_2 _ gm_19) (gi_a (gi_c (gu_wsX9_solve_2 _ gm_10) (gi_c (gu_wsX9_solve_1 _ gm_0) (gi_c (gu_wsX9_solve_2 _ gm_20) (gi_c (gu_wsX9_solve_1 _ gm_2) gi_0)))) (gu_wsX9_solve_3))) (by decide +kernel)
set_option maxRecDepth 20000 in
theorem gX9_solve_X9_fillFrom : GoodIn wsX9_solve (wsV RX9 157 RX9 yX9_fillFrom wsX9_fillFrom) := goodIn_app (goodIn_sub (gi_c (gu_wsX9_solve_2 _ gm_16) (gi_c (gu_wsX9_solve_2 _ gm_17) (gi_c (gu_wsX9_solve_2 _ gm_18) (gi_c (gu_wsX9_solve_1 _ gm_8) gi_0)))) (by decide +kernel)) ggX9_solve_X9_fillFrom
theorem dX9_solve_0 : decode cX9_solve 0 = .ok (.iload_n 1, 1) := by decide +kernel
theorem dX9_solve_1 : decode cX9_solve 1 = .ok (.invokestatic 92, 3) := by decide +kernel
theorem dX9_solve_4 : decode cX9_solve 4 = .ok (.ifCond .ne 5, 3) := by decide +kernel
theorem dX9_solve_7 : decode cX9_solve 7 = .ok (.iconst (-1), 1) := by decide +kernel
theorem dX9_solve_8 : decode cX9_solve 8 = .ok (.ireturn, 1) := by decide +kernel
theorem dX9_solve_9 : decode cX9_solve 9 = .ok (.aload_n 0, 1) := by decide +kernel
theorem dX9_solve_10 : decode cX9_solve 10 = .ok (.getfield 13, 3) := by decide +kernel
theorem dX9_solve_13 : decode cX9_solve 13 = .ok (.iload_n 1, 1) := by decide +kernel
theorem dX9_solve_14 : decode cX9_solve 14 = .ok (.iaload, 1) := by decide +kernel
theorem dX9_solve_15 : decode cX9_solve 15 = .ok (.istore_n 3, 1) := by decide +kernel
theorem dX9_solve_16 : decode cX9_solve 16 = .ok (.iload_n 3, 1) := by decide +kernel
theorem dX9_solve_17 : decode cX9_solve 17 = .ok (.iload_n 3, 1) := by decide +kernel
theorem dX9_solve_18 : decode cX9_solve 18 = .ok (.iconst 4, 1) := by decide +kernel
theorem dX9_solve_19 : decode cX9_solve 19 = .ok (.idiv, 1) := by decide +kernel
theorem dX9_solve_20 : decode cX9_solve 20 = .ok (.iadd, 1) := by decide +kernel
theorem dX9_solve_21 : decode cX9_solve 21 = .ok (.bipush 8, 2) := by decide +kernel
theorem dX9_solve_23 : decode cX9_solve 23 = .ok (.iadd, 1) := by decide +kernel
theorem dX9_solve_24 : decode cX9_solve 24 = .ok (.istore 4, 2) := by decide +kernel
theorem dX9_solve_26 : decode cX9_solve 26 = .ok (.iconst (-1), 1) := by decide +kernel
theorem dX9_solve_27 : decode cX9_solve 27 = .ok (.istore 5, 2) := by decide +kernel
theorem dX9_solve_29 : decode cX9_solve 29 = .ok (.iconst 0, 1) := by decide +kernel
theorem dX9_solve_30 : decode cX9_solve 30 = .ok (.istore 6, 2) := by decide +kernel
theorem dX9_solve_32 : decode cX9_solve 32 = .ok (.iload 6, 2) := by decide +kernel
theorem dX9_solve_34 : decode cX9_solve 34 = .ok (.bipush 50, 2) := by decide +kernel
theorem dX9_solve_36 : decode cX9_solve 36 = .ok (.if_icmp .ge 36, 3) := by decide +kernel
theorem dX9_solve_39 : decode cX9_solve 39 = .ok (.iload 5, 2) := by decide +kernel
theorem dX9_solve_41 : decode cX9_solve 41 = .ok (.ifCond .ge 31, 3) := by decide +kernel
theorem dX9_solve_44 : decode cX9_solve 44 = .ok (.aload_n 0, 1) := by decide +kernel
theorem dX9_solve_45 : decode cX9_solve 45 = .ok (.iload_n 1, 1) := by decide +kernel
theorem dX9_solve_46 : decode cX9_solve 46 = .ok (.iload_n 2, 1) := by decide +kernel
theorem dX9_solve_47 : decode cX9_solve 47 = .ok (.iload 6, 2) := by decide +kernel
theorem dX9_solve_49 : decode cX9_solve 49 = .ok (.iadd, 1) := by decide +kernel
theorem dX9_solve_50 : decode cX9_solve 50 = .ok (.iload 4, 2) := by decide +kernel
theorem dX9_solve_52 : decode cX9_solve 52 = .ok (.invokevirtual 154, 3) := by decide +kernel
theorem dX9_solve_55 : decode cX9_solve 55 = .ok (.ifCond .eq 8, 3) := by decide +kernel
theorem dX9_solve_58 : decode cX9_solve 58 = .ok (.iload 6, 2) := by decide +kernel
theorem dX9_solve_60 : decode cX9_solve 60 = .ok (.goto 4, 3) := by decide +kernel
theorem dX9_solve_63 : decode cX9_solve 63 = .ok (.iconst (-1), 1) := by decide +kernel
theorem dX9_solve_64 : decode cX9_solve 64 = .ok (.istore 5, 2) := by decide +kernel
theorem dX9_solve_66 : decode cX9_solve 66 = .ok (.iinc 6 1, 3) := by decide +kernel
theorem dX9_solve_69 : decode cX9_solve 69 = .ok (.goto (-37), 3) := by decide +kernel
theorem dX9_solve_72 : decode cX9_solve 72 = .ok (.iload 5, 2) := by decide +kernel
theorem dX9_solve_74 : decode cX9_solve 74 = .ok (.ifCond .ge 6, 3) := by decide +kernel
theorem dX9_solve_77 : decode cX9_solve 77 = .ok (.bipush (-3), 2) := by decide +kernel
theorem dX9_solve_79 : decode cX9_solve 79 = .ok (.ireturn, 1) := by decide +kernel
theorem dX9_solve_80 : decode cX9_solve 80 = .ok (.aload_n 0, 1) := by decide +kernel
theorem dX9_solve_81 : decode cX9_solve 81 = .ok (.getfield 88, 3) := by decide +kernel
theorem dX9_solve_84 : decode cX9_solve 84 = .ok (.bipush 30, 2) := by decide +kernel
theorem dX9_solve_86 : decode cX9_solve 86 = .ok (.if_icmp .ne 6, 3) := by decide +kernel
theorem dX9_solve_89 : decode cX9_solve 89 = .ok (.bipush (-4), 2) := by decide +kernel
theorem dX9_solve_91 : decode cX9_solve 91 = .ok (.ireturn, 1) := by decide +kernel
theorem dX9_solve_92 : decode cX9_solve 92 = .ok (.aload_n 0, 1) := by decide +kernel
theorem dX9_solve_93 : decode cX9_solve 93 = .ok (.iconst 3, 1) := by decide +kernel
theorem dX9_solve_94 : decode cX9_solve 94 = .ok (.iload 4, 2) := by decide +kernel
theorem dX9_solve_96 : decode cX9_solve 96 = .ok (.iconst 0, 1) := by decide +kernel
theorem dX9_solve_97 : decode cX9_solve 97 = .ok (.iload_n 2, 1) := by decide +kernel
theorem dX9_solve_98 : decode cX9_solve 98 = .ok (.iload 5, 2) := by decide +kernel
theorem dX9_solve_100 : decode cX9_solve 100 = .ok (.iadd, 1) := by decide +kernel
theorem dX9_solve_101 : decode cX9_solve 101 = .ok (.invokevirtual 150, 3) := by decide +kernel
theorem dX9_solve_104 : decode cX9_solve 104 = .ok (.istore 6, 2) := by decide +kernel
theorem dX9_solve_106 : decode cX9_solve 106 = .ok (.iload_n 3, 1) := by decide +kernel
theorem dX9_solve_107 : decode cX9_solve 107 = .ok (.iconst 1, 1) := by decide +kernel
theorem dX9_solve_108 : decode cX9_solve 108 = .ok (.isub, 1) := by decide +kernel
theorem dX9_solve_109 : decode cX9_solve 109 = .ok (.istore 7, 2) := by decide +kernel
theorem dX9_solve_111 : decode cX9_solve 111 = .ok (.iload 7, 2) := by decide +kernel
theorem dX9_solve_113 : decode cX9_solve 113 = .ok (.ifCond .lt 105, 3) := by decide +kernel
theorem dX9_solve_116 : decode cX9_solve 116 = .ok (.aload_n 0, 1) := by decide +kernel
theorem dX9_solve_117 : decode cX9_solve 117 = .ok (.getfield 9, 3) := by decide +kernel
theorem dX9_solve_120 : decode cX9_solve 120 = .ok (.iload_n 1, 1) := by decide +kernel
