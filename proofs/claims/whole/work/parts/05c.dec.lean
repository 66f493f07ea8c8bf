theorem dX8_init_0 : decode cX8_init 0 = .ok (.aload_n 0, 1) := by decide +kernel
theorem dX8_init_1 : decode cX8_init 1 = .ok (.invokespecial 3, 3) := by decide +kernel
theorem dX8_init_4 : decode cX8_init 4 = .ok (.aload_n 0, 1) := by decide +kernel
theorem dX8_init_5 : decode cX8_init 5 = .ok (.bipush 60, 2) := by decide +kernel
theorem dX8_init_7 : decode cX8_init 7 = .ok (.newarray .int, 2) := by decide +kernel
theorem dX8_init_9 : decode cX8_init 9 = .ok (.putfield 9, 3) := by decide +kernel
theorem dX8_init_12 : decode cX8_init 12 = .ok (.aload_n 0, 1) := by decide +kernel
theorem dX8_init_13 : decode cX8_init 13 = .ok (.bipush 60, 2) := by decide +kernel
theorem dX8_init_15 : decode cX8_init 15 = .ok (.newarray .int, 2) := by decide +kernel
theorem dX8_init_17 : decode cX8_init 17 = .ok (.putfield 13, 3) := by decide +kernel
theorem dX8_init_20 : decode cX8_init 20 = .ok (.aload_n 0, 1) := by decide +kernel
theorem dX8_init_21 : decode cX8_init 21 = .ok (.bipush 60, 2) := by decide +kernel
theorem dX8_init_23 : decode cX8_init 23 = .ok (.newarray .int, 2) := by decide +kernel
theorem dX8_init_25 : decode cX8_init 25 = .ok (.putfield 16, 3) := by decide +kernel
theorem dX8_init_28 : decode cX8_init 28 = .ok (.aload_n 0, 1) := by decide +kernel
theorem dX8_init_29 : decode cX8_init 29 = .ok (.bipush 60, 2) := by decide +kernel
theorem dX8_init_31 : decode cX8_init 31 = .ok (.newarray .int, 2) := by decide +kernel
theorem dX8_init_33 : decode cX8_init 33 = .ok (.putfield 19, 3) := by decide +kernel
theorem dX8_init_36 : decode cX8_init 36 = .ok (.aload_n 0, 1) := by decide +kernel
theorem dX8_init_37 : decode cX8_init 37 = .ok (.bipush 60, 2) := by decide +kernel
theorem dX8_init_39 : decode cX8_init 39 = .ok (.newarray .int, 2) := by decide +kernel
theorem dX8_init_41 : decode cX8_init 41 = .ok (.putfield 22, 3) := by decide +kernel
theorem dX8_init_44 : decode cX8_init 44 = .ok (.aload_n 0, 1) := by decide +kernel
theorem dX8_init_45 : decode cX8_init 45 = .ok (.bipush 60, 2) := by decide +kernel
theorem dX8_init_47 : decode cX8_init 47 = .ok (.newarray .int, 2) := by decide +kernel
theorem dX8_init_49 : decode cX8_init 49 = .ok (.putfield 25, 3) := by decide +kernel
theorem dX8_init_52 : decode cX8_init 52 = .ok (.aload_n 0, 1) := by decide +kernel
theorem dX8_init_53 : decode cX8_init 53 = .ok (.bipush 60, 2) := by decide +kernel
theorem dX8_init_55 : decode cX8_init 55 = .ok (.newarray .int, 2) := by decide +kernel
theorem dX8_init_57 : decode cX8_init 57 = .ok (.putfield 28, 3) := by decide +kernel
theorem dX8_init_60 : decode cX8_init 60 = .ok (.aload_n 0, 1) := by decide +kernel
theorem dX8_init_61 : decode cX8_init 61 = .ok (.bipush 60, 2) := by decide +kernel
theorem dX8_init_63 : decode cX8_init 63 = .ok (.newarray .int, 2) := by decide +kernel
theorem dX8_init_65 : decode cX8_init 65 = .ok (.putfield 31, 3) := by decide +kernel
theorem dX8_init_68 : decode cX8_init 68 = .ok (.aload_n 0, 1) := by decide +kernel
theorem dX8_init_69 : decode cX8_init 69 = .ok (.bipush 60, 2) := by decide +kernel
theorem dX8_init_71 : decode cX8_init 71 = .ok (.newarray .int, 2) := by decide +kernel
theorem dX8_init_73 : decode cX8_init 73 = .ok (.putfield 34, 3) := by decide +kernel
theorem dX8_init_76 : decode cX8_init 76 = .ok (.aload_n 0, 1) := by decide +kernel
theorem dX8_init_77 : decode cX8_init 77 = .ok (.bipush 60, 2) := by decide +kernel
theorem dX8_init_79 : decode cX8_init 79 = .ok (.newarray .int, 2) := by decide +kernel
theorem dX8_init_81 : decode cX8_init 81 = .ok (.putfield 37, 3) := by decide +kernel
theorem dX8_init_84 : decode cX8_init 84 = .ok (.aload_n 0, 1) := by decide +kernel
theorem dX8_init_85 : decode cX8_init 85 = .ok (.bipush 60, 2) := by decide +kernel
theorem dX8_init_87 : decode cX8_init 87 = .ok (.newarray .int, 2) := by decide +kernel
theorem dX8_init_89 : decode cX8_init 89 = .ok (.putfield 40, 3) := by decide +kernel
theorem dX8_init_92 : decode cX8_init 92 = .ok (.aload_n 0, 1) := by decide +kernel
theorem dX8_init_93 : decode cX8_init 93 = .ok (.bipush 60, 2) := by decide +kernel
theorem dX8_init_95 : decode cX8_init 95 = .ok (.newarray .boolean, 2) := by decide +kernel
theorem dX8_init_97 : decode cX8_init 97 = .ok (.putfield 43, 3) := by decide +kernel
theorem dX8_init_100 : decode cX8_init 100 = .ok (.aload_n 0, 1) := by decide +kernel
theorem dX8_init_101 : decode cX8_init 101 = .ok (.bipush 60, 2) := by decide +kernel
theorem dX8_init_103 : decode cX8_init 103 = .ok (.newarray .boolean, 2) := by decide +kernel
theorem dX8_init_105 : decode cX8_init 105 = .ok (.putfield 47, 3) := by decide +kernel
theorem dX8_init_108 : decode cX8_init 108 = .ok (.aload_n 0, 1) := by decide +kernel
theorem dX8_init_109 : decode cX8_init 109 = .ok (.sipush 256, 3) := by decide +kernel
theorem dX8_init_112 : decode cX8_init 112 = .ok (.newarray .int, 2) := by decide +kernel
theorem dX8_init_114 : decode cX8_init 114 = .ok (.putfield 50, 3) := by decide +kernel
theorem dX8_init_117 : decode cX8_init 117 = .ok (.aload_n 0, 1) := by decide +kernel
theorem dX8_init_118 : decode cX8_init 118 = .ok (.sipush 256, 3) := by decide +kernel
theorem dX8_init_121 : decode cX8_init 121 = .ok (.newarray .int, 2) := by decide +kernel
theorem dX8_init_123 : decode cX8_init 123 = .ok (.putfield 53, 3) := by decide +kernel
theorem dX8_init_126 : decode cX8_init 126 = .ok (.aload_n 0, 1) := by decide +kernel
theorem dX8_init_127 : decode cX8_init 127 = .ok (.sipush 256, 3) := by decide +kernel
theorem dX8_init_130 : decode cX8_init 130 = .ok (.newarray .int, 2) := by decide +kernel
theorem dX8_init_132 : decode cX8_init 132 = .ok (.putfield 56, 3) := by decide +kernel
theorem dX8_init_135 : decode cX8_init 135 = .ok (.aload_n 0, 1) := by decide +kernel
theorem dX8_init_136 : decode cX8_init 136 = .ok (.sipush 256, 3) := by decide +kernel
theorem dX8_init_139 : decode cX8_init 139 = .ok (.newarray .int, 2) := by decide +kernel
theorem dX8_init_141 : decode cX8_init 141 = .ok (.putfield 59, 3) := by decide +kernel
theorem dX8_init_144 : decode cX8_init 144 = .ok (.aload_n 0, 1) := by decide +kernel
theorem dX8_init_145 : decode cX8_init 145 = .ok (.bipush 120, 2) := by decide +kernel
theorem dX8_init_147 : decode cX8_init 147 = .ok (.newarray .int, 2) := by decide +kernel
theorem dX8_init_149 : decode cX8_init 149 = .ok (.putfield 62, 3) := by decide +kernel
theorem dX8_init_152 : decode cX8_init 152 = .ok (.aload_n 0, 1) := by decide +kernel
theorem dX8_init_153 : decode cX8_init 153 = .ok (.bipush 120, 2) := by decide +kernel
theorem dX8_init_155 : decode cX8_init 155 = .ok (.newarray .int, 2) := by decide +kernel
theorem dX8_init_157 : decode cX8_init 157 = .ok (.putfield 65, 3) := by decide +kernel
theorem dX8_init_160 : decode cX8_init 160 = .ok (.aload_n 0, 1) := by decide +kernel
theorem dX8_init_161 : decode cX8_init 161 = .ok (.bipush 40, 2) := by decide +kernel
theorem dX8_init_163 : decode cX8_init 163 = .ok (.newarray .int, 2) := by decide +kernel
theorem dX8_init_165 : decode cX8_init 165 = .ok (.putfield 68, 3) := by decide +kernel
theorem dX8_init_168 : decode cX8_init 168 = .ok (.aload_n 0, 1) := by decide +kernel
theorem dX8_init_169 : decode cX8_init 169 = .ok (.bipush 40, 2) := by decide +kernel
theorem dX8_init_171 : decode cX8_init 171 = .ok (.newarray .int, 2) := by decide +kernel
theorem dX8_init_173 : decode cX8_init 173 = .ok (.putfield 71, 3) := by decide +kernel
theorem dX8_init_176 : decode cX8_init 176 = .ok (.aload_n 0, 1) := by decide +kernel
theorem dX8_init_177 : decode cX8_init 177 = .ok (.bipush 40, 2) := by decide +kernel
theorem dX8_init_179 : decode cX8_init 179 = .ok (.newarray .int, 2) := by decide +kernel
theorem dX8_init_181 : decode cX8_init 181 = .ok (.putfield 74, 3) := by decide +kernel
theorem dX8_init_184 : decode cX8_init 184 = .ok (.aload_n 0, 1) := by decide +kernel
theorem dX8_init_185 : decode cX8_init 185 = .ok (.bipush 40, 2) := by decide +kernel
theorem dX8_init_187 : decode cX8_init 187 = .ok (.newarray .int, 2) := by decide +kernel
theorem dX8_init_189 : decode cX8_init 189 = .ok (.putfield 77, 3) := by decide +kernel
theorem dX8_init_192 : decode cX8_init 192 = .ok (.aload_n 0, 1) := by decide +kernel
theorem dX8_init_193 : decode cX8_init 193 = .ok (.bipush 40, 2) := by decide +kernel
theorem dX8_init_195 : decode cX8_init 195 = .ok (.newarray .int, 2) := by decide +kernel
theorem dX8_init_197 : decode cX8_init 197 = .ok (.putfield 80, 3) := by decide +kernel
theorem dX8_init_200 : decode cX8_init 200 = .ok (.aload_n 0, 1) := by decide +kernel
theorem dX8_init_201 : decode cX8_init 201 = .ok (.bipush 40, 2) := by decide +kernel
theorem dX8_init_203 : decode cX8_init 203 = .ok (.newarray .int, 2) := by decide +kernel
theorem dX8_init_205 : decode cX8_init 205 = .ok (.putfield 83, 3) := by decide +kernel
theorem dX8_init_208 : decode cX8_init 208 = .ok (.aload_n 0, 1) := by decide +kernel
theorem dX8_init_209 : decode cX8_init 209 = .ok (.bipush 40, 2) := by decide +kernel
theorem dX8_init_211 : decode cX8_init 211 = .ok (.newarray .int, 2) := by decide +kernel
theorem dX8_init_213 : decode cX8_init 213 = .ok (.putfield 86, 3) := by decide +kernel
theorem dX8_init_216 : decode cX8_init 216 = .ok (.aload_n 0, 1) := by decide +kernel
theorem dX8_init_217 : decode cX8_init 217 = .ok (.sipush 3720, 3) := by decide +kernel
theorem dX8_init_220 : decode cX8_init 220 = .ok (.newarray .int, 2) := by decide +kernel
theorem dX8_init_222 : decode cX8_init 222 = .ok (.putfield 89, 3) := by decide +kernel
theorem dX8_init_225 : decode cX8_init 225 = .ok (.aload_n 0, 1) := by decide +kernel
theorem dX8_init_226 : decode cX8_init 226 = .ok (.bipush 12, 2) := by decide +kernel
theorem dX8_init_228 : decode cX8_init 228 = .ok (.newarray .int, 2) := by decide +kernel
theorem dX8_init_230 : decode cX8_init 230 = .ok (.putfield 92, 3) := by decide +kernel
theorem dX8_init_233 : decode cX8_init 233 = .ok (.iconst 0, 1) := by decide +kernel
theorem dX8_init_234 : decode cX8_init 234 = .ok (.istore_n 1, 1) := by decide +kernel
theorem dX8_init_235 : decode cX8_init 235 = .ok (.iload_n 1, 1) := by decide +kernel
theorem dX8_init_236 : decode cX8_init 236 = .ok (.bipush 120, 2) := by decide +kernel
theorem dX8_init_238 : decode cX8_init 238 = .ok (.if_icmp .ge 23, 3) := by decide +kernel
theorem dX8_init_241 : decode cX8_init 241 = .ok (.aload_n 0, 1) := by decide +kernel
theorem dX8_init_242 : decode cX8_init 242 = .ok (.getfield 65, 3) := by decide +kernel
theorem dX8_init_245 : decode cX8_init 245 = .ok (.iload_n 1, 1) := by decide +kernel
theorem dX8_init_246 : decode cX8_init 246 = .ok (.iconst (-1), 1) := by decide +kernel
theorem dX8_init_247 : decode cX8_init 247 = .ok (.iastore, 1) := by decide +kernel
theorem dX8_init_248 : decode cX8_init 248 = .ok (.aload_n 0, 1) := by decide +kernel
theorem dX8_init_249 : decode cX8_init 249 = .ok (.iload_n 1, 1) := by decide +kernel
theorem dX8_init_250 : decode cX8_init 250 = .ok (.iconst (-1), 1) := by decide +kernel
theorem dX8_init_251 : decode cX8_init 251 = .ok (.iconst 0, 1) := by decide +kernel
theorem dX8_init_252 : decode cX8_init 252 = .ok (.invokevirtual 95, 3) := by decide +kernel
theorem dX8_init_255 : decode cX8_init 255 = .ok (.iinc 1 1, 3) := by decide +kernel
theorem dX8_init_258 : decode cX8_init 258 = .ok (.goto (-23), 3) := by decide +kernel
theorem dX8_init_261 : decode cX8_init 261 = .ok (.return_, 1) := by decide +kernel
theorem dX8_in_0 : decode cX8_in 0 = .ok (.iload_n 0, 1) := by decide +kernel
theorem dX8_in_1 : decode cX8_in 1 = .ok (.iload_n 1, 1) := by decide +kernel
theorem dX8_in_2 : decode cX8_in 2 = .ok (.if_icmp .lt 12, 3) := by decide +kernel
theorem dX8_in_5 : decode cX8_in 5 = .ok (.iload_n 0, 1) := by decide +kernel
theorem dX8_in_6 : decode cX8_in 6 = .ok (.iload_n 2, 1) := by decide +kernel
theorem dX8_in_7 : decode cX8_in 7 = .ok (.if_icmp .gt 7, 3) := by decide +kernel
theorem dX8_in_10 : decode cX8_in 10 = .ok (.iconst 1, 1) := by decide +kernel
theorem dX8_in_11 : decode cX8_in 11 = .ok (.goto 4, 3) := by decide +kernel
theorem dX8_in_14 : decode cX8_in 14 = .ok (.iconst 0, 1) := by decide +kernel
theorem dX8_in_15 : decode cX8_in 15 = .ok (.ireturn, 1) := by decide +kernel
theorem dX8_isPerson_0 : decode cX8_isPerson 0 = .ok (.iload_n 1, 1) := by decide +kernel
theorem dX8_isPerson_1 : decode cX8_isPerson 1 = .ok (.iconst 0, 1) := by decide +kernel
theorem dX8_isPerson_2 : decode cX8_isPerson 2 = .ok (.aload_n 0, 1) := by decide +kernel
theorem dX8_isPerson_3 : decode cX8_isPerson 3 = .ok (.getfield 99, 3) := by decide +kernel
theorem dX8_isPerson_6 : decode cX8_isPerson 6 = .ok (.iconst 1, 1) := by decide +kernel
theorem dX8_isPerson_7 : decode cX8_isPerson 7 = .ok (.isub, 1) := by decide +kernel
theorem dX8_isPerson_8 : decode cX8_isPerson 8 = .ok (.invokestatic 103, 3) := by decide +kernel
theorem dX8_isPerson_11 : decode cX8_isPerson 11 = .ok (.ireturn, 1) := by decide +kernel
theorem dX8_lives_0 : decode cX8_lives 0 = .ok (.aload_n 0, 1) := by decide +kernel
theorem dX8_lives_1 : decode cX8_lives 1 = .ok (.iload_n 1, 1) := by decide +kernel
theorem dX8_lives_2 : decode cX8_lives 2 = .ok (.invokevirtual 107, 3) := by decide +kernel
theorem dX8_lives_5 : decode cX8_lives 5 = .ok (.ifCond .eq 16, 3) := by decide +kernel
theorem dX8_lives_8 : decode cX8_lives 8 = .ok (.aload_n 0, 1) := by decide +kernel
theorem dX8_lives_9 : decode cX8_lives 9 = .ok (.getfield 43, 3) := by decide +kernel
theorem dX8_lives_12 : decode cX8_lives 12 = .ok (.iload_n 1, 1) := by decide +kernel
theorem dX8_lives_13 : decode cX8_lives 13 = .ok (.baload, 1) := by decide +kernel
theorem dX8_lives_14 : decode cX8_lives 14 = .ok (.ifCond .eq 7, 3) := by decide +kernel
theorem dX8_lives_17 : decode cX8_lives 17 = .ok (.iconst 1, 1) := by decide +kernel
theorem dX8_lives_18 : decode cX8_lives 18 = .ok (.goto 4, 3) := by decide +kernel
theorem dX8_lives_21 : decode cX8_lives 21 = .ok (.iconst 0, 1) := by decide +kernel
theorem dX8_lives_22 : decode cX8_lives 22 = .ok (.ireturn, 1) := by decide +kernel
theorem dX8_longer_0 : decode cX8_longer 0 = .ok (.iconst 2, 1) := by decide +kernel
theorem dX8_longer_1 : decode cX8_longer 1 = .ok (.aload_n 0, 1) := by decide +kernel
theorem dX8_longer_2 : decode cX8_longer 2 = .ok (.arraylength, 1) := by decide +kernel
theorem dX8_longer_3 : decode cX8_longer 3 = .ok (.imul, 1) := by decide +kernel
theorem dX8_longer_4 : decode cX8_longer 4 = .ok (.newarray .int, 2) := by decide +kernel
theorem dX8_longer_6 : decode cX8_longer 6 = .ok (.astore_n 1, 1) := by decide +kernel
theorem dX8_longer_7 : decode cX8_longer 7 = .ok (.iconst 0, 1) := by decide +kernel
theorem dX8_longer_8 : decode cX8_longer 8 = .ok (.istore_n 2, 1) := by decide +kernel
theorem dX8_longer_9 : decode cX8_longer 9 = .ok (.iload_n 2, 1) := by decide +kernel
theorem dX8_longer_10 : decode cX8_longer 10 = .ok (.aload_n 0, 1) := by decide +kernel
theorem dX8_longer_11 : decode cX8_longer 11 = .ok (.arraylength, 1) := by decide +kernel
theorem dX8_longer_12 : decode cX8_longer 12 = .ok (.if_icmp .ge 15, 3) := by decide +kernel
theorem dX8_longer_15 : decode cX8_longer 15 = .ok (.aload_n 1, 1) := by decide +kernel
theorem dX8_longer_16 : decode cX8_longer 16 = .ok (.iload_n 2, 1) := by decide +kernel
theorem dX8_longer_17 : decode cX8_longer 17 = .ok (.aload_n 0, 1) := by decide +kernel
theorem dX8_longer_18 : decode cX8_longer 18 = .ok (.iload_n 2, 1) := by decide +kernel
theorem dX8_longer_19 : decode cX8_longer 19 = .ok (.iaload, 1) := by decide +kernel
theorem dX8_longer_20 : decode cX8_longer 20 = .ok (.iastore, 1) := by decide +kernel
theorem dX8_longer_21 : decode cX8_longer 21 = .ok (.iinc 2 1, 3) := by decide +kernel
theorem dX8_longer_24 : decode cX8_longer 24 = .ok (.goto (-15), 3) := by decide +kernel
theorem dX8_longer_27 : decode cX8_longer 27 = .ok (.aload_n 1, 1) := by decide +kernel
theorem dX8_longer_28 : decode cX8_longer 28 = .ok (.areturn, 1) := by decide +kernel
theorem dX8_comes_0 : decode cX8_comes 0 = .ok (.aload_n 0, 1) := by decide +kernel
theorem dX8_comes_1 : decode cX8_comes 1 = .ok (.getfield 111, 3) := by decide +kernel
theorem dX8_comes_4 : decode cX8_comes 4 = .ok (.aload_n 0, 1) := by decide +kernel
theorem dX8_comes_5 : decode cX8_comes 5 = .ok (.getfield 50, 3) := by decide +kernel
theorem dX8_comes_8 : decode cX8_comes 8 = .ok (.arraylength, 1) := by decide +kernel
theorem dX8_comes_9 : decode cX8_comes 9 = .ok (.if_icmp .ne 47, 3) := by decide +kernel
theorem dX8_comes_12 : decode cX8_comes 12 = .ok (.aload_n 0, 1) := by decide +kernel
theorem dX8_comes_13 : decode cX8_comes 13 = .ok (.aload_n 0, 1) := by decide +kernel
theorem dX8_comes_14 : decode cX8_comes 14 = .ok (.getfield 50, 3) := by decide +kernel
theorem dX8_comes_17 : decode cX8_comes 17 = .ok (.invokestatic 114, 3) := by decide +kernel
theorem dX8_comes_20 : decode cX8_comes 20 = .ok (.putfield 50, 3) := by decide +kernel
theorem dX8_comes_23 : decode cX8_comes 23 = .ok (.aload_n 0, 1) := by decide +kernel
theorem dX8_comes_24 : decode cX8_comes 24 = .ok (.aload_n 0, 1) := by decide +kernel
theorem dX8_comes_25 : decode cX8_comes 25 = .ok (.getfield 53, 3) := by decide +kernel
theorem dX8_comes_28 : decode cX8_comes 28 = .ok (.invokestatic 114, 3) := by decide +kernel
theorem dX8_comes_31 : decode cX8_comes 31 = .ok (.putfield 53, 3) := by decide +kernel
theorem dX8_comes_34 : decode cX8_comes 34 = .ok (.aload_n 0, 1) := by decide +kernel
theorem dX8_comes_35 : decode cX8_comes 35 = .ok (.aload_n 0, 1) := by decide +kernel
theorem dX8_comes_36 : decode cX8_comes 36 = .ok (.getfield 56, 3) := by decide +kernel
theorem dX8_comes_39 : decode cX8_comes 39 = .ok (.invokestatic 114, 3) := by decide +kernel
theorem dX8_comes_42 : decode cX8_comes 42 = .ok (.putfield 56, 3) := by decide +kernel
theorem dX8_comes_45 : decode cX8_comes 45 = .ok (.aload_n 0, 1) := by decide +kernel
theorem dX8_comes_46 : decode cX8_comes 46 = .ok (.aload_n 0, 1) := by decide +kernel
theorem dX8_comes_47 : decode cX8_comes 47 = .ok (.getfield 59, 3) := by decide +kernel
theorem dX8_comes_50 : decode cX8_comes 50 = .ok (.invokestatic 114, 3) := by decide +kernel
theorem dX8_comes_53 : decode cX8_comes 53 = .ok (.putfield 59, 3) := by decide +kernel
theorem dX8_comes_56 : decode cX8_comes 56 = .ok (.aload_n 0, 1) := by decide +kernel
theorem dX8_comes_57 : decode cX8_comes 57 = .ok (.getfield 50, 3) := by decide +kernel
theorem dX8_comes_60 : decode cX8_comes 60 = .ok (.aload_n 0, 1) := by decide +kernel
theorem dX8_comes_61 : decode cX8_comes 61 = .ok (.getfield 111, 3) := by decide +kernel
theorem dX8_comes_64 : decode cX8_comes 64 = .ok (.iload_n 1, 1) := by decide +kernel
theorem dX8_comes_65 : decode cX8_comes 65 = .ok (.iastore, 1) := by decide +kernel
theorem dX8_comes_66 : decode cX8_comes 66 = .ok (.aload_n 0, 1) := by decide +kernel
theorem dX8_comes_67 : decode cX8_comes 67 = .ok (.getfield 53, 3) := by decide +kernel
theorem dX8_comes_70 : decode cX8_comes 70 = .ok (.aload_n 0, 1) := by decide +kernel
theorem dX8_comes_71 : decode cX8_comes 71 = .ok (.getfield 111, 3) := by decide +kernel
theorem dX8_comes_74 : decode cX8_comes 74 = .ok (.iload_n 2, 1) := by decide +kernel
theorem dX8_comes_75 : decode cX8_comes 75 = .ok (.iastore, 1) := by decide +kernel
theorem dX8_comes_76 : decode cX8_comes 76 = .ok (.aload_n 0, 1) := by decide +kernel
theorem dX8_comes_77 : decode cX8_comes 77 = .ok (.getfield 56, 3) := by decide +kernel
theorem dX8_comes_80 : decode cX8_comes 80 = .ok (.aload_n 0, 1) := by decide +kernel
theorem dX8_comes_81 : decode cX8_comes 81 = .ok (.getfield 111, 3) := by decide +kernel
theorem dX8_comes_84 : decode cX8_comes 84 = .ok (.iload_n 3, 1) := by decide +kernel
theorem dX8_comes_85 : decode cX8_comes 85 = .ok (.iastore, 1) := by decide +kernel
theorem dX8_comes_86 : decode cX8_comes 86 = .ok (.aload_n 0, 1) := by decide +kernel
theorem dX8_comes_87 : decode cX8_comes 87 = .ok (.getfield 59, 3) := by decide +kernel
theorem dX8_comes_90 : decode cX8_comes 90 = .ok (.aload_n 0, 1) := by decide +kernel
theorem dX8_comes_91 : decode cX8_comes 91 = .ok (.getfield 111, 3) := by decide +kernel
theorem dX8_comes_94 : decode cX8_comes 94 = .ok (.aload_n 0, 1) := by decide +kernel
theorem dX8_comes_95 : decode cX8_comes 95 = .ok (.getfield 118, 3) := by decide +kernel
theorem dX8_comes_98 : decode cX8_comes 98 = .ok (.iastore, 1) := by decide +kernel
theorem dX8_comes_99 : decode cX8_comes 99 = .ok (.aload_n 0, 1) := by decide +kernel
theorem dX8_comes_100 : decode cX8_comes 100 = .ok (.dup, 1) := by decide +kernel
theorem dX8_comes_101 : decode cX8_comes 101 = .ok (.getfield 111, 3) := by decide +kernel
theorem dX8_comes_104 : decode cX8_comes 104 = .ok (.iconst 1, 1) := by decide +kernel
theorem dX8_comes_105 : decode cX8_comes 105 = .ok (.iadd, 1) := by decide +kernel
theorem dX8_comes_106 : decode cX8_comes 106 = .ok (.putfield 111, 3) := by decide +kernel
theorem dX8_comes_109 : decode cX8_comes 109 = .ok (.aload_n 0, 1) := by decide +kernel
theorem dX8_comes_110 : decode cX8_comes 110 = .ok (.getfield 62, 3) := by decide +kernel
theorem dX8_comes_113 : decode cX8_comes 113 = .ok (.iload_n 1, 1) := by decide +kernel
theorem dX8_comes_114 : decode cX8_comes 114 = .ok (.iload_n 2, 1) := by decide +kernel
theorem dX8_comes_115 : decode cX8_comes 115 = .ok (.iastore, 1) := by decide +kernel
theorem dX8_comes_116 : decode cX8_comes 116 = .ok (.aload_n 0, 1) := by decide +kernel
theorem dX8_comes_117 : decode cX8_comes 117 = .ok (.getfield 65, 3) := by decide +kernel
theorem dX8_comes_120 : decode cX8_comes 120 = .ok (.iload_n 1, 1) := by decide +kernel
theorem dX8_comes_121 : decode cX8_comes 121 = .ok (.iconst (-1), 1) := by decide +kernel
theorem dX8_comes_122 : decode cX8_comes 122 = .ok (.iastore, 1) := by decide +kernel
theorem dX8_comes_123 : decode cX8_comes 123 = .ok (.return_, 1) := by decide +kernel
theorem dX8_rightOf_0 : decode cX8_rightOf 0 = .ok (.iload_n 3, 1) := by decide +kernel
theorem dX8_rightOf_1 : decode cX8_rightOf 1 = .ok (.istore 4, 2) := by decide +kernel
theorem dX8_rightOf_3 : decode cX8_rightOf 3 = .ok (.aload_n 0, 1) := by decide +kernel
theorem dX8_rightOf_4 : decode cX8_rightOf 4 = .ok (.getfield 111, 3) := by decide +kernel
theorem dX8_rightOf_7 : decode cX8_rightOf 7 = .ok (.iconst 1, 1) := by decide +kernel
theorem dX8_rightOf_8 : decode cX8_rightOf 8 = .ok (.isub, 1) := by decide +kernel
theorem dX8_rightOf_9 : decode cX8_rightOf 9 = .ok (.istore 5, 2) := by decide +kernel
theorem dX8_rightOf_11 : decode cX8_rightOf 11 = .ok (.iload 5, 2) := by decide +kernel
theorem dX8_rightOf_13 : decode cX8_rightOf 13 = .ok (.ifCond .lt 45, 3) := by decide +kernel
theorem dX8_rightOf_16 : decode cX8_rightOf 16 = .ok (.aload_n 0, 1) := by decide +kernel
theorem dX8_rightOf_17 : decode cX8_rightOf 17 = .ok (.getfield 50, 3) := by decide +kernel
theorem dX8_rightOf_20 : decode cX8_rightOf 20 = .ok (.iload 5, 2) := by decide +kernel
theorem dX8_rightOf_22 : decode cX8_rightOf 22 = .ok (.iaload, 1) := by decide +kernel
theorem dX8_rightOf_23 : decode cX8_rightOf 23 = .ok (.iload_n 1, 1) := by decide +kernel
theorem dX8_rightOf_24 : decode cX8_rightOf 24 = .ok (.if_icmp .ne 28, 3) := by decide +kernel
theorem dX8_rightOf_27 : decode cX8_rightOf 27 = .ok (.aload_n 0, 1) := by decide +kernel
theorem dX8_rightOf_28 : decode cX8_rightOf 28 = .ok (.getfield 59, 3) := by decide +kernel
theorem dX8_rightOf_31 : decode cX8_rightOf 31 = .ok (.iload 5, 2) := by decide +kernel
theorem dX8_rightOf_33 : decode cX8_rightOf 33 = .ok (.iaload, 1) := by decide +kernel
theorem dX8_rightOf_34 : decode cX8_rightOf 34 = .ok (.iload_n 2, 1) := by decide +kernel
theorem dX8_rightOf_35 : decode cX8_rightOf 35 = .ok (.if_icmp .le 6, 3) := by decide +kernel
theorem dX8_rightOf_38 : decode cX8_rightOf 38 = .ok (.goto 14, 3) := by decide +kernel
theorem dX8_rightOf_41 : decode cX8_rightOf 41 = .ok (.iload 4, 2) := by decide +kernel
theorem dX8_rightOf_43 : decode cX8_rightOf 43 = .ok (.ifCond .ne 6, 3) := by decide +kernel
theorem dX8_rightOf_46 : decode cX8_rightOf 46 = .ok (.iload 5, 2) := by decide +kernel
theorem dX8_rightOf_48 : decode cX8_rightOf 48 = .ok (.ireturn, 1) := by decide +kernel
theorem dX8_rightOf_49 : decode cX8_rightOf 49 = .ok (.iinc 4 (-1), 3) := by decide +kernel
theorem dX8_rightOf_52 : decode cX8_rightOf 52 = .ok (.iinc 5 (-1), 3) := by decide +kernel
theorem dX8_rightOf_55 : decode cX8_rightOf 55 = .ok (.goto (-44), 3) := by decide +kernel
theorem dX8_rightOf_58 : decode cX8_rightOf 58 = .ok (.iconst (-1), 1) := by decide +kernel
theorem dX8_rightOf_59 : decode cX8_rightOf 59 = .ok (.ireturn, 1) := by decide +kernel
theorem dX8_isStrip_0 : decode cX8_isStrip 0 = .ok (.iload_n 1, 1) := by decide +kernel
theorem dX8_isStrip_1 : decode cX8_isStrip 1 = .ok (.iconst 0, 1) := by decide +kernel
theorem dX8_isStrip_2 : decode cX8_isStrip 2 = .ok (.bipush 9, 2) := by decide +kernel
theorem dX8_isStrip_4 : decode cX8_isStrip 4 = .ok (.invokestatic 103, 3) := by decide +kernel
theorem dX8_isStrip_7 : decode cX8_isStrip 7 = .ok (.ifCond .eq 29, 3) := by decide +kernel
theorem dX8_isStrip_10 : decode cX8_isStrip 10 = .ok (.iload_n 2, 1) := by decide +kernel
theorem dX8_isStrip_11 : decode cX8_isStrip 11 = .ok (.iconst 0, 1) := by decide +kernel
theorem dX8_isStrip_12 : decode cX8_isStrip 12 = .ok (.bipush 11, 2) := by decide +kernel
theorem dX8_isStrip_14 : decode cX8_isStrip 14 = .ok (.invokestatic 103, 3) := by decide +kernel
theorem dX8_isStrip_17 : decode cX8_isStrip 17 = .ok (.ifCond .eq 19, 3) := by decide +kernel
theorem dX8_isStrip_20 : decode cX8_isStrip 20 = .ok (.iload_n 3, 1) := by decide +kernel
theorem dX8_isStrip_21 : decode cX8_isStrip 21 = .ok (.iconst 0, 1) := by decide +kernel
theorem dX8_isStrip_22 : decode cX8_isStrip 22 = .ok (.aload_n 0, 1) := by decide +kernel
theorem dX8_isStrip_23 : decode cX8_isStrip 23 = .ok (.getfield 118, 3) := by decide +kernel
theorem dX8_isStrip_26 : decode cX8_isStrip 26 = .ok (.invokestatic 103, 3) := by decide +kernel
theorem dX8_isStrip_29 : decode cX8_isStrip 29 = .ok (.ifCond .eq 7, 3) := by decide +kernel
theorem dX8_isStrip_32 : decode cX8_isStrip 32 = .ok (.iconst 1, 1) := by decide +kernel
theorem dX8_isStrip_33 : decode cX8_isStrip 33 = .ok (.goto 4, 3) := by decide +kernel
theorem dX8_isStrip_36 : decode cX8_isStrip 36 = .ok (.iconst 0, 1) := by decide +kernel
theorem dX8_isStrip_37 : decode cX8_isStrip 37 = .ok (.ireturn, 1) := by decide +kernel
theorem dX8_holder_0 : decode cX8_holder 0 = .ok (.aload_n 0, 1) := by decide +kernel
theorem dX8_holder_1 : decode cX8_holder 1 = .ok (.iload_n 1, 1) := by decide +kernel
theorem dX8_holder_2 : decode cX8_holder 2 = .ok (.iload_n 2, 1) := by decide +kernel
theorem dX8_holder_3 : decode cX8_holder 3 = .ok (.iload_n 3, 1) := by decide +kernel
theorem dX8_holder_4 : decode cX8_holder 4 = .ok (.invokevirtual 121, 3) := by decide +kernel
theorem dX8_holder_7 : decode cX8_holder 7 = .ok (.ifCond .eq 23, 3) := by decide +kernel
theorem dX8_holder_10 : decode cX8_holder 10 = .ok (.aload_n 0, 1) := by decide +kernel
theorem dX8_holder_11 : decode cX8_holder 11 = .ok (.getfield 53, 3) := by decide +kernel
theorem dX8_holder_14 : decode cX8_holder 14 = .ok (.aload_n 0, 1) := by decide +kernel
theorem dX8_holder_15 : decode cX8_holder 15 = .ok (.bipush 12, 2) := by decide +kernel
theorem dX8_holder_17 : decode cX8_holder 17 = .ok (.iload_n 1, 1) := by decide +kernel
theorem dX8_holder_18 : decode cX8_holder 18 = .ok (.imul, 1) := by decide +kernel
theorem dX8_holder_19 : decode cX8_holder 19 = .ok (.iload_n 2, 1) := by decide +kernel
theorem dX8_holder_20 : decode cX8_holder 20 = .ok (.iadd, 1) := by decide +kernel
theorem dX8_holder_21 : decode cX8_holder 21 = .ok (.iload_n 3, 1) := by decide +kernel
theorem dX8_holder_22 : decode cX8_holder 22 = .ok (.iconst 0, 1) := by decide +kernel
theorem dX8_holder_23 : decode cX8_holder 23 = .ok (.invokevirtual 124, 3) := by decide +kernel
theorem dX8_holder_26 : decode cX8_holder 26 = .ok (.iaload, 1) := by decide +kernel
theorem dX8_holder_27 : decode cX8_holder 27 = .ok (.goto 5, 3) := by decide +kernel
theorem dX8_holder_30 : decode cX8_holder 30 = .ok (.bipush (-2), 2) := by decide +kernel
theorem dX8_holder_32 : decode cX8_holder 32 = .ok (.ireturn, 1) := by decide +kernel
theorem dX8_right_0 : decode cX8_right 0 = .ok (.aload_n 0, 1) := by decide +kernel
theorem dX8_right_1 : decode cX8_right 1 = .ok (.iload_n 1, 1) := by decide +kernel
theorem dX8_right_2 : decode cX8_right 2 = .ok (.iload_n 2, 1) := by decide +kernel
theorem dX8_right_3 : decode cX8_right 3 = .ok (.iload_n 3, 1) := by decide +kernel
theorem dX8_right_4 : decode cX8_right 4 = .ok (.invokevirtual 121, 3) := by decide +kernel
theorem dX8_right_7 : decode cX8_right 7 = .ok (.ifCond .eq 8, 3) := by decide +kernel
theorem dX8_right_10 : decode cX8_right 10 = .ok (.iload 4, 2) := by decide +kernel
theorem dX8_right_12 : decode cX8_right 12 = .ok (.ifCond .ge 6, 3) := by decide +kernel
theorem dX8_right_15 : decode cX8_right 15 = .ok (.bipush (-2), 2) := by decide +kernel
theorem dX8_right_17 : decode cX8_right 17 = .ok (.ireturn, 1) := by decide +kernel
theorem dX8_right_18 : decode cX8_right 18 = .ok (.aload_n 0, 1) := by decide +kernel
theorem dX8_right_19 : decode cX8_right 19 = .ok (.bipush 12, 2) := by decide +kernel
theorem dX8_right_21 : decode cX8_right 21 = .ok (.iload_n 1, 1) := by decide +kernel
theorem dX8_right_22 : decode cX8_right 22 = .ok (.imul, 1) := by decide +kernel
theorem dX8_right_23 : decode cX8_right 23 = .ok (.iload_n 2, 1) := by decide +kernel
theorem dX8_right_24 : decode cX8_right 24 = .ok (.iadd, 1) := by decide +kernel
theorem dX8_right_25 : decode cX8_right 25 = .ok (.iload_n 3, 1) := by decide +kernel
theorem dX8_right_26 : decode cX8_right 26 = .ok (.iload 4, 2) := by decide +kernel
theorem dX8_right_28 : decode cX8_right 28 = .ok (.invokevirtual 124, 3) := by decide +kernel
theorem dX8_right_31 : decode cX8_right 31 = .ok (.istore 6, 2) := by decide +kernel
theorem dX8_right_33 : decode cX8_right 33 = .ok (.iload 6, 2) := by decide +kernel
theorem dX8_right_35 : decode cX8_right 35 = .ok (.iconst (-1), 1) := by decide +kernel
theorem dX8_right_36 : decode cX8_right 36 = .ok (.if_icmp .ne 6, 3) := by decide +kernel
theorem dX8_right_39 : decode cX8_right 39 = .ok (.bipush (-2), 2) := by decide +kernel
theorem dX8_right_41 : decode cX8_right 41 = .ok (.ireturn, 1) := by decide +kernel
theorem dX8_right_42 : decode cX8_right 42 = .ok (.iload 5, 2) := by decide +kernel
theorem dX8_right_44 : decode cX8_right 44 = .ok (.ifCond .ne 13, 3) := by decide +kernel
theorem dX8_right_47 : decode cX8_right 47 = .ok (.aload_n 0, 1) := by decide +kernel
theorem dX8_right_48 : decode cX8_right 48 = .ok (.getfield 53, 3) := by decide +kernel
theorem dX8_right_51 : decode cX8_right 51 = .ok (.iload 6, 2) := by decide +kernel
theorem dX8_right_53 : decode cX8_right 53 = .ok (.iaload, 1) := by decide +kernel
theorem dX8_right_54 : decode cX8_right 54 = .ok (.goto 37, 3) := by decide +kernel
theorem dX8_right_57 : decode cX8_right 57 = .ok (.iload 5, 2) := by decide +kernel
theorem dX8_right_59 : decode cX8_right 59 = .ok (.iconst 1, 1) := by decide +kernel
theorem dX8_right_60 : decode cX8_right 60 = .ok (.if_icmp .ne 13, 3) := by decide +kernel
theorem dX8_right_63 : decode cX8_right 63 = .ok (.aload_n 0, 1) := by decide +kernel
theorem dX8_right_64 : decode cX8_right 64 = .ok (.getfield 56, 3) := by decide +kernel
theorem dX8_right_67 : decode cX8_right 67 = .ok (.iload 6, 2) := by decide +kernel
theorem dX8_right_69 : decode cX8_right 69 = .ok (.iaload, 1) := by decide +kernel
theorem dX8_right_70 : decode cX8_right 70 = .ok (.goto 21, 3) := by decide +kernel
theorem dX8_right_73 : decode cX8_right 73 = .ok (.iload 5, 2) := by decide +kernel
theorem dX8_right_75 : decode cX8_right 75 = .ok (.iconst 2, 1) := by decide +kernel
theorem dX8_right_76 : decode cX8_right 76 = .ok (.if_icmp .ne 13, 3) := by decide +kernel
theorem dX8_right_79 : decode cX8_right 79 = .ok (.aload_n 0, 1) := by decide +kernel
theorem dX8_right_80 : decode cX8_right 80 = .ok (.getfield 59, 3) := by decide +kernel
theorem dX8_right_83 : decode cX8_right 83 = .ok (.iload 6, 2) := by decide +kernel
theorem dX8_right_85 : decode cX8_right 85 = .ok (.iaload, 1) := by decide +kernel
theorem dX8_right_86 : decode cX8_right 86 = .ok (.goto 5, 3) := by decide +kernel
theorem dX8_right_89 : decode cX8_right 89 = .ok (.bipush (-2), 2) := by decide +kernel
theorem dX8_right_91 : decode cX8_right 91 = .ok (.ireturn, 1) := by decide +kernel
theorem dX8_custom_0 : decode cX8_custom 0 = .ok (.iload_n 1, 1) := by decide +kernel
theorem dX8_custom_1 : decode cX8_custom 1 = .ok (.ldc 128, 2) := by decide +kernel
theorem dX8_custom_3 : decode cX8_custom 3 = .ok (.idiv, 1) := by decide +kernel
theorem dX8_custom_4 : decode cX8_custom 4 = .ok (.istore_n 3, 1) := by decide +kernel
theorem dX8_custom_5 : decode cX8_custom 5 = .ok (.iload_n 1, 1) := by decide +kernel
theorem dX8_custom_6 : decode cX8_custom 6 = .ok (.sipush 1000, 3) := by decide +kernel
theorem dX8_custom_9 : decode cX8_custom 9 = .ok (.idiv, 1) := by decide +kernel
theorem dX8_custom_10 : decode cX8_custom 10 = .ok (.bipush 100, 2) := by decide +kernel
theorem dX8_custom_12 : decode cX8_custom 12 = .ok (.irem, 1) := by decide +kernel
theorem dX8_custom_13 : decode cX8_custom 13 = .ok (.istore 4, 2) := by decide +kernel
theorem dX8_custom_15 : decode cX8_custom 15 = .ok (.iload_n 1, 1) := by decide +kernel
theorem dX8_custom_16 : decode cX8_custom 16 = .ok (.bipush 100, 2) := by decide +kernel
theorem dX8_custom_18 : decode cX8_custom 18 = .ok (.idiv, 1) := by decide +kernel
theorem dX8_custom_19 : decode cX8_custom 19 = .ok (.bipush 10, 2) := by decide +kernel
theorem dX8_custom_21 : decode cX8_custom 21 = .ok (.irem, 1) := by decide +kernel
theorem dX8_custom_22 : decode cX8_custom 22 = .ok (.istore 5, 2) := by decide +kernel
theorem dX8_custom_24 : decode cX8_custom 24 = .ok (.iload_n 1, 1) := by decide +kernel
theorem dX8_custom_25 : decode cX8_custom 25 = .ok (.bipush 10, 2) := by decide +kernel
theorem dX8_custom_27 : decode cX8_custom 27 = .ok (.idiv, 1) := by decide +kernel
theorem dX8_custom_28 : decode cX8_custom 28 = .ok (.bipush 10, 2) := by decide +kernel
theorem dX8_custom_30 : decode cX8_custom 30 = .ok (.irem, 1) := by decide +kernel
theorem dX8_custom_31 : decode cX8_custom 31 = .ok (.istore 6, 2) := by decide +kernel
theorem dX8_custom_33 : decode cX8_custom 33 = .ok (.iload_n 1, 1) := by decide +kernel
theorem dX8_custom_34 : decode cX8_custom 34 = .ok (.ifCond .lt 44, 3) := by decide +kernel
theorem dX8_custom_37 : decode cX8_custom 37 = .ok (.iload_n 1, 1) := by decide +kernel
theorem dX8_custom_38 : decode cX8_custom 38 = .ok (.bipush 10, 2) := by decide +kernel
theorem dX8_custom_40 : decode cX8_custom 40 = .ok (.irem, 1) := by decide +kernel
theorem dX8_custom_41 : decode cX8_custom 41 = .ok (.ifCond .ne 37, 3) := by decide +kernel
theorem dX8_custom_44 : decode cX8_custom 44 = .ok (.iload_n 3, 1) := by decide +kernel
theorem dX8_custom_45 : decode cX8_custom 45 = .ok (.iconst 2, 1) := by decide +kernel
theorem dX8_custom_46 : decode cX8_custom 46 = .ok (.if_icmp .gt 32, 3) := by decide +kernel
theorem dX8_custom_49 : decode cX8_custom 49 = .ok (.iload 4, 2) := by decide +kernel
theorem dX8_custom_51 : decode cX8_custom 51 = .ok (.bipush 12, 2) := by decide +kernel
theorem dX8_custom_53 : decode cX8_custom 53 = .ok (.if_icmp .gt 25, 3) := by decide +kernel
theorem dX8_custom_56 : decode cX8_custom 56 = .ok (.iload 5, 2) := by decide +kernel
theorem dX8_custom_58 : decode cX8_custom 58 = .ok (.iconst 3, 1) := by decide +kernel
theorem dX8_custom_59 : decode cX8_custom 59 = .ok (.if_icmp .gt 19, 3) := by decide +kernel
theorem dX8_custom_62 : decode cX8_custom 62 = .ok (.iload 6, 2) := by decide +kernel
theorem dX8_custom_64 : decode cX8_custom 64 = .ok (.iconst 3, 1) := by decide +kernel
theorem dX8_custom_65 : decode cX8_custom 65 = .ok (.if_icmp .gt 13, 3) := by decide +kernel
theorem dX8_custom_68 : decode cX8_custom 68 = .ok (.iload_n 2, 1) := by decide +kernel
theorem dX8_custom_69 : decode cX8_custom 69 = .ok (.iconst 0, 1) := by decide +kernel
theorem dX8_custom_70 : decode cX8_custom 70 = .ok (.ldc 129, 2) := by decide +kernel
theorem dX8_custom_72 : decode cX8_custom 72 = .ok (.invokestatic 103, 3) := by decide +kernel
theorem dX8_custom_75 : decode cX8_custom 75 = .ok (.ifCond .ne 5, 3) := by decide +kernel
theorem dX8_custom_78 : decode cX8_custom 78 = .ok (.iconst (-1), 1) := by decide +kernel
theorem dX8_custom_79 : decode cX8_custom 79 = .ok (.ireturn, 1) := by decide +kernel
theorem dX8_custom_80 : decode cX8_custom 80 = .ok (.aload_n 0, 1) := by decide +kernel
theorem dX8_custom_81 : decode cX8_custom 81 = .ok (.iload_n 3, 1) := by decide +kernel
theorem dX8_custom_82 : decode cX8_custom 82 = .ok (.putfield 130, 3) := by decide +kernel
theorem dX8_custom_85 : decode cX8_custom 85 = .ok (.aload_n 0, 1) := by decide +kernel
theorem dX8_custom_86 : decode cX8_custom 86 = .ok (.iload 4, 2) := by decide +kernel
theorem dX8_custom_88 : decode cX8_custom 88 = .ok (.putfield 133, 3) := by decide +kernel
theorem dX8_custom_91 : decode cX8_custom 91 = .ok (.aload_n 0, 1) := by decide +kernel
theorem dX8_custom_92 : decode cX8_custom 92 = .ok (.iload 5, 2) := by decide +kernel
theorem dX8_custom_94 : decode cX8_custom 94 = .ok (.putfield 136, 3) := by decide +kernel
theorem dX8_custom_97 : decode cX8_custom 97 = .ok (.aload_n 0, 1) := by decide +kernel
theorem dX8_custom_98 : decode cX8_custom 98 = .ok (.iload 6, 2) := by decide +kernel
theorem dX8_custom_100 : decode cX8_custom 100 = .ok (.putfield 139, 3) := by decide +kernel
theorem dX8_custom_103 : decode cX8_custom 103 = .ok (.aload_n 0, 1) := by decide +kernel
theorem dX8_custom_104 : decode cX8_custom 104 = .ok (.iload_n 2, 1) := by decide +kernel
theorem dX8_custom_105 : decode cX8_custom 105 = .ok (.sipush 10000, 3) := by decide +kernel
theorem dX8_custom_108 : decode cX8_custom 108 = .ok (.idiv, 1) := by decide +kernel
theorem dX8_custom_109 : decode cX8_custom 109 = .ok (.putfield 142, 3) := by decide +kernel
theorem dX8_custom_112 : decode cX8_custom 112 = .ok (.aload_n 0, 1) := by decide +kernel
theorem dX8_custom_113 : decode cX8_custom 113 = .ok (.iload_n 2, 1) := by decide +kernel
theorem dX8_custom_114 : decode cX8_custom 114 = .ok (.bipush 100, 2) := by decide +kernel
theorem dX8_custom_116 : decode cX8_custom 116 = .ok (.idiv, 1) := by decide +kernel
theorem dX8_custom_117 : decode cX8_custom 117 = .ok (.bipush 100, 2) := by decide +kernel
theorem dX8_custom_119 : decode cX8_custom 119 = .ok (.irem, 1) := by decide +kernel
theorem dX8_custom_120 : decode cX8_custom 120 = .ok (.putfield 145, 3) := by decide +kernel
theorem dX8_custom_123 : decode cX8_custom 123 = .ok (.aload_n 0, 1) := by decide +kernel
theorem dX8_custom_124 : decode cX8_custom 124 = .ok (.iload_n 2, 1) := by decide +kernel
theorem dX8_custom_125 : decode cX8_custom 125 = .ok (.bipush 100, 2) := by decide +kernel
theorem dX8_custom_127 : decode cX8_custom 127 = .ok (.irem, 1) := by decide +kernel
theorem dX8_custom_128 : decode cX8_custom 128 = .ok (.putfield 148, 3) := by decide +kernel
theorem dX8_custom_131 : decode cX8_custom 131 = .ok (.aload_n 0, 1) := by decide +kernel
theorem dX8_custom_132 : decode cX8_custom 132 = .ok (.dup, 1) := by decide +kernel
theorem dX8_custom_133 : decode cX8_custom 133 = .ok (.getfield 151, 3) := by decide +kernel
theorem dX8_custom_136 : decode cX8_custom 136 = .ok (.iconst 1, 1) := by decide +kernel
theorem dX8_custom_137 : decode cX8_custom 137 = .ok (.iadd, 1) := by decide +kernel
theorem dX8_custom_138 : decode cX8_custom 138 = .ok (.putfield 151, 3) := by decide +kernel
theorem dX8_custom_141 : decode cX8_custom 141 = .ok (.aload_n 0, 1) := by decide +kernel
theorem dX8_custom_142 : decode cX8_custom 142 = .ok (.getfield 151, 3) := by decide +kernel
theorem dX8_custom_145 : decode cX8_custom 145 = .ok (.ireturn, 1) := by decide +kernel
theorem dX8_person_0 : decode cX8_person 0 = .ok (.iload_n 1, 1) := by decide +kernel
theorem dX8_person_1 : decode cX8_person 1 = .ok (.iconst 0, 1) := by decide +kernel
theorem dX8_person_2 : decode cX8_person 2 = .ok (.iconst 1, 1) := by decide +kernel
theorem dX8_person_3 : decode cX8_person 3 = .ok (.invokestatic 103, 3) := by decide +kernel
theorem dX8_person_6 : decode cX8_person 6 = .ok (.ifCond .eq 57, 3) := by decide +kernel
theorem dX8_person_9 : decode cX8_person 9 = .ok (.iload_n 2, 1) := by decide +kernel
theorem dX8_person_10 : decode cX8_person 10 = .ok (.iconst (-1), 1) := by decide +kernel
theorem dX8_person_11 : decode cX8_person 11 = .ok (.if_icmp .eq 20, 3) := by decide +kernel
theorem dX8_person_14 : decode cX8_person 14 = .ok (.aload_n 0, 1) := by decide +kernel
theorem dX8_person_15 : decode cX8_person 15 = .ok (.iload_n 2, 1) := by decide +kernel
theorem dX8_person_16 : decode cX8_person 16 = .ok (.invokevirtual 107, 3) := by decide +kernel
theorem dX8_person_19 : decode cX8_person 19 = .ok (.ifCond .eq 44, 3) := by decide +kernel
theorem dX8_person_22 : decode cX8_person 22 = .ok (.aload_n 0, 1) := by decide +kernel
theorem dX8_person_23 : decode cX8_person 23 = .ok (.getfield 9, 3) := by decide +kernel
theorem dX8_person_26 : decode cX8_person 26 = .ok (.iload_n 2, 1) := by decide +kernel
theorem dX8_person_27 : decode cX8_person 27 = .ok (.iaload, 1) := by decide +kernel
theorem dX8_person_28 : decode cX8_person 28 = .ok (.ifCond .ne 35, 3) := by decide +kernel
theorem dX8_person_31 : decode cX8_person 31 = .ok (.iload_n 3, 1) := by decide +kernel
theorem dX8_person_32 : decode cX8_person 32 = .ok (.iconst (-1), 1) := by decide +kernel
theorem dX8_person_33 : decode cX8_person 33 = .ok (.if_icmp .eq 21, 3) := by decide +kernel
theorem dX8_person_36 : decode cX8_person 36 = .ok (.aload_n 0, 1) := by decide +kernel
theorem dX8_person_37 : decode cX8_person 37 = .ok (.iload_n 3, 1) := by decide +kernel
theorem dX8_person_38 : decode cX8_person 38 = .ok (.invokevirtual 107, 3) := by decide +kernel
theorem dX8_person_41 : decode cX8_person 41 = .ok (.ifCond .eq 22, 3) := by decide +kernel
theorem dX8_person_44 : decode cX8_person 44 = .ok (.aload_n 0, 1) := by decide +kernel
theorem dX8_person_45 : decode cX8_person 45 = .ok (.getfield 9, 3) := by decide +kernel
theorem dX8_person_48 : decode cX8_person 48 = .ok (.iload_n 3, 1) := by decide +kernel
theorem dX8_person_49 : decode cX8_person 49 = .ok (.iaload, 1) := by decide +kernel
theorem dX8_person_50 : decode cX8_person 50 = .ok (.iconst 1, 1) := by decide +kernel
theorem dX8_person_51 : decode cX8_person 51 = .ok (.if_icmp .ne 12, 3) := by decide +kernel
theorem dX8_person_54 : decode cX8_person 54 = .ok (.aload_n 0, 1) := by decide +kernel
theorem dX8_person_55 : decode cX8_person 55 = .ok (.getfield 99, 3) := by decide +kernel
theorem dX8_person_58 : decode cX8_person 58 = .ok (.bipush 60, 2) := by decide +kernel
theorem dX8_person_60 : decode cX8_person 60 = .ok (.if_icmp .ne 5, 3) := by decide +kernel
theorem dX8_person_63 : decode cX8_person 63 = .ok (.iconst (-1), 1) := by decide +kernel
theorem dX8_person_64 : decode cX8_person 64 = .ok (.ireturn, 1) := by decide +kernel
theorem dX8_person_65 : decode cX8_person 65 = .ok (.aload_n 0, 1) := by decide +kernel
theorem dX8_person_66 : decode cX8_person 66 = .ok (.getfield 9, 3) := by decide +kernel
theorem dX8_person_69 : decode cX8_person 69 = .ok (.aload_n 0, 1) := by decide +kernel
theorem dX8_person_70 : decode cX8_person 70 = .ok (.getfield 99, 3) := by decide +kernel
theorem dX8_person_73 : decode cX8_person 73 = .ok (.iload_n 1, 1) := by decide +kernel
theorem dX8_person_74 : decode cX8_person 74 = .ok (.iastore, 1) := by decide +kernel
theorem dX8_person_75 : decode cX8_person 75 = .ok (.aload_n 0, 1) := by decide +kernel
theorem dX8_person_76 : decode cX8_person 76 = .ok (.getfield 13, 3) := by decide +kernel
theorem dX8_person_79 : decode cX8_person 79 = .ok (.aload_n 0, 1) := by decide +kernel
theorem dX8_person_80 : decode cX8_person 80 = .ok (.getfield 99, 3) := by decide +kernel
theorem dX8_person_83 : decode cX8_person 83 = .ok (.iload_n 2, 1) := by decide +kernel
theorem dX8_person_84 : decode cX8_person 84 = .ok (.iastore, 1) := by decide +kernel
theorem dX8_person_85 : decode cX8_person 85 = .ok (.aload_n 0, 1) := by decide +kernel
theorem dX8_person_86 : decode cX8_person 86 = .ok (.getfield 16, 3) := by decide +kernel
theorem dX8_person_89 : decode cX8_person 89 = .ok (.aload_n 0, 1) := by decide +kernel
theorem dX8_person_90 : decode cX8_person 90 = .ok (.getfield 99, 3) := by decide +kernel
theorem dX8_person_93 : decode cX8_person 93 = .ok (.iload_n 3, 1) := by decide +kernel
theorem dX8_person_94 : decode cX8_person 94 = .ok (.iastore, 1) := by decide +kernel
theorem dX8_person_95 : decode cX8_person 95 = .ok (.aload_n 0, 1) := by decide +kernel
theorem dX8_person_96 : decode cX8_person 96 = .ok (.getfield 19, 3) := by decide +kernel
theorem dX8_person_99 : decode cX8_person 99 = .ok (.aload_n 0, 1) := by decide +kernel
theorem dX8_person_100 : decode cX8_person 100 = .ok (.getfield 99, 3) := by decide +kernel
theorem dX8_person_103 : decode cX8_person 103 = .ok (.iconst (-1), 1) := by decide +kernel
theorem dX8_person_104 : decode cX8_person 104 = .ok (.iastore, 1) := by decide +kernel
theorem dX8_person_105 : decode cX8_person 105 = .ok (.aload_n 0, 1) := by decide +kernel
theorem dX8_person_106 : decode cX8_person 106 = .ok (.getfield 22, 3) := by decide +kernel
theorem dX8_person_109 : decode cX8_person 109 = .ok (.aload_n 0, 1) := by decide +kernel
theorem dX8_person_110 : decode cX8_person 110 = .ok (.getfield 99, 3) := by decide +kernel
theorem dX8_person_113 : decode cX8_person 113 = .ok (.aload_n 0, 1) := by decide +kernel
theorem dX8_person_114 : decode cX8_person 114 = .ok (.getfield 118, 3) := by decide +kernel
theorem dX8_person_117 : decode cX8_person 117 = .ok (.iastore, 1) := by decide +kernel
theorem dX8_person_118 : decode cX8_person 118 = .ok (.aload_n 0, 1) := by decide +kernel
theorem dX8_person_119 : decode cX8_person 119 = .ok (.getfield 43, 3) := by decide +kernel
theorem dX8_person_122 : decode cX8_person 122 = .ok (.aload_n 0, 1) := by decide +kernel
theorem dX8_person_123 : decode cX8_person 123 = .ok (.getfield 99, 3) := by decide +kernel
theorem dX8_person_126 : decode cX8_person 126 = .ok (.iconst 1, 1) := by decide +kernel
theorem dX8_person_127 : decode cX8_person 127 = .ok (.bastore, 1) := by decide +kernel
theorem dX8_person_128 : decode cX8_person 128 = .ok (.aload_n 0, 1) := by decide +kernel
theorem dX8_person_129 : decode cX8_person 129 = .ok (.dup, 1) := by decide +kernel
theorem dX8_person_130 : decode cX8_person 130 = .ok (.getfield 99, 3) := by decide +kernel
theorem dX8_person_133 : decode cX8_person 133 = .ok (.iconst 1, 1) := by decide +kernel
theorem dX8_person_134 : decode cX8_person 134 = .ok (.iadd, 1) := by decide +kernel
theorem dX8_person_135 : decode cX8_person 135 = .ok (.putfield 99, 3) := by decide +kernel
theorem dX8_person_138 : decode cX8_person 138 = .ok (.aload_n 0, 1) := by decide +kernel
theorem dX8_person_139 : decode cX8_person 139 = .ok (.getfield 99, 3) := by decide +kernel
theorem dX8_person_142 : decode cX8_person 142 = .ok (.iconst 1, 1) := by decide +kernel
theorem dX8_person_143 : decode cX8_person 143 = .ok (.isub, 1) := by decide +kernel
theorem dX8_person_144 : decode cX8_person 144 = .ok (.ireturn, 1) := by decide +kernel
theorem dX8_lines_0 : decode cX8_lines 0 = .ok (.aload_n 0, 1) := by decide +kernel
theorem dX8_lines_1 : decode cX8_lines 1 = .ok (.getfield 99, 3) := by decide +kernel
theorem dX8_lines_4 : decode cX8_lines 4 = .ok (.iconst 1, 1) := by decide +kernel
theorem dX8_lines_5 : decode cX8_lines 5 = .ok (.isub, 1) := by decide +kernel
theorem dX8_lines_6 : decode cX8_lines 6 = .ok (.istore_n 1, 1) := by decide +kernel
theorem dX8_lines_7 : decode cX8_lines 7 = .ok (.iload_n 1, 1) := by decide +kernel
theorem dX8_lines_8 : decode cX8_lines 8 = .ok (.ifCond .lt 77, 3) := by decide +kernel
theorem dX8_lines_11 : decode cX8_lines 11 = .ok (.aload_n 0, 1) := by decide +kernel
theorem dX8_lines_12 : decode cX8_lines 12 = .ok (.getfield 47, 3) := by decide +kernel
theorem dX8_lines_15 : decode cX8_lines 15 = .ok (.iload_n 1, 1) := by decide +kernel
theorem dX8_lines_16 : decode cX8_lines 16 = .ok (.aload_n 0, 1) := by decide +kernel
theorem dX8_lines_17 : decode cX8_lines 17 = .ok (.getfield 43, 3) := by decide +kernel
theorem dX8_lines_20 : decode cX8_lines 20 = .ok (.iload_n 1, 1) := by decide +kernel
theorem dX8_lines_21 : decode cX8_lines 21 = .ok (.baload, 1) := by decide +kernel
theorem dX8_lines_22 : decode cX8_lines 22 = .ok (.bastore, 1) := by decide +kernel
theorem dX8_lines_23 : decode cX8_lines 23 = .ok (.iload_n 1, 1) := by decide +kernel
theorem dX8_lines_24 : decode cX8_lines 24 = .ok (.iconst 1, 1) := by decide +kernel
theorem dX8_lines_25 : decode cX8_lines 25 = .ok (.iadd, 1) := by decide +kernel
theorem dX8_lines_26 : decode cX8_lines 26 = .ok (.istore_n 2, 1) := by decide +kernel
theorem dX8_lines_27 : decode cX8_lines 27 = .ok (.iload_n 2, 1) := by decide +kernel
theorem dX8_lines_28 : decode cX8_lines 28 = .ok (.aload_n 0, 1) := by decide +kernel
theorem dX8_lines_29 : decode cX8_lines 29 = .ok (.getfield 99, 3) := by decide +kernel
theorem dX8_lines_32 : decode cX8_lines 32 = .ok (.if_icmp .ge 47, 3) := by decide +kernel
theorem dX8_lines_35 : decode cX8_lines 35 = .ok (.aload_n 0, 1) := by decide +kernel
theorem dX8_lines_36 : decode cX8_lines 36 = .ok (.getfield 47, 3) := by decide +kernel
theorem dX8_lines_39 : decode cX8_lines 39 = .ok (.iload_n 1, 1) := by decide +kernel
theorem dX8_lines_40 : decode cX8_lines 40 = .ok (.aload_n 0, 1) := by decide +kernel
theorem dX8_lines_41 : decode cX8_lines 41 = .ok (.getfield 47, 3) := by decide +kernel
theorem dX8_lines_44 : decode cX8_lines 44 = .ok (.iload_n 1, 1) := by decide +kernel
theorem dX8_lines_45 : decode cX8_lines 45 = .ok (.baload, 1) := by decide +kernel
theorem dX8_lines_46 : decode cX8_lines 46 = .ok (.ifCond .ne 21, 3) := by decide +kernel
theorem dX8_lines_49 : decode cX8_lines 49 = .ok (.aload_n 0, 1) := by decide +kernel
theorem dX8_lines_50 : decode cX8_lines 50 = .ok (.getfield 47, 3) := by decide +kernel
theorem dX8_lines_53 : decode cX8_lines 53 = .ok (.iload_n 2, 1) := by decide +kernel
theorem dX8_lines_54 : decode cX8_lines 54 = .ok (.baload, 1) := by decide +kernel
theorem dX8_lines_55 : decode cX8_lines 55 = .ok (.ifCond .eq 16, 3) := by decide +kernel
theorem dX8_lines_58 : decode cX8_lines 58 = .ok (.aload_n 0, 1) := by decide +kernel
theorem dX8_lines_59 : decode cX8_lines 59 = .ok (.iload_n 2, 1) := by decide +kernel
theorem dX8_lines_60 : decode cX8_lines 60 = .ok (.iload_n 1, 1) := by decide +kernel
theorem dX8_lines_61 : decode cX8_lines 61 = .ok (.invokevirtual 154, 3) := by decide +kernel
theorem dX8_lines_64 : decode cX8_lines 64 = .ok (.ifCond .eq 7, 3) := by decide +kernel
theorem dX8_lines_67 : decode cX8_lines 67 = .ok (.iconst 1, 1) := by decide +kernel
theorem dX8_lines_68 : decode cX8_lines 68 = .ok (.goto 4, 3) := by decide +kernel
theorem dX8_lines_71 : decode cX8_lines 71 = .ok (.iconst 0, 1) := by decide +kernel
theorem dX8_lines_72 : decode cX8_lines 72 = .ok (.bastore, 1) := by decide +kernel
theorem dX8_lines_73 : decode cX8_lines 73 = .ok (.iinc 2 1, 3) := by decide +kernel
theorem dX8_lines_76 : decode cX8_lines 76 = .ok (.goto (-49), 3) := by decide +kernel
theorem dX8_lines_79 : decode cX8_lines 79 = .ok (.iinc 1 (-1), 3) := by decide +kernel
theorem dX8_lines_82 : decode cX8_lines 82 = .ok (.goto (-75), 3) := by decide +kernel
theorem dX8_lines_85 : decode cX8_lines 85 = .ok (.return_, 1) := by decide +kernel
theorem dX8_isChild_0 : decode cX8_isChild 0 = .ok (.aload_n 0, 1) := by decide +kernel
theorem dX8_isChild_1 : decode cX8_isChild 1 = .ok (.getfield 13, 3) := by decide +kernel
theorem dX8_isChild_4 : decode cX8_isChild 4 = .ok (.iload_n 1, 1) := by decide +kernel
theorem dX8_isChild_5 : decode cX8_isChild 5 = .ok (.iaload, 1) := by decide +kernel
theorem dX8_isChild_6 : decode cX8_isChild 6 = .ok (.iload_n 2, 1) := by decide +kernel
theorem dX8_isChild_7 : decode cX8_isChild 7 = .ok (.if_icmp .eq 13, 3) := by decide +kernel
theorem dX8_isChild_10 : decode cX8_isChild 10 = .ok (.aload_n 0, 1) := by decide +kernel
theorem dX8_isChild_11 : decode cX8_isChild 11 = .ok (.getfield 16, 3) := by decide +kernel
theorem dX8_isChild_14 : decode cX8_isChild 14 = .ok (.iload_n 1, 1) := by decide +kernel
theorem dX8_isChild_15 : decode cX8_isChild 15 = .ok (.iaload, 1) := by decide +kernel
theorem dX8_isChild_16 : decode cX8_isChild 16 = .ok (.iload_n 2, 1) := by decide +kernel
theorem dX8_isChild_17 : decode cX8_isChild 17 = .ok (.if_icmp .ne 7, 3) := by decide +kernel
theorem dX8_isChild_20 : decode cX8_isChild 20 = .ok (.iconst 1, 1) := by decide +kernel
theorem dX8_isChild_21 : decode cX8_isChild 21 = .ok (.goto 4, 3) := by decide +kernel
theorem dX8_isChild_24 : decode cX8_isChild 24 = .ok (.iconst 0, 1) := by decide +kernel
theorem dX8_isChild_25 : decode cX8_isChild 25 = .ok (.ireturn, 1) := by decide +kernel
theorem dX8_group_0 : decode cX8_group 0 = .ok (.aload_n 0, 1) := by decide +kernel
theorem dX8_group_1 : decode cX8_group 1 = .ok (.getfield 158, 3) := by decide +kernel
theorem dX8_group_4 : decode cX8_group 4 = .ok (.istore_n 3, 1) := by decide +kernel
theorem dX8_group_5 : decode cX8_group 5 = .ok (.iconst 0, 1) := by decide +kernel
theorem dX8_group_6 : decode cX8_group 6 = .ok (.istore 4, 2) := by decide +kernel
theorem dX8_group_8 : decode cX8_group 8 = .ok (.iload 4, 2) := by decide +kernel
theorem dX8_group_10 : decode cX8_group 10 = .ok (.iconst 2, 1) := by decide +kernel
theorem dX8_group_11 : decode cX8_group 11 = .ok (.if_icmp .ge 185, 3) := by decide +kernel
theorem dX8_group_14 : decode cX8_group 14 = .ok (.aload_n 0, 1) := by decide +kernel
theorem dX8_group_15 : decode cX8_group 15 = .ok (.getfield 158, 3) := by decide +kernel
theorem dX8_group_18 : decode cX8_group 18 = .ok (.iload_n 3, 1) := by decide +kernel
theorem dX8_group_19 : decode cX8_group 19 = .ok (.if_icmp .ne 177, 3) := by decide +kernel
theorem dX8_group_22 : decode cX8_group 22 = .ok (.iconst (-1), 1) := by decide +kernel
theorem dX8_group_23 : decode cX8_group 23 = .ok (.istore 5, 2) := by decide +kernel
theorem dX8_group_25 : decode cX8_group 25 = .ok (.iconst (-1), 1) := by decide +kernel
theorem dX8_group_26 : decode cX8_group 26 = .ok (.istore 6, 2) := by decide +kernel
theorem dX8_group_28 : decode cX8_group 28 = .ok (.iconst 0, 1) := by decide +kernel
theorem dX8_group_29 : decode cX8_group 29 = .ok (.istore 7, 2) := by decide +kernel
theorem dX8_group_31 : decode cX8_group 31 = .ok (.iload 7, 2) := by decide +kernel
theorem dX8_group_33 : decode cX8_group 33 = .ok (.aload_n 0, 1) := by decide +kernel
theorem dX8_group_34 : decode cX8_group 34 = .ok (.getfield 99, 3) := by decide +kernel
theorem dX8_group_37 : decode cX8_group 37 = .ok (.if_icmp .ge 101, 3) := by decide +kernel
theorem dX8_group_40 : decode cX8_group 40 = .ok (.iload 7, 2) := by decide +kernel
theorem dX8_group_42 : decode cX8_group 42 = .ok (.iload_n 2, 1) := by decide +kernel
theorem dX8_group_43 : decode cX8_group 43 = .ok (.if_icmp .eq 89, 3) := by decide +kernel
theorem dX8_group_46 : decode cX8_group 46 = .ok (.aload_n 0, 1) := by decide +kernel
theorem dX8_group_47 : decode cX8_group 47 = .ok (.getfield 9, 3) := by decide +kernel
theorem dX8_group_50 : decode cX8_group 50 = .ok (.iload 7, 2) := by decide +kernel
theorem dX8_group_52 : decode cX8_group 52 = .ok (.iaload, 1) := by decide +kernel
theorem dX8_group_53 : decode cX8_group 53 = .ok (.iload 4, 2) := by decide +kernel
theorem dX8_group_55 : decode cX8_group 55 = .ok (.if_icmp .ne 77, 3) := by decide +kernel
theorem dX8_group_58 : decode cX8_group 58 = .ok (.aload_n 0, 1) := by decide +kernel
theorem dX8_group_59 : decode cX8_group 59 = .ok (.getfield 47, 3) := by decide +kernel
theorem dX8_group_62 : decode cX8_group 62 = .ok (.iload 7, 2) := by decide +kernel
theorem dX8_group_64 : decode cX8_group 64 = .ok (.baload, 1) := by decide +kernel
theorem dX8_group_65 : decode cX8_group 65 = .ok (.ifCond .eq 67, 3) := by decide +kernel
theorem dX8_group_68 : decode cX8_group 68 = .ok (.aload_n 0, 1) := by decide +kernel
theorem dX8_group_69 : decode cX8_group 69 = .ok (.iload 7, 2) := by decide +kernel
theorem dX8_group_71 : decode cX8_group 71 = .ok (.iload_n 1, 1) := by decide +kernel
theorem dX8_group_72 : decode cX8_group 72 = .ok (.invokevirtual 154, 3) := by decide +kernel
theorem dX8_group_75 : decode cX8_group 75 = .ok (.ifCond .ne 6, 3) := by decide +kernel
theorem dX8_group_78 : decode cX8_group 78 = .ok (.goto 54, 3) := by decide +kernel
theorem dX8_group_81 : decode cX8_group 81 = .ok (.iload 5, 2) := by decide +kernel
theorem dX8_group_83 : decode cX8_group 83 = .ok (.iconst (-1), 1) := by decide +kernel
theorem dX8_group_84 : decode cX8_group 84 = .ok (.if_icmp .ne 7, 3) := by decide +kernel
theorem dX8_group_87 : decode cX8_group 87 = .ok (.iload 7, 2) := by decide +kernel
theorem dX8_group_89 : decode cX8_group 89 = .ok (.istore 5, 2) := by decide +kernel
theorem dX8_group_91 : decode cX8_group 91 = .ok (.iload 7, 2) := by decide +kernel
theorem dX8_group_93 : decode cX8_group 93 = .ok (.istore 6, 2) := by decide +kernel
theorem dX8_group_95 : decode cX8_group 95 = .ok (.iload 4, 2) := by decide +kernel
theorem dX8_group_97 : decode cX8_group 97 = .ok (.ifCond .ne 14, 3) := by decide +kernel
theorem dX8_group_100 : decode cX8_group 100 = .ok (.aload_n 0, 1) := by decide +kernel
theorem dX8_group_101 : decode cX8_group 101 = .ok (.getfield 130, 3) := by decide +kernel
theorem dX8_group_104 : decode cX8_group 104 = .ok (.iconst 2, 1) := by decide +kernel
theorem dX8_group_105 : decode cX8_group 105 = .ok (.if_icmp .ge 6, 3) := by decide +kernel
theorem dX8_group_108 : decode cX8_group 108 = .ok (.goto 24, 3) := by decide +kernel
theorem dX8_group_111 : decode cX8_group 111 = .ok (.aload_n 0, 1) := by decide +kernel
theorem dX8_group_112 : decode cX8_group 112 = .ok (.getfield 89, 3) := by decide +kernel
theorem dX8_group_115 : decode cX8_group 115 = .ok (.aload_n 0, 1) := by decide +kernel
theorem dX8_group_116 : decode cX8_group 116 = .ok (.getfield 158, 3) := by decide +kernel
theorem dX8_group_119 : decode cX8_group 119 = .ok (.iload 7, 2) := by decide +kernel
theorem dX8_group_121 : decode cX8_group 121 = .ok (.iastore, 1) := by decide +kernel
theorem dX8_group_122 : decode cX8_group 122 = .ok (.aload_n 0, 1) := by decide +kernel
theorem dX8_group_123 : decode cX8_group 123 = .ok (.dup, 1) := by decide +kernel
theorem dX8_group_124 : decode cX8_group 124 = .ok (.getfield 158, 3) := by decide +kernel
theorem dX8_group_127 : decode cX8_group 127 = .ok (.iconst 1, 1) := by decide +kernel
theorem dX8_group_128 : decode cX8_group 128 = .ok (.iadd, 1) := by decide +kernel
theorem dX8_group_129 : decode cX8_group 129 = .ok (.putfield 158, 3) := by decide +kernel
theorem dX8_group_132 : decode cX8_group 132 = .ok (.iinc 7 1, 3) := by decide +kernel
theorem dX8_group_135 : decode cX8_group 135 = .ok (.goto (-104), 3) := by decide +kernel
theorem dX8_group_138 : decode cX8_group 138 = .ok (.iload 4, 2) := by decide +kernel
theorem dX8_group_140 : decode cX8_group 140 = .ok (.ifCond .ne 50, 3) := by decide +kernel
theorem dX8_group_143 : decode cX8_group 143 = .ok (.aload_n 0, 1) := by decide +kernel
theorem dX8_group_144 : decode cX8_group 144 = .ok (.getfield 130, 3) := by decide +kernel
theorem dX8_group_147 : decode cX8_group 147 = .ok (.iconst 2, 1) := by decide +kernel
theorem dX8_group_148 : decode cX8_group 148 = .ok (.if_icmp .ge 42, 3) := by decide +kernel
theorem dX8_group_151 : decode cX8_group 151 = .ok (.iload 5, 2) := by decide +kernel
theorem dX8_group_153 : decode cX8_group 153 = .ok (.iconst (-1), 1) := by decide +kernel
theorem dX8_group_154 : decode cX8_group 154 = .ok (.if_icmp .eq 36, 3) := by decide +kernel
theorem dX8_group_157 : decode cX8_group 157 = .ok (.aload_n 0, 1) := by decide +kernel
theorem dX8_group_158 : decode cX8_group 158 = .ok (.getfield 89, 3) := by decide +kernel
theorem dX8_group_161 : decode cX8_group 161 = .ok (.aload_n 0, 1) := by decide +kernel
theorem dX8_group_162 : decode cX8_group 162 = .ok (.getfield 158, 3) := by decide +kernel
theorem dX8_group_165 : decode cX8_group 165 = .ok (.aload_n 0, 1) := by decide +kernel
theorem dX8_group_166 : decode cX8_group 166 = .ok (.getfield 130, 3) := by decide +kernel
theorem dX8_group_169 : decode cX8_group 169 = .ok (.ifCond .ne 8, 3) := by decide +kernel
theorem dX8_group_172 : decode cX8_group 172 = .ok (.iload 5, 2) := by decide +kernel
theorem dX8_group_174 : decode cX8_group 174 = .ok (.goto 5, 3) := by decide +kernel
theorem dX8_group_177 : decode cX8_group 177 = .ok (.iload 6, 2) := by decide +kernel
theorem dX8_group_179 : decode cX8_group 179 = .ok (.iastore, 1) := by decide +kernel
theorem dX8_group_180 : decode cX8_group 180 = .ok (.aload_n 0, 1) := by decide +kernel
theorem dX8_group_181 : decode cX8_group 181 = .ok (.dup, 1) := by decide +kernel
theorem dX8_group_182 : decode cX8_group 182 = .ok (.getfield 158, 3) := by decide +kernel
theorem dX8_group_185 : decode cX8_group 185 = .ok (.iconst 1, 1) := by decide +kernel
theorem dX8_group_186 : decode cX8_group 186 = .ok (.iadd, 1) := by decide +kernel
theorem dX8_group_187 : decode cX8_group 187 = .ok (.putfield 158, 3) := by decide +kernel
theorem dX8_group_190 : decode cX8_group 190 = .ok (.iinc 4 1, 3) := by decide +kernel
theorem dX8_group_193 : decode cX8_group 193 = .ok (.goto (-185), 3) := by decide +kernel
theorem dX8_group_196 : decode cX8_group 196 = .ok (.aload_n 0, 1) := by decide +kernel
theorem dX8_group_197 : decode cX8_group 197 = .ok (.getfield 158, 3) := by decide +kernel
theorem dX8_group_200 : decode cX8_group 200 = .ok (.iload_n 3, 1) := by decide +kernel
theorem dX8_group_201 : decode cX8_group 201 = .ok (.isub, 1) := by decide +kernel
theorem dX8_group_202 : decode cX8_group 202 = .ok (.ireturn, 1) := by decide +kernel
theorem dX8_first_0 : decode cX8_first 0 = .ok (.aload_n 0, 1) := by decide +kernel
theorem dX8_first_1 : decode cX8_first 1 = .ok (.iload_n 1, 1) := by decide +kernel
theorem dX8_first_2 : decode cX8_first 2 = .ok (.iconst (-1), 1) := by decide +kernel
theorem dX8_first_3 : decode cX8_first 3 = .ok (.invokevirtual 161, 3) := by decide +kernel
theorem dX8_first_6 : decode cX8_first 6 = .ok (.istore_n 2, 1) := by decide +kernel
theorem dX8_first_7 : decode cX8_first 7 = .ok (.iload_n 2, 1) := by decide +kernel
theorem dX8_first_8 : decode cX8_first 8 = .ok (.ifCond .gt 13, 3) := by decide +kernel
theorem dX8_first_11 : decode cX8_first 11 = .ok (.aload_n 0, 1) := by decide +kernel
theorem dX8_first_12 : decode cX8_first 12 = .ok (.getfield 13, 3) := by decide +kernel
theorem dX8_first_15 : decode cX8_first 15 = .ok (.iload_n 1, 1) := by decide +kernel
theorem dX8_first_16 : decode cX8_first 16 = .ok (.iaload, 1) := by decide +kernel
theorem dX8_first_17 : decode cX8_first 17 = .ok (.iconst (-1), 1) := by decide +kernel
theorem dX8_first_18 : decode cX8_first 18 = .ok (.if_icmp .ne 7, 3) := by decide +kernel
theorem dX8_first_21 : decode cX8_first 21 = .ok (.iload_n 2, 1) := by decide +kernel
theorem dX8_first_22 : decode cX8_first 22 = .ok (.goto 14, 3) := by decide +kernel
theorem dX8_first_25 : decode cX8_first 25 = .ok (.aload_n 0, 1) := by decide +kernel
theorem dX8_first_26 : decode cX8_first 26 = .ok (.aload_n 0, 1) := by decide +kernel
theorem dX8_first_27 : decode cX8_first 27 = .ok (.getfield 13, 3) := by decide +kernel
theorem dX8_first_30 : decode cX8_first 30 = .ok (.iload_n 1, 1) := by decide +kernel
theorem dX8_first_31 : decode cX8_first 31 = .ok (.iaload, 1) := by decide +kernel
theorem dX8_first_32 : decode cX8_first 32 = .ok (.iload_n 1, 1) := by decide +kernel
theorem dX8_first_33 : decode cX8_first 33 = .ok (.invokevirtual 161, 3) := by decide +kernel
theorem dX8_first_36 : decode cX8_first 36 = .ok (.ireturn, 1) := by decide +kernel
theorem dX8_listed_0 : decode cX8_listed 0 = .ok (.iconst 0, 1) := by decide +kernel
theorem dX8_listed_1 : decode cX8_listed 1 = .ok (.istore_n 3, 1) := by decide +kernel
theorem dX8_listed_2 : decode cX8_listed 2 = .ok (.iload_n 3, 1) := by decide +kernel
theorem dX8_listed_3 : decode cX8_listed 3 = .ok (.iload_n 2, 1) := by decide +kernel
theorem dX8_listed_4 : decode cX8_listed 4 = .ok (.if_icmp .ge 96, 3) := by decide +kernel
theorem dX8_listed_7 : decode cX8_listed 7 = .ok (.aload_n 0, 1) := by decide +kernel
theorem dX8_listed_8 : decode cX8_listed 8 = .ok (.getfield 89, 3) := by decide +kernel
theorem dX8_listed_11 : decode cX8_listed 11 = .ok (.iload_n 1, 1) := by decide +kernel
theorem dX8_listed_12 : decode cX8_listed 12 = .ok (.iload_n 3, 1) := by decide +kernel
theorem dX8_listed_13 : decode cX8_listed 13 = .ok (.iadd, 1) := by decide +kernel
theorem dX8_listed_14 : decode cX8_listed 14 = .ok (.iaload, 1) := by decide +kernel
theorem dX8_listed_15 : decode cX8_listed 15 = .ok (.istore 4, 2) := by decide +kernel
theorem dX8_listed_17 : decode cX8_listed 17 = .ok (.aload_n 0, 1) := by decide +kernel
theorem dX8_listed_18 : decode cX8_listed 18 = .ok (.getfield 43, 3) := by decide +kernel
theorem dX8_listed_21 : decode cX8_listed 21 = .ok (.iload 4, 2) := by decide +kernel
theorem dX8_listed_23 : decode cX8_listed 23 = .ok (.baload, 1) := by decide +kernel
theorem dX8_listed_24 : decode cX8_listed 24 = .ok (.ifCond .eq 30, 3) := by decide +kernel
theorem dX8_listed_27 : decode cX8_listed 27 = .ok (.aload_n 0, 1) := by decide +kernel
theorem dX8_listed_28 : decode cX8_listed 28 = .ok (.getfield 165, 3) := by decide +kernel
theorem dX8_listed_31 : decode cX8_listed 31 = .ok (.aload_n 0, 1) := by decide +kernel
theorem dX8_listed_32 : decode cX8_listed 32 = .ok (.getfield 168, 3) := by decide +kernel
theorem dX8_listed_35 : decode cX8_listed 35 = .ok (.if_icmp .ne 6, 3) := by decide +kernel
theorem dX8_listed_38 : decode cX8_listed 38 = .ok (.iload 4, 2) := by decide +kernel
theorem dX8_listed_40 : decode cX8_listed 40 = .ok (.ireturn, 1) := by decide +kernel
theorem dX8_listed_41 : decode cX8_listed 41 = .ok (.aload_n 0, 1) := by decide +kernel
theorem dX8_listed_42 : decode cX8_listed 42 = .ok (.dup, 1) := by decide +kernel
theorem dX8_listed_43 : decode cX8_listed 43 = .ok (.getfield 165, 3) := by decide +kernel
theorem dX8_listed_46 : decode cX8_listed 46 = .ok (.iconst 1, 1) := by decide +kernel
theorem dX8_listed_47 : decode cX8_listed 47 = .ok (.iadd, 1) := by decide +kernel
theorem dX8_listed_48 : decode cX8_listed 48 = .ok (.putfield 165, 3) := by decide +kernel
theorem dX8_listed_51 : decode cX8_listed 51 = .ok (.goto 43, 3) := by decide +kernel
theorem dX8_listed_54 : decode cX8_listed 54 = .ok (.aload_n 0, 1) := by decide +kernel
theorem dX8_listed_55 : decode cX8_listed 55 = .ok (.getfield 158, 3) := by decide +kernel
theorem dX8_listed_58 : decode cX8_listed 58 = .ok (.istore 5, 2) := by decide +kernel
theorem dX8_listed_60 : decode cX8_listed 60 = .ok (.aload_n 0, 1) := by decide +kernel
theorem dX8_listed_61 : decode cX8_listed 61 = .ok (.iload 4, 2) := by decide +kernel
theorem dX8_listed_63 : decode cX8_listed 63 = .ok (.iconst (-1), 1) := by decide +kernel
theorem dX8_listed_64 : decode cX8_listed 64 = .ok (.invokevirtual 161, 3) := by decide +kernel
theorem dX8_listed_67 : decode cX8_listed 67 = .ok (.istore 6, 2) := by decide +kernel
theorem dX8_listed_69 : decode cX8_listed 69 = .ok (.aload_n 0, 1) := by decide +kernel
theorem dX8_listed_70 : decode cX8_listed 70 = .ok (.iload 5, 2) := by decide +kernel
theorem dX8_listed_72 : decode cX8_listed 72 = .ok (.iload 6, 2) := by decide +kernel
theorem dX8_listed_74 : decode cX8_listed 74 = .ok (.invokevirtual 171, 3) := by decide +kernel
theorem dX8_listed_77 : decode cX8_listed 77 = .ok (.istore 7, 2) := by decide +kernel
theorem dX8_listed_79 : decode cX8_listed 79 = .ok (.aload_n 0, 1) := by decide +kernel
theorem dX8_listed_80 : decode cX8_listed 80 = .ok (.iload 5, 2) := by decide +kernel
theorem dX8_listed_82 : decode cX8_listed 82 = .ok (.putfield 158, 3) := by decide +kernel
theorem dX8_listed_85 : decode cX8_listed 85 = .ok (.iload 7, 2) := by decide +kernel
theorem dX8_listed_87 : decode cX8_listed 87 = .ok (.iconst (-1), 1) := by decide +kernel
theorem dX8_listed_88 : decode cX8_listed 88 = .ok (.if_icmp .eq 6, 3) := by decide +kernel
theorem dX8_listed_91 : decode cX8_listed 91 = .ok (.iload 7, 2) := by decide +kernel
theorem dX8_listed_93 : decode cX8_listed 93 = .ok (.ireturn, 1) := by decide +kernel
theorem dX8_listed_94 : decode cX8_listed 94 = .ok (.iinc 3 1, 3) := by decide +kernel
theorem dX8_listed_97 : decode cX8_listed 97 = .ok (.goto (-95), 3) := by decide +kernel
theorem dX8_listed_100 : decode cX8_listed 100 = .ok (.iconst (-1), 1) := by decide +kernel
theorem dX8_listed_101 : decode cX8_listed 101 = .ok (.ireturn, 1) := by decide +kernel
theorem dX8_heir_0 : decode cX8_heir 0 = .ok (.aload_n 0, 1) := by decide +kernel
theorem dX8_heir_1 : decode cX8_heir 1 = .ok (.iload_n 1, 1) := by decide +kernel
theorem dX8_heir_2 : decode cX8_heir 2 = .ok (.invokevirtual 107, 3) := by decide +kernel
theorem dX8_heir_5 : decode cX8_heir 5 = .ok (.ifCond .eq 13, 3) := by decide +kernel
theorem dX8_heir_8 : decode cX8_heir 8 = .ok (.iload_n 2, 1) := by decide +kernel
theorem dX8_heir_9 : decode cX8_heir 9 = .ok (.iconst 0, 1) := by decide +kernel
theorem dX8_heir_10 : decode cX8_heir 10 = .ok (.bipush 39, 2) := by decide +kernel
theorem dX8_heir_12 : decode cX8_heir 12 = .ok (.invokestatic 103, 3) := by decide +kernel
theorem dX8_heir_15 : decode cX8_heir 15 = .ok (.ifCond .ne 5, 3) := by decide +kernel
theorem dX8_heir_18 : decode cX8_heir 18 = .ok (.iconst (-1), 1) := by decide +kernel
theorem dX8_heir_19 : decode cX8_heir 19 = .ok (.ireturn, 1) := by decide +kernel
theorem dX8_heir_20 : decode cX8_heir 20 = .ok (.aload_n 0, 1) := by decide +kernel
theorem dX8_heir_21 : decode cX8_heir 21 = .ok (.getfield 43, 3) := by decide +kernel
theorem dX8_heir_24 : decode cX8_heir 24 = .ok (.iload_n 1, 1) := by decide +kernel
theorem dX8_heir_25 : decode cX8_heir 25 = .ok (.baload, 1) := by decide +kernel
theorem dX8_heir_26 : decode cX8_heir 26 = .ok (.istore_n 3, 1) := by decide +kernel
theorem dX8_heir_27 : decode cX8_heir 27 = .ok (.aload_n 0, 1) := by decide +kernel
theorem dX8_heir_28 : decode cX8_heir 28 = .ok (.getfield 43, 3) := by decide +kernel
theorem dX8_heir_31 : decode cX8_heir 31 = .ok (.iload_n 1, 1) := by decide +kernel
theorem dX8_heir_32 : decode cX8_heir 32 = .ok (.iconst 0, 1) := by decide +kernel
theorem dX8_heir_33 : decode cX8_heir 33 = .ok (.bastore, 1) := by decide +kernel
theorem dX8_heir_34 : decode cX8_heir 34 = .ok (.aload_n 0, 1) := by decide +kernel
theorem dX8_heir_35 : decode cX8_heir 35 = .ok (.invokevirtual 174, 3) := by decide +kernel
theorem dX8_heir_38 : decode cX8_heir 38 = .ok (.aload_n 0, 1) := by decide +kernel
theorem dX8_heir_39 : decode cX8_heir 39 = .ok (.iconst 0, 1) := by decide +kernel
theorem dX8_heir_40 : decode cX8_heir 40 = .ok (.putfield 158, 3) := by decide +kernel
theorem dX8_heir_43 : decode cX8_heir 43 = .ok (.aload_n 0, 1) := by decide +kernel
theorem dX8_heir_44 : decode cX8_heir 44 = .ok (.iconst 0, 1) := by decide +kernel
theorem dX8_heir_45 : decode cX8_heir 45 = .ok (.putfield 165, 3) := by decide +kernel
theorem dX8_heir_48 : decode cX8_heir 48 = .ok (.aload_n 0, 1) := by decide +kernel
theorem dX8_heir_49 : decode cX8_heir 49 = .ok (.iload_n 2, 1) := by decide +kernel
theorem dX8_heir_50 : decode cX8_heir 50 = .ok (.putfield 168, 3) := by decide +kernel
theorem dX8_heir_53 : decode cX8_heir 53 = .ok (.aload_n 0, 1) := by decide +kernel
theorem dX8_heir_54 : decode cX8_heir 54 = .ok (.iload_n 1, 1) := by decide +kernel
theorem dX8_heir_55 : decode cX8_heir 55 = .ok (.invokevirtual 177, 3) := by decide +kernel
theorem dX8_heir_58 : decode cX8_heir 58 = .ok (.istore 4, 2) := by decide +kernel
theorem dX8_heir_60 : decode cX8_heir 60 = .ok (.aload_n 0, 1) := by decide +kernel
theorem dX8_heir_61 : decode cX8_heir 61 = .ok (.iconst 0, 1) := by decide +kernel
theorem dX8_heir_62 : decode cX8_heir 62 = .ok (.iload 4, 2) := by decide +kernel
theorem dX8_heir_64 : decode cX8_heir 64 = .ok (.invokevirtual 171, 3) := by decide +kernel
theorem dX8_heir_67 : decode cX8_heir 67 = .ok (.istore 5, 2) := by decide +kernel
theorem dX8_heir_69 : decode cX8_heir 69 = .ok (.aload_n 0, 1) := by decide +kernel
theorem dX8_heir_70 : decode cX8_heir 70 = .ok (.getfield 43, 3) := by decide +kernel
theorem dX8_heir_73 : decode cX8_heir 73 = .ok (.iload_n 1, 1) := by decide +kernel
theorem dX8_heir_74 : decode cX8_heir 74 = .ok (.iload_n 3, 1) := by decide +kernel
theorem dX8_heir_75 : decode cX8_heir 75 = .ok (.bastore, 1) := by decide +kernel
theorem dX8_heir_76 : decode cX8_heir 76 = .ok (.iload 5, 2) := by decide +kernel
theorem dX8_heir_78 : decode cX8_heir 78 = .ok (.ireturn, 1) := by decide +kernel
theorem dX8_shares_0 : decode cX8_shares 0 = .ok (.iload_n 1, 1) := by decide +kernel
theorem dX8_shares_1 : decode cX8_shares 1 = .ok (.istore 5, 2) := by decide +kernel
theorem dX8_shares_3 : decode cX8_shares 3 = .ok (.iconst 0, 1) := by decide +kernel
theorem dX8_shares_4 : decode cX8_shares 4 = .ok (.istore 6, 2) := by decide +kernel
theorem dX8_shares_6 : decode cX8_shares 6 = .ok (.iload 6, 2) := by decide +kernel
theorem dX8_shares_8 : decode cX8_shares 8 = .ok (.iload 4, 2) := by decide +kernel
theorem dX8_shares_10 : decode cX8_shares 10 = .ok (.if_icmp .ge 137, 3) := by decide +kernel
theorem dX8_shares_13 : decode cX8_shares 13 = .ok (.iload_n 2, 1) := by decide +kernel
theorem dX8_shares_14 : decode cX8_shares 14 = .ok (.iload 4, 2) := by decide +kernel
theorem dX8_shares_16 : decode cX8_shares 16 = .ok (.idiv, 1) := by decide +kernel
theorem dX8_shares_17 : decode cX8_shares 17 = .ok (.iload 6, 2) := by decide +kernel
theorem dX8_shares_19 : decode cX8_shares 19 = .ok (.iload_n 2, 1) := by decide +kernel
theorem dX8_shares_20 : decode cX8_shares 20 = .ok (.iload 4, 2) := by decide +kernel
theorem dX8_shares_22 : decode cX8_shares 22 = .ok (.irem, 1) := by decide +kernel
theorem dX8_shares_23 : decode cX8_shares 23 = .ok (.if_icmp .ge 7, 3) := by decide +kernel
theorem dX8_shares_26 : decode cX8_shares 26 = .ok (.iconst 1, 1) := by decide +kernel
theorem dX8_shares_27 : decode cX8_shares 27 = .ok (.goto 4, 3) := by decide +kernel
theorem dX8_shares_30 : decode cX8_shares 30 = .ok (.iconst 0, 1) := by decide +kernel
theorem dX8_shares_31 : decode cX8_shares 31 = .ok (.iadd, 1) := by decide +kernel
theorem dX8_shares_32 : decode cX8_shares 32 = .ok (.istore 7, 2) := by decide +kernel
theorem dX8_shares_34 : decode cX8_shares 34 = .ok (.aload_n 0, 1) := by decide +kernel
theorem dX8_shares_35 : decode cX8_shares 35 = .ok (.getfield 89, 3) := by decide +kernel
theorem dX8_shares_38 : decode cX8_shares 38 = .ok (.iload_n 3, 1) := by decide +kernel
theorem dX8_shares_39 : decode cX8_shares 39 = .ok (.iload 6, 2) := by decide +kernel
theorem dX8_shares_41 : decode cX8_shares 41 = .ok (.iadd, 1) := by decide +kernel
theorem dX8_shares_42 : decode cX8_shares 42 = .ok (.iaload, 1) := by decide +kernel
theorem dX8_shares_43 : decode cX8_shares 43 = .ok (.istore 8, 2) := by decide +kernel
theorem dX8_shares_45 : decode cX8_shares 45 = .ok (.iload 7, 2) := by decide +kernel
theorem dX8_shares_47 : decode cX8_shares 47 = .ok (.ifCond .le 49, 3) := by decide +kernel
theorem dX8_shares_50 : decode cX8_shares 50 = .ok (.aload_n 0, 1) := by decide +kernel
theorem dX8_shares_51 : decode cX8_shares 51 = .ok (.getfield 43, 3) := by decide +kernel
theorem dX8_shares_54 : decode cX8_shares 54 = .ok (.iload 8, 2) := by decide +kernel
theorem dX8_shares_56 : decode cX8_shares 56 = .ok (.baload, 1) := by decide +kernel
theorem dX8_shares_57 : decode cX8_shares 57 = .ok (.ifCond .eq 39, 3) := by decide +kernel
theorem dX8_shares_60 : decode cX8_shares 60 = .ok (.iconst 0, 1) := by decide +kernel
theorem dX8_shares_61 : decode cX8_shares 61 = .ok (.istore 9, 2) := by decide +kernel
theorem dX8_shares_63 : decode cX8_shares 63 = .ok (.iload 9, 2) := by decide +kernel
theorem dX8_shares_65 : decode cX8_shares 65 = .ok (.iload 7, 2) := by decide +kernel
theorem dX8_shares_67 : decode cX8_shares 67 = .ok (.if_icmp .ge 26, 3) := by decide +kernel
theorem dX8_shares_70 : decode cX8_shares 70 = .ok (.aload_n 0, 1) := by decide +kernel
theorem dX8_shares_71 : decode cX8_shares 71 = .ok (.aload_n 0, 1) := by decide +kernel
theorem dX8_shares_72 : decode cX8_shares 72 = .ok (.getfield 92, 3) := by decide +kernel
theorem dX8_shares_75 : decode cX8_shares 75 = .ok (.iload 5, 2) := by decide +kernel
theorem dX8_shares_77 : decode cX8_shares 77 = .ok (.iload 9, 2) := by decide +kernel
theorem dX8_shares_79 : decode cX8_shares 79 = .ok (.iadd, 1) := by decide +kernel
theorem dX8_shares_80 : decode cX8_shares 80 = .ok (.iaload, 1) := by decide +kernel
theorem dX8_shares_81 : decode cX8_shares 81 = .ok (.iload 8, 2) := by decide +kernel
theorem dX8_shares_83 : decode cX8_shares 83 = .ok (.iconst 2, 1) := by decide +kernel
theorem dX8_shares_84 : decode cX8_shares 84 = .ok (.invokevirtual 95, 3) := by decide +kernel
theorem dX8_shares_87 : decode cX8_shares 87 = .ok (.iinc 9 1, 3) := by decide +kernel
theorem dX8_shares_90 : decode cX8_shares 90 = .ok (.goto (-27), 3) := by decide +kernel
theorem dX8_shares_93 : decode cX8_shares 93 = .ok (.goto 41, 3) := by decide +kernel
theorem dX8_shares_96 : decode cX8_shares 96 = .ok (.iload 7, 2) := by decide +kernel
theorem dX8_shares_98 : decode cX8_shares 98 = .ok (.ifCond .le 36, 3) := by decide +kernel
theorem dX8_shares_101 : decode cX8_shares 101 = .ok (.aload_n 0, 1) := by decide +kernel
theorem dX8_shares_102 : decode cX8_shares 102 = .ok (.getfield 158, 3) := by decide +kernel
theorem dX8_shares_105 : decode cX8_shares 105 = .ok (.istore 9, 2) := by decide +kernel
theorem dX8_shares_107 : decode cX8_shares 107 = .ok (.aload_n 0, 1) := by decide +kernel
theorem dX8_shares_108 : decode cX8_shares 108 = .ok (.iload 8, 2) := by decide +kernel
theorem dX8_shares_110 : decode cX8_shares 110 = .ok (.iconst (-1), 1) := by decide +kernel
theorem dX8_shares_111 : decode cX8_shares 111 = .ok (.invokevirtual 161, 3) := by decide +kernel
theorem dX8_shares_114 : decode cX8_shares 114 = .ok (.istore 10, 2) := by decide +kernel
theorem dX8_shares_116 : decode cX8_shares 116 = .ok (.aload_n 0, 1) := by decide +kernel
theorem dX8_shares_117 : decode cX8_shares 117 = .ok (.iload 5, 2) := by decide +kernel
theorem dX8_shares_119 : decode cX8_shares 119 = .ok (.iload 7, 2) := by decide +kernel
theorem dX8_shares_121 : decode cX8_shares 121 = .ok (.iload 9, 2) := by decide +kernel
theorem dX8_shares_123 : decode cX8_shares 123 = .ok (.iload 10, 2) := by decide +kernel
theorem dX8_shares_125 : decode cX8_shares 125 = .ok (.invokevirtual 181, 3) := by decide +kernel
theorem dX8_shares_128 : decode cX8_shares 128 = .ok (.aload_n 0, 1) := by decide +kernel
theorem dX8_shares_129 : decode cX8_shares 129 = .ok (.iload 9, 2) := by decide +kernel
theorem dX8_shares_131 : decode cX8_shares 131 = .ok (.putfield 158, 3) := by decide +kernel
theorem dX8_shares_134 : decode cX8_shares 134 = .ok (.iload 5, 2) := by decide +kernel
theorem dX8_shares_136 : decode cX8_shares 136 = .ok (.iload 7, 2) := by decide +kernel
theorem dX8_shares_138 : decode cX8_shares 138 = .ok (.iadd, 1) := by decide +kernel
theorem dX8_shares_139 : decode cX8_shares 139 = .ok (.istore 5, 2) := by decide +kernel
theorem dX8_shares_141 : decode cX8_shares 141 = .ok (.iinc 6 1, 3) := by decide +kernel
theorem dX8_shares_144 : decode cX8_shares 144 = .ok (.goto (-138), 3) := by decide +kernel
theorem dX8_shares_147 : decode cX8_shares 147 = .ok (.return_, 1) := by decide +kernel
theorem dX8_passes_0 : decode cX8_passes 0 = .ok (.aload_n 0, 1) := by decide +kernel
theorem dX8_passes_1 : decode cX8_passes 1 = .ok (.invokevirtual 174, 3) := by decide +kernel
theorem dX8_passes_4 : decode cX8_passes 4 = .ok (.aload_n 0, 1) := by decide +kernel
theorem dX8_passes_5 : decode cX8_passes 5 = .ok (.iconst 0, 1) := by decide +kernel
theorem dX8_passes_6 : decode cX8_passes 6 = .ok (.putfield 158, 3) := by decide +kernel
theorem dX8_passes_9 : decode cX8_passes 9 = .ok (.aload_n 0, 1) := by decide +kernel
theorem dX8_passes_10 : decode cX8_passes 10 = .ok (.iload_n 1, 1) := by decide +kernel
theorem dX8_passes_11 : decode cX8_passes 11 = .ok (.invokevirtual 177, 3) := by decide +kernel
theorem dX8_passes_14 : decode cX8_passes 14 = .ok (.istore 4, 2) := by decide +kernel
theorem dX8_passes_16 : decode cX8_passes 16 = .ok (.iload 4, 2) := by decide +kernel
theorem dX8_passes_18 : decode cX8_passes 18 = .ok (.ifCond .le 17, 3) := by decide +kernel
theorem dX8_passes_21 : decode cX8_passes 21 = .ok (.aload_n 0, 1) := by decide +kernel
theorem dX8_passes_22 : decode cX8_passes 22 = .ok (.iload_n 2, 1) := by decide +kernel
theorem dX8_passes_23 : decode cX8_passes 23 = .ok (.iload_n 3, 1) := by decide +kernel
theorem dX8_passes_24 : decode cX8_passes 24 = .ok (.iload_n 2, 1) := by decide +kernel
theorem dX8_passes_25 : decode cX8_passes 25 = .ok (.isub, 1) := by decide +kernel
theorem dX8_passes_26 : decode cX8_passes 26 = .ok (.iconst 0, 1) := by decide +kernel
theorem dX8_passes_27 : decode cX8_passes 27 = .ok (.iload 4, 2) := by decide +kernel
theorem dX8_passes_29 : decode cX8_passes 29 = .ok (.invokevirtual 181, 3) := by decide +kernel
theorem dX8_passes_32 : decode cX8_passes 32 = .ok (.goto 31, 3) := by decide +kernel
theorem dX8_passes_35 : decode cX8_passes 35 = .ok (.iload_n 2, 1) := by decide +kernel
theorem dX8_passes_36 : decode cX8_passes 36 = .ok (.istore 5, 2) := by decide +kernel
theorem dX8_passes_38 : decode cX8_passes 38 = .ok (.iload 5, 2) := by decide +kernel
theorem dX8_passes_40 : decode cX8_passes 40 = .ok (.iload_n 3, 1) := by decide +kernel
theorem dX8_passes_41 : decode cX8_passes 41 = .ok (.if_icmp .ge 22, 3) := by decide +kernel
theorem dX8_passes_44 : decode cX8_passes 44 = .ok (.aload_n 0, 1) := by decide +kernel
theorem dX8_passes_45 : decode cX8_passes 45 = .ok (.aload_n 0, 1) := by decide +kernel
theorem dX8_passes_46 : decode cX8_passes 46 = .ok (.getfield 92, 3) := by decide +kernel
theorem dX8_passes_49 : decode cX8_passes 49 = .ok (.iload 5, 2) := by decide +kernel
theorem dX8_passes_51 : decode cX8_passes 51 = .ok (.iaload, 1) := by decide +kernel
theorem dX8_passes_52 : decode cX8_passes 52 = .ok (.iconst (-1), 1) := by decide +kernel
theorem dX8_passes_53 : decode cX8_passes 53 = .ok (.iconst 5, 1) := by decide +kernel
theorem dX8_passes_54 : decode cX8_passes 54 = .ok (.invokevirtual 95, 3) := by decide +kernel
theorem dX8_passes_57 : decode cX8_passes 57 = .ok (.iinc 5 1, 3) := by decide +kernel
theorem dX8_passes_60 : decode cX8_passes 60 = .ok (.goto (-22), 3) := by decide +kernel
theorem dX8_passes_63 : decode cX8_passes 63 = .ok (.return_, 1) := by decide +kernel
theorem dX8_widowPasses_0 : decode cX8_widowPasses 0 = .ok (.iconst 0, 1) := by decide +kernel
theorem dX8_widowPasses_1 : decode cX8_widowPasses 1 = .ok (.istore_n 3, 1) := by decide +kernel
theorem dX8_widowPasses_2 : decode cX8_widowPasses 2 = .ok (.iconst 0, 1) := by decide +kernel
theorem dX8_widowPasses_3 : decode cX8_widowPasses 3 = .ok (.istore 4, 2) := by decide +kernel
theorem dX8_widowPasses_5 : decode cX8_widowPasses 5 = .ok (.iload 4, 2) := by decide +kernel
theorem dX8_widowPasses_7 : decode cX8_widowPasses 7 = .ok (.aload_n 0, 1) := by decide +kernel
theorem dX8_widowPasses_8 : decode cX8_widowPasses 8 = .ok (.getfield 99, 3) := by decide +kernel
theorem dX8_widowPasses_11 : decode cX8_widowPasses 11 = .ok (.if_icmp .ge 92, 3) := by decide +kernel
theorem dX8_widowPasses_14 : decode cX8_widowPasses 14 = .ok (.iconst 0, 1) := by decide +kernel
theorem dX8_widowPasses_15 : decode cX8_widowPasses 15 = .ok (.istore 5, 2) := by decide +kernel
theorem dX8_widowPasses_17 : decode cX8_widowPasses 17 = .ok (.bipush 12, 2) := by decide +kernel
theorem dX8_widowPasses_19 : decode cX8_widowPasses 19 = .ok (.iload_n 2, 1) := by decide +kernel
theorem dX8_widowPasses_20 : decode cX8_widowPasses 20 = .ok (.imul, 1) := by decide +kernel
theorem dX8_widowPasses_21 : decode cX8_widowPasses 21 = .ok (.istore 6, 2) := by decide +kernel
theorem dX8_widowPasses_23 : decode cX8_widowPasses 23 = .ok (.iload 6, 2) := by decide +kernel
theorem dX8_widowPasses_25 : decode cX8_widowPasses 25 = .ok (.bipush 12, 2) := by decide +kernel
theorem dX8_widowPasses_27 : decode cX8_widowPasses 27 = .ok (.iload_n 2, 1) := by decide +kernel
theorem dX8_widowPasses_28 : decode cX8_widowPasses 28 = .ok (.iconst 1, 1) := by decide +kernel
theorem dX8_widowPasses_29 : decode cX8_widowPasses 29 = .ok (.iadd, 1) := by decide +kernel
theorem dX8_widowPasses_30 : decode cX8_widowPasses 30 = .ok (.imul, 1) := by decide +kernel
theorem dX8_widowPasses_31 : decode cX8_widowPasses 31 = .ok (.if_icmp .ge 47, 3) := by decide +kernel
theorem dX8_widowPasses_34 : decode cX8_widowPasses 34 = .ok (.aload_n 0, 1) := by decide +kernel
theorem dX8_widowPasses_35 : decode cX8_widowPasses 35 = .ok (.getfield 62, 3) := by decide +kernel
theorem dX8_widowPasses_38 : decode cX8_widowPasses 38 = .ok (.iload 6, 2) := by decide +kernel
theorem dX8_widowPasses_40 : decode cX8_widowPasses 40 = .ok (.iaload, 1) := by decide +kernel
theorem dX8_widowPasses_41 : decode cX8_widowPasses 41 = .ok (.iload_n 1, 1) := by decide +kernel
theorem dX8_widowPasses_42 : decode cX8_widowPasses 42 = .ok (.if_icmp .ne 30, 3) := by decide +kernel
theorem dX8_widowPasses_45 : decode cX8_widowPasses 45 = .ok (.aload_n 0, 1) := by decide +kernel
theorem dX8_widowPasses_46 : decode cX8_widowPasses 46 = .ok (.getfield 65, 3) := by decide +kernel
theorem dX8_widowPasses_49 : decode cX8_widowPasses 49 = .ok (.iload 6, 2) := by decide +kernel
theorem dX8_widowPasses_51 : decode cX8_widowPasses 51 = .ok (.iaload, 1) := by decide +kernel
theorem dX8_widowPasses_52 : decode cX8_widowPasses 52 = .ok (.iload 4, 2) := by decide +kernel
theorem dX8_widowPasses_54 : decode cX8_widowPasses 54 = .ok (.if_icmp .eq 6, 3) := by decide +kernel
theorem dX8_widowPasses_57 : decode cX8_widowPasses 57 = .ok (.goto 15, 3) := by decide +kernel
theorem dX8_widowPasses_60 : decode cX8_widowPasses 60 = .ok (.aload_n 0, 1) := by decide +kernel
theorem dX8_widowPasses_61 : decode cX8_widowPasses 61 = .ok (.getfield 92, 3) := by decide +kernel
theorem dX8_widowPasses_64 : decode cX8_widowPasses 64 = .ok (.iload 5, 2) := by decide +kernel
theorem dX8_widowPasses_66 : decode cX8_widowPasses 66 = .ok (.iload 6, 2) := by decide +kernel
theorem dX8_widowPasses_68 : decode cX8_widowPasses 68 = .ok (.iastore, 1) := by decide +kernel
theorem dX8_widowPasses_69 : decode cX8_widowPasses 69 = .ok (.iinc 5 1, 3) := by decide +kernel
theorem dX8_widowPasses_72 : decode cX8_widowPasses 72 = .ok (.iinc 6 1, 3) := by decide +kernel
theorem dX8_widowPasses_75 : decode cX8_widowPasses 75 = .ok (.goto (-52), 3) := by decide +kernel
theorem dX8_widowPasses_78 : decode cX8_widowPasses 78 = .ok (.iload 5, 2) := by decide +kernel
theorem dX8_widowPasses_80 : decode cX8_widowPasses 80 = .ok (.ifCond .le 12, 3) := by decide +kernel
theorem dX8_widowPasses_83 : decode cX8_widowPasses 83 = .ok (.aload_n 0, 1) := by decide +kernel
theorem dX8_widowPasses_84 : decode cX8_widowPasses 84 = .ok (.iload 4, 2) := by decide +kernel
theorem dX8_widowPasses_86 : decode cX8_widowPasses 86 = .ok (.iconst 0, 1) := by decide +kernel
theorem dX8_widowPasses_87 : decode cX8_widowPasses 87 = .ok (.iload 5, 2) := by decide +kernel
theorem dX8_widowPasses_89 : decode cX8_widowPasses 89 = .ok (.invokevirtual 185, 3) := by decide +kernel
theorem dX8_widowPasses_92 : decode cX8_widowPasses 92 = .ok (.iload_n 3, 1) := by decide +kernel
theorem dX8_widowPasses_93 : decode cX8_widowPasses 93 = .ok (.iload 5, 2) := by decide +kernel
theorem dX8_widowPasses_95 : decode cX8_widowPasses 95 = .ok (.iadd, 1) := by decide +kernel
theorem dX8_widowPasses_96 : decode cX8_widowPasses 96 = .ok (.istore_n 3, 1) := by decide +kernel
theorem dX8_widowPasses_97 : decode cX8_widowPasses 97 = .ok (.iinc 4 1, 3) := by decide +kernel
theorem dX8_widowPasses_100 : decode cX8_widowPasses 100 = .ok (.goto (-95), 3) := by decide +kernel
theorem dX8_widowPasses_103 : decode cX8_widowPasses 103 = .ok (.iload_n 3, 1) := by decide +kernel
theorem dX8_widowPasses_104 : decode cX8_widowPasses 104 = .ok (.ireturn, 1) := by decide +kernel
theorem dX8_own_0 : decode cX8_own 0 = .ok (.iconst 0, 1) := by decide +kernel
theorem dX8_own_1 : decode cX8_own 1 = .ok (.istore_n 3, 1) := by decide +kernel
theorem dX8_own_2 : decode cX8_own 2 = .ok (.bipush 12, 2) := by decide +kernel
theorem dX8_own_4 : decode cX8_own 4 = .ok (.iload_n 2, 1) := by decide +kernel
theorem dX8_own_5 : decode cX8_own 5 = .ok (.imul, 1) := by decide +kernel
theorem dX8_own_6 : decode cX8_own 6 = .ok (.istore 4, 2) := by decide +kernel
theorem dX8_own_8 : decode cX8_own 8 = .ok (.iload 4, 2) := by decide +kernel
theorem dX8_own_10 : decode cX8_own 10 = .ok (.bipush 12, 2) := by decide +kernel
theorem dX8_own_12 : decode cX8_own 12 = .ok (.iload_n 2, 1) := by decide +kernel
theorem dX8_own_13 : decode cX8_own 13 = .ok (.iconst 1, 1) := by decide +kernel
theorem dX8_own_14 : decode cX8_own 14 = .ok (.iadd, 1) := by decide +kernel
theorem dX8_own_15 : decode cX8_own 15 = .ok (.imul, 1) := by decide +kernel
theorem dX8_own_16 : decode cX8_own 16 = .ok (.if_icmp .ge 45, 3) := by decide +kernel
theorem dX8_own_19 : decode cX8_own 19 = .ok (.aload_n 0, 1) := by decide +kernel
theorem dX8_own_20 : decode cX8_own 20 = .ok (.getfield 62, 3) := by decide +kernel
theorem dX8_own_23 : decode cX8_own 23 = .ok (.iload 4, 2) := by decide +kernel
theorem dX8_own_25 : decode cX8_own 25 = .ok (.iaload, 1) := by decide +kernel
theorem dX8_own_26 : decode cX8_own 26 = .ok (.iload_n 1, 1) := by decide +kernel
theorem dX8_own_27 : decode cX8_own 27 = .ok (.if_icmp .ne 28, 3) := by decide +kernel
theorem dX8_own_30 : decode cX8_own 30 = .ok (.aload_n 0, 1) := by decide +kernel
theorem dX8_own_31 : decode cX8_own 31 = .ok (.getfield 65, 3) := by decide +kernel
theorem dX8_own_34 : decode cX8_own 34 = .ok (.iload 4, 2) := by decide +kernel
theorem dX8_own_36 : decode cX8_own 36 = .ok (.iaload, 1) := by decide +kernel
theorem dX8_own_37 : decode cX8_own 37 = .ok (.iconst (-1), 1) := by decide +kernel
theorem dX8_own_38 : decode cX8_own 38 = .ok (.if_icmp .eq 6, 3) := by decide +kernel
theorem dX8_own_41 : decode cX8_own 41 = .ok (.goto 14, 3) := by decide +kernel
theorem dX8_own_44 : decode cX8_own 44 = .ok (.aload_n 0, 1) := by decide +kernel
theorem dX8_own_45 : decode cX8_own 45 = .ok (.getfield 92, 3) := by decide +kernel
theorem dX8_own_48 : decode cX8_own 48 = .ok (.iload_n 3, 1) := by decide +kernel
theorem dX8_own_49 : decode cX8_own 49 = .ok (.iload 4, 2) := by decide +kernel
theorem dX8_own_51 : decode cX8_own 51 = .ok (.iastore, 1) := by decide +kernel
theorem dX8_own_52 : decode cX8_own 52 = .ok (.iinc 3 1, 3) := by decide +kernel
theorem dX8_own_55 : decode cX8_own 55 = .ok (.iinc 4 1, 3) := by decide +kernel
theorem dX8_own_58 : decode cX8_own 58 = .ok (.goto (-50), 3) := by decide +kernel
theorem dX8_own_61 : decode cX8_own 61 = .ok (.iload_n 3, 1) := by decide +kernel
theorem dX8_own_62 : decode cX8_own 62 = .ok (.ireturn, 1) := by decide +kernel
theorem dX8_marry_0 : decode cX8_marry 0 = .ok (.aload_n 0, 1) := by decide +kernel
theorem dX8_marry_1 : decode cX8_marry 1 = .ok (.iload_n 1, 1) := by decide +kernel
theorem dX8_marry_2 : decode cX8_marry 2 = .ok (.invokevirtual 188, 3) := by decide +kernel
theorem dX8_marry_5 : decode cX8_marry 5 = .ok (.ifCond .eq 50, 3) := by decide +kernel
theorem dX8_marry_8 : decode cX8_marry 8 = .ok (.aload_n 0, 1) := by decide +kernel
theorem dX8_marry_9 : decode cX8_marry 9 = .ok (.iload_n 2, 1) := by decide +kernel
theorem dX8_marry_10 : decode cX8_marry 10 = .ok (.invokevirtual 188, 3) := by decide +kernel
theorem dX8_marry_13 : decode cX8_marry 13 = .ok (.ifCond .eq 42, 3) := by decide +kernel
theorem dX8_marry_16 : decode cX8_marry 16 = .ok (.aload_n 0, 1) := by decide +kernel
theorem dX8_marry_17 : decode cX8_marry 17 = .ok (.getfield 9, 3) := by decide +kernel
theorem dX8_marry_20 : decode cX8_marry 20 = .ok (.iload_n 1, 1) := by decide +kernel
theorem dX8_marry_21 : decode cX8_marry 21 = .ok (.iaload, 1) := by decide +kernel
theorem dX8_marry_22 : decode cX8_marry 22 = .ok (.ifCond .ne 33, 3) := by decide +kernel
theorem dX8_marry_25 : decode cX8_marry 25 = .ok (.aload_n 0, 1) := by decide +kernel
theorem dX8_marry_26 : decode cX8_marry 26 = .ok (.getfield 9, 3) := by decide +kernel
theorem dX8_marry_29 : decode cX8_marry 29 = .ok (.iload_n 2, 1) := by decide +kernel
theorem dX8_marry_30 : decode cX8_marry 30 = .ok (.iaload, 1) := by decide +kernel
theorem dX8_marry_31 : decode cX8_marry 31 = .ok (.iconst 1, 1) := by decide +kernel
theorem dX8_marry_32 : decode cX8_marry 32 = .ok (.if_icmp .ne 23, 3) := by decide +kernel
theorem dX8_marry_35 : decode cX8_marry 35 = .ok (.aload_n 0, 1) := by decide +kernel
theorem dX8_marry_36 : decode cX8_marry 36 = .ok (.getfield 19, 3) := by decide +kernel
theorem dX8_marry_39 : decode cX8_marry 39 = .ok (.iload_n 1, 1) := by decide +kernel
theorem dX8_marry_40 : decode cX8_marry 40 = .ok (.iaload, 1) := by decide +kernel
theorem dX8_marry_41 : decode cX8_marry 41 = .ok (.iconst (-1), 1) := by decide +kernel
theorem dX8_marry_42 : decode cX8_marry 42 = .ok (.if_icmp .ne 13, 3) := by decide +kernel
theorem dX8_marry_45 : decode cX8_marry 45 = .ok (.aload_n 0, 1) := by decide +kernel
theorem dX8_marry_46 : decode cX8_marry 46 = .ok (.getfield 19, 3) := by decide +kernel
theorem dX8_marry_49 : decode cX8_marry 49 = .ok (.iload_n 2, 1) := by decide +kernel
theorem dX8_marry_50 : decode cX8_marry 50 = .ok (.iaload, 1) := by decide +kernel
theorem dX8_marry_51 : decode cX8_marry 51 = .ok (.iconst (-1), 1) := by decide +kernel
theorem dX8_marry_52 : decode cX8_marry 52 = .ok (.if_icmp .eq 5, 3) := by decide +kernel
theorem dX8_marry_55 : decode cX8_marry 55 = .ok (.iconst 0, 1) := by decide +kernel
theorem dX8_marry_56 : decode cX8_marry 56 = .ok (.ireturn, 1) := by decide +kernel
theorem dX8_marry_57 : decode cX8_marry 57 = .ok (.aload_n 0, 1) := by decide +kernel
theorem dX8_marry_58 : decode cX8_marry 58 = .ok (.getfield 19, 3) := by decide +kernel
theorem dX8_marry_61 : decode cX8_marry 61 = .ok (.iload_n 1, 1) := by decide +kernel
theorem dX8_marry_62 : decode cX8_marry 62 = .ok (.iload_n 2, 1) := by decide +kernel
theorem dX8_marry_63 : decode cX8_marry 63 = .ok (.iastore, 1) := by decide +kernel
theorem dX8_marry_64 : decode cX8_marry 64 = .ok (.aload_n 0, 1) := by decide +kernel
theorem dX8_marry_65 : decode cX8_marry 65 = .ok (.getfield 19, 3) := by decide +kernel
theorem dX8_marry_68 : decode cX8_marry 68 = .ok (.iload_n 2, 1) := by decide +kernel
theorem dX8_marry_69 : decode cX8_marry 69 = .ok (.iload_n 1, 1) := by decide +kernel
theorem dX8_marry_70 : decode cX8_marry 70 = .ok (.iastore, 1) := by decide +kernel
theorem dX8_marry_71 : decode cX8_marry 71 = .ok (.aload_n 0, 1) := by decide +kernel
theorem dX8_marry_72 : decode cX8_marry 72 = .ok (.getfield 13, 3) := by decide +kernel
theorem dX8_marry_75 : decode cX8_marry 75 = .ok (.iload_n 2, 1) := by decide +kernel
theorem dX8_marry_76 : decode cX8_marry 76 = .ok (.iaload, 1) := by decide +kernel
theorem dX8_marry_77 : decode cX8_marry 77 = .ok (.istore_n 3, 1) := by decide +kernel
theorem dX8_marry_78 : decode cX8_marry 78 = .ok (.aload_n 0, 1) := by decide +kernel
theorem dX8_marry_79 : decode cX8_marry 79 = .ok (.getfield 25, 3) := by decide +kernel
theorem dX8_marry_82 : decode cX8_marry 82 = .ok (.iload_n 3, 1) := by decide +kernel
theorem dX8_marry_83 : decode cX8_marry 83 = .ok (.iconst (-1), 1) := by decide +kernel
theorem dX8_marry_84 : decode cX8_marry 84 = .ok (.if_icmp .eq 16, 3) := by decide +kernel
theorem dX8_marry_87 : decode cX8_marry 87 = .ok (.aload_n 0, 1) := by decide +kernel
theorem dX8_marry_88 : decode cX8_marry 88 = .ok (.getfield 43, 3) := by decide +kernel
theorem dX8_marry_91 : decode cX8_marry 91 = .ok (.iload_n 3, 1) := by decide +kernel
theorem dX8_marry_92 : decode cX8_marry 92 = .ok (.baload, 1) := by decide +kernel
theorem dX8_marry_93 : decode cX8_marry 93 = .ok (.ifCond .eq 7, 3) := by decide +kernel
theorem dX8_marry_96 : decode cX8_marry 96 = .ok (.iload_n 3, 1) := by decide +kernel
theorem dX8_marry_97 : decode cX8_marry 97 = .ok (.goto 4, 3) := by decide +kernel
theorem dX8_marry_100 : decode cX8_marry 100 = .ok (.iload_n 2, 1) := by decide +kernel
theorem dX8_marry_101 : decode cX8_marry 101 = .ok (.dup2, 1) := by decide +kernel
theorem dX8_marry_102 : decode cX8_marry 102 = .ok (.iaload, 1) := by decide +kernel
theorem dX8_marry_103 : decode cX8_marry 103 = .ok (.aload_n 0, 1) := by decide +kernel
theorem dX8_marry_104 : decode cX8_marry 104 = .ok (.getfield 148, 3) := by decide +kernel
theorem dX8_marry_107 : decode cX8_marry 107 = .ok (.iadd, 1) := by decide +kernel
theorem dX8_marry_108 : decode cX8_marry 108 = .ok (.iastore, 1) := by decide +kernel
theorem dX8_marry_109 : decode cX8_marry 109 = .ok (.iconst 0, 1) := by decide +kernel
theorem dX8_marry_110 : decode cX8_marry 110 = .ok (.istore 4, 2) := by decide +kernel
theorem dX8_marry_112 : decode cX8_marry 112 = .ok (.iload 4, 2) := by decide +kernel
theorem dX8_marry_114 : decode cX8_marry 114 = .ok (.bipush 10, 2) := by decide +kernel
theorem dX8_marry_116 : decode cX8_marry 116 = .ok (.if_icmp .ge 26, 3) := by decide +kernel
theorem dX8_marry_119 : decode cX8_marry 119 = .ok (.aload_n 0, 1) := by decide +kernel
theorem dX8_marry_120 : decode cX8_marry 120 = .ok (.iload_n 1, 1) := by decide +kernel
theorem dX8_marry_121 : decode cX8_marry 121 = .ok (.iload 4, 2) := by decide +kernel
theorem dX8_marry_123 : decode cX8_marry 123 = .ok (.invokevirtual 191, 3) := by decide +kernel
theorem dX8_marry_126 : decode cX8_marry 126 = .ok (.aload_n 0, 1) := by decide +kernel
theorem dX8_marry_127 : decode cX8_marry 127 = .ok (.iload_n 2, 1) := by decide +kernel
theorem dX8_marry_128 : decode cX8_marry 128 = .ok (.iload 4, 2) := by decide +kernel
theorem dX8_marry_130 : decode cX8_marry 130 = .ok (.invokevirtual 191, 3) := by decide +kernel
theorem dX8_marry_133 : decode cX8_marry 133 = .ok (.iadd, 1) := by decide +kernel
theorem dX8_marry_134 : decode cX8_marry 134 = .ok (.istore 5, 2) := by decide +kernel
theorem dX8_marry_136 : decode cX8_marry 136 = .ok (.iinc 4 1, 3) := by decide +kernel
theorem dX8_marry_139 : decode cX8_marry 139 = .ok (.goto (-27), 3) := by decide +kernel
theorem dX8_marry_142 : decode cX8_marry 142 = .ok (.iconst 1, 1) := by decide +kernel
theorem dX8_marry_143 : decode cX8_marry 143 = .ok (.ireturn, 1) := by decide +kernel
theorem dX8_die_0 : decode cX8_die 0 = .ok (.aload_n 0, 1) := by decide +kernel
theorem dX8_die_1 : decode cX8_die 1 = .ok (.iload_n 1, 1) := by decide +kernel
theorem dX8_die_2 : decode cX8_die 2 = .ok (.invokevirtual 188, 3) := by decide +kernel
theorem dX8_die_5 : decode cX8_die 5 = .ok (.ifCond .ne 5, 3) := by decide +kernel
theorem dX8_die_8 : decode cX8_die 8 = .ok (.iconst (-1), 1) := by decide +kernel
theorem dX8_die_9 : decode cX8_die 9 = .ok (.ireturn, 1) := by decide +kernel
theorem dX8_die_10 : decode cX8_die 10 = .ok (.aload_n 0, 1) := by decide +kernel
theorem dX8_die_11 : decode cX8_die 11 = .ok (.getfield 43, 3) := by decide +kernel
theorem dX8_die_14 : decode cX8_die 14 = .ok (.iload_n 1, 1) := by decide +kernel
theorem dX8_die_15 : decode cX8_die 15 = .ok (.iconst 0, 1) := by decide +kernel
theorem dX8_die_16 : decode cX8_die 16 = .ok (.bastore, 1) := by decide +kernel
theorem dX8_die_17 : decode cX8_die 17 = .ok (.aload_n 0, 1) := by decide +kernel
theorem dX8_die_18 : decode cX8_die 18 = .ok (.getfield 19, 3) := by decide +kernel
theorem dX8_die_21 : decode cX8_die 21 = .ok (.iload_n 1, 1) := by decide +kernel
theorem dX8_die_22 : decode cX8_die 22 = .ok (.iaload, 1) := by decide +kernel
theorem dX8_die_23 : decode cX8_die 23 = .ok (.istore_n 2, 1) := by decide +kernel
theorem dX8_die_24 : decode cX8_die 24 = .ok (.iconst 0, 1) := by decide +kernel
theorem dX8_die_25 : decode cX8_die 25 = .ok (.istore_n 3, 1) := by decide +kernel
theorem dX8_die_26 : decode cX8_die 26 = .ok (.iconst 0, 1) := by decide +kernel
theorem dX8_die_27 : decode cX8_die 27 = .ok (.istore 4, 2) := by decide +kernel
theorem dX8_die_29 : decode cX8_die 29 = .ok (.iload 4, 2) := by decide +kernel
theorem dX8_die_31 : decode cX8_die 31 = .ok (.bipush 10, 2) := by decide +kernel
theorem dX8_die_33 : decode cX8_die 33 = .ok (.if_icmp .ge 128, 3) := by decide +kernel
theorem dX8_die_36 : decode cX8_die 36 = .ok (.aload_n 0, 1) := by decide +kernel
theorem dX8_die_37 : decode cX8_die 37 = .ok (.iload_n 1, 1) := by decide +kernel
theorem dX8_die_38 : decode cX8_die 38 = .ok (.iload 4, 2) := by decide +kernel
theorem dX8_die_40 : decode cX8_die 40 = .ok (.invokevirtual 194, 3) := by decide +kernel
theorem dX8_die_43 : decode cX8_die 43 = .ok (.istore 5, 2) := by decide +kernel
theorem dX8_die_45 : decode cX8_die 45 = .ok (.iload_n 2, 1) := by decide +kernel
theorem dX8_die_46 : decode cX8_die 46 = .ok (.iconst (-1), 1) := by decide +kernel
theorem dX8_die_47 : decode cX8_die 47 = .ok (.if_icmp .ne 7, 3) := by decide +kernel
theorem dX8_die_50 : decode cX8_die 50 = .ok (.iconst 0, 1) := by decide +kernel
theorem dX8_die_51 : decode cX8_die 51 = .ok (.goto 13, 3) := by decide +kernel
theorem dX8_die_54 : decode cX8_die 54 = .ok (.iload 5, 2) := by decide +kernel
theorem dX8_die_56 : decode cX8_die 56 = .ok (.aload_n 0, 1) := by decide +kernel
theorem dX8_die_57 : decode cX8_die 57 = .ok (.getfield 133, 3) := by decide +kernel
theorem dX8_die_60 : decode cX8_die 60 = .ok (.imul, 1) := by decide +kernel
theorem dX8_die_61 : decode cX8_die 61 = .ok (.bipush 12, 2) := by decide +kernel
theorem dX8_die_63 : decode cX8_die 63 = .ok (.idiv, 1) := by decide +kernel
theorem dX8_die_64 : decode cX8_die 64 = .ok (.istore 6, 2) := by decide +kernel
theorem dX8_die_66 : decode cX8_die 66 = .ok (.iconst 0, 1) := by decide +kernel
theorem dX8_die_67 : decode cX8_die 67 = .ok (.istore 7, 2) := by decide +kernel
theorem dX8_die_69 : decode cX8_die 69 = .ok (.iload 7, 2) := by decide +kernel
theorem dX8_die_71 : decode cX8_die 71 = .ok (.iload 6, 2) := by decide +kernel
theorem dX8_die_73 : decode cX8_die 73 = .ok (.if_icmp .ge 35, 3) := by decide +kernel
theorem dX8_die_76 : decode cX8_die 76 = .ok (.aload_n 0, 1) := by decide +kernel
theorem dX8_die_77 : decode cX8_die 77 = .ok (.aload_n 0, 1) := by decide +kernel
theorem dX8_die_78 : decode cX8_die 78 = .ok (.getfield 92, 3) := by decide +kernel
theorem dX8_die_81 : decode cX8_die 81 = .ok (.iload 7, 2) := by decide +kernel
theorem dX8_die_83 : decode cX8_die 83 = .ok (.iaload, 1) := by decide +kernel
theorem dX8_die_84 : decode cX8_die 84 = .ok (.iload_n 2, 1) := by decide +kernel
theorem dX8_die_85 : decode cX8_die 85 = .ok (.iconst 3, 1) := by decide +kernel
theorem dX8_die_86 : decode cX8_die 86 = .ok (.invokevirtual 95, 3) := by decide +kernel
theorem dX8_die_89 : decode cX8_die 89 = .ok (.aload_n 0, 1) := by decide +kernel
theorem dX8_die_90 : decode cX8_die 90 = .ok (.getfield 65, 3) := by decide +kernel
theorem dX8_die_93 : decode cX8_die 93 = .ok (.aload_n 0, 1) := by decide +kernel
theorem dX8_die_94 : decode cX8_die 94 = .ok (.getfield 92, 3) := by decide +kernel
theorem dX8_die_97 : decode cX8_die 97 = .ok (.iload 7, 2) := by decide +kernel
theorem dX8_die_99 : decode cX8_die 99 = .ok (.iaload, 1) := by decide +kernel
theorem dX8_die_100 : decode cX8_die 100 = .ok (.iload_n 1, 1) := by decide +kernel
theorem dX8_die_101 : decode cX8_die 101 = .ok (.iastore, 1) := by decide +kernel
theorem dX8_die_102 : decode cX8_die 102 = .ok (.iinc 7 1, 3) := by decide +kernel
theorem dX8_die_105 : decode cX8_die 105 = .ok (.goto (-36), 3) := by decide +kernel
theorem dX8_die_108 : decode cX8_die 108 = .ok (.iload 5, 2) := by decide +kernel
theorem dX8_die_110 : decode cX8_die 110 = .ok (.iload 6, 2) := by decide +kernel
theorem dX8_die_112 : decode cX8_die 112 = .ok (.if_icmp .le 12, 3) := by decide +kernel
theorem dX8_die_115 : decode cX8_die 115 = .ok (.aload_n 0, 1) := by decide +kernel
theorem dX8_die_116 : decode cX8_die 116 = .ok (.iload_n 1, 1) := by decide +kernel
theorem dX8_die_117 : decode cX8_die 117 = .ok (.iload 6, 2) := by decide +kernel
theorem dX8_die_119 : decode cX8_die 119 = .ok (.iload 5, 2) := by decide +kernel
theorem dX8_die_121 : decode cX8_die 121 = .ok (.invokevirtual 185, 3) := by decide +kernel
theorem dX8_die_124 : decode cX8_die 124 = .ok (.iload 5, 2) := by decide +kernel
theorem dX8_die_126 : decode cX8_die 126 = .ok (.ifCond .le 16, 3) := by decide +kernel
theorem dX8_die_129 : decode cX8_die 129 = .ok (.aload_n 0, 1) := by decide +kernel
theorem dX8_die_130 : decode cX8_die 130 = .ok (.getfield 25, 3) := by decide +kernel
theorem dX8_die_133 : decode cX8_die 133 = .ok (.iload_n 1, 1) := by decide +kernel
theorem dX8_die_134 : decode cX8_die 134 = .ok (.dup2, 1) := by decide +kernel
theorem dX8_die_135 : decode cX8_die 135 = .ok (.iaload, 1) := by decide +kernel
theorem dX8_die_136 : decode cX8_die 136 = .ok (.aload_n 0, 1) := by decide +kernel
theorem dX8_die_137 : decode cX8_die 137 = .ok (.getfield 142, 3) := by decide +kernel
theorem dX8_die_140 : decode cX8_die 140 = .ok (.iadd, 1) := by decide +kernel
theorem dX8_die_141 : decode cX8_die 141 = .ok (.iastore, 1) := by decide +kernel
theorem dX8_die_142 : decode cX8_die 142 = .ok (.iload_n 3, 1) := by decide +kernel
theorem dX8_die_143 : decode cX8_die 143 = .ok (.iload 5, 2) := by decide +kernel
theorem dX8_die_145 : decode cX8_die 145 = .ok (.aload_n 0, 1) := by decide +kernel
theorem dX8_die_146 : decode cX8_die 146 = .ok (.iload_n 1, 1) := by decide +kernel
theorem dX8_die_147 : decode cX8_die 147 = .ok (.iload 4, 2) := by decide +kernel
theorem dX8_die_149 : decode cX8_die 149 = .ok (.invokevirtual 191, 3) := by decide +kernel
theorem dX8_die_152 : decode cX8_die 152 = .ok (.iadd, 1) := by decide +kernel
theorem dX8_die_153 : decode cX8_die 153 = .ok (.iadd, 1) := by decide +kernel
theorem dX8_die_154 : decode cX8_die 154 = .ok (.istore_n 3, 1) := by decide +kernel
theorem dX8_die_155 : decode cX8_die 155 = .ok (.iinc 4 1, 3) := by decide +kernel
theorem dX8_die_158 : decode cX8_die 158 = .ok (.goto (-129), 3) := by decide +kernel
theorem dX8_die_161 : decode cX8_die 161 = .ok (.iload_n 2, 1) := by decide +kernel
theorem dX8_die_162 : decode cX8_die 162 = .ok (.iconst (-1), 1) := by decide +kernel
theorem dX8_die_163 : decode cX8_die 163 = .ok (.if_icmp .eq 10, 3) := by decide +kernel
theorem dX8_die_166 : decode cX8_die 166 = .ok (.aload_n 0, 1) := by decide +kernel
theorem dX8_die_167 : decode cX8_die 167 = .ok (.getfield 19, 3) := by decide +kernel
theorem dX8_die_170 : decode cX8_die 170 = .ok (.iload_n 2, 1) := by decide +kernel
theorem dX8_die_171 : decode cX8_die 171 = .ok (.iconst (-1), 1) := by decide +kernel
theorem dX8_die_172 : decode cX8_die 172 = .ok (.iastore, 1) := by decide +kernel
theorem dX8_die_173 : decode cX8_die 173 = .ok (.aload_n 0, 1) := by decide +kernel
theorem dX8_die_174 : decode cX8_die 174 = .ok (.getfield 19, 3) := by decide +kernel
theorem dX8_die_177 : decode cX8_die 177 = .ok (.iload_n 1, 1) := by decide +kernel
theorem dX8_die_178 : decode cX8_die 178 = .ok (.iconst (-1), 1) := by decide +kernel
theorem dX8_die_179 : decode cX8_die 179 = .ok (.iastore, 1) := by decide +kernel
theorem dX8_die_180 : decode cX8_die 180 = .ok (.iload_n 3, 1) := by decide +kernel
theorem dX8_die_181 : decode cX8_die 181 = .ok (.ireturn, 1) := by decide +kernel
theorem dX8_moves_0 : decode cX8_moves 0 = .ok (.iload_n 1, 1) := by decide +kernel
theorem dX8_moves_1 : decode cX8_moves 1 = .ok (.iconst 0, 1) := by decide +kernel
theorem dX8_moves_2 : decode cX8_moves 2 = .ok (.bipush 9, 2) := by decide +kernel
theorem dX8_moves_4 : decode cX8_moves 4 = .ok (.invokestatic 103, 3) := by decide +kernel
theorem dX8_moves_7 : decode cX8_moves 7 = .ok (.ifCond .ne 5, 3) := by decide +kernel
theorem dX8_moves_10 : decode cX8_moves 10 = .ok (.iconst 0, 1) := by decide +kernel
theorem dX8_moves_11 : decode cX8_moves 11 = .ok (.ireturn, 1) := by decide +kernel
theorem dX8_moves_12 : decode cX8_moves 12 = .ok (.aload_n 0, 1) := by decide +kernel
theorem dX8_moves_13 : decode cX8_moves 13 = .ok (.iload_n 3, 1) := by decide +kernel
theorem dX8_moves_14 : decode cX8_moves 14 = .ok (.iload_n 1, 1) := by decide +kernel
theorem dX8_moves_15 : decode cX8_moves 15 = .ok (.invokevirtual 194, 3) := by decide +kernel
theorem dX8_moves_18 : decode cX8_moves 18 = .ok (.istore 6, 2) := by decide +kernel
theorem dX8_moves_20 : decode cX8_moves 20 = .ok (.iload_n 2, 1) := by decide +kernel
theorem dX8_moves_21 : decode cX8_moves 21 = .ok (.iconst 1, 1) := by decide +kernel
theorem dX8_moves_22 : decode cX8_moves 22 = .ok (.iload 6, 2) := by decide +kernel
theorem dX8_moves_24 : decode cX8_moves 24 = .ok (.invokestatic 103, 3) := by decide +kernel
theorem dX8_moves_27 : decode cX8_moves 27 = .ok (.ifCond .ne 5, 3) := by decide +kernel
theorem dX8_moves_30 : decode cX8_moves 30 = .ok (.iconst 0, 1) := by decide +kernel
theorem dX8_moves_31 : decode cX8_moves 31 = .ok (.ireturn, 1) := by decide +kernel
theorem dX8_moves_32 : decode cX8_moves 32 = .ok (.iconst 0, 1) := by decide +kernel
theorem dX8_moves_33 : decode cX8_moves 33 = .ok (.istore 7, 2) := by decide +kernel
theorem dX8_moves_35 : decode cX8_moves 35 = .ok (.iload 7, 2) := by decide +kernel
theorem dX8_moves_37 : decode cX8_moves 37 = .ok (.iload_n 2, 1) := by decide +kernel
theorem dX8_moves_38 : decode cX8_moves 38 = .ok (.if_icmp .ge 24, 3) := by decide +kernel
theorem dX8_moves_41 : decode cX8_moves 41 = .ok (.aload_n 0, 1) := by decide +kernel
theorem dX8_moves_42 : decode cX8_moves 42 = .ok (.aload_n 0, 1) := by decide +kernel
theorem dX8_moves_43 : decode cX8_moves 43 = .ok (.getfield 92, 3) := by decide +kernel
theorem dX8_moves_46 : decode cX8_moves 46 = .ok (.iload 7, 2) := by decide +kernel
theorem dX8_moves_48 : decode cX8_moves 48 = .ok (.iaload, 1) := by decide +kernel
theorem dX8_moves_49 : decode cX8_moves 49 = .ok (.iload 4, 2) := by decide +kernel
theorem dX8_moves_51 : decode cX8_moves 51 = .ok (.iload 5, 2) := by decide +kernel
theorem dX8_moves_53 : decode cX8_moves 53 = .ok (.invokevirtual 95, 3) := by decide +kernel
theorem dX8_moves_56 : decode cX8_moves 56 = .ok (.iinc 7 1, 3) := by decide +kernel
theorem dX8_moves_59 : decode cX8_moves 59 = .ok (.goto (-24), 3) := by decide +kernel
theorem dX8_moves_62 : decode cX8_moves 62 = .ok (.iconst 1, 1) := by decide +kernel
theorem dX8_moves_63 : decode cX8_moves 63 = .ok (.ireturn, 1) := by decide +kernel
theorem dX8_grant_0 : decode cX8_grant 0 = .ok (.aload_n 0, 1) := by decide +kernel
theorem dX8_grant_1 : decode cX8_grant 1 = .ok (.iload_n 3, 1) := by decide +kernel
theorem dX8_grant_2 : decode cX8_grant 2 = .ok (.invokevirtual 188, 3) := by decide +kernel
theorem dX8_grant_5 : decode cX8_grant 5 = .ok (.ifCond .eq 19, 3) := by decide +kernel
theorem dX8_grant_8 : decode cX8_grant 8 = .ok (.aload_n 0, 1) := by decide +kernel
theorem dX8_grant_9 : decode cX8_grant 9 = .ok (.iload_n 1, 1) := by decide +kernel
theorem dX8_grant_10 : decode cX8_grant 10 = .ok (.iload_n 2, 1) := by decide +kernel
theorem dX8_grant_11 : decode cX8_grant 11 = .ok (.iconst (-1), 1) := by decide +kernel
theorem dX8_grant_12 : decode cX8_grant 12 = .ok (.iload_n 3, 1) := by decide +kernel
theorem dX8_grant_13 : decode cX8_grant 13 = .ok (.iconst 1, 1) := by decide +kernel
theorem dX8_grant_14 : decode cX8_grant 14 = .ok (.invokevirtual 197, 3) := by decide +kernel
theorem dX8_grant_17 : decode cX8_grant 17 = .ok (.ifCond .eq 7, 3) := by decide +kernel
theorem dX8_grant_20 : decode cX8_grant 20 = .ok (.iconst 1, 1) := by decide +kernel
theorem dX8_grant_21 : decode cX8_grant 21 = .ok (.goto 4, 3) := by decide +kernel
theorem dX8_grant_24 : decode cX8_grant 24 = .ok (.iconst 0, 1) := by decide +kernel
theorem dX8_grant_25 : decode cX8_grant 25 = .ok (.ireturn, 1) := by decide +kernel
theorem dX8_rod_0 : decode cX8_rod 0 = .ok (.aload_n 0, 1) := by decide +kernel
theorem dX8_rod_1 : decode cX8_rod 1 = .ok (.iload_n 3, 1) := by decide +kernel
theorem dX8_rod_2 : decode cX8_rod 2 = .ok (.invokevirtual 188, 3) := by decide +kernel
theorem dX8_rod_5 : decode cX8_rod 5 = .ok (.ifCond .eq 31, 3) := by decide +kernel
theorem dX8_rod_8 : decode cX8_rod 8 = .ok (.aload_n 0, 1) := by decide +kernel
theorem dX8_rod_9 : decode cX8_rod 9 = .ok (.iload 4, 2) := by decide +kernel
theorem dX8_rod_11 : decode cX8_rod 11 = .ok (.invokevirtual 188, 3) := by decide +kernel
theorem dX8_rod_14 : decode cX8_rod 14 = .ok (.ifCond .eq 22, 3) := by decide +kernel
theorem dX8_rod_17 : decode cX8_rod 17 = .ok (.iload_n 3, 1) := by decide +kernel
theorem dX8_rod_18 : decode cX8_rod 18 = .ok (.iload 4, 2) := by decide +kernel
theorem dX8_rod_20 : decode cX8_rod 20 = .ok (.if_icmp .eq 16, 3) := by decide +kernel
theorem dX8_rod_23 : decode cX8_rod 23 = .ok (.aload_n 0, 1) := by decide +kernel
theorem dX8_rod_24 : decode cX8_rod 24 = .ok (.iload_n 1, 1) := by decide +kernel
theorem dX8_rod_25 : decode cX8_rod 25 = .ok (.iload_n 2, 1) := by decide +kernel
theorem dX8_rod_26 : decode cX8_rod 26 = .ok (.iload_n 3, 1) := by decide +kernel
theorem dX8_rod_27 : decode cX8_rod 27 = .ok (.iload 4, 2) := by decide +kernel
theorem dX8_rod_29 : decode cX8_rod 29 = .ok (.iconst 4, 1) := by decide +kernel
theorem dX8_rod_30 : decode cX8_rod 30 = .ok (.invokevirtual 197, 3) := by decide +kernel
theorem dX8_rod_33 : decode cX8_rod 33 = .ok (.ifCond .ne 5, 3) := by decide +kernel
theorem dX8_rod_36 : decode cX8_rod 36 = .ok (.iconst 0, 1) := by decide +kernel
theorem dX8_rod_37 : decode cX8_rod 37 = .ok (.ireturn, 1) := by decide +kernel
theorem dX8_rod_38 : decode cX8_rod 38 = .ok (.aload_n 0, 1) := by decide +kernel
theorem dX8_rod_39 : decode cX8_rod 39 = .ok (.getfield 25, 3) := by decide +kernel
theorem dX8_rod_42 : decode cX8_rod 42 = .ok (.iload 4, 2) := by decide +kernel
theorem dX8_rod_44 : decode cX8_rod 44 = .ok (.dup2, 1) := by decide +kernel
theorem dX8_rod_45 : decode cX8_rod 45 = .ok (.iaload, 1) := by decide +kernel
theorem dX8_rod_46 : decode cX8_rod 46 = .ok (.iload_n 2, 1) := by decide +kernel
theorem dX8_rod_47 : decode cX8_rod 47 = .ok (.aload_n 0, 1) := by decide +kernel
theorem dX8_rod_48 : decode cX8_rod 48 = .ok (.getfield 145, 3) := by decide +kernel
theorem dX8_rod_51 : decode cX8_rod 51 = .ok (.imul, 1) := by decide +kernel
theorem dX8_rod_52 : decode cX8_rod 52 = .ok (.iadd, 1) := by decide +kernel
theorem dX8_rod_53 : decode cX8_rod 53 = .ok (.iastore, 1) := by decide +kernel
theorem dX8_rod_54 : decode cX8_rod 54 = .ok (.iconst 1, 1) := by decide +kernel
theorem dX8_rod_55 : decode cX8_rod 55 = .ok (.ireturn, 1) := by decide +kernel
theorem dX8_held_0 : decode cX8_held 0 = .ok (.iconst 0, 1) := by decide +kernel
theorem dX8_held_1 : decode cX8_held 1 = .ok (.istore_n 3, 1) := by decide +kernel
theorem dX8_held_2 : decode cX8_held 2 = .ok (.iconst 0, 1) := by decide +kernel
theorem dX8_held_3 : decode cX8_held 3 = .ok (.istore 4, 2) := by decide +kernel
theorem dX8_held_5 : decode cX8_held 5 = .ok (.iload 4, 2) := by decide +kernel
theorem dX8_held_7 : decode cX8_held 7 = .ok (.bipush 120, 2) := by decide +kernel
theorem dX8_held_9 : decode cX8_held 9 = .ok (.if_icmp .ge 43, 3) := by decide +kernel
theorem dX8_held_12 : decode cX8_held 12 = .ok (.iload_n 3, 1) := by decide +kernel
theorem dX8_held_13 : decode cX8_held 13 = .ok (.aload_n 0, 1) := by decide +kernel
theorem dX8_held_14 : decode cX8_held 14 = .ok (.getfield 62, 3) := by decide +kernel
theorem dX8_held_17 : decode cX8_held 17 = .ok (.iload 4, 2) := by decide +kernel
theorem dX8_held_19 : decode cX8_held 19 = .ok (.iaload, 1) := by decide +kernel
theorem dX8_held_20 : decode cX8_held 20 = .ok (.iload_n 1, 1) := by decide +kernel
theorem dX8_held_21 : decode cX8_held 21 = .ok (.if_icmp .ne 22, 3) := by decide +kernel
theorem dX8_held_24 : decode cX8_held 24 = .ok (.iload_n 2, 1) := by decide +kernel
theorem dX8_held_25 : decode cX8_held 25 = .ok (.ifCond .eq 14, 3) := by decide +kernel
theorem dX8_held_28 : decode cX8_held 28 = .ok (.aload_n 0, 1) := by decide +kernel
theorem dX8_held_29 : decode cX8_held 29 = .ok (.getfield 65, 3) := by decide +kernel
theorem dX8_held_32 : decode cX8_held 32 = .ok (.iload 4, 2) := by decide +kernel
theorem dX8_held_34 : decode cX8_held 34 = .ok (.iaload, 1) := by decide +kernel
theorem dX8_held_35 : decode cX8_held 35 = .ok (.iconst (-1), 1) := by decide +kernel
theorem dX8_held_36 : decode cX8_held 36 = .ok (.if_icmp .eq 7, 3) := by decide +kernel
theorem dX8_held_39 : decode cX8_held 39 = .ok (.iconst 1, 1) := by decide +kernel
theorem dX8_held_40 : decode cX8_held 40 = .ok (.goto 4, 3) := by decide +kernel
theorem dX8_held_43 : decode cX8_held 43 = .ok (.iconst 0, 1) := by decide +kernel
theorem dX8_held_44 : decode cX8_held 44 = .ok (.iadd, 1) := by decide +kernel
theorem dX8_held_45 : decode cX8_held 45 = .ok (.istore_n 3, 1) := by decide +kernel
theorem dX8_held_46 : decode cX8_held 46 = .ok (.iinc 4 1, 3) := by decide +kernel
theorem dX8_held_49 : decode cX8_held 49 = .ok (.goto (-44), 3) := by decide +kernel
theorem dX8_held_52 : decode cX8_held 52 = .ok (.iload_n 3, 1) := by decide +kernel
theorem dX8_held_53 : decode cX8_held 53 = .ok (.ireturn, 1) := by decide +kernel
theorem dX8_weeks_0 : decode cX8_weeks 0 = .ok (.iload_n 1, 1) := by decide +kernel
theorem dX8_weeks_1 : decode cX8_weeks 1 = .ok (.iconst 0, 1) := by decide +kernel
theorem dX8_weeks_2 : decode cX8_weeks 2 = .ok (.bipush 60, 2) := by decide +kernel
theorem dX8_weeks_4 : decode cX8_weeks 4 = .ok (.invokestatic 103, 3) := by decide +kernel
theorem dX8_weeks_7 : decode cX8_weeks 7 = .ok (.ifCond .eq 17, 3) := by decide +kernel
theorem dX8_weeks_10 : decode cX8_weeks 10 = .ok (.aload_n 0, 1) := by decide +kernel
theorem dX8_weeks_11 : decode cX8_weeks 11 = .ok (.getfield 118, 3) := by decide +kernel
theorem dX8_weeks_14 : decode cX8_weeks 14 = .ok (.bipush 7, 2) := by decide +kernel
theorem dX8_weeks_16 : decode cX8_weeks 16 = .ok (.iload_n 1, 1) := by decide +kernel
theorem dX8_weeks_17 : decode cX8_weeks 17 = .ok (.imul, 1) := by decide +kernel
theorem dX8_weeks_18 : decode cX8_weeks 18 = .ok (.iadd, 1) := by decide +kernel
theorem dX8_weeks_19 : decode cX8_weeks 19 = .ok (.ldc 201, 2) := by decide +kernel
theorem dX8_weeks_21 : decode cX8_weeks 21 = .ok (.if_icmp .le 5, 3) := by decide +kernel
theorem dX8_weeks_24 : decode cX8_weeks 24 = .ok (.iconst (-1), 1) := by decide +kernel
theorem dX8_weeks_25 : decode cX8_weeks 25 = .ok (.ireturn, 1) := by decide +kernel
theorem dX8_weeks_26 : decode cX8_weeks 26 = .ok (.iconst 0, 1) := by decide +kernel
theorem dX8_weeks_27 : decode cX8_weeks 27 = .ok (.istore_n 2, 1) := by decide +kernel
theorem dX8_weeks_28 : decode cX8_weeks 28 = .ok (.iload_n 2, 1) := by decide +kernel
theorem dX8_weeks_29 : decode cX8_weeks 29 = .ok (.iload_n 1, 1) := by decide +kernel
theorem dX8_weeks_30 : decode cX8_weeks 30 = .ok (.if_icmp .ge 111, 3) := by decide +kernel
theorem dX8_weeks_33 : decode cX8_weeks 33 = .ok (.iconst 0, 1) := by decide +kernel
theorem dX8_weeks_34 : decode cX8_weeks 34 = .ok (.istore_n 3, 1) := by decide +kernel
theorem dX8_weeks_35 : decode cX8_weeks 35 = .ok (.iload_n 3, 1) := by decide +kernel
theorem dX8_weeks_36 : decode cX8_weeks 36 = .ok (.aload_n 0, 1) := by decide +kernel
theorem dX8_weeks_37 : decode cX8_weeks 37 = .ok (.getfield 99, 3) := by decide +kernel
theorem dX8_weeks_40 : decode cX8_weeks 40 = .ok (.if_icmp .ge 84, 3) := by decide +kernel
theorem dX8_weeks_43 : decode cX8_weeks 43 = .ok (.aload_n 0, 1) := by decide +kernel
theorem dX8_weeks_44 : decode cX8_weeks 44 = .ok (.getfield 136, 3) := by decide +kernel
theorem dX8_weeks_47 : decode cX8_weeks 47 = .ok (.aload_n 0, 1) := by decide +kernel
theorem dX8_weeks_48 : decode cX8_weeks 48 = .ok (.iload_n 3, 1) := by decide +kernel
theorem dX8_weeks_49 : decode cX8_weeks 49 = .ok (.iconst 0, 1) := by decide +kernel
theorem dX8_weeks_50 : decode cX8_weeks 50 = .ok (.invokevirtual 202, 3) := by decide +kernel
theorem dX8_weeks_53 : decode cX8_weeks 53 = .ok (.imul, 1) := by decide +kernel
theorem dX8_weeks_54 : decode cX8_weeks 54 = .ok (.istore 4, 2) := by decide +kernel
theorem dX8_weeks_56 : decode cX8_weeks 56 = .ok (.aload_n 0, 1) := by decide +kernel
theorem dX8_weeks_57 : decode cX8_weeks 57 = .ok (.getfield 40, 3) := by decide +kernel
theorem dX8_weeks_60 : decode cX8_weeks 60 = .ok (.iload_n 3, 1) := by decide +kernel
theorem dX8_weeks_61 : decode cX8_weeks 61 = .ok (.iaload, 1) := by decide +kernel
theorem dX8_weeks_62 : decode cX8_weeks 62 = .ok (.ifCond .le 17, 3) := by decide +kernel
theorem dX8_weeks_65 : decode cX8_weeks 65 = .ok (.aload_n 0, 1) := by decide +kernel
theorem dX8_weeks_66 : decode cX8_weeks 66 = .ok (.getfield 37, 3) := by decide +kernel
theorem dX8_weeks_69 : decode cX8_weeks 69 = .ok (.iload_n 3, 1) := by decide +kernel
theorem dX8_weeks_70 : decode cX8_weeks 70 = .ok (.dup2, 1) := by decide +kernel
theorem dX8_weeks_71 : decode cX8_weeks 71 = .ok (.iaload, 1) := by decide +kernel
theorem dX8_weeks_72 : decode cX8_weeks 72 = .ok (.iload 4, 2) := by decide +kernel
theorem dX8_weeks_74 : decode cX8_weeks 74 = .ok (.iadd, 1) := by decide +kernel
theorem dX8_weeks_75 : decode cX8_weeks 75 = .ok (.iastore, 1) := by decide +kernel
theorem dX8_weeks_76 : decode cX8_weeks 76 = .ok (.goto 14, 3) := by decide +kernel
theorem dX8_weeks_79 : decode cX8_weeks 79 = .ok (.aload_n 0, 1) := by decide +kernel
theorem dX8_weeks_80 : decode cX8_weeks 80 = .ok (.getfield 28, 3) := by decide +kernel
theorem dX8_weeks_83 : decode cX8_weeks 83 = .ok (.iload_n 3, 1) := by decide +kernel
theorem dX8_weeks_84 : decode cX8_weeks 84 = .ok (.dup2, 1) := by decide +kernel
theorem dX8_weeks_85 : decode cX8_weeks 85 = .ok (.iaload, 1) := by decide +kernel
theorem dX8_weeks_86 : decode cX8_weeks 86 = .ok (.iload 4, 2) := by decide +kernel
theorem dX8_weeks_88 : decode cX8_weeks 88 = .ok (.iadd, 1) := by decide +kernel
theorem dX8_weeks_89 : decode cX8_weeks 89 = .ok (.iastore, 1) := by decide +kernel
theorem dX8_weeks_90 : decode cX8_weeks 90 = .ok (.aload_n 0, 1) := by decide +kernel
theorem dX8_weeks_91 : decode cX8_weeks 91 = .ok (.getfield 43, 3) := by decide +kernel
theorem dX8_weeks_94 : decode cX8_weeks 94 = .ok (.iload_n 3, 1) := by decide +kernel
theorem dX8_weeks_95 : decode cX8_weeks 95 = .ok (.baload, 1) := by decide +kernel
theorem dX8_weeks_96 : decode cX8_weeks 96 = .ok (.ifCond .eq 22, 3) := by decide +kernel
theorem dX8_weeks_99 : decode cX8_weeks 99 = .ok (.aload_n 0, 1) := by decide +kernel
theorem dX8_weeks_100 : decode cX8_weeks 100 = .ok (.getfield 40, 3) := by decide +kernel
theorem dX8_weeks_103 : decode cX8_weeks 103 = .ok (.iload_n 3, 1) := by decide +kernel
theorem dX8_weeks_104 : decode cX8_weeks 104 = .ok (.iaload, 1) := by decide +kernel
theorem dX8_weeks_105 : decode cX8_weeks 105 = .ok (.ifCond .le 13, 3) := by decide +kernel
theorem dX8_weeks_108 : decode cX8_weeks 108 = .ok (.aload_n 0, 1) := by decide +kernel
theorem dX8_weeks_109 : decode cX8_weeks 109 = .ok (.getfield 40, 3) := by decide +kernel
theorem dX8_weeks_112 : decode cX8_weeks 112 = .ok (.iload_n 3, 1) := by decide +kernel
theorem dX8_weeks_113 : decode cX8_weeks 113 = .ok (.dup2, 1) := by decide +kernel
theorem dX8_weeks_114 : decode cX8_weeks 114 = .ok (.iaload, 1) := by decide +kernel
theorem dX8_weeks_115 : decode cX8_weeks 115 = .ok (.iconst 1, 1) := by decide +kernel
theorem dX8_weeks_116 : decode cX8_weeks 116 = .ok (.isub, 1) := by decide +kernel
theorem dX8_weeks_117 : decode cX8_weeks 117 = .ok (.iastore, 1) := by decide +kernel
theorem dX8_weeks_118 : decode cX8_weeks 118 = .ok (.iinc 3 1, 3) := by decide +kernel
theorem dX8_weeks_121 : decode cX8_weeks 121 = .ok (.goto (-86), 3) := by decide +kernel
theorem dX8_weeks_124 : decode cX8_weeks 124 = .ok (.aload_n 0, 1) := by decide +kernel
theorem dX8_weeks_125 : decode cX8_weeks 125 = .ok (.dup, 1) := by decide +kernel
theorem dX8_weeks_126 : decode cX8_weeks 126 = .ok (.getfield 118, 3) := by decide +kernel
theorem dX8_weeks_129 : decode cX8_weeks 129 = .ok (.bipush 7, 2) := by decide +kernel
theorem dX8_weeks_131 : decode cX8_weeks 131 = .ok (.iadd, 1) := by decide +kernel
theorem dX8_weeks_132 : decode cX8_weeks 132 = .ok (.putfield 118, 3) := by decide +kernel
theorem dX8_weeks_135 : decode cX8_weeks 135 = .ok (.iinc 2 1, 3) := by decide +kernel
theorem dX8_weeks_138 : decode cX8_weeks 138 = .ok (.goto (-110), 3) := by decide +kernel
theorem dX8_weeks_141 : decode cX8_weeks 141 = .ok (.aload_n 0, 1) := by decide +kernel
theorem dX8_weeks_142 : decode cX8_weeks 142 = .ok (.getfield 118, 3) := by decide +kernel
theorem dX8_weeks_145 : decode cX8_weeks 145 = .ok (.ireturn, 1) := by decide +kernel
theorem dX8_sick_0 : decode cX8_sick 0 = .ok (.aload_n 0, 1) := by decide +kernel
theorem dX8_sick_1 : decode cX8_sick 1 = .ok (.iload_n 1, 1) := by decide +kernel
theorem dX8_sick_2 : decode cX8_sick 2 = .ok (.invokevirtual 188, 3) := by decide +kernel
theorem dX8_sick_5 : decode cX8_sick 5 = .ok (.ifCond .eq 13, 3) := by decide +kernel
theorem dX8_sick_8 : decode cX8_sick 8 = .ok (.iload_n 2, 1) := by decide +kernel
theorem dX8_sick_9 : decode cX8_sick 9 = .ok (.iconst 0, 1) := by decide +kernel
theorem dX8_sick_10 : decode cX8_sick 10 = .ok (.bipush 60, 2) := by decide +kernel
theorem dX8_sick_12 : decode cX8_sick 12 = .ok (.invokestatic 103, 3) := by decide +kernel
theorem dX8_sick_15 : decode cX8_sick 15 = .ok (.ifCond .ne 5, 3) := by decide +kernel
theorem dX8_sick_18 : decode cX8_sick 18 = .ok (.iconst 0, 1) := by decide +kernel
theorem dX8_sick_19 : decode cX8_sick 19 = .ok (.ireturn, 1) := by decide +kernel
theorem dX8_sick_20 : decode cX8_sick 20 = .ok (.aload_n 0, 1) := by decide +kernel
theorem dX8_sick_21 : decode cX8_sick 21 = .ok (.getfield 40, 3) := by decide +kernel
theorem dX8_sick_24 : decode cX8_sick 24 = .ok (.iload_n 1, 1) := by decide +kernel
theorem dX8_sick_25 : decode cX8_sick 25 = .ok (.iload_n 2, 1) := by decide +kernel
theorem dX8_sick_26 : decode cX8_sick 26 = .ok (.iastore, 1) := by decide +kernel
theorem dX8_sick_27 : decode cX8_sick 27 = .ok (.iconst 1, 1) := by decide +kernel
theorem dX8_sick_28 : decode cX8_sick 28 = .ok (.ireturn, 1) := by decide +kernel
theorem dX8_works_0 : decode cX8_works 0 = .ok (.aload_n 0, 1) := by decide +kernel
theorem dX8_works_1 : decode cX8_works 1 = .ok (.iload_n 1, 1) := by decide +kernel
theorem dX8_works_2 : decode cX8_works 2 = .ok (.invokevirtual 107, 3) := by decide +kernel
theorem dX8_works_5 : decode cX8_works 5 = .ok (.ifCond .eq 17, 3) := by decide +kernel
theorem dX8_works_8 : decode cX8_works 8 = .ok (.iload_n 2, 1) := by decide +kernel
theorem dX8_works_9 : decode cX8_works 9 = .ok (.iconst 1, 1) := by decide +kernel
theorem dX8_works_10 : decode cX8_works 10 = .ok (.aload_n 0, 1) := by decide +kernel
theorem dX8_works_11 : decode cX8_works 11 = .ok (.getfield 28, 3) := by decide +kernel
theorem dX8_works_14 : decode cX8_works 14 = .ok (.iload_n 1, 1) := by decide +kernel
theorem dX8_works_15 : decode cX8_works 15 = .ok (.iaload, 1) := by decide +kernel
theorem dX8_works_16 : decode cX8_works 16 = .ok (.invokestatic 103, 3) := by decide +kernel
theorem dX8_works_19 : decode cX8_works 19 = .ok (.ifCond .ne 5, 3) := by decide +kernel
theorem dX8_works_22 : decode cX8_works 22 = .ok (.iconst (-1), 1) := by decide +kernel
theorem dX8_works_23 : decode cX8_works 23 = .ok (.ireturn, 1) := by decide +kernel
theorem dX8_works_24 : decode cX8_works 24 = .ok (.aload_n 0, 1) := by decide +kernel
theorem dX8_works_25 : decode cX8_works 25 = .ok (.getfield 28, 3) := by decide +kernel
theorem dX8_works_28 : decode cX8_works 28 = .ok (.iload_n 1, 1) := by decide +kernel
theorem dX8_works_29 : decode cX8_works 29 = .ok (.dup2, 1) := by decide +kernel
theorem dX8_works_30 : decode cX8_works 30 = .ok (.iaload, 1) := by decide +kernel
theorem dX8_works_31 : decode cX8_works 31 = .ok (.iload_n 2, 1) := by decide +kernel
theorem dX8_works_32 : decode cX8_works 32 = .ok (.isub, 1) := by decide +kernel
theorem dX8_works_33 : decode cX8_works 33 = .ok (.iastore, 1) := by decide +kernel
theorem dX8_works_34 : decode cX8_works 34 = .ok (.iload_n 3, 1) := by decide +kernel
theorem dX8_works_35 : decode cX8_works 35 = .ok (.ifCond .eq 26, 3) := by decide +kernel
theorem dX8_works_38 : decode cX8_works 38 = .ok (.aload_n 0, 1) := by decide +kernel
theorem dX8_works_39 : decode cX8_works 39 = .ok (.getfield 34, 3) := by decide +kernel
theorem dX8_works_42 : decode cX8_works 42 = .ok (.iload_n 1, 1) := by decide +kernel
theorem dX8_works_43 : decode cX8_works 43 = .ok (.dup2, 1) := by decide +kernel
theorem dX8_works_44 : decode cX8_works 44 = .ok (.iaload, 1) := by decide +kernel
theorem dX8_works_45 : decode cX8_works 45 = .ok (.iload_n 2, 1) := by decide +kernel
theorem dX8_works_46 : decode cX8_works 46 = .ok (.iadd, 1) := by decide +kernel
theorem dX8_works_47 : decode cX8_works 47 = .ok (.iastore, 1) := by decide +kernel
theorem dX8_works_48 : decode cX8_works 48 = .ok (.aload_n 0, 1) := by decide +kernel
theorem dX8_works_49 : decode cX8_works 49 = .ok (.getfield 25, 3) := by decide +kernel
theorem dX8_works_52 : decode cX8_works 52 = .ok (.iload_n 1, 1) := by decide +kernel
theorem dX8_works_53 : decode cX8_works 53 = .ok (.dup2, 1) := by decide +kernel
theorem dX8_works_54 : decode cX8_works 54 = .ok (.iaload, 1) := by decide +kernel
theorem dX8_works_55 : decode cX8_works 55 = .ok (.iload_n 2, 1) := by decide +kernel
theorem dX8_works_56 : decode cX8_works 56 = .ok (.iadd, 1) := by decide +kernel
theorem dX8_works_57 : decode cX8_works 57 = .ok (.iastore, 1) := by decide +kernel
theorem dX8_works_58 : decode cX8_works 58 = .ok (.goto 13, 3) := by decide +kernel
theorem dX8_works_61 : decode cX8_works 61 = .ok (.aload_n 0, 1) := by decide +kernel
theorem dX8_works_62 : decode cX8_works 62 = .ok (.getfield 31, 3) := by decide +kernel
theorem dX8_works_65 : decode cX8_works 65 = .ok (.iload_n 1, 1) := by decide +kernel
theorem dX8_works_66 : decode cX8_works 66 = .ok (.dup2, 1) := by decide +kernel
theorem dX8_works_67 : decode cX8_works 67 = .ok (.iaload, 1) := by decide +kernel
theorem dX8_works_68 : decode cX8_works 68 = .ok (.iload_n 2, 1) := by decide +kernel
theorem dX8_works_69 : decode cX8_works 69 = .ok (.iadd, 1) := by decide +kernel
theorem dX8_works_70 : decode cX8_works 70 = .ok (.iastore, 1) := by decide +kernel
theorem dX8_works_71 : decode cX8_works 71 = .ok (.aload_n 0, 1) := by decide +kernel
theorem dX8_works_72 : decode cX8_works 72 = .ok (.getfield 28, 3) := by decide +kernel
theorem dX8_works_75 : decode cX8_works 75 = .ok (.iload_n 1, 1) := by decide +kernel
theorem dX8_works_76 : decode cX8_works 76 = .ok (.iaload, 1) := by decide +kernel
theorem dX8_works_77 : decode cX8_works 77 = .ok (.ireturn, 1) := by decide +kernel
theorem dX8_pay_0 : decode cX8_pay 0 = .ok (.aload_n 0, 1) := by decide +kernel
theorem dX8_pay_1 : decode cX8_pay 1 = .ok (.iload_n 1, 1) := by decide +kernel
theorem dX8_pay_2 : decode cX8_pay 2 = .ok (.invokevirtual 107, 3) := by decide +kernel
theorem dX8_pay_5 : decode cX8_pay 5 = .ok (.ifCond .eq 17, 3) := by decide +kernel
theorem dX8_pay_8 : decode cX8_pay 8 = .ok (.iload_n 2, 1) := by decide +kernel
theorem dX8_pay_9 : decode cX8_pay 9 = .ok (.iconst 1, 1) := by decide +kernel
theorem dX8_pay_10 : decode cX8_pay 10 = .ok (.aload_n 0, 1) := by decide +kernel
theorem dX8_pay_11 : decode cX8_pay 11 = .ok (.getfield 25, 3) := by decide +kernel
theorem dX8_pay_14 : decode cX8_pay 14 = .ok (.iload_n 1, 1) := by decide +kernel
theorem dX8_pay_15 : decode cX8_pay 15 = .ok (.iaload, 1) := by decide +kernel
theorem dX8_pay_16 : decode cX8_pay 16 = .ok (.invokestatic 103, 3) := by decide +kernel
theorem dX8_pay_19 : decode cX8_pay 19 = .ok (.ifCond .ne 5, 3) := by decide +kernel
theorem dX8_pay_22 : decode cX8_pay 22 = .ok (.iconst (-1), 1) := by decide +kernel
theorem dX8_pay_23 : decode cX8_pay 23 = .ok (.ireturn, 1) := by decide +kernel
theorem dX8_pay_24 : decode cX8_pay 24 = .ok (.aload_n 0, 1) := by decide +kernel
theorem dX8_pay_25 : decode cX8_pay 25 = .ok (.getfield 25, 3) := by decide +kernel
theorem dX8_pay_28 : decode cX8_pay 28 = .ok (.iload_n 1, 1) := by decide +kernel
theorem dX8_pay_29 : decode cX8_pay 29 = .ok (.dup2, 1) := by decide +kernel
theorem dX8_pay_30 : decode cX8_pay 30 = .ok (.iaload, 1) := by decide +kernel
theorem dX8_pay_31 : decode cX8_pay 31 = .ok (.iload_n 2, 1) := by decide +kernel
theorem dX8_pay_32 : decode cX8_pay 32 = .ok (.isub, 1) := by decide +kernel
theorem dX8_pay_33 : decode cX8_pay 33 = .ok (.iastore, 1) := by decide +kernel
theorem dX8_pay_34 : decode cX8_pay 34 = .ok (.aload_n 0, 1) := by decide +kernel
theorem dX8_pay_35 : decode cX8_pay 35 = .ok (.dup, 1) := by decide +kernel
theorem dX8_pay_36 : decode cX8_pay 36 = .ok (.getfield 206, 3) := by decide +kernel
theorem dX8_pay_39 : decode cX8_pay 39 = .ok (.iload_n 2, 1) := by decide +kernel
theorem dX8_pay_40 : decode cX8_pay 40 = .ok (.iadd, 1) := by decide +kernel
theorem dX8_pay_41 : decode cX8_pay 41 = .ok (.putfield 206, 3) := by decide +kernel
theorem dX8_pay_44 : decode cX8_pay 44 = .ok (.aload_n 0, 1) := by decide +kernel
theorem dX8_pay_45 : decode cX8_pay 45 = .ok (.getfield 25, 3) := by decide +kernel
theorem dX8_pay_48 : decode cX8_pay 48 = .ok (.iload_n 1, 1) := by decide +kernel
theorem dX8_pay_49 : decode cX8_pay 49 = .ok (.iaload, 1) := by decide +kernel
theorem dX8_pay_50 : decode cX8_pay 50 = .ok (.ireturn, 1) := by decide +kernel
theorem dX8_suit_0 : decode cX8_suit 0 = .ok (.aload_n 0, 1) := by decide +kernel
theorem dX8_suit_1 : decode cX8_suit 1 = .ok (.iload_n 1, 1) := by decide +kernel
theorem dX8_suit_2 : decode cX8_suit 2 = .ok (.invokevirtual 188, 3) := by decide +kernel
theorem dX8_suit_5 : decode cX8_suit 5 = .ok (.ifCond .eq 43, 3) := by decide +kernel
theorem dX8_suit_8 : decode cX8_suit 8 = .ok (.aload_n 0, 1) := by decide +kernel
theorem dX8_suit_9 : decode cX8_suit 9 = .ok (.iload_n 2, 1) := by decide +kernel
theorem dX8_suit_10 : decode cX8_suit 10 = .ok (.invokevirtual 188, 3) := by decide +kernel
theorem dX8_suit_13 : decode cX8_suit 13 = .ok (.ifCond .eq 35, 3) := by decide +kernel
theorem dX8_suit_16 : decode cX8_suit 16 = .ok (.aload_n 0, 1) := by decide +kernel
theorem dX8_suit_17 : decode cX8_suit 17 = .ok (.iload_n 3, 1) := by decide +kernel
theorem dX8_suit_18 : decode cX8_suit 18 = .ok (.invokevirtual 188, 3) := by decide +kernel
theorem dX8_suit_21 : decode cX8_suit 21 = .ok (.ifCond .eq 27, 3) := by decide +kernel
theorem dX8_suit_24 : decode cX8_suit 24 = .ok (.iload_n 1, 1) := by decide +kernel
theorem dX8_suit_25 : decode cX8_suit 25 = .ok (.iload_n 2, 1) := by decide +kernel
theorem dX8_suit_26 : decode cX8_suit 26 = .ok (.if_icmp .eq 22, 3) := by decide +kernel
theorem dX8_suit_29 : decode cX8_suit 29 = .ok (.iload_n 2, 1) := by decide +kernel
theorem dX8_suit_30 : decode cX8_suit 30 = .ok (.iload_n 3, 1) := by decide +kernel
theorem dX8_suit_31 : decode cX8_suit 31 = .ok (.if_icmp .eq 17, 3) := by decide +kernel
theorem dX8_suit_34 : decode cX8_suit 34 = .ok (.iload_n 1, 1) := by decide +kernel
theorem dX8_suit_35 : decode cX8_suit 35 = .ok (.iload_n 3, 1) := by decide +kernel
theorem dX8_suit_36 : decode cX8_suit 36 = .ok (.if_icmp .eq 12, 3) := by decide +kernel
theorem dX8_suit_39 : decode cX8_suit 39 = .ok (.aload_n 0, 1) := by decide +kernel
theorem dX8_suit_40 : decode cX8_suit 40 = .ok (.getfield 209, 3) := by decide +kernel
theorem dX8_suit_43 : decode cX8_suit 43 = .ok (.bipush 40, 2) := by decide +kernel
theorem dX8_suit_45 : decode cX8_suit 45 = .ok (.if_icmp .ne 5, 3) := by decide +kernel
theorem dX8_suit_48 : decode cX8_suit 48 = .ok (.iconst (-1), 1) := by decide +kernel
theorem dX8_suit_49 : decode cX8_suit 49 = .ok (.ireturn, 1) := by decide +kernel
theorem dX8_suit_50 : decode cX8_suit 50 = .ok (.aload_n 0, 1) := by decide +kernel
theorem dX8_suit_51 : decode cX8_suit 51 = .ok (.getfield 68, 3) := by decide +kernel
theorem dX8_suit_54 : decode cX8_suit 54 = .ok (.aload_n 0, 1) := by decide +kernel
theorem dX8_suit_55 : decode cX8_suit 55 = .ok (.getfield 209, 3) := by decide +kernel
theorem dX8_suit_58 : decode cX8_suit 58 = .ok (.iload_n 1, 1) := by decide +kernel
theorem dX8_suit_59 : decode cX8_suit 59 = .ok (.iastore, 1) := by decide +kernel
theorem dX8_suit_60 : decode cX8_suit 60 = .ok (.aload_n 0, 1) := by decide +kernel
theorem dX8_suit_61 : decode cX8_suit 61 = .ok (.getfield 71, 3) := by decide +kernel
theorem dX8_suit_64 : decode cX8_suit 64 = .ok (.aload_n 0, 1) := by decide +kernel
theorem dX8_suit_65 : decode cX8_suit 65 = .ok (.getfield 209, 3) := by decide +kernel
theorem dX8_suit_68 : decode cX8_suit 68 = .ok (.iload_n 2, 1) := by decide +kernel
theorem dX8_suit_69 : decode cX8_suit 69 = .ok (.iastore, 1) := by decide +kernel
theorem dX8_suit_70 : decode cX8_suit 70 = .ok (.aload_n 0, 1) := by decide +kernel
theorem dX8_suit_71 : decode cX8_suit 71 = .ok (.getfield 74, 3) := by decide +kernel
theorem dX8_suit_74 : decode cX8_suit 74 = .ok (.aload_n 0, 1) := by decide +kernel
theorem dX8_suit_75 : decode cX8_suit 75 = .ok (.getfield 209, 3) := by decide +kernel
theorem dX8_suit_78 : decode cX8_suit 78 = .ok (.iload_n 3, 1) := by decide +kernel
theorem dX8_suit_79 : decode cX8_suit 79 = .ok (.iastore, 1) := by decide +kernel
theorem dX8_suit_80 : decode cX8_suit 80 = .ok (.aload_n 0, 1) := by decide +kernel
theorem dX8_suit_81 : decode cX8_suit 81 = .ok (.dup, 1) := by decide +kernel
theorem dX8_suit_82 : decode cX8_suit 82 = .ok (.getfield 209, 3) := by decide +kernel
theorem dX8_suit_85 : decode cX8_suit 85 = .ok (.iconst 1, 1) := by decide +kernel
theorem dX8_suit_86 : decode cX8_suit 86 = .ok (.iadd, 1) := by decide +kernel
theorem dX8_suit_87 : decode cX8_suit 87 = .ok (.putfield 209, 3) := by decide +kernel
theorem dX8_suit_90 : decode cX8_suit 90 = .ok (.aload_n 0, 1) := by decide +kernel
theorem dX8_suit_91 : decode cX8_suit 91 = .ok (.getfield 209, 3) := by decide +kernel
theorem dX8_suit_94 : decode cX8_suit 94 = .ok (.iconst 1, 1) := by decide +kernel
theorem dX8_suit_95 : decode cX8_suit 95 = .ok (.isub, 1) := by decide +kernel
theorem dX8_suit_96 : decode cX8_suit 96 = .ok (.ireturn, 1) := by decide +kernel
theorem dX8_appear_0 : decode cX8_appear 0 = .ok (.iload_n 1, 1) := by decide +kernel
theorem dX8_appear_1 : decode cX8_appear 1 = .ok (.iconst 0, 1) := by decide +kernel
theorem dX8_appear_2 : decode cX8_appear 2 = .ok (.aload_n 0, 1) := by decide +kernel
theorem dX8_appear_3 : decode cX8_appear 3 = .ok (.getfield 209, 3) := by decide +kernel
theorem dX8_appear_6 : decode cX8_appear 6 = .ok (.iconst 1, 1) := by decide +kernel
theorem dX8_appear_7 : decode cX8_appear 7 = .ok (.isub, 1) := by decide +kernel
theorem dX8_appear_8 : decode cX8_appear 8 = .ok (.invokestatic 103, 3) := by decide +kernel
theorem dX8_appear_11 : decode cX8_appear 11 = .ok (.ifCond .eq 21, 3) := by decide +kernel
theorem dX8_appear_14 : decode cX8_appear 14 = .ok (.aload_n 0, 1) := by decide +kernel
theorem dX8_appear_15 : decode cX8_appear 15 = .ok (.getfield 80, 3) := by decide +kernel
theorem dX8_appear_18 : decode cX8_appear 18 = .ok (.iload_n 1, 1) := by decide +kernel
theorem dX8_appear_19 : decode cX8_appear 19 = .ok (.iaload, 1) := by decide +kernel
theorem dX8_appear_20 : decode cX8_appear 20 = .ok (.ifCond .ne 12, 3) := by decide +kernel
theorem dX8_appear_23 : decode cX8_appear 23 = .ok (.iload_n 2, 1) := by decide +kernel
theorem dX8_appear_24 : decode cX8_appear 24 = .ok (.iconst 0, 1) := by decide +kernel
theorem dX8_appear_25 : decode cX8_appear 25 = .ok (.iconst 3, 1) := by decide +kernel
theorem dX8_appear_26 : decode cX8_appear 26 = .ok (.invokestatic 103, 3) := by decide +kernel
theorem dX8_appear_29 : decode cX8_appear 29 = .ok (.ifCond .ne 5, 3) := by decide +kernel
theorem dX8_appear_32 : decode cX8_appear 32 = .ok (.iconst 0, 1) := by decide +kernel
theorem dX8_appear_33 : decode cX8_appear 33 = .ok (.ireturn, 1) := by decide +kernel
theorem dX8_appear_34 : decode cX8_appear 34 = .ok (.aload_n 0, 1) := by decide +kernel
theorem dX8_appear_35 : decode cX8_appear 35 = .ok (.getfield 77, 3) := by decide +kernel
theorem dX8_appear_38 : decode cX8_appear 38 = .ok (.iload_n 1, 1) := by decide +kernel
theorem dX8_appear_39 : decode cX8_appear 39 = .ok (.iload_n 2, 1) := by decide +kernel
theorem dX8_appear_40 : decode cX8_appear 40 = .ok (.iastore, 1) := by decide +kernel
theorem dX8_appear_41 : decode cX8_appear 41 = .ok (.iconst 1, 1) := by decide +kernel
theorem dX8_appear_42 : decode cX8_appear 42 = .ok (.ireturn, 1) := by decide +kernel
theorem dX8_falls_0 : decode cX8_falls 0 = .ok (.aload_n 0, 1) := by decide +kernel
theorem dX8_falls_1 : decode cX8_falls 1 = .ok (.getfield 43, 3) := by decide +kernel
theorem dX8_falls_4 : decode cX8_falls 4 = .ok (.aload_n 0, 1) := by decide +kernel
theorem dX8_falls_5 : decode cX8_falls 5 = .ok (.getfield 74, 3) := by decide +kernel
theorem dX8_falls_8 : decode cX8_falls 8 = .ok (.iload_n 1, 1) := by decide +kernel
theorem dX8_falls_9 : decode cX8_falls 9 = .ok (.iaload, 1) := by decide +kernel
theorem dX8_falls_10 : decode cX8_falls 10 = .ok (.baload, 1) := by decide +kernel
theorem dX8_falls_11 : decode cX8_falls 11 = .ok (.ifCond .eq 12, 3) := by decide +kernel
theorem dX8_falls_14 : decode cX8_falls 14 = .ok (.aload_n 0, 1) := by decide +kernel
theorem dX8_falls_15 : decode cX8_falls 15 = .ok (.getfield 74, 3) := by decide +kernel
theorem dX8_falls_18 : decode cX8_falls 18 = .ok (.iload_n 1, 1) := by decide +kernel
theorem dX8_falls_19 : decode cX8_falls 19 = .ok (.iaload, 1) := by decide +kernel
theorem dX8_falls_20 : decode cX8_falls 20 = .ok (.goto 9, 3) := by decide +kernel
theorem dX8_falls_23 : decode cX8_falls 23 = .ok (.aload_n 0, 1) := by decide +kernel
theorem dX8_falls_24 : decode cX8_falls 24 = .ok (.getfield 71, 3) := by decide +kernel
theorem dX8_falls_27 : decode cX8_falls 27 = .ok (.iload_n 1, 1) := by decide +kernel
theorem dX8_falls_28 : decode cX8_falls 28 = .ok (.iaload, 1) := by decide +kernel
theorem dX8_falls_29 : decode cX8_falls 29 = .ok (.istore_n 2, 1) := by decide +kernel
theorem dX8_falls_30 : decode cX8_falls 30 = .ok (.aload_n 0, 1) := by decide +kernel
theorem dX8_falls_31 : decode cX8_falls 31 = .ok (.getfield 25, 3) := by decide +kernel
theorem dX8_falls_34 : decode cX8_falls 34 = .ok (.iload_n 2, 1) := by decide +kernel
theorem dX8_falls_35 : decode cX8_falls 35 = .ok (.dup2, 1) := by decide +kernel
theorem dX8_falls_36 : decode cX8_falls 36 = .ok (.iaload, 1) := by decide +kernel
theorem dX8_falls_37 : decode cX8_falls 37 = .ok (.iconst 3, 1) := by decide +kernel
theorem dX8_falls_38 : decode cX8_falls 38 = .ok (.iadd, 1) := by decide +kernel
theorem dX8_falls_39 : decode cX8_falls 39 = .ok (.iastore, 1) := by decide +kernel
theorem dX8_falls_40 : decode cX8_falls 40 = .ok (.aload_n 0, 1) := by decide +kernel
theorem dX8_falls_41 : decode cX8_falls 41 = .ok (.getfield 86, 3) := by decide +kernel
theorem dX8_falls_44 : decode cX8_falls 44 = .ok (.iload_n 1, 1) := by decide +kernel
theorem dX8_falls_45 : decode cX8_falls 45 = .ok (.dup2, 1) := by decide +kernel
theorem dX8_falls_46 : decode cX8_falls 46 = .ok (.iaload, 1) := by decide +kernel
theorem dX8_falls_47 : decode cX8_falls 47 = .ok (.iconst 1, 1) := by decide +kernel
theorem dX8_falls_48 : decode cX8_falls 48 = .ok (.iadd, 1) := by decide +kernel
theorem dX8_falls_49 : decode cX8_falls 49 = .ok (.iastore, 1) := by decide +kernel
theorem dX8_falls_50 : decode cX8_falls 50 = .ok (.aload_n 0, 1) := by decide +kernel
theorem dX8_falls_51 : decode cX8_falls 51 = .ok (.getfield 86, 3) := by decide +kernel
theorem dX8_falls_54 : decode cX8_falls 54 = .ok (.iload_n 1, 1) := by decide +kernel
theorem dX8_falls_55 : decode cX8_falls 55 = .ok (.iaload, 1) := by decide +kernel
theorem dX8_falls_56 : decode cX8_falls 56 = .ok (.iconst 2, 1) := by decide +kernel
theorem dX8_falls_57 : decode cX8_falls 57 = .ok (.if_icmp .ge 4, 3) := by decide +kernel
theorem dX8_falls_60 : decode cX8_falls 60 = .ok (.return_, 1) := by decide +kernel
theorem dX8_falls_61 : decode cX8_falls 61 = .ok (.aload_n 0, 1) := by decide +kernel
theorem dX8_falls_62 : decode cX8_falls 62 = .ok (.getfield 80, 3) := by decide +kernel
theorem dX8_falls_65 : decode cX8_falls 65 = .ok (.iload_n 1, 1) := by decide +kernel
theorem dX8_falls_66 : decode cX8_falls 66 = .ok (.iconst 2, 1) := by decide +kernel
theorem dX8_falls_67 : decode cX8_falls 67 = .ok (.iastore, 1) := by decide +kernel
theorem dX8_falls_68 : decode cX8_falls 68 = .ok (.aload_n 0, 1) := by decide +kernel
theorem dX8_falls_69 : decode cX8_falls 69 = .ok (.getfield 25, 3) := by decide +kernel
theorem dX8_falls_72 : decode cX8_falls 72 = .ok (.aload_n 0, 1) := by decide +kernel
theorem dX8_falls_73 : decode cX8_falls 73 = .ok (.getfield 71, 3) := by decide +kernel
theorem dX8_falls_76 : decode cX8_falls 76 = .ok (.iload_n 1, 1) := by decide +kernel
theorem dX8_falls_77 : decode cX8_falls 77 = .ok (.iaload, 1) := by decide +kernel
theorem dX8_falls_78 : decode cX8_falls 78 = .ok (.dup2, 1) := by decide +kernel
theorem dX8_falls_79 : decode cX8_falls 79 = .ok (.iaload, 1) := by decide +kernel
theorem dX8_falls_80 : decode cX8_falls 80 = .ok (.bipush 6, 2) := by decide +kernel
theorem dX8_falls_82 : decode cX8_falls 82 = .ok (.iadd, 1) := by decide +kernel
theorem dX8_falls_83 : decode cX8_falls 83 = .ok (.iastore, 1) := by decide +kernel
theorem dX8_falls_84 : decode cX8_falls 84 = .ok (.return_, 1) := by decide +kernel
theorem dX8_court_0 : decode cX8_court 0 = .ok (.iconst 0, 1) := by decide +kernel
theorem dX8_court_1 : decode cX8_court 1 = .ok (.istore_n 1, 1) := by decide +kernel
theorem dX8_court_2 : decode cX8_court 2 = .ok (.iconst 0, 1) := by decide +kernel
theorem dX8_court_3 : decode cX8_court 3 = .ok (.istore_n 2, 1) := by decide +kernel
theorem dX8_court_4 : decode cX8_court 4 = .ok (.iload_n 2, 1) := by decide +kernel
theorem dX8_court_5 : decode cX8_court 5 = .ok (.aload_n 0, 1) := by decide +kernel
theorem dX8_court_6 : decode cX8_court 6 = .ok (.getfield 209, 3) := by decide +kernel
theorem dX8_court_9 : decode cX8_court 9 = .ok (.if_icmp .ge 157, 3) := by decide +kernel
theorem dX8_court_12 : decode cX8_court 12 = .ok (.aload_n 0, 1) := by decide +kernel
theorem dX8_court_13 : decode cX8_court 13 = .ok (.getfield 80, 3) := by decide +kernel
theorem dX8_court_16 : decode cX8_court 16 = .ok (.iload_n 2, 1) := by decide +kernel
theorem dX8_court_17 : decode cX8_court 17 = .ok (.iaload, 1) := by decide +kernel
theorem dX8_court_18 : decode cX8_court 18 = .ok (.ifCond .eq 6, 3) := by decide +kernel
theorem dX8_court_21 : decode cX8_court 21 = .ok (.goto 139, 3) := by decide +kernel
theorem dX8_court_24 : decode cX8_court 24 = .ok (.aload_n 0, 1) := by decide +kernel
theorem dX8_court_25 : decode cX8_court 25 = .ok (.getfield 77, 3) := by decide +kernel
theorem dX8_court_28 : decode cX8_court 28 = .ok (.iload_n 2, 1) := by decide +kernel
theorem dX8_court_29 : decode cX8_court 29 = .ok (.iaload, 1) := by decide +kernel
theorem dX8_court_30 : decode cX8_court 30 = .ok (.istore_n 3, 1) := by decide +kernel
theorem dX8_court_31 : decode cX8_court 31 = .ok (.aload_n 0, 1) := by decide +kernel
theorem dX8_court_32 : decode cX8_court 32 = .ok (.getfield 77, 3) := by decide +kernel
theorem dX8_court_35 : decode cX8_court 35 = .ok (.iload_n 2, 1) := by decide +kernel
theorem dX8_court_36 : decode cX8_court 36 = .ok (.iconst 0, 1) := by decide +kernel
theorem dX8_court_37 : decode cX8_court 37 = .ok (.iastore, 1) := by decide +kernel
theorem dX8_court_38 : decode cX8_court 38 = .ok (.aload_n 0, 1) := by decide +kernel
theorem dX8_court_39 : decode cX8_court 39 = .ok (.getfield 43, 3) := by decide +kernel
theorem dX8_court_42 : decode cX8_court 42 = .ok (.aload_n 0, 1) := by decide +kernel
theorem dX8_court_43 : decode cX8_court 43 = .ok (.getfield 71, 3) := by decide +kernel
theorem dX8_court_46 : decode cX8_court 46 = .ok (.iload_n 2, 1) := by decide +kernel
theorem dX8_court_47 : decode cX8_court 47 = .ok (.iaload, 1) := by decide +kernel
theorem dX8_court_48 : decode cX8_court 48 = .ok (.baload, 1) := by decide +kernel
theorem dX8_court_49 : decode cX8_court 49 = .ok (.ifCond .ne 13, 3) := by decide +kernel
theorem dX8_court_52 : decode cX8_court 52 = .ok (.aload_n 0, 1) := by decide +kernel
theorem dX8_court_53 : decode cX8_court 53 = .ok (.getfield 80, 3) := by decide +kernel
theorem dX8_court_56 : decode cX8_court 56 = .ok (.iload_n 2, 1) := by decide +kernel
theorem dX8_court_57 : decode cX8_court 57 = .ok (.iconst 1, 1) := by decide +kernel
theorem dX8_court_58 : decode cX8_court 58 = .ok (.iastore, 1) := by decide +kernel
theorem dX8_court_59 : decode cX8_court 59 = .ok (.goto 84, 3) := by decide +kernel
theorem dX8_court_62 : decode cX8_court 62 = .ok (.iload_n 3, 1) := by decide +kernel
theorem dX8_court_63 : decode cX8_court 63 = .ok (.iconst 1, 1) := by decide +kernel
theorem dX8_court_64 : decode cX8_court 64 = .ok (.if_icmp .le 43, 3) := by decide +kernel
theorem dX8_court_67 : decode cX8_court 67 = .ok (.aload_n 0, 1) := by decide +kernel
theorem dX8_court_68 : decode cX8_court 68 = .ok (.getfield 80, 3) := by decide +kernel
theorem dX8_court_71 : decode cX8_court 71 = .ok (.iload_n 2, 1) := by decide +kernel
theorem dX8_court_72 : decode cX8_court 72 = .ok (.iload_n 3, 1) := by decide +kernel
theorem dX8_court_73 : decode cX8_court 73 = .ok (.iastore, 1) := by decide +kernel
theorem dX8_court_74 : decode cX8_court 74 = .ok (.aload_n 0, 1) := by decide +kernel
theorem dX8_court_75 : decode cX8_court 75 = .ok (.getfield 25, 3) := by decide +kernel
theorem dX8_court_78 : decode cX8_court 78 = .ok (.iload_n 3, 1) := by decide +kernel
theorem dX8_court_79 : decode cX8_court 79 = .ok (.iconst 2, 1) := by decide +kernel
theorem dX8_court_80 : decode cX8_court 80 = .ok (.if_icmp .ne 12, 3) := by decide +kernel
theorem dX8_court_83 : decode cX8_court 83 = .ok (.aload_n 0, 1) := by decide +kernel
theorem dX8_court_84 : decode cX8_court 84 = .ok (.getfield 71, 3) := by decide +kernel
theorem dX8_court_87 : decode cX8_court 87 = .ok (.iload_n 2, 1) := by decide +kernel
theorem dX8_court_88 : decode cX8_court 88 = .ok (.iaload, 1) := by decide +kernel
theorem dX8_court_89 : decode cX8_court 89 = .ok (.goto 9, 3) := by decide +kernel
theorem dX8_court_92 : decode cX8_court 92 = .ok (.aload_n 0, 1) := by decide +kernel
theorem dX8_court_93 : decode cX8_court 93 = .ok (.getfield 68, 3) := by decide +kernel
theorem dX8_court_96 : decode cX8_court 96 = .ok (.iload_n 2, 1) := by decide +kernel
theorem dX8_court_97 : decode cX8_court 97 = .ok (.iaload, 1) := by decide +kernel
theorem dX8_court_98 : decode cX8_court 98 = .ok (.dup2, 1) := by decide +kernel
theorem dX8_court_99 : decode cX8_court 99 = .ok (.iaload, 1) := by decide +kernel
theorem dX8_court_100 : decode cX8_court 100 = .ok (.bipush 6, 2) := by decide +kernel
theorem dX8_court_102 : decode cX8_court 102 = .ok (.iadd, 1) := by decide +kernel
theorem dX8_court_103 : decode cX8_court 103 = .ok (.iastore, 1) := by decide +kernel
theorem dX8_court_104 : decode cX8_court 104 = .ok (.goto 39, 3) := by decide +kernel
theorem dX8_court_107 : decode cX8_court 107 = .ok (.iload_n 3, 1) := by decide +kernel
theorem dX8_court_108 : decode cX8_court 108 = .ok (.iconst 1, 1) := by decide +kernel
theorem dX8_court_109 : decode cX8_court 109 = .ok (.if_icmp .ne 29, 3) := by decide +kernel
theorem dX8_court_112 : decode cX8_court 112 = .ok (.aload_n 0, 1) := by decide +kernel
theorem dX8_court_113 : decode cX8_court 113 = .ok (.getfield 83, 3) := by decide +kernel
theorem dX8_court_116 : decode cX8_court 116 = .ok (.iload_n 2, 1) := by decide +kernel
theorem dX8_court_117 : decode cX8_court 117 = .ok (.iaload, 1) := by decide +kernel
theorem dX8_court_118 : decode cX8_court 118 = .ok (.aload_n 0, 1) := by decide +kernel
theorem dX8_court_119 : decode cX8_court 119 = .ok (.getfield 139, 3) := by decide +kernel
theorem dX8_court_122 : decode cX8_court 122 = .ok (.if_icmp .ge 16, 3) := by decide +kernel
theorem dX8_court_125 : decode cX8_court 125 = .ok (.aload_n 0, 1) := by decide +kernel
theorem dX8_court_126 : decode cX8_court 126 = .ok (.getfield 83, 3) := by decide +kernel
theorem dX8_court_129 : decode cX8_court 129 = .ok (.iload_n 2, 1) := by decide +kernel
theorem dX8_court_130 : decode cX8_court 130 = .ok (.dup2, 1) := by decide +kernel
theorem dX8_court_131 : decode cX8_court 131 = .ok (.iaload, 1) := by decide +kernel
theorem dX8_court_132 : decode cX8_court 132 = .ok (.iconst 1, 1) := by decide +kernel
theorem dX8_court_133 : decode cX8_court 133 = .ok (.iadd, 1) := by decide +kernel
theorem dX8_court_134 : decode cX8_court 134 = .ok (.iastore, 1) := by decide +kernel
theorem dX8_court_135 : decode cX8_court 135 = .ok (.goto 8, 3) := by decide +kernel
theorem dX8_court_138 : decode cX8_court 138 = .ok (.aload_n 0, 1) := by decide +kernel
theorem dX8_court_139 : decode cX8_court 139 = .ok (.iload_n 2, 1) := by decide +kernel
theorem dX8_court_140 : decode cX8_court 140 = .ok (.invokevirtual 212, 3) := by decide +kernel
theorem dX8_court_143 : decode cX8_court 143 = .ok (.iload_n 1, 1) := by decide +kernel
theorem dX8_court_144 : decode cX8_court 144 = .ok (.aload_n 0, 1) := by decide +kernel
theorem dX8_court_145 : decode cX8_court 145 = .ok (.getfield 80, 3) := by decide +kernel
theorem dX8_court_148 : decode cX8_court 148 = .ok (.iload_n 2, 1) := by decide +kernel
theorem dX8_court_149 : decode cX8_court 149 = .ok (.iaload, 1) := by decide +kernel
theorem dX8_court_150 : decode cX8_court 150 = .ok (.ifCond .eq 7, 3) := by decide +kernel
theorem dX8_court_153 : decode cX8_court 153 = .ok (.iconst 1, 1) := by decide +kernel
theorem dX8_court_154 : decode cX8_court 154 = .ok (.goto 4, 3) := by decide +kernel
theorem dX8_court_157 : decode cX8_court 157 = .ok (.iconst 0, 1) := by decide +kernel
theorem dX8_court_158 : decode cX8_court 158 = .ok (.iadd, 1) := by decide +kernel
theorem dX8_court_159 : decode cX8_court 159 = .ok (.istore_n 1, 1) := by decide +kernel
theorem dX8_court_160 : decode cX8_court 160 = .ok (.iinc 2 1, 3) := by decide +kernel
theorem dX8_court_163 : decode cX8_court 163 = .ok (.goto (-159), 3) := by decide +kernel
theorem dX8_court_166 : decode cX8_court 166 = .ok (.iload_n 1, 1) := by decide +kernel
theorem dX8_court_167 : decode cX8_court 167 = .ok (.ireturn, 1) := by decide +kernel
theorem dX8_suited_0 : decode cX8_suited 0 = .ok (.iload_n 1, 1) := by decide +kernel
theorem dX8_suited_1 : decode cX8_suited 1 = .ok (.iconst 0, 1) := by decide +kernel
theorem dX8_suited_2 : decode cX8_suited 2 = .ok (.aload_n 0, 1) := by decide +kernel
theorem dX8_suited_3 : decode cX8_suited 3 = .ok (.getfield 209, 3) := by decide +kernel
theorem dX8_suited_6 : decode cX8_suited 6 = .ok (.iconst 1, 1) := by decide +kernel
theorem dX8_suited_7 : decode cX8_suited 7 = .ok (.isub, 1) := by decide +kernel
theorem dX8_suited_8 : decode cX8_suited 8 = .ok (.invokestatic 103, 3) := by decide +kernel
theorem dX8_suited_11 : decode cX8_suited 11 = .ok (.ifCond .ne 5, 3) := by decide +kernel
theorem dX8_suited_14 : decode cX8_suited 14 = .ok (.iconst (-1), 1) := by decide +kernel
theorem dX8_suited_15 : decode cX8_suited 15 = .ok (.ireturn, 1) := by decide +kernel
theorem dX8_suited_16 : decode cX8_suited 16 = .ok (.iload_n 2, 1) := by decide +kernel
theorem dX8_suited_17 : decode cX8_suited 17 = .ok (.ifCond .ne 12, 3) := by decide +kernel
theorem dX8_suited_20 : decode cX8_suited 20 = .ok (.aload_n 0, 1) := by decide +kernel
theorem dX8_suited_21 : decode cX8_suited 21 = .ok (.getfield 80, 3) := by decide +kernel
theorem dX8_suited_24 : decode cX8_suited 24 = .ok (.iload_n 1, 1) := by decide +kernel
theorem dX8_suited_25 : decode cX8_suited 25 = .ok (.iaload, 1) := by decide +kernel
theorem dX8_suited_26 : decode cX8_suited 26 = .ok (.goto 32, 3) := by decide +kernel
theorem dX8_suited_29 : decode cX8_suited 29 = .ok (.iload_n 2, 1) := by decide +kernel
theorem dX8_suited_30 : decode cX8_suited 30 = .ok (.iconst 1, 1) := by decide +kernel
theorem dX8_suited_31 : decode cX8_suited 31 = .ok (.if_icmp .ne 12, 3) := by decide +kernel
theorem dX8_suited_34 : decode cX8_suited 34 = .ok (.aload_n 0, 1) := by decide +kernel
theorem dX8_suited_35 : decode cX8_suited 35 = .ok (.getfield 83, 3) := by decide +kernel
theorem dX8_suited_38 : decode cX8_suited 38 = .ok (.iload_n 1, 1) := by decide +kernel
theorem dX8_suited_39 : decode cX8_suited 39 = .ok (.iaload, 1) := by decide +kernel
theorem dX8_suited_40 : decode cX8_suited 40 = .ok (.goto 18, 3) := by decide +kernel
theorem dX8_suited_43 : decode cX8_suited 43 = .ok (.iload_n 2, 1) := by decide +kernel
theorem dX8_suited_44 : decode cX8_suited 44 = .ok (.iconst 2, 1) := by decide +kernel
theorem dX8_suited_45 : decode cX8_suited 45 = .ok (.if_icmp .ne 12, 3) := by decide +kernel
theorem dX8_suited_48 : decode cX8_suited 48 = .ok (.aload_n 0, 1) := by decide +kernel
theorem dX8_suited_49 : decode cX8_suited 49 = .ok (.getfield 86, 3) := by decide +kernel
theorem dX8_suited_52 : decode cX8_suited 52 = .ok (.iload_n 1, 1) := by decide +kernel
theorem dX8_suited_53 : decode cX8_suited 53 = .ok (.iaload, 1) := by decide +kernel
theorem dX8_suited_54 : decode cX8_suited 54 = .ok (.goto 4, 3) := by decide +kernel
theorem dX8_suited_57 : decode cX8_suited 57 = .ok (.iconst (-1), 1) := by decide +kernel
theorem dX8_suited_58 : decode cX8_suited 58 = .ok (.ireturn, 1) := by decide +kernel
theorem dX8_told_0 : decode cX8_told 0 = .ok (.aload_n 0, 1) := by decide +kernel
theorem dX8_told_1 : decode cX8_told 1 = .ok (.iload_n 1, 1) := by decide +kernel
theorem dX8_told_2 : decode cX8_told 2 = .ok (.invokevirtual 107, 3) := by decide +kernel
theorem dX8_told_5 : decode cX8_told 5 = .ok (.ifCond .ne 6, 3) := by decide +kernel
theorem dX8_told_8 : decode cX8_told 8 = .ok (.bipush (-2), 2) := by decide +kernel
theorem dX8_told_10 : decode cX8_told 10 = .ok (.ireturn, 1) := by decide +kernel
theorem dX8_told_11 : decode cX8_told 11 = .ok (.iload_n 2, 1) := by decide +kernel
theorem dX8_told_12 : decode cX8_told 12 = .ok (.tableswitch 178 0 13 #[72, 79, 86, 93, 108, 115, 122, 129, 136, 143, 150, 157, 164, 171], 72) := by decide +kernel
theorem dX8_told_84 : decode cX8_told 84 = .ok (.aload_n 0, 1) := by decide +kernel
theorem dX8_told_85 : decode cX8_told 85 = .ok (.getfield 9, 3) := by decide +kernel
theorem dX8_told_88 : decode cX8_told 88 = .ok (.iload_n 1, 1) := by decide +kernel
theorem dX8_told_89 : decode cX8_told 89 = .ok (.iaload, 1) := by decide +kernel
theorem dX8_told_90 : decode cX8_told 90 = .ok (.ireturn, 1) := by decide +kernel
theorem dX8_told_91 : decode cX8_told 91 = .ok (.aload_n 0, 1) := by decide +kernel
theorem dX8_told_92 : decode cX8_told 92 = .ok (.getfield 13, 3) := by decide +kernel
theorem dX8_told_95 : decode cX8_told 95 = .ok (.iload_n 1, 1) := by decide +kernel
theorem dX8_told_96 : decode cX8_told 96 = .ok (.iaload, 1) := by decide +kernel
theorem dX8_told_97 : decode cX8_told 97 = .ok (.ireturn, 1) := by decide +kernel
theorem dX8_told_98 : decode cX8_told 98 = .ok (.aload_n 0, 1) := by decide +kernel
theorem dX8_told_99 : decode cX8_told 99 = .ok (.getfield 16, 3) := by decide +kernel
theorem dX8_told_102 : decode cX8_told 102 = .ok (.iload_n 1, 1) := by decide +kernel
theorem dX8_told_103 : decode cX8_told 103 = .ok (.iaload, 1) := by decide +kernel
theorem dX8_told_104 : decode cX8_told 104 = .ok (.ireturn, 1) := by decide +kernel
theorem dX8_told_105 : decode cX8_told 105 = .ok (.aload_n 0, 1) := by decide +kernel
theorem dX8_told_106 : decode cX8_told 106 = .ok (.getfield 43, 3) := by decide +kernel
theorem dX8_told_109 : decode cX8_told 109 = .ok (.iload_n 1, 1) := by decide +kernel
theorem dX8_told_110 : decode cX8_told 110 = .ok (.baload, 1) := by decide +kernel
theorem dX8_told_111 : decode cX8_told 111 = .ok (.ifCond .eq 7, 3) := by decide +kernel
theorem dX8_told_114 : decode cX8_told 114 = .ok (.iconst 1, 1) := by decide +kernel
theorem dX8_told_115 : decode cX8_told 115 = .ok (.goto 4, 3) := by decide +kernel
theorem dX8_told_118 : decode cX8_told 118 = .ok (.iconst 0, 1) := by decide +kernel
theorem dX8_told_119 : decode cX8_told 119 = .ok (.ireturn, 1) := by decide +kernel
theorem dX8_told_120 : decode cX8_told 120 = .ok (.aload_n 0, 1) := by decide +kernel
theorem dX8_told_121 : decode cX8_told 121 = .ok (.getfield 19, 3) := by decide +kernel
theorem dX8_told_124 : decode cX8_told 124 = .ok (.iload_n 1, 1) := by decide +kernel
theorem dX8_told_125 : decode cX8_told 125 = .ok (.iaload, 1) := by decide +kernel
theorem dX8_told_126 : decode cX8_told 126 = .ok (.ireturn, 1) := by decide +kernel
theorem dX8_told_127 : decode cX8_told 127 = .ok (.aload_n 0, 1) := by decide +kernel
theorem dX8_told_128 : decode cX8_told 128 = .ok (.getfield 22, 3) := by decide +kernel
theorem dX8_told_131 : decode cX8_told 131 = .ok (.iload_n 1, 1) := by decide +kernel
theorem dX8_told_132 : decode cX8_told 132 = .ok (.iaload, 1) := by decide +kernel
theorem dX8_told_133 : decode cX8_told 133 = .ok (.ireturn, 1) := by decide +kernel
theorem dX8_told_134 : decode cX8_told 134 = .ok (.aload_n 0, 1) := by decide +kernel
theorem dX8_told_135 : decode cX8_told 135 = .ok (.iload_n 1, 1) := by decide +kernel
theorem dX8_told_136 : decode cX8_told 136 = .ok (.iconst 0, 1) := by decide +kernel
theorem dX8_told_137 : decode cX8_told 137 = .ok (.invokevirtual 202, 3) := by decide +kernel
theorem dX8_told_140 : decode cX8_told 140 = .ok (.ireturn, 1) := by decide +kernel
theorem dX8_told_141 : decode cX8_told 141 = .ok (.aload_n 0, 1) := by decide +kernel
theorem dX8_told_142 : decode cX8_told 142 = .ok (.iload_n 1, 1) := by decide +kernel
theorem dX8_told_143 : decode cX8_told 143 = .ok (.iconst 1, 1) := by decide +kernel
theorem dX8_told_144 : decode cX8_told 144 = .ok (.invokevirtual 202, 3) := by decide +kernel
theorem dX8_told_147 : decode cX8_told 147 = .ok (.ireturn, 1) := by decide +kernel
theorem dX8_told_148 : decode cX8_told 148 = .ok (.aload_n 0, 1) := by decide +kernel
theorem dX8_told_149 : decode cX8_told 149 = .ok (.getfield 25, 3) := by decide +kernel
theorem dX8_told_152 : decode cX8_told 152 = .ok (.iload_n 1, 1) := by decide +kernel
theorem dX8_told_153 : decode cX8_told 153 = .ok (.iaload, 1) := by decide +kernel
theorem dX8_told_154 : decode cX8_told 154 = .ok (.ireturn, 1) := by decide +kernel
theorem dX8_told_155 : decode cX8_told 155 = .ok (.aload_n 0, 1) := by decide +kernel
theorem dX8_told_156 : decode cX8_told 156 = .ok (.getfield 28, 3) := by decide +kernel
theorem dX8_told_159 : decode cX8_told 159 = .ok (.iload_n 1, 1) := by decide +kernel
theorem dX8_told_160 : decode cX8_told 160 = .ok (.iaload, 1) := by decide +kernel
theorem dX8_told_161 : decode cX8_told 161 = .ok (.ireturn, 1) := by decide +kernel
theorem dX8_told_162 : decode cX8_told 162 = .ok (.aload_n 0, 1) := by decide +kernel
theorem dX8_told_163 : decode cX8_told 163 = .ok (.getfield 31, 3) := by decide +kernel
theorem dX8_told_166 : decode cX8_told 166 = .ok (.iload_n 1, 1) := by decide +kernel
theorem dX8_told_167 : decode cX8_told 167 = .ok (.iaload, 1) := by decide +kernel
theorem dX8_told_168 : decode cX8_told 168 = .ok (.ireturn, 1) := by decide +kernel
theorem dX8_told_169 : decode cX8_told 169 = .ok (.aload_n 0, 1) := by decide +kernel
theorem dX8_told_170 : decode cX8_told 170 = .ok (.getfield 34, 3) := by decide +kernel
theorem dX8_told_173 : decode cX8_told 173 = .ok (.iload_n 1, 1) := by decide +kernel
theorem dX8_told_174 : decode cX8_told 174 = .ok (.iaload, 1) := by decide +kernel
theorem dX8_told_175 : decode cX8_told 175 = .ok (.ireturn, 1) := by decide +kernel
theorem dX8_told_176 : decode cX8_told 176 = .ok (.aload_n 0, 1) := by decide +kernel
theorem dX8_told_177 : decode cX8_told 177 = .ok (.getfield 37, 3) := by decide +kernel
theorem dX8_told_180 : decode cX8_told 180 = .ok (.iload_n 1, 1) := by decide +kernel
theorem dX8_told_181 : decode cX8_told 181 = .ok (.iaload, 1) := by decide +kernel
theorem dX8_told_182 : decode cX8_told 182 = .ok (.ireturn, 1) := by decide +kernel
theorem dX8_told_183 : decode cX8_told 183 = .ok (.aload_n 0, 1) := by decide +kernel
theorem dX8_told_184 : decode cX8_told 184 = .ok (.getfield 40, 3) := by decide +kernel
theorem dX8_told_187 : decode cX8_told 187 = .ok (.iload_n 1, 1) := by decide +kernel
theorem dX8_told_188 : decode cX8_told 188 = .ok (.iaload, 1) := by decide +kernel
theorem dX8_told_189 : decode cX8_told 189 = .ok (.ireturn, 1) := by decide +kernel
theorem dX8_told_190 : decode cX8_told 190 = .ok (.bipush (-2), 2) := by decide +kernel
theorem dX8_told_192 : decode cX8_told 192 = .ok (.ireturn, 1) := by decide +kernel
theorem dX8_count_0 : decode cX8_count 0 = .ok (.iload_n 1, 1) := by decide +kernel
theorem dX8_count_1 : decode cX8_count 1 = .ok (.tableswitch 113 0 7 #[47, 52, 57, 62, 67, 74, 103, 108], 47) := by decide +kernel
theorem dX8_count_48 : decode cX8_count 48 = .ok (.aload_n 0, 1) := by decide +kernel
theorem dX8_count_49 : decode cX8_count 49 = .ok (.getfield 118, 3) := by decide +kernel
theorem dX8_count_52 : decode cX8_count 52 = .ok (.ireturn, 1) := by decide +kernel
theorem dX8_count_53 : decode cX8_count 53 = .ok (.aload_n 0, 1) := by decide +kernel
theorem dX8_count_54 : decode cX8_count 54 = .ok (.getfield 99, 3) := by decide +kernel
theorem dX8_count_57 : decode cX8_count 57 = .ok (.ireturn, 1) := by decide +kernel
theorem dX8_count_58 : decode cX8_count 58 = .ok (.aload_n 0, 1) := by decide +kernel
theorem dX8_count_59 : decode cX8_count 59 = .ok (.getfield 151, 3) := by decide +kernel
theorem dX8_count_62 : decode cX8_count 62 = .ok (.ireturn, 1) := by decide +kernel
theorem dX8_count_63 : decode cX8_count 63 = .ok (.aload_n 0, 1) := by decide +kernel
theorem dX8_count_64 : decode cX8_count 64 = .ok (.getfield 209, 3) := by decide +kernel
theorem dX8_count_67 : decode cX8_count 67 = .ok (.ireturn, 1) := by decide +kernel
theorem dX8_count_68 : decode cX8_count 68 = .ok (.aload_n 0, 1) := by decide +kernel
theorem dX8_count_69 : decode cX8_count 69 = .ok (.iconst (-1), 1) := by decide +kernel
theorem dX8_count_70 : decode cX8_count 70 = .ok (.iconst 0, 1) := by decide +kernel
theorem dX8_count_71 : decode cX8_count 71 = .ok (.invokevirtual 202, 3) := by decide +kernel
theorem dX8_count_74 : decode cX8_count 74 = .ok (.ireturn, 1) := by decide +kernel
theorem dX8_count_75 : decode cX8_count 75 = .ok (.iconst 0, 1) := by decide +kernel
theorem dX8_count_76 : decode cX8_count 76 = .ok (.istore_n 2, 1) := by decide +kernel
theorem dX8_count_77 : decode cX8_count 77 = .ok (.iconst 0, 1) := by decide +kernel
theorem dX8_count_78 : decode cX8_count 78 = .ok (.istore_n 3, 1) := by decide +kernel
theorem dX8_count_79 : decode cX8_count 79 = .ok (.iload_n 3, 1) := by decide +kernel
theorem dX8_count_80 : decode cX8_count 80 = .ok (.aload_n 0, 1) := by decide +kernel
theorem dX8_count_81 : decode cX8_count 81 = .ok (.getfield 99, 3) := by decide +kernel
theorem dX8_count_84 : decode cX8_count 84 = .ok (.if_icmp .ge 18, 3) := by decide +kernel
theorem dX8_count_87 : decode cX8_count 87 = .ok (.iload_n 2, 1) := by decide +kernel
theorem dX8_count_88 : decode cX8_count 88 = .ok (.aload_n 0, 1) := by decide +kernel
theorem dX8_count_89 : decode cX8_count 89 = .ok (.getfield 25, 3) := by decide +kernel
theorem dX8_count_92 : decode cX8_count 92 = .ok (.iload_n 3, 1) := by decide +kernel
theorem dX8_count_93 : decode cX8_count 93 = .ok (.iaload, 1) := by decide +kernel
theorem dX8_count_94 : decode cX8_count 94 = .ok (.iadd, 1) := by decide +kernel
theorem dX8_count_95 : decode cX8_count 95 = .ok (.istore_n 2, 1) := by decide +kernel
theorem dX8_count_96 : decode cX8_count 96 = .ok (.iinc 3 1, 3) := by decide +kernel
theorem dX8_count_99 : decode cX8_count 99 = .ok (.goto (-20), 3) := by decide +kernel
theorem dX8_count_102 : decode cX8_count 102 = .ok (.iload_n 2, 1) := by decide +kernel
theorem dX8_count_103 : decode cX8_count 103 = .ok (.ireturn, 1) := by decide +kernel
theorem dX8_count_104 : decode cX8_count 104 = .ok (.aload_n 0, 1) := by decide +kernel
theorem dX8_count_105 : decode cX8_count 105 = .ok (.getfield 206, 3) := by decide +kernel
theorem dX8_count_108 : decode cX8_count 108 = .ok (.ireturn, 1) := by decide +kernel
theorem dX8_count_109 : decode cX8_count 109 = .ok (.aload_n 0, 1) := by decide +kernel
theorem dX8_count_110 : decode cX8_count 110 = .ok (.getfield 111, 3) := by decide +kernel
theorem dX8_count_113 : decode cX8_count 113 = .ok (.ireturn, 1) := by decide +kernel
theorem dX8_count_114 : decode cX8_count 114 = .ok (.iconst (-1), 1) := by decide +kernel
theorem dX8_count_115 : decode cX8_count 115 = .ok (.ireturn, 1) := by decide +kernel
