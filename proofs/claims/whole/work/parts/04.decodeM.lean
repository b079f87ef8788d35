theorem zd_M_init_0 : decode zc_M_init 0 = .ok (.aload_n 0, 1) := by decide +kernel
theorem zd_M_init_1 : decode zc_M_init 1 = .ok (.invokespecial 1, 3) := by decide +kernel
theorem zd_M_init_4 : decode zc_M_init 4 = .ok (.aload_n 0, 1) := by decide +kernel
theorem zd_M_init_5 : decode zc_M_init 5 = .ok (.bipush 120, 2) := by decide +kernel
theorem zd_M_init_7 : decode zc_M_init 7 = .ok (.newarray .int, 2) := by decide +kernel
theorem zd_M_init_9 : decode zc_M_init 9 = .ok (.putfield 7, 3) := by decide +kernel
theorem zd_M_init_12 : decode zc_M_init 12 = .ok (.aload_n 0, 1) := by decide +kernel
theorem zd_M_init_13 : decode zc_M_init 13 = .ok (.bipush 120, 2) := by decide +kernel
theorem zd_M_init_15 : decode zc_M_init 15 = .ok (.newarray .int, 2) := by decide +kernel
theorem zd_M_init_17 : decode zc_M_init 17 = .ok (.putfield 13, 3) := by decide +kernel
theorem zd_M_init_20 : decode zc_M_init 20 = .ok (.aload_n 0, 1) := by decide +kernel
theorem zd_M_init_21 : decode zc_M_init 21 = .ok (.sipush 360, 3) := by decide +kernel
theorem zd_M_init_24 : decode zc_M_init 24 = .ok (.newarray .int, 2) := by decide +kernel
theorem zd_M_init_26 : decode zc_M_init 26 = .ok (.putfield 16, 3) := by decide +kernel
theorem zd_M_init_29 : decode zc_M_init 29 = .ok (.aload_n 0, 1) := by decide +kernel
theorem zd_M_init_30 : decode zc_M_init 30 = .ok (.bipush 120, 2) := by decide +kernel
theorem zd_M_init_32 : decode zc_M_init 32 = .ok (.newarray .int, 2) := by decide +kernel
theorem zd_M_init_34 : decode zc_M_init 34 = .ok (.putfield 19, 3) := by decide +kernel
theorem zd_M_init_37 : decode zc_M_init 37 = .ok (.aload_n 0, 1) := by decide +kernel
theorem zd_M_init_38 : decode zc_M_init 38 = .ok (.bipush 120, 2) := by decide +kernel
theorem zd_M_init_40 : decode zc_M_init 40 = .ok (.newarray .int, 2) := by decide +kernel
theorem zd_M_init_42 : decode zc_M_init 42 = .ok (.putfield 22, 3) := by decide +kernel
theorem zd_M_init_45 : decode zc_M_init 45 = .ok (.aload_n 0, 1) := by decide +kernel
theorem zd_M_init_46 : decode zc_M_init 46 = .ok (.bipush 120, 2) := by decide +kernel
theorem zd_M_init_48 : decode zc_M_init 48 = .ok (.newarray .boolean, 2) := by decide +kernel
theorem zd_M_init_50 : decode zc_M_init 50 = .ok (.putfield 25, 3) := by decide +kernel
theorem zd_M_init_53 : decode zc_M_init 53 = .ok (.aload_n 0, 1) := by decide +kernel
theorem zd_M_init_54 : decode zc_M_init 54 = .ok (.sipush 960, 3) := by decide +kernel
theorem zd_M_init_57 : decode zc_M_init 57 = .ok (.newarray .boolean, 2) := by decide +kernel
theorem zd_M_init_59 : decode zc_M_init 59 = .ok (.putfield 29, 3) := by decide +kernel
theorem zd_M_init_62 : decode zc_M_init 62 = .ok (.aload_n 0, 1) := by decide +kernel
theorem zd_M_init_63 : decode zc_M_init 63 = .ok (.sipush 200, 3) := by decide +kernel
theorem zd_M_init_66 : decode zc_M_init 66 = .ok (.newarray .int, 2) := by decide +kernel
theorem zd_M_init_68 : decode zc_M_init 68 = .ok (.putfield 32, 3) := by decide +kernel
theorem zd_M_init_71 : decode zc_M_init 71 = .ok (.aload_n 0, 1) := by decide +kernel
theorem zd_M_init_72 : decode zc_M_init 72 = .ok (.sipush 200, 3) := by decide +kernel
theorem zd_M_init_75 : decode zc_M_init 75 = .ok (.newarray .int, 2) := by decide +kernel
theorem zd_M_init_77 : decode zc_M_init 77 = .ok (.putfield 35, 3) := by decide +kernel
theorem zd_M_init_80 : decode zc_M_init 80 = .ok (.aload_n 0, 1) := by decide +kernel
theorem zd_M_init_81 : decode zc_M_init 81 = .ok (.sipush 200, 3) := by decide +kernel
theorem zd_M_init_84 : decode zc_M_init 84 = .ok (.newarray .int, 2) := by decide +kernel
theorem zd_M_init_86 : decode zc_M_init 86 = .ok (.putfield 38, 3) := by decide +kernel
theorem zd_M_init_89 : decode zc_M_init 89 = .ok (.aload_n 0, 1) := by decide +kernel
theorem zd_M_init_90 : decode zc_M_init 90 = .ok (.sipush 200, 3) := by decide +kernel
theorem zd_M_init_93 : decode zc_M_init 93 = .ok (.newarray .int, 2) := by decide +kernel
theorem zd_M_init_95 : decode zc_M_init 95 = .ok (.putfield 41, 3) := by decide +kernel
theorem zd_M_init_98 : decode zc_M_init 98 = .ok (.aload_n 0, 1) := by decide +kernel
theorem zd_M_init_99 : decode zc_M_init 99 = .ok (.bipush 10, 2) := by decide +kernel
theorem zd_M_init_101 : decode zc_M_init 101 = .ok (.newarray .int, 2) := by decide +kernel
theorem zd_M_init_103 : decode zc_M_init 103 = .ok (.putfield 44, 3) := by decide +kernel
theorem zd_M_init_106 : decode zc_M_init 106 = .ok (.aload_n 0, 1) := by decide +kernel
theorem zd_M_init_107 : decode zc_M_init 107 = .ok (.bipush 10, 2) := by decide +kernel
theorem zd_M_init_109 : decode zc_M_init 109 = .ok (.newarray .int, 2) := by decide +kernel
theorem zd_M_init_111 : decode zc_M_init 111 = .ok (.putfield 47, 3) := by decide +kernel
theorem zd_M_init_114 : decode zc_M_init 114 = .ok (.aload_n 0, 1) := by decide +kernel
theorem zd_M_init_115 : decode zc_M_init 115 = .ok (.bipush 10, 2) := by decide +kernel
theorem zd_M_init_117 : decode zc_M_init 117 = .ok (.newarray .int, 2) := by decide +kernel
theorem zd_M_init_119 : decode zc_M_init 119 = .ok (.putfield 50, 3) := by decide +kernel
theorem zd_M_init_122 : decode zc_M_init 122 = .ok (.aload_n 0, 1) := by decide +kernel
theorem zd_M_init_123 : decode zc_M_init 123 = .ok (.bipush 30, 2) := by decide +kernel
theorem zd_M_init_125 : decode zc_M_init 125 = .ok (.newarray .int, 2) := by decide +kernel
theorem zd_M_init_127 : decode zc_M_init 127 = .ok (.putfield 53, 3) := by decide +kernel
theorem zd_M_init_130 : decode zc_M_init 130 = .ok (.aload_n 0, 1) := by decide +kernel
theorem zd_M_init_131 : decode zc_M_init 131 = .ok (.bipush 30, 2) := by decide +kernel
theorem zd_M_init_133 : decode zc_M_init 133 = .ok (.newarray .int, 2) := by decide +kernel
theorem zd_M_init_135 : decode zc_M_init 135 = .ok (.putfield 56, 3) := by decide +kernel
theorem zd_M_init_138 : decode zc_M_init 138 = .ok (.aload_n 0, 1) := by decide +kernel
theorem zd_M_init_139 : decode zc_M_init 139 = .ok (.bipush 30, 2) := by decide +kernel
theorem zd_M_init_141 : decode zc_M_init 141 = .ok (.newarray .int, 2) := by decide +kernel
theorem zd_M_init_143 : decode zc_M_init 143 = .ok (.putfield 59, 3) := by decide +kernel
theorem zd_M_init_146 : decode zc_M_init 146 = .ok (.aload_n 0, 1) := by decide +kernel
theorem zd_M_init_147 : decode zc_M_init 147 = .ok (.iconst 4, 1) := by decide +kernel
theorem zd_M_init_148 : decode zc_M_init 148 = .ok (.newarray .int, 2) := by decide +kernel
theorem zd_M_init_150 : decode zc_M_init 150 = .ok (.putfield 62, 3) := by decide +kernel
theorem zd_M_init_153 : decode zc_M_init 153 = .ok (.aload_n 0, 1) := by decide +kernel
theorem zd_M_init_154 : decode zc_M_init 154 = .ok (.bipush 16, 2) := by decide +kernel
theorem zd_M_init_156 : decode zc_M_init 156 = .ok (.newarray .int, 2) := by decide +kernel
theorem zd_M_init_158 : decode zc_M_init 158 = .ok (.putfield 65, 3) := by decide +kernel
theorem zd_M_init_161 : decode zc_M_init 161 = .ok (.aload_n 0, 1) := by decide +kernel
theorem zd_M_init_162 : decode zc_M_init 162 = .ok (.bipush 32, 2) := by decide +kernel
theorem zd_M_init_164 : decode zc_M_init 164 = .ok (.newarray .int, 2) := by decide +kernel
theorem zd_M_init_166 : decode zc_M_init 166 = .ok (.putfield 68, 3) := by decide +kernel
theorem zd_M_init_169 : decode zc_M_init 169 = .ok (.aload_n 0, 1) := by decide +kernel
theorem zd_M_init_170 : decode zc_M_init 170 = .ok (.bipush 40, 2) := by decide +kernel
theorem zd_M_init_172 : decode zc_M_init 172 = .ok (.newarray .int, 2) := by decide +kernel
theorem zd_M_init_174 : decode zc_M_init 174 = .ok (.putfield 71, 3) := by decide +kernel
theorem zd_M_init_177 : decode zc_M_init 177 = .ok (.aload_n 0, 1) := by decide +kernel
theorem zd_M_init_178 : decode zc_M_init 178 = .ok (.bipush 40, 2) := by decide +kernel
theorem zd_M_init_180 : decode zc_M_init 180 = .ok (.newarray .int, 2) := by decide +kernel
theorem zd_M_init_182 : decode zc_M_init 182 = .ok (.putfield 74, 3) := by decide +kernel
theorem zd_M_init_185 : decode zc_M_init 185 = .ok (.aload_n 0, 1) := by decide +kernel
theorem zd_M_init_186 : decode zc_M_init 186 = .ok (.bipush 40, 2) := by decide +kernel
theorem zd_M_init_188 : decode zc_M_init 188 = .ok (.newarray .int, 2) := by decide +kernel
theorem zd_M_init_190 : decode zc_M_init 190 = .ok (.putfield 77, 3) := by decide +kernel
theorem zd_M_init_193 : decode zc_M_init 193 = .ok (.aload_n 0, 1) := by decide +kernel
theorem zd_M_init_194 : decode zc_M_init 194 = .ok (.bipush 40, 2) := by decide +kernel
theorem zd_M_init_196 : decode zc_M_init 196 = .ok (.newarray .int, 2) := by decide +kernel
theorem zd_M_init_198 : decode zc_M_init 198 = .ok (.putfield 80, 3) := by decide +kernel
theorem zd_M_init_201 : decode zc_M_init 201 = .ok (.aload_n 0, 1) := by decide +kernel
theorem zd_M_init_202 : decode zc_M_init 202 = .ok (.bipush 60, 2) := by decide +kernel
theorem zd_M_init_204 : decode zc_M_init 204 = .ok (.newarray .int, 2) := by decide +kernel
theorem zd_M_init_206 : decode zc_M_init 206 = .ok (.putfield 83, 3) := by decide +kernel
theorem zd_M_init_209 : decode zc_M_init 209 = .ok (.aload_n 0, 1) := by decide +kernel
theorem zd_M_init_210 : decode zc_M_init 210 = .ok (.bipush 60, 2) := by decide +kernel
theorem zd_M_init_212 : decode zc_M_init 212 = .ok (.newarray .int, 2) := by decide +kernel
theorem zd_M_init_214 : decode zc_M_init 214 = .ok (.putfield 86, 3) := by decide +kernel
theorem zd_M_init_217 : decode zc_M_init 217 = .ok (.aload_n 0, 1) := by decide +kernel
theorem zd_M_init_218 : decode zc_M_init 218 = .ok (.bipush 60, 2) := by decide +kernel
theorem zd_M_init_220 : decode zc_M_init 220 = .ok (.newarray .int, 2) := by decide +kernel
theorem zd_M_init_222 : decode zc_M_init 222 = .ok (.putfield 89, 3) := by decide +kernel
theorem zd_M_init_225 : decode zc_M_init 225 = .ok (.aload_n 0, 1) := by decide +kernel
theorem zd_M_init_226 : decode zc_M_init 226 = .ok (.bipush 60, 2) := by decide +kernel
theorem zd_M_init_228 : decode zc_M_init 228 = .ok (.newarray .int, 2) := by decide +kernel
theorem zd_M_init_230 : decode zc_M_init 230 = .ok (.putfield 92, 3) := by decide +kernel
theorem zd_M_init_233 : decode zc_M_init 233 = .ok (.aload_n 0, 1) := by decide +kernel
theorem zd_M_init_234 : decode zc_M_init 234 = .ok (.sipush 2400, 3) := by decide +kernel
theorem zd_M_init_237 : decode zc_M_init 237 = .ok (.newarray .int, 2) := by decide +kernel
theorem zd_M_init_239 : decode zc_M_init 239 = .ok (.putfield 95, 3) := by decide +kernel
theorem zd_M_init_242 : decode zc_M_init 242 = .ok (.iconst 0, 1) := by decide +kernel
theorem zd_M_init_243 : decode zc_M_init 243 = .ok (.istore_n 1, 1) := by decide +kernel
theorem zd_M_init_244 : decode zc_M_init 244 = .ok (.iload_n 1, 1) := by decide +kernel
theorem zd_M_init_245 : decode zc_M_init 245 = .ok (.bipush 16, 2) := by decide +kernel
theorem zd_M_init_247 : decode zc_M_init 247 = .ok (.if_icmp .ge 16, 3) := by decide +kernel
theorem zd_M_init_250 : decode zc_M_init 250 = .ok (.aload_n 0, 1) := by decide +kernel
theorem zd_M_init_251 : decode zc_M_init 251 = .ok (.getfield 65, 3) := by decide +kernel
theorem zd_M_init_254 : decode zc_M_init 254 = .ok (.iload_n 1, 1) := by decide +kernel
theorem zd_M_init_255 : decode zc_M_init 255 = .ok (.iconst (-1), 1) := by decide +kernel
theorem zd_M_init_256 : decode zc_M_init 256 = .ok (.iastore, 1) := by decide +kernel
theorem zd_M_init_257 : decode zc_M_init 257 = .ok (.iinc 1 1, 3) := by decide +kernel
theorem zd_M_init_260 : decode zc_M_init 260 = .ok (.goto (-16), 3) := by decide +kernel
theorem zd_M_init_263 : decode zc_M_init 263 = .ok (.iconst 0, 1) := by decide +kernel
theorem zd_M_init_264 : decode zc_M_init 264 = .ok (.istore_n 1, 1) := by decide +kernel
theorem zd_M_init_265 : decode zc_M_init 265 = .ok (.iload_n 1, 1) := by decide +kernel
theorem zd_M_init_266 : decode zc_M_init 266 = .ok (.bipush 32, 2) := by decide +kernel
theorem zd_M_init_268 : decode zc_M_init 268 = .ok (.if_icmp .ge 16, 3) := by decide +kernel
theorem zd_M_init_271 : decode zc_M_init 271 = .ok (.aload_n 0, 1) := by decide +kernel
theorem zd_M_init_272 : decode zc_M_init 272 = .ok (.getfield 68, 3) := by decide +kernel
theorem zd_M_init_275 : decode zc_M_init 275 = .ok (.iload_n 1, 1) := by decide +kernel
theorem zd_M_init_276 : decode zc_M_init 276 = .ok (.iconst (-1), 1) := by decide +kernel
theorem zd_M_init_277 : decode zc_M_init 277 = .ok (.iastore, 1) := by decide +kernel
theorem zd_M_init_278 : decode zc_M_init 278 = .ok (.iinc 1 1, 3) := by decide +kernel
theorem zd_M_init_281 : decode zc_M_init 281 = .ok (.goto (-16), 3) := by decide +kernel
theorem zd_M_init_284 : decode zc_M_init 284 = .ok (.return_, 1) := by decide +kernel
theorem zd_M_thrown_0 : decode zc_M_thrown 0 = .ok (.aload_n 0, 1) := by decide +kernel
theorem zd_M_thrown_1 : decode zc_M_thrown 1 = .ok (.getfield 98, 3) := by decide +kernel
theorem zd_M_thrown_4 : decode zc_M_thrown 4 = .ok (.ireturn, 1) := by decide +kernel
theorem zd_M_throwing_0 : decode zc_M_throwing 0 = .ok (.aload_n 0, 1) := by decide +kernel
theorem zd_M_throwing_1 : decode zc_M_throwing 1 = .ok (.iload_n 1, 1) := by decide +kernel
theorem zd_M_throwing_2 : decode zc_M_throwing 2 = .ok (.ifCond .eq 7, 3) := by decide +kernel
theorem zd_M_throwing_5 : decode zc_M_throwing 5 = .ok (.iconst 1, 1) := by decide +kernel
theorem zd_M_throwing_6 : decode zc_M_throwing 6 = .ok (.goto 20, 3) := by decide +kernel
theorem zd_M_throwing_9 : decode zc_M_throwing 9 = .ok (.iload_n 2, 1) := by decide +kernel
theorem zd_M_throwing_10 : decode zc_M_throwing 10 = .ok (.ifCond .eq 7, 3) := by decide +kernel
theorem zd_M_throwing_13 : decode zc_M_throwing 13 = .ok (.iconst 2, 1) := by decide +kernel
theorem zd_M_throwing_14 : decode zc_M_throwing 14 = .ok (.goto 12, 3) := by decide +kernel
theorem zd_M_throwing_17 : decode zc_M_throwing 17 = .ok (.iload_n 3, 1) := by decide +kernel
theorem zd_M_throwing_18 : decode zc_M_throwing 18 = .ok (.ifCond .eq 7, 3) := by decide +kernel
theorem zd_M_throwing_21 : decode zc_M_throwing 21 = .ok (.iconst 3, 1) := by decide +kernel
theorem zd_M_throwing_22 : decode zc_M_throwing 22 = .ok (.goto 4, 3) := by decide +kernel
theorem zd_M_throwing_25 : decode zc_M_throwing 25 = .ok (.iconst 0, 1) := by decide +kernel
theorem zd_M_throwing_26 : decode zc_M_throwing 26 = .ok (.putfield 98, 3) := by decide +kernel
theorem zd_M_throwing_29 : decode zc_M_throwing 29 = .ok (.aload_n 0, 1) := by decide +kernel
theorem zd_M_throwing_30 : decode zc_M_throwing 30 = .ok (.getfield 98, 3) := by decide +kernel
theorem zd_M_throwing_33 : decode zc_M_throwing 33 = .ok (.ifCond .le 7, 3) := by decide +kernel
theorem zd_M_throwing_36 : decode zc_M_throwing 36 = .ok (.iconst 1, 1) := by decide +kernel
theorem zd_M_throwing_37 : decode zc_M_throwing 37 = .ok (.goto 4, 3) := by decide +kernel
theorem zd_M_throwing_40 : decode zc_M_throwing 40 = .ok (.iconst 0, 1) := by decide +kernel
theorem zd_M_throwing_41 : decode zc_M_throwing 41 = .ok (.ireturn, 1) := by decide +kernel
theorem zd_M_in_0 : decode zc_M_in 0 = .ok (.iload_n 0, 1) := by decide +kernel
theorem zd_M_in_1 : decode zc_M_in 1 = .ok (.iload_n 1, 1) := by decide +kernel
theorem zd_M_in_2 : decode zc_M_in 2 = .ok (.if_icmp .lt 12, 3) := by decide +kernel
theorem zd_M_in_5 : decode zc_M_in 5 = .ok (.iload_n 0, 1) := by decide +kernel
theorem zd_M_in_6 : decode zc_M_in 6 = .ok (.iload_n 2, 1) := by decide +kernel
theorem zd_M_in_7 : decode zc_M_in 7 = .ok (.if_icmp .gt 7, 3) := by decide +kernel
theorem zd_M_in_10 : decode zc_M_in 10 = .ok (.iconst 1, 1) := by decide +kernel
theorem zd_M_in_11 : decode zc_M_in 11 = .ok (.goto 4, 3) := by decide +kernel
theorem zd_M_in_14 : decode zc_M_in 14 = .ok (.iconst 0, 1) := by decide +kernel
theorem zd_M_in_15 : decode zc_M_in 15 = .ok (.ireturn, 1) := by decide +kernel
theorem zd_M_isDay_0 : decode zc_M_isDay 0 = .ok (.iload_n 0, 1) := by decide +kernel
theorem zd_M_isDay_1 : decode zc_M_isDay 1 = .ok (.iconst 0, 1) := by decide +kernel
theorem zd_M_isDay_2 : decode zc_M_isDay 2 = .ok (.ldc 102, 2) := by decide +kernel
theorem zd_M_isDay_4 : decode zc_M_isDay 4 = .ok (.invokestatic 103, 3) := by decide +kernel
theorem zd_M_isDay_7 : decode zc_M_isDay 7 = .ok (.ireturn, 1) := by decide +kernel
theorem zd_M_isThing_0 : decode zc_M_isThing 0 = .ok (.iload_n 1, 1) := by decide +kernel
theorem zd_M_isThing_1 : decode zc_M_isThing 1 = .ok (.iconst 0, 1) := by decide +kernel
theorem zd_M_isThing_2 : decode zc_M_isThing 2 = .ok (.aload_n 0, 1) := by decide +kernel
theorem zd_M_isThing_3 : decode zc_M_isThing 3 = .ok (.getfield 107, 3) := by decide +kernel
theorem zd_M_isThing_6 : decode zc_M_isThing 6 = .ok (.iconst 1, 1) := by decide +kernel
theorem zd_M_isThing_7 : decode zc_M_isThing 7 = .ok (.isub, 1) := by decide +kernel
theorem zd_M_isThing_8 : decode zc_M_isThing 8 = .ok (.invokestatic 103, 3) := by decide +kernel
theorem zd_M_isThing_11 : decode zc_M_isThing 11 = .ok (.ireturn, 1) := by decide +kernel
theorem zd_M_isPerson_0 : decode zc_M_isPerson 0 = .ok (.iload_n 0, 1) := by decide +kernel
theorem zd_M_isPerson_1 : decode zc_M_isPerson 1 = .ok (.iconst 0, 1) := by decide +kernel
theorem zd_M_isPerson_2 : decode zc_M_isPerson 2 = .ok (.bipush 31, 2) := by decide +kernel
theorem zd_M_isPerson_4 : decode zc_M_isPerson 4 = .ok (.invokestatic 103, 3) := by decide +kernel
theorem zd_M_isPerson_7 : decode zc_M_isPerson 7 = .ok (.ireturn, 1) := by decide +kernel
theorem zd_M_isRow_0 : decode zc_M_isRow 0 = .ok (.iload_n 1, 1) := by decide +kernel
theorem zd_M_isRow_1 : decode zc_M_isRow 1 = .ok (.iconst 0, 1) := by decide +kernel
theorem zd_M_isRow_2 : decode zc_M_isRow 2 = .ok (.aload_n 0, 1) := by decide +kernel
theorem zd_M_isRow_3 : decode zc_M_isRow 3 = .ok (.getfield 110, 3) := by decide +kernel
theorem zd_M_isRow_6 : decode zc_M_isRow 6 = .ok (.iconst 1, 1) := by decide +kernel
theorem zd_M_isRow_7 : decode zc_M_isRow 7 = .ok (.isub, 1) := by decide +kernel
theorem zd_M_isRow_8 : decode zc_M_isRow 8 = .ok (.invokestatic 103, 3) := by decide +kernel
theorem zd_M_isRow_11 : decode zc_M_isRow 11 = .ok (.ireturn, 1) := by decide +kernel
theorem zd_M_thing_0 : decode zc_M_thing 0 = .ok (.aload_n 0, 1) := by decide +kernel
theorem zd_M_thing_1 : decode zc_M_thing 1 = .ok (.aload_n 0, 1) := by decide +kernel
theorem zd_M_thing_2 : decode zc_M_thing 2 = .ok (.getfield 107, 3) := by decide +kernel
theorem zd_M_thing_5 : decode zc_M_thing 5 = .ok (.bipush 16, 2) := by decide +kernel
theorem zd_M_thing_7 : decode zc_M_thing 7 = .ok (.if_icmp .ne 7, 3) := by decide +kernel
theorem zd_M_thing_10 : decode zc_M_thing 10 = .ok (.iconst 1, 1) := by decide +kernel
theorem zd_M_thing_11 : decode zc_M_thing 11 = .ok (.goto 4, 3) := by decide +kernel
theorem zd_M_thing_14 : decode zc_M_thing 14 = .ok (.iconst 0, 1) := by decide +kernel
theorem zd_M_thing_15 : decode zc_M_thing 15 = .ok (.iconst 0, 1) := by decide +kernel
theorem zd_M_thing_16 : decode zc_M_thing 16 = .ok (.iconst 0, 1) := by decide +kernel
theorem zd_M_thing_17 : decode zc_M_thing 17 = .ok (.invokevirtual 113, 3) := by decide +kernel
theorem zd_M_thing_20 : decode zc_M_thing 20 = .ok (.ifCond .eq 5, 3) := by decide +kernel
theorem zd_M_thing_23 : decode zc_M_thing 23 = .ok (.iconst 0, 1) := by decide +kernel
theorem zd_M_thing_24 : decode zc_M_thing 24 = .ok (.ireturn, 1) := by decide +kernel
theorem zd_M_thing_25 : decode zc_M_thing 25 = .ok (.aload_n 0, 1) := by decide +kernel
theorem zd_M_thing_26 : decode zc_M_thing 26 = .ok (.dup, 1) := by decide +kernel
theorem zd_M_thing_27 : decode zc_M_thing 27 = .ok (.getfield 107, 3) := by decide +kernel
theorem zd_M_thing_30 : decode zc_M_thing 30 = .ok (.iconst 1, 1) := by decide +kernel
theorem zd_M_thing_31 : decode zc_M_thing 31 = .ok (.iadd, 1) := by decide +kernel
theorem zd_M_thing_32 : decode zc_M_thing 32 = .ok (.putfield 107, 3) := by decide +kernel
theorem zd_M_thing_35 : decode zc_M_thing 35 = .ok (.aload_n 0, 1) := by decide +kernel
theorem zd_M_thing_36 : decode zc_M_thing 36 = .ok (.getfield 107, 3) := by decide +kernel
theorem zd_M_thing_39 : decode zc_M_thing 39 = .ok (.iconst 1, 1) := by decide +kernel
theorem zd_M_thing_40 : decode zc_M_thing 40 = .ok (.isub, 1) := by decide +kernel
theorem zd_M_thing_41 : decode zc_M_thing 41 = .ok (.ireturn, 1) := by decide +kernel
theorem zd_M_owner_0 : decode zc_M_owner 0 = .ok (.iload_n 3, 1) := by decide +kernel
theorem zd_M_owner_1 : decode zc_M_owner 1 = .ok (.invokestatic 117, 3) := by decide +kernel
theorem zd_M_owner_4 : decode zc_M_owner 4 = .ok (.ifCond .eq 25, 3) := by decide +kernel
theorem zd_M_owner_7 : decode zc_M_owner 7 = .ok (.iload 4, 2) := by decide +kernel
theorem zd_M_owner_9 : decode zc_M_owner 9 = .ok (.invokestatic 117, 3) := by decide +kernel
theorem zd_M_owner_12 : decode zc_M_owner 12 = .ok (.ifCond .eq 17, 3) := by decide +kernel
theorem zd_M_owner_15 : decode zc_M_owner 15 = .ok (.iload 5, 2) := by decide +kernel
theorem zd_M_owner_17 : decode zc_M_owner 17 = .ok (.invokestatic 117, 3) := by decide +kernel
theorem zd_M_owner_20 : decode zc_M_owner 20 = .ok (.ifCond .eq 9, 3) := by decide +kernel
theorem zd_M_owner_23 : decode zc_M_owner 23 = .ok (.iload_n 3, 1) := by decide +kernel
theorem zd_M_owner_24 : decode zc_M_owner 24 = .ok (.iload 4, 2) := by decide +kernel
theorem zd_M_owner_26 : decode zc_M_owner 26 = .ok (.if_icmp .le 7, 3) := by decide +kernel
theorem zd_M_owner_29 : decode zc_M_owner 29 = .ok (.iconst 1, 1) := by decide +kernel
theorem zd_M_owner_30 : decode zc_M_owner 30 = .ok (.goto 4, 3) := by decide +kernel
theorem zd_M_owner_33 : decode zc_M_owner 33 = .ok (.iconst 0, 1) := by decide +kernel
theorem zd_M_owner_34 : decode zc_M_owner 34 = .ok (.istore 6, 2) := by decide +kernel
theorem zd_M_owner_36 : decode zc_M_owner 36 = .ok (.aload_n 0, 1) := by decide +kernel
theorem zd_M_owner_37 : decode zc_M_owner 37 = .ok (.aload_n 0, 1) := by decide +kernel
theorem zd_M_owner_38 : decode zc_M_owner 38 = .ok (.iload_n 1, 1) := by decide +kernel
theorem zd_M_owner_39 : decode zc_M_owner 39 = .ok (.invokevirtual 121, 3) := by decide +kernel
theorem zd_M_owner_42 : decode zc_M_owner 42 = .ok (.ifCond .eq 10, 3) := by decide +kernel
theorem zd_M_owner_45 : decode zc_M_owner 45 = .ok (.iload_n 2, 1) := by decide +kernel
theorem zd_M_owner_46 : decode zc_M_owner 46 = .ok (.invokestatic 124, 3) := by decide +kernel
theorem zd_M_owner_49 : decode zc_M_owner 49 = .ok (.ifCond .ne 7, 3) := by decide +kernel
theorem zd_M_owner_52 : decode zc_M_owner 52 = .ok (.iconst 1, 1) := by decide +kernel
theorem zd_M_owner_53 : decode zc_M_owner 53 = .ok (.goto 4, 3) := by decide +kernel
theorem zd_M_owner_56 : decode zc_M_owner 56 = .ok (.iconst 0, 1) := by decide +kernel
theorem zd_M_owner_57 : decode zc_M_owner 57 = .ok (.iload 6, 2) := by decide +kernel
theorem zd_M_owner_59 : decode zc_M_owner 59 = .ok (.aload_n 0, 1) := by decide +kernel
theorem zd_M_owner_60 : decode zc_M_owner 60 = .ok (.getfield 110, 3) := by decide +kernel
theorem zd_M_owner_63 : decode zc_M_owner 63 = .ok (.bipush 120, 2) := by decide +kernel
theorem zd_M_owner_65 : decode zc_M_owner 65 = .ok (.if_icmp .ne 7, 3) := by decide +kernel
theorem zd_M_owner_68 : decode zc_M_owner 68 = .ok (.iconst 1, 1) := by decide +kernel
theorem zd_M_owner_69 : decode zc_M_owner 69 = .ok (.goto 4, 3) := by decide +kernel
theorem zd_M_owner_72 : decode zc_M_owner 72 = .ok (.iconst 0, 1) := by decide +kernel
theorem zd_M_owner_73 : decode zc_M_owner 73 = .ok (.invokevirtual 113, 3) := by decide +kernel
theorem zd_M_owner_76 : decode zc_M_owner 76 = .ok (.ifCond .eq 5, 3) := by decide +kernel
theorem zd_M_owner_79 : decode zc_M_owner 79 = .ok (.iconst 0, 1) := by decide +kernel
theorem zd_M_owner_80 : decode zc_M_owner 80 = .ok (.ireturn, 1) := by decide +kernel
theorem zd_M_owner_81 : decode zc_M_owner 81 = .ok (.aload_n 0, 1) := by decide +kernel
theorem zd_M_owner_82 : decode zc_M_owner 82 = .ok (.getfield 7, 3) := by decide +kernel
theorem zd_M_owner_85 : decode zc_M_owner 85 = .ok (.aload_n 0, 1) := by decide +kernel
theorem zd_M_owner_86 : decode zc_M_owner 86 = .ok (.getfield 110, 3) := by decide +kernel
theorem zd_M_owner_89 : decode zc_M_owner 89 = .ok (.iload_n 1, 1) := by decide +kernel
theorem zd_M_owner_90 : decode zc_M_owner 90 = .ok (.iastore, 1) := by decide +kernel
theorem zd_M_owner_91 : decode zc_M_owner 91 = .ok (.aload_n 0, 1) := by decide +kernel
theorem zd_M_owner_92 : decode zc_M_owner 92 = .ok (.getfield 13, 3) := by decide +kernel
theorem zd_M_owner_95 : decode zc_M_owner 95 = .ok (.aload_n 0, 1) := by decide +kernel
theorem zd_M_owner_96 : decode zc_M_owner 96 = .ok (.getfield 110, 3) := by decide +kernel
theorem zd_M_owner_99 : decode zc_M_owner 99 = .ok (.iload 5, 2) := by decide +kernel
theorem zd_M_owner_101 : decode zc_M_owner 101 = .ok (.iastore, 1) := by decide +kernel
theorem zd_M_owner_102 : decode zc_M_owner 102 = .ok (.aload_n 0, 1) := by decide +kernel
theorem zd_M_owner_103 : decode zc_M_owner 103 = .ok (.getfield 16, 3) := by decide +kernel
theorem zd_M_owner_106 : decode zc_M_owner 106 = .ok (.iconst 3, 1) := by decide +kernel
theorem zd_M_owner_107 : decode zc_M_owner 107 = .ok (.aload_n 0, 1) := by decide +kernel
theorem zd_M_owner_108 : decode zc_M_owner 108 = .ok (.getfield 110, 3) := by decide +kernel
theorem zd_M_owner_111 : decode zc_M_owner 111 = .ok (.imul, 1) := by decide +kernel
theorem zd_M_owner_112 : decode zc_M_owner 112 = .ok (.iload_n 2, 1) := by decide +kernel
theorem zd_M_owner_113 : decode zc_M_owner 113 = .ok (.iastore, 1) := by decide +kernel
theorem zd_M_owner_114 : decode zc_M_owner 114 = .ok (.aload_n 0, 1) := by decide +kernel
theorem zd_M_owner_115 : decode zc_M_owner 115 = .ok (.getfield 16, 3) := by decide +kernel
theorem zd_M_owner_118 : decode zc_M_owner 118 = .ok (.iconst 3, 1) := by decide +kernel
theorem zd_M_owner_119 : decode zc_M_owner 119 = .ok (.aload_n 0, 1) := by decide +kernel
theorem zd_M_owner_120 : decode zc_M_owner 120 = .ok (.getfield 110, 3) := by decide +kernel
theorem zd_M_owner_123 : decode zc_M_owner 123 = .ok (.imul, 1) := by decide +kernel
theorem zd_M_owner_124 : decode zc_M_owner 124 = .ok (.iconst 1, 1) := by decide +kernel
theorem zd_M_owner_125 : decode zc_M_owner 125 = .ok (.iadd, 1) := by decide +kernel
theorem zd_M_owner_126 : decode zc_M_owner 126 = .ok (.iload_n 3, 1) := by decide +kernel
theorem zd_M_owner_127 : decode zc_M_owner 127 = .ok (.iastore, 1) := by decide +kernel
theorem zd_M_owner_128 : decode zc_M_owner 128 = .ok (.aload_n 0, 1) := by decide +kernel
theorem zd_M_owner_129 : decode zc_M_owner 129 = .ok (.getfield 16, 3) := by decide +kernel
theorem zd_M_owner_132 : decode zc_M_owner 132 = .ok (.iconst 3, 1) := by decide +kernel
theorem zd_M_owner_133 : decode zc_M_owner 133 = .ok (.aload_n 0, 1) := by decide +kernel
theorem zd_M_owner_134 : decode zc_M_owner 134 = .ok (.getfield 110, 3) := by decide +kernel
theorem zd_M_owner_137 : decode zc_M_owner 137 = .ok (.imul, 1) := by decide +kernel
theorem zd_M_owner_138 : decode zc_M_owner 138 = .ok (.iconst 2, 1) := by decide +kernel
theorem zd_M_owner_139 : decode zc_M_owner 139 = .ok (.iadd, 1) := by decide +kernel
theorem zd_M_owner_140 : decode zc_M_owner 140 = .ok (.iload 4, 2) := by decide +kernel
theorem zd_M_owner_142 : decode zc_M_owner 142 = .ok (.iastore, 1) := by decide +kernel
theorem zd_M_owner_143 : decode zc_M_owner 143 = .ok (.aload_n 0, 1) := by decide +kernel
theorem zd_M_owner_144 : decode zc_M_owner 144 = .ok (.getfield 19, 3) := by decide +kernel
theorem zd_M_owner_147 : decode zc_M_owner 147 = .ok (.aload_n 0, 1) := by decide +kernel
theorem zd_M_owner_148 : decode zc_M_owner 148 = .ok (.getfield 110, 3) := by decide +kernel
theorem zd_M_owner_151 : decode zc_M_owner 151 = .ok (.iconst 1, 1) := by decide +kernel
theorem zd_M_owner_152 : decode zc_M_owner 152 = .ok (.iastore, 1) := by decide +kernel
theorem zd_M_owner_153 : decode zc_M_owner 153 = .ok (.aload_n 0, 1) := by decide +kernel
theorem zd_M_owner_154 : decode zc_M_owner 154 = .ok (.getfield 22, 3) := by decide +kernel
theorem zd_M_owner_157 : decode zc_M_owner 157 = .ok (.aload_n 0, 1) := by decide +kernel
theorem zd_M_owner_158 : decode zc_M_owner 158 = .ok (.getfield 110, 3) := by decide +kernel
theorem zd_M_owner_161 : decode zc_M_owner 161 = .ok (.iconst 1, 1) := by decide +kernel
theorem zd_M_owner_162 : decode zc_M_owner 162 = .ok (.iastore, 1) := by decide +kernel
theorem zd_M_owner_163 : decode zc_M_owner 163 = .ok (.aload_n 0, 1) := by decide +kernel
theorem zd_M_owner_164 : decode zc_M_owner 164 = .ok (.dup, 1) := by decide +kernel
theorem zd_M_owner_165 : decode zc_M_owner 165 = .ok (.getfield 110, 3) := by decide +kernel
theorem zd_M_owner_168 : decode zc_M_owner 168 = .ok (.iconst 1, 1) := by decide +kernel
theorem zd_M_owner_169 : decode zc_M_owner 169 = .ok (.iadd, 1) := by decide +kernel
theorem zd_M_owner_170 : decode zc_M_owner 170 = .ok (.putfield 110, 3) := by decide +kernel
theorem zd_M_owner_173 : decode zc_M_owner 173 = .ok (.aload_n 0, 1) := by decide +kernel
theorem zd_M_owner_174 : decode zc_M_owner 174 = .ok (.getfield 110, 3) := by decide +kernel
theorem zd_M_owner_177 : decode zc_M_owner 177 = .ok (.iconst 1, 1) := by decide +kernel
theorem zd_M_owner_178 : decode zc_M_owner 178 = .ok (.isub, 1) := by decide +kernel
theorem zd_M_owner_179 : decode zc_M_owner 179 = .ok (.ireturn, 1) := by decide +kernel
theorem zd_M_share_0 : decode zc_M_share 0 = .ok (.aload_n 0, 1) := by decide +kernel
theorem zd_M_share_1 : decode zc_M_share 1 = .ok (.aload_n 0, 1) := by decide +kernel
theorem zd_M_share_2 : decode zc_M_share 2 = .ok (.iload_n 1, 1) := by decide +kernel
theorem zd_M_share_3 : decode zc_M_share 3 = .ok (.invokevirtual 127, 3) := by decide +kernel
theorem zd_M_share_6 : decode zc_M_share 6 = .ok (.ifCond .ne 7, 3) := by decide +kernel
theorem zd_M_share_9 : decode zc_M_share 9 = .ok (.iconst 1, 1) := by decide +kernel
theorem zd_M_share_10 : decode zc_M_share 10 = .ok (.goto 4, 3) := by decide +kernel
theorem zd_M_share_13 : decode zc_M_share 13 = .ok (.iconst 0, 1) := by decide +kernel
theorem zd_M_share_14 : decode zc_M_share 14 = .ok (.iload_n 2, 1) := by decide +kernel
theorem zd_M_share_15 : decode zc_M_share 15 = .ok (.iconst 1, 1) := by decide +kernel
theorem zd_M_share_16 : decode zc_M_share 16 = .ok (.if_icmp .lt 15, 3) := by decide +kernel
theorem zd_M_share_19 : decode zc_M_share 19 = .ok (.iload_n 2, 1) := by decide +kernel
theorem zd_M_share_20 : decode zc_M_share 20 = .ok (.iload_n 3, 1) := by decide +kernel
theorem zd_M_share_21 : decode zc_M_share 21 = .ok (.if_icmp .gt 10, 3) := by decide +kernel
theorem zd_M_share_24 : decode zc_M_share 24 = .ok (.iload_n 3, 1) := by decide +kernel
theorem zd_M_share_25 : decode zc_M_share 25 = .ok (.sipush 1000, 3) := by decide +kernel
theorem zd_M_share_28 : decode zc_M_share 28 = .ok (.if_icmp .le 7, 3) := by decide +kernel
theorem zd_M_share_31 : decode zc_M_share 31 = .ok (.iconst 1, 1) := by decide +kernel
theorem zd_M_share_32 : decode zc_M_share 32 = .ok (.goto 4, 3) := by decide +kernel
theorem zd_M_share_35 : decode zc_M_share 35 = .ok (.iconst 0, 1) := by decide +kernel
theorem zd_M_share_36 : decode zc_M_share 36 = .ok (.iconst 0, 1) := by decide +kernel
theorem zd_M_share_37 : decode zc_M_share 37 = .ok (.invokevirtual 113, 3) := by decide +kernel
theorem zd_M_share_40 : decode zc_M_share 40 = .ok (.ifCond .eq 4, 3) := by decide +kernel
theorem zd_M_share_43 : decode zc_M_share 43 = .ok (.return_, 1) := by decide +kernel
theorem zd_M_share_44 : decode zc_M_share 44 = .ok (.aload_n 0, 1) := by decide +kernel
theorem zd_M_share_45 : decode zc_M_share 45 = .ok (.getfield 19, 3) := by decide +kernel
theorem zd_M_share_48 : decode zc_M_share 48 = .ok (.iload_n 1, 1) := by decide +kernel
theorem zd_M_share_49 : decode zc_M_share 49 = .ok (.iload_n 2, 1) := by decide +kernel
theorem zd_M_share_50 : decode zc_M_share 50 = .ok (.iastore, 1) := by decide +kernel
theorem zd_M_share_51 : decode zc_M_share 51 = .ok (.aload_n 0, 1) := by decide +kernel
theorem zd_M_share_52 : decode zc_M_share 52 = .ok (.getfield 22, 3) := by decide +kernel
theorem zd_M_share_55 : decode zc_M_share 55 = .ok (.iload_n 1, 1) := by decide +kernel
theorem zd_M_share_56 : decode zc_M_share 56 = .ok (.iload_n 3, 1) := by decide +kernel
theorem zd_M_share_57 : decode zc_M_share 57 = .ok (.iastore, 1) := by decide +kernel
theorem zd_M_share_58 : decode zc_M_share 58 = .ok (.return_, 1) := by decide +kernel
theorem zd_M_doubt_0 : decode zc_M_doubt 0 = .ok (.aload_n 0, 1) := by decide +kernel
theorem zd_M_doubt_1 : decode zc_M_doubt 1 = .ok (.aload_n 0, 1) := by decide +kernel
theorem zd_M_doubt_2 : decode zc_M_doubt 2 = .ok (.iload_n 1, 1) := by decide +kernel
theorem zd_M_doubt_3 : decode zc_M_doubt 3 = .ok (.invokevirtual 127, 3) := by decide +kernel
theorem zd_M_doubt_6 : decode zc_M_doubt 6 = .ok (.ifCond .ne 7, 3) := by decide +kernel
theorem zd_M_doubt_9 : decode zc_M_doubt 9 = .ok (.iconst 1, 1) := by decide +kernel
theorem zd_M_doubt_10 : decode zc_M_doubt 10 = .ok (.goto 4, 3) := by decide +kernel
theorem zd_M_doubt_13 : decode zc_M_doubt 13 = .ok (.iconst 0, 1) := by decide +kernel
theorem zd_M_doubt_14 : decode zc_M_doubt 14 = .ok (.iconst 0, 1) := by decide +kernel
theorem zd_M_doubt_15 : decode zc_M_doubt 15 = .ok (.iconst 0, 1) := by decide +kernel
theorem zd_M_doubt_16 : decode zc_M_doubt 16 = .ok (.invokevirtual 113, 3) := by decide +kernel
theorem zd_M_doubt_19 : decode zc_M_doubt 19 = .ok (.ifCond .eq 5, 3) := by decide +kernel
theorem zd_M_doubt_22 : decode zc_M_doubt 22 = .ok (.iconst 0, 1) := by decide +kernel
theorem zd_M_doubt_23 : decode zc_M_doubt 23 = .ok (.ireturn, 1) := by decide +kernel
theorem zd_M_doubt_24 : decode zc_M_doubt 24 = .ok (.aload_n 0, 1) := by decide +kernel
theorem zd_M_doubt_25 : decode zc_M_doubt 25 = .ok (.getfield 25, 3) := by decide +kernel
theorem zd_M_doubt_28 : decode zc_M_doubt 28 = .ok (.iload_n 1, 1) := by decide +kernel
theorem zd_M_doubt_29 : decode zc_M_doubt 29 = .ok (.baload, 1) := by decide +kernel
theorem zd_M_doubt_30 : decode zc_M_doubt 30 = .ok (.istore_n 3, 1) := by decide +kernel
theorem zd_M_doubt_31 : decode zc_M_doubt 31 = .ok (.aload_n 0, 1) := by decide +kernel
theorem zd_M_doubt_32 : decode zc_M_doubt 32 = .ok (.getfield 25, 3) := by decide +kernel
theorem zd_M_doubt_35 : decode zc_M_doubt 35 = .ok (.iload_n 1, 1) := by decide +kernel
theorem zd_M_doubt_36 : decode zc_M_doubt 36 = .ok (.iload_n 2, 1) := by decide +kernel
theorem zd_M_doubt_37 : decode zc_M_doubt 37 = .ok (.bastore, 1) := by decide +kernel
theorem zd_M_doubt_38 : decode zc_M_doubt 38 = .ok (.iload_n 3, 1) := by decide +kernel
theorem zd_M_doubt_39 : decode zc_M_doubt 39 = .ok (.iload_n 2, 1) := by decide +kernel
theorem zd_M_doubt_40 : decode zc_M_doubt 40 = .ok (.if_icmp .eq 7, 3) := by decide +kernel
theorem zd_M_doubt_43 : decode zc_M_doubt 43 = .ok (.iconst 1, 1) := by decide +kernel
theorem zd_M_doubt_44 : decode zc_M_doubt 44 = .ok (.goto 4, 3) := by decide +kernel
theorem zd_M_doubt_47 : decode zc_M_doubt 47 = .ok (.iconst 0, 1) := by decide +kernel
theorem zd_M_doubt_48 : decode zc_M_doubt 48 = .ok (.ireturn, 1) := by decide +kernel
theorem zd_M_correct_0 : decode zc_M_correct 0 = .ok (.aload_n 0, 1) := by decide +kernel
theorem zd_M_correct_1 : decode zc_M_correct 1 = .ok (.iload_n 1, 1) := by decide +kernel
theorem zd_M_correct_2 : decode zc_M_correct 2 = .ok (.invokevirtual 127, 3) := by decide +kernel
theorem zd_M_correct_5 : decode zc_M_correct 5 = .ok (.ifCond .eq 23, 3) := by decide +kernel
theorem zd_M_correct_8 : decode zc_M_correct 8 = .ok (.iload_n 2, 1) := by decide +kernel
theorem zd_M_correct_9 : decode zc_M_correct 9 = .ok (.iconst 0, 1) := by decide +kernel
theorem zd_M_correct_10 : decode zc_M_correct 10 = .ok (.iconst 2, 1) := by decide +kernel
theorem zd_M_correct_11 : decode zc_M_correct 11 = .ok (.invokestatic 103, 3) := by decide +kernel
theorem zd_M_correct_14 : decode zc_M_correct 14 = .ok (.ifCond .eq 14, 3) := by decide +kernel
theorem zd_M_correct_17 : decode zc_M_correct 17 = .ok (.iload_n 2, 1) := by decide +kernel
theorem zd_M_correct_18 : decode zc_M_correct 18 = .ok (.ifCond .ne 14, 3) := by decide +kernel
theorem zd_M_correct_21 : decode zc_M_correct 21 = .ok (.iload_n 3, 1) := by decide +kernel
theorem zd_M_correct_22 : decode zc_M_correct 22 = .ok (.invokestatic 124, 3) := by decide +kernel
theorem zd_M_correct_25 : decode zc_M_correct 25 = .ok (.ifCond .ne 7, 3) := by decide +kernel
theorem zd_M_correct_28 : decode zc_M_correct 28 = .ok (.iconst 1, 1) := by decide +kernel
theorem zd_M_correct_29 : decode zc_M_correct 29 = .ok (.goto 4, 3) := by decide +kernel
theorem zd_M_correct_32 : decode zc_M_correct 32 = .ok (.iconst 0, 1) := by decide +kernel
theorem zd_M_correct_33 : decode zc_M_correct 33 = .ok (.istore 5, 2) := by decide +kernel
theorem zd_M_correct_35 : decode zc_M_correct 35 = .ok (.iload 5, 2) := by decide +kernel
theorem zd_M_correct_37 : decode zc_M_correct 37 = .ok (.ifCond .ne 37, 3) := by decide +kernel
theorem zd_M_correct_40 : decode zc_M_correct 40 = .ok (.iload_n 2, 1) := by decide +kernel
theorem zd_M_correct_41 : decode zc_M_correct 41 = .ok (.ifCond .le 10, 3) := by decide +kernel
theorem zd_M_correct_44 : decode zc_M_correct 44 = .ok (.iload_n 3, 1) := by decide +kernel
theorem zd_M_correct_45 : decode zc_M_correct 45 = .ok (.invokestatic 117, 3) := by decide +kernel
theorem zd_M_correct_48 : decode zc_M_correct 48 = .ok (.ifCond .eq 22, 3) := by decide +kernel
theorem zd_M_correct_51 : decode zc_M_correct 51 = .ok (.iload 4, 2) := by decide +kernel
theorem zd_M_correct_53 : decode zc_M_correct 53 = .ok (.invokestatic 117, 3) := by decide +kernel
theorem zd_M_correct_56 : decode zc_M_correct 56 = .ok (.ifCond .eq 14, 3) := by decide +kernel
theorem zd_M_correct_59 : decode zc_M_correct 59 = .ok (.iload 4, 2) := by decide +kernel
theorem zd_M_correct_61 : decode zc_M_correct 61 = .ok (.aload_n 0, 1) := by decide +kernel
theorem zd_M_correct_62 : decode zc_M_correct 62 = .ok (.getfield 13, 3) := by decide +kernel
theorem zd_M_correct_65 : decode zc_M_correct 65 = .ok (.iload_n 1, 1) := by decide +kernel
theorem zd_M_correct_66 : decode zc_M_correct 66 = .ok (.iaload, 1) := by decide +kernel
theorem zd_M_correct_67 : decode zc_M_correct 67 = .ok (.if_icmp .ge 7, 3) := by decide +kernel
theorem zd_M_correct_70 : decode zc_M_correct 70 = .ok (.iconst 1, 1) := by decide +kernel
theorem zd_M_correct_71 : decode zc_M_correct 71 = .ok (.goto 4, 3) := by decide +kernel
theorem zd_M_correct_74 : decode zc_M_correct 74 = .ok (.iconst 0, 1) := by decide +kernel
theorem zd_M_correct_75 : decode zc_M_correct 75 = .ok (.istore 6, 2) := by decide +kernel
theorem zd_M_correct_77 : decode zc_M_correct 77 = .ok (.aload_n 0, 1) := by decide +kernel
theorem zd_M_correct_78 : decode zc_M_correct 78 = .ok (.iload 5, 2) := by decide +kernel
theorem zd_M_correct_80 : decode zc_M_correct 80 = .ok (.iload 6, 2) := by decide +kernel
theorem zd_M_correct_82 : decode zc_M_correct 82 = .ok (.aload_n 0, 1) := by decide +kernel
theorem zd_M_correct_83 : decode zc_M_correct 83 = .ok (.getfield 130, 3) := by decide +kernel
theorem zd_M_correct_86 : decode zc_M_correct 86 = .ok (.sipush 200, 3) := by decide +kernel
theorem zd_M_correct_89 : decode zc_M_correct 89 = .ok (.if_icmp .ne 7, 3) := by decide +kernel
theorem zd_M_correct_92 : decode zc_M_correct 92 = .ok (.iconst 1, 1) := by decide +kernel
theorem zd_M_correct_93 : decode zc_M_correct 93 = .ok (.goto 4, 3) := by decide +kernel
theorem zd_M_correct_96 : decode zc_M_correct 96 = .ok (.iconst 0, 1) := by decide +kernel
theorem zd_M_correct_97 : decode zc_M_correct 97 = .ok (.invokevirtual 113, 3) := by decide +kernel
theorem zd_M_correct_100 : decode zc_M_correct 100 = .ok (.ifCond .eq 4, 3) := by decide +kernel
theorem zd_M_correct_103 : decode zc_M_correct 103 = .ok (.return_, 1) := by decide +kernel
theorem zd_M_correct_104 : decode zc_M_correct 104 = .ok (.aload_n 0, 1) := by decide +kernel
theorem zd_M_correct_105 : decode zc_M_correct 105 = .ok (.getfield 32, 3) := by decide +kernel
theorem zd_M_correct_108 : decode zc_M_correct 108 = .ok (.aload_n 0, 1) := by decide +kernel
theorem zd_M_correct_109 : decode zc_M_correct 109 = .ok (.getfield 130, 3) := by decide +kernel
theorem zd_M_correct_112 : decode zc_M_correct 112 = .ok (.iload_n 1, 1) := by decide +kernel
theorem zd_M_correct_113 : decode zc_M_correct 113 = .ok (.iastore, 1) := by decide +kernel
theorem zd_M_correct_114 : decode zc_M_correct 114 = .ok (.aload_n 0, 1) := by decide +kernel
theorem zd_M_correct_115 : decode zc_M_correct 115 = .ok (.getfield 35, 3) := by decide +kernel
theorem zd_M_correct_118 : decode zc_M_correct 118 = .ok (.aload_n 0, 1) := by decide +kernel
theorem zd_M_correct_119 : decode zc_M_correct 119 = .ok (.getfield 130, 3) := by decide +kernel
theorem zd_M_correct_122 : decode zc_M_correct 122 = .ok (.iload_n 2, 1) := by decide +kernel
theorem zd_M_correct_123 : decode zc_M_correct 123 = .ok (.iastore, 1) := by decide +kernel
theorem zd_M_correct_124 : decode zc_M_correct 124 = .ok (.aload_n 0, 1) := by decide +kernel
theorem zd_M_correct_125 : decode zc_M_correct 125 = .ok (.getfield 38, 3) := by decide +kernel
theorem zd_M_correct_128 : decode zc_M_correct 128 = .ok (.aload_n 0, 1) := by decide +kernel
theorem zd_M_correct_129 : decode zc_M_correct 129 = .ok (.getfield 130, 3) := by decide +kernel
theorem zd_M_correct_132 : decode zc_M_correct 132 = .ok (.iload_n 3, 1) := by decide +kernel
theorem zd_M_correct_133 : decode zc_M_correct 133 = .ok (.iastore, 1) := by decide +kernel
theorem zd_M_correct_134 : decode zc_M_correct 134 = .ok (.aload_n 0, 1) := by decide +kernel
theorem zd_M_correct_135 : decode zc_M_correct 135 = .ok (.getfield 41, 3) := by decide +kernel
theorem zd_M_correct_138 : decode zc_M_correct 138 = .ok (.aload_n 0, 1) := by decide +kernel
theorem zd_M_correct_139 : decode zc_M_correct 139 = .ok (.getfield 130, 3) := by decide +kernel
theorem zd_M_correct_142 : decode zc_M_correct 142 = .ok (.iload 4, 2) := by decide +kernel
theorem zd_M_correct_144 : decode zc_M_correct 144 = .ok (.iastore, 1) := by decide +kernel
theorem zd_M_correct_145 : decode zc_M_correct 145 = .ok (.aload_n 0, 1) := by decide +kernel
theorem zd_M_correct_146 : decode zc_M_correct 146 = .ok (.dup, 1) := by decide +kernel
theorem zd_M_correct_147 : decode zc_M_correct 147 = .ok (.getfield 130, 3) := by decide +kernel
theorem zd_M_correct_150 : decode zc_M_correct 150 = .ok (.iconst 1, 1) := by decide +kernel
theorem zd_M_correct_151 : decode zc_M_correct 151 = .ok (.iadd, 1) := by decide +kernel
theorem zd_M_correct_152 : decode zc_M_correct 152 = .ok (.putfield 130, 3) := by decide +kernel
theorem zd_M_correct_155 : decode zc_M_correct 155 = .ok (.return_, 1) := by decide +kernel
theorem zd_M_field_0 : decode zc_M_field 0 = .ok (.aload_n 0, 1) := by decide +kernel
theorem zd_M_field_1 : decode zc_M_field 1 = .ok (.getfield 16, 3) := by decide +kernel
theorem zd_M_field_4 : decode zc_M_field 4 = .ok (.iconst 3, 1) := by decide +kernel
theorem zd_M_field_5 : decode zc_M_field 5 = .ok (.iload_n 1, 1) := by decide +kernel
theorem zd_M_field_6 : decode zc_M_field 6 = .ok (.imul, 1) := by decide +kernel
theorem zd_M_field_7 : decode zc_M_field 7 = .ok (.iload_n 2, 1) := by decide +kernel
theorem zd_M_field_8 : decode zc_M_field 8 = .ok (.iadd, 1) := by decide +kernel
theorem zd_M_field_9 : decode zc_M_field 9 = .ok (.iaload, 1) := by decide +kernel
theorem zd_M_field_10 : decode zc_M_field 10 = .ok (.istore 4, 2) := by decide +kernel
theorem zd_M_field_12 : decode zc_M_field 12 = .ok (.iconst (-1), 1) := by decide +kernel
theorem zd_M_field_13 : decode zc_M_field 13 = .ok (.istore 5, 2) := by decide +kernel
theorem zd_M_field_15 : decode zc_M_field 15 = .ok (.iconst 0, 1) := by decide +kernel
theorem zd_M_field_16 : decode zc_M_field 16 = .ok (.istore 6, 2) := by decide +kernel
theorem zd_M_field_18 : decode zc_M_field 18 = .ok (.iload 6, 2) := by decide +kernel
theorem zd_M_field_20 : decode zc_M_field 20 = .ok (.aload_n 0, 1) := by decide +kernel
theorem zd_M_field_21 : decode zc_M_field 21 = .ok (.getfield 130, 3) := by decide +kernel
theorem zd_M_field_24 : decode zc_M_field 24 = .ok (.if_icmp .ge 75, 3) := by decide +kernel
theorem zd_M_field_27 : decode zc_M_field 27 = .ok (.aload_n 0, 1) := by decide +kernel
theorem zd_M_field_28 : decode zc_M_field 28 = .ok (.getfield 32, 3) := by decide +kernel
theorem zd_M_field_31 : decode zc_M_field 31 = .ok (.iload 6, 2) := by decide +kernel
theorem zd_M_field_33 : decode zc_M_field 33 = .ok (.iaload, 1) := by decide +kernel
theorem zd_M_field_34 : decode zc_M_field 34 = .ok (.iload_n 1, 1) := by decide +kernel
theorem zd_M_field_35 : decode zc_M_field 35 = .ok (.if_icmp .ne 58, 3) := by decide +kernel
theorem zd_M_field_38 : decode zc_M_field 38 = .ok (.aload_n 0, 1) := by decide +kernel
theorem zd_M_field_39 : decode zc_M_field 39 = .ok (.getfield 35, 3) := by decide +kernel
theorem zd_M_field_42 : decode zc_M_field 42 = .ok (.iload 6, 2) := by decide +kernel
theorem zd_M_field_44 : decode zc_M_field 44 = .ok (.iaload, 1) := by decide +kernel
theorem zd_M_field_45 : decode zc_M_field 45 = .ok (.iload_n 2, 1) := by decide +kernel
theorem zd_M_field_46 : decode zc_M_field 46 = .ok (.if_icmp .ne 47, 3) := by decide +kernel
theorem zd_M_field_49 : decode zc_M_field 49 = .ok (.aload_n 0, 1) := by decide +kernel
theorem zd_M_field_50 : decode zc_M_field 50 = .ok (.getfield 41, 3) := by decide +kernel
theorem zd_M_field_53 : decode zc_M_field 53 = .ok (.iload 6, 2) := by decide +kernel
theorem zd_M_field_55 : decode zc_M_field 55 = .ok (.iaload, 1) := by decide +kernel
theorem zd_M_field_56 : decode zc_M_field 56 = .ok (.iload_n 3, 1) := by decide +kernel
theorem zd_M_field_57 : decode zc_M_field 57 = .ok (.if_icmp .gt 36, 3) := by decide +kernel
theorem zd_M_field_60 : decode zc_M_field 60 = .ok (.aload_n 0, 1) := by decide +kernel
theorem zd_M_field_61 : decode zc_M_field 61 = .ok (.getfield 41, 3) := by decide +kernel
theorem zd_M_field_64 : decode zc_M_field 64 = .ok (.iload 6, 2) := by decide +kernel
theorem zd_M_field_66 : decode zc_M_field 66 = .ok (.iaload, 1) := by decide +kernel
theorem zd_M_field_67 : decode zc_M_field 67 = .ok (.iload 5, 2) := by decide +kernel
theorem zd_M_field_69 : decode zc_M_field 69 = .ok (.if_icmp .ge 6, 3) := by decide +kernel
theorem zd_M_field_72 : decode zc_M_field 72 = .ok (.goto 21, 3) := by decide +kernel
theorem zd_M_field_75 : decode zc_M_field 75 = .ok (.aload_n 0, 1) := by decide +kernel
theorem zd_M_field_76 : decode zc_M_field 76 = .ok (.getfield 41, 3) := by decide +kernel
theorem zd_M_field_79 : decode zc_M_field 79 = .ok (.iload 6, 2) := by decide +kernel
theorem zd_M_field_81 : decode zc_M_field 81 = .ok (.iaload, 1) := by decide +kernel
theorem zd_M_field_82 : decode zc_M_field 82 = .ok (.istore 5, 2) := by decide +kernel
theorem zd_M_field_84 : decode zc_M_field 84 = .ok (.aload_n 0, 1) := by decide +kernel
theorem zd_M_field_85 : decode zc_M_field 85 = .ok (.getfield 38, 3) := by decide +kernel
theorem zd_M_field_88 : decode zc_M_field 88 = .ok (.iload 6, 2) := by decide +kernel
theorem zd_M_field_90 : decode zc_M_field 90 = .ok (.iaload, 1) := by decide +kernel
theorem zd_M_field_91 : decode zc_M_field 91 = .ok (.istore 4, 2) := by decide +kernel
theorem zd_M_field_93 : decode zc_M_field 93 = .ok (.iinc 6 1, 3) := by decide +kernel
theorem zd_M_field_96 : decode zc_M_field 96 = .ok (.goto (-78), 3) := by decide +kernel
theorem zd_M_field_99 : decode zc_M_field 99 = .ok (.iload 4, 2) := by decide +kernel
theorem zd_M_field_101 : decode zc_M_field 101 = .ok (.ireturn, 1) := by decide +kernel
theorem zd_M_known_0 : decode zc_M_known 0 = .ok (.aload_n 0, 1) := by decide +kernel
theorem zd_M_known_1 : decode zc_M_known 1 = .ok (.aload_n 0, 1) := by decide +kernel
theorem zd_M_known_2 : decode zc_M_known 2 = .ok (.iload_n 1, 1) := by decide +kernel
theorem zd_M_known_3 : decode zc_M_known 3 = .ok (.invokevirtual 127, 3) := by decide +kernel
theorem zd_M_known_6 : decode zc_M_known 6 = .ok (.ifCond .eq 12, 3) := by decide +kernel
theorem zd_M_known_9 : decode zc_M_known 9 = .ok (.iload_n 2, 1) := by decide +kernel
theorem zd_M_known_10 : decode zc_M_known 10 = .ok (.iconst 0, 1) := by decide +kernel
theorem zd_M_known_11 : decode zc_M_known 11 = .ok (.iconst 2, 1) := by decide +kernel
theorem zd_M_known_12 : decode zc_M_known 12 = .ok (.invokestatic 103, 3) := by decide +kernel
theorem zd_M_known_15 : decode zc_M_known 15 = .ok (.ifCond .ne 7, 3) := by decide +kernel
theorem zd_M_known_18 : decode zc_M_known 18 = .ok (.iconst 1, 1) := by decide +kernel
theorem zd_M_known_19 : decode zc_M_known 19 = .ok (.goto 4, 3) := by decide +kernel
theorem zd_M_known_22 : decode zc_M_known 22 = .ok (.iconst 0, 1) := by decide +kernel
theorem zd_M_known_23 : decode zc_M_known 23 = .ok (.iload_n 3, 1) := by decide +kernel
theorem zd_M_known_24 : decode zc_M_known 24 = .ok (.invokestatic 117, 3) := by decide +kernel
theorem zd_M_known_27 : decode zc_M_known 27 = .ok (.ifCond .ne 7, 3) := by decide +kernel
theorem zd_M_known_30 : decode zc_M_known 30 = .ok (.iconst 1, 1) := by decide +kernel
theorem zd_M_known_31 : decode zc_M_known 31 = .ok (.goto 4, 3) := by decide +kernel
theorem zd_M_known_34 : decode zc_M_known 34 = .ok (.iconst 0, 1) := by decide +kernel
theorem zd_M_known_35 : decode zc_M_known 35 = .ok (.iconst 0, 1) := by decide +kernel
theorem zd_M_known_36 : decode zc_M_known 36 = .ok (.invokevirtual 113, 3) := by decide +kernel
theorem zd_M_known_39 : decode zc_M_known 39 = .ok (.ifCond .eq 5, 3) := by decide +kernel
theorem zd_M_known_42 : decode zc_M_known 42 = .ok (.iconst 0, 1) := by decide +kernel
theorem zd_M_known_43 : decode zc_M_known 43 = .ok (.ireturn, 1) := by decide +kernel
theorem zd_M_known_44 : decode zc_M_known 44 = .ok (.aload_n 0, 1) := by decide +kernel
theorem zd_M_known_45 : decode zc_M_known 45 = .ok (.getfield 13, 3) := by decide +kernel
theorem zd_M_known_48 : decode zc_M_known 48 = .ok (.iload_n 1, 1) := by decide +kernel
theorem zd_M_known_49 : decode zc_M_known 49 = .ok (.iaload, 1) := by decide +kernel
theorem zd_M_known_50 : decode zc_M_known 50 = .ok (.iload_n 3, 1) := by decide +kernel
theorem zd_M_known_51 : decode zc_M_known 51 = .ok (.if_icmp .le 7, 3) := by decide +kernel
theorem zd_M_known_54 : decode zc_M_known 54 = .ok (.iconst (-1), 1) := by decide +kernel
theorem zd_M_known_55 : decode zc_M_known 55 = .ok (.goto 10, 3) := by decide +kernel
theorem zd_M_known_58 : decode zc_M_known 58 = .ok (.aload_n 0, 1) := by decide +kernel
theorem zd_M_known_59 : decode zc_M_known 59 = .ok (.iload_n 1, 1) := by decide +kernel
theorem zd_M_known_60 : decode zc_M_known 60 = .ok (.iload_n 2, 1) := by decide +kernel
theorem zd_M_known_61 : decode zc_M_known 61 = .ok (.iload_n 3, 1) := by decide +kernel
theorem zd_M_known_62 : decode zc_M_known 62 = .ok (.invokevirtual 133, 3) := by decide +kernel
theorem zd_M_known_65 : decode zc_M_known 65 = .ok (.ireturn, 1) := by decide +kernel
theorem zd_M_from_0 : decode zc_M_from 0 = .ok (.aload_n 0, 1) := by decide +kernel
theorem zd_M_from_1 : decode zc_M_from 1 = .ok (.iload_n 1, 1) := by decide +kernel
theorem zd_M_from_2 : decode zc_M_from 2 = .ok (.iconst 1, 1) := by decide +kernel
theorem zd_M_from_3 : decode zc_M_from 3 = .ok (.iload_n 2, 1) := by decide +kernel
theorem zd_M_from_4 : decode zc_M_from 4 = .ok (.invokevirtual 133, 3) := by decide +kernel
theorem zd_M_from_7 : decode zc_M_from 7 = .ok (.ireturn, 1) := by decide +kernel
theorem zd_M_to_0 : decode zc_M_to 0 = .ok (.aload_n 0, 1) := by decide +kernel
theorem zd_M_to_1 : decode zc_M_to 1 = .ok (.iload_n 1, 1) := by decide +kernel
theorem zd_M_to_2 : decode zc_M_to 2 = .ok (.iconst 2, 1) := by decide +kernel
theorem zd_M_to_3 : decode zc_M_to 3 = .ok (.iload_n 2, 1) := by decide +kernel
theorem zd_M_to_4 : decode zc_M_to 4 = .ok (.invokevirtual 133, 3) := by decide +kernel
theorem zd_M_to_7 : decode zc_M_to 7 = .ok (.ireturn, 1) := by decide +kernel
theorem zd_M_counts_0 : decode zc_M_counts 0 = .ok (.aload_n 0, 1) := by decide +kernel
theorem zd_M_counts_1 : decode zc_M_counts 1 = .ok (.getfield 7, 3) := by decide +kernel
theorem zd_M_counts_4 : decode zc_M_counts 4 = .ok (.iload_n 1, 1) := by decide +kernel
theorem zd_M_counts_5 : decode zc_M_counts 5 = .ok (.iaload, 1) := by decide +kernel
theorem zd_M_counts_6 : decode zc_M_counts 6 = .ok (.iload_n 2, 1) := by decide +kernel
theorem zd_M_counts_7 : decode zc_M_counts 7 = .ok (.if_icmp .ne 32, 3) := by decide +kernel
theorem zd_M_counts_10 : decode zc_M_counts 10 = .ok (.aload_n 0, 1) := by decide +kernel
theorem zd_M_counts_11 : decode zc_M_counts 11 = .ok (.getfield 13, 3) := by decide +kernel
theorem zd_M_counts_14 : decode zc_M_counts 14 = .ok (.iload_n 1, 1) := by decide +kernel
theorem zd_M_counts_15 : decode zc_M_counts 15 = .ok (.iaload, 1) := by decide +kernel
theorem zd_M_counts_16 : decode zc_M_counts 16 = .ok (.iload_n 3, 1) := by decide +kernel
theorem zd_M_counts_17 : decode zc_M_counts 17 = .ok (.if_icmp .gt 22, 3) := by decide +kernel
theorem zd_M_counts_20 : decode zc_M_counts 20 = .ok (.aload_n 0, 1) := by decide +kernel
theorem zd_M_counts_21 : decode zc_M_counts 21 = .ok (.iload_n 1, 1) := by decide +kernel
theorem zd_M_counts_22 : decode zc_M_counts 22 = .ok (.iload_n 3, 1) := by decide +kernel
theorem zd_M_counts_23 : decode zc_M_counts 23 = .ok (.invokevirtual 137, 3) := by decide +kernel
theorem zd_M_counts_26 : decode zc_M_counts 26 = .ok (.aload_n 0, 1) := by decide +kernel
theorem zd_M_counts_27 : decode zc_M_counts 27 = .ok (.iload_n 1, 1) := by decide +kernel
theorem zd_M_counts_28 : decode zc_M_counts 28 = .ok (.iload_n 3, 1) := by decide +kernel
theorem zd_M_counts_29 : decode zc_M_counts 29 = .ok (.invokevirtual 141, 3) := by decide +kernel
theorem zd_M_counts_32 : decode zc_M_counts 32 = .ok (.if_icmp .gt 7, 3) := by decide +kernel
theorem zd_M_counts_35 : decode zc_M_counts 35 = .ok (.iconst 1, 1) := by decide +kernel
theorem zd_M_counts_36 : decode zc_M_counts 36 = .ok (.goto 4, 3) := by decide +kernel
theorem zd_M_counts_39 : decode zc_M_counts 39 = .ok (.iconst 0, 1) := by decide +kernel
theorem zd_M_counts_40 : decode zc_M_counts 40 = .ok (.ireturn, 1) := by decide +kernel
theorem zd_M_nextIn_0 : decode zc_M_nextIn 0 = .ok (.ldc 144, 2) := by decide +kernel
theorem zd_M_nextIn_2 : decode zc_M_nextIn 2 = .ok (.istore 4, 2) := by decide +kernel
theorem zd_M_nextIn_4 : decode zc_M_nextIn 4 = .ok (.iconst 0, 1) := by decide +kernel
theorem zd_M_nextIn_5 : decode zc_M_nextIn 5 = .ok (.istore 5, 2) := by decide +kernel
theorem zd_M_nextIn_7 : decode zc_M_nextIn 7 = .ok (.iload 5, 2) := by decide +kernel
theorem zd_M_nextIn_9 : decode zc_M_nextIn 9 = .ok (.aload_n 0, 1) := by decide +kernel
theorem zd_M_nextIn_10 : decode zc_M_nextIn 10 = .ok (.getfield 110, 3) := by decide +kernel
theorem zd_M_nextIn_13 : decode zc_M_nextIn 13 = .ok (.if_icmp .ge 74, 3) := by decide +kernel
theorem zd_M_nextIn_16 : decode zc_M_nextIn 16 = .ok (.aload_n 0, 1) := by decide +kernel
theorem zd_M_nextIn_17 : decode zc_M_nextIn 17 = .ok (.iload 5, 2) := by decide +kernel
theorem zd_M_nextIn_19 : decode zc_M_nextIn 19 = .ok (.iload_n 1, 1) := by decide +kernel
theorem zd_M_nextIn_20 : decode zc_M_nextIn 20 = .ok (.iload_n 3, 1) := by decide +kernel
theorem zd_M_nextIn_21 : decode zc_M_nextIn 21 = .ok (.invokevirtual 145, 3) := by decide +kernel
theorem zd_M_nextIn_24 : decode zc_M_nextIn 24 = .ok (.ifCond .eq 57, 3) := by decide +kernel
theorem zd_M_nextIn_27 : decode zc_M_nextIn 27 = .ok (.aload_n 0, 1) := by decide +kernel
theorem zd_M_nextIn_28 : decode zc_M_nextIn 28 = .ok (.iload 5, 2) := by decide +kernel
theorem zd_M_nextIn_30 : decode zc_M_nextIn 30 = .ok (.iload_n 3, 1) := by decide +kernel
theorem zd_M_nextIn_31 : decode zc_M_nextIn 31 = .ok (.invokevirtual 141, 3) := by decide +kernel
theorem zd_M_nextIn_34 : decode zc_M_nextIn 34 = .ok (.iload_n 2, 1) := by decide +kernel
theorem zd_M_nextIn_35 : decode zc_M_nextIn 35 = .ok (.if_icmp .ge 6, 3) := by decide +kernel
theorem zd_M_nextIn_38 : decode zc_M_nextIn 38 = .ok (.goto 43, 3) := by decide +kernel
theorem zd_M_nextIn_41 : decode zc_M_nextIn 41 = .ok (.aload_n 0, 1) := by decide +kernel
theorem zd_M_nextIn_42 : decode zc_M_nextIn 42 = .ok (.iload 5, 2) := by decide +kernel
theorem zd_M_nextIn_44 : decode zc_M_nextIn 44 = .ok (.iload_n 3, 1) := by decide +kernel
theorem zd_M_nextIn_45 : decode zc_M_nextIn 45 = .ok (.invokevirtual 137, 3) := by decide +kernel
theorem zd_M_nextIn_48 : decode zc_M_nextIn 48 = .ok (.iload_n 2, 1) := by decide +kernel
theorem zd_M_nextIn_49 : decode zc_M_nextIn 49 = .ok (.if_icmp .le 13, 3) := by decide +kernel
theorem zd_M_nextIn_52 : decode zc_M_nextIn 52 = .ok (.aload_n 0, 1) := by decide +kernel
theorem zd_M_nextIn_53 : decode zc_M_nextIn 53 = .ok (.iload 5, 2) := by decide +kernel
theorem zd_M_nextIn_55 : decode zc_M_nextIn 55 = .ok (.iload_n 3, 1) := by decide +kernel
theorem zd_M_nextIn_56 : decode zc_M_nextIn 56 = .ok (.invokevirtual 137, 3) := by decide +kernel
theorem zd_M_nextIn_59 : decode zc_M_nextIn 59 = .ok (.goto 4, 3) := by decide +kernel
theorem zd_M_nextIn_62 : decode zc_M_nextIn 62 = .ok (.iload_n 2, 1) := by decide +kernel
theorem zd_M_nextIn_63 : decode zc_M_nextIn 63 = .ok (.istore 6, 2) := by decide +kernel
theorem zd_M_nextIn_65 : decode zc_M_nextIn 65 = .ok (.iload 6, 2) := by decide +kernel
theorem zd_M_nextIn_67 : decode zc_M_nextIn 67 = .ok (.iload 4, 2) := by decide +kernel
theorem zd_M_nextIn_69 : decode zc_M_nextIn 69 = .ok (.if_icmp .ge 8, 3) := by decide +kernel
theorem zd_M_nextIn_72 : decode zc_M_nextIn 72 = .ok (.iload 6, 2) := by decide +kernel
theorem zd_M_nextIn_74 : decode zc_M_nextIn 74 = .ok (.goto 5, 3) := by decide +kernel
theorem zd_M_nextIn_77 : decode zc_M_nextIn 77 = .ok (.iload 4, 2) := by decide +kernel
theorem zd_M_nextIn_79 : decode zc_M_nextIn 79 = .ok (.istore 4, 2) := by decide +kernel
theorem zd_M_nextIn_81 : decode zc_M_nextIn 81 = .ok (.iinc 5 1, 3) := by decide +kernel
theorem zd_M_nextIn_84 : decode zc_M_nextIn 84 = .ok (.goto (-77), 3) := by decide +kernel
theorem zd_M_nextIn_87 : decode zc_M_nextIn 87 = .ok (.iload 4, 2) := by decide +kernel
theorem zd_M_nextIn_89 : decode zc_M_nextIn 89 = .ok (.ireturn, 1) := by decide +kernel
theorem zd_M_nextOut_0 : decode zc_M_nextOut 0 = .ok (.iload_n 2, 1) := by decide +kernel
theorem zd_M_nextOut_1 : decode zc_M_nextOut 1 = .ok (.istore 4, 2) := by decide +kernel
theorem zd_M_nextOut_3 : decode zc_M_nextOut 3 = .ok (.iconst 1, 1) := by decide +kernel
theorem zd_M_nextOut_4 : decode zc_M_nextOut 4 = .ok (.istore 5, 2) := by decide +kernel
theorem zd_M_nextOut_6 : decode zc_M_nextOut 6 = .ok (.iload 5, 2) := by decide +kernel
theorem zd_M_nextOut_8 : decode zc_M_nextOut 8 = .ok (.ifCond .eq 79, 3) := by decide +kernel
theorem zd_M_nextOut_11 : decode zc_M_nextOut 11 = .ok (.iconst 0, 1) := by decide +kernel
theorem zd_M_nextOut_12 : decode zc_M_nextOut 12 = .ok (.istore 5, 2) := by decide +kernel
theorem zd_M_nextOut_14 : decode zc_M_nextOut 14 = .ok (.iconst 0, 1) := by decide +kernel
theorem zd_M_nextOut_15 : decode zc_M_nextOut 15 = .ok (.istore 6, 2) := by decide +kernel
theorem zd_M_nextOut_17 : decode zc_M_nextOut 17 = .ok (.iload 6, 2) := by decide +kernel
theorem zd_M_nextOut_19 : decode zc_M_nextOut 19 = .ok (.aload_n 0, 1) := by decide +kernel
theorem zd_M_nextOut_20 : decode zc_M_nextOut 20 = .ok (.getfield 110, 3) := by decide +kernel
theorem zd_M_nextOut_23 : decode zc_M_nextOut 23 = .ok (.if_icmp .ge 61, 3) := by decide +kernel
theorem zd_M_nextOut_26 : decode zc_M_nextOut 26 = .ok (.aload_n 0, 1) := by decide +kernel
theorem zd_M_nextOut_27 : decode zc_M_nextOut 27 = .ok (.iload 6, 2) := by decide +kernel
theorem zd_M_nextOut_29 : decode zc_M_nextOut 29 = .ok (.iload_n 1, 1) := by decide +kernel
theorem zd_M_nextOut_30 : decode zc_M_nextOut 30 = .ok (.iload_n 3, 1) := by decide +kernel
theorem zd_M_nextOut_31 : decode zc_M_nextOut 31 = .ok (.invokevirtual 145, 3) := by decide +kernel
theorem zd_M_nextOut_34 : decode zc_M_nextOut 34 = .ok (.ifCond .eq 44, 3) := by decide +kernel
theorem zd_M_nextOut_37 : decode zc_M_nextOut 37 = .ok (.aload_n 0, 1) := by decide +kernel
theorem zd_M_nextOut_38 : decode zc_M_nextOut 38 = .ok (.iload 6, 2) := by decide +kernel
theorem zd_M_nextOut_40 : decode zc_M_nextOut 40 = .ok (.iload_n 3, 1) := by decide +kernel
theorem zd_M_nextOut_41 : decode zc_M_nextOut 41 = .ok (.invokevirtual 137, 3) := by decide +kernel
theorem zd_M_nextOut_44 : decode zc_M_nextOut 44 = .ok (.iload 4, 2) := by decide +kernel
theorem zd_M_nextOut_46 : decode zc_M_nextOut 46 = .ok (.if_icmp .gt 32, 3) := by decide +kernel
theorem zd_M_nextOut_49 : decode zc_M_nextOut 49 = .ok (.aload_n 0, 1) := by decide +kernel
theorem zd_M_nextOut_50 : decode zc_M_nextOut 50 = .ok (.iload 6, 2) := by decide +kernel
theorem zd_M_nextOut_52 : decode zc_M_nextOut 52 = .ok (.iload_n 3, 1) := by decide +kernel
theorem zd_M_nextOut_53 : decode zc_M_nextOut 53 = .ok (.invokevirtual 141, 3) := by decide +kernel
theorem zd_M_nextOut_56 : decode zc_M_nextOut 56 = .ok (.iload 4, 2) := by decide +kernel
theorem zd_M_nextOut_58 : decode zc_M_nextOut 58 = .ok (.if_icmp .ge 6, 3) := by decide +kernel
theorem zd_M_nextOut_61 : decode zc_M_nextOut 61 = .ok (.goto 17, 3) := by decide +kernel
theorem zd_M_nextOut_64 : decode zc_M_nextOut 64 = .ok (.aload_n 0, 1) := by decide +kernel
theorem zd_M_nextOut_65 : decode zc_M_nextOut 65 = .ok (.iload 6, 2) := by decide +kernel
theorem zd_M_nextOut_67 : decode zc_M_nextOut 67 = .ok (.iload_n 3, 1) := by decide +kernel
theorem zd_M_nextOut_68 : decode zc_M_nextOut 68 = .ok (.invokevirtual 141, 3) := by decide +kernel
theorem zd_M_nextOut_71 : decode zc_M_nextOut 71 = .ok (.iconst 1, 1) := by decide +kernel
theorem zd_M_nextOut_72 : decode zc_M_nextOut 72 = .ok (.iadd, 1) := by decide +kernel
theorem zd_M_nextOut_73 : decode zc_M_nextOut 73 = .ok (.istore 4, 2) := by decide +kernel
theorem zd_M_nextOut_75 : decode zc_M_nextOut 75 = .ok (.iconst 1, 1) := by decide +kernel
theorem zd_M_nextOut_76 : decode zc_M_nextOut 76 = .ok (.istore 5, 2) := by decide +kernel
theorem zd_M_nextOut_78 : decode zc_M_nextOut 78 = .ok (.iinc 6 1, 3) := by decide +kernel
theorem zd_M_nextOut_81 : decode zc_M_nextOut 81 = .ok (.goto (-64), 3) := by decide +kernel
theorem zd_M_nextOut_84 : decode zc_M_nextOut 84 = .ok (.goto (-78), 3) := by decide +kernel
theorem zd_M_nextOut_87 : decode zc_M_nextOut 87 = .ok (.iload 4, 2) := by decide +kernel
theorem zd_M_nextOut_89 : decode zc_M_nextOut 89 = .ok (.ireturn, 1) := by decide +kernel
theorem zd_M_gap_0 : decode zc_M_gap 0 = .ok (.aload_n 0, 1) := by decide +kernel
theorem zd_M_gap_1 : decode zc_M_gap 1 = .ok (.aload_n 0, 1) := by decide +kernel
theorem zd_M_gap_2 : decode zc_M_gap 2 = .ok (.iload_n 1, 1) := by decide +kernel
theorem zd_M_gap_3 : decode zc_M_gap 3 = .ok (.invokevirtual 121, 3) := by decide +kernel
theorem zd_M_gap_6 : decode zc_M_gap 6 = .ok (.ifCond .eq 16, 3) := by decide +kernel
theorem zd_M_gap_9 : decode zc_M_gap 9 = .ok (.iload_n 2, 1) := by decide +kernel
theorem zd_M_gap_10 : decode zc_M_gap 10 = .ok (.ifCond .lt 12, 3) := by decide +kernel
theorem zd_M_gap_13 : decode zc_M_gap 13 = .ok (.iload_n 3, 1) := by decide +kernel
theorem zd_M_gap_14 : decode zc_M_gap 14 = .ok (.iconst 0, 1) := by decide +kernel
theorem zd_M_gap_15 : decode zc_M_gap 15 = .ok (.iconst 1, 1) := by decide +kernel
theorem zd_M_gap_16 : decode zc_M_gap 16 = .ok (.invokestatic 103, 3) := by decide +kernel
theorem zd_M_gap_19 : decode zc_M_gap 19 = .ok (.ifCond .ne 7, 3) := by decide +kernel
theorem zd_M_gap_22 : decode zc_M_gap 22 = .ok (.iconst 1, 1) := by decide +kernel
theorem zd_M_gap_23 : decode zc_M_gap 23 = .ok (.goto 4, 3) := by decide +kernel
theorem zd_M_gap_26 : decode zc_M_gap 26 = .ok (.iconst 0, 1) := by decide +kernel
theorem zd_M_gap_27 : decode zc_M_gap 27 = .ok (.iload 4, 2) := by decide +kernel
theorem zd_M_gap_29 : decode zc_M_gap 29 = .ok (.invokestatic 117, 3) := by decide +kernel
theorem zd_M_gap_32 : decode zc_M_gap 32 = .ok (.ifCond .ne 7, 3) := by decide +kernel
theorem zd_M_gap_35 : decode zc_M_gap 35 = .ok (.iconst 1, 1) := by decide +kernel
theorem zd_M_gap_36 : decode zc_M_gap 36 = .ok (.goto 4, 3) := by decide +kernel
theorem zd_M_gap_39 : decode zc_M_gap 39 = .ok (.iconst 0, 1) := by decide +kernel
theorem zd_M_gap_40 : decode zc_M_gap 40 = .ok (.iconst 0, 1) := by decide +kernel
theorem zd_M_gap_41 : decode zc_M_gap 41 = .ok (.invokevirtual 113, 3) := by decide +kernel
theorem zd_M_gap_44 : decode zc_M_gap 44 = .ok (.ifCond .eq 5, 3) := by decide +kernel
theorem zd_M_gap_47 : decode zc_M_gap 47 = .ok (.iconst 0, 1) := by decide +kernel
theorem zd_M_gap_48 : decode zc_M_gap 48 = .ok (.ireturn, 1) := by decide +kernel
theorem zd_M_gap_49 : decode zc_M_gap 49 = .ok (.aload_n 0, 1) := by decide +kernel
theorem zd_M_gap_50 : decode zc_M_gap 50 = .ok (.iload_n 1, 1) := by decide +kernel
theorem zd_M_gap_51 : decode zc_M_gap 51 = .ok (.aload_n 0, 1) := by decide +kernel
theorem zd_M_gap_52 : decode zc_M_gap 52 = .ok (.iload_n 1, 1) := by decide +kernel
theorem zd_M_gap_53 : decode zc_M_gap 53 = .ok (.iconst 0, 1) := by decide +kernel
theorem zd_M_gap_54 : decode zc_M_gap 54 = .ok (.iload 4, 2) := by decide +kernel
theorem zd_M_gap_56 : decode zc_M_gap 56 = .ok (.invokevirtual 148, 3) := by decide +kernel
theorem zd_M_gap_59 : decode zc_M_gap 59 = .ok (.iload 4, 2) := by decide +kernel
theorem zd_M_gap_61 : decode zc_M_gap 61 = .ok (.invokevirtual 151, 3) := by decide +kernel
theorem zd_M_gap_64 : decode zc_M_gap 64 = .ok (.istore 5, 2) := by decide +kernel
theorem zd_M_gap_66 : decode zc_M_gap 66 = .ok (.iload_n 2, 1) := by decide +kernel
theorem zd_M_gap_67 : decode zc_M_gap 67 = .ok (.istore 6, 2) := by decide +kernel
theorem zd_M_gap_69 : decode zc_M_gap 69 = .ok (.aload_n 0, 1) := by decide +kernel
theorem zd_M_gap_70 : decode zc_M_gap 70 = .ok (.iload_n 1, 1) := by decide +kernel
theorem zd_M_gap_71 : decode zc_M_gap 71 = .ok (.iload 5, 2) := by decide +kernel
theorem zd_M_gap_73 : decode zc_M_gap 73 = .ok (.iload 4, 2) := by decide +kernel
theorem zd_M_gap_75 : decode zc_M_gap 75 = .ok (.invokevirtual 148, 3) := by decide +kernel
theorem zd_M_gap_78 : decode zc_M_gap 78 = .ok (.ldc 102, 2) := by decide +kernel
theorem zd_M_gap_80 : decode zc_M_gap 80 = .ok (.if_icmp .gt 50, 3) := by decide +kernel
theorem zd_M_gap_83 : decode zc_M_gap 83 = .ok (.aload_n 0, 1) := by decide +kernel
theorem zd_M_gap_84 : decode zc_M_gap 84 = .ok (.iload_n 1, 1) := by decide +kernel
theorem zd_M_gap_85 : decode zc_M_gap 85 = .ok (.iload 5, 2) := by decide +kernel
theorem zd_M_gap_87 : decode zc_M_gap 87 = .ok (.iload 4, 2) := by decide +kernel
theorem zd_M_gap_89 : decode zc_M_gap 89 = .ok (.invokevirtual 148, 3) := by decide +kernel
theorem zd_M_gap_92 : decode zc_M_gap 92 = .ok (.istore 7, 2) := by decide +kernel
theorem zd_M_gap_94 : decode zc_M_gap 94 = .ok (.iload 6, 2) := by decide +kernel
theorem zd_M_gap_96 : decode zc_M_gap 96 = .ok (.ifCond .ne 17, 3) := by decide +kernel
theorem zd_M_gap_99 : decode zc_M_gap 99 = .ok (.iload_n 3, 1) := by decide +kernel
theorem zd_M_gap_100 : decode zc_M_gap 100 = .ok (.ifCond .ne 8, 3) := by decide +kernel
theorem zd_M_gap_103 : decode zc_M_gap 103 = .ok (.iload 5, 2) := by decide +kernel
theorem zd_M_gap_105 : decode zc_M_gap 105 = .ok (.goto 7, 3) := by decide +kernel
theorem zd_M_gap_108 : decode zc_M_gap 108 = .ok (.iload 7, 2) := by decide +kernel
theorem zd_M_gap_110 : decode zc_M_gap 110 = .ok (.iconst 1, 1) := by decide +kernel
theorem zd_M_gap_111 : decode zc_M_gap 111 = .ok (.isub, 1) := by decide +kernel
theorem zd_M_gap_112 : decode zc_M_gap 112 = .ok (.ireturn, 1) := by decide +kernel
theorem zd_M_gap_113 : decode zc_M_gap 113 = .ok (.iinc 6 (-1), 3) := by decide +kernel
theorem zd_M_gap_116 : decode zc_M_gap 116 = .ok (.aload_n 0, 1) := by decide +kernel
theorem zd_M_gap_117 : decode zc_M_gap 117 = .ok (.iload_n 1, 1) := by decide +kernel
theorem zd_M_gap_118 : decode zc_M_gap 118 = .ok (.iload 7, 2) := by decide +kernel
theorem zd_M_gap_120 : decode zc_M_gap 120 = .ok (.iload 4, 2) := by decide +kernel
theorem zd_M_gap_122 : decode zc_M_gap 122 = .ok (.invokevirtual 151, 3) := by decide +kernel
theorem zd_M_gap_125 : decode zc_M_gap 125 = .ok (.istore 5, 2) := by decide +kernel
theorem zd_M_gap_127 : decode zc_M_gap 127 = .ok (.goto (-58), 3) := by decide +kernel
theorem zd_M_gap_130 : decode zc_M_gap 130 = .ok (.iconst (-1), 1) := by decide +kernel
theorem zd_M_gap_131 : decode zc_M_gap 131 = .ok (.ireturn, 1) := by decide +kernel
theorem zd_M_common_0 : decode zc_M_common 0 = .ok (.lload_n 0, 1) := by decide +kernel
theorem zd_M_common_1 : decode zc_M_common 1 = .ok (.lstore 4, 2) := by decide +kernel
theorem zd_M_common_3 : decode zc_M_common 3 = .ok (.lload_n 2, 1) := by decide +kernel
theorem zd_M_common_4 : decode zc_M_common 4 = .ok (.lstore 6, 2) := by decide +kernel
theorem zd_M_common_6 : decode zc_M_common 6 = .ok (.lload 6, 2) := by decide +kernel
theorem zd_M_common_8 : decode zc_M_common 8 = .ok (.lconst 0, 1) := by decide +kernel
theorem zd_M_common_9 : decode zc_M_common 9 = .ok (.lcmp, 1) := by decide +kernel
theorem zd_M_common_10 : decode zc_M_common 10 = .ok (.ifCond .le 21, 3) := by decide +kernel
theorem zd_M_common_13 : decode zc_M_common 13 = .ok (.lload 4, 2) := by decide +kernel
theorem zd_M_common_15 : decode zc_M_common 15 = .ok (.lload 6, 2) := by decide +kernel
theorem zd_M_common_17 : decode zc_M_common 17 = .ok (.lrem, 1) := by decide +kernel
theorem zd_M_common_18 : decode zc_M_common 18 = .ok (.lstore 8, 2) := by decide +kernel
theorem zd_M_common_20 : decode zc_M_common 20 = .ok (.lload 6, 2) := by decide +kernel
theorem zd_M_common_22 : decode zc_M_common 22 = .ok (.lstore 4, 2) := by decide +kernel
theorem zd_M_common_24 : decode zc_M_common 24 = .ok (.lload 8, 2) := by decide +kernel
theorem zd_M_common_26 : decode zc_M_common 26 = .ok (.lstore 6, 2) := by decide +kernel
theorem zd_M_common_28 : decode zc_M_common 28 = .ok (.goto (-22), 3) := by decide +kernel
theorem zd_M_common_31 : decode zc_M_common 31 = .ok (.lload 4, 2) := by decide +kernel
theorem zd_M_common_33 : decode zc_M_common 33 = .ok (.lreturn, 1) := by decide +kernel
theorem zd_M_sum_0 : decode zc_M_sum 0 = .ok (.lconst 0, 1) := by decide +kernel
theorem zd_M_sum_1 : decode zc_M_sum 1 = .ok (.lstore 4, 2) := by decide +kernel
theorem zd_M_sum_3 : decode zc_M_sum 3 = .ok (.lconst 1, 1) := by decide +kernel
theorem zd_M_sum_4 : decode zc_M_sum 4 = .ok (.lstore 6, 2) := by decide +kernel
theorem zd_M_sum_6 : decode zc_M_sum 6 = .ok (.iconst 0, 1) := by decide +kernel
theorem zd_M_sum_7 : decode zc_M_sum 7 = .ok (.istore 8, 2) := by decide +kernel
theorem zd_M_sum_9 : decode zc_M_sum 9 = .ok (.iload 8, 2) := by decide +kernel
theorem zd_M_sum_11 : decode zc_M_sum 11 = .ok (.aload_n 0, 1) := by decide +kernel
theorem zd_M_sum_12 : decode zc_M_sum 12 = .ok (.getfield 110, 3) := by decide +kernel
theorem zd_M_sum_15 : decode zc_M_sum 15 = .ok (.if_icmp .ge 126, 3) := by decide +kernel
theorem zd_M_sum_18 : decode zc_M_sum 18 = .ok (.aload_n 0, 1) := by decide +kernel
theorem zd_M_sum_19 : decode zc_M_sum 19 = .ok (.iload 8, 2) := by decide +kernel
theorem zd_M_sum_21 : decode zc_M_sum 21 = .ok (.iload_n 1, 1) := by decide +kernel
theorem zd_M_sum_22 : decode zc_M_sum 22 = .ok (.iload_n 3, 1) := by decide +kernel
theorem zd_M_sum_23 : decode zc_M_sum 23 = .ok (.invokevirtual 145, 3) := by decide +kernel
theorem zd_M_sum_26 : decode zc_M_sum 26 = .ok (.ifCond .eq 109, 3) := by decide +kernel
theorem zd_M_sum_29 : decode zc_M_sum 29 = .ok (.aload_n 0, 1) := by decide +kernel
theorem zd_M_sum_30 : decode zc_M_sum 30 = .ok (.iload 8, 2) := by decide +kernel
theorem zd_M_sum_32 : decode zc_M_sum 32 = .ok (.iload_n 3, 1) := by decide +kernel
theorem zd_M_sum_33 : decode zc_M_sum 33 = .ok (.invokevirtual 137, 3) := by decide +kernel
theorem zd_M_sum_36 : decode zc_M_sum 36 = .ok (.iload_n 2, 1) := by decide +kernel
theorem zd_M_sum_37 : decode zc_M_sum 37 = .ok (.if_icmp .gt 98, 3) := by decide +kernel
theorem zd_M_sum_40 : decode zc_M_sum 40 = .ok (.aload_n 0, 1) := by decide +kernel
theorem zd_M_sum_41 : decode zc_M_sum 41 = .ok (.iload 8, 2) := by decide +kernel
theorem zd_M_sum_43 : decode zc_M_sum 43 = .ok (.iload_n 3, 1) := by decide +kernel
theorem zd_M_sum_44 : decode zc_M_sum 44 = .ok (.invokevirtual 141, 3) := by decide +kernel
theorem zd_M_sum_47 : decode zc_M_sum 47 = .ok (.iload_n 2, 1) := by decide +kernel
theorem zd_M_sum_48 : decode zc_M_sum 48 = .ok (.if_icmp .ge 6, 3) := by decide +kernel
theorem zd_M_sum_51 : decode zc_M_sum 51 = .ok (.goto 84, 3) := by decide +kernel
theorem zd_M_sum_54 : decode zc_M_sum 54 = .ok (.lload 4, 2) := by decide +kernel
theorem zd_M_sum_56 : decode zc_M_sum 56 = .ok (.aload_n 0, 1) := by decide +kernel
theorem zd_M_sum_57 : decode zc_M_sum 57 = .ok (.getfield 22, 3) := by decide +kernel
theorem zd_M_sum_60 : decode zc_M_sum 60 = .ok (.iload 8, 2) := by decide +kernel
theorem zd_M_sum_62 : decode zc_M_sum 62 = .ok (.iaload, 1) := by decide +kernel
theorem zd_M_sum_63 : decode zc_M_sum 63 = .ok (.i2l, 1) := by decide +kernel
theorem zd_M_sum_64 : decode zc_M_sum 64 = .ok (.lmul, 1) := by decide +kernel
theorem zd_M_sum_65 : decode zc_M_sum 65 = .ok (.lload 6, 2) := by decide +kernel
theorem zd_M_sum_67 : decode zc_M_sum 67 = .ok (.aload_n 0, 1) := by decide +kernel
theorem zd_M_sum_68 : decode zc_M_sum 68 = .ok (.getfield 19, 3) := by decide +kernel
theorem zd_M_sum_71 : decode zc_M_sum 71 = .ok (.iload 8, 2) := by decide +kernel
theorem zd_M_sum_73 : decode zc_M_sum 73 = .ok (.iaload, 1) := by decide +kernel
theorem zd_M_sum_74 : decode zc_M_sum 74 = .ok (.i2l, 1) := by decide +kernel
theorem zd_M_sum_75 : decode zc_M_sum 75 = .ok (.lmul, 1) := by decide +kernel
theorem zd_M_sum_76 : decode zc_M_sum 76 = .ok (.ladd, 1) := by decide +kernel
theorem zd_M_sum_77 : decode zc_M_sum 77 = .ok (.lstore 9, 2) := by decide +kernel
theorem zd_M_sum_79 : decode zc_M_sum 79 = .ok (.lload 6, 2) := by decide +kernel
theorem zd_M_sum_81 : decode zc_M_sum 81 = .ok (.aload_n 0, 1) := by decide +kernel
theorem zd_M_sum_82 : decode zc_M_sum 82 = .ok (.getfield 22, 3) := by decide +kernel
theorem zd_M_sum_85 : decode zc_M_sum 85 = .ok (.iload 8, 2) := by decide +kernel
theorem zd_M_sum_87 : decode zc_M_sum 87 = .ok (.iaload, 1) := by decide +kernel
theorem zd_M_sum_88 : decode zc_M_sum 88 = .ok (.i2l, 1) := by decide +kernel
theorem zd_M_sum_89 : decode zc_M_sum 89 = .ok (.lmul, 1) := by decide +kernel
theorem zd_M_sum_90 : decode zc_M_sum 90 = .ok (.lstore 11, 2) := by decide +kernel
theorem zd_M_sum_92 : decode zc_M_sum 92 = .ok (.lload 9, 2) := by decide +kernel
theorem zd_M_sum_94 : decode zc_M_sum 94 = .ok (.lload 11, 2) := by decide +kernel
theorem zd_M_sum_96 : decode zc_M_sum 96 = .ok (.invokestatic 154, 3) := by decide +kernel
theorem zd_M_sum_99 : decode zc_M_sum 99 = .ok (.lstore 13, 2) := by decide +kernel
theorem zd_M_sum_101 : decode zc_M_sum 101 = .ok (.lload 9, 2) := by decide +kernel
theorem zd_M_sum_103 : decode zc_M_sum 103 = .ok (.lload 13, 2) := by decide +kernel
theorem zd_M_sum_105 : decode zc_M_sum 105 = .ok (.ldiv, 1) := by decide +kernel
theorem zd_M_sum_106 : decode zc_M_sum 106 = .ok (.lstore 4, 2) := by decide +kernel
theorem zd_M_sum_108 : decode zc_M_sum 108 = .ok (.lload 11, 2) := by decide +kernel
theorem zd_M_sum_110 : decode zc_M_sum 110 = .ok (.lload 13, 2) := by decide +kernel
theorem zd_M_sum_112 : decode zc_M_sum 112 = .ok (.ldiv, 1) := by decide +kernel
theorem zd_M_sum_113 : decode zc_M_sum 113 = .ok (.lstore 6, 2) := by decide +kernel
theorem zd_M_sum_115 : decode zc_M_sum 115 = .ok (.lload 4, 2) := by decide +kernel
theorem zd_M_sum_117 : decode zc_M_sum 117 = .ok (.ldc2_w 158, 3) := by decide +kernel
theorem zd_M_sum_120 : decode zc_M_sum 120 = .ok (.lcmp, 1) := by decide +kernel
theorem zd_M_sum_121 : decode zc_M_sum 121 = .ok (.ifCond .gt 12, 3) := by decide +kernel
theorem zd_M_sum_124 : decode zc_M_sum 124 = .ok (.lload 6, 2) := by decide +kernel
theorem zd_M_sum_126 : decode zc_M_sum 126 = .ok (.ldc2_w 158, 3) := by decide +kernel
theorem zd_M_sum_129 : decode zc_M_sum 129 = .ok (.lcmp, 1) := by decide +kernel
theorem zd_M_sum_130 : decode zc_M_sum 130 = .ok (.ifCond .le 5, 3) := by decide +kernel
theorem zd_M_sum_133 : decode zc_M_sum 133 = .ok (.iconst 0, 1) := by decide +kernel
theorem zd_M_sum_134 : decode zc_M_sum 134 = .ok (.ireturn, 1) := by decide +kernel
theorem zd_M_sum_135 : decode zc_M_sum 135 = .ok (.iinc 8 1, 3) := by decide +kernel
theorem zd_M_sum_138 : decode zc_M_sum 138 = .ok (.goto (-129), 3) := by decide +kernel
theorem zd_M_sum_141 : decode zc_M_sum 141 = .ok (.aload_n 0, 1) := by decide +kernel
theorem zd_M_sum_142 : decode zc_M_sum 142 = .ok (.lload 4, 2) := by decide +kernel
theorem zd_M_sum_144 : decode zc_M_sum 144 = .ok (.l2i, 1) := by decide +kernel
theorem zd_M_sum_145 : decode zc_M_sum 145 = .ok (.putfield 160, 3) := by decide +kernel
theorem zd_M_sum_148 : decode zc_M_sum 148 = .ok (.aload_n 0, 1) := by decide +kernel
theorem zd_M_sum_149 : decode zc_M_sum 149 = .ok (.lload 6, 2) := by decide +kernel
theorem zd_M_sum_151 : decode zc_M_sum 151 = .ok (.l2i, 1) := by decide +kernel
theorem zd_M_sum_152 : decode zc_M_sum 152 = .ok (.putfield 163, 3) := by decide +kernel
theorem zd_M_sum_155 : decode zc_M_sum 155 = .ok (.iconst 1, 1) := by decide +kernel
theorem zd_M_sum_156 : decode zc_M_sum 156 = .ok (.ireturn, 1) := by decide +kernel
theorem zd_M_held_0 : decode zc_M_held 0 = .ok (.aload_n 0, 1) := by decide +kernel
theorem zd_M_held_1 : decode zc_M_held 1 = .ok (.iload_n 1, 1) := by decide +kernel
theorem zd_M_held_2 : decode zc_M_held 2 = .ok (.invokevirtual 121, 3) := by decide +kernel
theorem zd_M_held_5 : decode zc_M_held 5 = .ok (.ifCond .eq 13, 3) := by decide +kernel
theorem zd_M_held_8 : decode zc_M_held 8 = .ok (.iload 4, 2) := by decide +kernel
theorem zd_M_held_10 : decode zc_M_held 10 = .ok (.iconst 0, 1) := by decide +kernel
theorem zd_M_held_11 : decode zc_M_held 11 = .ok (.iconst 1, 1) := by decide +kernel
theorem zd_M_held_12 : decode zc_M_held 12 = .ok (.invokestatic 103, 3) := by decide +kernel
theorem zd_M_held_15 : decode zc_M_held 15 = .ok (.ifCond .ne 7, 3) := by decide +kernel
theorem zd_M_held_18 : decode zc_M_held 18 = .ok (.iconst 1, 1) := by decide +kernel
theorem zd_M_held_19 : decode zc_M_held 19 = .ok (.goto 4, 3) := by decide +kernel
theorem zd_M_held_22 : decode zc_M_held 22 = .ok (.iconst 0, 1) := by decide +kernel
theorem zd_M_held_23 : decode zc_M_held 23 = .ok (.istore 5, 2) := by decide +kernel
theorem zd_M_held_25 : decode zc_M_held 25 = .ok (.iload_n 2, 1) := by decide +kernel
theorem zd_M_held_26 : decode zc_M_held 26 = .ok (.invokestatic 117, 3) := by decide +kernel
theorem zd_M_held_29 : decode zc_M_held 29 = .ok (.ifCond .eq 10, 3) := by decide +kernel
theorem zd_M_held_32 : decode zc_M_held 32 = .ok (.iload_n 3, 1) := by decide +kernel
theorem zd_M_held_33 : decode zc_M_held 33 = .ok (.invokestatic 117, 3) := by decide +kernel
theorem zd_M_held_36 : decode zc_M_held 36 = .ok (.ifCond .ne 7, 3) := by decide +kernel
theorem zd_M_held_39 : decode zc_M_held 39 = .ok (.iconst 1, 1) := by decide +kernel
theorem zd_M_held_40 : decode zc_M_held 40 = .ok (.goto 4, 3) := by decide +kernel
theorem zd_M_held_43 : decode zc_M_held 43 = .ok (.iconst 0, 1) := by decide +kernel
theorem zd_M_held_44 : decode zc_M_held 44 = .ok (.istore 6, 2) := by decide +kernel
theorem zd_M_held_46 : decode zc_M_held 46 = .ok (.iload 5, 2) := by decide +kernel
theorem zd_M_held_48 : decode zc_M_held 48 = .ok (.ifCond .ne 18, 3) := by decide +kernel
theorem zd_M_held_51 : decode zc_M_held 51 = .ok (.iload 6, 2) := by decide +kernel
theorem zd_M_held_53 : decode zc_M_held 53 = .ok (.ifCond .ne 13, 3) := by decide +kernel
theorem zd_M_held_56 : decode zc_M_held 56 = .ok (.aload_n 0, 1) := by decide +kernel
theorem zd_M_held_57 : decode zc_M_held 57 = .ok (.iload_n 1, 1) := by decide +kernel
theorem zd_M_held_58 : decode zc_M_held 58 = .ok (.iload_n 2, 1) := by decide +kernel
theorem zd_M_held_59 : decode zc_M_held 59 = .ok (.iload_n 3, 1) := by decide +kernel
theorem zd_M_held_60 : decode zc_M_held 60 = .ok (.invokevirtual 166, 3) := by decide +kernel
theorem zd_M_held_63 : decode zc_M_held 63 = .ok (.ifCond .eq 7, 3) := by decide +kernel
theorem zd_M_held_66 : decode zc_M_held 66 = .ok (.iconst 1, 1) := by decide +kernel
theorem zd_M_held_67 : decode zc_M_held 67 = .ok (.goto 4, 3) := by decide +kernel
theorem zd_M_held_70 : decode zc_M_held 70 = .ok (.iconst 0, 1) := by decide +kernel
theorem zd_M_held_71 : decode zc_M_held 71 = .ok (.istore 7, 2) := by decide +kernel
theorem zd_M_held_73 : decode zc_M_held 73 = .ok (.aload_n 0, 1) := by decide +kernel
theorem zd_M_held_74 : decode zc_M_held 74 = .ok (.iload 5, 2) := by decide +kernel
theorem zd_M_held_76 : decode zc_M_held 76 = .ok (.iload 6, 2) := by decide +kernel
theorem zd_M_held_78 : decode zc_M_held 78 = .ok (.iload 7, 2) := by decide +kernel
theorem zd_M_held_80 : decode zc_M_held 80 = .ok (.ifCond .ne 7, 3) := by decide +kernel
theorem zd_M_held_83 : decode zc_M_held 83 = .ok (.iconst 1, 1) := by decide +kernel
theorem zd_M_held_84 : decode zc_M_held 84 = .ok (.goto 4, 3) := by decide +kernel
theorem zd_M_held_87 : decode zc_M_held 87 = .ok (.iconst 0, 1) := by decide +kernel
theorem zd_M_held_88 : decode zc_M_held 88 = .ok (.invokevirtual 113, 3) := by decide +kernel
theorem zd_M_held_91 : decode zc_M_held 91 = .ok (.ifCond .eq 5, 3) := by decide +kernel
theorem zd_M_held_94 : decode zc_M_held 94 = .ok (.iconst 0, 1) := by decide +kernel
theorem zd_M_held_95 : decode zc_M_held 95 = .ok (.ireturn, 1) := by decide +kernel
theorem zd_M_held_96 : decode zc_M_held 96 = .ok (.iload 4, 2) := by decide +kernel
theorem zd_M_held_98 : decode zc_M_held 98 = .ok (.ifCond .ne 10, 3) := by decide +kernel
theorem zd_M_held_101 : decode zc_M_held 101 = .ok (.aload_n 0, 1) := by decide +kernel
theorem zd_M_held_102 : decode zc_M_held 102 = .ok (.getfield 160, 3) := by decide +kernel
theorem zd_M_held_105 : decode zc_M_held 105 = .ok (.goto 7, 3) := by decide +kernel
theorem zd_M_held_108 : decode zc_M_held 108 = .ok (.aload_n 0, 1) := by decide +kernel
theorem zd_M_held_109 : decode zc_M_held 109 = .ok (.getfield 163, 3) := by decide +kernel
theorem zd_M_held_112 : decode zc_M_held 112 = .ok (.ireturn, 1) := by decide +kernel
theorem zd_M_danger_0 : decode zc_M_danger 0 = .ok (.iload_n 2, 1) := by decide +kernel
theorem zd_M_danger_1 : decode zc_M_danger 1 = .ok (.invokestatic 117, 3) := by decide +kernel
theorem zd_M_danger_4 : decode zc_M_danger 4 = .ok (.ifCond .eq 15, 3) := by decide +kernel
theorem zd_M_danger_7 : decode zc_M_danger 7 = .ok (.iload_n 3, 1) := by decide +kernel
theorem zd_M_danger_8 : decode zc_M_danger 8 = .ok (.invokestatic 117, 3) := by decide +kernel
theorem zd_M_danger_11 : decode zc_M_danger 11 = .ok (.ifCond .eq 8, 3) := by decide +kernel
theorem zd_M_danger_14 : decode zc_M_danger 14 = .ok (.iload_n 2, 1) := by decide +kernel
theorem zd_M_danger_15 : decode zc_M_danger 15 = .ok (.iload_n 3, 1) := by decide +kernel
theorem zd_M_danger_16 : decode zc_M_danger 16 = .ok (.if_icmp .le 7, 3) := by decide +kernel
theorem zd_M_danger_19 : decode zc_M_danger 19 = .ok (.iconst 1, 1) := by decide +kernel
theorem zd_M_danger_20 : decode zc_M_danger 20 = .ok (.goto 4, 3) := by decide +kernel
theorem zd_M_danger_23 : decode zc_M_danger 23 = .ok (.iconst 0, 1) := by decide +kernel
theorem zd_M_danger_24 : decode zc_M_danger 24 = .ok (.istore 4, 2) := by decide +kernel
theorem zd_M_danger_26 : decode zc_M_danger 26 = .ok (.aload_n 0, 1) := by decide +kernel
theorem zd_M_danger_27 : decode zc_M_danger 27 = .ok (.iload_n 1, 1) := by decide +kernel
theorem zd_M_danger_28 : decode zc_M_danger 28 = .ok (.iconst (-1), 1) := by decide +kernel
theorem zd_M_danger_29 : decode zc_M_danger 29 = .ok (.if_icmp .eq 14, 3) := by decide +kernel
theorem zd_M_danger_32 : decode zc_M_danger 32 = .ok (.iload_n 1, 1) := by decide +kernel
theorem zd_M_danger_33 : decode zc_M_danger 33 = .ok (.invokestatic 124, 3) := by decide +kernel
theorem zd_M_danger_36 : decode zc_M_danger 36 = .ok (.ifCond .ne 7, 3) := by decide +kernel
theorem zd_M_danger_39 : decode zc_M_danger 39 = .ok (.iconst 1, 1) := by decide +kernel
theorem zd_M_danger_40 : decode zc_M_danger 40 = .ok (.goto 4, 3) := by decide +kernel
theorem zd_M_danger_43 : decode zc_M_danger 43 = .ok (.iconst 0, 1) := by decide +kernel
theorem zd_M_danger_44 : decode zc_M_danger 44 = .ok (.iload 4, 2) := by decide +kernel
theorem zd_M_danger_46 : decode zc_M_danger 46 = .ok (.aload_n 0, 1) := by decide +kernel
theorem zd_M_danger_47 : decode zc_M_danger 47 = .ok (.getfield 169, 3) := by decide +kernel
theorem zd_M_danger_50 : decode zc_M_danger 50 = .ok (.bipush 10, 2) := by decide +kernel
theorem zd_M_danger_52 : decode zc_M_danger 52 = .ok (.if_icmp .ne 7, 3) := by decide +kernel
theorem zd_M_danger_55 : decode zc_M_danger 55 = .ok (.iconst 1, 1) := by decide +kernel
theorem zd_M_danger_56 : decode zc_M_danger 56 = .ok (.goto 4, 3) := by decide +kernel
theorem zd_M_danger_59 : decode zc_M_danger 59 = .ok (.iconst 0, 1) := by decide +kernel
theorem zd_M_danger_60 : decode zc_M_danger 60 = .ok (.invokevirtual 113, 3) := by decide +kernel
theorem zd_M_danger_63 : decode zc_M_danger 63 = .ok (.ifCond .eq 5, 3) := by decide +kernel
theorem zd_M_danger_66 : decode zc_M_danger 66 = .ok (.iconst 0, 1) := by decide +kernel
theorem zd_M_danger_67 : decode zc_M_danger 67 = .ok (.ireturn, 1) := by decide +kernel
theorem zd_M_danger_68 : decode zc_M_danger 68 = .ok (.aload_n 0, 1) := by decide +kernel
theorem zd_M_danger_69 : decode zc_M_danger 69 = .ok (.getfield 44, 3) := by decide +kernel
theorem zd_M_danger_72 : decode zc_M_danger 72 = .ok (.aload_n 0, 1) := by decide +kernel
theorem zd_M_danger_73 : decode zc_M_danger 73 = .ok (.getfield 169, 3) := by decide +kernel
theorem zd_M_danger_76 : decode zc_M_danger 76 = .ok (.iload_n 1, 1) := by decide +kernel
theorem zd_M_danger_77 : decode zc_M_danger 77 = .ok (.iastore, 1) := by decide +kernel
theorem zd_M_danger_78 : decode zc_M_danger 78 = .ok (.aload_n 0, 1) := by decide +kernel
theorem zd_M_danger_79 : decode zc_M_danger 79 = .ok (.getfield 47, 3) := by decide +kernel
theorem zd_M_danger_82 : decode zc_M_danger 82 = .ok (.aload_n 0, 1) := by decide +kernel
theorem zd_M_danger_83 : decode zc_M_danger 83 = .ok (.getfield 169, 3) := by decide +kernel
theorem zd_M_danger_86 : decode zc_M_danger 86 = .ok (.iload_n 2, 1) := by decide +kernel
theorem zd_M_danger_87 : decode zc_M_danger 87 = .ok (.iastore, 1) := by decide +kernel
theorem zd_M_danger_88 : decode zc_M_danger 88 = .ok (.aload_n 0, 1) := by decide +kernel
theorem zd_M_danger_89 : decode zc_M_danger 89 = .ok (.getfield 50, 3) := by decide +kernel
theorem zd_M_danger_92 : decode zc_M_danger 92 = .ok (.aload_n 0, 1) := by decide +kernel
theorem zd_M_danger_93 : decode zc_M_danger 93 = .ok (.getfield 169, 3) := by decide +kernel
theorem zd_M_danger_96 : decode zc_M_danger 96 = .ok (.iload_n 3, 1) := by decide +kernel
theorem zd_M_danger_97 : decode zc_M_danger 97 = .ok (.iastore, 1) := by decide +kernel
theorem zd_M_danger_98 : decode zc_M_danger 98 = .ok (.aload_n 0, 1) := by decide +kernel
theorem zd_M_danger_99 : decode zc_M_danger 99 = .ok (.dup, 1) := by decide +kernel
theorem zd_M_danger_100 : decode zc_M_danger 100 = .ok (.getfield 169, 3) := by decide +kernel
theorem zd_M_danger_103 : decode zc_M_danger 103 = .ok (.iconst 1, 1) := by decide +kernel
theorem zd_M_danger_104 : decode zc_M_danger 104 = .ok (.iadd, 1) := by decide +kernel
theorem zd_M_danger_105 : decode zc_M_danger 105 = .ok (.putfield 169, 3) := by decide +kernel
theorem zd_M_danger_108 : decode zc_M_danger 108 = .ok (.aload_n 0, 1) := by decide +kernel
theorem zd_M_danger_109 : decode zc_M_danger 109 = .ok (.getfield 169, 3) := by decide +kernel
theorem zd_M_danger_112 : decode zc_M_danger 112 = .ok (.iconst 1, 1) := by decide +kernel
theorem zd_M_danger_113 : decode zc_M_danger 113 = .ok (.isub, 1) := by decide +kernel
theorem zd_M_danger_114 : decode zc_M_danger 114 = .ok (.ireturn, 1) := by decide +kernel
theorem zd_M_isInDanger_0 : decode zc_M_isInDanger 0 = .ok (.iconst 0, 1) := by decide +kernel
theorem zd_M_isInDanger_1 : decode zc_M_isInDanger 1 = .ok (.istore_n 3, 1) := by decide +kernel
theorem zd_M_isInDanger_2 : decode zc_M_isInDanger 2 = .ok (.iconst 0, 1) := by decide +kernel
theorem zd_M_isInDanger_3 : decode zc_M_isInDanger 3 = .ok (.istore 4, 2) := by decide +kernel
theorem zd_M_isInDanger_5 : decode zc_M_isInDanger 5 = .ok (.iload 4, 2) := by decide +kernel
theorem zd_M_isInDanger_7 : decode zc_M_isInDanger 7 = .ok (.aload_n 0, 1) := by decide +kernel
theorem zd_M_isInDanger_8 : decode zc_M_isInDanger 8 = .ok (.getfield 169, 3) := by decide +kernel
theorem zd_M_isInDanger_11 : decode zc_M_isInDanger 11 = .ok (.if_icmp .ge 91, 3) := by decide +kernel
theorem zd_M_isInDanger_14 : decode zc_M_isInDanger 14 = .ok (.aload_n 0, 1) := by decide +kernel
theorem zd_M_isInDanger_15 : decode zc_M_isInDanger 15 = .ok (.iload_n 1, 1) := by decide +kernel
theorem zd_M_isInDanger_16 : decode zc_M_isInDanger 16 = .ok (.iload_n 2, 1) := by decide +kernel
theorem zd_M_isInDanger_17 : decode zc_M_isInDanger 17 = .ok (.invokevirtual 137, 3) := by decide +kernel
theorem zd_M_isInDanger_20 : decode zc_M_isInDanger 20 = .ok (.aload_n 0, 1) := by decide +kernel
theorem zd_M_isInDanger_21 : decode zc_M_isInDanger 21 = .ok (.getfield 50, 3) := by decide +kernel
theorem zd_M_isInDanger_24 : decode zc_M_isInDanger 24 = .ok (.iload 4, 2) := by decide +kernel
theorem zd_M_isInDanger_26 : decode zc_M_isInDanger 26 = .ok (.iaload, 1) := by decide +kernel
theorem zd_M_isInDanger_27 : decode zc_M_isInDanger 27 = .ok (.if_icmp .gt 23, 3) := by decide +kernel
theorem zd_M_isInDanger_30 : decode zc_M_isInDanger 30 = .ok (.aload_n 0, 1) := by decide +kernel
theorem zd_M_isInDanger_31 : decode zc_M_isInDanger 31 = .ok (.iload_n 1, 1) := by decide +kernel
theorem zd_M_isInDanger_32 : decode zc_M_isInDanger 32 = .ok (.iload_n 2, 1) := by decide +kernel
theorem zd_M_isInDanger_33 : decode zc_M_isInDanger 33 = .ok (.invokevirtual 141, 3) := by decide +kernel
theorem zd_M_isInDanger_36 : decode zc_M_isInDanger 36 = .ok (.aload_n 0, 1) := by decide +kernel
theorem zd_M_isInDanger_37 : decode zc_M_isInDanger 37 = .ok (.getfield 47, 3) := by decide +kernel
theorem zd_M_isInDanger_40 : decode zc_M_isInDanger 40 = .ok (.iload 4, 2) := by decide +kernel
theorem zd_M_isInDanger_42 : decode zc_M_isInDanger 42 = .ok (.iaload, 1) := by decide +kernel
theorem zd_M_isInDanger_43 : decode zc_M_isInDanger 43 = .ok (.if_icmp .lt 7, 3) := by decide +kernel
theorem zd_M_isInDanger_46 : decode zc_M_isInDanger 46 = .ok (.iconst 1, 1) := by decide +kernel
theorem zd_M_isInDanger_47 : decode zc_M_isInDanger 47 = .ok (.goto 4, 3) := by decide +kernel
theorem zd_M_isInDanger_50 : decode zc_M_isInDanger 50 = .ok (.iconst 0, 1) := by decide +kernel
theorem zd_M_isInDanger_51 : decode zc_M_isInDanger 51 = .ok (.istore 5, 2) := by decide +kernel
theorem zd_M_isInDanger_53 : decode zc_M_isInDanger 53 = .ok (.iload_n 3, 1) := by decide +kernel
theorem zd_M_isInDanger_54 : decode zc_M_isInDanger 54 = .ok (.ifCond .ne 36, 3) := by decide +kernel
theorem zd_M_isInDanger_57 : decode zc_M_isInDanger 57 = .ok (.iload 5, 2) := by decide +kernel
theorem zd_M_isInDanger_59 : decode zc_M_isInDanger 59 = .ok (.ifCond .eq 35, 3) := by decide +kernel
theorem zd_M_isInDanger_62 : decode zc_M_isInDanger 62 = .ok (.aload_n 0, 1) := by decide +kernel
theorem zd_M_isInDanger_63 : decode zc_M_isInDanger 63 = .ok (.getfield 44, 3) := by decide +kernel
theorem zd_M_isInDanger_66 : decode zc_M_isInDanger 66 = .ok (.iload 4, 2) := by decide +kernel
theorem zd_M_isInDanger_68 : decode zc_M_isInDanger 68 = .ok (.iaload, 1) := by decide +kernel
theorem zd_M_isInDanger_69 : decode zc_M_isInDanger 69 = .ok (.iconst (-1), 1) := by decide +kernel
theorem zd_M_isInDanger_70 : decode zc_M_isInDanger 70 = .ok (.if_icmp .eq 20, 3) := by decide +kernel
theorem zd_M_isInDanger_73 : decode zc_M_isInDanger 73 = .ok (.aload_n 0, 1) := by decide +kernel
theorem zd_M_isInDanger_74 : decode zc_M_isInDanger 74 = .ok (.getfield 44, 3) := by decide +kernel
theorem zd_M_isInDanger_77 : decode zc_M_isInDanger 77 = .ok (.iload 4, 2) := by decide +kernel
theorem zd_M_isInDanger_79 : decode zc_M_isInDanger 79 = .ok (.iaload, 1) := by decide +kernel
theorem zd_M_isInDanger_80 : decode zc_M_isInDanger 80 = .ok (.aload_n 0, 1) := by decide +kernel
theorem zd_M_isInDanger_81 : decode zc_M_isInDanger 81 = .ok (.iload_n 1, 1) := by decide +kernel
theorem zd_M_isInDanger_82 : decode zc_M_isInDanger 82 = .ok (.iconst 0, 1) := by decide +kernel
theorem zd_M_isInDanger_83 : decode zc_M_isInDanger 83 = .ok (.iload_n 2, 1) := by decide +kernel
theorem zd_M_isInDanger_84 : decode zc_M_isInDanger 84 = .ok (.invokevirtual 133, 3) := by decide +kernel
theorem zd_M_isInDanger_87 : decode zc_M_isInDanger 87 = .ok (.if_icmp .ne 7, 3) := by decide +kernel
theorem zd_M_isInDanger_90 : decode zc_M_isInDanger 90 = .ok (.iconst 1, 1) := by decide +kernel
theorem zd_M_isInDanger_91 : decode zc_M_isInDanger 91 = .ok (.goto 4, 3) := by decide +kernel
theorem zd_M_isInDanger_94 : decode zc_M_isInDanger 94 = .ok (.iconst 0, 1) := by decide +kernel
theorem zd_M_isInDanger_95 : decode zc_M_isInDanger 95 = .ok (.istore_n 3, 1) := by decide +kernel
theorem zd_M_isInDanger_96 : decode zc_M_isInDanger 96 = .ok (.iinc 4 1, 3) := by decide +kernel
theorem zd_M_isInDanger_99 : decode zc_M_isInDanger 99 = .ok (.goto (-94), 3) := by decide +kernel
theorem zd_M_isInDanger_102 : decode zc_M_isInDanger 102 = .ok (.iload_n 3, 1) := by decide +kernel
theorem zd_M_isInDanger_103 : decode zc_M_isInDanger 103 = .ok (.ireturn, 1) := by decide +kernel
theorem zd_M_asked_0 : decode zc_M_asked 0 = .ok (.aload_n 0, 1) := by decide +kernel
theorem zd_M_asked_1 : decode zc_M_asked 1 = .ok (.aload_n 0, 1) := by decide +kernel
theorem zd_M_asked_2 : decode zc_M_asked 2 = .ok (.iload_n 1, 1) := by decide +kernel
theorem zd_M_asked_3 : decode zc_M_asked 3 = .ok (.invokevirtual 121, 3) := by decide +kernel
theorem zd_M_asked_6 : decode zc_M_asked 6 = .ok (.ifCond .eq 7, 3) := by decide +kernel
theorem zd_M_asked_9 : decode zc_M_asked 9 = .ok (.iload_n 2, 1) := by decide +kernel
theorem zd_M_asked_10 : decode zc_M_asked 10 = .ok (.ifCond .ge 7, 3) := by decide +kernel
theorem zd_M_asked_13 : decode zc_M_asked 13 = .ok (.iconst 1, 1) := by decide +kernel
theorem zd_M_asked_14 : decode zc_M_asked 14 = .ok (.goto 4, 3) := by decide +kernel
theorem zd_M_asked_17 : decode zc_M_asked 17 = .ok (.iconst 0, 1) := by decide +kernel
theorem zd_M_asked_18 : decode zc_M_asked 18 = .ok (.iload_n 3, 1) := by decide +kernel
theorem zd_M_asked_19 : decode zc_M_asked 19 = .ok (.invokestatic 117, 3) := by decide +kernel
theorem zd_M_asked_22 : decode zc_M_asked 22 = .ok (.ifCond .ne 7, 3) := by decide +kernel
theorem zd_M_asked_25 : decode zc_M_asked 25 = .ok (.iconst 1, 1) := by decide +kernel
theorem zd_M_asked_26 : decode zc_M_asked 26 = .ok (.goto 4, 3) := by decide +kernel
theorem zd_M_asked_29 : decode zc_M_asked 29 = .ok (.iconst 0, 1) := by decide +kernel
theorem zd_M_asked_30 : decode zc_M_asked 30 = .ok (.iconst 0, 1) := by decide +kernel
theorem zd_M_asked_31 : decode zc_M_asked 31 = .ok (.invokevirtual 113, 3) := by decide +kernel
theorem zd_M_asked_34 : decode zc_M_asked 34 = .ok (.ifCond .eq 5, 3) := by decide +kernel
theorem zd_M_asked_37 : decode zc_M_asked 37 = .ok (.iconst 0, 1) := by decide +kernel
theorem zd_M_asked_38 : decode zc_M_asked 38 = .ok (.ireturn, 1) := by decide +kernel
theorem zd_M_asked_39 : decode zc_M_asked 39 = .ok (.iload_n 2, 1) := by decide +kernel
theorem zd_M_asked_40 : decode zc_M_asked 40 = .ok (.istore 4, 2) := by decide +kernel
theorem zd_M_asked_42 : decode zc_M_asked 42 = .ok (.iconst 0, 1) := by decide +kernel
theorem zd_M_asked_43 : decode zc_M_asked 43 = .ok (.istore 5, 2) := by decide +kernel
theorem zd_M_asked_45 : decode zc_M_asked 45 = .ok (.iload 5, 2) := by decide +kernel
theorem zd_M_asked_47 : decode zc_M_asked 47 = .ok (.aload_n 0, 1) := by decide +kernel
theorem zd_M_asked_48 : decode zc_M_asked 48 = .ok (.getfield 110, 3) := by decide +kernel
theorem zd_M_asked_51 : decode zc_M_asked 51 = .ok (.if_icmp .ge 44, 3) := by decide +kernel
theorem zd_M_asked_54 : decode zc_M_asked 54 = .ok (.aload_n 0, 1) := by decide +kernel
theorem zd_M_asked_55 : decode zc_M_asked 55 = .ok (.iload 5, 2) := by decide +kernel
theorem zd_M_asked_57 : decode zc_M_asked 57 = .ok (.iload_n 1, 1) := by decide +kernel
theorem zd_M_asked_58 : decode zc_M_asked 58 = .ok (.iload_n 3, 1) := by decide +kernel
theorem zd_M_asked_59 : decode zc_M_asked 59 = .ok (.invokevirtual 145, 3) := by decide +kernel
theorem zd_M_asked_62 : decode zc_M_asked 62 = .ok (.ifCond .eq 27, 3) := by decide +kernel
theorem zd_M_asked_65 : decode zc_M_asked 65 = .ok (.aload_n 0, 1) := by decide +kernel
theorem zd_M_asked_66 : decode zc_M_asked 66 = .ok (.iload 5, 2) := by decide +kernel
theorem zd_M_asked_68 : decode zc_M_asked 68 = .ok (.iload_n 3, 1) := by decide +kernel
theorem zd_M_asked_69 : decode zc_M_asked 69 = .ok (.invokevirtual 172, 3) := by decide +kernel
theorem zd_M_asked_72 : decode zc_M_asked 72 = .ok (.ifCond .ne 6, 3) := by decide +kernel
theorem zd_M_asked_75 : decode zc_M_asked 75 = .ok (.goto 14, 3) := by decide +kernel
theorem zd_M_asked_78 : decode zc_M_asked 78 = .ok (.iload 4, 2) := by decide +kernel
theorem zd_M_asked_80 : decode zc_M_asked 80 = .ok (.ifCond .ne 6, 3) := by decide +kernel
theorem zd_M_asked_83 : decode zc_M_asked 83 = .ok (.iload 5, 2) := by decide +kernel
theorem zd_M_asked_85 : decode zc_M_asked 85 = .ok (.ireturn, 1) := by decide +kernel
theorem zd_M_asked_86 : decode zc_M_asked 86 = .ok (.iinc 4 (-1), 3) := by decide +kernel
theorem zd_M_asked_89 : decode zc_M_asked 89 = .ok (.iinc 5 1, 3) := by decide +kernel
theorem zd_M_asked_92 : decode zc_M_asked 92 = .ok (.goto (-47), 3) := by decide +kernel
theorem zd_M_asked_95 : decode zc_M_asked 95 = .ok (.iconst (-1), 1) := by decide +kernel
theorem zd_M_asked_96 : decode zc_M_asked 96 = .ok (.ireturn, 1) := by decide +kernel
theorem zd_M_claim_0 : decode zc_M_claim 0 = .ok (.aload_n 0, 1) := by decide +kernel
theorem zd_M_claim_1 : decode zc_M_claim 1 = .ok (.aload_n 0, 1) := by decide +kernel
theorem zd_M_claim_2 : decode zc_M_claim 2 = .ok (.iload_n 1, 1) := by decide +kernel
theorem zd_M_claim_3 : decode zc_M_claim 3 = .ok (.invokevirtual 121, 3) := by decide +kernel
theorem zd_M_claim_6 : decode zc_M_claim 6 = .ok (.ifCond .eq 10, 3) := by decide +kernel
theorem zd_M_claim_9 : decode zc_M_claim 9 = .ok (.iload_n 2, 1) := by decide +kernel
theorem zd_M_claim_10 : decode zc_M_claim 10 = .ok (.invokestatic 124, 3) := by decide +kernel
theorem zd_M_claim_13 : decode zc_M_claim 13 = .ok (.ifCond .ne 7, 3) := by decide +kernel
theorem zd_M_claim_16 : decode zc_M_claim 16 = .ok (.iconst 1, 1) := by decide +kernel
theorem zd_M_claim_17 : decode zc_M_claim 17 = .ok (.goto 4, 3) := by decide +kernel
theorem zd_M_claim_20 : decode zc_M_claim 20 = .ok (.iconst 0, 1) := by decide +kernel
theorem zd_M_claim_21 : decode zc_M_claim 21 = .ok (.iload_n 3, 1) := by decide +kernel
theorem zd_M_claim_22 : decode zc_M_claim 22 = .ok (.invokestatic 117, 3) := by decide +kernel
theorem zd_M_claim_25 : decode zc_M_claim 25 = .ok (.ifCond .ne 7, 3) := by decide +kernel
theorem zd_M_claim_28 : decode zc_M_claim 28 = .ok (.iconst 1, 1) := by decide +kernel
theorem zd_M_claim_29 : decode zc_M_claim 29 = .ok (.goto 4, 3) := by decide +kernel
theorem zd_M_claim_32 : decode zc_M_claim 32 = .ok (.iconst 0, 1) := by decide +kernel
theorem zd_M_claim_33 : decode zc_M_claim 33 = .ok (.aload_n 0, 1) := by decide +kernel
theorem zd_M_claim_34 : decode zc_M_claim 34 = .ok (.getfield 176, 3) := by decide +kernel
theorem zd_M_claim_37 : decode zc_M_claim 37 = .ok (.bipush 30, 2) := by decide +kernel
theorem zd_M_claim_39 : decode zc_M_claim 39 = .ok (.if_icmp .ne 7, 3) := by decide +kernel
theorem zd_M_claim_42 : decode zc_M_claim 42 = .ok (.iconst 1, 1) := by decide +kernel
theorem zd_M_claim_43 : decode zc_M_claim 43 = .ok (.goto 4, 3) := by decide +kernel
theorem zd_M_claim_46 : decode zc_M_claim 46 = .ok (.iconst 0, 1) := by decide +kernel
theorem zd_M_claim_47 : decode zc_M_claim 47 = .ok (.invokevirtual 113, 3) := by decide +kernel
theorem zd_M_claim_50 : decode zc_M_claim 50 = .ok (.ifCond .eq 5, 3) := by decide +kernel
theorem zd_M_claim_53 : decode zc_M_claim 53 = .ok (.iconst 0, 1) := by decide +kernel
theorem zd_M_claim_54 : decode zc_M_claim 54 = .ok (.ireturn, 1) := by decide +kernel
theorem zd_M_claim_55 : decode zc_M_claim 55 = .ok (.aload_n 0, 1) := by decide +kernel
theorem zd_M_claim_56 : decode zc_M_claim 56 = .ok (.getfield 53, 3) := by decide +kernel
theorem zd_M_claim_59 : decode zc_M_claim 59 = .ok (.aload_n 0, 1) := by decide +kernel
theorem zd_M_claim_60 : decode zc_M_claim 60 = .ok (.getfield 176, 3) := by decide +kernel
theorem zd_M_claim_63 : decode zc_M_claim 63 = .ok (.iload_n 1, 1) := by decide +kernel
theorem zd_M_claim_64 : decode zc_M_claim 64 = .ok (.iastore, 1) := by decide +kernel
theorem zd_M_claim_65 : decode zc_M_claim 65 = .ok (.aload_n 0, 1) := by decide +kernel
theorem zd_M_claim_66 : decode zc_M_claim 66 = .ok (.getfield 56, 3) := by decide +kernel
theorem zd_M_claim_69 : decode zc_M_claim 69 = .ok (.aload_n 0, 1) := by decide +kernel
theorem zd_M_claim_70 : decode zc_M_claim 70 = .ok (.getfield 176, 3) := by decide +kernel
theorem zd_M_claim_73 : decode zc_M_claim 73 = .ok (.iload_n 3, 1) := by decide +kernel
theorem zd_M_claim_74 : decode zc_M_claim 74 = .ok (.iastore, 1) := by decide +kernel
theorem zd_M_claim_75 : decode zc_M_claim 75 = .ok (.aload_n 0, 1) := by decide +kernel
theorem zd_M_claim_76 : decode zc_M_claim 76 = .ok (.getfield 59, 3) := by decide +kernel
theorem zd_M_claim_79 : decode zc_M_claim 79 = .ok (.aload_n 0, 1) := by decide +kernel
theorem zd_M_claim_80 : decode zc_M_claim 80 = .ok (.getfield 176, 3) := by decide +kernel
theorem zd_M_claim_83 : decode zc_M_claim 83 = .ok (.iconst (-1), 1) := by decide +kernel
theorem zd_M_claim_84 : decode zc_M_claim 84 = .ok (.iastore, 1) := by decide +kernel
theorem zd_M_claim_85 : decode zc_M_claim 85 = .ok (.aload_n 0, 1) := by decide +kernel
theorem zd_M_claim_86 : decode zc_M_claim 86 = .ok (.dup, 1) := by decide +kernel
theorem zd_M_claim_87 : decode zc_M_claim 87 = .ok (.getfield 176, 3) := by decide +kernel
theorem zd_M_claim_90 : decode zc_M_claim 90 = .ok (.iconst 1, 1) := by decide +kernel
theorem zd_M_claim_91 : decode zc_M_claim 91 = .ok (.iadd, 1) := by decide +kernel
theorem zd_M_claim_92 : decode zc_M_claim 92 = .ok (.putfield 176, 3) := by decide +kernel
theorem zd_M_claim_95 : decode zc_M_claim 95 = .ok (.aload_n 0, 1) := by decide +kernel
theorem zd_M_claim_96 : decode zc_M_claim 96 = .ok (.getfield 176, 3) := by decide +kernel
theorem zd_M_claim_99 : decode zc_M_claim 99 = .ok (.iconst 1, 1) := by decide +kernel
theorem zd_M_claim_100 : decode zc_M_claim 100 = .ok (.isub, 1) := by decide +kernel
theorem zd_M_claim_101 : decode zc_M_claim 101 = .ok (.ireturn, 1) := by decide +kernel
theorem zd_M_settle_0 : decode zc_M_settle 0 = .ok (.iload_n 1, 1) := by decide +kernel
theorem zd_M_settle_1 : decode zc_M_settle 1 = .ok (.iconst 0, 1) := by decide +kernel
theorem zd_M_settle_2 : decode zc_M_settle 2 = .ok (.aload_n 0, 1) := by decide +kernel
theorem zd_M_settle_3 : decode zc_M_settle 3 = .ok (.getfield 176, 3) := by decide +kernel
theorem zd_M_settle_6 : decode zc_M_settle 6 = .ok (.iconst 1, 1) := by decide +kernel
theorem zd_M_settle_7 : decode zc_M_settle 7 = .ok (.isub, 1) := by decide +kernel
theorem zd_M_settle_8 : decode zc_M_settle 8 = .ok (.invokestatic 103, 3) := by decide +kernel
theorem zd_M_settle_11 : decode zc_M_settle 11 = .ok (.ifCond .ne 7, 3) := by decide +kernel
theorem zd_M_settle_14 : decode zc_M_settle 14 = .ok (.iconst 1, 1) := by decide +kernel
theorem zd_M_settle_15 : decode zc_M_settle 15 = .ok (.goto 4, 3) := by decide +kernel
theorem zd_M_settle_18 : decode zc_M_settle 18 = .ok (.iconst 0, 1) := by decide +kernel
theorem zd_M_settle_19 : decode zc_M_settle 19 = .ok (.istore_n 3, 1) := by decide +kernel
theorem zd_M_settle_20 : decode zc_M_settle 20 = .ok (.aload_n 0, 1) := by decide +kernel
theorem zd_M_settle_21 : decode zc_M_settle 21 = .ok (.iload_n 3, 1) := by decide +kernel
theorem zd_M_settle_22 : decode zc_M_settle 22 = .ok (.iload_n 3, 1) := by decide +kernel
theorem zd_M_settle_23 : decode zc_M_settle 23 = .ok (.ifCond .ne 24, 3) := by decide +kernel
theorem zd_M_settle_26 : decode zc_M_settle 26 = .ok (.iload_n 2, 1) := by decide +kernel
theorem zd_M_settle_27 : decode zc_M_settle 27 = .ok (.invokestatic 117, 3) := by decide +kernel
theorem zd_M_settle_30 : decode zc_M_settle 30 = .ok (.ifCond .eq 13, 3) := by decide +kernel
theorem zd_M_settle_33 : decode zc_M_settle 33 = .ok (.iload_n 2, 1) := by decide +kernel
theorem zd_M_settle_34 : decode zc_M_settle 34 = .ok (.aload_n 0, 1) := by decide +kernel
theorem zd_M_settle_35 : decode zc_M_settle 35 = .ok (.getfield 56, 3) := by decide +kernel
theorem zd_M_settle_38 : decode zc_M_settle 38 = .ok (.iload_n 1, 1) := by decide +kernel
theorem zd_M_settle_39 : decode zc_M_settle 39 = .ok (.iaload, 1) := by decide +kernel
theorem zd_M_settle_40 : decode zc_M_settle 40 = .ok (.if_icmp .ge 7, 3) := by decide +kernel
theorem zd_M_settle_43 : decode zc_M_settle 43 = .ok (.iconst 1, 1) := by decide +kernel
theorem zd_M_settle_44 : decode zc_M_settle 44 = .ok (.goto 4, 3) := by decide +kernel
theorem zd_M_settle_47 : decode zc_M_settle 47 = .ok (.iconst 0, 1) := by decide +kernel
theorem zd_M_settle_48 : decode zc_M_settle 48 = .ok (.iload_n 3, 1) := by decide +kernel
theorem zd_M_settle_49 : decode zc_M_settle 49 = .ok (.ifCond .ne 16, 3) := by decide +kernel
theorem zd_M_settle_52 : decode zc_M_settle 52 = .ok (.aload_n 0, 1) := by decide +kernel
theorem zd_M_settle_53 : decode zc_M_settle 53 = .ok (.getfield 59, 3) := by decide +kernel
theorem zd_M_settle_56 : decode zc_M_settle 56 = .ok (.iload_n 1, 1) := by decide +kernel
theorem zd_M_settle_57 : decode zc_M_settle 57 = .ok (.iaload, 1) := by decide +kernel
theorem zd_M_settle_58 : decode zc_M_settle 58 = .ok (.ifCond .lt 7, 3) := by decide +kernel
theorem zd_M_settle_61 : decode zc_M_settle 61 = .ok (.iconst 1, 1) := by decide +kernel
theorem zd_M_settle_62 : decode zc_M_settle 62 = .ok (.goto 4, 3) := by decide +kernel
theorem zd_M_settle_65 : decode zc_M_settle 65 = .ok (.iconst 0, 1) := by decide +kernel
theorem zd_M_settle_66 : decode zc_M_settle 66 = .ok (.invokevirtual 113, 3) := by decide +kernel
theorem zd_M_settle_69 : decode zc_M_settle 69 = .ok (.ifCond .eq 4, 3) := by decide +kernel
theorem zd_M_settle_72 : decode zc_M_settle 72 = .ok (.return_, 1) := by decide +kernel
theorem zd_M_settle_73 : decode zc_M_settle 73 = .ok (.aload_n 0, 1) := by decide +kernel
theorem zd_M_settle_74 : decode zc_M_settle 74 = .ok (.getfield 59, 3) := by decide +kernel
theorem zd_M_settle_77 : decode zc_M_settle 77 = .ok (.iload_n 1, 1) := by decide +kernel
theorem zd_M_settle_78 : decode zc_M_settle 78 = .ok (.iload_n 2, 1) := by decide +kernel
theorem zd_M_settle_79 : decode zc_M_settle 79 = .ok (.iastore, 1) := by decide +kernel
theorem zd_M_settle_80 : decode zc_M_settle 80 = .ok (.return_, 1) := by decide +kernel
theorem zd_M_stops_0 : decode zc_M_stops 0 = .ok (.aload_n 0, 1) := by decide +kernel
theorem zd_M_stops_1 : decode zc_M_stops 1 = .ok (.aload_n 0, 1) := by decide +kernel
theorem zd_M_stops_2 : decode zc_M_stops 2 = .ok (.iload_n 1, 1) := by decide +kernel
theorem zd_M_stops_3 : decode zc_M_stops 3 = .ok (.invokevirtual 121, 3) := by decide +kernel
theorem zd_M_stops_6 : decode zc_M_stops 6 = .ok (.ifCond .ne 7, 3) := by decide +kernel
theorem zd_M_stops_9 : decode zc_M_stops 9 = .ok (.iconst 1, 1) := by decide +kernel
theorem zd_M_stops_10 : decode zc_M_stops 10 = .ok (.goto 4, 3) := by decide +kernel
theorem zd_M_stops_13 : decode zc_M_stops 13 = .ok (.iconst 0, 1) := by decide +kernel
theorem zd_M_stops_14 : decode zc_M_stops 14 = .ok (.iload_n 2, 1) := by decide +kernel
theorem zd_M_stops_15 : decode zc_M_stops 15 = .ok (.invokestatic 117, 3) := by decide +kernel
theorem zd_M_stops_18 : decode zc_M_stops 18 = .ok (.ifCond .ne 7, 3) := by decide +kernel
theorem zd_M_stops_21 : decode zc_M_stops 21 = .ok (.iconst 1, 1) := by decide +kernel
theorem zd_M_stops_22 : decode zc_M_stops 22 = .ok (.goto 4, 3) := by decide +kernel
theorem zd_M_stops_25 : decode zc_M_stops 25 = .ok (.iconst 0, 1) := by decide +kernel
theorem zd_M_stops_26 : decode zc_M_stops 26 = .ok (.iconst 0, 1) := by decide +kernel
theorem zd_M_stops_27 : decode zc_M_stops 27 = .ok (.invokevirtual 113, 3) := by decide +kernel
theorem zd_M_stops_30 : decode zc_M_stops 30 = .ok (.ifCond .eq 5, 3) := by decide +kernel
theorem zd_M_stops_33 : decode zc_M_stops 33 = .ok (.iconst 0, 1) := by decide +kernel
theorem zd_M_stops_34 : decode zc_M_stops 34 = .ok (.ireturn, 1) := by decide +kernel
theorem zd_M_stops_35 : decode zc_M_stops 35 = .ok (.iconst 0, 1) := by decide +kernel
theorem zd_M_stops_36 : decode zc_M_stops 36 = .ok (.istore_n 3, 1) := by decide +kernel
theorem zd_M_stops_37 : decode zc_M_stops 37 = .ok (.iconst 0, 1) := by decide +kernel
theorem zd_M_stops_38 : decode zc_M_stops 38 = .ok (.istore 4, 2) := by decide +kernel
theorem zd_M_stops_40 : decode zc_M_stops 40 = .ok (.iload 4, 2) := by decide +kernel
theorem zd_M_stops_42 : decode zc_M_stops 42 = .ok (.aload_n 0, 1) := by decide +kernel
theorem zd_M_stops_43 : decode zc_M_stops 43 = .ok (.getfield 176, 3) := by decide +kernel
theorem zd_M_stops_46 : decode zc_M_stops 46 = .ok (.if_icmp .ge 62, 3) := by decide +kernel
theorem zd_M_stops_49 : decode zc_M_stops 49 = .ok (.iload_n 3, 1) := by decide +kernel
theorem zd_M_stops_50 : decode zc_M_stops 50 = .ok (.ifCond .ne 46, 3) := by decide +kernel
theorem zd_M_stops_53 : decode zc_M_stops 53 = .ok (.aload_n 0, 1) := by decide +kernel
theorem zd_M_stops_54 : decode zc_M_stops 54 = .ok (.getfield 53, 3) := by decide +kernel
theorem zd_M_stops_57 : decode zc_M_stops 57 = .ok (.iload 4, 2) := by decide +kernel
theorem zd_M_stops_59 : decode zc_M_stops 59 = .ok (.iaload, 1) := by decide +kernel
theorem zd_M_stops_60 : decode zc_M_stops 60 = .ok (.iload_n 1, 1) := by decide +kernel
theorem zd_M_stops_61 : decode zc_M_stops 61 = .ok (.if_icmp .ne 39, 3) := by decide +kernel
theorem zd_M_stops_64 : decode zc_M_stops 64 = .ok (.aload_n 0, 1) := by decide +kernel
theorem zd_M_stops_65 : decode zc_M_stops 65 = .ok (.getfield 56, 3) := by decide +kernel
theorem zd_M_stops_68 : decode zc_M_stops 68 = .ok (.iload 4, 2) := by decide +kernel
theorem zd_M_stops_70 : decode zc_M_stops 70 = .ok (.iaload, 1) := by decide +kernel
theorem zd_M_stops_71 : decode zc_M_stops 71 = .ok (.iload_n 2, 1) := by decide +kernel
theorem zd_M_stops_72 : decode zc_M_stops 72 = .ok (.if_icmp .gt 28, 3) := by decide +kernel
theorem zd_M_stops_75 : decode zc_M_stops 75 = .ok (.aload_n 0, 1) := by decide +kernel
theorem zd_M_stops_76 : decode zc_M_stops 76 = .ok (.getfield 59, 3) := by decide +kernel
theorem zd_M_stops_79 : decode zc_M_stops 79 = .ok (.iload 4, 2) := by decide +kernel
theorem zd_M_stops_81 : decode zc_M_stops 81 = .ok (.iaload, 1) := by decide +kernel
theorem zd_M_stops_82 : decode zc_M_stops 82 = .ok (.ifCond .lt 14, 3) := by decide +kernel
theorem zd_M_stops_85 : decode zc_M_stops 85 = .ok (.iload_n 2, 1) := by decide +kernel
theorem zd_M_stops_86 : decode zc_M_stops 86 = .ok (.aload_n 0, 1) := by decide +kernel
theorem zd_M_stops_87 : decode zc_M_stops 87 = .ok (.getfield 59, 3) := by decide +kernel
theorem zd_M_stops_90 : decode zc_M_stops 90 = .ok (.iload 4, 2) := by decide +kernel
theorem zd_M_stops_92 : decode zc_M_stops 92 = .ok (.iaload, 1) := by decide +kernel
theorem zd_M_stops_93 : decode zc_M_stops 93 = .ok (.if_icmp .ge 7, 3) := by decide +kernel
theorem zd_M_stops_96 : decode zc_M_stops 96 = .ok (.iconst 1, 1) := by decide +kernel
theorem zd_M_stops_97 : decode zc_M_stops 97 = .ok (.goto 4, 3) := by decide +kernel
theorem zd_M_stops_100 : decode zc_M_stops 100 = .ok (.iconst 0, 1) := by decide +kernel
theorem zd_M_stops_101 : decode zc_M_stops 101 = .ok (.istore_n 3, 1) := by decide +kernel
theorem zd_M_stops_102 : decode zc_M_stops 102 = .ok (.iinc 4 1, 3) := by decide +kernel
theorem zd_M_stops_105 : decode zc_M_stops 105 = .ok (.goto (-65), 3) := by decide +kernel
theorem zd_M_stops_108 : decode zc_M_stops 108 = .ok (.iload_n 3, 1) := by decide +kernel
theorem zd_M_stops_109 : decode zc_M_stops 109 = .ok (.ireturn, 1) := by decide +kernel
theorem zd_M_tell_0 : decode zc_M_tell 0 = .ok (.iload_n 1, 1) := by decide +kernel
theorem zd_M_tell_1 : decode zc_M_tell 1 = .ok (.iconst 0, 1) := by decide +kernel
theorem zd_M_tell_2 : decode zc_M_tell 2 = .ok (.iconst 2, 1) := by decide +kernel
theorem zd_M_tell_3 : decode zc_M_tell 3 = .ok (.invokestatic 103, 3) := by decide +kernel
theorem zd_M_tell_6 : decode zc_M_tell 6 = .ok (.ifCond .eq 48, 3) := by decide +kernel
theorem zd_M_tell_9 : decode zc_M_tell 9 = .ok (.iload_n 1, 1) := by decide +kernel
theorem zd_M_tell_10 : decode zc_M_tell 10 = .ok (.ifCond .ne 12, 3) := by decide +kernel
theorem zd_M_tell_13 : decode zc_M_tell 13 = .ok (.iload_n 2, 1) := by decide +kernel
theorem zd_M_tell_14 : decode zc_M_tell 14 = .ok (.iconst 0, 1) := by decide +kernel
theorem zd_M_tell_15 : decode zc_M_tell 15 = .ok (.iconst 3, 1) := by decide +kernel
theorem zd_M_tell_16 : decode zc_M_tell 16 = .ok (.invokestatic 103, 3) := by decide +kernel
theorem zd_M_tell_19 : decode zc_M_tell 19 = .ok (.ifCond .eq 35, 3) := by decide +kernel
theorem zd_M_tell_22 : decode zc_M_tell 22 = .ok (.iload_n 1, 1) := by decide +kernel
theorem zd_M_tell_23 : decode zc_M_tell 23 = .ok (.iconst 1, 1) := by decide +kernel
theorem zd_M_tell_24 : decode zc_M_tell 24 = .ok (.if_icmp .ne 18, 3) := by decide +kernel
theorem zd_M_tell_27 : decode zc_M_tell 27 = .ok (.aload_n 0, 1) := by decide +kernel
theorem zd_M_tell_28 : decode zc_M_tell 28 = .ok (.iload_n 2, 1) := by decide +kernel
theorem zd_M_tell_29 : decode zc_M_tell 29 = .ok (.invokevirtual 121, 3) := by decide +kernel
theorem zd_M_tell_32 : decode zc_M_tell 32 = .ok (.ifCond .eq 22, 3) := by decide +kernel
theorem zd_M_tell_35 : decode zc_M_tell 35 = .ok (.iload_n 3, 1) := by decide +kernel
theorem zd_M_tell_36 : decode zc_M_tell 36 = .ok (.invokestatic 124, 3) := by decide +kernel
theorem zd_M_tell_39 : decode zc_M_tell 39 = .ok (.ifCond .eq 15, 3) := by decide +kernel
theorem zd_M_tell_42 : decode zc_M_tell 42 = .ok (.iload_n 1, 1) := by decide +kernel
theorem zd_M_tell_43 : decode zc_M_tell 43 = .ok (.iconst 2, 1) := by decide +kernel
theorem zd_M_tell_44 : decode zc_M_tell 44 = .ok (.if_icmp .ne 14, 3) := by decide +kernel
theorem zd_M_tell_47 : decode zc_M_tell 47 = .ok (.iload_n 2, 1) := by decide +kernel
theorem zd_M_tell_48 : decode zc_M_tell 48 = .ok (.invokestatic 124, 3) := by decide +kernel
theorem zd_M_tell_51 : decode zc_M_tell 51 = .ok (.ifCond .ne 7, 3) := by decide +kernel
theorem zd_M_tell_54 : decode zc_M_tell 54 = .ok (.iconst 1, 1) := by decide +kernel
theorem zd_M_tell_55 : decode zc_M_tell 55 = .ok (.goto 4, 3) := by decide +kernel
theorem zd_M_tell_58 : decode zc_M_tell 58 = .ok (.iconst 0, 1) := by decide +kernel
theorem zd_M_tell_59 : decode zc_M_tell 59 = .ok (.istore 4, 2) := by decide +kernel
theorem zd_M_tell_61 : decode zc_M_tell 61 = .ok (.iload_n 1, 1) := by decide +kernel
theorem zd_M_tell_62 : decode zc_M_tell 62 = .ok (.ifCond .ne 14, 3) := by decide +kernel
theorem zd_M_tell_65 : decode zc_M_tell 65 = .ok (.iload_n 3, 1) := by decide +kernel
theorem zd_M_tell_66 : decode zc_M_tell 66 = .ok (.iconst 0, 1) := by decide +kernel
theorem zd_M_tell_67 : decode zc_M_tell 67 = .ok (.sipush 200, 3) := by decide +kernel
theorem zd_M_tell_70 : decode zc_M_tell 70 = .ok (.invokestatic 103, 3) := by decide +kernel
theorem zd_M_tell_73 : decode zc_M_tell 73 = .ok (.ifCond .eq 15, 3) := by decide +kernel
theorem zd_M_tell_76 : decode zc_M_tell 76 = .ok (.iload_n 1, 1) := by decide +kernel
theorem zd_M_tell_77 : decode zc_M_tell 77 = .ok (.iconst 2, 1) := by decide +kernel
theorem zd_M_tell_78 : decode zc_M_tell 78 = .ok (.if_icmp .ne 14, 3) := by decide +kernel
theorem zd_M_tell_81 : decode zc_M_tell 81 = .ok (.iload_n 3, 1) := by decide +kernel
theorem zd_M_tell_82 : decode zc_M_tell 82 = .ok (.invokestatic 117, 3) := by decide +kernel
theorem zd_M_tell_85 : decode zc_M_tell 85 = .ok (.ifCond .ne 7, 3) := by decide +kernel
theorem zd_M_tell_88 : decode zc_M_tell 88 = .ok (.iconst 1, 1) := by decide +kernel
theorem zd_M_tell_89 : decode zc_M_tell 89 = .ok (.goto 4, 3) := by decide +kernel
theorem zd_M_tell_92 : decode zc_M_tell 92 = .ok (.iconst 0, 1) := by decide +kernel
theorem zd_M_tell_93 : decode zc_M_tell 93 = .ok (.istore 5, 2) := by decide +kernel
theorem zd_M_tell_95 : decode zc_M_tell 95 = .ok (.aload_n 0, 1) := by decide +kernel
theorem zd_M_tell_96 : decode zc_M_tell 96 = .ok (.iload 4, 2) := by decide +kernel
theorem zd_M_tell_98 : decode zc_M_tell 98 = .ok (.iload 5, 2) := by decide +kernel
theorem zd_M_tell_100 : decode zc_M_tell 100 = .ok (.iconst 0, 1) := by decide +kernel
theorem zd_M_tell_101 : decode zc_M_tell 101 = .ok (.invokevirtual 113, 3) := by decide +kernel
theorem zd_M_tell_104 : decode zc_M_tell 104 = .ok (.ifCond .eq 4, 3) := by decide +kernel
theorem zd_M_tell_107 : decode zc_M_tell 107 = .ok (.return_, 1) := by decide +kernel
theorem zd_M_tell_108 : decode zc_M_tell 108 = .ok (.iload_n 1, 1) := by decide +kernel
theorem zd_M_tell_109 : decode zc_M_tell 109 = .ok (.ifCond .ne 10, 3) := by decide +kernel
theorem zd_M_tell_112 : decode zc_M_tell 112 = .ok (.aload_n 0, 1) := by decide +kernel
theorem zd_M_tell_113 : decode zc_M_tell 113 = .ok (.getfield 62, 3) := by decide +kernel
theorem zd_M_tell_116 : decode zc_M_tell 116 = .ok (.iload_n 2, 1) := by decide +kernel
theorem zd_M_tell_117 : decode zc_M_tell 117 = .ok (.iload_n 3, 1) := by decide +kernel
theorem zd_M_tell_118 : decode zc_M_tell 118 = .ok (.iastore, 1) := by decide +kernel
theorem zd_M_tell_119 : decode zc_M_tell 119 = .ok (.iload_n 1, 1) := by decide +kernel
theorem zd_M_tell_120 : decode zc_M_tell 120 = .ok (.iconst 1, 1) := by decide +kernel
theorem zd_M_tell_121 : decode zc_M_tell 121 = .ok (.if_icmp .ne 10, 3) := by decide +kernel
theorem zd_M_tell_124 : decode zc_M_tell 124 = .ok (.aload_n 0, 1) := by decide +kernel
theorem zd_M_tell_125 : decode zc_M_tell 125 = .ok (.getfield 65, 3) := by decide +kernel
theorem zd_M_tell_128 : decode zc_M_tell 128 = .ok (.iload_n 2, 1) := by decide +kernel
theorem zd_M_tell_129 : decode zc_M_tell 129 = .ok (.iload_n 3, 1) := by decide +kernel
theorem zd_M_tell_130 : decode zc_M_tell 130 = .ok (.iastore, 1) := by decide +kernel
theorem zd_M_tell_131 : decode zc_M_tell 131 = .ok (.iload_n 1, 1) := by decide +kernel
theorem zd_M_tell_132 : decode zc_M_tell 132 = .ok (.iconst 2, 1) := by decide +kernel
theorem zd_M_tell_133 : decode zc_M_tell 133 = .ok (.if_icmp .ne 10, 3) := by decide +kernel
theorem zd_M_tell_136 : decode zc_M_tell 136 = .ok (.aload_n 0, 1) := by decide +kernel
theorem zd_M_tell_137 : decode zc_M_tell 137 = .ok (.getfield 68, 3) := by decide +kernel
theorem zd_M_tell_140 : decode zc_M_tell 140 = .ok (.iload_n 2, 1) := by decide +kernel
theorem zd_M_tell_141 : decode zc_M_tell 141 = .ok (.iload_n 3, 1) := by decide +kernel
theorem zd_M_tell_142 : decode zc_M_tell 142 = .ok (.iastore, 1) := by decide +kernel
theorem zd_M_tell_143 : decode zc_M_tell 143 = .ok (.return_, 1) := by decide +kernel
theorem zd_M_rights_0 : decode zc_M_rights 0 = .ok (.aload_n 0, 1) := by decide +kernel
theorem zd_M_rights_1 : decode zc_M_rights 1 = .ok (.aload_n 0, 1) := by decide +kernel
theorem zd_M_rights_2 : decode zc_M_rights 2 = .ok (.iload_n 1, 1) := by decide +kernel
theorem zd_M_rights_3 : decode zc_M_rights 3 = .ok (.invokevirtual 121, 3) := by decide +kernel
theorem zd_M_rights_6 : decode zc_M_rights 6 = .ok (.ifCond .eq 12, 3) := by decide +kernel
theorem zd_M_rights_9 : decode zc_M_rights 9 = .ok (.iload_n 2, 1) := by decide +kernel
theorem zd_M_rights_10 : decode zc_M_rights 10 = .ok (.iconst 0, 1) := by decide +kernel
theorem zd_M_rights_11 : decode zc_M_rights 11 = .ok (.iconst 3, 1) := by decide +kernel
theorem zd_M_rights_12 : decode zc_M_rights 12 = .ok (.invokestatic 103, 3) := by decide +kernel
theorem zd_M_rights_15 : decode zc_M_rights 15 = .ok (.ifCond .ne 7, 3) := by decide +kernel
theorem zd_M_rights_18 : decode zc_M_rights 18 = .ok (.iconst 1, 1) := by decide +kernel
theorem zd_M_rights_19 : decode zc_M_rights 19 = .ok (.goto 4, 3) := by decide +kernel
theorem zd_M_rights_22 : decode zc_M_rights 22 = .ok (.iconst 0, 1) := by decide +kernel
theorem zd_M_rights_23 : decode zc_M_rights 23 = .ok (.iload_n 3, 1) := by decide +kernel
theorem zd_M_rights_24 : decode zc_M_rights 24 = .ok (.invokestatic 117, 3) := by decide +kernel
theorem zd_M_rights_27 : decode zc_M_rights 27 = .ok (.ifCond .ne 7, 3) := by decide +kernel
theorem zd_M_rights_30 : decode zc_M_rights 30 = .ok (.iconst 1, 1) := by decide +kernel
theorem zd_M_rights_31 : decode zc_M_rights 31 = .ok (.goto 4, 3) := by decide +kernel
theorem zd_M_rights_34 : decode zc_M_rights 34 = .ok (.iconst 0, 1) := by decide +kernel
theorem zd_M_rights_35 : decode zc_M_rights 35 = .ok (.iconst 0, 1) := by decide +kernel
theorem zd_M_rights_36 : decode zc_M_rights 36 = .ok (.invokevirtual 113, 3) := by decide +kernel
theorem zd_M_rights_39 : decode zc_M_rights 39 = .ok (.ifCond .eq 5, 3) := by decide +kernel
theorem zd_M_rights_42 : decode zc_M_rights 42 = .ok (.iconst 0, 1) := by decide +kernel
theorem zd_M_rights_43 : decode zc_M_rights 43 = .ok (.ireturn, 1) := by decide +kernel
theorem zd_M_rights_44 : decode zc_M_rights 44 = .ok (.aload_n 0, 1) := by decide +kernel
theorem zd_M_rights_45 : decode zc_M_rights 45 = .ok (.getfield 65, 3) := by decide +kernel
theorem zd_M_rights_48 : decode zc_M_rights 48 = .ok (.iload_n 1, 1) := by decide +kernel
theorem zd_M_rights_49 : decode zc_M_rights 49 = .ok (.iaload, 1) := by decide +kernel
theorem zd_M_rights_50 : decode zc_M_rights 50 = .ok (.istore 4, 2) := by decide +kernel
theorem zd_M_rights_52 : decode zc_M_rights 52 = .ok (.iload 4, 2) := by decide +kernel
theorem zd_M_rights_54 : decode zc_M_rights 54 = .ok (.ifCond .ge 5, 3) := by decide +kernel
theorem zd_M_rights_57 : decode zc_M_rights 57 = .ok (.iconst (-1), 1) := by decide +kernel
theorem zd_M_rights_58 : decode zc_M_rights 58 = .ok (.ireturn, 1) := by decide +kernel
theorem zd_M_rights_59 : decode zc_M_rights 59 = .ok (.aload_n 0, 1) := by decide +kernel
theorem zd_M_rights_60 : decode zc_M_rights 60 = .ok (.getfield 68, 3) := by decide +kernel
theorem zd_M_rights_63 : decode zc_M_rights 63 = .ok (.iload 4, 2) := by decide +kernel
theorem zd_M_rights_65 : decode zc_M_rights 65 = .ok (.iaload, 1) := by decide +kernel
theorem zd_M_rights_66 : decode zc_M_rights 66 = .ok (.ifCond .lt 25, 3) := by decide +kernel
theorem zd_M_rights_69 : decode zc_M_rights 69 = .ok (.iload_n 3, 1) := by decide +kernel
theorem zd_M_rights_70 : decode zc_M_rights 70 = .ok (.aload_n 0, 1) := by decide +kernel
theorem zd_M_rights_71 : decode zc_M_rights 71 = .ok (.getfield 68, 3) := by decide +kernel
theorem zd_M_rights_74 : decode zc_M_rights 74 = .ok (.iload 4, 2) := by decide +kernel
theorem zd_M_rights_76 : decode zc_M_rights 76 = .ok (.iaload, 1) := by decide +kernel
theorem zd_M_rights_77 : decode zc_M_rights 77 = .ok (.sipush 365, 3) := by decide +kernel
theorem zd_M_rights_80 : decode zc_M_rights 80 = .ok (.aload_n 0, 1) := by decide +kernel
theorem zd_M_rights_81 : decode zc_M_rights 81 = .ok (.getfield 62, 3) := by decide +kernel
theorem zd_M_rights_84 : decode zc_M_rights 84 = .ok (.iload_n 2, 1) := by decide +kernel
theorem zd_M_rights_85 : decode zc_M_rights 85 = .ok (.iaload, 1) := by decide +kernel
theorem zd_M_rights_86 : decode zc_M_rights 86 = .ok (.imul, 1) := by decide +kernel
theorem zd_M_rights_87 : decode zc_M_rights 87 = .ok (.iadd, 1) := by decide +kernel
theorem zd_M_rights_88 : decode zc_M_rights 88 = .ok (.if_icmp .gt 8, 3) := by decide +kernel
theorem zd_M_rights_91 : decode zc_M_rights 91 = .ok (.iload 4, 2) := by decide +kernel
theorem zd_M_rights_93 : decode zc_M_rights 93 = .ok (.goto 4, 3) := by decide +kernel
theorem zd_M_rights_96 : decode zc_M_rights 96 = .ok (.iconst (-1), 1) := by decide +kernel
theorem zd_M_rights_97 : decode zc_M_rights 97 = .ok (.ireturn, 1) := by decide +kernel
theorem zd_M_licence_0 : decode zc_M_licence 0 = .ok (.iload_n 3, 1) := by decide +kernel
theorem zd_M_licence_1 : decode zc_M_licence 1 = .ok (.invokestatic 117, 3) := by decide +kernel
theorem zd_M_licence_4 : decode zc_M_licence 4 = .ok (.ifCond .eq 17, 3) := by decide +kernel
theorem zd_M_licence_7 : decode zc_M_licence 7 = .ok (.iload 4, 2) := by decide +kernel
theorem zd_M_licence_9 : decode zc_M_licence 9 = .ok (.invokestatic 117, 3) := by decide +kernel
theorem zd_M_licence_12 : decode zc_M_licence 12 = .ok (.ifCond .eq 9, 3) := by decide +kernel
theorem zd_M_licence_15 : decode zc_M_licence 15 = .ok (.iload_n 3, 1) := by decide +kernel
theorem zd_M_licence_16 : decode zc_M_licence 16 = .ok (.iload 4, 2) := by decide +kernel
theorem zd_M_licence_18 : decode zc_M_licence 18 = .ok (.if_icmp .le 7, 3) := by decide +kernel
theorem zd_M_licence_21 : decode zc_M_licence 21 = .ok (.iconst 1, 1) := by decide +kernel
theorem zd_M_licence_22 : decode zc_M_licence 22 = .ok (.goto 4, 3) := by decide +kernel
theorem zd_M_licence_25 : decode zc_M_licence 25 = .ok (.iconst 0, 1) := by decide +kernel
theorem zd_M_licence_26 : decode zc_M_licence 26 = .ok (.istore 5, 2) := by decide +kernel
theorem zd_M_licence_28 : decode zc_M_licence 28 = .ok (.aload_n 0, 1) := by decide +kernel
theorem zd_M_licence_29 : decode zc_M_licence 29 = .ok (.aload_n 0, 1) := by decide +kernel
theorem zd_M_licence_30 : decode zc_M_licence 30 = .ok (.iload_n 1, 1) := by decide +kernel
theorem zd_M_licence_31 : decode zc_M_licence 31 = .ok (.invokevirtual 121, 3) := by decide +kernel
theorem zd_M_licence_34 : decode zc_M_licence 34 = .ok (.ifCond .eq 13, 3) := by decide +kernel
theorem zd_M_licence_37 : decode zc_M_licence 37 = .ok (.iload_n 2, 1) := by decide +kernel
theorem zd_M_licence_38 : decode zc_M_licence 38 = .ok (.iconst 0, 1) := by decide +kernel
theorem zd_M_licence_39 : decode zc_M_licence 39 = .ok (.bipush 7, 2) := by decide +kernel
theorem zd_M_licence_41 : decode zc_M_licence 41 = .ok (.invokestatic 103, 3) := by decide +kernel
theorem zd_M_licence_44 : decode zc_M_licence 44 = .ok (.ifCond .ne 7, 3) := by decide +kernel
theorem zd_M_licence_47 : decode zc_M_licence 47 = .ok (.iconst 1, 1) := by decide +kernel
theorem zd_M_licence_48 : decode zc_M_licence 48 = .ok (.goto 4, 3) := by decide +kernel
theorem zd_M_licence_51 : decode zc_M_licence 51 = .ok (.iconst 0, 1) := by decide +kernel
theorem zd_M_licence_52 : decode zc_M_licence 52 = .ok (.iload 5, 2) := by decide +kernel
theorem zd_M_licence_54 : decode zc_M_licence 54 = .ok (.aload_n 0, 1) := by decide +kernel
theorem zd_M_licence_55 : decode zc_M_licence 55 = .ok (.getfield 179, 3) := by decide +kernel
theorem zd_M_licence_58 : decode zc_M_licence 58 = .ok (.bipush 40, 2) := by decide +kernel
theorem zd_M_licence_60 : decode zc_M_licence 60 = .ok (.if_icmp .ne 7, 3) := by decide +kernel
theorem zd_M_licence_63 : decode zc_M_licence 63 = .ok (.iconst 1, 1) := by decide +kernel
theorem zd_M_licence_64 : decode zc_M_licence 64 = .ok (.goto 4, 3) := by decide +kernel
theorem zd_M_licence_67 : decode zc_M_licence 67 = .ok (.iconst 0, 1) := by decide +kernel
theorem zd_M_licence_68 : decode zc_M_licence 68 = .ok (.invokevirtual 113, 3) := by decide +kernel
theorem zd_M_licence_71 : decode zc_M_licence 71 = .ok (.ifCond .eq 5, 3) := by decide +kernel
theorem zd_M_licence_74 : decode zc_M_licence 74 = .ok (.iconst 0, 1) := by decide +kernel
theorem zd_M_licence_75 : decode zc_M_licence 75 = .ok (.ireturn, 1) := by decide +kernel
theorem zd_M_licence_76 : decode zc_M_licence 76 = .ok (.aload_n 0, 1) := by decide +kernel
theorem zd_M_licence_77 : decode zc_M_licence 77 = .ok (.getfield 71, 3) := by decide +kernel
theorem zd_M_licence_80 : decode zc_M_licence 80 = .ok (.aload_n 0, 1) := by decide +kernel
theorem zd_M_licence_81 : decode zc_M_licence 81 = .ok (.getfield 179, 3) := by decide +kernel
theorem zd_M_licence_84 : decode zc_M_licence 84 = .ok (.iload_n 1, 1) := by decide +kernel
theorem zd_M_licence_85 : decode zc_M_licence 85 = .ok (.iastore, 1) := by decide +kernel
theorem zd_M_licence_86 : decode zc_M_licence 86 = .ok (.aload_n 0, 1) := by decide +kernel
theorem zd_M_licence_87 : decode zc_M_licence 87 = .ok (.getfield 74, 3) := by decide +kernel
theorem zd_M_licence_90 : decode zc_M_licence 90 = .ok (.aload_n 0, 1) := by decide +kernel
theorem zd_M_licence_91 : decode zc_M_licence 91 = .ok (.getfield 179, 3) := by decide +kernel
theorem zd_M_licence_94 : decode zc_M_licence 94 = .ok (.iload_n 2, 1) := by decide +kernel
theorem zd_M_licence_95 : decode zc_M_licence 95 = .ok (.iastore, 1) := by decide +kernel
theorem zd_M_licence_96 : decode zc_M_licence 96 = .ok (.aload_n 0, 1) := by decide +kernel
theorem zd_M_licence_97 : decode zc_M_licence 97 = .ok (.getfield 77, 3) := by decide +kernel
theorem zd_M_licence_100 : decode zc_M_licence 100 = .ok (.aload_n 0, 1) := by decide +kernel
theorem zd_M_licence_101 : decode zc_M_licence 101 = .ok (.getfield 179, 3) := by decide +kernel
theorem zd_M_licence_104 : decode zc_M_licence 104 = .ok (.iload_n 3, 1) := by decide +kernel
theorem zd_M_licence_105 : decode zc_M_licence 105 = .ok (.iastore, 1) := by decide +kernel
theorem zd_M_licence_106 : decode zc_M_licence 106 = .ok (.aload_n 0, 1) := by decide +kernel
theorem zd_M_licence_107 : decode zc_M_licence 107 = .ok (.getfield 80, 3) := by decide +kernel
theorem zd_M_licence_110 : decode zc_M_licence 110 = .ok (.aload_n 0, 1) := by decide +kernel
theorem zd_M_licence_111 : decode zc_M_licence 111 = .ok (.getfield 179, 3) := by decide +kernel
theorem zd_M_licence_114 : decode zc_M_licence 114 = .ok (.iload 4, 2) := by decide +kernel
theorem zd_M_licence_116 : decode zc_M_licence 116 = .ok (.iastore, 1) := by decide +kernel
theorem zd_M_licence_117 : decode zc_M_licence 117 = .ok (.aload_n 0, 1) := by decide +kernel
theorem zd_M_licence_118 : decode zc_M_licence 118 = .ok (.dup, 1) := by decide +kernel
theorem zd_M_licence_119 : decode zc_M_licence 119 = .ok (.getfield 179, 3) := by decide +kernel
theorem zd_M_licence_122 : decode zc_M_licence 122 = .ok (.iconst 1, 1) := by decide +kernel
theorem zd_M_licence_123 : decode zc_M_licence 123 = .ok (.iadd, 1) := by decide +kernel
theorem zd_M_licence_124 : decode zc_M_licence 124 = .ok (.putfield 179, 3) := by decide +kernel
theorem zd_M_licence_127 : decode zc_M_licence 127 = .ok (.aload_n 0, 1) := by decide +kernel
theorem zd_M_licence_128 : decode zc_M_licence 128 = .ok (.getfield 179, 3) := by decide +kernel
theorem zd_M_licence_131 : decode zc_M_licence 131 = .ok (.ireturn, 1) := by decide +kernel
theorem zd_M_licensed_0 : decode zc_M_licensed 0 = .ok (.aload_n 0, 1) := by decide +kernel
theorem zd_M_licensed_1 : decode zc_M_licensed 1 = .ok (.aload_n 0, 1) := by decide +kernel
theorem zd_M_licensed_2 : decode zc_M_licensed 2 = .ok (.iload_n 1, 1) := by decide +kernel
theorem zd_M_licensed_3 : decode zc_M_licensed 3 = .ok (.invokevirtual 121, 3) := by decide +kernel
theorem zd_M_licensed_6 : decode zc_M_licensed 6 = .ok (.ifCond .eq 13, 3) := by decide +kernel
theorem zd_M_licensed_9 : decode zc_M_licensed 9 = .ok (.iload_n 2, 1) := by decide +kernel
theorem zd_M_licensed_10 : decode zc_M_licensed 10 = .ok (.iconst 0, 1) := by decide +kernel
theorem zd_M_licensed_11 : decode zc_M_licensed 11 = .ok (.bipush 7, 2) := by decide +kernel
theorem zd_M_licensed_13 : decode zc_M_licensed 13 = .ok (.invokestatic 103, 3) := by decide +kernel
theorem zd_M_licensed_16 : decode zc_M_licensed 16 = .ok (.ifCond .ne 7, 3) := by decide +kernel
theorem zd_M_licensed_19 : decode zc_M_licensed 19 = .ok (.iconst 1, 1) := by decide +kernel
theorem zd_M_licensed_20 : decode zc_M_licensed 20 = .ok (.goto 4, 3) := by decide +kernel
theorem zd_M_licensed_23 : decode zc_M_licensed 23 = .ok (.iconst 0, 1) := by decide +kernel
theorem zd_M_licensed_24 : decode zc_M_licensed 24 = .ok (.iload_n 3, 1) := by decide +kernel
theorem zd_M_licensed_25 : decode zc_M_licensed 25 = .ok (.invokestatic 117, 3) := by decide +kernel
theorem zd_M_licensed_28 : decode zc_M_licensed 28 = .ok (.ifCond .ne 7, 3) := by decide +kernel
theorem zd_M_licensed_31 : decode zc_M_licensed 31 = .ok (.iconst 1, 1) := by decide +kernel
theorem zd_M_licensed_32 : decode zc_M_licensed 32 = .ok (.goto 4, 3) := by decide +kernel
theorem zd_M_licensed_35 : decode zc_M_licensed 35 = .ok (.iconst 0, 1) := by decide +kernel
theorem zd_M_licensed_36 : decode zc_M_licensed 36 = .ok (.iconst 0, 1) := by decide +kernel
theorem zd_M_licensed_37 : decode zc_M_licensed 37 = .ok (.invokevirtual 113, 3) := by decide +kernel
theorem zd_M_licensed_40 : decode zc_M_licensed 40 = .ok (.ifCond .eq 5, 3) := by decide +kernel
theorem zd_M_licensed_43 : decode zc_M_licensed 43 = .ok (.iconst 0, 1) := by decide +kernel
theorem zd_M_licensed_44 : decode zc_M_licensed 44 = .ok (.ireturn, 1) := by decide +kernel
theorem zd_M_licensed_45 : decode zc_M_licensed 45 = .ok (.iconst 0, 1) := by decide +kernel
theorem zd_M_licensed_46 : decode zc_M_licensed 46 = .ok (.istore 4, 2) := by decide +kernel
theorem zd_M_licensed_48 : decode zc_M_licensed 48 = .ok (.iconst 0, 1) := by decide +kernel
theorem zd_M_licensed_49 : decode zc_M_licensed 49 = .ok (.istore 5, 2) := by decide +kernel
theorem zd_M_licensed_51 : decode zc_M_licensed 51 = .ok (.iload 5, 2) := by decide +kernel
theorem zd_M_licensed_53 : decode zc_M_licensed 53 = .ok (.aload_n 0, 1) := by decide +kernel
theorem zd_M_licensed_54 : decode zc_M_licensed 54 = .ok (.getfield 179, 3) := by decide +kernel
theorem zd_M_licensed_57 : decode zc_M_licensed 57 = .ok (.if_icmp .ge 65, 3) := by decide +kernel
theorem zd_M_licensed_60 : decode zc_M_licensed 60 = .ok (.iload 4, 2) := by decide +kernel
theorem zd_M_licensed_62 : decode zc_M_licensed 62 = .ok (.ifCond .ne 47, 3) := by decide +kernel
theorem zd_M_licensed_65 : decode zc_M_licensed 65 = .ok (.aload_n 0, 1) := by decide +kernel
theorem zd_M_licensed_66 : decode zc_M_licensed 66 = .ok (.getfield 71, 3) := by decide +kernel
theorem zd_M_licensed_69 : decode zc_M_licensed 69 = .ok (.iload 5, 2) := by decide +kernel
theorem zd_M_licensed_71 : decode zc_M_licensed 71 = .ok (.iaload, 1) := by decide +kernel
theorem zd_M_licensed_72 : decode zc_M_licensed 72 = .ok (.iload_n 1, 1) := by decide +kernel
theorem zd_M_licensed_73 : decode zc_M_licensed 73 = .ok (.if_icmp .ne 40, 3) := by decide +kernel
theorem zd_M_licensed_76 : decode zc_M_licensed 76 = .ok (.aload_n 0, 1) := by decide +kernel
theorem zd_M_licensed_77 : decode zc_M_licensed 77 = .ok (.getfield 74, 3) := by decide +kernel
theorem zd_M_licensed_80 : decode zc_M_licensed 80 = .ok (.iload 5, 2) := by decide +kernel
theorem zd_M_licensed_82 : decode zc_M_licensed 82 = .ok (.iaload, 1) := by decide +kernel
theorem zd_M_licensed_83 : decode zc_M_licensed 83 = .ok (.iload_n 2, 1) := by decide +kernel
theorem zd_M_licensed_84 : decode zc_M_licensed 84 = .ok (.if_icmp .ne 29, 3) := by decide +kernel
theorem zd_M_licensed_87 : decode zc_M_licensed 87 = .ok (.aload_n 0, 1) := by decide +kernel
theorem zd_M_licensed_88 : decode zc_M_licensed 88 = .ok (.getfield 77, 3) := by decide +kernel
theorem zd_M_licensed_91 : decode zc_M_licensed 91 = .ok (.iload 5, 2) := by decide +kernel
theorem zd_M_licensed_93 : decode zc_M_licensed 93 = .ok (.iaload, 1) := by decide +kernel
theorem zd_M_licensed_94 : decode zc_M_licensed 94 = .ok (.iload_n 3, 1) := by decide +kernel
theorem zd_M_licensed_95 : decode zc_M_licensed 95 = .ok (.if_icmp .gt 18, 3) := by decide +kernel
theorem zd_M_licensed_98 : decode zc_M_licensed 98 = .ok (.iload_n 3, 1) := by decide +kernel
theorem zd_M_licensed_99 : decode zc_M_licensed 99 = .ok (.aload_n 0, 1) := by decide +kernel
theorem zd_M_licensed_100 : decode zc_M_licensed 100 = .ok (.getfield 80, 3) := by decide +kernel
theorem zd_M_licensed_103 : decode zc_M_licensed 103 = .ok (.iload 5, 2) := by decide +kernel
theorem zd_M_licensed_105 : decode zc_M_licensed 105 = .ok (.iaload, 1) := by decide +kernel
theorem zd_M_licensed_106 : decode zc_M_licensed 106 = .ok (.if_icmp .gt 7, 3) := by decide +kernel
theorem zd_M_licensed_109 : decode zc_M_licensed 109 = .ok (.iconst 1, 1) := by decide +kernel
theorem zd_M_licensed_110 : decode zc_M_licensed 110 = .ok (.goto 4, 3) := by decide +kernel
theorem zd_M_licensed_113 : decode zc_M_licensed 113 = .ok (.iconst 0, 1) := by decide +kernel
theorem zd_M_licensed_114 : decode zc_M_licensed 114 = .ok (.istore 4, 2) := by decide +kernel
theorem zd_M_licensed_116 : decode zc_M_licensed 116 = .ok (.iinc 5 1, 3) := by decide +kernel
theorem zd_M_licensed_119 : decode zc_M_licensed 119 = .ok (.goto (-68), 3) := by decide +kernel
theorem zd_M_licensed_122 : decode zc_M_licensed 122 = .ok (.iload 4, 2) := by decide +kernel
theorem zd_M_licensed_124 : decode zc_M_licensed 124 = .ok (.ireturn, 1) := by decide +kernel
theorem zd_M_seal_0 : decode zc_M_seal 0 = .ok (.aload_n 0, 1) := by decide +kernel
theorem zd_M_seal_1 : decode zc_M_seal 1 = .ok (.aload_n 0, 1) := by decide +kernel
theorem zd_M_seal_2 : decode zc_M_seal 2 = .ok (.iload_n 1, 1) := by decide +kernel
theorem zd_M_seal_3 : decode zc_M_seal 3 = .ok (.invokevirtual 127, 3) := by decide +kernel
theorem zd_M_seal_6 : decode zc_M_seal 6 = .ok (.ifCond .eq 13, 3) := by decide +kernel
theorem zd_M_seal_9 : decode zc_M_seal 9 = .ok (.iload_n 2, 1) := by decide +kernel
theorem zd_M_seal_10 : decode zc_M_seal 10 = .ok (.iconst 0, 1) := by decide +kernel
theorem zd_M_seal_11 : decode zc_M_seal 11 = .ok (.bipush 7, 2) := by decide +kernel
theorem zd_M_seal_13 : decode zc_M_seal 13 = .ok (.invokestatic 103, 3) := by decide +kernel
theorem zd_M_seal_16 : decode zc_M_seal 16 = .ok (.ifCond .ne 7, 3) := by decide +kernel
theorem zd_M_seal_19 : decode zc_M_seal 19 = .ok (.iconst 1, 1) := by decide +kernel
theorem zd_M_seal_20 : decode zc_M_seal 20 = .ok (.goto 4, 3) := by decide +kernel
theorem zd_M_seal_23 : decode zc_M_seal 23 = .ok (.iconst 0, 1) := by decide +kernel
theorem zd_M_seal_24 : decode zc_M_seal 24 = .ok (.iconst 0, 1) := by decide +kernel
theorem zd_M_seal_25 : decode zc_M_seal 25 = .ok (.iconst 0, 1) := by decide +kernel
theorem zd_M_seal_26 : decode zc_M_seal 26 = .ok (.invokevirtual 113, 3) := by decide +kernel
theorem zd_M_seal_29 : decode zc_M_seal 29 = .ok (.ifCond .eq 5, 3) := by decide +kernel
theorem zd_M_seal_32 : decode zc_M_seal 32 = .ok (.iconst 0, 1) := by decide +kernel
theorem zd_M_seal_33 : decode zc_M_seal 33 = .ok (.ireturn, 1) := by decide +kernel
theorem zd_M_seal_34 : decode zc_M_seal 34 = .ok (.aload_n 0, 1) := by decide +kernel
theorem zd_M_seal_35 : decode zc_M_seal 35 = .ok (.getfield 29, 3) := by decide +kernel
theorem zd_M_seal_38 : decode zc_M_seal 38 = .ok (.bipush 8, 2) := by decide +kernel
theorem zd_M_seal_40 : decode zc_M_seal 40 = .ok (.iload_n 1, 1) := by decide +kernel
theorem zd_M_seal_41 : decode zc_M_seal 41 = .ok (.imul, 1) := by decide +kernel
theorem zd_M_seal_42 : decode zc_M_seal 42 = .ok (.iload_n 2, 1) := by decide +kernel
theorem zd_M_seal_43 : decode zc_M_seal 43 = .ok (.iadd, 1) := by decide +kernel
theorem zd_M_seal_44 : decode zc_M_seal 44 = .ok (.baload, 1) := by decide +kernel
theorem zd_M_seal_45 : decode zc_M_seal 45 = .ok (.istore 4, 2) := by decide +kernel
theorem zd_M_seal_47 : decode zc_M_seal 47 = .ok (.aload_n 0, 1) := by decide +kernel
theorem zd_M_seal_48 : decode zc_M_seal 48 = .ok (.getfield 29, 3) := by decide +kernel
theorem zd_M_seal_51 : decode zc_M_seal 51 = .ok (.bipush 8, 2) := by decide +kernel
theorem zd_M_seal_53 : decode zc_M_seal 53 = .ok (.iload_n 1, 1) := by decide +kernel
theorem zd_M_seal_54 : decode zc_M_seal 54 = .ok (.imul, 1) := by decide +kernel
theorem zd_M_seal_55 : decode zc_M_seal 55 = .ok (.iload_n 2, 1) := by decide +kernel
theorem zd_M_seal_56 : decode zc_M_seal 56 = .ok (.iadd, 1) := by decide +kernel
theorem zd_M_seal_57 : decode zc_M_seal 57 = .ok (.iload_n 3, 1) := by decide +kernel
theorem zd_M_seal_58 : decode zc_M_seal 58 = .ok (.bastore, 1) := by decide +kernel
theorem zd_M_seal_59 : decode zc_M_seal 59 = .ok (.iload 4, 2) := by decide +kernel
theorem zd_M_seal_61 : decode zc_M_seal 61 = .ok (.iload_n 3, 1) := by decide +kernel
theorem zd_M_seal_62 : decode zc_M_seal 62 = .ok (.if_icmp .eq 7, 3) := by decide +kernel
theorem zd_M_seal_65 : decode zc_M_seal 65 = .ok (.iconst 1, 1) := by decide +kernel
theorem zd_M_seal_66 : decode zc_M_seal 66 = .ok (.goto 4, 3) := by decide +kernel
theorem zd_M_seal_69 : decode zc_M_seal 69 = .ok (.iconst 0, 1) := by decide +kernel
theorem zd_M_seal_70 : decode zc_M_seal 70 = .ok (.ireturn, 1) := by decide +kernel
theorem zd_M_seen_0 : decode zc_M_seen 0 = .ok (.aload_n 0, 1) := by decide +kernel
theorem zd_M_seen_1 : decode zc_M_seen 1 = .ok (.aload_n 0, 1) := by decide +kernel
theorem zd_M_seen_2 : decode zc_M_seen 2 = .ok (.iload_n 1, 1) := by decide +kernel
theorem zd_M_seen_3 : decode zc_M_seen 3 = .ok (.invokevirtual 121, 3) := by decide +kernel
theorem zd_M_seen_6 : decode zc_M_seen 6 = .ok (.ifCond .eq 17, 3) := by decide +kernel
theorem zd_M_seen_9 : decode zc_M_seen 9 = .ok (.iload_n 2, 1) := by decide +kernel
theorem zd_M_seen_10 : decode zc_M_seen 10 = .ok (.iconst 0, 1) := by decide +kernel
theorem zd_M_seen_11 : decode zc_M_seen 11 = .ok (.bipush 7, 2) := by decide +kernel
theorem zd_M_seen_13 : decode zc_M_seen 13 = .ok (.invokestatic 103, 3) := by decide +kernel
theorem zd_M_seen_16 : decode zc_M_seen 16 = .ok (.ifCond .eq 7, 3) := by decide +kernel
theorem zd_M_seen_19 : decode zc_M_seen 19 = .ok (.iload_n 3, 1) := by decide +kernel
theorem zd_M_seen_20 : decode zc_M_seen 20 = .ok (.ifCond .ge 7, 3) := by decide +kernel
theorem zd_M_seen_23 : decode zc_M_seen 23 = .ok (.iconst 1, 1) := by decide +kernel
theorem zd_M_seen_24 : decode zc_M_seen 24 = .ok (.goto 4, 3) := by decide +kernel
theorem zd_M_seen_27 : decode zc_M_seen 27 = .ok (.iconst 0, 1) := by decide +kernel
theorem zd_M_seen_28 : decode zc_M_seen 28 = .ok (.iload 4, 2) := by decide +kernel
theorem zd_M_seen_30 : decode zc_M_seen 30 = .ok (.invokestatic 117, 3) := by decide +kernel
theorem zd_M_seen_33 : decode zc_M_seen 33 = .ok (.ifCond .ne 7, 3) := by decide +kernel
theorem zd_M_seen_36 : decode zc_M_seen 36 = .ok (.iconst 1, 1) := by decide +kernel
theorem zd_M_seen_37 : decode zc_M_seen 37 = .ok (.goto 4, 3) := by decide +kernel
theorem zd_M_seen_40 : decode zc_M_seen 40 = .ok (.iconst 0, 1) := by decide +kernel
theorem zd_M_seen_41 : decode zc_M_seen 41 = .ok (.iconst 0, 1) := by decide +kernel
theorem zd_M_seen_42 : decode zc_M_seen 42 = .ok (.invokevirtual 113, 3) := by decide +kernel
theorem zd_M_seen_45 : decode zc_M_seen 45 = .ok (.ifCond .eq 5, 3) := by decide +kernel
theorem zd_M_seen_48 : decode zc_M_seen 48 = .ok (.iconst 0, 1) := by decide +kernel
theorem zd_M_seen_49 : decode zc_M_seen 49 = .ok (.ireturn, 1) := by decide +kernel
theorem zd_M_seen_50 : decode zc_M_seen 50 = .ok (.iload_n 3, 1) := by decide +kernel
theorem zd_M_seen_51 : decode zc_M_seen 51 = .ok (.istore 5, 2) := by decide +kernel
theorem zd_M_seen_53 : decode zc_M_seen 53 = .ok (.iconst 0, 1) := by decide +kernel
theorem zd_M_seen_54 : decode zc_M_seen 54 = .ok (.istore 6, 2) := by decide +kernel
theorem zd_M_seen_56 : decode zc_M_seen 56 = .ok (.iload 6, 2) := by decide +kernel
theorem zd_M_seen_58 : decode zc_M_seen 58 = .ok (.aload_n 0, 1) := by decide +kernel
theorem zd_M_seen_59 : decode zc_M_seen 59 = .ok (.getfield 110, 3) := by decide +kernel
theorem zd_M_seen_62 : decode zc_M_seen 62 = .ok (.if_icmp .ge 50, 3) := by decide +kernel
theorem zd_M_seen_65 : decode zc_M_seen 65 = .ok (.aload_n 0, 1) := by decide +kernel
theorem zd_M_seen_66 : decode zc_M_seen 66 = .ok (.iload 6, 2) := by decide +kernel
theorem zd_M_seen_68 : decode zc_M_seen 68 = .ok (.iload_n 1, 1) := by decide +kernel
theorem zd_M_seen_69 : decode zc_M_seen 69 = .ok (.iload 4, 2) := by decide +kernel
theorem zd_M_seen_71 : decode zc_M_seen 71 = .ok (.invokevirtual 145, 3) := by decide +kernel
theorem zd_M_seen_74 : decode zc_M_seen 74 = .ok (.ifCond .eq 32, 3) := by decide +kernel
theorem zd_M_seen_77 : decode zc_M_seen 77 = .ok (.aload_n 0, 1) := by decide +kernel
theorem zd_M_seen_78 : decode zc_M_seen 78 = .ok (.getfield 29, 3) := by decide +kernel
theorem zd_M_seen_81 : decode zc_M_seen 81 = .ok (.bipush 8, 2) := by decide +kernel
theorem zd_M_seen_83 : decode zc_M_seen 83 = .ok (.iload 6, 2) := by decide +kernel
theorem zd_M_seen_85 : decode zc_M_seen 85 = .ok (.imul, 1) := by decide +kernel
theorem zd_M_seen_86 : decode zc_M_seen 86 = .ok (.iload_n 2, 1) := by decide +kernel
theorem zd_M_seen_87 : decode zc_M_seen 87 = .ok (.iadd, 1) := by decide +kernel
theorem zd_M_seen_88 : decode zc_M_seen 88 = .ok (.baload, 1) := by decide +kernel
theorem zd_M_seen_89 : decode zc_M_seen 89 = .ok (.ifCond .eq 6, 3) := by decide +kernel
theorem zd_M_seen_92 : decode zc_M_seen 92 = .ok (.goto 14, 3) := by decide +kernel
theorem zd_M_seen_95 : decode zc_M_seen 95 = .ok (.iload 5, 2) := by decide +kernel
theorem zd_M_seen_97 : decode zc_M_seen 97 = .ok (.ifCond .ne 6, 3) := by decide +kernel
theorem zd_M_seen_100 : decode zc_M_seen 100 = .ok (.iload 6, 2) := by decide +kernel
theorem zd_M_seen_102 : decode zc_M_seen 102 = .ok (.ireturn, 1) := by decide +kernel
theorem zd_M_seen_103 : decode zc_M_seen 103 = .ok (.iinc 5 (-1), 3) := by decide +kernel
theorem zd_M_seen_106 : decode zc_M_seen 106 = .ok (.iinc 6 1, 3) := by decide +kernel
theorem zd_M_seen_109 : decode zc_M_seen 109 = .ok (.goto (-53), 3) := by decide +kernel
theorem zd_M_seen_112 : decode zc_M_seen 112 = .ok (.iconst (-1), 1) := by decide +kernel
theorem zd_M_seen_113 : decode zc_M_seen 113 = .ok (.ireturn, 1) := by decide +kernel
theorem zd_M_worth_0 : decode zc_M_worth 0 = .ok (.aload_n 0, 1) := by decide +kernel
theorem zd_M_worth_1 : decode zc_M_worth 1 = .ok (.aload_n 0, 1) := by decide +kernel
theorem zd_M_worth_2 : decode zc_M_worth 2 = .ok (.iload_n 1, 1) := by decide +kernel
theorem zd_M_worth_3 : decode zc_M_worth 3 = .ok (.invokevirtual 121, 3) := by decide +kernel
theorem zd_M_worth_6 : decode zc_M_worth 6 = .ok (.ifCond .eq 13, 3) := by decide +kernel
theorem zd_M_worth_9 : decode zc_M_worth 9 = .ok (.iload_n 3, 1) := by decide +kernel
theorem zd_M_worth_10 : decode zc_M_worth 10 = .ok (.iconst 0, 1) := by decide +kernel
theorem zd_M_worth_11 : decode zc_M_worth 11 = .ok (.bipush 7, 2) := by decide +kernel
theorem zd_M_worth_13 : decode zc_M_worth 13 = .ok (.invokestatic 103, 3) := by decide +kernel
theorem zd_M_worth_16 : decode zc_M_worth 16 = .ok (.ifCond .ne 7, 3) := by decide +kernel
theorem zd_M_worth_19 : decode zc_M_worth 19 = .ok (.iconst 1, 1) := by decide +kernel
theorem zd_M_worth_20 : decode zc_M_worth 20 = .ok (.goto 4, 3) := by decide +kernel
theorem zd_M_worth_23 : decode zc_M_worth 23 = .ok (.iconst 0, 1) := by decide +kernel
theorem zd_M_worth_24 : decode zc_M_worth 24 = .ok (.iload_n 2, 1) := by decide +kernel
theorem zd_M_worth_25 : decode zc_M_worth 25 = .ok (.invokestatic 117, 3) := by decide +kernel
theorem zd_M_worth_28 : decode zc_M_worth 28 = .ok (.ifCond .eq 8, 3) := by decide +kernel
theorem zd_M_worth_31 : decode zc_M_worth 31 = .ok (.iload 4, 2) := by decide +kernel
theorem zd_M_worth_33 : decode zc_M_worth 33 = .ok (.ifCond .ge 7, 3) := by decide +kernel
theorem zd_M_worth_36 : decode zc_M_worth 36 = .ok (.iconst 1, 1) := by decide +kernel
theorem zd_M_worth_37 : decode zc_M_worth 37 = .ok (.goto 4, 3) := by decide +kernel
theorem zd_M_worth_40 : decode zc_M_worth 40 = .ok (.iconst 0, 1) := by decide +kernel
theorem zd_M_worth_41 : decode zc_M_worth 41 = .ok (.aload_n 0, 1) := by decide +kernel
theorem zd_M_worth_42 : decode zc_M_worth 42 = .ok (.getfield 182, 3) := by decide +kernel
theorem zd_M_worth_45 : decode zc_M_worth 45 = .ok (.bipush 60, 2) := by decide +kernel
theorem zd_M_worth_47 : decode zc_M_worth 47 = .ok (.if_icmp .ne 7, 3) := by decide +kernel
theorem zd_M_worth_50 : decode zc_M_worth 50 = .ok (.iconst 1, 1) := by decide +kernel
theorem zd_M_worth_51 : decode zc_M_worth 51 = .ok (.goto 4, 3) := by decide +kernel
theorem zd_M_worth_54 : decode zc_M_worth 54 = .ok (.iconst 0, 1) := by decide +kernel
theorem zd_M_worth_55 : decode zc_M_worth 55 = .ok (.invokevirtual 113, 3) := by decide +kernel
theorem zd_M_worth_58 : decode zc_M_worth 58 = .ok (.ifCond .eq 5, 3) := by decide +kernel
theorem zd_M_worth_61 : decode zc_M_worth 61 = .ok (.iconst 0, 1) := by decide +kernel
theorem zd_M_worth_62 : decode zc_M_worth 62 = .ok (.ireturn, 1) := by decide +kernel
theorem zd_M_worth_63 : decode zc_M_worth 63 = .ok (.aload_n 0, 1) := by decide +kernel
theorem zd_M_worth_64 : decode zc_M_worth 64 = .ok (.getfield 83, 3) := by decide +kernel
theorem zd_M_worth_67 : decode zc_M_worth 67 = .ok (.aload_n 0, 1) := by decide +kernel
theorem zd_M_worth_68 : decode zc_M_worth 68 = .ok (.getfield 182, 3) := by decide +kernel
theorem zd_M_worth_71 : decode zc_M_worth 71 = .ok (.iload_n 1, 1) := by decide +kernel
theorem zd_M_worth_72 : decode zc_M_worth 72 = .ok (.iastore, 1) := by decide +kernel
theorem zd_M_worth_73 : decode zc_M_worth 73 = .ok (.aload_n 0, 1) := by decide +kernel
theorem zd_M_worth_74 : decode zc_M_worth 74 = .ok (.getfield 86, 3) := by decide +kernel
theorem zd_M_worth_77 : decode zc_M_worth 77 = .ok (.aload_n 0, 1) := by decide +kernel
theorem zd_M_worth_78 : decode zc_M_worth 78 = .ok (.getfield 182, 3) := by decide +kernel
theorem zd_M_worth_81 : decode zc_M_worth 81 = .ok (.iload_n 2, 1) := by decide +kernel
theorem zd_M_worth_82 : decode zc_M_worth 82 = .ok (.iastore, 1) := by decide +kernel
theorem zd_M_worth_83 : decode zc_M_worth 83 = .ok (.aload_n 0, 1) := by decide +kernel
theorem zd_M_worth_84 : decode zc_M_worth 84 = .ok (.getfield 89, 3) := by decide +kernel
theorem zd_M_worth_87 : decode zc_M_worth 87 = .ok (.aload_n 0, 1) := by decide +kernel
theorem zd_M_worth_88 : decode zc_M_worth 88 = .ok (.getfield 182, 3) := by decide +kernel
theorem zd_M_worth_91 : decode zc_M_worth 91 = .ok (.iload_n 3, 1) := by decide +kernel
theorem zd_M_worth_92 : decode zc_M_worth 92 = .ok (.iastore, 1) := by decide +kernel
theorem zd_M_worth_93 : decode zc_M_worth 93 = .ok (.aload_n 0, 1) := by decide +kernel
theorem zd_M_worth_94 : decode zc_M_worth 94 = .ok (.getfield 92, 3) := by decide +kernel
theorem zd_M_worth_97 : decode zc_M_worth 97 = .ok (.aload_n 0, 1) := by decide +kernel
theorem zd_M_worth_98 : decode zc_M_worth 98 = .ok (.getfield 182, 3) := by decide +kernel
theorem zd_M_worth_101 : decode zc_M_worth 101 = .ok (.iload 4, 2) := by decide +kernel
theorem zd_M_worth_103 : decode zc_M_worth 103 = .ok (.iastore, 1) := by decide +kernel
theorem zd_M_worth_104 : decode zc_M_worth 104 = .ok (.aload_n 0, 1) := by decide +kernel
theorem zd_M_worth_105 : decode zc_M_worth 105 = .ok (.dup, 1) := by decide +kernel
theorem zd_M_worth_106 : decode zc_M_worth 106 = .ok (.getfield 182, 3) := by decide +kernel
theorem zd_M_worth_109 : decode zc_M_worth 109 = .ok (.iconst 1, 1) := by decide +kernel
theorem zd_M_worth_110 : decode zc_M_worth 110 = .ok (.iadd, 1) := by decide +kernel
theorem zd_M_worth_111 : decode zc_M_worth 111 = .ok (.putfield 182, 3) := by decide +kernel
theorem zd_M_worth_114 : decode zc_M_worth 114 = .ok (.aload_n 0, 1) := by decide +kernel
theorem zd_M_worth_115 : decode zc_M_worth 115 = .ok (.getfield 182, 3) := by decide +kernel
theorem zd_M_worth_118 : decode zc_M_worth 118 = .ok (.ireturn, 1) := by decide +kernel
theorem zd_M_value_0 : decode zc_M_value 0 = .ok (.aload_n 0, 1) := by decide +kernel
theorem zd_M_value_1 : decode zc_M_value 1 = .ok (.aload_n 0, 1) := by decide +kernel
theorem zd_M_value_2 : decode zc_M_value 2 = .ok (.iload_n 1, 1) := by decide +kernel
theorem zd_M_value_3 : decode zc_M_value 3 = .ok (.invokevirtual 121, 3) := by decide +kernel
theorem zd_M_value_6 : decode zc_M_value 6 = .ok (.ifCond .eq 13, 3) := by decide +kernel
theorem zd_M_value_9 : decode zc_M_value 9 = .ok (.iload_n 3, 1) := by decide +kernel
theorem zd_M_value_10 : decode zc_M_value 10 = .ok (.iconst 0, 1) := by decide +kernel
theorem zd_M_value_11 : decode zc_M_value 11 = .ok (.bipush 7, 2) := by decide +kernel
theorem zd_M_value_13 : decode zc_M_value 13 = .ok (.invokestatic 103, 3) := by decide +kernel
theorem zd_M_value_16 : decode zc_M_value 16 = .ok (.ifCond .ne 7, 3) := by decide +kernel
theorem zd_M_value_19 : decode zc_M_value 19 = .ok (.iconst 1, 1) := by decide +kernel
theorem zd_M_value_20 : decode zc_M_value 20 = .ok (.goto 4, 3) := by decide +kernel
theorem zd_M_value_23 : decode zc_M_value 23 = .ok (.iconst 0, 1) := by decide +kernel
theorem zd_M_value_24 : decode zc_M_value 24 = .ok (.iload_n 2, 1) := by decide +kernel
theorem zd_M_value_25 : decode zc_M_value 25 = .ok (.invokestatic 117, 3) := by decide +kernel
theorem zd_M_value_28 : decode zc_M_value 28 = .ok (.ifCond .ne 7, 3) := by decide +kernel
theorem zd_M_value_31 : decode zc_M_value 31 = .ok (.iconst 1, 1) := by decide +kernel
theorem zd_M_value_32 : decode zc_M_value 32 = .ok (.goto 4, 3) := by decide +kernel
theorem zd_M_value_35 : decode zc_M_value 35 = .ok (.iconst 0, 1) := by decide +kernel
theorem zd_M_value_36 : decode zc_M_value 36 = .ok (.iconst 0, 1) := by decide +kernel
theorem zd_M_value_37 : decode zc_M_value 37 = .ok (.invokevirtual 113, 3) := by decide +kernel
theorem zd_M_value_40 : decode zc_M_value 40 = .ok (.ifCond .eq 5, 3) := by decide +kernel
theorem zd_M_value_43 : decode zc_M_value 43 = .ok (.iconst 0, 1) := by decide +kernel
theorem zd_M_value_44 : decode zc_M_value 44 = .ok (.ireturn, 1) := by decide +kernel
theorem zd_M_value_45 : decode zc_M_value 45 = .ok (.iconst (-1), 1) := by decide +kernel
theorem zd_M_value_46 : decode zc_M_value 46 = .ok (.istore 4, 2) := by decide +kernel
theorem zd_M_value_48 : decode zc_M_value 48 = .ok (.iconst (-1), 1) := by decide +kernel
theorem zd_M_value_49 : decode zc_M_value 49 = .ok (.istore 5, 2) := by decide +kernel
theorem zd_M_value_51 : decode zc_M_value 51 = .ok (.iconst 0, 1) := by decide +kernel
theorem zd_M_value_52 : decode zc_M_value 52 = .ok (.istore 6, 2) := by decide +kernel
theorem zd_M_value_54 : decode zc_M_value 54 = .ok (.iload 6, 2) := by decide +kernel
theorem zd_M_value_56 : decode zc_M_value 56 = .ok (.aload_n 0, 1) := by decide +kernel
theorem zd_M_value_57 : decode zc_M_value 57 = .ok (.getfield 182, 3) := by decide +kernel
theorem zd_M_value_60 : decode zc_M_value 60 = .ok (.if_icmp .ge 75, 3) := by decide +kernel
theorem zd_M_value_63 : decode zc_M_value 63 = .ok (.aload_n 0, 1) := by decide +kernel
theorem zd_M_value_64 : decode zc_M_value 64 = .ok (.getfield 83, 3) := by decide +kernel
theorem zd_M_value_67 : decode zc_M_value 67 = .ok (.iload 6, 2) := by decide +kernel
theorem zd_M_value_69 : decode zc_M_value 69 = .ok (.iaload, 1) := by decide +kernel
theorem zd_M_value_70 : decode zc_M_value 70 = .ok (.iload_n 1, 1) := by decide +kernel
theorem zd_M_value_71 : decode zc_M_value 71 = .ok (.if_icmp .ne 58, 3) := by decide +kernel
theorem zd_M_value_74 : decode zc_M_value 74 = .ok (.aload_n 0, 1) := by decide +kernel
theorem zd_M_value_75 : decode zc_M_value 75 = .ok (.getfield 89, 3) := by decide +kernel
theorem zd_M_value_78 : decode zc_M_value 78 = .ok (.iload 6, 2) := by decide +kernel
theorem zd_M_value_80 : decode zc_M_value 80 = .ok (.iaload, 1) := by decide +kernel
theorem zd_M_value_81 : decode zc_M_value 81 = .ok (.iload_n 3, 1) := by decide +kernel
theorem zd_M_value_82 : decode zc_M_value 82 = .ok (.if_icmp .ne 47, 3) := by decide +kernel
theorem zd_M_value_85 : decode zc_M_value 85 = .ok (.aload_n 0, 1) := by decide +kernel
theorem zd_M_value_86 : decode zc_M_value 86 = .ok (.getfield 86, 3) := by decide +kernel
theorem zd_M_value_89 : decode zc_M_value 89 = .ok (.iload 6, 2) := by decide +kernel
theorem zd_M_value_91 : decode zc_M_value 91 = .ok (.iaload, 1) := by decide +kernel
theorem zd_M_value_92 : decode zc_M_value 92 = .ok (.iload_n 2, 1) := by decide +kernel
theorem zd_M_value_93 : decode zc_M_value 93 = .ok (.if_icmp .gt 36, 3) := by decide +kernel
theorem zd_M_value_96 : decode zc_M_value 96 = .ok (.aload_n 0, 1) := by decide +kernel
theorem zd_M_value_97 : decode zc_M_value 97 = .ok (.getfield 86, 3) := by decide +kernel
theorem zd_M_value_100 : decode zc_M_value 100 = .ok (.iload 6, 2) := by decide +kernel
theorem zd_M_value_102 : decode zc_M_value 102 = .ok (.iaload, 1) := by decide +kernel
theorem zd_M_value_103 : decode zc_M_value 103 = .ok (.iload 5, 2) := by decide +kernel
theorem zd_M_value_105 : decode zc_M_value 105 = .ok (.if_icmp .ge 6, 3) := by decide +kernel
theorem zd_M_value_108 : decode zc_M_value 108 = .ok (.goto 21, 3) := by decide +kernel
theorem zd_M_value_111 : decode zc_M_value 111 = .ok (.aload_n 0, 1) := by decide +kernel
theorem zd_M_value_112 : decode zc_M_value 112 = .ok (.getfield 86, 3) := by decide +kernel
theorem zd_M_value_115 : decode zc_M_value 115 = .ok (.iload 6, 2) := by decide +kernel
theorem zd_M_value_117 : decode zc_M_value 117 = .ok (.iaload, 1) := by decide +kernel
theorem zd_M_value_118 : decode zc_M_value 118 = .ok (.istore 5, 2) := by decide +kernel
theorem zd_M_value_120 : decode zc_M_value 120 = .ok (.aload_n 0, 1) := by decide +kernel
theorem zd_M_value_121 : decode zc_M_value 121 = .ok (.getfield 92, 3) := by decide +kernel
theorem zd_M_value_124 : decode zc_M_value 124 = .ok (.iload 6, 2) := by decide +kernel
theorem zd_M_value_126 : decode zc_M_value 126 = .ok (.iaload, 1) := by decide +kernel
theorem zd_M_value_127 : decode zc_M_value 127 = .ok (.istore 4, 2) := by decide +kernel
theorem zd_M_value_129 : decode zc_M_value 129 = .ok (.iinc 6 1, 3) := by decide +kernel
theorem zd_M_value_132 : decode zc_M_value 132 = .ok (.goto (-78), 3) := by decide +kernel
theorem zd_M_value_135 : decode zc_M_value 135 = .ok (.iload 4, 2) := by decide +kernel
theorem zd_M_value_137 : decode zc_M_value 137 = .ok (.ireturn, 1) := by decide +kernel
theorem zd_M_write_0 : decode zc_M_write 0 = .ok (.aload_n 0, 1) := by decide +kernel
theorem zd_M_write_1 : decode zc_M_write 1 = .ok (.getfield 95, 3) := by decide +kernel
theorem zd_M_write_4 : decode zc_M_write 4 = .ok (.aload_n 0, 1) := by decide +kernel
theorem zd_M_write_5 : decode zc_M_write 5 = .ok (.getfield 185, 3) := by decide +kernel
theorem zd_M_write_8 : decode zc_M_write 8 = .ok (.iload_n 1, 1) := by decide +kernel
theorem zd_M_write_9 : decode zc_M_write 9 = .ok (.iastore, 1) := by decide +kernel
theorem zd_M_write_10 : decode zc_M_write 10 = .ok (.aload_n 0, 1) := by decide +kernel
theorem zd_M_write_11 : decode zc_M_write 11 = .ok (.dup, 1) := by decide +kernel
theorem zd_M_write_12 : decode zc_M_write 12 = .ok (.getfield 185, 3) := by decide +kernel
theorem zd_M_write_15 : decode zc_M_write 15 = .ok (.iconst 1, 1) := by decide +kernel
theorem zd_M_write_16 : decode zc_M_write 16 = .ok (.iadd, 1) := by decide +kernel
theorem zd_M_write_17 : decode zc_M_write 17 = .ok (.putfield 185, 3) := by decide +kernel
theorem zd_M_write_20 : decode zc_M_write 20 = .ok (.return_, 1) := by decide +kernel
theorem zd_M_writeNumber_0 : decode zc_M_writeNumber 0 = .ok (.iconst 1, 1) := by decide +kernel
theorem zd_M_writeNumber_1 : decode zc_M_writeNumber 1 = .ok (.istore_n 2, 1) := by decide +kernel
theorem zd_M_writeNumber_2 : decode zc_M_writeNumber 2 = .ok (.iload_n 1, 1) := by decide +kernel
theorem zd_M_writeNumber_3 : decode zc_M_writeNumber 3 = .ok (.iload_n 2, 1) := by decide +kernel
theorem zd_M_writeNumber_4 : decode zc_M_writeNumber 4 = .ok (.idiv, 1) := by decide +kernel
theorem zd_M_writeNumber_5 : decode zc_M_writeNumber 5 = .ok (.bipush 9, 2) := by decide +kernel
theorem zd_M_writeNumber_7 : decode zc_M_writeNumber 7 = .ok (.if_icmp .le 11, 3) := by decide +kernel
theorem zd_M_writeNumber_10 : decode zc_M_writeNumber 10 = .ok (.bipush 10, 2) := by decide +kernel
theorem zd_M_writeNumber_12 : decode zc_M_writeNumber 12 = .ok (.iload_n 2, 1) := by decide +kernel
theorem zd_M_writeNumber_13 : decode zc_M_writeNumber 13 = .ok (.imul, 1) := by decide +kernel
theorem zd_M_writeNumber_14 : decode zc_M_writeNumber 14 = .ok (.istore_n 2, 1) := by decide +kernel
theorem zd_M_writeNumber_15 : decode zc_M_writeNumber 15 = .ok (.goto (-13), 3) := by decide +kernel
theorem zd_M_writeNumber_18 : decode zc_M_writeNumber 18 = .ok (.iload_n 2, 1) := by decide +kernel
theorem zd_M_writeNumber_19 : decode zc_M_writeNumber 19 = .ok (.ifCond .le 24, 3) := by decide +kernel
theorem zd_M_writeNumber_22 : decode zc_M_writeNumber 22 = .ok (.aload_n 0, 1) := by decide +kernel
theorem zd_M_writeNumber_23 : decode zc_M_writeNumber 23 = .ok (.bipush 48, 2) := by decide +kernel
theorem zd_M_writeNumber_25 : decode zc_M_writeNumber 25 = .ok (.iload_n 1, 1) := by decide +kernel
theorem zd_M_writeNumber_26 : decode zc_M_writeNumber 26 = .ok (.iload_n 2, 1) := by decide +kernel
theorem zd_M_writeNumber_27 : decode zc_M_writeNumber 27 = .ok (.idiv, 1) := by decide +kernel
theorem zd_M_writeNumber_28 : decode zc_M_writeNumber 28 = .ok (.bipush 10, 2) := by decide +kernel
theorem zd_M_writeNumber_30 : decode zc_M_writeNumber 30 = .ok (.irem, 1) := by decide +kernel
theorem zd_M_writeNumber_31 : decode zc_M_writeNumber 31 = .ok (.iadd, 1) := by decide +kernel
theorem zd_M_writeNumber_32 : decode zc_M_writeNumber 32 = .ok (.invokevirtual 188, 3) := by decide +kernel
theorem zd_M_writeNumber_35 : decode zc_M_writeNumber 35 = .ok (.iload_n 2, 1) := by decide +kernel
theorem zd_M_writeNumber_36 : decode zc_M_writeNumber 36 = .ok (.bipush 10, 2) := by decide +kernel
theorem zd_M_writeNumber_38 : decode zc_M_writeNumber 38 = .ok (.idiv, 1) := by decide +kernel
theorem zd_M_writeNumber_39 : decode zc_M_writeNumber 39 = .ok (.istore_n 2, 1) := by decide +kernel
theorem zd_M_writeNumber_40 : decode zc_M_writeNumber 40 = .ok (.goto (-22), 3) := by decide +kernel
theorem zd_M_writeNumber_43 : decode zc_M_writeNumber 43 = .ok (.return_, 1) := by decide +kernel
theorem zd_M_following_0 : decode zc_M_following 0 = .ok (.iconst (-1), 1) := by decide +kernel
theorem zd_M_following_1 : decode zc_M_following 1 = .ok (.istore 4, 2) := by decide +kernel
theorem zd_M_following_3 : decode zc_M_following 3 = .ok (.iconst 0, 1) := by decide +kernel
theorem zd_M_following_4 : decode zc_M_following 4 = .ok (.istore 5, 2) := by decide +kernel
theorem zd_M_following_6 : decode zc_M_following 6 = .ok (.iload 5, 2) := by decide +kernel
theorem zd_M_following_8 : decode zc_M_following 8 = .ok (.aload_n 0, 1) := by decide +kernel
theorem zd_M_following_9 : decode zc_M_following 9 = .ok (.getfield 110, 3) := by decide +kernel
theorem zd_M_following_12 : decode zc_M_following 12 = .ok (.if_icmp .ge 59, 3) := by decide +kernel
theorem zd_M_following_15 : decode zc_M_following 15 = .ok (.aload_n 0, 1) := by decide +kernel
theorem zd_M_following_16 : decode zc_M_following 16 = .ok (.iload 5, 2) := by decide +kernel
theorem zd_M_following_18 : decode zc_M_following 18 = .ok (.iload_n 1, 1) := by decide +kernel
theorem zd_M_following_19 : decode zc_M_following 19 = .ok (.iload_n 2, 1) := by decide +kernel
theorem zd_M_following_20 : decode zc_M_following 20 = .ok (.invokevirtual 145, 3) := by decide +kernel
theorem zd_M_following_23 : decode zc_M_following 23 = .ok (.ifCond .eq 42, 3) := by decide +kernel
theorem zd_M_following_26 : decode zc_M_following 26 = .ok (.iload_n 3, 1) := by decide +kernel
theorem zd_M_following_27 : decode zc_M_following 27 = .ok (.ifCond .lt 17, 3) := by decide +kernel
theorem zd_M_following_30 : decode zc_M_following 30 = .ok (.aload_n 0, 1) := by decide +kernel
theorem zd_M_following_31 : decode zc_M_following 31 = .ok (.iload_n 3, 1) := by decide +kernel
theorem zd_M_following_32 : decode zc_M_following 32 = .ok (.iload 5, 2) := by decide +kernel
theorem zd_M_following_34 : decode zc_M_following 34 = .ok (.iload_n 2, 1) := by decide +kernel
theorem zd_M_following_35 : decode zc_M_following 35 = .ok (.invokevirtual 192, 3) := by decide +kernel
theorem zd_M_following_38 : decode zc_M_following 38 = .ok (.ifCond .ne 6, 3) := by decide +kernel
theorem zd_M_following_41 : decode zc_M_following 41 = .ok (.goto 24, 3) := by decide +kernel
theorem zd_M_following_44 : decode zc_M_following 44 = .ok (.iload 4, 2) := by decide +kernel
theorem zd_M_following_46 : decode zc_M_following 46 = .ok (.ifCond .lt 15, 3) := by decide +kernel
theorem zd_M_following_49 : decode zc_M_following 49 = .ok (.aload_n 0, 1) := by decide +kernel
theorem zd_M_following_50 : decode zc_M_following 50 = .ok (.iload 5, 2) := by decide +kernel
theorem zd_M_following_52 : decode zc_M_following 52 = .ok (.iload 4, 2) := by decide +kernel
theorem zd_M_following_54 : decode zc_M_following 54 = .ok (.iload_n 2, 1) := by decide +kernel
theorem zd_M_following_55 : decode zc_M_following 55 = .ok (.invokevirtual 192, 3) := by decide +kernel
theorem zd_M_following_58 : decode zc_M_following 58 = .ok (.ifCond .eq 7, 3) := by decide +kernel
theorem zd_M_following_61 : decode zc_M_following 61 = .ok (.iload 5, 2) := by decide +kernel
theorem zd_M_following_63 : decode zc_M_following 63 = .ok (.istore 4, 2) := by decide +kernel
theorem zd_M_following_65 : decode zc_M_following 65 = .ok (.iinc 5 1, 3) := by decide +kernel
theorem zd_M_following_68 : decode zc_M_following 68 = .ok (.goto (-62), 3) := by decide +kernel
theorem zd_M_following_71 : decode zc_M_following 71 = .ok (.iload 4, 2) := by decide +kernel
theorem zd_M_following_73 : decode zc_M_following 73 = .ok (.ireturn, 1) := by decide +kernel
theorem zd_M_isAhead_0 : decode zc_M_isAhead 0 = .ok (.aload_n 0, 1) := by decide +kernel
theorem zd_M_isAhead_1 : decode zc_M_isAhead 1 = .ok (.iload_n 1, 1) := by decide +kernel
theorem zd_M_isAhead_2 : decode zc_M_isAhead 2 = .ok (.iload_n 3, 1) := by decide +kernel
theorem zd_M_isAhead_3 : decode zc_M_isAhead 3 = .ok (.invokevirtual 137, 3) := by decide +kernel
theorem zd_M_isAhead_6 : decode zc_M_isAhead 6 = .ok (.istore 4, 2) := by decide +kernel
theorem zd_M_isAhead_8 : decode zc_M_isAhead 8 = .ok (.aload_n 0, 1) := by decide +kernel
theorem zd_M_isAhead_9 : decode zc_M_isAhead 9 = .ok (.iload_n 2, 1) := by decide +kernel
theorem zd_M_isAhead_10 : decode zc_M_isAhead 10 = .ok (.iload_n 3, 1) := by decide +kernel
theorem zd_M_isAhead_11 : decode zc_M_isAhead 11 = .ok (.invokevirtual 137, 3) := by decide +kernel
theorem zd_M_isAhead_14 : decode zc_M_isAhead 14 = .ok (.istore 5, 2) := by decide +kernel
theorem zd_M_isAhead_16 : decode zc_M_isAhead 16 = .ok (.iload 4, 2) := by decide +kernel
theorem zd_M_isAhead_18 : decode zc_M_isAhead 18 = .ok (.iload 5, 2) := by decide +kernel
theorem zd_M_isAhead_20 : decode zc_M_isAhead 20 = .ok (.if_icmp .lt 15, 3) := by decide +kernel
theorem zd_M_isAhead_23 : decode zc_M_isAhead 23 = .ok (.iload 4, 2) := by decide +kernel
theorem zd_M_isAhead_25 : decode zc_M_isAhead 25 = .ok (.iload 5, 2) := by decide +kernel
theorem zd_M_isAhead_27 : decode zc_M_isAhead 27 = .ok (.if_icmp .ne 12, 3) := by decide +kernel
theorem zd_M_isAhead_30 : decode zc_M_isAhead 30 = .ok (.iload_n 1, 1) := by decide +kernel
theorem zd_M_isAhead_31 : decode zc_M_isAhead 31 = .ok (.iload_n 2, 1) := by decide +kernel
theorem zd_M_isAhead_32 : decode zc_M_isAhead 32 = .ok (.if_icmp .ge 7, 3) := by decide +kernel
theorem zd_M_isAhead_35 : decode zc_M_isAhead 35 = .ok (.iconst 1, 1) := by decide +kernel
theorem zd_M_isAhead_36 : decode zc_M_isAhead 36 = .ok (.goto 4, 3) := by decide +kernel
theorem zd_M_isAhead_39 : decode zc_M_isAhead 39 = .ok (.iconst 0, 1) := by decide +kernel
theorem zd_M_isAhead_40 : decode zc_M_isAhead 40 = .ok (.ireturn, 1) := by decide +kernel
theorem zd_M_writeChain_0 : decode zc_M_writeChain 0 = .ok (.aload_n 0, 1) := by decide +kernel
theorem zd_M_writeChain_1 : decode zc_M_writeChain 1 = .ok (.iconst 0, 1) := by decide +kernel
theorem zd_M_writeChain_2 : decode zc_M_writeChain 2 = .ok (.putfield 185, 3) := by decide +kernel
theorem zd_M_writeChain_5 : decode zc_M_writeChain 5 = .ok (.aload_n 0, 1) := by decide +kernel
theorem zd_M_writeChain_6 : decode zc_M_writeChain 6 = .ok (.iload_n 1, 1) := by decide +kernel
theorem zd_M_writeChain_7 : decode zc_M_writeChain 7 = .ok (.iload_n 2, 1) := by decide +kernel
theorem zd_M_writeChain_8 : decode zc_M_writeChain 8 = .ok (.iconst (-1), 1) := by decide +kernel
theorem zd_M_writeChain_9 : decode zc_M_writeChain 9 = .ok (.invokevirtual 195, 3) := by decide +kernel
theorem zd_M_writeChain_12 : decode zc_M_writeChain 12 = .ok (.istore_n 3, 1) := by decide +kernel
theorem zd_M_writeChain_13 : decode zc_M_writeChain 13 = .ok (.iload_n 3, 1) := by decide +kernel
theorem zd_M_writeChain_14 : decode zc_M_writeChain 14 = .ok (.ifCond .lt 78, 3) := by decide +kernel
theorem zd_M_writeChain_17 : decode zc_M_writeChain 17 = .ok (.aload_n 0, 1) := by decide +kernel
theorem zd_M_writeChain_18 : decode zc_M_writeChain 18 = .ok (.aload_n 0, 1) := by decide +kernel
theorem zd_M_writeChain_19 : decode zc_M_writeChain 19 = .ok (.iload_n 3, 1) := by decide +kernel
theorem zd_M_writeChain_20 : decode zc_M_writeChain 20 = .ok (.iconst 0, 1) := by decide +kernel
theorem zd_M_writeChain_21 : decode zc_M_writeChain 21 = .ok (.iload_n 2, 1) := by decide +kernel
theorem zd_M_writeChain_22 : decode zc_M_writeChain 22 = .ok (.invokevirtual 133, 3) := by decide +kernel
theorem zd_M_writeChain_25 : decode zc_M_writeChain 25 = .ok (.invokevirtual 198, 3) := by decide +kernel
theorem zd_M_writeChain_28 : decode zc_M_writeChain 28 = .ok (.aload_n 0, 1) := by decide +kernel
theorem zd_M_writeChain_29 : decode zc_M_writeChain 29 = .ok (.bipush 64, 2) := by decide +kernel
theorem zd_M_writeChain_31 : decode zc_M_writeChain 31 = .ok (.invokevirtual 188, 3) := by decide +kernel
theorem zd_M_writeChain_34 : decode zc_M_writeChain 34 = .ok (.aload_n 0, 1) := by decide +kernel
theorem zd_M_writeChain_35 : decode zc_M_writeChain 35 = .ok (.aload_n 0, 1) := by decide +kernel
theorem zd_M_writeChain_36 : decode zc_M_writeChain 36 = .ok (.iload_n 3, 1) := by decide +kernel
theorem zd_M_writeChain_37 : decode zc_M_writeChain 37 = .ok (.iload_n 2, 1) := by decide +kernel
theorem zd_M_writeChain_38 : decode zc_M_writeChain 38 = .ok (.invokevirtual 137, 3) := by decide +kernel
theorem zd_M_writeChain_41 : decode zc_M_writeChain 41 = .ok (.invokevirtual 198, 3) := by decide +kernel
theorem zd_M_writeChain_44 : decode zc_M_writeChain 44 = .ok (.aload_n 0, 1) := by decide +kernel
theorem zd_M_writeChain_45 : decode zc_M_writeChain 45 = .ok (.bipush 45, 2) := by decide +kernel
theorem zd_M_writeChain_47 : decode zc_M_writeChain 47 = .ok (.invokevirtual 188, 3) := by decide +kernel
theorem zd_M_writeChain_50 : decode zc_M_writeChain 50 = .ok (.aload_n 0, 1) := by decide +kernel
theorem zd_M_writeChain_51 : decode zc_M_writeChain 51 = .ok (.aload_n 0, 1) := by decide +kernel
theorem zd_M_writeChain_52 : decode zc_M_writeChain 52 = .ok (.iload_n 3, 1) := by decide +kernel
theorem zd_M_writeChain_53 : decode zc_M_writeChain 53 = .ok (.iload_n 2, 1) := by decide +kernel
theorem zd_M_writeChain_54 : decode zc_M_writeChain 54 = .ok (.invokevirtual 141, 3) := by decide +kernel
theorem zd_M_writeChain_57 : decode zc_M_writeChain 57 = .ok (.invokevirtual 198, 3) := by decide +kernel
theorem zd_M_writeChain_60 : decode zc_M_writeChain 60 = .ok (.aload_n 0, 1) := by decide +kernel
theorem zd_M_writeChain_61 : decode zc_M_writeChain 61 = .ok (.getfield 25, 3) := by decide +kernel
theorem zd_M_writeChain_64 : decode zc_M_writeChain 64 = .ok (.iload_n 3, 1) := by decide +kernel
theorem zd_M_writeChain_65 : decode zc_M_writeChain 65 = .ok (.baload, 1) := by decide +kernel
theorem zd_M_writeChain_66 : decode zc_M_writeChain 66 = .ok (.ifCond .eq 9, 3) := by decide +kernel
theorem zd_M_writeChain_69 : decode zc_M_writeChain 69 = .ok (.aload_n 0, 1) := by decide +kernel
theorem zd_M_writeChain_70 : decode zc_M_writeChain 70 = .ok (.bipush 63, 2) := by decide +kernel
theorem zd_M_writeChain_72 : decode zc_M_writeChain 72 = .ok (.invokevirtual 188, 3) := by decide +kernel
theorem zd_M_writeChain_75 : decode zc_M_writeChain 75 = .ok (.aload_n 0, 1) := by decide +kernel
theorem zd_M_writeChain_76 : decode zc_M_writeChain 76 = .ok (.bipush 59, 2) := by decide +kernel
theorem zd_M_writeChain_78 : decode zc_M_writeChain 78 = .ok (.invokevirtual 188, 3) := by decide +kernel
theorem zd_M_writeChain_81 : decode zc_M_writeChain 81 = .ok (.aload_n 0, 1) := by decide +kernel
theorem zd_M_writeChain_82 : decode zc_M_writeChain 82 = .ok (.iload_n 1, 1) := by decide +kernel
theorem zd_M_writeChain_83 : decode zc_M_writeChain 83 = .ok (.iload_n 2, 1) := by decide +kernel
theorem zd_M_writeChain_84 : decode zc_M_writeChain 84 = .ok (.iload_n 3, 1) := by decide +kernel
theorem zd_M_writeChain_85 : decode zc_M_writeChain 85 = .ok (.invokevirtual 195, 3) := by decide +kernel
theorem zd_M_writeChain_88 : decode zc_M_writeChain 88 = .ok (.istore_n 3, 1) := by decide +kernel
theorem zd_M_writeChain_89 : decode zc_M_writeChain 89 = .ok (.goto (-76), 3) := by decide +kernel
theorem zd_M_writeChain_92 : decode zc_M_writeChain 92 = .ok (.return_, 1) := by decide +kernel
theorem zd_M_chain_0 : decode zc_M_chain 0 = .ok (.aload_n 0, 1) := by decide +kernel
theorem zd_M_chain_1 : decode zc_M_chain 1 = .ok (.iload_n 1, 1) := by decide +kernel
theorem zd_M_chain_2 : decode zc_M_chain 2 = .ok (.invokevirtual 121, 3) := by decide +kernel
theorem zd_M_chain_5 : decode zc_M_chain 5 = .ok (.ifCond .eq 8, 3) := by decide +kernel
theorem zd_M_chain_8 : decode zc_M_chain 8 = .ok (.iload_n 3, 1) := by decide +kernel
theorem zd_M_chain_9 : decode zc_M_chain 9 = .ok (.iconst (-1), 1) := by decide +kernel
theorem zd_M_chain_10 : decode zc_M_chain 10 = .ok (.if_icmp .ge 7, 3) := by decide +kernel
theorem zd_M_chain_13 : decode zc_M_chain 13 = .ok (.iconst 1, 1) := by decide +kernel
theorem zd_M_chain_14 : decode zc_M_chain 14 = .ok (.goto 4, 3) := by decide +kernel
theorem zd_M_chain_17 : decode zc_M_chain 17 = .ok (.iconst 0, 1) := by decide +kernel
theorem zd_M_chain_18 : decode zc_M_chain 18 = .ok (.istore 4, 2) := by decide +kernel
theorem zd_M_chain_20 : decode zc_M_chain 20 = .ok (.iload_n 2, 1) := by decide +kernel
theorem zd_M_chain_21 : decode zc_M_chain 21 = .ok (.invokestatic 117, 3) := by decide +kernel
theorem zd_M_chain_24 : decode zc_M_chain 24 = .ok (.ifCond .ne 7, 3) := by decide +kernel
theorem zd_M_chain_27 : decode zc_M_chain 27 = .ok (.iconst 1, 1) := by decide +kernel
theorem zd_M_chain_28 : decode zc_M_chain 28 = .ok (.goto 4, 3) := by decide +kernel
theorem zd_M_chain_31 : decode zc_M_chain 31 = .ok (.iconst 0, 1) := by decide +kernel
theorem zd_M_chain_32 : decode zc_M_chain 32 = .ok (.istore 5, 2) := by decide +kernel
theorem zd_M_chain_34 : decode zc_M_chain 34 = .ok (.iload 4, 2) := by decide +kernel
theorem zd_M_chain_36 : decode zc_M_chain 36 = .ok (.ifCond .ne 29, 3) := by decide +kernel
theorem zd_M_chain_39 : decode zc_M_chain 39 = .ok (.iload 5, 2) := by decide +kernel
theorem zd_M_chain_41 : decode zc_M_chain 41 = .ok (.ifCond .ne 24, 3) := by decide +kernel
theorem zd_M_chain_44 : decode zc_M_chain 44 = .ok (.aload_n 0, 1) := by decide +kernel
theorem zd_M_chain_45 : decode zc_M_chain 45 = .ok (.iload_n 1, 1) := by decide +kernel
theorem zd_M_chain_46 : decode zc_M_chain 46 = .ok (.iload_n 2, 1) := by decide +kernel
theorem zd_M_chain_47 : decode zc_M_chain 47 = .ok (.invokevirtual 201, 3) := by decide +kernel
theorem zd_M_chain_50 : decode zc_M_chain 50 = .ok (.iload_n 3, 1) := by decide +kernel
theorem zd_M_chain_51 : decode zc_M_chain 51 = .ok (.aload_n 0, 1) := by decide +kernel
theorem zd_M_chain_52 : decode zc_M_chain 52 = .ok (.getfield 185, 3) := by decide +kernel
theorem zd_M_chain_55 : decode zc_M_chain 55 = .ok (.if_icmp .lt 7, 3) := by decide +kernel
theorem zd_M_chain_58 : decode zc_M_chain 58 = .ok (.iconst 1, 1) := by decide +kernel
theorem zd_M_chain_59 : decode zc_M_chain 59 = .ok (.goto 4, 3) := by decide +kernel
theorem zd_M_chain_62 : decode zc_M_chain 62 = .ok (.iconst 0, 1) := by decide +kernel
theorem zd_M_chain_63 : decode zc_M_chain 63 = .ok (.istore 4, 2) := by decide +kernel
theorem zd_M_chain_65 : decode zc_M_chain 65 = .ok (.aload_n 0, 1) := by decide +kernel
theorem zd_M_chain_66 : decode zc_M_chain 66 = .ok (.iload 4, 2) := by decide +kernel
theorem zd_M_chain_68 : decode zc_M_chain 68 = .ok (.iload 5, 2) := by decide +kernel
theorem zd_M_chain_70 : decode zc_M_chain 70 = .ok (.iconst 0, 1) := by decide +kernel
theorem zd_M_chain_71 : decode zc_M_chain 71 = .ok (.invokevirtual 113, 3) := by decide +kernel
theorem zd_M_chain_74 : decode zc_M_chain 74 = .ok (.ifCond .eq 5, 3) := by decide +kernel
theorem zd_M_chain_77 : decode zc_M_chain 77 = .ok (.iconst 0, 1) := by decide +kernel
theorem zd_M_chain_78 : decode zc_M_chain 78 = .ok (.ireturn, 1) := by decide +kernel
theorem zd_M_chain_79 : decode zc_M_chain 79 = .ok (.iload_n 3, 1) := by decide +kernel
theorem zd_M_chain_80 : decode zc_M_chain 80 = .ok (.iconst (-1), 1) := by decide +kernel
theorem zd_M_chain_81 : decode zc_M_chain 81 = .ok (.if_icmp .ne 10, 3) := by decide +kernel
theorem zd_M_chain_84 : decode zc_M_chain 84 = .ok (.aload_n 0, 1) := by decide +kernel
theorem zd_M_chain_85 : decode zc_M_chain 85 = .ok (.getfield 185, 3) := by decide +kernel
theorem zd_M_chain_88 : decode zc_M_chain 88 = .ok (.goto 9, 3) := by decide +kernel
theorem zd_M_chain_91 : decode zc_M_chain 91 = .ok (.aload_n 0, 1) := by decide +kernel
theorem zd_M_chain_92 : decode zc_M_chain 92 = .ok (.getfield 95, 3) := by decide +kernel
theorem zd_M_chain_95 : decode zc_M_chain 95 = .ok (.iload_n 3, 1) := by decide +kernel
theorem zd_M_chain_96 : decode zc_M_chain 96 = .ok (.iaload, 1) := by decide +kernel
theorem zd_M_chain_97 : decode zc_M_chain 97 = .ok (.ireturn, 1) := by decide +kernel
