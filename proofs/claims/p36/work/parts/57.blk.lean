-- 57: blocks of the law from its first check on (written by wip/p36/gen57.py)
theorem hm_B_new : zms[k_B_new]? = some m_B_new := rfl
theorem a_L_law_10 : zAt 130 10 m_L_law (.aload_n 1) 1 := ⟨hm_L_law, by decide +kernel⟩
theorem a_L_law_11 : zAt 130 11 m_L_law (.invokevirtual 144) 3 := ⟨hm_L_law, by decide +kernel⟩
theorem a_L_law_14 : zAt 130 14 m_L_law (.bipush (-15)) 2 := ⟨hm_L_law, by decide +kernel⟩
theorem a_L_law_16 : zAt 130 16 m_L_law (.if_icmp .ne 145) 3 := ⟨hm_L_law, by decide +kernel⟩
theorem a_L_law_19 : zAt 130 19 m_L_law (.aload_n 1) 1 := ⟨hm_L_law, by decide +kernel⟩
theorem a_L_law_20 : zAt 130 20 m_L_law (.invokevirtual 140) 3 := ⟨hm_L_law, by decide +kernel⟩
theorem a_L_law_23 : zAt 130 23 m_L_law (.bipush (-15)) 2 := ⟨hm_L_law, by decide +kernel⟩
theorem a_L_law_25 : zAt 130 25 m_L_law (.if_icmp .ne 136) 3 := ⟨hm_L_law, by decide +kernel⟩
theorem a_L_law_28 : zAt 130 28 m_L_law (.aload_n 1) 1 := ⟨hm_L_law, by decide +kernel⟩
theorem a_L_law_29 : zAt 130 29 m_L_law (.iconst 0) 1 := ⟨hm_L_law, by decide +kernel⟩
theorem a_L_law_30 : zAt 130 30 m_L_law (.invokevirtual 136) 3 := ⟨hm_L_law, by decide +kernel⟩
theorem a_L_law_33 : zAt 130 33 m_L_law (.bipush (-15)) 2 := ⟨hm_L_law, by decide +kernel⟩
theorem a_L_law_35 : zAt 130 35 m_L_law (.if_icmp .ne 126) 3 := ⟨hm_L_law, by decide +kernel⟩
theorem a_L_law_38 : zAt 130 38 m_L_law (.aload_n 1) 1 := ⟨hm_L_law, by decide +kernel⟩
theorem a_L_law_39 : zAt 130 39 m_L_law (.invokevirtual 147) 3 := ⟨hm_L_law, by decide +kernel⟩
theorem a_L_law_42 : zAt 130 42 m_L_law (.sipush (-1000)) 3 := ⟨hm_L_law, by decide +kernel⟩
theorem a_L_law_45 : zAt 130 45 m_L_law (.if_icmp .ne 116) 3 := ⟨hm_L_law, by decide +kernel⟩
theorem a_L_law_48 : zAt 130 48 m_L_law (.aload_n 1) 1 := ⟨hm_L_law, by decide +kernel⟩
theorem a_L_law_49 : zAt 130 49 m_L_law (.iconst 0) 1 := ⟨hm_L_law, by decide +kernel⟩
theorem a_L_law_50 : zAt 130 50 m_L_law (.invokevirtual 150) 3 := ⟨hm_L_law, by decide +kernel⟩
theorem a_L_law_53 : zAt 130 53 m_L_law (.bipush (-11)) 2 := ⟨hm_L_law, by decide +kernel⟩
theorem a_L_law_55 : zAt 130 55 m_L_law (.if_icmp .ne 106) 3 := ⟨hm_L_law, by decide +kernel⟩
theorem a_L_law_58 : zAt 130 58 m_L_law (.aload_n 1) 1 := ⟨hm_L_law, by decide +kernel⟩
theorem a_L_law_59 : zAt 130 59 m_L_law (.bipush 99) 2 := ⟨hm_L_law, by decide +kernel⟩
theorem a_L_law_61 : zAt 130 61 m_L_law (.invokevirtual 50) 3 := ⟨hm_L_law, by decide +kernel⟩
theorem a_L_law_64 : zAt 130 64 m_L_law (.bipush (-11)) 2 := ⟨hm_L_law, by decide +kernel⟩
theorem a_L_law_66 : zAt 130 66 m_L_law (.if_icmp .ne 95) 3 := ⟨hm_L_law, by decide +kernel⟩
theorem a_L_law_69 : zAt 130 69 m_L_law (.aload_n 1) 1 := ⟨hm_L_law, by decide +kernel⟩
theorem a_L_law_70 : zAt 130 70 m_L_law (.iconst 0) 1 := ⟨hm_L_law, by decide +kernel⟩
theorem a_L_law_71 : zAt 130 71 m_L_law (.invokevirtual 37) 3 := ⟨hm_L_law, by decide +kernel⟩
theorem a_L_law_74 : zAt 130 74 m_L_law (.bipush 99) 2 := ⟨hm_L_law, by decide +kernel⟩
theorem a_L_law_76 : zAt 130 76 m_L_law (.if_icmp .ne 85) 3 := ⟨hm_L_law, by decide +kernel⟩
theorem a_L_law_79 : zAt 130 79 m_L_law (.aload_n 1) 1 := ⟨hm_L_law, by decide +kernel⟩
theorem a_L_law_80 : zAt 130 80 m_L_law (.bipush 99) 2 := ⟨hm_L_law, by decide +kernel⟩
theorem a_L_law_82 : zAt 130 82 m_L_law (.iconst 0) 1 := ⟨hm_L_law, by decide +kernel⟩
theorem a_L_law_83 : zAt 130 83 m_L_law (.iconst 0) 1 := ⟨hm_L_law, by decide +kernel⟩
theorem a_L_law_84 : zAt 130 84 m_L_law (.iconst 0) 1 := ⟨hm_L_law, by decide +kernel⟩
theorem a_L_law_85 : zAt 130 85 m_L_law (.iconst 0) 1 := ⟨hm_L_law, by decide +kernel⟩
theorem a_L_law_86 : zAt 130 86 m_L_law (.invokevirtual 46) 3 := ⟨hm_L_law, by decide +kernel⟩
theorem a_L_law_89 : zAt 130 89 m_L_law (.bipush (-12)) 2 := ⟨hm_L_law, by decide +kernel⟩
theorem a_L_law_91 : zAt 130 91 m_L_law (.if_icmp .ne 70) 3 := ⟨hm_L_law, by decide +kernel⟩
theorem a_L_law_94 : zAt 130 94 m_L_law (.aload_n 1) 1 := ⟨hm_L_law, by decide +kernel⟩
theorem a_L_law_95 : zAt 130 95 m_L_law (.iconst 0) 1 := ⟨hm_L_law, by decide +kernel⟩
theorem a_L_law_96 : zAt 130 96 m_L_law (.iconst 1) 1 := ⟨hm_L_law, by decide +kernel⟩
theorem a_L_law_97 : zAt 130 97 m_L_law (.iconst 1) 1 := ⟨hm_L_law, by decide +kernel⟩
theorem a_L_law_98 : zAt 130 98 m_L_law (.bipush 50) 2 := ⟨hm_L_law, by decide +kernel⟩
theorem a_L_law_100 : zAt 130 100 m_L_law (.bipush 50) 2 := ⟨hm_L_law, by decide +kernel⟩
theorem a_L_law_102 : zAt 130 102 m_L_law (.iconst 1) 1 := ⟨hm_L_law, by decide +kernel⟩
theorem a_L_law_103 : zAt 130 103 m_L_law (.invokevirtual 53) 3 := ⟨hm_L_law, by decide +kernel⟩
theorem a_L_law_106 : zAt 130 106 m_L_law (.bipush (-12)) 2 := ⟨hm_L_law, by decide +kernel⟩
theorem a_L_law_108 : zAt 130 108 m_L_law (.if_icmp .ne 53) 3 := ⟨hm_L_law, by decide +kernel⟩
theorem a_L_law_111 : zAt 130 111 m_L_law (.aload_n 1) 1 := ⟨hm_L_law, by decide +kernel⟩
theorem a_L_law_112 : zAt 130 112 m_L_law (.iconst 0) 1 := ⟨hm_L_law, by decide +kernel⟩
theorem a_L_law_113 : zAt 130 113 m_L_law (.invokevirtual 70) 3 := ⟨hm_L_law, by decide +kernel⟩
theorem a_L_law_116 : zAt 130 116 m_L_law (.bipush (-11)) 2 := ⟨hm_L_law, by decide +kernel⟩
theorem a_L_law_118 : zAt 130 118 m_L_law (.if_icmp .ne 43) 3 := ⟨hm_L_law, by decide +kernel⟩
theorem a_L_law_121 : zAt 130 121 m_L_law (.aload_n 1) 1 := ⟨hm_L_law, by decide +kernel⟩
theorem a_L_law_122 : zAt 130 122 m_L_law (.iconst 5) 1 := ⟨hm_L_law, by decide +kernel⟩
theorem a_L_law_123 : zAt 130 123 m_L_law (.iconst 0) 1 := ⟨hm_L_law, by decide +kernel⟩
theorem a_L_law_124 : zAt 130 124 m_L_law (.invokevirtual 64) 3 := ⟨hm_L_law, by decide +kernel⟩
theorem a_L_law_127 : zAt 130 127 m_L_law (.bipush (-11)) 2 := ⟨hm_L_law, by decide +kernel⟩
theorem a_L_law_129 : zAt 130 129 m_L_law (.if_icmp .ne 32) 3 := ⟨hm_L_law, by decide +kernel⟩
theorem a_L_law_132 : zAt 130 132 m_L_law (.aload_n 1) 1 := ⟨hm_L_law, by decide +kernel⟩
theorem a_L_law_133 : zAt 130 133 m_L_law (.bipush 14) 2 := ⟨hm_L_law, by decide +kernel⟩
theorem a_L_law_135 : zAt 130 135 m_L_law (.invokevirtual 28) 3 := ⟨hm_L_law, by decide +kernel⟩
theorem a_L_law_138 : zAt 130 138 m_L_law (.bipush (-12)) 2 := ⟨hm_L_law, by decide +kernel⟩
theorem a_L_law_140 : zAt 130 140 m_L_law (.if_icmp .ne 21) 3 := ⟨hm_L_law, by decide +kernel⟩
theorem a_L_law_143 : zAt 130 143 m_L_law (.aload_n 1) 1 := ⟨hm_L_law, by decide +kernel⟩
theorem a_L_law_144 : zAt 130 144 m_L_law (.invokevirtual 130) 3 := ⟨hm_L_law, by decide +kernel⟩
theorem a_L_law_147 : zAt 130 147 m_L_law (.iconst 1) 1 := ⟨hm_L_law, by decide +kernel⟩
theorem a_L_law_148 : zAt 130 148 m_L_law (.if_icmp .ne 13) 3 := ⟨hm_L_law, by decide +kernel⟩
theorem a_L_law_151 : zAt 130 151 m_L_law (.aload_n 1) 1 := ⟨hm_L_law, by decide +kernel⟩
theorem a_L_law_152 : zAt 130 152 m_L_law (.iconst 0) 1 := ⟨hm_L_law, by decide +kernel⟩
theorem a_L_law_153 : zAt 130 153 m_L_law (.invokevirtual 119) 3 := ⟨hm_L_law, by decide +kernel⟩
theorem a_L_law_156 : zAt 130 156 m_L_law (.bipush (-11)) 2 := ⟨hm_L_law, by decide +kernel⟩
theorem a_L_law_158 : zAt 130 158 m_L_law (.if_icmp .eq 5) 3 := ⟨hm_L_law, by decide +kernel⟩
theorem a_L_law_161 : zAt 130 161 m_L_law (.iconst 0) 1 := ⟨hm_L_law, by decide +kernel⟩
theorem a_L_law_162 : zAt 130 162 m_L_law (.ireturn) 1 := ⟨hm_L_law, by decide +kernel⟩
theorem a_L_law_163 : zAt 130 163 m_L_law (.aload_n 1) 1 := ⟨hm_L_law, by decide +kernel⟩
theorem a_L_law_164 : zAt 130 164 m_L_law (.invokestatic 153) 3 := ⟨hm_L_law, by decide +kernel⟩
theorem a_L_law_167 : zAt 130 167 m_L_law (.istore_n 3) 1 := ⟨hm_L_law, by decide +kernel⟩
theorem a_L_law_168 : zAt 130 168 m_L_law (.iconst 0) 1 := ⟨hm_L_law, by decide +kernel⟩
theorem a_L_law_169 : zAt 130 169 m_L_law (.istore 4) 2 := ⟨hm_L_law, by decide +kernel⟩
theorem a_L_law_171 : zAt 130 171 m_L_law (.iload 4) 2 := ⟨hm_L_law, by decide +kernel⟩
theorem a_L_law_173 : zAt 130 173 m_L_law (.bipush 26) 2 := ⟨hm_L_law, by decide +kernel⟩
theorem a_L_law_175 : zAt 130 175 m_L_law (.if_icmp .ge 225) 3 := ⟨hm_L_law, by decide +kernel⟩
theorem a_L_law_178 : zAt 130 178 m_L_law (.aload_n 0) 1 := ⟨hm_L_law, by decide +kernel⟩
theorem a_L_law_179 : zAt 130 179 m_L_law (.iload_n 2) 1 := ⟨hm_L_law, by decide +kernel⟩
theorem a_L_law_180 : zAt 130 180 m_L_law (.invokestatic 157) 3 := ⟨hm_L_law, by decide +kernel⟩
theorem a_L_law_183 : zAt 130 183 m_L_law (.sipush 255) 3 := ⟨hm_L_law, by decide +kernel⟩
theorem a_L_law_186 : zAt 130 186 m_L_law (.iand) 1 := ⟨hm_L_law, by decide +kernel⟩
theorem a_L_law_187 : zAt 130 187 m_L_law (.istore 5) 2 := ⟨hm_L_law, by decide +kernel⟩
theorem a_L_law_189 : zAt 130 189 m_L_law (.new 24) 3 := ⟨hm_L_law, by decide +kernel⟩
theorem a_L_law_192 : zAt 130 192 m_L_law (.dup) 1 := ⟨hm_L_law, by decide +kernel⟩
theorem a_L_law_193 : zAt 130 193 m_L_law (.aload_n 0) 1 := ⟨hm_L_law, by decide +kernel⟩
theorem a_L_law_194 : zAt 130 194 m_L_law (.iload_n 2) 1 := ⟨hm_L_law, by decide +kernel⟩
theorem a_L_law_195 : zAt 130 195 m_L_law (.iconst 1) 1 := ⟨hm_L_law, by decide +kernel⟩
theorem a_L_law_196 : zAt 130 196 m_L_law (.iadd) 1 := ⟨hm_L_law, by decide +kernel⟩
theorem a_L_law_197 : zAt 130 197 m_L_law (.invokestatic 157) 3 := ⟨hm_L_law, by decide +kernel⟩
theorem a_L_law_200 : zAt 130 200 m_L_law (.invokespecial 161) 3 := ⟨hm_L_law, by decide +kernel⟩
theorem a_L_law_203 : zAt 130 203 m_L_law (.astore 6) 2 := ⟨hm_L_law, by decide +kernel⟩
theorem a_L_law_205 : zAt 130 205 m_L_law (.iinc 2 2) 3 := ⟨hm_L_law, by decide +kernel⟩
theorem a_L_law_208 : zAt 130 208 m_L_law (.aload_n 1) 1 := ⟨hm_L_law, by decide +kernel⟩
theorem a_L_law_209 : zAt 130 209 m_L_law (.bipush 13) 2 := ⟨hm_L_law, by decide +kernel⟩
theorem a_L_law_211 : zAt 130 211 m_L_law (.invokevirtual 28) 3 := ⟨hm_L_law, by decide +kernel⟩
theorem a_L_law_214 : zAt 130 214 m_L_law (.istore 7) 2 := ⟨hm_L_law, by decide +kernel⟩
theorem a_L_law_216 : zAt 130 216 m_L_law (.aload_n 1) 1 := ⟨hm_L_law, by decide +kernel⟩
theorem a_L_law_217 : zAt 130 217 m_L_law (.invokestatic 164) 3 := ⟨hm_L_law, by decide +kernel⟩
theorem a_L_law_220 : zAt 130 220 m_L_law (.astore 8) 2 := ⟨hm_L_law, by decide +kernel⟩
theorem a_L_law_222 : zAt 130 222 m_L_law (.aload_n 1) 1 := ⟨hm_L_law, by decide +kernel⟩
theorem a_L_law_223 : zAt 130 223 m_L_law (.iload 5) 2 := ⟨hm_L_law, by decide +kernel⟩
theorem a_L_law_225 : zAt 130 225 m_L_law (.aload 6) 2 := ⟨hm_L_law, by decide +kernel⟩
theorem a_L_law_227 : zAt 130 227 m_L_law (.invokestatic 168) 3 := ⟨hm_L_law, by decide +kernel⟩
theorem a_L_law_230 : zAt 130 230 m_L_law (.istore 9) 2 := ⟨hm_L_law, by decide +kernel⟩
theorem a_L_law_232 : zAt 130 232 m_L_law (.iload 9) 2 := ⟨hm_L_law, by decide +kernel⟩
theorem a_L_law_234 : zAt 130 234 m_L_law (.ifCond .ge 17) 3 := ⟨hm_L_law, by decide +kernel⟩
theorem a_L_law_237 : zAt 130 237 m_L_law (.aload 8) 2 := ⟨hm_L_law, by decide +kernel⟩
theorem a_L_law_239 : zAt 130 239 m_L_law (.aload_n 1) 1 := ⟨hm_L_law, by decide +kernel⟩
theorem a_L_law_240 : zAt 130 240 m_L_law (.invokestatic 164) 3 := ⟨hm_L_law, by decide +kernel⟩
theorem a_L_law_243 : zAt 130 243 m_L_law (.invokestatic 172) 3 := ⟨hm_L_law, by decide +kernel⟩
theorem a_L_law_246 : zAt 130 246 m_L_law (.ifCond .ne 5) 3 := ⟨hm_L_law, by decide +kernel⟩
theorem a_L_law_251 : zAt 130 251 m_L_law (.iload 9) 2 := ⟨hm_L_law, by decide +kernel⟩
theorem a_L_law_253 : zAt 130 253 m_L_law (.ifCond .ge 8) 3 := ⟨hm_L_law, by decide +kernel⟩
theorem a_L_law_256 : zAt 130 256 m_L_law (.iload 7) 2 := ⟨hm_L_law, by decide +kernel⟩
theorem a_L_law_258 : zAt 130 258 m_L_law (.goto 12) 3 := ⟨hm_L_law, by decide +kernel⟩
theorem a_L_law_261 : zAt 130 261 m_L_law (.bipush 8) 2 := ⟨hm_L_law, by decide +kernel⟩
theorem a_L_law_263 : zAt 130 263 m_L_law (.iload 7) 2 := ⟨hm_L_law, by decide +kernel⟩
theorem a_L_law_265 : zAt 130 265 m_L_law (.iconst 1) 1 := ⟨hm_L_law, by decide +kernel⟩
theorem a_L_law_266 : zAt 130 266 m_L_law (.iadd) 1 := ⟨hm_L_law, by decide +kernel⟩
theorem a_L_law_267 : zAt 130 267 m_L_law (.invokestatic 109) 3 := ⟨hm_L_law, by decide +kernel⟩
theorem a_L_law_270 : zAt 130 270 m_L_law (.istore 7) 2 := ⟨hm_L_law, by decide +kernel⟩
theorem a_L_law_272 : zAt 130 272 m_L_law (.iload 9) 2 := ⟨hm_L_law, by decide +kernel⟩
theorem a_L_law_274 : zAt 130 274 m_L_law (.ifCond .lt 38) 3 := ⟨hm_L_law, by decide +kernel⟩
theorem a_L_law_277 : zAt 130 277 m_L_law (.aload 6) 2 := ⟨hm_L_law, by decide +kernel⟩
theorem a_L_law_279 : zAt 130 279 m_L_law (.iconst 4) 1 := ⟨hm_L_law, by decide +kernel⟩
theorem a_L_law_280 : zAt 130 280 m_L_law (.invokevirtual 23) 3 := ⟨hm_L_law, by decide +kernel⟩
theorem a_L_law_283 : zAt 130 283 m_L_law (.ifCond .ne 29) 3 := ⟨hm_L_law, by decide +kernel⟩
theorem a_L_law_286 : zAt 130 286 m_L_law (.iinc 7 (-1)) 3 := ⟨hm_L_law, by decide +kernel⟩
theorem a_L_law_289 : zAt 130 289 m_L_law (.aload_n 1) 1 := ⟨hm_L_law, by decide +kernel⟩
theorem a_L_law_290 : zAt 130 290 m_L_law (.invokevirtual 144) 3 := ⟨hm_L_law, by decide +kernel⟩
theorem a_L_law_293 : zAt 130 293 m_L_law (.iload 7) 2 := ⟨hm_L_law, by decide +kernel⟩
theorem a_L_law_295 : zAt 130 295 m_L_law (.if_icmp .ne 15) 3 := ⟨hm_L_law, by decide +kernel⟩
theorem a_L_law_298 : zAt 130 298 m_L_law (.aload 8) 2 := ⟨hm_L_law, by decide +kernel⟩
theorem a_L_law_300 : zAt 130 300 m_L_law (.aload_n 1) 1 := ⟨hm_L_law, by decide +kernel⟩
theorem a_L_law_301 : zAt 130 301 m_L_law (.invokestatic 164) 3 := ⟨hm_L_law, by decide +kernel⟩
theorem a_L_law_304 : zAt 130 304 m_L_law (.invokestatic 172) 3 := ⟨hm_L_law, by decide +kernel⟩
theorem a_L_law_307 : zAt 130 307 m_L_law (.ifCond .ne 5) 3 := ⟨hm_L_law, by decide +kernel⟩
theorem a_L_law_310 : zAt 130 310 m_L_law (.iconst 0) 1 := ⟨hm_L_law, by decide +kernel⟩
theorem a_L_law_311 : zAt 130 311 m_L_law (.ireturn) 1 := ⟨hm_L_law, by decide +kernel⟩
theorem a_L_law_312 : zAt 130 312 m_L_law (.aload_n 1) 1 := ⟨hm_L_law, by decide +kernel⟩
theorem a_L_law_313 : zAt 130 313 m_L_law (.bipush 13) 2 := ⟨hm_L_law, by decide +kernel⟩
theorem a_L_law_315 : zAt 130 315 m_L_law (.invokevirtual 28) 3 := ⟨hm_L_law, by decide +kernel⟩
theorem a_L_law_318 : zAt 130 318 m_L_law (.iload 7) 2 := ⟨hm_L_law, by decide +kernel⟩
theorem a_L_law_320 : zAt 130 320 m_L_law (.if_icmp .ne 26) 3 := ⟨hm_L_law, by decide +kernel⟩
theorem a_L_law_323 : zAt 130 323 m_L_law (.aload_n 1) 1 := ⟨hm_L_law, by decide +kernel⟩
theorem a_L_law_324 : zAt 130 324 m_L_law (.bipush 12) 2 := ⟨hm_L_law, by decide +kernel⟩
theorem a_L_law_326 : zAt 130 326 m_L_law (.invokevirtual 28) 3 := ⟨hm_L_law, by decide +kernel⟩
theorem a_L_law_329 : zAt 130 329 m_L_law (.ifCond .ne 17) 3 := ⟨hm_L_law, by decide +kernel⟩
theorem a_L_law_332 : zAt 130 332 m_L_law (.aload_n 1) 1 := ⟨hm_L_law, by decide +kernel⟩
theorem a_L_law_333 : zAt 130 333 m_L_law (.invokestatic 178) 3 := ⟨hm_L_law, by decide +kernel⟩
theorem a_L_law_336 : zAt 130 336 m_L_law (.ifCond .eq 10) 3 := ⟨hm_L_law, by decide +kernel⟩
theorem a_L_law_339 : zAt 130 339 m_L_law (.aload_n 1) 1 := ⟨hm_L_law, by decide +kernel⟩
theorem a_L_law_340 : zAt 130 340 m_L_law (.invokestatic 182) 3 := ⟨hm_L_law, by decide +kernel⟩
theorem a_L_law_343 : zAt 130 343 m_L_law (.ifCond .ne 5) 3 := ⟨hm_L_law, by decide +kernel⟩
theorem a_L_law_346 : zAt 130 346 m_L_law (.iconst 0) 1 := ⟨hm_L_law, by decide +kernel⟩
theorem a_L_law_347 : zAt 130 347 m_L_law (.ireturn) 1 := ⟨hm_L_law, by decide +kernel⟩
theorem a_L_law_348 : zAt 130 348 m_L_law (.iload 4) 2 := ⟨hm_L_law, by decide +kernel⟩
theorem a_L_law_350 : zAt 130 350 m_L_law (.iconst 4) 1 := ⟨hm_L_law, by decide +kernel⟩
theorem a_L_law_351 : zAt 130 351 m_L_law (.irem) 1 := ⟨hm_L_law, by decide +kernel⟩
theorem a_L_law_352 : zAt 130 352 m_L_law (.iconst 3) 1 := ⟨hm_L_law, by decide +kernel⟩
theorem a_L_law_353 : zAt 130 353 m_L_law (.if_icmp .ne 41) 3 := ⟨hm_L_law, by decide +kernel⟩
theorem a_L_law_356 : zAt 130 356 m_L_law (.aload_n 1) 1 := ⟨hm_L_law, by decide +kernel⟩
theorem a_L_law_357 : zAt 130 357 m_L_law (.invokestatic 164) 3 := ⟨hm_L_law, by decide +kernel⟩
theorem a_L_law_360 : zAt 130 360 m_L_law (.astore 8) 2 := ⟨hm_L_law, by decide +kernel⟩
theorem a_L_law_362 : zAt 130 362 m_L_law (.aload_n 1) 1 := ⟨hm_L_law, by decide +kernel⟩
theorem a_L_law_363 : zAt 130 363 m_L_law (.aload 6) 2 := ⟨hm_L_law, by decide +kernel⟩
theorem a_L_law_365 : zAt 130 365 m_L_law (.invokestatic 185) 3 := ⟨hm_L_law, by decide +kernel⟩
theorem a_L_law_368 : zAt 130 368 m_L_law (.ifCond .eq 24) 3 := ⟨hm_L_law, by decide +kernel⟩
theorem a_L_law_371 : zAt 130 371 m_L_law (.aload 8) 2 := ⟨hm_L_law, by decide +kernel⟩
theorem a_L_law_373 : zAt 130 373 m_L_law (.aload_n 1) 1 := ⟨hm_L_law, by decide +kernel⟩
theorem a_L_law_374 : zAt 130 374 m_L_law (.invokestatic 164) 3 := ⟨hm_L_law, by decide +kernel⟩
theorem a_L_law_377 : zAt 130 377 m_L_law (.invokestatic 172) 3 := ⟨hm_L_law, by decide +kernel⟩
theorem a_L_law_380 : zAt 130 380 m_L_law (.ifCond .eq 12) 3 := ⟨hm_L_law, by decide +kernel⟩
theorem a_L_law_383 : zAt 130 383 m_L_law (.aload_n 1) 1 := ⟨hm_L_law, by decide +kernel⟩
theorem a_L_law_384 : zAt 130 384 m_L_law (.bipush 13) 2 := ⟨hm_L_law, by decide +kernel⟩
theorem a_L_law_386 : zAt 130 386 m_L_law (.invokevirtual 28) 3 := ⟨hm_L_law, by decide +kernel⟩
theorem a_L_law_389 : zAt 130 389 m_L_law (.ifCond .eq 5) 3 := ⟨hm_L_law, by decide +kernel⟩
theorem a_L_law_392 : zAt 130 392 m_L_law (.iconst 0) 1 := ⟨hm_L_law, by decide +kernel⟩
theorem a_L_law_393 : zAt 130 393 m_L_law (.ireturn) 1 := ⟨hm_L_law, by decide +kernel⟩
theorem a_L_law_394 : zAt 130 394 m_L_law (.iinc 4 1) 3 := ⟨hm_L_law, by decide +kernel⟩
theorem a_L_law_397 : zAt 130 397 m_L_law (.goto (-226)) 3 := ⟨hm_L_law, by decide +kernel⟩
theorem a_L_law_400 : zAt 130 400 m_L_law (.iload_n 3) 1 := ⟨hm_L_law, by decide +kernel⟩
theorem a_L_law_401 : zAt 130 401 m_L_law (.ifCond .le 7) 3 := ⟨hm_L_law, by decide +kernel⟩
theorem a_L_law_404 : zAt 130 404 m_L_law (.iconst 1) 1 := ⟨hm_L_law, by decide +kernel⟩
theorem a_L_law_405 : zAt 130 405 m_L_law (.goto 4) 3 := ⟨hm_L_law, by decide +kernel⟩
theorem a_L_law_408 : zAt 130 408 m_L_law (.iconst 0) 1 := ⟨hm_L_law, by decide +kernel⟩
theorem a_L_law_409 : zAt 130 409 m_L_law (.ireturn) 1 := ⟨hm_L_law, by decide +kernel⟩
theorem B_L_law_10 {E : List zS} {G : Nat → Nat → Int32} {x2 : Int32} : zden 130 10 [.ref 2000000, .ref 0, .int x2, .retAddr 0, .retAddr 0, .retAddr 0, .retAddr 0, .retAddr 0, .retAddr 0, .retAddr 0] [] (zSH ++ E, G) = zaft 130 14 [.ref 2000000, .ref 0, .int x2, .retAddr 0, .retAddr 0, .retAddr 0, .retAddr 0, .retAddr 0, .retAddr 0, .retAddr 0] [] (zSH ++ E, G) (zden 102 0 [.ref 0] [] (zSH ++ E, G)) :=
  (zd_aload_n a_L_law_10 rfl).trans ((zd_cal (kd := 0) (tg := 102) (T := m_T_undo) a_L_law_11 (by decide +kernel) hm_T_undo rfl rfl (zmay_objh (zx_at sh_0) rfl) rfl))
theorem B_L_law_14 {E : List zS} {G : Nat → Nat → Int32} {x2 s0 : Int32} : zden 130 14 [.ref 2000000, .ref 0, .int x2, .retAddr 0, .retAddr 0, .retAddr 0, .retAddr 0, .retAddr 0, .retAddr 0, .retAddr 0] [.int s0] (zSH ++ E, G) = if ¬ s0 = (-15) then some (some (.int 0), (zSH ++ E, G)) else zaft 130 23 [.ref 2000000, .ref 0, .int x2, .retAddr 0, .retAddr 0, .retAddr 0, .retAddr 0, .retAddr 0, .retAddr 0, .retAddr 0] [] (zSH ++ E, G) (zden 104 0 [.ref 0] [] (zSH ++ E, G)) :=
  (zd_bipush (v := (-15)) a_L_law_14 (by decide)).trans ((zd_icmp_ne a_L_law_16 rfl).trans (zitc (fun p434 => (zd_iconst (v := 0) a_L_law_161 (by decide)).trans (zd_iret a_L_law_162 rfl (by decide))) (fun p434 => (zd_aload_n a_L_law_19 rfl).trans ((zd_cal (kd := 0) (tg := 104) (T := m_T_restore) a_L_law_20 (by decide +kernel) hm_T_restore rfl rfl (zmay_objh (zx_at sh_0) rfl) rfl)))))
theorem B_L_law_23 {E : List zS} {G : Nat → Nat → Int32} {x2 s0 : Int32} : zden 130 23 [.ref 2000000, .ref 0, .int x2, .retAddr 0, .retAddr 0, .retAddr 0, .retAddr 0, .retAddr 0, .retAddr 0, .retAddr 0] [.int s0] (zSH ++ E, G) = if ¬ s0 = (-15) then some (some (.int 0), (zSH ++ E, G)) else zaft 130 33 [.ref 2000000, .ref 0, .int x2, .retAddr 0, .retAddr 0, .retAddr 0, .retAddr 0, .retAddr 0, .retAddr 0, .retAddr 0] [] (zSH ++ E, G) (zden 97 0 [.ref 0, .int 0] [] (zSH ++ E, G)) :=
  (zd_bipush (v := (-15)) a_L_law_23 (by decide)).trans ((zd_icmp_ne a_L_law_25 rfl).trans (zitc (fun p435 => (zd_iconst (v := 0) a_L_law_161 (by decide)).trans (zd_iret a_L_law_162 rfl (by decide))) (fun p435 => (zd_aload_n a_L_law_28 rfl).trans ((zd_iconst (v := 0) a_L_law_29 (by decide)).trans ((zd_cal (kd := 0) (tg := 97) (T := m_T_reason) a_L_law_30 (by decide +kernel) hm_T_reason rfl rfl (zmay_objh (zx_at sh_0) rfl) rfl))))))
theorem B_L_law_33 {E : List zS} {G : Nat → Nat → Int32} {x2 s0 : Int32} : zden 130 33 [.ref 2000000, .ref 0, .int x2, .retAddr 0, .retAddr 0, .retAddr 0, .retAddr 0, .retAddr 0, .retAddr 0, .retAddr 0] [.int s0] (zSH ++ E, G) = if ¬ s0 = (-15) then some (some (.int 0), (zSH ++ E, G)) else zaft 130 42 [.ref 2000000, .ref 0, .int x2, .retAddr 0, .retAddr 0, .retAddr 0, .retAddr 0, .retAddr 0, .retAddr 0, .retAddr 0] [] (zSH ++ E, G) (zden 93 0 [.ref 0, .retAddr 0, .retAddr 0] [] (zSH ++ E, G)) :=
  (zd_bipush (v := (-15)) a_L_law_33 (by decide)).trans ((zd_icmp_ne a_L_law_35 rfl).trans (zitc (fun p436 => (zd_iconst (v := 0) a_L_law_161 (by decide)).trans (zd_iret a_L_law_162 rfl (by decide))) (fun p436 => (zd_aload_n a_L_law_38 rfl).trans ((zd_cal (kd := 0) (tg := 93) (T := m_T_run) a_L_law_39 (by decide +kernel) hm_T_run rfl rfl (zmay_objh (zx_at sh_0) rfl) rfl)))))
theorem B_L_law_42 {E : List zS} {G : Nat → Nat → Int32} {x2 s0 : Int32} : zden 130 42 [.ref 2000000, .ref 0, .int x2, .retAddr 0, .retAddr 0, .retAddr 0, .retAddr 0, .retAddr 0, .retAddr 0, .retAddr 0] [.int s0] (zSH ++ E, G) = if ¬ s0 = (-1000) then some (some (.int 0), (zSH ++ E, G)) else zaft 130 53 [.ref 2000000, .ref 0, .int x2, .retAddr 0, .retAddr 0, .retAddr 0, .retAddr 0, .retAddr 0, .retAddr 0, .retAddr 0] [] (zSH ++ E, G) (zden 96 0 [.ref 0, .int 0] [] (zSH ++ E, G)) :=
  (zd_sipush (v := (-1000)) a_L_law_42 (by decide)).trans ((zd_icmp_ne a_L_law_45 rfl).trans (zitc (fun p437 => (zd_iconst (v := 0) a_L_law_161 (by decide)).trans (zd_iret a_L_law_162 rfl (by decide))) (fun p437 => (zd_aload_n a_L_law_48 rfl).trans ((zd_iconst (v := 0) a_L_law_49 (by decide)).trans ((zd_cal (kd := 0) (tg := 96) (T := m_T_character) a_L_law_50 (by decide +kernel) hm_T_character rfl rfl (zmay_objh (zx_at sh_0) rfl) rfl))))))
theorem B_L_law_53 {E : List zS} {G : Nat → Nat → Int32} {x2 s0 : Int32} : zden 130 53 [.ref 2000000, .ref 0, .int x2, .retAddr 0, .retAddr 0, .retAddr 0, .retAddr 0, .retAddr 0, .retAddr 0, .retAddr 0] [.int s0] (zSH ++ E, G) = if ¬ s0 = (-11) then some (some (.int 0), (zSH ++ E, G)) else zaft 130 64 [.ref 2000000, .ref 0, .int x2, .retAddr 0, .retAddr 0, .retAddr 0, .retAddr 0, .retAddr 0, .retAddr 0, .retAddr 0] [] (zSH ++ E, G) (zden 72 0 [.ref 0, .int 99] [] (zSH ++ E, G)) :=
  (zd_bipush (v := (-11)) a_L_law_53 (by decide)).trans ((zd_icmp_ne a_L_law_55 rfl).trans (zitc (fun p438 => (zd_iconst (v := 0) a_L_law_161 (by decide)).trans (zd_iret a_L_law_162 rfl (by decide))) (fun p438 => (zd_aload_n a_L_law_58 rfl).trans ((zd_bipush (v := 99) a_L_law_59 (by decide)).trans ((zd_cal (kd := 0) (tg := 72) (T := m_T_strike) a_L_law_61 (by decide +kernel) hm_T_strike rfl rfl (zmay_objh (zx_at sh_0) rfl) rfl))))))
theorem B_L_law_64 {E : List zS} {G : Nat → Nat → Int32} {rv : Nat → Int32 → Int32 → Int32} {x2 s0 : Int32} (hP : RDs G rv) : zden 130 64 [.ref 2000000, .ref 0, .int x2, .retAddr 0, .retAddr 0, .retAddr 0, .retAddr 0, .retAddr 0, .retAddr 0, .retAddr 0] [.int s0] (zSH ++ E, G) = if ¬ s0 = (-11) then some (some (.int 0), (zSH ++ E, G)) else if ¬ (rv 74 0 0) = 99 then some (some (.int 0), (zSH ++ E, G)) else zaft 130 89 [.ref 2000000, .ref 0, .int x2, .retAddr 0, .retAddr 0, .retAddr 0, .retAddr 0, .retAddr 0, .retAddr 0, .retAddr 0] [] (zSH ++ E, G) (zden 70 0 [.ref 0, .int 99, .int 0, .int 0, .int 0, .int 0] [] (zSH ++ E, G)) :=
  (zd_bipush (v := (-11)) a_L_law_64 (by decide)).trans ((zd_icmp_ne a_L_law_66 rfl).trans (zitc (fun p439 => (zd_iconst (v := 0) a_L_law_161 (by decide)).trans (zd_iret a_L_law_162 rfl (by decide))) (fun p439 => (zd_aload_n a_L_law_69 rfl).trans ((zd_iconst (v := 0) a_L_law_70 (by decide)).trans ((zd_cal (kd := 0) (tg := 74) (T := m_T_code) a_L_law_71 (by decide +kernel) hm_T_code rfl rfl (zmay_objh (zx_at sh_0) rfl) rfl).trans (((congrArg (zaft 130 74 [.ref 2000000, .ref 0, .int x2, .retAddr 0, .retAddr 0, .retAddr 0, .retAddr 0, .retAddr 0, .retAddr 0, .retAddr 0] [] (zSH ++ E, G)) (r74 hP sr_rf)).trans zaft_same).trans ((zd_bipush (v := 99) a_L_law_74 (by decide)).trans ((zd_icmp_ne a_L_law_76 rfl).trans (zitc (fun p440 => (zd_iconst (v := 0) a_L_law_161 (by decide)).trans (zd_iret a_L_law_162 rfl (by decide))) (fun p440 => (zd_aload_n a_L_law_79 rfl).trans ((zd_bipush (v := 99) a_L_law_80 (by decide)).trans ((zd_iconst (v := 0) a_L_law_82 (by decide)).trans ((zd_iconst (v := 0) a_L_law_83 (by decide)).trans ((zd_iconst (v := 0) a_L_law_84 (by decide)).trans ((zd_iconst (v := 0) a_L_law_85 (by decide)).trans ((zd_cal (kd := 0) (tg := 70) (T := m_T_heading) a_L_law_86 (by decide +kernel) hm_T_heading rfl rfl (zmay_objh (zx_at sh_0) rfl) rfl)))))))))))))))))
theorem B_L_law_89 {E : List zS} {G : Nat → Nat → Int32} {x2 s0 : Int32} : zden 130 89 [.ref 2000000, .ref 0, .int x2, .retAddr 0, .retAddr 0, .retAddr 0, .retAddr 0, .retAddr 0, .retAddr 0, .retAddr 0] [.int s0] (zSH ++ E, G) = if ¬ s0 = (-12) then some (some (.int 0), (zSH ++ E, G)) else zaft 130 106 [.ref 2000000, .ref 0, .int x2, .retAddr 0, .retAddr 0, .retAddr 0, .retAddr 0, .retAddr 0, .retAddr 0, .retAddr 0] [] (zSH ++ E, G) (zden 75 0 [.ref 0, .int 0, .int 1, .int 1, .int 50, .int 50, .int 1] [] (zSH ++ E, G)) :=
  (zd_bipush (v := (-12)) a_L_law_89 (by decide)).trans ((zd_icmp_ne a_L_law_91 rfl).trans (zitc (fun p441 => (zd_iconst (v := 0) a_L_law_161 (by decide)).trans (zd_iret a_L_law_162 rfl (by decide))) (fun p441 => (zd_aload_n a_L_law_94 rfl).trans ((zd_iconst (v := 0) a_L_law_95 (by decide)).trans ((zd_iconst (v := 1) a_L_law_96 (by decide)).trans ((zd_iconst (v := 1) a_L_law_97 (by decide)).trans ((zd_bipush (v := 50) a_L_law_98 (by decide)).trans ((zd_bipush (v := 50) a_L_law_100 (by decide)).trans ((zd_iconst (v := 1) a_L_law_102 (by decide)).trans ((zd_cal (kd := 0) (tg := 75) (T := m_T_good) a_L_law_103 (by decide +kernel) hm_T_good rfl rfl (zmay_objh (zx_at sh_0) rfl) rfl)))))))))))
theorem B_L_law_106 {E : List zS} {G : Nat → Nat → Int32} {x2 s0 : Int32} : zden 130 106 [.ref 2000000, .ref 0, .int x2, .retAddr 0, .retAddr 0, .retAddr 0, .retAddr 0, .retAddr 0, .retAddr 0, .retAddr 0] [.int s0] (zSH ++ E, G) = if ¬ s0 = (-12) then some (some (.int 0), (zSH ++ E, G)) else zaft 130 116 [.ref 2000000, .ref 0, .int x2, .retAddr 0, .retAddr 0, .retAddr 0, .retAddr 0, .retAddr 0, .retAddr 0, .retAddr 0] [] (zSH ++ E, G) (zden 86 0 [.ref 0, .int 0] [] (zSH ++ E, G)) :=
  (zd_bipush (v := (-12)) a_L_law_106 (by decide)).trans ((zd_icmp_ne a_L_law_108 rfl).trans (zitc (fun p442 => (zd_iconst (v := 0) a_L_law_161 (by decide)).trans (zd_iret a_L_law_162 rfl (by decide))) (fun p442 => (zd_aload_n a_L_law_111 rfl).trans ((zd_iconst (v := 0) a_L_law_112 (by decide)).trans ((zd_cal (kd := 0) (tg := 86) (T := m_T_enter) a_L_law_113 (by decide +kernel) hm_T_enter rfl rfl (zmay_objh (zx_at sh_0) rfl) rfl))))))
theorem B_L_law_116 {E : List zS} {G : Nat → Nat → Int32} {x2 s0 : Int32} : zden 130 116 [.ref 2000000, .ref 0, .int x2, .retAddr 0, .retAddr 0, .retAddr 0, .retAddr 0, .retAddr 0, .retAddr 0, .retAddr 0] [.int s0] (zSH ++ E, G) = if ¬ s0 = (-11) then some (some (.int 0), (zSH ++ E, G)) else zaft 130 127 [.ref 2000000, .ref 0, .int x2, .retAddr 0, .retAddr 0, .retAddr 0, .retAddr 0, .retAddr 0, .retAddr 0, .retAddr 0] [] (zSH ++ E, G) (zden 84 0 [.ref 0, .int 5, .int 0] [] (zSH ++ E, G)) :=
  (zd_bipush (v := (-11)) a_L_law_116 (by decide)).trans ((zd_icmp_ne a_L_law_118 rfl).trans (zitc (fun p443 => (zd_iconst (v := 0) a_L_law_161 (by decide)).trans (zd_iret a_L_law_162 rfl (by decide))) (fun p443 => (zd_aload_n a_L_law_121 rfl).trans ((zd_iconst (v := 5) a_L_law_122 (by decide)).trans ((zd_iconst (v := 0) a_L_law_123 (by decide)).trans ((zd_cal (kd := 0) (tg := 84) (T := m_T_favour) a_L_law_124 (by decide +kernel) hm_T_favour rfl rfl (zmay_objh (zx_at sh_0) rfl) rfl)))))))
theorem B_L_law_127 {E : List zS} {G : Nat → Nat → Int32} {rv : Nat → Int32 → Int32 → Int32} {x2 s0 : Int32} (hP : RDs G rv) : zden 130 127 [.ref 2000000, .ref 0, .int x2, .retAddr 0, .retAddr 0, .retAddr 0, .retAddr 0, .retAddr 0, .retAddr 0, .retAddr 0] [.int s0] (zSH ++ E, G) = if ¬ s0 = (-11) then some (some (.int 0), (zSH ++ E, G)) else if ¬ (rv 98 14 0) = (-12) then some (some (.int 0), (zSH ++ E, G)) else zaft 130 147 [.ref 2000000, .ref 0, .int x2, .retAddr 0, .retAddr 0, .retAddr 0, .retAddr 0, .retAddr 0, .retAddr 0, .retAddr 0] [] (zSH ++ E, G) (zden 99 0 [.ref 0] [] (zSH ++ E, G)) :=
  (zd_bipush (v := (-11)) a_L_law_127 (by decide)).trans ((zd_icmp_ne a_L_law_129 rfl).trans (zitc (fun p444 => (zd_iconst (v := 0) a_L_law_161 (by decide)).trans (zd_iret a_L_law_162 rfl (by decide))) (fun p444 => (zd_aload_n a_L_law_132 rfl).trans ((zd_bipush (v := 14) a_L_law_133 (by decide)).trans ((zd_cal (kd := 0) (tg := 98) (T := m_T_account) a_L_law_135 (by decide +kernel) hm_T_account rfl rfl (zmay_objh (zx_at sh_0) rfl) rfl).trans (((congrArg (zaft 130 138 [.ref 2000000, .ref 0, .int x2, .retAddr 0, .retAddr 0, .retAddr 0, .retAddr 0, .retAddr 0, .retAddr 0, .retAddr 0] [] (zSH ++ E, G)) (r98 hP sr_rf)).trans zaft_same).trans ((zd_bipush (v := (-12)) a_L_law_138 (by decide)).trans ((zd_icmp_ne a_L_law_140 rfl).trans (zitc (fun p445 => (zd_iconst (v := 0) a_L_law_161 (by decide)).trans (zd_iret a_L_law_162 rfl (by decide))) (fun p445 => (zd_aload_n a_L_law_143 rfl).trans ((zd_cal (kd := 0) (tg := 99) (T := m_T_isBalanced) a_L_law_144 (by decide +kernel) hm_T_isBalanced rfl rfl (zmay_objh (zx_at sh_0) rfl) rfl))))))))))))
theorem B_L_law_147 {E : List zS} {G : Nat → Nat → Int32} {x2 s0 : Int32} : zden 130 147 [.ref 2000000, .ref 0, .int x2, .retAddr 0, .retAddr 0, .retAddr 0, .retAddr 0, .retAddr 0, .retAddr 0, .retAddr 0] [.int s0] (zSH ++ E, G) = if ¬ s0 = 1 then some (some (.int 0), (zSH ++ E, G)) else zaft 130 156 [.ref 2000000, .ref 0, .int x2, .retAddr 0, .retAddr 0, .retAddr 0, .retAddr 0, .retAddr 0, .retAddr 0, .retAddr 0] [] (zSH ++ E, G) (zden 91 0 [.ref 0, .int 0] [] (zSH ++ E, G)) :=
  (zd_iconst (v := 1) a_L_law_147 (by decide)).trans ((zd_icmp_ne a_L_law_148 rfl).trans (zitc (fun p446 => (zd_iconst (v := 0) a_L_law_161 (by decide)).trans (zd_iret a_L_law_162 rfl (by decide))) (fun p446 => (zd_aload_n a_L_law_151 rfl).trans ((zd_iconst (v := 0) a_L_law_152 (by decide)).trans ((zd_cal (kd := 0) (tg := 91) (T := m_T_ranked) a_L_law_153 (by decide +kernel) hm_T_ranked rfl rfl (zmay_objh (zx_at sh_0) rfl) rfl))))))
theorem B_L_law_156 {E : List zS} {G : Nat → Nat → Int32} {x2 s0 : Int32} : zden 130 156 [.ref 2000000, .ref 0, .int x2, .retAddr 0, .retAddr 0, .retAddr 0, .retAddr 0, .retAddr 0, .retAddr 0, .retAddr 0] [.int s0] (zSH ++ E, G) = if s0 = (-11) then zaft 130 167 [.ref 2000000, .ref 0, .int x2, .retAddr 0, .retAddr 0, .retAddr 0, .retAddr 0, .retAddr 0, .retAddr 0, .retAddr 0] [] (zSH ++ E, G) (zden 124 0 [.ref 0, .retAddr 0] [] (zSH ++ E, G)) else some (some (.int 0), (zSH ++ E, G)) :=
  (zd_bipush (v := (-11)) a_L_law_156 (by decide)).trans ((zd_icmp_eq a_L_law_158 rfl).trans (zitc (fun p447 => (zd_aload_n a_L_law_163 rfl).trans ((zd_cal (kd := 1) (tg := 124) (T := m_L_stock) a_L_law_164 (by decide +kernel) hm_L_stock rfl rfl rfl rfl))) (fun p447 => (zd_iconst (v := 0) a_L_law_161 (by decide)).trans (zd_iret a_L_law_162 rfl (by decide)))))
theorem B_L_law_167 {E : List zS} {G : Nat → Nat → Int32} {x2 s0 : Int32} : zden 130 167 [.ref 2000000, .ref 0, .int x2, .retAddr 0, .retAddr 0, .retAddr 0, .retAddr 0, .retAddr 0, .retAddr 0, .retAddr 0] [.int s0] (zSH ++ E, G) = zden 130 171 [.ref 2000000, .ref 0, .int x2, .int s0, .int 0, .retAddr 0, .retAddr 0, .retAddr 0, .retAddr 0, .retAddr 0] [] (zSH ++ E, G) :=
  (zd_istore_n a_L_law_167 rfl rfl rfl).trans ((zd_iconst (v := 0) a_L_law_168 (by decide)).trans ((zd_istore a_L_law_169 rfl rfl rfl)))
theorem B_L_law_171 {E : List zS} {G : Nat → Nat → Int32} {x2 x3 x4 : Int32} {v5 v6 v7 v8 v9 : Value} : zden 130 171 [.ref 2000000, .ref 0, .int x2, .int x3, .int x4, v5, v6, v7, v8, v9] [] (zSH ++ E, G) = if 26 ≤ x4 then if x3 ≤ 0 then some (some (.int 0), (zSH ++ E, G)) else some (some (.int 1), (zSH ++ E, G)) else zaft 130 183 [.ref 2000000, .ref 0, .int x2, .int x3, .int x4, v5, v6, v7, v8, v9] [] (zSH ++ E, G) (zden 119 0 [.ref 2000000, .int x2] [] (zSH ++ E, G)) :=
  (zd_iload a_L_law_171 rfl).trans ((zd_bipush (v := 26) a_L_law_173 (by decide)).trans ((zd_icmp_ge a_L_law_175 rfl).trans (zitc (fun p448 => (zd_iload_n a_L_law_400 rfl).trans ((zd_if_le a_L_law_401 rfl).trans (zitc (fun p449 => (zd_iconst (v := 0) a_L_law_408 (by decide)).trans (zd_iret a_L_law_409 rfl (by decide))) (fun p449 => (zd_iconst (v := 1) a_L_law_404 (by decide)).trans ((zd_goto a_L_law_405 rfl).trans (zd_iret a_L_law_409 rfl (by decide))))))) (fun p448 => (zd_aload_n a_L_law_178 rfl).trans ((zd_iload_n a_L_law_179 rfl).trans ((zd_cal (kd := 1) (tg := 119) (T := m_L_cell) a_L_law_180 (by decide +kernel) hm_L_cell rfl rfl rfl rfl)))))))
theorem B_L_law_183 {E : List zS} {G : Nat → Nat → Int32} {x2 x3 x4 s0 : Int32} {v5 v6 v7 v8 v9 : Value} (hok : eOK E) (hl189 : List.all [.ref 2000000, .ref 0, .int x2, .int x3, .int x4, .int (s0 &&& 255), v6, v7, v8, v9] (zne (90 + E.length)) = true) (hs189 : List.all [] (zne (90 + E.length)) = true) : zden 130 183 [.ref 2000000, .ref 0, .int x2, .int x3, .int x4, v5, v6, v7, v8, v9] [.int s0] (zSH ++ E, G) = zden 130 192 [.ref 2000000, .ref 0, .int x2, .int x3, .int x4, .int (s0 &&& 255), v6, v7, v8, v9] (.ref (90 + E.length) :: []) (zSH ++ (E ++ [.inl (8, [none])]), zrow G (90 + E.length) (fun _ => 0)) :=
  (zd_sipush (v := 255) a_L_law_183 (by decide)).trans ((zd_num (st2 := [.int (s0 &&& 255)]) a_L_law_186 rfl rfl rfl rfl).trans ((zd_istore a_L_law_187 rfl rfl rfl).trans ((zd_newb a_L_law_189 (by decide +kernel) hok hl189 hs189))))
theorem B_L_law_192 {E : List zS} {G : Nat → Nat → Int32} {b : Nat} {x2 x3 x4 x5 : Int32} {v6 v7 v8 v9 : Value} (hb : (zSH ++ E)[b]? = some (.inl (8, [none]))) (hb9 : 90 ≤ b ∧ b < 1000000) : zden 130 192 [.ref 2000000, .ref 0, .int x2, .int x3, .int x4, .int x5, v6, v7, v8, v9] [.ref b] (zSH ++ E, G) = zaft 130 200 [.ref 2000000, .ref 0, .int x2, .int x3, .int x4, .int x5, v6, v7, v8, v9] [.ref b, .ref b] (zSH ++ E, G) (zden 119 0 [.ref 2000000, .int (x2 + 1)] [] (zSH ++ E, G)) :=
  (zd_num (st2 := [.ref b, .ref b]) a_L_law_192 rfl rfl rfl rfl).trans ((zd_aload_n a_L_law_193 rfl).trans ((zd_iload_n a_L_law_194 rfl).trans ((zd_iconst (v := 1) a_L_law_195 (by decide)).trans ((zd_num (st2 := [.int (x2 + 1), .ref 2000000, .ref b, .ref b]) a_L_law_196 rfl rfl rfl rfl).trans ((zd_cal (kd := 1) (tg := 119) (T := m_L_cell) a_L_law_197 (by decide +kernel) hm_L_cell rfl rfl rfl rfl))))))
theorem B_L_law_200 {E : List zS} {G : Nat → Nat → Int32} {b : Nat} {x2 x3 x4 x5 s0 : Int32} {v6 v7 v8 v9 : Value} (hb : (zSH ++ E)[b]? = some (.inl (8, [none]))) (hb9 : 90 ≤ b ∧ b < 1000000) : zden 130 200 [.ref 2000000, .ref 0, .int x2, .int x3, .int x4, .int x5, v6, v7, v8, v9] [.int s0, .ref b, .ref b] (zSH ++ E, G) = zaft 130 203 [.ref 2000000, .ref 0, .int x2, .int x3, .int x4, .int x5, v6, v7, v8, v9] [.ref b] (zSH ++ E, G) (zden 105 0 [.ref b, .int s0] [] (zSH ++ E, G)) :=
  (zd_cal (kd := 2) (tg := 105) (T := m_B_new) a_L_law_200 (by decide +kernel) hm_B_new rfl rfl rfl rfl)
theorem B_L_law_203 {E : List zS} {G : Nat → Nat → Int32} {b : Nat} {rv : Nat → Int32 → Int32 → Int32} {x2 x3 x4 x5 : Int32} {v6 v7 v8 v9 : Value} (hb : (zSH ++ E)[b]? = some (.inl (8, [none]))) (hb9 : 90 ≤ b ∧ b < 1000000) (hP : RDs G rv) : zden 130 203 [.ref 2000000, .ref 0, .int x2, .int x3, .int x4, .int x5, v6, v7, v8, v9] [.ref b] (zSH ++ E, G) = zaft 130 220 [.ref 2000000, .ref 0, .int (x2 + 2), .int x3, .int x4, .int x5, .ref b, .int (rv 98 13 0), v8, v9] [] (zSH ++ E, G) (zden 123 0 [.ref 0, .retAddr 0, .retAddr 0, .retAddr 0, .retAddr 0, .retAddr 0] [] (zSH ++ E, G)) :=
  (zd_astore a_L_law_203 rfl rfl rfl).trans ((zd_iinc (v := 2) a_L_law_205 rfl (by decide) rfl rfl rfl).trans ((zd_aload_n a_L_law_208 rfl).trans ((zd_bipush (v := 13) a_L_law_209 (by decide)).trans ((zd_cal (kd := 0) (tg := 98) (T := m_T_account) a_L_law_211 (by decide +kernel) hm_T_account rfl rfl (zmay_objh (zx_at sh_0) rfl) rfl).trans (((congrArg (zaft 130 214 [.ref 2000000, .ref 0, .int (x2 + 2), .int x3, .int x4, .int x5, .ref b, v7, v8, v9] [] (zSH ++ E, G)) (r98 hP sr_rf)).trans zaft_same).trans ((zd_istore a_L_law_214 rfl rfl rfl).trans ((zd_aload_n a_L_law_216 rfl).trans ((zd_cal (kd := 1) (tg := 123) (T := m_L_told) a_L_law_217 (by decide +kernel) hm_L_told rfl rfl rfl rfl)))))))))
theorem B_L_law_220 {E : List zS} {G : Nat → Nat → Int32} {b w : Nat} {x2 x3 x4 x5 x7 : Int32} {v8 v9 : Value} (hb : (zSH ++ E)[b]? = some (.inl (8, [none]))) (hb9 : 90 ≤ b ∧ b < 1000000) (hw : (zSH ++ E)[w]? = some (.inr (.int, 420, []))) (hw9 : 90 ≤ w ∧ w < 1000000) : zden 130 220 [.ref 2000000, .ref 0, .int x2, .int x3, .int x4, .int x5, .ref b, .int x7, v8, v9] [.ref w] (zSH ++ E, G) = zaft 130 230 [.ref 2000000, .ref 0, .int x2, .int x3, .int x4, .int x5, .ref b, .int x7, .ref w, v9] [] (zSH ++ E, G) (zden 120 0 [.ref 0, .int x5, .ref b, .retAddr 0, .retAddr 0, .retAddr 0] [] (zSH ++ E, G)) :=
  (zd_astore a_L_law_220 rfl rfl rfl).trans ((zd_aload_n a_L_law_222 rfl).trans ((zd_iload a_L_law_223 rfl).trans ((zd_aload a_L_law_225 rfl).trans ((zd_cal (kd := 1) (tg := 120) (T := m_L_acts) a_L_law_227 (by decide +kernel) hm_L_acts rfl rfl rfl rfl)))))
theorem B_L_law_230 {E : List zS} {G : Nat → Nat → Int32} {b w : Nat} {x2 x3 x4 x5 x7 s0 : Int32} {v9 : Value} (hb : (zSH ++ E)[b]? = some (.inl (8, [none]))) (hb9 : 90 ≤ b ∧ b < 1000000) (hw : (zSH ++ E)[w]? = some (.inr (.int, 420, []))) (hw9 : 90 ≤ w ∧ w < 1000000) : zden 130 230 [.ref 2000000, .ref 0, .int x2, .int x3, .int x4, .int x5, .ref b, .int x7, .ref w, v9] [.int s0] (zSH ++ E, G) = if 0 ≤ s0 then zden 130 251 [.ref 2000000, .ref 0, .int x2, .int x3, .int x4, .int x5, .ref b, .int x7, .ref w, .int s0] [] (zSH ++ E, G) else zaft 130 243 [.ref 2000000, .ref 0, .int x2, .int x3, .int x4, .int x5, .ref b, .int x7, .ref w, .int s0] [.ref w] (zSH ++ E, G) (zden 123 0 [.ref 0, .retAddr 0, .retAddr 0, .retAddr 0, .retAddr 0, .retAddr 0] [] (zSH ++ E, G)) :=
  (zd_istore a_L_law_230 rfl rfl rfl).trans ((zd_iload a_L_law_232 rfl).trans ((zd_if_ge a_L_law_234 rfl).trans (zitc (fun p450 => rfl) (fun p450 => (zd_aload a_L_law_237 rfl).trans ((zd_aload_n a_L_law_239 rfl).trans ((zd_cal (kd := 1) (tg := 123) (T := m_L_told) a_L_law_240 (by decide +kernel) hm_L_told rfl rfl rfl rfl)))))))
theorem B_L_law_243 {E : List zS} {G : Nat → Nat → Int32} {b t w : Nat} {x2 x3 x4 x5 x7 x9 : Int32} (hb : (zSH ++ E)[b]? = some (.inl (8, [none]))) (hb9 : 90 ≤ b ∧ b < 1000000) (ht : (zSH ++ E)[t]? = some (.inr (.int, 420, []))) (ht9 : 90 ≤ t ∧ t < 1000000) (hw : (zSH ++ E)[w]? = some (.inr (.int, 420, []))) (hw9 : 90 ≤ w ∧ w < 1000000) (z243_0 : zeqr (zSH ++ E, G) w t = true) : zden 130 243 [.ref 2000000, .ref 0, .int x2, .int x3, .int x4, .int x5, .ref b, .int x7, .ref w, .int x9] [.ref t, .ref w] (zSH ++ E, G) = zden 130 251 [.ref 2000000, .ref 0, .int x2, .int x3, .int x4, .int x5, .ref b, .int x7, .ref w, .int x9] [] (zSH ++ E, G) :=
  (zd_eqr a_L_law_243 (by decide +kernel) (by decide +kernel) z243_0 rfl).trans ((zd_if_ne a_L_law_246 rfl).trans ((if_pos (by decide))))
theorem B_L_law_251 {E : List zS} {G : Nat → Nat → Int32} {b w : Nat} {x2 x3 x4 x5 x7 x9 : Int32} (hb : (zSH ++ E)[b]? = some (.inl (8, [none]))) (hb9 : 90 ≤ b ∧ b < 1000000) (hw : (zSH ++ E)[w]? = some (.inr (.int, 420, []))) (hw9 : 90 ≤ w ∧ w < 1000000) : zden 130 251 [.ref 2000000, .ref 0, .int x2, .int x3, .int x4, .int x5, .ref b, .int x7, .ref w, .int x9] [] (zSH ++ E, G) = if 0 ≤ x9 then zden 130 270 [.ref 2000000, .ref 0, .int x2, .int x3, .int x4, .int x5, .ref b, .int x7, .ref w, .int x9] [.int (if (x7 + 1) < 8 then x7 + 1 else 8)] (zSH ++ E, G) else zden 130 270 [.ref 2000000, .ref 0, .int x2, .int x3, .int x4, .int x5, .ref b, .int x7, .ref w, .int x9] [.int x7] (zSH ++ E, G) :=
  (zd_iload a_L_law_251 rfl).trans ((zd_if_ge a_L_law_253 rfl).trans (zitc (fun p451 => (zd_bipush (v := 8) a_L_law_261 (by decide)).trans ((zd_iload a_L_law_263 rfl).trans ((zd_iconst (v := 1) a_L_law_265 (by decide)).trans ((zd_num (st2 := [.int (x7 + 1), .int 8]) a_L_law_266 rfl rfl rfl rfl).trans ((zd_min a_L_law_267 (by decide +kernel) (by decide +kernel) rfl)))))) (fun p451 => (zd_iload a_L_law_256 rfl).trans ((zd_goto a_L_law_258 rfl)))))
theorem B_L_law_270 {E : List zS} {G : Nat → Nat → Int32} {b w : Nat} {x2 x3 x4 x5 x7 x9 s0 : Int32} (hb : (zSH ++ E)[b]? = some (.inl (8, [none]))) (hb9 : 90 ≤ b ∧ b < 1000000) (hw : (zSH ++ E)[w]? = some (.inr (.int, 420, []))) (hw9 : 90 ≤ w ∧ w < 1000000) : zden 130 270 [.ref 2000000, .ref 0, .int x2, .int x3, .int x4, .int x5, .ref b, .int x7, .ref w, .int x9] [.int s0] (zSH ++ E, G) = if x9 < 0 then zden 130 312 [.ref 2000000, .ref 0, .int x2, .int x3, .int x4, .int x5, .ref b, .int s0, .ref w, .int x9] [] (zSH ++ E, G) else zaft 130 283 [.ref 2000000, .ref 0, .int x2, .int x3, .int x4, .int x5, .ref b, .int s0, .ref w, .int x9] [] (zSH ++ E, G) (zden 106 0 [.ref b, .int 4] [] (zSH ++ E, G)) :=
  (zd_istore a_L_law_270 rfl rfl rfl).trans ((zd_iload a_L_law_272 rfl).trans ((zd_if_lt a_L_law_274 rfl).trans (zitc (fun p452 => rfl) (fun p452 => (zd_aload a_L_law_277 rfl).trans ((zd_iconst (v := 4) a_L_law_279 (by decide)).trans ((zd_cal (kd := 0) (tg := 106) (T := m_B_next) a_L_law_280 (by decide +kernel) hm_B_next rfl rfl (zmay_objh hb rfl) rfl)))))))
theorem B_L_law_283 {E : List zS} {G : Nat → Nat → Int32} {b w : Nat} {x2 x3 x4 x5 x7 x9 s0 : Int32} (hb : (zSH ++ E)[b]? = some (.inl (8, [none]))) (hb9 : 90 ≤ b ∧ b < 1000000) (hw : (zSH ++ E)[w]? = some (.inr (.int, 420, []))) (hw9 : 90 ≤ w ∧ w < 1000000) : zden 130 283 [.ref 2000000, .ref 0, .int x2, .int x3, .int x4, .int x5, .ref b, .int x7, .ref w, .int x9] [.int s0] (zSH ++ E, G) = if ¬ s0 = 0 then zden 130 312 [.ref 2000000, .ref 0, .int x2, .int x3, .int x4, .int x5, .ref b, .int x7, .ref w, .int x9] [] (zSH ++ E, G) else zaft 130 293 [.ref 2000000, .ref 0, .int x2, .int x3, .int x4, .int x5, .ref b, .int (x7 + (-1)), .ref w, .int x9] [] (zSH ++ E, G) (zden 102 0 [.ref 0] [] (zSH ++ E, G)) :=
  (zd_if_ne a_L_law_283 rfl).trans (zitc (fun p453 => rfl) (fun p453 => (zd_iinc (v := (-1)) a_L_law_286 rfl (by decide) rfl rfl rfl).trans ((zd_aload_n a_L_law_289 rfl).trans ((zd_cal (kd := 0) (tg := 102) (T := m_T_undo) a_L_law_290 (by decide +kernel) hm_T_undo rfl rfl (zmay_objh (zx_at sh_0) rfl) rfl)))))
theorem B_L_law_293 {E : List zS} {G : Nat → Nat → Int32} {b w : Nat} {x2 x3 x4 x5 x7 x9 s0 : Int32} (hb : (zSH ++ E)[b]? = some (.inl (8, [none]))) (hb9 : 90 ≤ b ∧ b < 1000000) (hw : (zSH ++ E)[w]? = some (.inr (.int, 420, []))) (hw9 : 90 ≤ w ∧ w < 1000000) : zden 130 293 [.ref 2000000, .ref 0, .int x2, .int x3, .int x4, .int x5, .ref b, .int x7, .ref w, .int x9] [.int s0] (zSH ++ E, G) = if ¬ s0 = x7 then some (some (.int 0), (zSH ++ E, G)) else zaft 130 304 [.ref 2000000, .ref 0, .int x2, .int x3, .int x4, .int x5, .ref b, .int x7, .ref w, .int x9] [.ref w] (zSH ++ E, G) (zden 123 0 [.ref 0, .retAddr 0, .retAddr 0, .retAddr 0, .retAddr 0, .retAddr 0] [] (zSH ++ E, G)) :=
  (zd_iload a_L_law_293 rfl).trans ((zd_icmp_ne a_L_law_295 rfl).trans (zitc (fun p454 => (zd_iconst (v := 0) a_L_law_310 (by decide)).trans (zd_iret a_L_law_311 rfl (by decide))) (fun p454 => (zd_aload a_L_law_298 rfl).trans ((zd_aload_n a_L_law_300 rfl).trans ((zd_cal (kd := 1) (tg := 123) (T := m_L_told) a_L_law_301 (by decide +kernel) hm_L_told rfl rfl rfl rfl))))))
theorem B_L_law_304 {E : List zS} {G : Nat → Nat → Int32} {b t w : Nat} {x2 x3 x4 x5 x7 x9 : Int32} (hb : (zSH ++ E)[b]? = some (.inl (8, [none]))) (hb9 : 90 ≤ b ∧ b < 1000000) (ht : (zSH ++ E)[t]? = some (.inr (.int, 420, []))) (ht9 : 90 ≤ t ∧ t < 1000000) (hw : (zSH ++ E)[w]? = some (.inr (.int, 420, []))) (hw9 : 90 ≤ w ∧ w < 1000000) (z304_0 : zeqr (zSH ++ E, G) w t = true) : zden 130 304 [.ref 2000000, .ref 0, .int x2, .int x3, .int x4, .int x5, .ref b, .int x7, .ref w, .int x9] [.ref t, .ref w] (zSH ++ E, G) = zden 130 312 [.ref 2000000, .ref 0, .int x2, .int x3, .int x4, .int x5, .ref b, .int x7, .ref w, .int x9] [] (zSH ++ E, G) :=
  (zd_eqr a_L_law_304 (by decide +kernel) (by decide +kernel) z304_0 rfl).trans ((zd_if_ne a_L_law_307 rfl).trans ((if_pos (by decide))))
theorem B_L_law_312 {E : List zS} {G : Nat → Nat → Int32} {b w : Nat} {rv : Nat → Int32 → Int32 → Int32} {x2 x3 x4 x5 x7 x9 : Int32} (hb : (zSH ++ E)[b]? = some (.inl (8, [none]))) (hb9 : 90 ≤ b ∧ b < 1000000) (hw : (zSH ++ E)[w]? = some (.inr (.int, 420, []))) (hw9 : 90 ≤ w ∧ w < 1000000) (hP : RDs G rv) : zden 130 312 [.ref 2000000, .ref 0, .int x2, .int x3, .int x4, .int x5, .ref b, .int x7, .ref w, .int x9] [] (zSH ++ E, G) = if ¬ (rv 98 13 0) = x7 then some (some (.int 0), (zSH ++ E, G)) else if ¬ (rv 98 12 0) = 0 then some (some (.int 0), (zSH ++ E, G)) else zaft 130 336 [.ref 2000000, .ref 0, .int x2, .int x3, .int x4, .int x5, .ref b, .int x7, .ref w, .int x9] [] (zSH ++ E, G) (zden 125 0 [.ref 0, .retAddr 0, .retAddr 0, .retAddr 0, .retAddr 0] [] (zSH ++ E, G)) :=
  (zd_aload_n a_L_law_312 rfl).trans ((zd_bipush (v := 13) a_L_law_313 (by decide)).trans ((zd_cal (kd := 0) (tg := 98) (T := m_T_account) a_L_law_315 (by decide +kernel) hm_T_account rfl rfl (zmay_objh (zx_at sh_0) rfl) rfl).trans (((congrArg (zaft 130 318 [.ref 2000000, .ref 0, .int x2, .int x3, .int x4, .int x5, .ref b, .int x7, .ref w, .int x9] [] (zSH ++ E, G)) (r98 hP sr_rf)).trans zaft_same).trans ((zd_iload a_L_law_318 rfl).trans ((zd_icmp_ne a_L_law_320 rfl).trans (zitc (fun p455 => (zd_iconst (v := 0) a_L_law_346 (by decide)).trans (zd_iret a_L_law_347 rfl (by decide))) (fun p455 => (zd_aload_n a_L_law_323 rfl).trans ((zd_bipush (v := 12) a_L_law_324 (by decide)).trans ((zd_cal (kd := 0) (tg := 98) (T := m_T_account) a_L_law_326 (by decide +kernel) hm_T_account rfl rfl (zmay_objh (zx_at sh_0) rfl) rfl).trans (((congrArg (zaft 130 329 [.ref 2000000, .ref 0, .int x2, .int x3, .int x4, .int x5, .ref b, .int x7, .ref w, .int x9] [] (zSH ++ E, G)) (r98 hP sr_rf)).trans zaft_same).trans ((zd_if_ne a_L_law_329 rfl).trans (zitc (fun p456 => (zd_iconst (v := 0) a_L_law_346 (by decide)).trans (zd_iret a_L_law_347 rfl (by decide))) (fun p456 => (zd_aload_n a_L_law_332 rfl).trans ((zd_cal (kd := 1) (tg := 125) (T := m_L_headings) a_L_law_333 (by decide +kernel) hm_L_headings rfl rfl rfl rfl)))))))))))))))
theorem B_L_law_336 {E : List zS} {G : Nat → Nat → Int32} {b w : Nat} {x2 x3 x4 x5 x7 x9 s0 : Int32} (hb : (zSH ++ E)[b]? = some (.inl (8, [none]))) (hb9 : 90 ≤ b ∧ b < 1000000) (hw : (zSH ++ E)[w]? = some (.inr (.int, 420, []))) (hw9 : 90 ≤ w ∧ w < 1000000) : zden 130 336 [.ref 2000000, .ref 0, .int x2, .int x3, .int x4, .int x5, .ref b, .int x7, .ref w, .int x9] [.int s0] (zSH ++ E, G) = if s0 = 0 then some (some (.int 0), (zSH ++ E, G)) else zaft 130 343 [.ref 2000000, .ref 0, .int x2, .int x3, .int x4, .int x5, .ref b, .int x7, .ref w, .int x9] [] (zSH ++ E, G) (zden 126 0 [.ref 0, .retAddr 0, .retAddr 0, .retAddr 0, .retAddr 0, .retAddr 0, .retAddr 0, .retAddr 0, .retAddr 0, .retAddr 0, .retAddr 0, .retAddr 0, .retAddr 0, .retAddr 0, .retAddr 0, .retAddr 0] [] (zSH ++ E, G)) :=
  (zd_if_eq a_L_law_336 rfl).trans (zitc (fun p457 => (zd_iconst (v := 0) a_L_law_346 (by decide)).trans (zd_iret a_L_law_347 rfl (by decide))) (fun p457 => (zd_aload_n a_L_law_339 rfl).trans ((zd_cal (kd := 1) (tg := 126) (T := m_L_goods) a_L_law_340 (by decide +kernel) hm_L_goods rfl rfl rfl rfl))))
theorem B_L_law_343 {E : List zS} {G : Nat → Nat → Int32} {b w : Nat} {x2 x3 x4 x5 x7 x9 s0 : Int32} (hb : (zSH ++ E)[b]? = some (.inl (8, [none]))) (hb9 : 90 ≤ b ∧ b < 1000000) (hw : (zSH ++ E)[w]? = some (.inr (.int, 420, []))) (hw9 : 90 ≤ w ∧ w < 1000000) : zden 130 343 [.ref 2000000, .ref 0, .int x2, .int x3, .int x4, .int x5, .ref b, .int x7, .ref w, .int x9] [.int s0] (zSH ++ E, G) = if ¬ s0 = 0 then if ¬ (x4 - x4 / 4 * 4) = 3 then zden 130 394 [.ref 2000000, .ref 0, .int x2, .int x3, .int x4, .int x5, .ref b, .int x7, .ref w, .int x9] [] (zSH ++ E, G) else zaft 130 360 [.ref 2000000, .ref 0, .int x2, .int x3, .int x4, .int x5, .ref b, .int x7, .ref w, .int x9] [] (zSH ++ E, G) (zden 123 0 [.ref 0, .retAddr 0, .retAddr 0, .retAddr 0, .retAddr 0, .retAddr 0] [] (zSH ++ E, G)) else some (some (.int 0), (zSH ++ E, G)) :=
  (zd_if_ne a_L_law_343 rfl).trans (zitc (fun p458 => (zd_iload a_L_law_348 rfl).trans ((zd_iconst (v := 4) a_L_law_350 (by decide)).trans ((zd_irem a_L_law_351 (by decide)).trans ((zd_iconst (v := 3) a_L_law_352 (by decide)).trans ((zd_icmp_ne a_L_law_353 rfl).trans (zitc (fun p459 => rfl) (fun p459 => (zd_aload_n a_L_law_356 rfl).trans ((zd_cal (kd := 1) (tg := 123) (T := m_L_told) a_L_law_357 (by decide +kernel) hm_L_told rfl rfl rfl rfl))))))))) (fun p458 => (zd_iconst (v := 0) a_L_law_346 (by decide)).trans (zd_iret a_L_law_347 rfl (by decide))))
theorem B_L_law_360 {E : List zS} {G : Nat → Nat → Int32} {b q w : Nat} {x2 x3 x4 x5 x7 x9 : Int32} (hb : (zSH ++ E)[b]? = some (.inl (8, [none]))) (hb9 : 90 ≤ b ∧ b < 1000000) (hq : (zSH ++ E)[q]? = some (.inr (.int, 420, []))) (hq9 : 90 ≤ q ∧ q < 1000000) (hw : (zSH ++ E)[w]? = some (.inr (.int, 420, []))) (hw9 : 90 ≤ w ∧ w < 1000000) : zden 130 360 [.ref 2000000, .ref 0, .int x2, .int x3, .int x4, .int x5, .ref b, .int x7, .ref w, .int x9] [.ref q] (zSH ++ E, G) = zaft 130 368 [.ref 2000000, .ref 0, .int x2, .int x3, .int x4, .int x5, .ref b, .int x7, .ref q, .int x9] [] (zSH ++ E, G) (zden 129 0 [.ref 0, .ref b, .retAddr 0, .retAddr 0, .retAddr 0, .retAddr 0, .retAddr 0, .retAddr 0, .retAddr 0, .retAddr 0] [] (zSH ++ E, G)) :=
  (zd_astore a_L_law_360 rfl rfl rfl).trans ((zd_aload_n a_L_law_362 rfl).trans ((zd_aload a_L_law_363 rfl).trans ((zd_cal (kd := 1) (tg := 129) (T := m_L_foretold) a_L_law_365 (by decide +kernel) hm_L_foretold rfl rfl rfl rfl))))
theorem B_L_law_368 {E : List zS} {G : Nat → Nat → Int32} {b q : Nat} {x2 x3 x4 x5 x7 x9 s0 : Int32} (hb : (zSH ++ E)[b]? = some (.inl (8, [none]))) (hb9 : 90 ≤ b ∧ b < 1000000) (hq : (zSH ++ E)[q]? = some (.inr (.int, 420, []))) (hq9 : 90 ≤ q ∧ q < 1000000) : zden 130 368 [.ref 2000000, .ref 0, .int x2, .int x3, .int x4, .int x5, .ref b, .int x7, .ref q, .int x9] [.int s0] (zSH ++ E, G) = if s0 = 0 then some (some (.int 0), (zSH ++ E, G)) else zaft 130 377 [.ref 2000000, .ref 0, .int x2, .int x3, .int x4, .int x5, .ref b, .int x7, .ref q, .int x9] [.ref q] (zSH ++ E, G) (zden 123 0 [.ref 0, .retAddr 0, .retAddr 0, .retAddr 0, .retAddr 0, .retAddr 0] [] (zSH ++ E, G)) :=
  (zd_if_eq a_L_law_368 rfl).trans (zitc (fun p460 => (zd_iconst (v := 0) a_L_law_392 (by decide)).trans (zd_iret a_L_law_393 rfl (by decide))) (fun p460 => (zd_aload a_L_law_371 rfl).trans ((zd_aload_n a_L_law_373 rfl).trans ((zd_cal (kd := 1) (tg := 123) (T := m_L_told) a_L_law_374 (by decide +kernel) hm_L_told rfl rfl rfl rfl)))))
theorem B_L_law_377 {E : List zS} {G : Nat → Nat → Int32} {b q t : Nat} {rv : Nat → Int32 → Int32 → Int32} {x2 x3 x4 x5 x7 x9 : Int32} (hb : (zSH ++ E)[b]? = some (.inl (8, [none]))) (hb9 : 90 ≤ b ∧ b < 1000000) (hq : (zSH ++ E)[q]? = some (.inr (.int, 420, []))) (hq9 : 90 ≤ q ∧ q < 1000000) (ht : (zSH ++ E)[t]? = some (.inr (.int, 420, []))) (ht9 : 90 ≤ t ∧ t < 1000000) (hP : RDs G rv) (z377_0 : zeqr (zSH ++ E, G) q t = true) : zden 130 377 [.ref 2000000, .ref 0, .int x2, .int x3, .int x4, .int x5, .ref b, .int x7, .ref q, .int x9] [.ref t, .ref q] (zSH ++ E, G) = if (rv 98 13 0) = 0 then zden 130 394 [.ref 2000000, .ref 0, .int x2, .int x3, .int x4, .int x5, .ref b, .int x7, .ref q, .int x9] [] (zSH ++ E, G) else some (some (.int 0), (zSH ++ E, G)) :=
  (zd_eqr a_L_law_377 (by decide +kernel) (by decide +kernel) z377_0 rfl).trans ((zd_if_eq a_L_law_380 rfl).trans ((if_neg (by decide)).trans ((zd_aload_n a_L_law_383 rfl).trans ((zd_bipush (v := 13) a_L_law_384 (by decide)).trans ((zd_cal (kd := 0) (tg := 98) (T := m_T_account) a_L_law_386 (by decide +kernel) hm_T_account rfl rfl (zmay_objh (zx_at sh_0) rfl) rfl).trans (((congrArg (zaft 130 389 [.ref 2000000, .ref 0, .int x2, .int x3, .int x4, .int x5, .ref b, .int x7, .ref q, .int x9] [] (zSH ++ E, G)) (r98 hP sr_rf)).trans zaft_same).trans ((zd_if_eq a_L_law_389 rfl).trans (zitc (fun p461 => rfl) (fun p461 => (zd_iconst (v := 0) a_L_law_392 (by decide)).trans (zd_iret a_L_law_393 rfl (by decide)))))))))))
theorem B_L_law_394 {E : List zS} {G : Nat → Nat → Int32} {b : Nat} {x2 x3 x4 x5 x7 x9 : Int32} {v8 : Value} (hb : (zSH ++ E)[b]? = some (.inl (8, [none]))) (hb9 : 90 ≤ b ∧ b < 1000000) : zden 130 394 [.ref 2000000, .ref 0, .int x2, .int x3, .int x4, .int x5, .ref b, .int x7, v8, .int x9] [] (zSH ++ E, G) = zden 130 171 [.ref 2000000, .ref 0, .int x2, .int x3, .int (x4 + 1), .int x5, .ref b, .int x7, v8, .int x9] [] (zSH ++ E, G) :=
  (zd_iinc (v := 1) a_L_law_394 rfl (by decide) rfl rfl rfl).trans ((zd_goto a_L_law_397 rfl))
