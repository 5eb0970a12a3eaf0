-- 43: blocks of fits (written by wip/p36/gen43.py)
def ahF (rv : Nat → Int32 → Int32 → Int32) (c : Int32) : Int32 := (if ¬ rv 73 c 0 = 4 then 1000 else 0) + (if ¬ rv 73 c 1 = 3 then 500 else 0) + (c - c / 99 * 99)
theorem r128 {E : List zS} {G X : Nat → Nat → Int32} {rv : Nat → Int32 → Int32 → Int32} {x : Int32} (hP : RDs G rv) (s : sameR G X) : zden 128 0 [.ref 0, .int x] [] (zSH ++ E, X) = some (some (.int (ahF rv x)), (zSH ++ E, X)) := by
  have hP := hP.up s
  unfold ahF
  have t : ∀ s0 : Int32, zden 128 17 [.ref 0, .int x] [.int s0] (zSH ++ E, X) = some (some (.int (s0 + (if ¬ rv 73 x 1 = 3 then 500 else 0) + (x - x / 99 * 99))), (zSH ++ E, X)) := fun s0 => by
    rw [B_L_ahead_17 hP]
    by_cases q : ¬ rv 73 x 1 = 3
    · rw [if_pos q, if_pos q, B_L_ahead_34]
    · rw [if_neg q, if_neg q, B_L_ahead_34]
  rw [B_L_ahead_0 hP]
  by_cases q : ¬ rv 73 x 0 = 4
  · rw [if_pos q, if_pos q, t]
  · rw [if_neg q, if_neg q, t]
theorem hm_L_fits : zms[k_L_fits]? = some m_L_fits := rfl
theorem a_L_fits_0 : zAt 127 0 m_L_fits (.iconst 0) 1 := ⟨hm_L_fits, by decide +kernel⟩
theorem a_L_fits_1 : zAt 127 1 m_L_fits (.istore_n 2) 1 := ⟨hm_L_fits, by decide +kernel⟩
theorem a_L_fits_2 : zAt 127 2 m_L_fits (.iconst 1) 1 := ⟨hm_L_fits, by decide +kernel⟩
theorem a_L_fits_3 : zAt 127 3 m_L_fits (.istore_n 3) 1 := ⟨hm_L_fits, by decide +kernel⟩
theorem a_L_fits_4 : zAt 127 4 m_L_fits (.iload_n 3) 1 := ⟨hm_L_fits, by decide +kernel⟩
theorem a_L_fits_5 : zAt 127 5 m_L_fits (.iconst 4) 1 := ⟨hm_L_fits, by decide +kernel⟩
theorem a_L_fits_6 : zAt 127 6 m_L_fits (.if_icmp .ge 30) 3 := ⟨hm_L_fits, by decide +kernel⟩
theorem a_L_fits_9 : zAt 127 9 m_L_fits (.aload_n 0) 1 := ⟨hm_L_fits, by decide +kernel⟩
theorem a_L_fits_10 : zAt 127 10 m_L_fits (.iload_n 1) 1 := ⟨hm_L_fits, by decide +kernel⟩
theorem a_L_fits_11 : zAt 127 11 m_L_fits (.iload_n 3) 1 := ⟨hm_L_fits, by decide +kernel⟩
theorem a_L_fits_12 : zAt 127 12 m_L_fits (.invokevirtual 91) 3 := ⟨hm_L_fits, by decide +kernel⟩
theorem a_L_fits_15 : zAt 127 15 m_L_fits (.aload_n 0) 1 := ⟨hm_L_fits, by decide +kernel⟩
theorem a_L_fits_16 : zAt 127 16 m_L_fits (.iload_n 1) 1 := ⟨hm_L_fits, by decide +kernel⟩
theorem a_L_fits_17 : zAt 127 17 m_L_fits (.iload_n 2) 1 := ⟨hm_L_fits, by decide +kernel⟩
theorem a_L_fits_18 : zAt 127 18 m_L_fits (.invokevirtual 91) 3 := ⟨hm_L_fits, by decide +kernel⟩
theorem a_L_fits_21 : zAt 127 21 m_L_fits (.if_icmp .lt 7) 3 := ⟨hm_L_fits, by decide +kernel⟩
theorem a_L_fits_24 : zAt 127 24 m_L_fits (.iload_n 3) 1 := ⟨hm_L_fits, by decide +kernel⟩
theorem a_L_fits_25 : zAt 127 25 m_L_fits (.goto 4) 3 := ⟨hm_L_fits, by decide +kernel⟩
theorem a_L_fits_28 : zAt 127 28 m_L_fits (.iload_n 2) 1 := ⟨hm_L_fits, by decide +kernel⟩
theorem a_L_fits_29 : zAt 127 29 m_L_fits (.istore_n 2) 1 := ⟨hm_L_fits, by decide +kernel⟩
theorem a_L_fits_30 : zAt 127 30 m_L_fits (.iinc 3 1) 3 := ⟨hm_L_fits, by decide +kernel⟩
theorem a_L_fits_33 : zAt 127 33 m_L_fits (.goto (-29)) 3 := ⟨hm_L_fits, by decide +kernel⟩
theorem a_L_fits_36 : zAt 127 36 m_L_fits (.aload_n 0) 1 := ⟨hm_L_fits, by decide +kernel⟩
theorem a_L_fits_37 : zAt 127 37 m_L_fits (.iload_n 1) 1 := ⟨hm_L_fits, by decide +kernel⟩
theorem a_L_fits_38 : zAt 127 38 m_L_fits (.iconst 0) 1 := ⟨hm_L_fits, by decide +kernel⟩
theorem a_L_fits_39 : zAt 127 39 m_L_fits (.invokevirtual 82) 3 := ⟨hm_L_fits, by decide +kernel⟩
theorem a_L_fits_42 : zAt 127 42 m_L_fits (.istore_n 3) 1 := ⟨hm_L_fits, by decide +kernel⟩
theorem a_L_fits_43 : zAt 127 43 m_L_fits (.iconst 0) 1 := ⟨hm_L_fits, by decide +kernel⟩
theorem a_L_fits_44 : zAt 127 44 m_L_fits (.istore 4) 2 := ⟨hm_L_fits, by decide +kernel⟩
theorem a_L_fits_46 : zAt 127 46 m_L_fits (.bipush 99) 2 := ⟨hm_L_fits, by decide +kernel⟩
theorem a_L_fits_48 : zAt 127 48 m_L_fits (.istore 5) 2 := ⟨hm_L_fits, by decide +kernel⟩
theorem a_L_fits_50 : zAt 127 50 m_L_fits (.iconst 0) 1 := ⟨hm_L_fits, by decide +kernel⟩
theorem a_L_fits_51 : zAt 127 51 m_L_fits (.istore 6) 2 := ⟨hm_L_fits, by decide +kernel⟩
theorem a_L_fits_53 : zAt 127 53 m_L_fits (.iload 6) 2 := ⟨hm_L_fits, by decide +kernel⟩
theorem a_L_fits_55 : zAt 127 55 m_L_fits (.aload_n 0) 1 := ⟨hm_L_fits, by decide +kernel⟩
theorem a_L_fits_56 : zAt 127 56 m_L_fits (.iconst 1) 1 := ⟨hm_L_fits, by decide +kernel⟩
theorem a_L_fits_57 : zAt 127 57 m_L_fits (.invokevirtual 28) 3 := ⟨hm_L_fits, by decide +kernel⟩
theorem a_L_fits_60 : zAt 127 60 m_L_fits (.if_icmp .gt 86) 3 := ⟨hm_L_fits, by decide +kernel⟩
theorem a_L_fits_63 : zAt 127 63 m_L_fits (.aload_n 0) 1 := ⟨hm_L_fits, by decide +kernel⟩
theorem a_L_fits_64 : zAt 127 64 m_L_fits (.iload 6) 2 := ⟨hm_L_fits, by decide +kernel⟩
theorem a_L_fits_66 : zAt 127 66 m_L_fits (.invokevirtual 37) 3 := ⟨hm_L_fits, by decide +kernel⟩
theorem a_L_fits_69 : zAt 127 69 m_L_fits (.istore 7) 2 := ⟨hm_L_fits, by decide +kernel⟩
theorem a_L_fits_71 : zAt 127 71 m_L_fits (.aload_n 0) 1 := ⟨hm_L_fits, by decide +kernel⟩
theorem a_L_fits_72 : zAt 127 72 m_L_fits (.iload 7) 2 := ⟨hm_L_fits, by decide +kernel⟩
theorem a_L_fits_74 : zAt 127 74 m_L_fits (.iconst 0) 1 := ⟨hm_L_fits, by decide +kernel⟩
theorem a_L_fits_75 : zAt 127 75 m_L_fits (.invokevirtual 79) 3 := ⟨hm_L_fits, by decide +kernel⟩
theorem a_L_fits_78 : zAt 127 78 m_L_fits (.istore 8) 2 := ⟨hm_L_fits, by decide +kernel⟩
theorem a_L_fits_80 : zAt 127 80 m_L_fits (.aload_n 0) 1 := ⟨hm_L_fits, by decide +kernel⟩
theorem a_L_fits_81 : zAt 127 81 m_L_fits (.iload 7) 2 := ⟨hm_L_fits, by decide +kernel⟩
theorem a_L_fits_83 : zAt 127 83 m_L_fits (.iconst 1) 1 := ⟨hm_L_fits, by decide +kernel⟩
theorem a_L_fits_84 : zAt 127 84 m_L_fits (.invokevirtual 79) 3 := ⟨hm_L_fits, by decide +kernel⟩
theorem a_L_fits_87 : zAt 127 87 m_L_fits (.istore 9) 2 := ⟨hm_L_fits, by decide +kernel⟩
theorem a_L_fits_89 : zAt 127 89 m_L_fits (.iload 8) 2 := ⟨hm_L_fits, by decide +kernel⟩
theorem a_L_fits_91 : zAt 127 91 m_L_fits (.iconst 4) 1 := ⟨hm_L_fits, by decide +kernel⟩
theorem a_L_fits_92 : zAt 127 92 m_L_fits (.if_icmp .eq 9) 3 := ⟨hm_L_fits, by decide +kernel⟩
theorem a_L_fits_95 : zAt 127 95 m_L_fits (.iload 8) 2 := ⟨hm_L_fits, by decide +kernel⟩
theorem a_L_fits_97 : zAt 127 97 m_L_fits (.iload_n 2) 1 := ⟨hm_L_fits, by decide +kernel⟩
theorem a_L_fits_98 : zAt 127 98 m_L_fits (.if_icmp .ne 42) 3 := ⟨hm_L_fits, by decide +kernel⟩
theorem a_L_fits_101 : zAt 127 101 m_L_fits (.iload 9) 2 := ⟨hm_L_fits, by decide +kernel⟩
theorem a_L_fits_103 : zAt 127 103 m_L_fits (.iconst 3) 1 := ⟨hm_L_fits, by decide +kernel⟩
theorem a_L_fits_104 : zAt 127 104 m_L_fits (.if_icmp .eq 9) 3 := ⟨hm_L_fits, by decide +kernel⟩
theorem a_L_fits_107 : zAt 127 107 m_L_fits (.iload 9) 2 := ⟨hm_L_fits, by decide +kernel⟩
theorem a_L_fits_109 : zAt 127 109 m_L_fits (.iload_n 3) 1 := ⟨hm_L_fits, by decide +kernel⟩
theorem a_L_fits_110 : zAt 127 110 m_L_fits (.if_icmp .ne 30) 3 := ⟨hm_L_fits, by decide +kernel⟩
theorem a_L_fits_113 : zAt 127 113 m_L_fits (.iinc 4 1) 3 := ⟨hm_L_fits, by decide +kernel⟩
theorem a_L_fits_116 : zAt 127 116 m_L_fits (.aload_n 0) 1 := ⟨hm_L_fits, by decide +kernel⟩
theorem a_L_fits_117 : zAt 127 117 m_L_fits (.iload 7) 2 := ⟨hm_L_fits, by decide +kernel⟩
theorem a_L_fits_119 : zAt 127 119 m_L_fits (.invokestatic 94) 3 := ⟨hm_L_fits, by decide +kernel⟩
theorem a_L_fits_122 : zAt 127 122 m_L_fits (.aload_n 0) 1 := ⟨hm_L_fits, by decide +kernel⟩
theorem a_L_fits_123 : zAt 127 123 m_L_fits (.iload 5) 2 := ⟨hm_L_fits, by decide +kernel⟩
theorem a_L_fits_125 : zAt 127 125 m_L_fits (.invokestatic 94) 3 := ⟨hm_L_fits, by decide +kernel⟩
theorem a_L_fits_128 : zAt 127 128 m_L_fits (.if_icmp .le 8) 3 := ⟨hm_L_fits, by decide +kernel⟩
theorem a_L_fits_131 : zAt 127 131 m_L_fits (.iload 7) 2 := ⟨hm_L_fits, by decide +kernel⟩
theorem a_L_fits_133 : zAt 127 133 m_L_fits (.goto 5) 3 := ⟨hm_L_fits, by decide +kernel⟩
theorem a_L_fits_136 : zAt 127 136 m_L_fits (.iload 5) 2 := ⟨hm_L_fits, by decide +kernel⟩
theorem a_L_fits_138 : zAt 127 138 m_L_fits (.istore 5) 2 := ⟨hm_L_fits, by decide +kernel⟩
theorem a_L_fits_140 : zAt 127 140 m_L_fits (.iinc 6 1) 3 := ⟨hm_L_fits, by decide +kernel⟩
theorem a_L_fits_143 : zAt 127 143 m_L_fits (.goto (-90)) 3 := ⟨hm_L_fits, by decide +kernel⟩
theorem a_L_fits_146 : zAt 127 146 m_L_fits (.ldc 98) 2 := ⟨hm_L_fits, by decide +kernel⟩
theorem a_L_fits_148 : zAt 127 148 m_L_fits (.istore 6) 2 := ⟨hm_L_fits, by decide +kernel⟩
theorem a_L_fits_150 : zAt 127 150 m_L_fits (.iconst 0) 1 := ⟨hm_L_fits, by decide +kernel⟩
theorem a_L_fits_151 : zAt 127 151 m_L_fits (.istore 7) 2 := ⟨hm_L_fits, by decide +kernel⟩
theorem a_L_fits_153 : zAt 127 153 m_L_fits (.iload 7) 2 := ⟨hm_L_fits, by decide +kernel⟩
theorem a_L_fits_155 : zAt 127 155 m_L_fits (.iload 4) 2 := ⟨hm_L_fits, by decide +kernel⟩
theorem a_L_fits_157 : zAt 127 157 m_L_fits (.if_icmp .ge 44) 3 := ⟨hm_L_fits, by decide +kernel⟩
theorem a_L_fits_160 : zAt 127 160 m_L_fits (.aload_n 0) 1 := ⟨hm_L_fits, by decide +kernel⟩
theorem a_L_fits_161 : zAt 127 161 m_L_fits (.iload_n 1) 1 := ⟨hm_L_fits, by decide +kernel⟩
theorem a_L_fits_162 : zAt 127 162 m_L_fits (.iload 7) 2 := ⟨hm_L_fits, by decide +kernel⟩
theorem a_L_fits_164 : zAt 127 164 m_L_fits (.invokevirtual 99) 3 := ⟨hm_L_fits, by decide +kernel⟩
theorem a_L_fits_167 : zAt 127 167 m_L_fits (.istore 8) 2 := ⟨hm_L_fits, by decide +kernel⟩
theorem a_L_fits_169 : zAt 127 169 m_L_fits (.iload 8) 2 := ⟨hm_L_fits, by decide +kernel⟩
theorem a_L_fits_171 : zAt 127 171 m_L_fits (.ifCond .lt 14) 3 := ⟨hm_L_fits, by decide +kernel⟩
theorem a_L_fits_174 : zAt 127 174 m_L_fits (.aload_n 0) 1 := ⟨hm_L_fits, by decide +kernel⟩
theorem a_L_fits_175 : zAt 127 175 m_L_fits (.iload 8) 2 := ⟨hm_L_fits, by decide +kernel⟩
theorem a_L_fits_177 : zAt 127 177 m_L_fits (.invokestatic 94) 3 := ⟨hm_L_fits, by decide +kernel⟩
theorem a_L_fits_180 : zAt 127 180 m_L_fits (.iload 6) 2 := ⟨hm_L_fits, by decide +kernel⟩
theorem a_L_fits_182 : zAt 127 182 m_L_fits (.if_icmp .lt 5) 3 := ⟨hm_L_fits, by decide +kernel⟩
theorem a_L_fits_185 : zAt 127 185 m_L_fits (.iconst 0) 1 := ⟨hm_L_fits, by decide +kernel⟩
theorem a_L_fits_186 : zAt 127 186 m_L_fits (.ireturn) 1 := ⟨hm_L_fits, by decide +kernel⟩
theorem a_L_fits_187 : zAt 127 187 m_L_fits (.aload_n 0) 1 := ⟨hm_L_fits, by decide +kernel⟩
theorem a_L_fits_188 : zAt 127 188 m_L_fits (.iload 8) 2 := ⟨hm_L_fits, by decide +kernel⟩
theorem a_L_fits_190 : zAt 127 190 m_L_fits (.invokestatic 94) 3 := ⟨hm_L_fits, by decide +kernel⟩
theorem a_L_fits_193 : zAt 127 193 m_L_fits (.istore 6) 2 := ⟨hm_L_fits, by decide +kernel⟩
theorem a_L_fits_195 : zAt 127 195 m_L_fits (.iinc 7 1) 3 := ⟨hm_L_fits, by decide +kernel⟩
theorem a_L_fits_198 : zAt 127 198 m_L_fits (.goto (-45)) 3 := ⟨hm_L_fits, by decide +kernel⟩
theorem a_L_fits_201 : zAt 127 201 m_L_fits (.aload_n 0) 1 := ⟨hm_L_fits, by decide +kernel⟩
theorem a_L_fits_202 : zAt 127 202 m_L_fits (.iload_n 1) 1 := ⟨hm_L_fits, by decide +kernel⟩
theorem a_L_fits_203 : zAt 127 203 m_L_fits (.iconst 1) 1 := ⟨hm_L_fits, by decide +kernel⟩
theorem a_L_fits_204 : zAt 127 204 m_L_fits (.invokevirtual 99) 3 := ⟨hm_L_fits, by decide +kernel⟩
theorem a_L_fits_207 : zAt 127 207 m_L_fits (.istore 7) 2 := ⟨hm_L_fits, by decide +kernel⟩
theorem a_L_fits_209 : zAt 127 209 m_L_fits (.iload 4) 2 := ⟨hm_L_fits, by decide +kernel⟩
theorem a_L_fits_211 : zAt 127 211 m_L_fits (.iconst 1) 1 := ⟨hm_L_fits, by decide +kernel⟩
theorem a_L_fits_212 : zAt 127 212 m_L_fits (.if_icmp .le 29) 3 := ⟨hm_L_fits, by decide +kernel⟩
theorem a_L_fits_215 : zAt 127 215 m_L_fits (.aload_n 0) 1 := ⟨hm_L_fits, by decide +kernel⟩
theorem a_L_fits_216 : zAt 127 216 m_L_fits (.iload 5) 2 := ⟨hm_L_fits, by decide +kernel⟩
theorem a_L_fits_218 : zAt 127 218 m_L_fits (.iconst 0) 1 := ⟨hm_L_fits, by decide +kernel⟩
theorem a_L_fits_219 : zAt 127 219 m_L_fits (.invokevirtual 79) 3 := ⟨hm_L_fits, by decide +kernel⟩
theorem a_L_fits_222 : zAt 127 222 m_L_fits (.iconst 4) 1 := ⟨hm_L_fits, by decide +kernel⟩
theorem a_L_fits_223 : zAt 127 223 m_L_fits (.if_icmp .ge 18) 3 := ⟨hm_L_fits, by decide +kernel⟩
theorem a_L_fits_226 : zAt 127 226 m_L_fits (.aload_n 0) 1 := ⟨hm_L_fits, by decide +kernel⟩
theorem a_L_fits_227 : zAt 127 227 m_L_fits (.iload 7) 2 := ⟨hm_L_fits, by decide +kernel⟩
theorem a_L_fits_229 : zAt 127 229 m_L_fits (.iconst 0) 1 := ⟨hm_L_fits, by decide +kernel⟩
theorem a_L_fits_230 : zAt 127 230 m_L_fits (.invokevirtual 79) 3 := ⟨hm_L_fits, by decide +kernel⟩
theorem a_L_fits_233 : zAt 127 233 m_L_fits (.iconst 4) 1 := ⟨hm_L_fits, by decide +kernel⟩
theorem a_L_fits_234 : zAt 127 234 m_L_fits (.if_icmp .ne 7) 3 := ⟨hm_L_fits, by decide +kernel⟩
theorem a_L_fits_237 : zAt 127 237 m_L_fits (.iconst 1) 1 := ⟨hm_L_fits, by decide +kernel⟩
theorem a_L_fits_238 : zAt 127 238 m_L_fits (.goto 4) 3 := ⟨hm_L_fits, by decide +kernel⟩
theorem a_L_fits_241 : zAt 127 241 m_L_fits (.iconst 0) 1 := ⟨hm_L_fits, by decide +kernel⟩
theorem a_L_fits_242 : zAt 127 242 m_L_fits (.istore 8) 2 := ⟨hm_L_fits, by decide +kernel⟩
theorem a_L_fits_244 : zAt 127 244 m_L_fits (.iload 4) 2 := ⟨hm_L_fits, by decide +kernel⟩
theorem a_L_fits_246 : zAt 127 246 m_L_fits (.iconst 1) 1 := ⟨hm_L_fits, by decide +kernel⟩
theorem a_L_fits_247 : zAt 127 247 m_L_fits (.if_icmp .le 29) 3 := ⟨hm_L_fits, by decide +kernel⟩
theorem a_L_fits_250 : zAt 127 250 m_L_fits (.aload_n 0) 1 := ⟨hm_L_fits, by decide +kernel⟩
theorem a_L_fits_251 : zAt 127 251 m_L_fits (.iload 5) 2 := ⟨hm_L_fits, by decide +kernel⟩
theorem a_L_fits_253 : zAt 127 253 m_L_fits (.iconst 1) 1 := ⟨hm_L_fits, by decide +kernel⟩
theorem a_L_fits_254 : zAt 127 254 m_L_fits (.invokevirtual 79) 3 := ⟨hm_L_fits, by decide +kernel⟩
theorem a_L_fits_257 : zAt 127 257 m_L_fits (.iconst 3) 1 := ⟨hm_L_fits, by decide +kernel⟩
theorem a_L_fits_258 : zAt 127 258 m_L_fits (.if_icmp .ge 18) 3 := ⟨hm_L_fits, by decide +kernel⟩
theorem a_L_fits_261 : zAt 127 261 m_L_fits (.aload_n 0) 1 := ⟨hm_L_fits, by decide +kernel⟩
theorem a_L_fits_262 : zAt 127 262 m_L_fits (.iload 7) 2 := ⟨hm_L_fits, by decide +kernel⟩
theorem a_L_fits_264 : zAt 127 264 m_L_fits (.iconst 1) 1 := ⟨hm_L_fits, by decide +kernel⟩
theorem a_L_fits_265 : zAt 127 265 m_L_fits (.invokevirtual 79) 3 := ⟨hm_L_fits, by decide +kernel⟩
theorem a_L_fits_268 : zAt 127 268 m_L_fits (.iconst 3) 1 := ⟨hm_L_fits, by decide +kernel⟩
theorem a_L_fits_269 : zAt 127 269 m_L_fits (.if_icmp .ne 7) 3 := ⟨hm_L_fits, by decide +kernel⟩
theorem a_L_fits_272 : zAt 127 272 m_L_fits (.iconst 1) 1 := ⟨hm_L_fits, by decide +kernel⟩
theorem a_L_fits_273 : zAt 127 273 m_L_fits (.goto 4) 3 := ⟨hm_L_fits, by decide +kernel⟩
theorem a_L_fits_276 : zAt 127 276 m_L_fits (.iconst 0) 1 := ⟨hm_L_fits, by decide +kernel⟩
theorem a_L_fits_277 : zAt 127 277 m_L_fits (.istore 9) 2 := ⟨hm_L_fits, by decide +kernel⟩
theorem a_L_fits_279 : zAt 127 279 m_L_fits (.iload 4) 2 := ⟨hm_L_fits, by decide +kernel⟩
theorem a_L_fits_281 : zAt 127 281 m_L_fits (.iconst 1) 1 := ⟨hm_L_fits, by decide +kernel⟩
theorem a_L_fits_282 : zAt 127 282 m_L_fits (.if_icmp .ne 7) 3 := ⟨hm_L_fits, by decide +kernel⟩
theorem a_L_fits_285 : zAt 127 285 m_L_fits (.iconst 0) 1 := ⟨hm_L_fits, by decide +kernel⟩
theorem a_L_fits_286 : zAt 127 286 m_L_fits (.goto 33) 3 := ⟨hm_L_fits, by decide +kernel⟩
theorem a_L_fits_289 : zAt 127 289 m_L_fits (.iload 8) 2 := ⟨hm_L_fits, by decide +kernel⟩
theorem a_L_fits_291 : zAt 127 291 m_L_fits (.ifCond .eq 7) 3 := ⟨hm_L_fits, by decide +kernel⟩
theorem a_L_fits_294 : zAt 127 294 m_L_fits (.iconst 1) 1 := ⟨hm_L_fits, by decide +kernel⟩
theorem a_L_fits_295 : zAt 127 295 m_L_fits (.goto 24) 3 := ⟨hm_L_fits, by decide +kernel⟩
theorem a_L_fits_298 : zAt 127 298 m_L_fits (.iload 9) 2 := ⟨hm_L_fits, by decide +kernel⟩
theorem a_L_fits_300 : zAt 127 300 m_L_fits (.ifCond .eq 7) 3 := ⟨hm_L_fits, by decide +kernel⟩
theorem a_L_fits_303 : zAt 127 303 m_L_fits (.iconst 2) 1 := ⟨hm_L_fits, by decide +kernel⟩
theorem a_L_fits_304 : zAt 127 304 m_L_fits (.goto 15) 3 := ⟨hm_L_fits, by decide +kernel⟩
theorem a_L_fits_307 : zAt 127 307 m_L_fits (.iload 7) 2 := ⟨hm_L_fits, by decide +kernel⟩
theorem a_L_fits_309 : zAt 127 309 m_L_fits (.bipush 99) 2 := ⟨hm_L_fits, by decide +kernel⟩
theorem a_L_fits_311 : zAt 127 311 m_L_fits (.if_icmp .ne 7) 3 := ⟨hm_L_fits, by decide +kernel⟩
theorem a_L_fits_314 : zAt 127 314 m_L_fits (.iconst 4) 1 := ⟨hm_L_fits, by decide +kernel⟩
theorem a_L_fits_315 : zAt 127 315 m_L_fits (.goto 4) 3 := ⟨hm_L_fits, by decide +kernel⟩
theorem a_L_fits_318 : zAt 127 318 m_L_fits (.iconst 3) 1 := ⟨hm_L_fits, by decide +kernel⟩
theorem a_L_fits_319 : zAt 127 319 m_L_fits (.istore 10) 2 := ⟨hm_L_fits, by decide +kernel⟩
theorem a_L_fits_321 : zAt 127 321 m_L_fits (.iload 6) 2 := ⟨hm_L_fits, by decide +kernel⟩
theorem a_L_fits_323 : zAt 127 323 m_L_fits (.ifCond .ne 72) 3 := ⟨hm_L_fits, by decide +kernel⟩
theorem a_L_fits_326 : zAt 127 326 m_L_fits (.aload_n 0) 1 := ⟨hm_L_fits, by decide +kernel⟩
theorem a_L_fits_327 : zAt 127 327 m_L_fits (.iload_n 1) 1 := ⟨hm_L_fits, by decide +kernel⟩
theorem a_L_fits_328 : zAt 127 328 m_L_fits (.iload 4) 2 := ⟨hm_L_fits, by decide +kernel⟩
theorem a_L_fits_330 : zAt 127 330 m_L_fits (.invokevirtual 99) 3 := ⟨hm_L_fits, by decide +kernel⟩
theorem a_L_fits_333 : zAt 127 333 m_L_fits (.bipush (-11)) 2 := ⟨hm_L_fits, by decide +kernel⟩
theorem a_L_fits_335 : zAt 127 335 m_L_fits (.if_icmp .ne 60) 3 := ⟨hm_L_fits, by decide +kernel⟩
theorem a_L_fits_338 : zAt 127 338 m_L_fits (.aload_n 0) 1 := ⟨hm_L_fits, by decide +kernel⟩
theorem a_L_fits_339 : zAt 127 339 m_L_fits (.iload_n 1) 1 := ⟨hm_L_fits, by decide +kernel⟩
theorem a_L_fits_340 : zAt 127 340 m_L_fits (.iconst 0) 1 := ⟨hm_L_fits, by decide +kernel⟩
theorem a_L_fits_341 : zAt 127 341 m_L_fits (.invokevirtual 99) 3 := ⟨hm_L_fits, by decide +kernel⟩
theorem a_L_fits_344 : zAt 127 344 m_L_fits (.iload 5) 2 := ⟨hm_L_fits, by decide +kernel⟩
theorem a_L_fits_346 : zAt 127 346 m_L_fits (.if_icmp .ne 49) 3 := ⟨hm_L_fits, by decide +kernel⟩
theorem a_L_fits_349 : zAt 127 349 m_L_fits (.aload_n 0) 1 := ⟨hm_L_fits, by decide +kernel⟩
theorem a_L_fits_350 : zAt 127 350 m_L_fits (.iload_n 1) 1 := ⟨hm_L_fits, by decide +kernel⟩
theorem a_L_fits_351 : zAt 127 351 m_L_fits (.invokevirtual 102) 3 := ⟨hm_L_fits, by decide +kernel⟩
theorem a_L_fits_354 : zAt 127 354 m_L_fits (.iload 5) 2 := ⟨hm_L_fits, by decide +kernel⟩
theorem a_L_fits_356 : zAt 127 356 m_L_fits (.if_icmp .ne 39) 3 := ⟨hm_L_fits, by decide +kernel⟩
theorem a_L_fits_359 : zAt 127 359 m_L_fits (.aload_n 0) 1 := ⟨hm_L_fits, by decide +kernel⟩
theorem a_L_fits_360 : zAt 127 360 m_L_fits (.iload_n 1) 1 := ⟨hm_L_fits, by decide +kernel⟩
theorem a_L_fits_361 : zAt 127 361 m_L_fits (.bipush 6) 2 := ⟨hm_L_fits, by decide +kernel⟩
theorem a_L_fits_363 : zAt 127 363 m_L_fits (.invokevirtual 82) 3 := ⟨hm_L_fits, by decide +kernel⟩
theorem a_L_fits_366 : zAt 127 366 m_L_fits (.iload 5) 2 := ⟨hm_L_fits, by decide +kernel⟩
theorem a_L_fits_368 : zAt 127 368 m_L_fits (.if_icmp .ne 27) 3 := ⟨hm_L_fits, by decide +kernel⟩
theorem a_L_fits_371 : zAt 127 371 m_L_fits (.aload_n 0) 1 := ⟨hm_L_fits, by decide +kernel⟩
theorem a_L_fits_372 : zAt 127 372 m_L_fits (.iload_n 1) 1 := ⟨hm_L_fits, by decide +kernel⟩
theorem a_L_fits_373 : zAt 127 373 m_L_fits (.iconst 4) 1 := ⟨hm_L_fits, by decide +kernel⟩
theorem a_L_fits_374 : zAt 127 374 m_L_fits (.invokevirtual 82) 3 := ⟨hm_L_fits, by decide +kernel⟩
theorem a_L_fits_377 : zAt 127 377 m_L_fits (.iload_n 2) 1 := ⟨hm_L_fits, by decide +kernel⟩
theorem a_L_fits_378 : zAt 127 378 m_L_fits (.if_icmp .ne 17) 3 := ⟨hm_L_fits, by decide +kernel⟩
theorem a_L_fits_381 : zAt 127 381 m_L_fits (.aload_n 0) 1 := ⟨hm_L_fits, by decide +kernel⟩
theorem a_L_fits_382 : zAt 127 382 m_L_fits (.iload_n 1) 1 := ⟨hm_L_fits, by decide +kernel⟩
theorem a_L_fits_383 : zAt 127 383 m_L_fits (.invokevirtual 105) 3 := ⟨hm_L_fits, by decide +kernel⟩
theorem a_L_fits_386 : zAt 127 386 m_L_fits (.iload 10) 2 := ⟨hm_L_fits, by decide +kernel⟩
theorem a_L_fits_388 : zAt 127 388 m_L_fits (.if_icmp .ne 7) 3 := ⟨hm_L_fits, by decide +kernel⟩
theorem a_L_fits_391 : zAt 127 391 m_L_fits (.iconst 1) 1 := ⟨hm_L_fits, by decide +kernel⟩
theorem a_L_fits_392 : zAt 127 392 m_L_fits (.goto 4) 3 := ⟨hm_L_fits, by decide +kernel⟩
theorem a_L_fits_395 : zAt 127 395 m_L_fits (.iconst 0) 1 := ⟨hm_L_fits, by decide +kernel⟩
theorem a_L_fits_396 : zAt 127 396 m_L_fits (.ireturn) 1 := ⟨hm_L_fits, by decide +kernel⟩
theorem B_L_fits_0 {E : List zS} {G : Nat → Nat → Int32} {x1 : Int32} : zden 127 0 [.ref 0, .int x1, .retAddr 0, .retAddr 0, .retAddr 0, .retAddr 0, .retAddr 0, .retAddr 0, .retAddr 0, .retAddr 0, .retAddr 0] [] (zSH ++ E, G) = zden 127 4 [.ref 0, .int x1, .int 0, .int 1, .retAddr 0, .retAddr 0, .retAddr 0, .retAddr 0, .retAddr 0, .retAddr 0, .retAddr 0] [] (zSH ++ E, G) :=
  (zd_iconst (v := 0) a_L_fits_0 (by decide)).trans ((zd_istore_n a_L_fits_1 rfl rfl rfl).trans ((zd_iconst (v := 1) a_L_fits_2 (by decide)).trans ((zd_istore_n a_L_fits_3 rfl rfl rfl))))
theorem B_L_fits_4 {E : List zS} {G : Nat → Nat → Int32} {rv : Nat → Int32 → Int32 → Int32} {x1 x2 x3 : Int32} (hP : RDs G rv) : zden 127 4 [.ref 0, .int x1, .int x2, .int x3, .retAddr 0, .retAddr 0, .retAddr 0, .retAddr 0, .retAddr 0, .retAddr 0, .retAddr 0] [] (zSH ++ E, G) = if 4 ≤ x3 then zden 127 53 [.ref 0, .int x1, .int x2, .int (rv 78 x1 0), .int 0, .int 99, .int 0, .retAddr 0, .retAddr 0, .retAddr 0, .retAddr 0] [] (zSH ++ E, G) else if (rv 79 x1 x3) < (rv 79 x1 x2) then zden 127 29 [.ref 0, .int x1, .int x2, .int x3, .retAddr 0, .retAddr 0, .retAddr 0, .retAddr 0, .retAddr 0, .retAddr 0, .retAddr 0] [.int x2] (zSH ++ E, G) else zden 127 29 [.ref 0, .int x1, .int x2, .int x3, .retAddr 0, .retAddr 0, .retAddr 0, .retAddr 0, .retAddr 0, .retAddr 0, .retAddr 0] [.int x3] (zSH ++ E, G) :=
  (zd_iload_n a_L_fits_4 rfl).trans ((zd_iconst (v := 4) a_L_fits_5 (by decide)).trans ((zd_icmp_ge a_L_fits_6 rfl).trans (zitc (fun p87 => (zd_aload_n a_L_fits_36 rfl).trans ((zd_iload_n a_L_fits_37 rfl).trans ((zd_iconst (v := 0) a_L_fits_38 (by decide)).trans ((zd_cal (kd := 0) (tg := 78) (T := m_T_goodOf) a_L_fits_39 (by decide +kernel) hm_T_goodOf rfl rfl (zmay_objh (zx_at sh_0) rfl) rfl).trans (((congrArg (zaft 127 42 [.ref 0, .int x1, .int x2, .int x3, .retAddr 0, .retAddr 0, .retAddr 0, .retAddr 0, .retAddr 0, .retAddr 0, .retAddr 0] [] (zSH ++ E, G)) (r78 hP sr_rf)).trans zaft_same).trans ((zd_istore_n a_L_fits_42 rfl rfl rfl).trans ((zd_iconst (v := 0) a_L_fits_43 (by decide)).trans ((zd_istore a_L_fits_44 rfl rfl rfl).trans ((zd_bipush (v := 99) a_L_fits_46 (by decide)).trans ((zd_istore a_L_fits_48 rfl rfl rfl).trans ((zd_iconst (v := 0) a_L_fits_50 (by decide)).trans ((zd_istore a_L_fits_51 rfl rfl rfl))))))))))))) (fun p87 => (zd_aload_n a_L_fits_9 rfl).trans ((zd_iload_n a_L_fits_10 rfl).trans ((zd_iload_n a_L_fits_11 rfl).trans ((zd_cal (kd := 0) (tg := 79) (T := m_T_part) a_L_fits_12 (by decide +kernel) hm_T_part rfl rfl (zmay_objh (zx_at sh_0) rfl) rfl).trans (((congrArg (zaft 127 15 [.ref 0, .int x1, .int x2, .int x3, .retAddr 0, .retAddr 0, .retAddr 0, .retAddr 0, .retAddr 0, .retAddr 0, .retAddr 0] [] (zSH ++ E, G)) (r79 hP sr_rf)).trans zaft_same).trans ((zd_aload_n a_L_fits_15 rfl).trans ((zd_iload_n a_L_fits_16 rfl).trans ((zd_iload_n a_L_fits_17 rfl).trans ((zd_cal (kd := 0) (tg := 79) (T := m_T_part) a_L_fits_18 (by decide +kernel) hm_T_part rfl rfl (zmay_objh (zx_at sh_0) rfl) rfl).trans (((congrArg (zaft 127 21 [.ref 0, .int x1, .int x2, .int x3, .retAddr 0, .retAddr 0, .retAddr 0, .retAddr 0, .retAddr 0, .retAddr 0, .retAddr 0] [.int (rv 79 x1 x3)] (zSH ++ E, G)) (r79 hP sr_rf)).trans zaft_same).trans ((zd_icmp_lt a_L_fits_21 rfl).trans (zitc (fun p88 => (zd_iload_n a_L_fits_28 rfl)) (fun p88 => (zd_iload_n a_L_fits_24 rfl).trans ((zd_goto a_L_fits_25 rfl))))))))))))))))))
theorem B_L_fits_29 {E : List zS} {G : Nat → Nat → Int32} {x1 x2 x3 s0 : Int32} : zden 127 29 [.ref 0, .int x1, .int x2, .int x3, .retAddr 0, .retAddr 0, .retAddr 0, .retAddr 0, .retAddr 0, .retAddr 0, .retAddr 0] [.int s0] (zSH ++ E, G) = zden 127 4 [.ref 0, .int x1, .int s0, .int (x3 + 1), .retAddr 0, .retAddr 0, .retAddr 0, .retAddr 0, .retAddr 0, .retAddr 0, .retAddr 0] [] (zSH ++ E, G) :=
  (zd_istore_n a_L_fits_29 rfl rfl rfl).trans ((zd_iinc (v := 1) a_L_fits_30 rfl (by decide) rfl rfl rfl).trans ((zd_goto a_L_fits_33 rfl)))
theorem B_L_fits_53 {E : List zS} {G : Nat → Nat → Int32} {rv : Nat → Int32 → Int32 → Int32} {x1 x2 x3 x4 x5 x6 : Int32} {v7 v8 v9 : Value} (hP : RDs G rv) : zden 127 53 [.ref 0, .int x1, .int x2, .int x3, .int x4, .int x5, .int x6, v7, v8, v9, .retAddr 0] [] (zSH ++ E, G) = if (rv 98 1 0) < x6 then zden 127 153 [.ref 0, .int x1, .int x2, .int x3, .int x4, .int x5, .int 100000, .int 0, v8, v9, .retAddr 0] [] (zSH ++ E, G) else if (rv 73 (rv 74 x6 0) 0) = 4 then zden 127 101 [.ref 0, .int x1, .int x2, .int x3, .int x4, .int x5, .int x6, .int (rv 74 x6 0), .int (rv 73 (rv 74 x6 0) 0), .int (rv 73 (rv 74 x6 0) 1), .retAddr 0] [] (zSH ++ E, G) else if ¬ (rv 73 (rv 74 x6 0) 0) = x2 then zden 127 140 [.ref 0, .int x1, .int x2, .int x3, .int x4, .int x5, .int x6, .int (rv 74 x6 0), .int (rv 73 (rv 74 x6 0) 0), .int (rv 73 (rv 74 x6 0) 1), .retAddr 0] [] (zSH ++ E, G) else zden 127 101 [.ref 0, .int x1, .int x2, .int x3, .int x4, .int x5, .int x6, .int (rv 74 x6 0), .int (rv 73 (rv 74 x6 0) 0), .int (rv 73 (rv 74 x6 0) 1), .retAddr 0] [] (zSH ++ E, G) :=
  (zd_iload a_L_fits_53 rfl).trans ((zd_aload_n a_L_fits_55 rfl).trans ((zd_iconst (v := 1) a_L_fits_56 (by decide)).trans ((zd_cal (kd := 0) (tg := 98) (T := m_T_account) a_L_fits_57 (by decide +kernel) hm_T_account rfl rfl (zmay_objh (zx_at sh_0) rfl) rfl).trans (((congrArg (zaft 127 60 [.ref 0, .int x1, .int x2, .int x3, .int x4, .int x5, .int x6, v7, v8, v9, .retAddr 0] [.int x6] (zSH ++ E, G)) (r98 hP sr_rf)).trans zaft_same).trans ((zd_icmp_gt a_L_fits_60 rfl).trans (zitc (fun p89 => (zd_ldcI (v := 100000) a_L_fits_146 (by decide +kernel) (by decide +kernel)).trans ((zd_istore a_L_fits_148 rfl rfl rfl).trans ((zd_iconst (v := 0) a_L_fits_150 (by decide)).trans ((zd_istore a_L_fits_151 rfl rfl rfl))))) (fun p89 => (zd_aload_n a_L_fits_63 rfl).trans ((zd_iload a_L_fits_64 rfl).trans ((zd_cal (kd := 0) (tg := 74) (T := m_T_code) a_L_fits_66 (by decide +kernel) hm_T_code rfl rfl (zmay_objh (zx_at sh_0) rfl) rfl).trans (((congrArg (zaft 127 69 [.ref 0, .int x1, .int x2, .int x3, .int x4, .int x5, .int x6, v7, v8, v9, .retAddr 0] [] (zSH ++ E, G)) (r74 hP sr_rf)).trans zaft_same).trans ((zd_istore a_L_fits_69 rfl rfl rfl).trans ((zd_aload_n a_L_fits_71 rfl).trans ((zd_iload a_L_fits_72 rfl).trans ((zd_iconst (v := 0) a_L_fits_74 (by decide)).trans ((zd_cal (kd := 0) (tg := 73) (T := m_T_headingOf) a_L_fits_75 (by decide +kernel) hm_T_headingOf rfl rfl (zmay_objh (zx_at sh_0) rfl) rfl).trans (((congrArg (zaft 127 78 [.ref 0, .int x1, .int x2, .int x3, .int x4, .int x5, .int x6, .int (rv 74 x6 0), v8, v9, .retAddr 0] [] (zSH ++ E, G)) (r73 hP sr_rf)).trans zaft_same).trans ((zd_istore a_L_fits_78 rfl rfl rfl).trans ((zd_aload_n a_L_fits_80 rfl).trans ((zd_iload a_L_fits_81 rfl).trans ((zd_iconst (v := 1) a_L_fits_83 (by decide)).trans ((zd_cal (kd := 0) (tg := 73) (T := m_T_headingOf) a_L_fits_84 (by decide +kernel) hm_T_headingOf rfl rfl (zmay_objh (zx_at sh_0) rfl) rfl).trans (((congrArg (zaft 127 87 [.ref 0, .int x1, .int x2, .int x3, .int x4, .int x5, .int x6, .int (rv 74 x6 0), .int (rv 73 (rv 74 x6 0) 0), v9, .retAddr 0] [] (zSH ++ E, G)) (r73 hP sr_rf)).trans zaft_same).trans ((zd_istore a_L_fits_87 rfl rfl rfl).trans ((zd_iload a_L_fits_89 rfl).trans ((zd_iconst (v := 4) a_L_fits_91 (by decide)).trans ((zd_icmp_eq a_L_fits_92 rfl).trans (zitc (fun p90 => rfl) (fun p90 => (zd_iload a_L_fits_95 rfl).trans ((zd_iload_n a_L_fits_97 rfl).trans ((zd_icmp_ne a_L_fits_98 rfl)))))))))))))))))))))))))))))))
theorem B_L_fits_101 {E : List zS} {G : Nat → Nat → Int32} {x1 x2 x3 x4 x5 x6 x7 x8 x9 : Int32} : zden 127 101 [.ref 0, .int x1, .int x2, .int x3, .int x4, .int x5, .int x6, .int x7, .int x8, .int x9, .retAddr 0] [] (zSH ++ E, G) = if x9 = 3 then zden 127 113 [.ref 0, .int x1, .int x2, .int x3, .int x4, .int x5, .int x6, .int x7, .int x8, .int x9, .retAddr 0] [] (zSH ++ E, G) else if ¬ x9 = x3 then zden 127 140 [.ref 0, .int x1, .int x2, .int x3, .int x4, .int x5, .int x6, .int x7, .int x8, .int x9, .retAddr 0] [] (zSH ++ E, G) else zden 127 113 [.ref 0, .int x1, .int x2, .int x3, .int x4, .int x5, .int x6, .int x7, .int x8, .int x9, .retAddr 0] [] (zSH ++ E, G) :=
  (zd_iload a_L_fits_101 rfl).trans ((zd_iconst (v := 3) a_L_fits_103 (by decide)).trans ((zd_icmp_eq a_L_fits_104 rfl).trans (zitc (fun p92 => rfl) (fun p92 => (zd_iload a_L_fits_107 rfl).trans ((zd_iload_n a_L_fits_109 rfl).trans ((zd_icmp_ne a_L_fits_110 rfl)))))))
theorem B_L_fits_113 {E : List zS} {G : Nat → Nat → Int32} {rv : Nat → Int32 → Int32 → Int32} {x1 x2 x3 x4 x5 x6 x7 x8 x9 : Int32} (hP : RDs G rv) : zden 127 113 [.ref 0, .int x1, .int x2, .int x3, .int x4, .int x5, .int x6, .int x7, .int x8, .int x9, .retAddr 0] [] (zSH ++ E, G) = if (ahF rv x7) ≤ (ahF rv x5) then zden 127 138 [.ref 0, .int x1, .int x2, .int x3, .int (x4 + 1), .int x5, .int x6, .int x7, .int x8, .int x9, .retAddr 0] [.int x5] (zSH ++ E, G) else zden 127 138 [.ref 0, .int x1, .int x2, .int x3, .int (x4 + 1), .int x5, .int x6, .int x7, .int x8, .int x9, .retAddr 0] [.int x7] (zSH ++ E, G) :=
  (zd_iinc (v := 1) a_L_fits_113 rfl (by decide) rfl rfl rfl).trans ((zd_aload_n a_L_fits_116 rfl).trans ((zd_iload a_L_fits_117 rfl).trans ((zd_cal (kd := 1) (tg := 128) (T := m_L_ahead) a_L_fits_119 (by decide +kernel) hm_L_ahead rfl rfl rfl rfl).trans (((congrArg (zaft 127 122 [.ref 0, .int x1, .int x2, .int x3, .int (x4 + 1), .int x5, .int x6, .int x7, .int x8, .int x9, .retAddr 0] [] (zSH ++ E, G)) (r128 hP sr_rf)).trans zaft_same).trans ((zd_aload_n a_L_fits_122 rfl).trans ((zd_iload a_L_fits_123 rfl).trans ((zd_cal (kd := 1) (tg := 128) (T := m_L_ahead) a_L_fits_125 (by decide +kernel) hm_L_ahead rfl rfl rfl rfl).trans (((congrArg (zaft 127 128 [.ref 0, .int x1, .int x2, .int x3, .int (x4 + 1), .int x5, .int x6, .int x7, .int x8, .int x9, .retAddr 0] [.int (ahF rv x7)] (zSH ++ E, G)) (r128 hP sr_rf)).trans zaft_same).trans ((zd_icmp_le a_L_fits_128 rfl).trans (zitc (fun p94 => (zd_iload a_L_fits_136 rfl)) (fun p94 => (zd_iload a_L_fits_131 rfl).trans ((zd_goto a_L_fits_133 rfl)))))))))))))
theorem B_L_fits_138 {E : List zS} {G : Nat → Nat → Int32} {x1 x2 x3 x4 x5 x6 x7 x8 x9 s0 : Int32} : zden 127 138 [.ref 0, .int x1, .int x2, .int x3, .int x4, .int x5, .int x6, .int x7, .int x8, .int x9, .retAddr 0] [.int s0] (zSH ++ E, G) = zden 127 140 [.ref 0, .int x1, .int x2, .int x3, .int x4, .int s0, .int x6, .int x7, .int x8, .int x9, .retAddr 0] [] (zSH ++ E, G) :=
  (zd_istore a_L_fits_138 rfl rfl rfl)
theorem B_L_fits_140 {E : List zS} {G : Nat → Nat → Int32} {x1 x2 x3 x4 x5 x6 x7 x8 x9 : Int32} : zden 127 140 [.ref 0, .int x1, .int x2, .int x3, .int x4, .int x5, .int x6, .int x7, .int x8, .int x9, .retAddr 0] [] (zSH ++ E, G) = zden 127 53 [.ref 0, .int x1, .int x2, .int x3, .int x4, .int x5, .int (x6 + 1), .int x7, .int x8, .int x9, .retAddr 0] [] (zSH ++ E, G) :=
  (zd_iinc (v := 1) a_L_fits_140 rfl (by decide) rfl rfl rfl).trans ((zd_goto a_L_fits_143 rfl))
theorem B_L_fits_153 {E : List zS} {G : Nat → Nat → Int32} {rv : Nat → Int32 → Int32 → Int32} {x1 x2 x3 x4 x5 x6 x7 : Int32} {v8 v9 : Value} (hP : RDs G rv) : zden 127 153 [.ref 0, .int x1, .int x2, .int x3, .int x4, .int x5, .int x6, .int x7, v8, v9, .retAddr 0] [] (zSH ++ E, G) = if x4 ≤ x7 then if x4 ≤ 1 then zden 127 241 [.ref 0, .int x1, .int x2, .int x3, .int x4, .int x5, .int x6, .int (rv 81 x1 1), v8, v9, .retAddr 0] [] (zSH ++ E, G) else if 4 ≤ (rv 73 x5 0) then zden 127 241 [.ref 0, .int x1, .int x2, .int x3, .int x4, .int x5, .int x6, .int (rv 81 x1 1), v8, v9, .retAddr 0] [] (zSH ++ E, G) else if ¬ (rv 73 (rv 81 x1 1) 0) = 4 then zden 127 241 [.ref 0, .int x1, .int x2, .int x3, .int x4, .int x5, .int x6, .int (rv 81 x1 1), v8, v9, .retAddr 0] [] (zSH ++ E, G) else zden 127 242 [.ref 0, .int x1, .int x2, .int x3, .int x4, .int x5, .int x6, .int (rv 81 x1 1), v8, v9, .retAddr 0] [.int 1] (zSH ++ E, G) else if (rv 81 x1 x7) < 0 then some (some (.int 0), (zSH ++ E, G)) else if (ahF rv (rv 81 x1 x7)) < x6 then zden 127 153 [.ref 0, .int x1, .int x2, .int x3, .int x4, .int x5, .int (ahF rv (rv 81 x1 x7)), .int (x7 + 1), .int (rv 81 x1 x7), v9, .retAddr 0] [] (zSH ++ E, G) else some (some (.int 0), (zSH ++ E, G)) :=
  (zd_iload a_L_fits_153 rfl).trans ((zd_iload a_L_fits_155 rfl).trans ((zd_icmp_ge a_L_fits_157 rfl).trans (zitc (fun p95 => (zd_aload_n a_L_fits_201 rfl).trans ((zd_iload_n a_L_fits_202 rfl).trans ((zd_iconst (v := 1) a_L_fits_203 (by decide)).trans ((zd_cal (kd := 0) (tg := 81) (T := m_T_fit) a_L_fits_204 (by decide +kernel) hm_T_fit rfl rfl (zmay_objh (zx_at sh_0) rfl) rfl).trans (((congrArg (zaft 127 207 [.ref 0, .int x1, .int x2, .int x3, .int x4, .int x5, .int x6, .int x7, v8, v9, .retAddr 0] [] (zSH ++ E, G)) (r81 hP sr_rf)).trans zaft_same).trans ((zd_istore a_L_fits_207 rfl rfl rfl).trans ((zd_iload a_L_fits_209 rfl).trans ((zd_iconst (v := 1) a_L_fits_211 (by decide)).trans ((zd_icmp_le a_L_fits_212 rfl).trans (zitc (fun p96 => rfl) (fun p96 => (zd_aload_n a_L_fits_215 rfl).trans ((zd_iload a_L_fits_216 rfl).trans ((zd_iconst (v := 0) a_L_fits_218 (by decide)).trans ((zd_cal (kd := 0) (tg := 73) (T := m_T_headingOf) a_L_fits_219 (by decide +kernel) hm_T_headingOf rfl rfl (zmay_objh (zx_at sh_0) rfl) rfl).trans (((congrArg (zaft 127 222 [.ref 0, .int x1, .int x2, .int x3, .int x4, .int x5, .int x6, .int (rv 81 x1 1), v8, v9, .retAddr 0] [] (zSH ++ E, G)) (r73 hP sr_rf)).trans zaft_same).trans ((zd_iconst (v := 4) a_L_fits_222 (by decide)).trans ((zd_icmp_ge a_L_fits_223 rfl).trans (zitc (fun p97 => rfl) (fun p97 => (zd_aload_n a_L_fits_226 rfl).trans ((zd_iload a_L_fits_227 rfl).trans ((zd_iconst (v := 0) a_L_fits_229 (by decide)).trans ((zd_cal (kd := 0) (tg := 73) (T := m_T_headingOf) a_L_fits_230 (by decide +kernel) hm_T_headingOf rfl rfl (zmay_objh (zx_at sh_0) rfl) rfl).trans (((congrArg (zaft 127 233 [.ref 0, .int x1, .int x2, .int x3, .int x4, .int x5, .int x6, .int (rv 81 x1 1), v8, v9, .retAddr 0] [] (zSH ++ E, G)) (r73 hP sr_rf)).trans zaft_same).trans ((zd_iconst (v := 4) a_L_fits_233 (by decide)).trans ((zd_icmp_ne a_L_fits_234 rfl).trans (zitc (fun p98 => rfl) (fun p98 => (zd_iconst (v := 1) a_L_fits_237 (by decide)).trans ((zd_goto a_L_fits_238 rfl))))))))))))))))))))))))))))) (fun p95 => (zd_aload_n a_L_fits_160 rfl).trans ((zd_iload_n a_L_fits_161 rfl).trans ((zd_iload a_L_fits_162 rfl).trans ((zd_cal (kd := 0) (tg := 81) (T := m_T_fit) a_L_fits_164 (by decide +kernel) hm_T_fit rfl rfl (zmay_objh (zx_at sh_0) rfl) rfl).trans (((congrArg (zaft 127 167 [.ref 0, .int x1, .int x2, .int x3, .int x4, .int x5, .int x6, .int x7, v8, v9, .retAddr 0] [] (zSH ++ E, G)) (r81 hP sr_rf)).trans zaft_same).trans ((zd_istore a_L_fits_167 rfl rfl rfl).trans ((zd_iload a_L_fits_169 rfl).trans ((zd_if_lt a_L_fits_171 rfl).trans (zitc (fun p99 => (zd_iconst (v := 0) a_L_fits_185 (by decide)).trans (zd_iret a_L_fits_186 rfl (by decide))) (fun p99 => (zd_aload_n a_L_fits_174 rfl).trans ((zd_iload a_L_fits_175 rfl).trans ((zd_cal (kd := 1) (tg := 128) (T := m_L_ahead) a_L_fits_177 (by decide +kernel) hm_L_ahead rfl rfl rfl rfl).trans (((congrArg (zaft 127 180 [.ref 0, .int x1, .int x2, .int x3, .int x4, .int x5, .int x6, .int x7, .int (rv 81 x1 x7), v9, .retAddr 0] [] (zSH ++ E, G)) (r128 hP sr_rf)).trans zaft_same).trans ((zd_iload a_L_fits_180 rfl).trans ((zd_icmp_lt a_L_fits_182 rfl).trans (zitc (fun p100 => (zd_aload_n a_L_fits_187 rfl).trans ((zd_iload a_L_fits_188 rfl).trans ((zd_cal (kd := 1) (tg := 128) (T := m_L_ahead) a_L_fits_190 (by decide +kernel) hm_L_ahead rfl rfl rfl rfl).trans (((congrArg (zaft 127 193 [.ref 0, .int x1, .int x2, .int x3, .int x4, .int x5, .int x6, .int x7, .int (rv 81 x1 x7), v9, .retAddr 0] [] (zSH ++ E, G)) (r128 hP sr_rf)).trans zaft_same).trans ((zd_istore a_L_fits_193 rfl rfl rfl).trans ((zd_iinc (v := 1) a_L_fits_195 rfl (by decide) rfl rfl rfl).trans ((zd_goto a_L_fits_198 rfl)))))))) (fun p100 => (zd_iconst (v := 0) a_L_fits_185 (by decide)).trans (zd_iret a_L_fits_186 rfl (by decide))))))))))))))))))))))
theorem B_L_fits_241 {E : List zS} {G : Nat → Nat → Int32} {x1 x2 x3 x4 x5 x6 x7 : Int32} {v8 v9 : Value} : zden 127 241 [.ref 0, .int x1, .int x2, .int x3, .int x4, .int x5, .int x6, .int x7, v8, v9, .retAddr 0] [] (zSH ++ E, G) = zden 127 242 [.ref 0, .int x1, .int x2, .int x3, .int x4, .int x5, .int x6, .int x7, v8, v9, .retAddr 0] [.int 0] (zSH ++ E, G) :=
  (zd_iconst (v := 0) a_L_fits_241 (by decide))
theorem B_L_fits_242 {E : List zS} {G : Nat → Nat → Int32} {rv : Nat → Int32 → Int32 → Int32} {x1 x2 x3 x4 x5 x6 x7 s0 : Int32} {v8 v9 : Value} (hP : RDs G rv) : zden 127 242 [.ref 0, .int x1, .int x2, .int x3, .int x4, .int x5, .int x6, .int x7, v8, v9, .retAddr 0] [.int s0] (zSH ++ E, G) = if x4 ≤ 1 then zden 127 276 [.ref 0, .int x1, .int x2, .int x3, .int x4, .int x5, .int x6, .int x7, .int s0, v9, .retAddr 0] [] (zSH ++ E, G) else if 3 ≤ (rv 73 x5 1) then zden 127 276 [.ref 0, .int x1, .int x2, .int x3, .int x4, .int x5, .int x6, .int x7, .int s0, v9, .retAddr 0] [] (zSH ++ E, G) else if ¬ (rv 73 x7 1) = 3 then zden 127 276 [.ref 0, .int x1, .int x2, .int x3, .int x4, .int x5, .int x6, .int x7, .int s0, v9, .retAddr 0] [] (zSH ++ E, G) else zden 127 277 [.ref 0, .int x1, .int x2, .int x3, .int x4, .int x5, .int x6, .int x7, .int s0, v9, .retAddr 0] [.int 1] (zSH ++ E, G) :=
  (zd_istore a_L_fits_242 rfl rfl rfl).trans ((zd_iload a_L_fits_244 rfl).trans ((zd_iconst (v := 1) a_L_fits_246 (by decide)).trans ((zd_icmp_le a_L_fits_247 rfl).trans (zitc (fun p101 => rfl) (fun p101 => (zd_aload_n a_L_fits_250 rfl).trans ((zd_iload a_L_fits_251 rfl).trans ((zd_iconst (v := 1) a_L_fits_253 (by decide)).trans ((zd_cal (kd := 0) (tg := 73) (T := m_T_headingOf) a_L_fits_254 (by decide +kernel) hm_T_headingOf rfl rfl (zmay_objh (zx_at sh_0) rfl) rfl).trans (((congrArg (zaft 127 257 [.ref 0, .int x1, .int x2, .int x3, .int x4, .int x5, .int x6, .int x7, .int s0, v9, .retAddr 0] [] (zSH ++ E, G)) (r73 hP sr_rf)).trans zaft_same).trans ((zd_iconst (v := 3) a_L_fits_257 (by decide)).trans ((zd_icmp_ge a_L_fits_258 rfl).trans (zitc (fun p102 => rfl) (fun p102 => (zd_aload_n a_L_fits_261 rfl).trans ((zd_iload a_L_fits_262 rfl).trans ((zd_iconst (v := 1) a_L_fits_264 (by decide)).trans ((zd_cal (kd := 0) (tg := 73) (T := m_T_headingOf) a_L_fits_265 (by decide +kernel) hm_T_headingOf rfl rfl (zmay_objh (zx_at sh_0) rfl) rfl).trans (((congrArg (zaft 127 268 [.ref 0, .int x1, .int x2, .int x3, .int x4, .int x5, .int x6, .int x7, .int s0, v9, .retAddr 0] [] (zSH ++ E, G)) (r73 hP sr_rf)).trans zaft_same).trans ((zd_iconst (v := 3) a_L_fits_268 (by decide)).trans ((zd_icmp_ne a_L_fits_269 rfl).trans (zitc (fun p103 => rfl) (fun p103 => (zd_iconst (v := 1) a_L_fits_272 (by decide)).trans ((zd_goto a_L_fits_273 rfl)))))))))))))))))))))))
theorem B_L_fits_276 {E : List zS} {G : Nat → Nat → Int32} {x1 x2 x3 x4 x5 x6 x7 x8 : Int32} {v9 : Value} : zden 127 276 [.ref 0, .int x1, .int x2, .int x3, .int x4, .int x5, .int x6, .int x7, .int x8, v9, .retAddr 0] [] (zSH ++ E, G) = zden 127 277 [.ref 0, .int x1, .int x2, .int x3, .int x4, .int x5, .int x6, .int x7, .int x8, v9, .retAddr 0] [.int 0] (zSH ++ E, G) :=
  (zd_iconst (v := 0) a_L_fits_276 (by decide))
theorem B_L_fits_277 {E : List zS} {G : Nat → Nat → Int32} {x1 x2 x3 x4 x5 x6 x7 x8 s0 : Int32} {v9 : Value} : zden 127 277 [.ref 0, .int x1, .int x2, .int x3, .int x4, .int x5, .int x6, .int x7, .int x8, v9, .retAddr 0] [.int s0] (zSH ++ E, G) = if ¬ x4 = 1 then if x8 = 0 then if s0 = 0 then if ¬ x7 = 99 then zden 127 319 [.ref 0, .int x1, .int x2, .int x3, .int x4, .int x5, .int x6, .int x7, .int x8, .int s0, .retAddr 0] [.int 3] (zSH ++ E, G) else zden 127 319 [.ref 0, .int x1, .int x2, .int x3, .int x4, .int x5, .int x6, .int x7, .int x8, .int s0, .retAddr 0] [.int 4] (zSH ++ E, G) else zden 127 319 [.ref 0, .int x1, .int x2, .int x3, .int x4, .int x5, .int x6, .int x7, .int x8, .int s0, .retAddr 0] [.int 2] (zSH ++ E, G) else zden 127 319 [.ref 0, .int x1, .int x2, .int x3, .int x4, .int x5, .int x6, .int x7, .int x8, .int s0, .retAddr 0] [.int 1] (zSH ++ E, G) else zden 127 319 [.ref 0, .int x1, .int x2, .int x3, .int x4, .int x5, .int x6, .int x7, .int x8, .int s0, .retAddr 0] [.int 0] (zSH ++ E, G) :=
  (zd_istore a_L_fits_277 rfl rfl rfl).trans ((zd_iload a_L_fits_279 rfl).trans ((zd_iconst (v := 1) a_L_fits_281 (by decide)).trans ((zd_icmp_ne a_L_fits_282 rfl).trans (zitc (fun p104 => (zd_iload a_L_fits_289 rfl).trans ((zd_if_eq a_L_fits_291 rfl).trans (zitc (fun p105 => (zd_iload a_L_fits_298 rfl).trans ((zd_if_eq a_L_fits_300 rfl).trans (zitc (fun p106 => (zd_iload a_L_fits_307 rfl).trans ((zd_bipush (v := 99) a_L_fits_309 (by decide)).trans ((zd_icmp_ne a_L_fits_311 rfl).trans (zitc (fun p107 => (zd_iconst (v := 3) a_L_fits_318 (by decide))) (fun p107 => (zd_iconst (v := 4) a_L_fits_314 (by decide)).trans ((zd_goto a_L_fits_315 rfl))))))) (fun p106 => (zd_iconst (v := 2) a_L_fits_303 (by decide)).trans ((zd_goto a_L_fits_304 rfl)))))) (fun p105 => (zd_iconst (v := 1) a_L_fits_294 (by decide)).trans ((zd_goto a_L_fits_295 rfl)))))) (fun p104 => (zd_iconst (v := 0) a_L_fits_285 (by decide)).trans ((zd_goto a_L_fits_286 rfl)))))))
theorem B_L_fits_319 {E : List zS} {G : Nat → Nat → Int32} {rv : Nat → Int32 → Int32 → Int32} {x1 x2 x3 x4 x5 x6 x7 x8 x9 s0 : Int32} (hP : RDs G rv) : zden 127 319 [.ref 0, .int x1, .int x2, .int x3, .int x4, .int x5, .int x6, .int x7, .int x8, .int x9, .retAddr 0] [.int s0] (zSH ++ E, G) = if ¬ x6 = 0 then some (some (.int 0), (zSH ++ E, G)) else if ¬ (rv 81 x1 x4) = (-11) then some (some (.int 0), (zSH ++ E, G)) else if ¬ (rv 81 x1 0) = x5 then some (some (.int 0), (zSH ++ E, G)) else if ¬ (rv 82 x1 0) = x5 then some (some (.int 0), (zSH ++ E, G)) else if ¬ (rv 78 x1 6) = x5 then some (some (.int 0), (zSH ++ E, G)) else if ¬ (rv 78 x1 4) = x2 then some (some (.int 0), (zSH ++ E, G)) else if ¬ (rv 83 x1 0) = s0 then some (some (.int 0), (zSH ++ E, G)) else some (some (.int 1), (zSH ++ E, G)) :=
  (zd_istore a_L_fits_319 rfl rfl rfl).trans ((zd_iload a_L_fits_321 rfl).trans ((zd_if_ne a_L_fits_323 rfl).trans (zitc (fun p108 => (zd_iconst (v := 0) a_L_fits_395 (by decide)).trans (zd_iret a_L_fits_396 rfl (by decide))) (fun p108 => (zd_aload_n a_L_fits_326 rfl).trans ((zd_iload_n a_L_fits_327 rfl).trans ((zd_iload a_L_fits_328 rfl).trans ((zd_cal (kd := 0) (tg := 81) (T := m_T_fit) a_L_fits_330 (by decide +kernel) hm_T_fit rfl rfl (zmay_objh (zx_at sh_0) rfl) rfl).trans (((congrArg (zaft 127 333 [.ref 0, .int x1, .int x2, .int x3, .int x4, .int x5, .int x6, .int x7, .int x8, .int x9, .int s0] [] (zSH ++ E, G)) (r81 hP sr_rf)).trans zaft_same).trans ((zd_bipush (v := (-11)) a_L_fits_333 (by decide)).trans ((zd_icmp_ne a_L_fits_335 rfl).trans (zitc (fun p109 => (zd_iconst (v := 0) a_L_fits_395 (by decide)).trans (zd_iret a_L_fits_396 rfl (by decide))) (fun p109 => (zd_aload_n a_L_fits_338 rfl).trans ((zd_iload_n a_L_fits_339 rfl).trans ((zd_iconst (v := 0) a_L_fits_340 (by decide)).trans ((zd_cal (kd := 0) (tg := 81) (T := m_T_fit) a_L_fits_341 (by decide +kernel) hm_T_fit rfl rfl (zmay_objh (zx_at sh_0) rfl) rfl).trans (((congrArg (zaft 127 344 [.ref 0, .int x1, .int x2, .int x3, .int x4, .int x5, .int x6, .int x7, .int x8, .int x9, .int s0] [] (zSH ++ E, G)) (r81 hP sr_rf)).trans zaft_same).trans ((zd_iload a_L_fits_344 rfl).trans ((zd_icmp_ne a_L_fits_346 rfl).trans (zitc (fun p110 => (zd_iconst (v := 0) a_L_fits_395 (by decide)).trans (zd_iret a_L_fits_396 rfl (by decide))) (fun p110 => (zd_aload_n a_L_fits_349 rfl).trans ((zd_iload_n a_L_fits_350 rfl).trans ((zd_cal (kd := 0) (tg := 82) (T := m_T_fitAgain) a_L_fits_351 (by decide +kernel) hm_T_fitAgain rfl rfl (zmay_objh (zx_at sh_0) rfl) rfl).trans (((congrArg (zaft 127 354 [.ref 0, .int x1, .int x2, .int x3, .int x4, .int x5, .int x6, .int x7, .int x8, .int x9, .int s0] [] (zSH ++ E, G)) (r82 hP sr_rf)).trans zaft_same).trans ((zd_iload a_L_fits_354 rfl).trans ((zd_icmp_ne a_L_fits_356 rfl).trans (zitc (fun p111 => (zd_iconst (v := 0) a_L_fits_395 (by decide)).trans (zd_iret a_L_fits_396 rfl (by decide))) (fun p111 => (zd_aload_n a_L_fits_359 rfl).trans ((zd_iload_n a_L_fits_360 rfl).trans ((zd_bipush (v := 6) a_L_fits_361 (by decide)).trans ((zd_cal (kd := 0) (tg := 78) (T := m_T_goodOf) a_L_fits_363 (by decide +kernel) hm_T_goodOf rfl rfl (zmay_objh (zx_at sh_0) rfl) rfl).trans (((congrArg (zaft 127 366 [.ref 0, .int x1, .int x2, .int x3, .int x4, .int x5, .int x6, .int x7, .int x8, .int x9, .int s0] [] (zSH ++ E, G)) (r78 hP sr_rf)).trans zaft_same).trans ((zd_iload a_L_fits_366 rfl).trans ((zd_icmp_ne a_L_fits_368 rfl).trans (zitc (fun p112 => (zd_iconst (v := 0) a_L_fits_395 (by decide)).trans (zd_iret a_L_fits_396 rfl (by decide))) (fun p112 => (zd_aload_n a_L_fits_371 rfl).trans ((zd_iload_n a_L_fits_372 rfl).trans ((zd_iconst (v := 4) a_L_fits_373 (by decide)).trans ((zd_cal (kd := 0) (tg := 78) (T := m_T_goodOf) a_L_fits_374 (by decide +kernel) hm_T_goodOf rfl rfl (zmay_objh (zx_at sh_0) rfl) rfl).trans (((congrArg (zaft 127 377 [.ref 0, .int x1, .int x2, .int x3, .int x4, .int x5, .int x6, .int x7, .int x8, .int x9, .int s0] [] (zSH ++ E, G)) (r78 hP sr_rf)).trans zaft_same).trans ((zd_iload_n a_L_fits_377 rfl).trans ((zd_icmp_ne a_L_fits_378 rfl).trans (zitc (fun p113 => (zd_iconst (v := 0) a_L_fits_395 (by decide)).trans (zd_iret a_L_fits_396 rfl (by decide))) (fun p113 => (zd_aload_n a_L_fits_381 rfl).trans ((zd_iload_n a_L_fits_382 rfl).trans ((zd_cal (kd := 0) (tg := 83) (T := m_T_why) a_L_fits_383 (by decide +kernel) hm_T_why rfl rfl (zmay_objh (zx_at sh_0) rfl) rfl).trans (((congrArg (zaft 127 386 [.ref 0, .int x1, .int x2, .int x3, .int x4, .int x5, .int x6, .int x7, .int x8, .int x9, .int s0] [] (zSH ++ E, G)) (r83 hP sr_rf)).trans zaft_same).trans ((zd_iload a_L_fits_386 rfl).trans ((zd_icmp_ne a_L_fits_388 rfl).trans (zitc (fun p114 => (zd_iconst (v := 0) a_L_fits_395 (by decide)).trans (zd_iret a_L_fits_396 rfl (by decide))) (fun p114 => (zd_iconst (v := 1) a_L_fits_391 (by decide)).trans ((zd_goto a_L_fits_392 rfl).trans (zd_iret a_L_fits_396 rfl (by decide)))))))))))))))))))))))))))))))))))))))))))))))))))))
