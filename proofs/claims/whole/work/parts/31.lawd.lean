abbrev bb_L_law : ByteArray := code
theorem dd_L_law_0 : decode bb_L_law 0 = .ok (.new 8, 3) := by decide +kernel
theorem dd_L_law_3 : decode bb_L_law 3 = .ok (.dup, 1) := by decide +kernel
theorem dd_L_law_4 : decode bb_L_law 4 = .ok (.invokespecial 55, 3) := by decide +kernel
theorem dd_L_law_7 : decode bb_L_law 7 = .ok (.astore_n 1, 1) := by decide +kernel
theorem dd_L_law_8 : decode bb_L_law 8 = .ok (.new 56, 3) := by decide +kernel
theorem dd_L_law_11 : decode bb_L_law 11 = .ok (.dup, 1) := by decide +kernel
theorem dd_L_law_12 : decode bb_L_law 12 = .ok (.invokespecial 58, 3) := by decide +kernel
theorem dd_L_law_15 : decode bb_L_law 15 = .ok (.astore_n 2, 1) := by decide +kernel
theorem dd_L_law_16 : decode bb_L_law 16 = .ok (.iconst 1, 1) := by decide +kernel
theorem dd_L_law_17 : decode bb_L_law 17 = .ok (.newarray .long, 2) := by decide +kernel
theorem dd_L_law_19 : decode bb_L_law 19 = .ok (.astore_n 3, 1) := by decide +kernel
theorem dd_L_law_20 : decode bb_L_law 20 = .ok (.iconst 0, 1) := by decide +kernel
theorem dd_L_law_21 : decode bb_L_law 21 = .ok (.istore 4, 2) := by decide +kernel
theorem dd_L_law_23 : decode bb_L_law 23 = .ok (.iload 4, 2) := by decide +kernel
theorem dd_L_law_25 : decode bb_L_law 25 = .ok (.aload_n 0, 1) := by decide +kernel
theorem dd_L_law_26 : decode bb_L_law 26 = .ok (.arraylength, 1) := by decide +kernel
theorem dd_L_law_27 : decode bb_L_law 27 = .ok (.iconst 4, 1) := by decide +kernel
theorem dd_L_law_28 : decode bb_L_law 28 = .ok (.isub, 1) := by decide +kernel
theorem dd_L_law_29 : decode bb_L_law 29 = .ok (.if_icmp .gt 875, 3) := by decide +kernel
theorem dd_L_law_32 : decode bb_L_law 32 = .ok (.aload_n 0, 1) := by decide +kernel
theorem dd_L_law_33 : decode bb_L_law 33 = .ok (.iload 4, 2) := by decide +kernel
theorem dd_L_law_35 : decode bb_L_law 35 = .ok (.iaload, 1) := by decide +kernel
theorem dd_L_law_36 : decode bb_L_law 36 = .ok (.bipush 31, 2) := by decide +kernel
theorem dd_L_law_38 : decode bb_L_law 38 = .ok (.iand, 1) := by decide +kernel
theorem dd_L_law_39 : decode bb_L_law 39 = .ok (.tableswitch 859 0 17 #[85, 96, 164, 244, 324, 368, 381, 406, 419, 432, 445, 489, 545, 596, 640, 684, 728, 803], 85) := by decide +kernel
theorem dd_L_law_124 : decode bb_L_law 124 = .ok (.aload_n 1, 1) := by decide +kernel
theorem dd_L_law_125 : decode bb_L_law 125 = .ok (.invokevirtual 59, 3) := by decide +kernel
theorem dd_L_law_128 : decode bb_L_law 128 = .ok (.aload_n 2, 1) := by decide +kernel
theorem dd_L_law_129 : decode bb_L_law 129 = .ok (.invokevirtual 62, 3) := by decide +kernel
theorem dd_L_law_132 : decode bb_L_law 132 = .ok (.goto 766, 3) := by decide +kernel
theorem dd_L_law_135 : decode bb_L_law 135 = .ok (.aload_n 1, 1) := by decide +kernel
theorem dd_L_law_136 : decode bb_L_law 136 = .ok (.aload_n 0, 1) := by decide +kernel
theorem dd_L_law_137 : decode bb_L_law 137 = .ok (.iload 4, 2) := by decide +kernel
theorem dd_L_law_139 : decode bb_L_law 139 = .ok (.iconst 1, 1) := by decide +kernel
theorem dd_L_law_140 : decode bb_L_law 140 = .ok (.iadd, 1) := by decide +kernel
theorem dd_L_law_141 : decode bb_L_law 141 = .ok (.iaload, 1) := by decide +kernel
theorem dd_L_law_142 : decode bb_L_law 142 = .ok (.aload_n 0, 1) := by decide +kernel
theorem dd_L_law_143 : decode bb_L_law 143 = .ok (.iload 4, 2) := by decide +kernel
theorem dd_L_law_145 : decode bb_L_law 145 = .ok (.iconst 2, 1) := by decide +kernel
theorem dd_L_law_146 : decode bb_L_law 146 = .ok (.iadd, 1) := by decide +kernel
theorem dd_L_law_147 : decode bb_L_law 147 = .ok (.iaload, 1) := by decide +kernel
theorem dd_L_law_148 : decode bb_L_law 148 = .ok (.aload_n 3, 1) := by decide +kernel
theorem dd_L_law_149 : decode bb_L_law 149 = .ok (.invokestatic 63, 3) := by decide +kernel
theorem dd_L_law_152 : decode bb_L_law 152 = .ok (.istore 5, 2) := by decide +kernel
theorem dd_L_law_154 : decode bb_L_law 154 = .ok (.aload_n 2, 1) := by decide +kernel
theorem dd_L_law_155 : decode bb_L_law 155 = .ok (.aload_n 0, 1) := by decide +kernel
theorem dd_L_law_156 : decode bb_L_law 156 = .ok (.iload 4, 2) := by decide +kernel
theorem dd_L_law_158 : decode bb_L_law 158 = .ok (.iconst 1, 1) := by decide +kernel
theorem dd_L_law_159 : decode bb_L_law 159 = .ok (.iadd, 1) := by decide +kernel
theorem dd_L_law_160 : decode bb_L_law 160 = .ok (.iaload, 1) := by decide +kernel
theorem dd_L_law_161 : decode bb_L_law 161 = .ok (.aload_n 0, 1) := by decide +kernel
theorem dd_L_law_162 : decode bb_L_law 162 = .ok (.iload 4, 2) := by decide +kernel
theorem dd_L_law_164 : decode bb_L_law 164 = .ok (.iconst 2, 1) := by decide +kernel
theorem dd_L_law_165 : decode bb_L_law 165 = .ok (.iadd, 1) := by decide +kernel
theorem dd_L_law_166 : decode bb_L_law 166 = .ok (.iaload, 1) := by decide +kernel
theorem dd_L_law_167 : decode bb_L_law 167 = .ok (.invokevirtual 68, 3) := by decide +kernel
theorem dd_L_law_170 : decode bb_L_law 170 = .ok (.istore 6, 2) := by decide +kernel
theorem dd_L_law_172 : decode bb_L_law 172 = .ok (.aload_n 2, 1) := by decide +kernel
theorem dd_L_law_173 : decode bb_L_law 173 = .ok (.invokevirtual 69, 3) := by decide +kernel
theorem dd_L_law_176 : decode bb_L_law 176 = .ok (.iload 5, 2) := by decide +kernel
theorem dd_L_law_178 : decode bb_L_law 178 = .ok (.if_icmp .eq 5, 3) := by decide +kernel
theorem dd_L_law_181 : decode bb_L_law 181 = .ok (.iconst 0, 1) := by decide +kernel
theorem dd_L_law_182 : decode bb_L_law 182 = .ok (.ireturn, 1) := by decide +kernel
theorem dd_L_law_183 : decode bb_L_law 183 = .ok (.iload 5, 2) := by decide +kernel
theorem dd_L_law_185 : decode bb_L_law 185 = .ok (.ifCond .ne 15, 3) := by decide +kernel
theorem dd_L_law_188 : decode bb_L_law 188 = .ok (.aload_n 3, 1) := by decide +kernel
theorem dd_L_law_189 : decode bb_L_law 189 = .ok (.iconst 0, 1) := by decide +kernel
theorem dd_L_law_190 : decode bb_L_law 190 = .ok (.laload, 1) := by decide +kernel
theorem dd_L_law_191 : decode bb_L_law 191 = .ok (.iload 6, 2) := by decide +kernel
theorem dd_L_law_193 : decode bb_L_law 193 = .ok (.i2l, 1) := by decide +kernel
theorem dd_L_law_194 : decode bb_L_law 194 = .ok (.lcmp, 1) := by decide +kernel
theorem dd_L_law_195 : decode bb_L_law 195 = .ok (.ifCond .eq 5, 3) := by decide +kernel
theorem dd_L_law_198 : decode bb_L_law 198 = .ok (.iconst 0, 1) := by decide +kernel
theorem dd_L_law_199 : decode bb_L_law 199 = .ok (.ireturn, 1) := by decide +kernel
theorem dd_L_law_200 : decode bb_L_law 200 = .ok (.goto 698, 3) := by decide +kernel
theorem dd_L_law_203 : decode bb_L_law 203 = .ok (.aload_n 1, 1) := by decide +kernel
theorem dd_L_law_204 : decode bb_L_law 204 = .ok (.aload_n 0, 1) := by decide +kernel
theorem dd_L_law_205 : decode bb_L_law 205 = .ok (.iload 4, 2) := by decide +kernel
theorem dd_L_law_207 : decode bb_L_law 207 = .ok (.iconst 1, 1) := by decide +kernel
theorem dd_L_law_208 : decode bb_L_law 208 = .ok (.iadd, 1) := by decide +kernel
theorem dd_L_law_209 : decode bb_L_law 209 = .ok (.iaload, 1) := by decide +kernel
theorem dd_L_law_210 : decode bb_L_law 210 = .ok (.aload_n 0, 1) := by decide +kernel
theorem dd_L_law_211 : decode bb_L_law 211 = .ok (.iload 4, 2) := by decide +kernel
theorem dd_L_law_213 : decode bb_L_law 213 = .ok (.iconst 2, 1) := by decide +kernel
theorem dd_L_law_214 : decode bb_L_law 214 = .ok (.iadd, 1) := by decide +kernel
theorem dd_L_law_215 : decode bb_L_law 215 = .ok (.iaload, 1) := by decide +kernel
theorem dd_L_law_216 : decode bb_L_law 216 = .ok (.aload_n 0, 1) := by decide +kernel
theorem dd_L_law_217 : decode bb_L_law 217 = .ok (.iload 4, 2) := by decide +kernel
theorem dd_L_law_219 : decode bb_L_law 219 = .ok (.iconst 3, 1) := by decide +kernel
theorem dd_L_law_220 : decode bb_L_law 220 = .ok (.iadd, 1) := by decide +kernel
theorem dd_L_law_221 : decode bb_L_law 221 = .ok (.iaload, 1) := by decide +kernel
theorem dd_L_law_222 : decode bb_L_law 222 = .ok (.aload_n 3, 1) := by decide +kernel
theorem dd_L_law_223 : decode bb_L_law 223 = .ok (.invokestatic 72, 3) := by decide +kernel
theorem dd_L_law_226 : decode bb_L_law 226 = .ok (.istore 5, 2) := by decide +kernel
theorem dd_L_law_228 : decode bb_L_law 228 = .ok (.aload_n 2, 1) := by decide +kernel
theorem dd_L_law_229 : decode bb_L_law 229 = .ok (.aload_n 0, 1) := by decide +kernel
theorem dd_L_law_230 : decode bb_L_law 230 = .ok (.iload 4, 2) := by decide +kernel
theorem dd_L_law_232 : decode bb_L_law 232 = .ok (.iconst 1, 1) := by decide +kernel
theorem dd_L_law_233 : decode bb_L_law 233 = .ok (.iadd, 1) := by decide +kernel
theorem dd_L_law_234 : decode bb_L_law 234 = .ok (.iaload, 1) := by decide +kernel
theorem dd_L_law_235 : decode bb_L_law 235 = .ok (.aload_n 0, 1) := by decide +kernel
theorem dd_L_law_236 : decode bb_L_law 236 = .ok (.iload 4, 2) := by decide +kernel
theorem dd_L_law_238 : decode bb_L_law 238 = .ok (.iconst 2, 1) := by decide +kernel
theorem dd_L_law_239 : decode bb_L_law 239 = .ok (.iadd, 1) := by decide +kernel
theorem dd_L_law_240 : decode bb_L_law 240 = .ok (.iaload, 1) := by decide +kernel
theorem dd_L_law_241 : decode bb_L_law 241 = .ok (.aload_n 0, 1) := by decide +kernel
theorem dd_L_law_242 : decode bb_L_law 242 = .ok (.iload 4, 2) := by decide +kernel
theorem dd_L_law_244 : decode bb_L_law 244 = .ok (.iconst 3, 1) := by decide +kernel
theorem dd_L_law_245 : decode bb_L_law 245 = .ok (.iadd, 1) := by decide +kernel
theorem dd_L_law_246 : decode bb_L_law 246 = .ok (.iaload, 1) := by decide +kernel
theorem dd_L_law_247 : decode bb_L_law 247 = .ok (.invokevirtual 75, 3) := by decide +kernel
theorem dd_L_law_250 : decode bb_L_law 250 = .ok (.istore 6, 2) := by decide +kernel
theorem dd_L_law_252 : decode bb_L_law 252 = .ok (.aload_n 2, 1) := by decide +kernel
theorem dd_L_law_253 : decode bb_L_law 253 = .ok (.invokevirtual 69, 3) := by decide +kernel
theorem dd_L_law_256 : decode bb_L_law 256 = .ok (.iload 5, 2) := by decide +kernel
theorem dd_L_law_258 : decode bb_L_law 258 = .ok (.if_icmp .eq 5, 3) := by decide +kernel
theorem dd_L_law_261 : decode bb_L_law 261 = .ok (.iconst 0, 1) := by decide +kernel
theorem dd_L_law_262 : decode bb_L_law 262 = .ok (.ireturn, 1) := by decide +kernel
theorem dd_L_law_263 : decode bb_L_law 263 = .ok (.iload 5, 2) := by decide +kernel
theorem dd_L_law_265 : decode bb_L_law 265 = .ok (.ifCond .ne 15, 3) := by decide +kernel
theorem dd_L_law_268 : decode bb_L_law 268 = .ok (.aload_n 3, 1) := by decide +kernel
theorem dd_L_law_269 : decode bb_L_law 269 = .ok (.iconst 0, 1) := by decide +kernel
theorem dd_L_law_270 : decode bb_L_law 270 = .ok (.laload, 1) := by decide +kernel
theorem dd_L_law_271 : decode bb_L_law 271 = .ok (.iload 6, 2) := by decide +kernel
theorem dd_L_law_273 : decode bb_L_law 273 = .ok (.i2l, 1) := by decide +kernel
theorem dd_L_law_274 : decode bb_L_law 274 = .ok (.lcmp, 1) := by decide +kernel
theorem dd_L_law_275 : decode bb_L_law 275 = .ok (.ifCond .eq 5, 3) := by decide +kernel
theorem dd_L_law_278 : decode bb_L_law 278 = .ok (.iconst 0, 1) := by decide +kernel
theorem dd_L_law_279 : decode bb_L_law 279 = .ok (.ireturn, 1) := by decide +kernel
