theorem dL_does_160 : decode cL_does 160 = .ok (.iload 6, 2) := by decide +kernel
theorem dL_does_162 : decode cL_does 162 = .ok (.iconst 1, 1) := by decide +kernel
theorem dL_does_163 : decode cL_does 163 = .ok (.if_icmp .eq 19, 3) := by decide +kernel
theorem dL_does_166 : decode cL_does 166 = .ok (.iload 6, 2) := by decide +kernel
theorem dL_does_168 : decode cL_does 168 = .ok (.iconst 2, 1) := by decide +kernel
theorem dL_does_169 : decode cL_does 169 = .ok (.if_icmp .ne 17, 3) := by decide +kernel
theorem dL_does_172 : decode cL_does 172 = .ok (.aload_n 0, 1) := by decide +kernel
theorem dL_does_173 : decode cL_does 173 = .ok (.bipush 9, 2) := by decide +kernel
theorem dL_does_175 : decode cL_does 175 = .ok (.invokevirtual 15, 3) := by decide +kernel
theorem dL_does_178 : decode cL_does 178 = .ok (.iload_n 2, 1) := by decide +kernel
theorem dL_does_179 : decode cL_does 179 = .ok (.if_icmp .ne 7, 3) := by decide +kernel
theorem dL_does_182 : decode cL_does 182 = .ok (.iconst 1, 1) := by decide +kernel
theorem dL_does_183 : decode cL_does 183 = .ok (.goto 4, 3) := by decide +kernel
theorem dL_does_186 : decode cL_does 186 = .ok (.iconst 0, 1) := by decide +kernel
theorem dL_does_187 : decode cL_does 187 = .ok (.ireturn, 1) := by decide +kernel
theorem dL_does_188 : decode cL_does 188 = .ok (.iload_n 3, 1) := by decide +kernel
theorem dL_does_189 : decode cL_does 189 = .ok (.iconst 4, 1) := by decide +kernel
theorem dL_does_190 : decode cL_does 190 = .ok (.if_icmp .ne 38, 3) := by decide +kernel
theorem dL_does_193 : decode cL_does 193 = .ok (.aload_n 0, 1) := by decide +kernel
theorem dL_does_194 : decode cL_does 194 = .ok (.iload_n 2, 1) := by decide +kernel
theorem dL_does_195 : decode cL_does 195 = .ok (.iconst 4, 1) := by decide +kernel
theorem dL_does_196 : decode cL_does 196 = .ok (.invokevirtual 34, 3) := by decide +kernel
theorem dL_does_199 : decode cL_does 199 = .ok (.istore 4, 2) := by decide +kernel
theorem dL_does_201 : decode cL_does 201 = .ok (.aload_n 0, 1) := by decide +kernel
theorem dL_does_202 : decode cL_does 202 = .ok (.iload_n 2, 1) := by decide +kernel
theorem dL_does_203 : decode cL_does 203 = .ok (.invokevirtual 80, 3) := by decide +kernel
theorem dL_does_206 : decode cL_does 206 = .ok (.istore 5, 2) := by decide +kernel
theorem dL_does_208 : decode cL_does 208 = .ok (.iload 5, 2) := by decide +kernel
theorem dL_does_210 : decode cL_does 210 = .ok (.bipush (-6), 2) := by decide +kernel
theorem dL_does_212 : decode cL_does 212 = .ok (.if_icmp .eq 10, 3) := by decide +kernel
theorem dL_does_215 : decode cL_does 215 = .ok (.iload 5, 2) := by decide +kernel
theorem dL_does_217 : decode cL_does 217 = .ok (.iload 4, 2) := by decide +kernel
theorem dL_does_219 : decode cL_does 219 = .ok (.if_icmp .ne 7, 3) := by decide +kernel
theorem dL_does_222 : decode cL_does 222 = .ok (.iconst 1, 1) := by decide +kernel
theorem dL_does_223 : decode cL_does 223 = .ok (.goto 4, 3) := by decide +kernel
theorem dL_does_226 : decode cL_does 226 = .ok (.iconst 0, 1) := by decide +kernel
theorem dL_does_227 : decode cL_does 227 = .ok (.ireturn, 1) := by decide +kernel
theorem dL_does_228 : decode cL_does 228 = .ok (.aload_n 0, 1) := by decide +kernel
theorem dL_does_229 : decode cL_does 229 = .ok (.invokevirtual 83, 3) := by decide +kernel
theorem dL_does_232 : decode cL_does 232 = .ok (.istore 4, 2) := by decide +kernel
theorem dL_does_234 : decode cL_does 234 = .ok (.iload 4, 2) := by decide +kernel
theorem dL_does_236 : decode cL_does 236 = .ok (.bipush (-6), 2) := by decide +kernel
theorem dL_does_238 : decode cL_does 238 = .ok (.if_icmp .eq 16, 3) := by decide +kernel
theorem dL_does_241 : decode cL_does 241 = .ok (.iload 4, 2) := by decide +kernel
theorem dL_does_243 : decode cL_does 243 = .ok (.iload_n 1, 1) := by decide +kernel
theorem dL_does_244 : decode cL_does 244 = .ok (.if_icmp .eq 10, 3) := by decide +kernel
theorem dL_does_247 : decode cL_does 247 = .ok (.iload 4, 2) := by decide +kernel
theorem dL_does_249 : decode cL_does 249 = .ok (.bipush (-3), 2) := by decide +kernel
theorem dL_does_251 : decode cL_does 251 = .ok (.if_icmp .ne 7, 3) := by decide +kernel
theorem dL_does_254 : decode cL_does 254 = .ok (.iconst 1, 1) := by decide +kernel
theorem dL_does_255 : decode cL_does 255 = .ok (.goto 4, 3) := by decide +kernel
theorem dL_does_258 : decode cL_does 258 = .ok (.iconst 0, 1) := by decide +kernel
theorem dL_does_259 : decode cL_does 259 = .ok (.ireturn, 1) := by decide +kernel
theorem dL_acts_0 : decode cL_acts 0 = .ok (.iload_n 1, 1) := by decide +kernel
theorem dL_acts_1 : decode cL_acts 1 = .ok (.bipush 7, 2) := by decide +kernel
theorem dL_acts_3 : decode cL_acts 3 = .ok (.invokestatic 54, 3) := by decide +kernel
theorem dL_acts_6 : decode cL_acts 6 = .ok (.istore_n 3, 1) := by decide +kernel
theorem dL_acts_7 : decode cL_acts 7 = .ok (.aload_n 0, 1) := by decide +kernel
theorem dL_acts_8 : decode cL_acts 8 = .ok (.iconst 5, 1) := by decide +kernel
theorem dL_acts_9 : decode cL_acts 9 = .ok (.invokevirtual 15, 3) := by decide +kernel
theorem dL_acts_12 : decode cL_acts 12 = .ok (.istore 4, 2) := by decide +kernel
theorem dL_acts_14 : decode cL_acts 14 = .ok (.aload_n 0, 1) := by decide +kernel
theorem dL_acts_15 : decode cL_acts 15 = .ok (.iconst 2, 1) := by decide +kernel
theorem dL_acts_16 : decode cL_acts 16 = .ok (.invokevirtual 28, 3) := by decide +kernel
theorem dL_acts_19 : decode cL_acts 19 = .ok (.istore 5, 2) := by decide +kernel
theorem dL_acts_21 : decode cL_acts 21 = .ok (.aload_n 0, 1) := by decide +kernel
theorem dL_acts_22 : decode cL_acts 22 = .ok (.iconst 0, 1) := by decide +kernel
theorem dL_acts_23 : decode cL_acts 23 = .ok (.invokevirtual 28, 3) := by decide +kernel
theorem dL_acts_26 : decode cL_acts 26 = .ok (.iconst 2, 1) := by decide +kernel
theorem dL_acts_27 : decode cL_acts 27 = .ok (.idiv, 1) := by decide +kernel
theorem dL_acts_28 : decode cL_acts 28 = .ok (.istore 6, 2) := by decide +kernel
theorem dL_acts_30 : decode cL_acts 30 = .ok (.aload_n 0, 1) := by decide +kernel
theorem dL_acts_31 : decode cL_acts 31 = .ok (.invokevirtual 86, 3) := by decide +kernel
theorem dL_acts_34 : decode cL_acts 34 = .ok (.istore 7, 2) := by decide +kernel
theorem dL_acts_36 : decode cL_acts 36 = .ok (.aload_n 0, 1) := by decide +kernel
theorem dL_acts_37 : decode cL_acts 37 = .ok (.bipush 7, 2) := by decide +kernel
theorem dL_acts_39 : decode cL_acts 39 = .ok (.invokevirtual 15, 3) := by decide +kernel
theorem dL_acts_42 : decode cL_acts 42 = .ok (.istore 8, 2) := by decide +kernel
theorem dL_acts_44 : decode cL_acts 44 = .ok (.iload_n 3, 1) := by decide +kernel
theorem dL_acts_45 : decode cL_acts 45 = .ok (.iconst 3, 1) := by decide +kernel
theorem dL_acts_46 : decode cL_acts 46 = .ok (.if_icmp .ge 25, 3) := by decide +kernel
theorem dL_acts_49 : decode cL_acts 49 = .ok (.iload 7, 2) := by decide +kernel
theorem dL_acts_51 : decode cL_acts 51 = .ok (.bipush (-5), 2) := by decide +kernel
theorem dL_acts_53 : decode cL_acts 53 = .ok (.if_icmp .eq 12, 3) := by decide +kernel
theorem dL_acts_56 : decode cL_acts 56 = .ok (.aload_n 0, 1) := by decide +kernel
theorem dL_acts_57 : decode cL_acts 57 = .ok (.iload 7, 2) := by decide +kernel
theorem dL_acts_59 : decode cL_acts 59 = .ok (.invokestatic 89, 3) := by decide +kernel
theorem dL_acts_62 : decode cL_acts 62 = .ok (.ifCond .eq 7, 3) := by decide +kernel
theorem dL_acts_65 : decode cL_acts 65 = .ok (.iconst 1, 1) := by decide +kernel
theorem dL_acts_66 : decode cL_acts 66 = .ok (.goto 4, 3) := by decide +kernel
theorem dL_acts_69 : decode cL_acts 69 = .ok (.iconst 0, 1) := by decide +kernel
theorem dL_acts_70 : decode cL_acts 70 = .ok (.ireturn, 1) := by decide +kernel
theorem dL_acts_71 : decode cL_acts 71 = .ok (.iload_n 3, 1) := by decide +kernel
theorem dL_acts_72 : decode cL_acts 72 = .ok (.iconst 3, 1) := by decide +kernel
theorem dL_acts_73 : decode cL_acts 73 = .ok (.if_icmp .ne 30, 3) := by decide +kernel
theorem dL_acts_76 : decode cL_acts 76 = .ok (.aload_n 0, 1) := by decide +kernel
theorem dL_acts_77 : decode cL_acts 77 = .ok (.iconst 1, 1) := by decide +kernel
theorem dL_acts_78 : decode cL_acts 78 = .ok (.iload_n 2, 1) := by decide +kernel
theorem dL_acts_79 : decode cL_acts 79 = .ok (.bipush 9, 2) := by decide +kernel
theorem dL_acts_81 : decode cL_acts 81 = .ok (.invokestatic 54, 3) := by decide +kernel
theorem dL_acts_84 : decode cL_acts 84 = .ok (.iadd, 1) := by decide +kernel
theorem dL_acts_85 : decode cL_acts 85 = .ok (.invokevirtual 92, 3) := by decide +kernel
theorem dL_acts_88 : decode cL_acts 88 = .ok (.istore 9, 2) := by decide +kernel
theorem dL_acts_90 : decode cL_acts 90 = .ok (.iconst 1, 1) := by decide +kernel
theorem dL_acts_91 : decode cL_acts 91 = .ok (.iload_n 2, 1) := by decide +kernel
theorem dL_acts_92 : decode cL_acts 92 = .ok (.bipush 9, 2) := by decide +kernel
theorem dL_acts_94 : decode cL_acts 94 = .ok (.invokestatic 54, 3) := by decide +kernel
theorem dL_acts_97 : decode cL_acts 97 = .ok (.iadd, 1) := by decide +kernel
theorem dL_acts_98 : decode cL_acts 98 = .ok (.istore 10, 2) := by decide +kernel
theorem dL_acts_100 : decode cL_acts 100 = .ok (.goto 400, 3) := by decide +kernel
theorem dL_acts_103 : decode cL_acts 103 = .ok (.iload_n 3, 1) := by decide +kernel
theorem dL_acts_104 : decode cL_acts 104 = .ok (.iconst 4, 1) := by decide +kernel
theorem dL_acts_105 : decode cL_acts 105 = .ok (.if_icmp .ne 76, 3) := by decide +kernel
theorem dL_acts_108 : decode cL_acts 108 = .ok (.aload_n 0, 1) := by decide +kernel
theorem dL_acts_109 : decode cL_acts 109 = .ok (.iconst 3, 1) := by decide +kernel
theorem dL_acts_110 : decode cL_acts 110 = .ok (.invokevirtual 28, 3) := by decide +kernel
theorem dL_acts_113 : decode cL_acts 113 = .ok (.istore 11, 2) := by decide +kernel
theorem dL_acts_115 : decode cL_acts 115 = .ok (.aload_n 0, 1) := by decide +kernel
theorem dL_acts_116 : decode cL_acts 116 = .ok (.bipush 13, 2) := by decide +kernel
theorem dL_acts_118 : decode cL_acts 118 = .ok (.invokevirtual 15, 3) := by decide +kernel
theorem dL_acts_121 : decode cL_acts 121 = .ok (.istore 12, 2) := by decide +kernel
theorem dL_acts_123 : decode cL_acts 123 = .ok (.aload_n 0, 1) := by decide +kernel
theorem dL_acts_124 : decode cL_acts 124 = .ok (.invokevirtual 83, 3) := by decide +kernel
theorem dL_acts_127 : decode cL_acts 127 = .ok (.istore 9, 2) := by decide +kernel
theorem dL_acts_129 : decode cL_acts 129 = .ok (.iload 11, 2) := by decide +kernel
theorem dL_acts_131 : decode cL_acts 131 = .ok (.iload 12, 2) := by decide +kernel
theorem dL_acts_133 : decode cL_acts 133 = .ok (.if_icmp .eq 10, 3) := by decide +kernel
theorem dL_acts_136 : decode cL_acts 136 = .ok (.iload 7, 2) := by decide +kernel
theorem dL_acts_138 : decode cL_acts 138 = .ok (.bipush (-5), 2) := by decide +kernel
theorem dL_acts_140 : decode cL_acts 140 = .ok (.if_icmp .ne 7, 3) := by decide +kernel
theorem dL_acts_143 : decode cL_acts 143 = .ok (.iconst 0, 1) := by decide +kernel
theorem dL_acts_144 : decode cL_acts 144 = .ok (.goto 4, 3) := by decide +kernel
theorem dL_acts_147 : decode cL_acts 147 = .ok (.iconst 2, 1) := by decide +kernel
theorem dL_acts_148 : decode cL_acts 148 = .ok (.istore 10, 2) := by decide +kernel
theorem dL_acts_150 : decode cL_acts 150 = .ok (.iload 9, 2) := by decide +kernel
theorem dL_acts_152 : decode cL_acts 152 = .ok (.bipush (-6), 2) := by decide +kernel
theorem dL_acts_154 : decode cL_acts 154 = .ok (.if_icmp .eq 24, 3) := by decide +kernel
theorem dL_acts_157 : decode cL_acts 157 = .ok (.iload 9, 2) := by decide +kernel
theorem dL_acts_159 : decode cL_acts 159 = .ok (.iload 11, 2) := by decide +kernel
theorem dL_acts_161 : decode cL_acts 161 = .ok (.iload 12, 2) := by decide +kernel
theorem dL_acts_163 : decode cL_acts 163 = .ok (.if_icmp .ne 8, 3) := by decide +kernel
theorem dL_acts_166 : decode cL_acts 166 = .ok (.bipush (-3), 2) := by decide +kernel
theorem dL_acts_168 : decode cL_acts 168 = .ok (.goto 5, 3) := by decide +kernel
theorem dL_acts_171 : decode cL_acts 171 = .ok (.iload 7, 2) := by decide +kernel
theorem dL_acts_173 : decode cL_acts 173 = .ok (.if_icmp .eq 5, 3) := by decide +kernel
theorem dL_acts_176 : decode cL_acts 176 = .ok (.iconst 0, 1) := by decide +kernel
theorem dL_acts_177 : decode cL_acts 177 = .ok (.ireturn, 1) := by decide +kernel
theorem dL_acts_178 : decode cL_acts 178 = .ok (.goto 322, 3) := by decide +kernel
theorem dL_acts_181 : decode cL_acts 181 = .ok (.iload_n 3, 1) := by decide +kernel
theorem dL_acts_182 : decode cL_acts 182 = .ok (.iconst 5, 1) := by decide +kernel
theorem dL_acts_183 : decode cL_acts 183 = .ok (.if_icmp .ne 156, 3) := by decide +kernel
theorem dL_acts_186 : decode cL_acts 186 = .ok (.aload_n 0, 1) := by decide +kernel
theorem dL_acts_187 : decode cL_acts 187 = .ok (.iconst 0, 1) := by decide +kernel
theorem dL_acts_188 : decode cL_acts 188 = .ok (.invokevirtual 15, 3) := by decide +kernel
theorem dL_acts_191 : decode cL_acts 191 = .ok (.iconst 1, 1) := by decide +kernel
theorem dL_acts_192 : decode cL_acts 192 = .ok (.if_icmp .le 147, 3) := by decide +kernel
theorem dL_acts_195 : decode cL_acts 195 = .ok (.iconst 1, 1) := by decide +kernel
theorem dL_acts_196 : decode cL_acts 196 = .ok (.iload_n 2, 1) := by decide +kernel
theorem dL_acts_197 : decode cL_acts 197 = .ok (.aload_n 0, 1) := by decide +kernel
theorem dL_acts_198 : decode cL_acts 198 = .ok (.iconst 0, 1) := by decide +kernel
theorem dL_acts_199 : decode cL_acts 199 = .ok (.invokevirtual 15, 3) := by decide +kernel
theorem dL_acts_202 : decode cL_acts 202 = .ok (.iconst 1, 1) := by decide +kernel
theorem dL_acts_203 : decode cL_acts 203 = .ok (.isub, 1) := by decide +kernel
theorem dL_acts_204 : decode cL_acts 204 = .ok (.invokestatic 54, 3) := by decide +kernel
theorem dL_acts_207 : decode cL_acts 207 = .ok (.iadd, 1) := by decide +kernel
theorem dL_acts_208 : decode cL_acts 208 = .ok (.istore 11, 2) := by decide +kernel
theorem dL_acts_210 : decode cL_acts 210 = .ok (.aload_n 0, 1) := by decide +kernel
theorem dL_acts_211 : decode cL_acts 211 = .ok (.iload 11, 2) := by decide +kernel
theorem dL_acts_213 : decode cL_acts 213 = .ok (.iconst 1, 1) := by decide +kernel
theorem dL_acts_214 : decode cL_acts 214 = .ok (.invokevirtual 9, 3) := by decide +kernel
theorem dL_acts_217 : decode cL_acts 217 = .ok (.iconst 2, 1) := by decide +kernel
theorem dL_acts_218 : decode cL_acts 218 = .ok (.if_icmp .ne 7, 3) := by decide +kernel
theorem dL_acts_221 : decode cL_acts 221 = .ok (.iconst 1, 1) := by decide +kernel
theorem dL_acts_222 : decode cL_acts 222 = .ok (.goto 4, 3) := by decide +kernel
theorem dL_acts_225 : decode cL_acts 225 = .ok (.iconst 0, 1) := by decide +kernel
theorem dL_acts_226 : decode cL_acts 226 = .ok (.istore 12, 2) := by decide +kernel
theorem dL_acts_228 : decode cL_acts 228 = .ok (.aload_n 0, 1) := by decide +kernel
theorem dL_acts_229 : decode cL_acts 229 = .ok (.iload 11, 2) := by decide +kernel
theorem dL_acts_231 : decode cL_acts 231 = .ok (.iconst 2, 1) := by decide +kernel
theorem dL_acts_232 : decode cL_acts 232 = .ok (.invokevirtual 9, 3) := by decide +kernel
theorem dL_acts_235 : decode cL_acts 235 = .ok (.ifCond .ne 18, 3) := by decide +kernel
theorem dL_acts_238 : decode cL_acts 238 = .ok (.aload_n 0, 1) := by decide +kernel
theorem dL_acts_239 : decode cL_acts 239 = .ok (.iload 11, 2) := by decide +kernel
theorem dL_acts_241 : decode cL_acts 241 = .ok (.iconst 3, 1) := by decide +kernel
theorem dL_acts_242 : decode cL_acts 242 = .ok (.invokevirtual 9, 3) := by decide +kernel
theorem dL_acts_245 : decode cL_acts 245 = .ok (.iconst 1, 1) := by decide +kernel
theorem dL_acts_246 : decode cL_acts 246 = .ok (.if_icmp .ne 7, 3) := by decide +kernel
theorem dL_acts_249 : decode cL_acts 249 = .ok (.iconst 1, 1) := by decide +kernel
theorem dL_acts_250 : decode cL_acts 250 = .ok (.goto 4, 3) := by decide +kernel
theorem dL_acts_253 : decode cL_acts 253 = .ok (.iconst 0, 1) := by decide +kernel
theorem dL_acts_254 : decode cL_acts 254 = .ok (.istore 13, 2) := by decide +kernel
theorem dL_acts_256 : decode cL_acts 256 = .ok (.aload_n 0, 1) := by decide +kernel
theorem dL_acts_257 : decode cL_acts 257 = .ok (.iload 11, 2) := by decide +kernel
theorem dL_acts_259 : decode cL_acts 259 = .ok (.iconst (-1), 1) := by decide +kernel
theorem dL_acts_260 : decode cL_acts 260 = .ok (.invokevirtual 77, 3) := by decide +kernel
theorem dL_acts_263 : decode cL_acts 263 = .ok (.istore 9, 2) := by decide +kernel
theorem dL_acts_265 : decode cL_acts 265 = .ok (.iload 9, 2) := by decide +kernel
theorem dL_acts_267 : decode cL_acts 267 = .ok (.ifCond .ge 14, 3) := by decide +kernel
theorem dL_acts_270 : decode cL_acts 270 = .ok (.iload 9, 2) := by decide +kernel
theorem dL_acts_272 : decode cL_acts 272 = .ok (.bipush (-6), 2) := by decide +kernel
theorem dL_acts_274 : decode cL_acts 274 = .ok (.if_icmp .eq 7, 3) := by decide +kernel
theorem dL_acts_277 : decode cL_acts 277 = .ok (.iconst 0, 1) := by decide +kernel
theorem dL_acts_278 : decode cL_acts 278 = .ok (.goto 29, 3) := by decide +kernel
theorem dL_acts_281 : decode cL_acts 281 = .ok (.iload 12, 2) := by decide +kernel
theorem dL_acts_283 : decode cL_acts 283 = .ok (.ifCond .eq 16, 3) := by decide +kernel
theorem dL_acts_286 : decode cL_acts 286 = .ok (.iconst 2, 1) := by decide +kernel
theorem dL_acts_287 : decode cL_acts 287 = .ok (.iconst 1, 1) := by decide +kernel
theorem dL_acts_288 : decode cL_acts 288 = .ok (.iconst 4, 1) := by decide +kernel
theorem dL_acts_289 : decode cL_acts 289 = .ok (.iload 6, 2) := by decide +kernel
theorem dL_acts_291 : decode cL_acts 291 = .ok (.isub, 1) := by decide +kernel
theorem dL_acts_292 : decode cL_acts 292 = .ok (.invokestatic 40, 3) := by decide +kernel
theorem dL_acts_295 : decode cL_acts 295 = .ok (.imul, 1) := by decide +kernel
theorem dL_acts_296 : decode cL_acts 296 = .ok (.goto 11, 3) := by decide +kernel
theorem dL_acts_299 : decode cL_acts 299 = .ok (.iconst 1, 1) := by decide +kernel
theorem dL_acts_300 : decode cL_acts 300 = .ok (.iconst 4, 1) := by decide +kernel
theorem dL_acts_301 : decode cL_acts 301 = .ok (.iload 6, 2) := by decide +kernel
theorem dL_acts_303 : decode cL_acts 303 = .ok (.isub, 1) := by decide +kernel
theorem dL_acts_304 : decode cL_acts 304 = .ok (.invokestatic 40, 3) := by decide +kernel
theorem dL_acts_307 : decode cL_acts 307 = .ok (.istore 10, 2) := by decide +kernel
theorem dL_acts_309 : decode cL_acts 309 = .ok (.iload 9, 2) := by decide +kernel
theorem dL_acts_311 : decode cL_acts 311 = .ok (.ifCond .lt 25, 3) := by decide +kernel
theorem dL_acts_314 : decode cL_acts 314 = .ok (.iload 13, 2) := by decide +kernel
theorem dL_acts_316 : decode cL_acts 316 = .ok (.ifCond .eq 18, 3) := by decide +kernel
theorem dL_acts_319 : decode cL_acts 319 = .ok (.iload 12, 2) := by decide +kernel
theorem dL_acts_321 : decode cL_acts 321 = .ok (.iload 9, 2) := by decide +kernel
theorem dL_acts_323 : decode cL_acts 323 = .ok (.ifCond .ne 7, 3) := by decide +kernel
theorem dL_acts_326 : decode cL_acts 326 = .ok (.iconst 1, 1) := by decide +kernel
theorem dL_acts_327 : decode cL_acts 327 = .ok (.goto 4, 3) := by decide +kernel
theorem dL_acts_330 : decode cL_acts 330 = .ok (.iconst 0, 1) := by decide +kernel
theorem dL_acts_331 : decode cL_acts 331 = .ok (.if_icmp .eq 5, 3) := by decide +kernel
theorem dL_acts_334 : decode cL_acts 334 = .ok (.iconst 0, 1) := by decide +kernel
theorem dL_acts_335 : decode cL_acts 335 = .ok (.ireturn, 1) := by decide +kernel
theorem dL_acts_336 : decode cL_acts 336 = .ok (.goto 164, 3) := by decide +kernel
theorem dL_acts_339 : decode cL_acts 339 = .ok (.iload_n 3, 1) := by decide +kernel
theorem dL_acts_340 : decode cL_acts 340 = .ok (.bipush 6, 2) := by decide +kernel
theorem dL_acts_342 : decode cL_acts 342 = .ok (.if_icmp .ne 111, 3) := by decide +kernel
theorem dL_acts_345 : decode cL_acts 345 = .ok (.aload_n 0, 1) := by decide +kernel
theorem dL_acts_346 : decode cL_acts 346 = .ok (.iconst 1, 1) := by decide +kernel
theorem dL_acts_347 : decode cL_acts 347 = .ok (.invokevirtual 15, 3) := by decide +kernel
theorem dL_acts_350 : decode cL_acts 350 = .ok (.ifCond .le 103, 3) := by decide +kernel
theorem dL_acts_353 : decode cL_acts 353 = .ok (.iload_n 2, 1) := by decide +kernel
theorem dL_acts_354 : decode cL_acts 354 = .ok (.aload_n 0, 1) := by decide +kernel
theorem dL_acts_355 : decode cL_acts 355 = .ok (.iconst 1, 1) := by decide +kernel
theorem dL_acts_356 : decode cL_acts 356 = .ok (.invokevirtual 15, 3) := by decide +kernel
theorem dL_acts_359 : decode cL_acts 359 = .ok (.invokestatic 54, 3) := by decide +kernel
theorem dL_acts_362 : decode cL_acts 362 = .ok (.istore 11, 2) := by decide +kernel
theorem dL_acts_364 : decode cL_acts 364 = .ok (.aload_n 0, 1) := by decide +kernel
theorem dL_acts_365 : decode cL_acts 365 = .ok (.iload 11, 2) := by decide +kernel
theorem dL_acts_367 : decode cL_acts 367 = .ok (.iconst 2, 1) := by decide +kernel
theorem dL_acts_368 : decode cL_acts 368 = .ok (.invokevirtual 25, 3) := by decide +kernel
theorem dL_acts_371 : decode cL_acts 371 = .ok (.iconst 1, 1) := by decide +kernel
theorem dL_acts_372 : decode cL_acts 372 = .ok (.if_icmp .ne 17, 3) := by decide +kernel
theorem dL_acts_375 : decode cL_acts 375 = .ok (.aload_n 0, 1) := by decide +kernel
theorem dL_acts_376 : decode cL_acts 376 = .ok (.iload 11, 2) := by decide +kernel
theorem dL_acts_378 : decode cL_acts 378 = .ok (.iconst 1, 1) := by decide +kernel
theorem dL_acts_379 : decode cL_acts 379 = .ok (.invokevirtual 25, 3) := by decide +kernel
theorem dL_acts_382 : decode cL_acts 382 = .ok (.ifCond .lt 7, 3) := by decide +kernel
theorem dL_acts_385 : decode cL_acts 385 = .ok (.iconst 1, 1) := by decide +kernel
theorem dL_acts_386 : decode cL_acts 386 = .ok (.goto 4, 3) := by decide +kernel
theorem dL_acts_389 : decode cL_acts 389 = .ok (.iconst 0, 1) := by decide +kernel
theorem dL_acts_390 : decode cL_acts 390 = .ok (.istore 12, 2) := by decide +kernel
theorem dL_acts_392 : decode cL_acts 392 = .ok (.aload_n 0, 1) := by decide +kernel
theorem dL_acts_393 : decode cL_acts 393 = .ok (.iload 11, 2) := by decide +kernel
theorem dL_acts_395 : decode cL_acts 395 = .ok (.invokevirtual 71, 3) := by decide +kernel
theorem dL_acts_398 : decode cL_acts 398 = .ok (.istore 9, 2) := by decide +kernel
theorem dL_acts_400 : decode cL_acts 400 = .ok (.iload 9, 2) := by decide +kernel
theorem dL_acts_402 : decode cL_acts 402 = .ok (.ifCond .ge 14, 3) := by decide +kernel
theorem dL_acts_405 : decode cL_acts 405 = .ok (.iload 9, 2) := by decide +kernel
theorem dL_acts_407 : decode cL_acts 407 = .ok (.bipush (-6), 2) := by decide +kernel
theorem dL_acts_409 : decode cL_acts 409 = .ok (.if_icmp .eq 7, 3) := by decide +kernel
theorem dL_acts_412 : decode cL_acts 412 = .ok (.iconst 0, 1) := by decide +kernel
theorem dL_acts_413 : decode cL_acts 413 = .ok (.goto 11, 3) := by decide +kernel
theorem dL_acts_416 : decode cL_acts 416 = .ok (.iconst 1, 1) := by decide +kernel
theorem dL_acts_417 : decode cL_acts 417 = .ok (.iconst 3, 1) := by decide +kernel
theorem dL_acts_418 : decode cL_acts 418 = .ok (.iload 6, 2) := by decide +kernel
theorem dL_acts_420 : decode cL_acts 420 = .ok (.isub, 1) := by decide +kernel
theorem dL_acts_421 : decode cL_acts 421 = .ok (.invokestatic 40, 3) := by decide +kernel
theorem dL_acts_424 : decode cL_acts 424 = .ok (.istore 10, 2) := by decide +kernel
theorem dL_acts_426 : decode cL_acts 426 = .ok (.iload 9, 2) := by decide +kernel
theorem dL_acts_428 : decode cL_acts 428 = .ok (.ifCond .le 22, 3) := by decide +kernel
theorem dL_acts_431 : decode cL_acts 431 = .ok (.iload 12, 2) := by decide +kernel
theorem dL_acts_433 : decode cL_acts 433 = .ok (.ifCond .eq 15, 3) := by decide +kernel
theorem dL_acts_436 : decode cL_acts 436 = .ok (.aload_n 0, 1) := by decide +kernel
theorem dL_acts_437 : decode cL_acts 437 = .ok (.iload 11, 2) := by decide +kernel
theorem dL_acts_439 : decode cL_acts 439 = .ok (.iconst 1, 1) := by decide +kernel
theorem dL_acts_440 : decode cL_acts 440 = .ok (.invokevirtual 25, 3) := by decide +kernel
theorem dL_acts_443 : decode cL_acts 443 = .ok (.bipush (-5), 2) := by decide +kernel
theorem dL_acts_445 : decode cL_acts 445 = .ok (.if_icmp .eq 5, 3) := by decide +kernel
theorem dL_acts_448 : decode cL_acts 448 = .ok (.iconst 0, 1) := by decide +kernel
theorem dL_acts_449 : decode cL_acts 449 = .ok (.ireturn, 1) := by decide +kernel
theorem dL_acts_450 : decode cL_acts 450 = .ok (.goto 50, 3) := by decide +kernel
theorem dL_acts_453 : decode cL_acts 453 = .ok (.aload_n 0, 1) := by decide +kernel
theorem dL_acts_454 : decode cL_acts 454 = .ok (.invokevirtual 95, 3) := by decide +kernel
theorem dL_acts_457 : decode cL_acts 457 = .ok (.iload 4, 2) := by decide +kernel
theorem dL_acts_459 : decode cL_acts 459 = .ok (.iload 4, 2) := by decide +kernel
theorem dL_acts_461 : decode cL_acts 461 = .ok (.iload 5, 2) := by decide +kernel
theorem dL_acts_463 : decode cL_acts 463 = .ok (.iadd, 1) := by decide +kernel
theorem dL_acts_464 : decode cL_acts 464 = .ok (.aload_n 0, 1) := by decide +kernel
theorem dL_acts_465 : decode cL_acts 465 = .ok (.bipush 12, 2) := by decide +kernel
theorem dL_acts_467 : decode cL_acts 467 = .ok (.invokevirtual 15, 3) := by decide +kernel
theorem dL_acts_470 : decode cL_acts 470 = .ok (.isub, 1) := by decide +kernel
theorem dL_acts_471 : decode cL_acts 471 = .ok (.isub, 1) := by decide +kernel
theorem dL_acts_472 : decode cL_acts 472 = .ok (.if_icmp .ne 26, 3) := by decide +kernel
theorem dL_acts_475 : decode cL_acts 475 = .ok (.aload_n 0, 1) := by decide +kernel
theorem dL_acts_476 : decode cL_acts 476 = .ok (.bipush 14, 2) := by decide +kernel
theorem dL_acts_478 : decode cL_acts 478 = .ok (.invokevirtual 15, 3) := by decide +kernel
theorem dL_acts_481 : decode cL_acts 481 = .ok (.ifCond .ne 17, 3) := by decide +kernel
theorem dL_acts_484 : decode cL_acts 484 = .ok (.aload_n 0, 1) := by decide +kernel
theorem dL_acts_485 : decode cL_acts 485 = .ok (.iload 8, 2) := by decide +kernel
theorem dL_acts_487 : decode cL_acts 487 = .ok (.iconst 4, 1) := by decide +kernel
theorem dL_acts_488 : decode cL_acts 488 = .ok (.invokevirtual 43, 3) := by decide +kernel
theorem dL_acts_491 : decode cL_acts 491 = .ok (.ifCond .ne 7, 3) := by decide +kernel
theorem dL_acts_494 : decode cL_acts 494 = .ok (.iconst 1, 1) := by decide +kernel
theorem dL_acts_495 : decode cL_acts 495 = .ok (.goto 4, 3) := by decide +kernel
theorem dL_acts_498 : decode cL_acts 498 = .ok (.iconst 0, 1) := by decide +kernel
theorem dL_acts_499 : decode cL_acts 499 = .ok (.ireturn, 1) := by decide +kernel
theorem dL_acts_500 : decode cL_acts 500 = .ok (.iload 9, 2) := by decide +kernel
theorem dL_acts_502 : decode cL_acts 502 = .ok (.bipush (-6), 2) := by decide +kernel
theorem dL_acts_504 : decode cL_acts 504 = .ok (.if_icmp .ne 67, 3) := by decide +kernel
theorem dL_acts_507 : decode cL_acts 507 = .ok (.iload 10, 2) := by decide +kernel
theorem dL_acts_509 : decode cL_acts 509 = .ok (.iload 5, 2) := by decide +kernel
theorem dL_acts_511 : decode cL_acts 511 = .ok (.if_icmp .le 58, 3) := by decide +kernel
theorem dL_acts_514 : decode cL_acts 514 = .ok (.aload_n 0, 1) := by decide +kernel
theorem dL_acts_515 : decode cL_acts 515 = .ok (.iconst 5, 1) := by decide +kernel
theorem dL_acts_516 : decode cL_acts 516 = .ok (.invokevirtual 15, 3) := by decide +kernel
theorem dL_acts_519 : decode cL_acts 519 = .ok (.iload 4, 2) := by decide +kernel
theorem dL_acts_521 : decode cL_acts 521 = .ok (.iload 5, 2) := by decide +kernel
theorem dL_acts_523 : decode cL_acts 523 = .ok (.iadd, 1) := by decide +kernel
theorem dL_acts_524 : decode cL_acts 524 = .ok (.if_icmp .ne 45, 3) := by decide +kernel
theorem dL_acts_527 : decode cL_acts 527 = .ok (.aload_n 0, 1) := by decide +kernel
theorem dL_acts_528 : decode cL_acts 528 = .ok (.bipush 14, 2) := by decide +kernel
theorem dL_acts_530 : decode cL_acts 530 = .ok (.invokevirtual 15, 3) := by decide +kernel
theorem dL_acts_533 : decode cL_acts 533 = .ok (.ifCond .ne 36, 3) := by decide +kernel
theorem dL_acts_536 : decode cL_acts 536 = .ok (.aload_n 0, 1) := by decide +kernel
theorem dL_acts_537 : decode cL_acts 537 = .ok (.bipush 7, 2) := by decide +kernel
theorem dL_acts_539 : decode cL_acts 539 = .ok (.invokevirtual 15, 3) := by decide +kernel
theorem dL_acts_542 : decode cL_acts 542 = .ok (.iload 8, 2) := by decide +kernel
theorem dL_acts_544 : decode cL_acts 544 = .ok (.iconst 1, 1) := by decide +kernel
theorem dL_acts_545 : decode cL_acts 545 = .ok (.iadd, 1) := by decide +kernel
theorem dL_acts_546 : decode cL_acts 546 = .ok (.if_icmp .ne 23, 3) := by decide +kernel
theorem dL_acts_549 : decode cL_acts 549 = .ok (.aload_n 0, 1) := by decide +kernel
theorem dL_acts_550 : decode cL_acts 550 = .ok (.iload 8, 2) := by decide +kernel
theorem dL_acts_552 : decode cL_acts 552 = .ok (.iconst 3, 1) := by decide +kernel
theorem dL_acts_553 : decode cL_acts 553 = .ok (.invokevirtual 43, 3) := by decide +kernel
theorem dL_acts_556 : decode cL_acts 556 = .ok (.aload_n 0, 1) := by decide +kernel
theorem dL_acts_557 : decode cL_acts 557 = .ok (.bipush 12, 2) := by decide +kernel
theorem dL_acts_559 : decode cL_acts 559 = .ok (.invokevirtual 15, 3) := by decide +kernel
theorem dL_acts_562 : decode cL_acts 562 = .ok (.if_icmp .ne 7, 3) := by decide +kernel
theorem dL_acts_565 : decode cL_acts 565 = .ok (.iconst 1, 1) := by decide +kernel
theorem dL_acts_566 : decode cL_acts 566 = .ok (.goto 4, 3) := by decide +kernel
theorem dL_acts_569 : decode cL_acts 569 = .ok (.iconst 0, 1) := by decide +kernel
theorem dL_acts_570 : decode cL_acts 570 = .ok (.ireturn, 1) := by decide +kernel
theorem dL_acts_571 : decode cL_acts 571 = .ok (.iload 10, 2) := by decide +kernel
theorem dL_acts_573 : decode cL_acts 573 = .ok (.iload 5, 2) := by decide +kernel
theorem dL_acts_575 : decode cL_acts 575 = .ok (.if_icmp .gt 20, 3) := by decide +kernel
theorem dL_acts_578 : decode cL_acts 578 = .ok (.aload_n 0, 1) := by decide +kernel
theorem dL_acts_579 : decode cL_acts 579 = .ok (.iconst 5, 1) := by decide +kernel
theorem dL_acts_580 : decode cL_acts 580 = .ok (.invokevirtual 15, 3) := by decide +kernel
theorem dL_acts_583 : decode cL_acts 583 = .ok (.iload 4, 2) := by decide +kernel
theorem dL_acts_585 : decode cL_acts 585 = .ok (.iload 10, 2) := by decide +kernel
theorem dL_acts_587 : decode cL_acts 587 = .ok (.iadd, 1) := by decide +kernel
theorem dL_acts_588 : decode cL_acts 588 = .ok (.if_icmp .ne 7, 3) := by decide +kernel
theorem dL_acts_591 : decode cL_acts 591 = .ok (.iconst 1, 1) := by decide +kernel
theorem dL_acts_592 : decode cL_acts 592 = .ok (.goto 4, 3) := by decide +kernel
theorem dL_acts_595 : decode cL_acts 595 = .ok (.iconst 0, 1) := by decide +kernel
theorem dL_acts_596 : decode cL_acts 596 = .ok (.ireturn, 1) := by decide +kernel
theorem dL_between_0 : decode cL_between 0 = .ok (.iload_n 1, 1) := by decide +kernel
theorem dL_between_1 : decode cL_between 1 = .ok (.bipush 8, 2) := by decide +kernel
theorem dL_between_3 : decode cL_between 3 = .ok (.invokestatic 54, 3) := by decide +kernel
theorem dL_between_6 : decode cL_between 6 = .ok (.istore_n 3, 1) := by decide +kernel
theorem dL_between_7 : decode cL_between 7 = .ok (.aload_n 0, 1) := by decide +kernel
theorem dL_between_8 : decode cL_between 8 = .ok (.iconst 5, 1) := by decide +kernel
theorem dL_between_9 : decode cL_between 9 = .ok (.invokevirtual 15, 3) := by decide +kernel
theorem dL_between_12 : decode cL_between 12 = .ok (.istore 4, 2) := by decide +kernel
theorem dL_between_14 : decode cL_between 14 = .ok (.iload_n 3, 1) := by decide +kernel
theorem dL_between_15 : decode cL_between 15 = .ok (.ifCond .ne 35, 3) := by decide +kernel
theorem dL_between_18 : decode cL_between 18 = .ok (.aload_n 0, 1) := by decide +kernel
theorem dL_between_19 : decode cL_between 19 = .ok (.iconst 1, 1) := by decide +kernel
theorem dL_between_20 : decode cL_between 20 = .ok (.iload_n 2, 1) := by decide +kernel
theorem dL_between_21 : decode cL_between 21 = .ok (.bipush 100, 2) := by decide +kernel
theorem dL_between_23 : decode cL_between 23 = .ok (.invokestatic 54, 3) := by decide +kernel
theorem dL_between_26 : decode cL_between 26 = .ok (.iadd, 1) := by decide +kernel
theorem dL_between_27 : decode cL_between 27 = .ok (.invokevirtual 98, 3) := by decide +kernel
theorem dL_between_30 : decode cL_between 30 = .ok (.iload 4, 2) := by decide +kernel
theorem dL_between_32 : decode cL_between 32 = .ok (.iconst 1, 1) := by decide +kernel
theorem dL_between_33 : decode cL_between 33 = .ok (.iadd, 1) := by decide +kernel
theorem dL_between_34 : decode cL_between 34 = .ok (.iload_n 2, 1) := by decide +kernel
theorem dL_between_35 : decode cL_between 35 = .ok (.bipush 100, 2) := by decide +kernel
theorem dL_between_37 : decode cL_between 37 = .ok (.invokestatic 54, 3) := by decide +kernel
theorem dL_between_40 : decode cL_between 40 = .ok (.iadd, 1) := by decide +kernel
theorem dL_between_41 : decode cL_between 41 = .ok (.if_icmp .ne 7, 3) := by decide +kernel
theorem dL_between_44 : decode cL_between 44 = .ok (.iconst 1, 1) := by decide +kernel
theorem dL_between_45 : decode cL_between 45 = .ok (.goto 4, 3) := by decide +kernel
theorem dL_between_48 : decode cL_between 48 = .ok (.iconst 0, 1) := by decide +kernel
theorem dL_between_49 : decode cL_between 49 = .ok (.ireturn, 1) := by decide +kernel
theorem dL_between_50 : decode cL_between 50 = .ok (.iload_n 3, 1) := by decide +kernel
theorem dL_between_51 : decode cL_between 51 = .ok (.iconst 1, 1) := by decide +kernel
theorem dL_between_52 : decode cL_between 52 = .ok (.if_icmp .ne 97, 3) := by decide +kernel
theorem dL_between_55 : decode cL_between 55 = .ok (.aload_n 0, 1) := by decide +kernel
theorem dL_between_56 : decode cL_between 56 = .ok (.iconst 3, 1) := by decide +kernel
theorem dL_between_57 : decode cL_between 57 = .ok (.invokevirtual 31, 3) := by decide +kernel
theorem dL_between_60 : decode cL_between 60 = .ok (.istore 5, 2) := by decide +kernel
theorem dL_between_62 : decode cL_between 62 = .ok (.aload_n 0, 1) := by decide +kernel
theorem dL_between_63 : decode cL_between 63 = .ok (.iconst 4, 1) := by decide +kernel
theorem dL_between_64 : decode cL_between 64 = .ok (.invokevirtual 31, 3) := by decide +kernel
theorem dL_between_67 : decode cL_between 67 = .ok (.istore 6, 2) := by decide +kernel
theorem dL_between_69 : decode cL_between 69 = .ok (.aload_n 0, 1) := by decide +kernel
theorem dL_between_70 : decode cL_between 70 = .ok (.bipush 6, 2) := by decide +kernel
theorem dL_between_72 : decode cL_between 72 = .ok (.invokevirtual 15, 3) := by decide +kernel
theorem dL_between_75 : decode cL_between 75 = .ok (.istore 7, 2) := by decide +kernel
theorem dL_between_77 : decode cL_between 77 = .ok (.aload_n 0, 1) := by decide +kernel
theorem dL_between_78 : decode cL_between 78 = .ok (.invokevirtual 101, 3) := by decide +kernel
theorem dL_between_81 : decode cL_between 81 = .ok (.istore 8, 2) := by decide +kernel
theorem dL_between_83 : decode cL_between 83 = .ok (.iload 8, 2) := by decide +kernel
theorem dL_between_85 : decode cL_between 85 = .ok (.iload 5, 2) := by decide +kernel
theorem dL_between_87 : decode cL_between 87 = .ok (.ifCond .ne 8, 3) := by decide +kernel
theorem dL_between_90 : decode cL_between 90 = .ok (.bipush (-5), 2) := by decide +kernel
theorem dL_between_92 : decode cL_between 92 = .ok (.goto 5, 3) := by decide +kernel
theorem dL_between_95 : decode cL_between 95 = .ok (.iload 5, 2) := by decide +kernel
theorem dL_between_97 : decode cL_between 97 = .ok (.if_icmp .ne 50, 3) := by decide +kernel
theorem dL_between_100 : decode cL_between 100 = .ok (.aload_n 0, 1) := by decide +kernel
theorem dL_between_101 : decode cL_between 101 = .ok (.iconst 5, 1) := by decide +kernel
theorem dL_between_102 : decode cL_between 102 = .ok (.invokevirtual 15, 3) := by decide +kernel
theorem dL_between_105 : decode cL_between 105 = .ok (.iload 4, 2) := by decide +kernel
theorem dL_between_107 : decode cL_between 107 = .ok (.iload 5, 2) := by decide +kernel
theorem dL_between_109 : decode cL_between 109 = .ok (.iadd, 1) := by decide +kernel
theorem dL_between_110 : decode cL_between 110 = .ok (.if_icmp .ne 37, 3) := by decide +kernel
theorem dL_between_113 : decode cL_between 113 = .ok (.aload_n 0, 1) := by decide +kernel
theorem dL_between_114 : decode cL_between 114 = .ok (.iconst 0, 1) := by decide +kernel
theorem dL_between_115 : decode cL_between 115 = .ok (.invokevirtual 31, 3) := by decide +kernel
theorem dL_between_118 : decode cL_between 118 = .ok (.ifCond .ne 29, 3) := by decide +kernel
theorem dL_between_121 : decode cL_between 121 = .ok (.aload_n 0, 1) := by decide +kernel
theorem dL_between_122 : decode cL_between 122 = .ok (.iconst 1, 1) := by decide +kernel
theorem dL_between_123 : decode cL_between 123 = .ok (.invokevirtual 31, 3) := by decide +kernel
theorem dL_between_126 : decode cL_between 126 = .ok (.ifCond .ne 21, 3) := by decide +kernel
theorem dL_between_129 : decode cL_between 129 = .ok (.aload_n 0, 1) := by decide +kernel
theorem dL_between_130 : decode cL_between 130 = .ok (.bipush 6, 2) := by decide +kernel
theorem dL_between_132 : decode cL_between 132 = .ok (.invokevirtual 15, 3) := by decide +kernel
theorem dL_between_135 : decode cL_between 135 = .ok (.iload 7, 2) := by decide +kernel
theorem dL_between_137 : decode cL_between 137 = .ok (.iload 6, 2) := by decide +kernel
theorem dL_between_139 : decode cL_between 139 = .ok (.isub, 1) := by decide +kernel
theorem dL_between_140 : decode cL_between 140 = .ok (.if_icmp .ne 7, 3) := by decide +kernel
theorem dL_between_143 : decode cL_between 143 = .ok (.iconst 1, 1) := by decide +kernel
theorem dL_between_144 : decode cL_between 144 = .ok (.goto 4, 3) := by decide +kernel
theorem dL_between_147 : decode cL_between 147 = .ok (.iconst 0, 1) := by decide +kernel
theorem dL_between_148 : decode cL_between 148 = .ok (.ireturn, 1) := by decide +kernel
theorem dL_between_149 : decode cL_between 149 = .ok (.iload_n 3, 1) := by decide +kernel
theorem dL_between_150 : decode cL_between 150 = .ok (.iconst 2, 1) := by decide +kernel
theorem dL_between_151 : decode cL_between 151 = .ok (.if_icmp .ne 30, 3) := by decide +kernel
theorem dL_between_154 : decode cL_between 154 = .ok (.aload_n 0, 1) := by decide +kernel
theorem dL_between_155 : decode cL_between 155 = .ok (.iconst 1, 1) := by decide +kernel
theorem dL_between_156 : decode cL_between 156 = .ok (.iload_n 2, 1) := by decide +kernel
theorem dL_between_157 : decode cL_between 157 = .ok (.bipush 12, 2) := by decide +kernel
theorem dL_between_159 : decode cL_between 159 = .ok (.invokestatic 54, 3) := by decide +kernel
theorem dL_between_162 : decode cL_between 162 = .ok (.iadd, 1) := by decide +kernel
theorem dL_between_163 : decode cL_between 163 = .ok (.invokevirtual 104, 3) := by decide +kernel
theorem dL_between_166 : decode cL_between 166 = .ok (.aload_n 0, 1) := by decide +kernel
theorem dL_between_167 : decode cL_between 167 = .ok (.bipush 6, 2) := by decide +kernel
theorem dL_between_169 : decode cL_between 169 = .ok (.invokevirtual 15, 3) := by decide +kernel
theorem dL_between_172 : decode cL_between 172 = .ok (.if_icmp .ne 7, 3) := by decide +kernel
theorem dL_between_175 : decode cL_between 175 = .ok (.iconst 1, 1) := by decide +kernel
theorem dL_between_176 : decode cL_between 176 = .ok (.goto 4, 3) := by decide +kernel
theorem dL_between_179 : decode cL_between 179 = .ok (.iconst 0, 1) := by decide +kernel
theorem dL_between_180 : decode cL_between 180 = .ok (.ireturn, 1) := by decide +kernel
theorem dL_between_181 : decode cL_between 181 = .ok (.iload_n 3, 1) := by decide +kernel
theorem dL_between_182 : decode cL_between 182 = .ok (.iconst 3, 1) := by decide +kernel
theorem dL_between_183 : decode cL_between 183 = .ok (.if_icmp .ne 84, 3) := by decide +kernel
theorem dL_between_186 : decode cL_between 186 = .ok (.aload_n 0, 1) := by decide +kernel
theorem dL_between_187 : decode cL_between 187 = .ok (.iconst 0, 1) := by decide +kernel
theorem dL_between_188 : decode cL_between 188 = .ok (.invokevirtual 15, 3) := by decide +kernel
theorem dL_between_191 : decode cL_between 191 = .ok (.iconst 1, 1) := by decide +kernel
theorem dL_between_192 : decode cL_between 192 = .ok (.if_icmp .le 75, 3) := by decide +kernel
theorem dL_between_195 : decode cL_between 195 = .ok (.iconst 1, 1) := by decide +kernel
theorem dL_between_196 : decode cL_between 196 = .ok (.iload_n 2, 1) := by decide +kernel
theorem dL_between_197 : decode cL_between 197 = .ok (.aload_n 0, 1) := by decide +kernel
theorem dL_between_198 : decode cL_between 198 = .ok (.iconst 0, 1) := by decide +kernel
theorem dL_between_199 : decode cL_between 199 = .ok (.invokevirtual 15, 3) := by decide +kernel
theorem dL_between_202 : decode cL_between 202 = .ok (.iconst 1, 1) := by decide +kernel
theorem dL_between_203 : decode cL_between 203 = .ok (.isub, 1) := by decide +kernel
theorem dL_between_204 : decode cL_between 204 = .ok (.invokestatic 54, 3) := by decide +kernel
theorem dL_between_207 : decode cL_between 207 = .ok (.iadd, 1) := by decide +kernel
theorem dL_between_208 : decode cL_between 208 = .ok (.istore 5, 2) := by decide +kernel
theorem dL_between_210 : decode cL_between 210 = .ok (.aload_n 0, 1) := by decide +kernel
theorem dL_between_211 : decode cL_between 211 = .ok (.bipush 9, 2) := by decide +kernel
theorem dL_between_213 : decode cL_between 213 = .ok (.invokevirtual 15, 3) := by decide +kernel
theorem dL_between_216 : decode cL_between 216 = .ok (.istore 6, 2) := by decide +kernel
theorem dL_between_218 : decode cL_between 218 = .ok (.aload_n 0, 1) := by decide +kernel
theorem dL_between_219 : decode cL_between 219 = .ok (.iload 5, 2) := by decide +kernel
theorem dL_between_221 : decode cL_between 221 = .ok (.invokevirtual 107, 3) := by decide +kernel
theorem dL_between_224 : decode cL_between 224 = .ok (.iload 6, 2) := by decide +kernel
theorem dL_between_226 : decode cL_between 226 = .ok (.iload 5, 2) := by decide +kernel
theorem dL_between_228 : decode cL_between 228 = .ok (.if_icmp .ne 8, 3) := by decide +kernel
theorem dL_between_231 : decode cL_between 231 = .ok (.bipush (-5), 2) := by decide +kernel
theorem dL_between_233 : decode cL_between 233 = .ok (.goto 14, 3) := by decide +kernel
theorem dL_between_236 : decode cL_between 236 = .ok (.iload 6, 2) := by decide +kernel
theorem dL_between_238 : decode cL_between 238 = .ok (.ifCond .ge 7, 3) := by decide +kernel
theorem dL_between_241 : decode cL_between 241 = .ok (.iconst 0, 1) := by decide +kernel
theorem dL_between_242 : decode cL_between 242 = .ok (.goto 5, 3) := by decide +kernel
theorem dL_between_245 : decode cL_between 245 = .ok (.iload 6, 2) := by decide +kernel
theorem dL_between_247 : decode cL_between 247 = .ok (.if_icmp .ne 18, 3) := by decide +kernel
theorem dL_between_250 : decode cL_between 250 = .ok (.aload_n 0, 1) := by decide +kernel
theorem dL_between_251 : decode cL_between 251 = .ok (.bipush 9, 2) := by decide +kernel
theorem dL_between_253 : decode cL_between 253 = .ok (.invokevirtual 15, 3) := by decide +kernel
theorem dL_between_256 : decode cL_between 256 = .ok (.iload 5, 2) := by decide +kernel
theorem dL_between_258 : decode cL_between 258 = .ok (.if_icmp .ne 7, 3) := by decide +kernel
theorem dL_between_261 : decode cL_between 261 = .ok (.iconst 1, 1) := by decide +kernel
theorem dL_between_262 : decode cL_between 262 = .ok (.goto 4, 3) := by decide +kernel
theorem dL_between_265 : decode cL_between 265 = .ok (.iconst 0, 1) := by decide +kernel
theorem dL_between_266 : decode cL_between 266 = .ok (.ireturn, 1) := by decide +kernel
theorem dL_between_267 : decode cL_between 267 = .ok (.iload_n 3, 1) := by decide +kernel
theorem dL_between_268 : decode cL_between 268 = .ok (.iconst 4, 1) := by decide +kernel
theorem dL_between_269 : decode cL_between 269 = .ok (.if_icmp .ne 93, 3) := by decide +kernel
theorem dL_between_272 : decode cL_between 272 = .ok (.aload_n 0, 1) := by decide +kernel
theorem dL_between_273 : decode cL_between 273 = .ok (.iconst 0, 1) := by decide +kernel
theorem dL_between_274 : decode cL_between 274 = .ok (.invokevirtual 15, 3) := by decide +kernel
theorem dL_between_277 : decode cL_between 277 = .ok (.iconst 1, 1) := by decide +kernel
theorem dL_between_278 : decode cL_between 278 = .ok (.if_icmp .le 84, 3) := by decide +kernel
theorem dL_between_281 : decode cL_between 281 = .ok (.iconst 1, 1) := by decide +kernel
theorem dL_between_282 : decode cL_between 282 = .ok (.iload_n 2, 1) := by decide +kernel
theorem dL_between_283 : decode cL_between 283 = .ok (.aload_n 0, 1) := by decide +kernel
theorem dL_between_284 : decode cL_between 284 = .ok (.iconst 0, 1) := by decide +kernel
theorem dL_between_285 : decode cL_between 285 = .ok (.invokevirtual 15, 3) := by decide +kernel
theorem dL_between_288 : decode cL_between 288 = .ok (.iconst 1, 1) := by decide +kernel
theorem dL_between_289 : decode cL_between 289 = .ok (.isub, 1) := by decide +kernel
theorem dL_between_290 : decode cL_between 290 = .ok (.invokestatic 54, 3) := by decide +kernel
theorem dL_between_293 : decode cL_between 293 = .ok (.iadd, 1) := by decide +kernel
theorem dL_between_294 : decode cL_between 294 = .ok (.istore 5, 2) := by decide +kernel
theorem dL_between_296 : decode cL_between 296 = .ok (.aload_n 0, 1) := by decide +kernel
theorem dL_between_297 : decode cL_between 297 = .ok (.iload 5, 2) := by decide +kernel
theorem dL_between_299 : decode cL_between 299 = .ok (.iconst 2, 1) := by decide +kernel
theorem dL_between_300 : decode cL_between 300 = .ok (.invokevirtual 9, 3) := by decide +kernel
theorem dL_between_303 : decode cL_between 303 = .ok (.istore 6, 2) := by decide +kernel
theorem dL_between_305 : decode cL_between 305 = .ok (.aload_n 0, 1) := by decide +kernel
theorem dL_between_306 : decode cL_between 306 = .ok (.iload 5, 2) := by decide +kernel
theorem dL_between_308 : decode cL_between 308 = .ok (.invokevirtual 110, 3) := by decide +kernel
theorem dL_between_311 : decode cL_between 311 = .ok (.istore 7, 2) := by decide +kernel
theorem dL_between_313 : decode cL_between 313 = .ok (.iload 7, 2) := by decide +kernel
theorem dL_between_315 : decode cL_between 315 = .ok (.iload 6, 2) := by decide +kernel
theorem dL_between_317 : decode cL_between 317 = .ok (.ifCond .ne 8, 3) := by decide +kernel
theorem dL_between_320 : decode cL_between 320 = .ok (.bipush (-5), 2) := by decide +kernel
theorem dL_between_322 : decode cL_between 322 = .ok (.goto 8, 3) := by decide +kernel
theorem dL_between_325 : decode cL_between 325 = .ok (.aload_n 0, 1) := by decide +kernel
theorem dL_between_326 : decode cL_between 326 = .ok (.iconst 1, 1) := by decide +kernel
theorem dL_between_327 : decode cL_between 327 = .ok (.invokevirtual 31, 3) := by decide +kernel
theorem dL_between_330 : decode cL_between 330 = .ok (.if_icmp .ne 30, 3) := by decide +kernel
theorem dL_between_333 : decode cL_between 333 = .ok (.aload_n 0, 1) := by decide +kernel
theorem dL_between_334 : decode cL_between 334 = .ok (.iload 5, 2) := by decide +kernel
theorem dL_between_336 : decode cL_between 336 = .ok (.iconst 2, 1) := by decide +kernel
theorem dL_between_337 : decode cL_between 337 = .ok (.invokevirtual 9, 3) := by decide +kernel
theorem dL_between_340 : decode cL_between 340 = .ok (.ifCond .ne 20, 3) := by decide +kernel
theorem dL_between_343 : decode cL_between 343 = .ok (.aload_n 0, 1) := by decide +kernel
theorem dL_between_344 : decode cL_between 344 = .ok (.iconst 5, 1) := by decide +kernel
theorem dL_between_345 : decode cL_between 345 = .ok (.invokevirtual 15, 3) := by decide +kernel
theorem dL_between_348 : decode cL_between 348 = .ok (.iload 4, 2) := by decide +kernel
theorem dL_between_350 : decode cL_between 350 = .ok (.iload 6, 2) := by decide +kernel
theorem dL_between_352 : decode cL_between 352 = .ok (.iadd, 1) := by decide +kernel
theorem dL_between_353 : decode cL_between 353 = .ok (.if_icmp .ne 7, 3) := by decide +kernel
theorem dL_between_356 : decode cL_between 356 = .ok (.iconst 1, 1) := by decide +kernel
theorem dL_between_357 : decode cL_between 357 = .ok (.goto 4, 3) := by decide +kernel
theorem dL_between_360 : decode cL_between 360 = .ok (.iconst 0, 1) := by decide +kernel
theorem dL_between_361 : decode cL_between 361 = .ok (.ireturn, 1) := by decide +kernel
theorem dL_between_362 : decode cL_between 362 = .ok (.iload_n 3, 1) := by decide +kernel
theorem dL_between_363 : decode cL_between 363 = .ok (.iconst 5, 1) := by decide +kernel
theorem dL_between_364 : decode cL_between 364 = .ok (.if_icmp .ne 12, 3) := by decide +kernel
theorem dL_between_367 : decode cL_between 367 = .ok (.aload_n 0, 1) := by decide +kernel
theorem dL_between_368 : decode cL_between 368 = .ok (.iload_n 1, 1) := by decide +kernel
theorem dL_between_369 : decode cL_between 369 = .ok (.iconst 3, 1) := by decide +kernel
theorem dL_between_370 : decode cL_between 370 = .ok (.ishr, 1) := by decide +kernel
theorem dL_between_371 : decode cL_between 371 = .ok (.iload_n 2, 1) := by decide +kernel
theorem dL_between_372 : decode cL_between 372 = .ok (.invokestatic 113, 3) := by decide +kernel
theorem dL_between_375 : decode cL_between 375 = .ok (.ireturn, 1) := by decide +kernel
theorem dL_between_376 : decode cL_between 376 = .ok (.aload_n 0, 1) := by decide +kernel
theorem dL_between_377 : decode cL_between 377 = .ok (.iconst 3, 1) := by decide +kernel
theorem dL_between_378 : decode cL_between 378 = .ok (.invokevirtual 15, 3) := by decide +kernel
theorem dL_between_381 : decode cL_between 381 = .ok (.istore 5, 2) := by decide +kernel
theorem dL_between_383 : decode cL_between 383 = .ok (.iload 5, 2) := by decide +kernel
theorem dL_between_385 : decode cL_between 385 = .ok (.ifCond .ne 13, 3) := by decide +kernel
theorem dL_between_388 : decode cL_between 388 = .ok (.iload_n 2, 1) := by decide +kernel
theorem dL_between_389 : decode cL_between 389 = .ok (.sipush 400, 3) := by decide +kernel
theorem dL_between_392 : decode cL_between 392 = .ok (.invokestatic 54, 3) := by decide +kernel
theorem dL_between_395 : decode cL_between 395 = .ok (.goto 19, 3) := by decide +kernel
theorem dL_between_398 : decode cL_between 398 = .ok (.aload_n 0, 1) := by decide +kernel
theorem dL_between_399 : decode cL_between 399 = .ok (.iload 5, 2) := by decide +kernel
theorem dL_between_401 : decode cL_between 401 = .ok (.iconst 1, 1) := by decide +kernel
theorem dL_between_402 : decode cL_between 402 = .ok (.isub, 1) := by decide +kernel
theorem dL_between_403 : decode cL_between 403 = .ok (.iconst 1, 1) := by decide +kernel
theorem dL_between_404 : decode cL_between 404 = .ok (.invokevirtual 37, 3) := by decide +kernel
theorem dL_between_407 : decode cL_between 407 = .ok (.iload_n 2, 1) := by decide +kernel
theorem dL_between_408 : decode cL_between 408 = .ok (.bipush 60, 2) := by decide +kernel
theorem dL_between_410 : decode cL_between 410 = .ok (.invokestatic 54, 3) := by decide +kernel
theorem dL_between_413 : decode cL_between 413 = .ok (.iadd, 1) := by decide +kernel
theorem dL_between_414 : decode cL_between 414 = .ok (.istore 6, 2) := by decide +kernel
theorem dL_between_416 : decode cL_between 416 = .ok (.aload_n 0, 1) := by decide +kernel
theorem dL_between_417 : decode cL_between 417 = .ok (.iconst 1, 1) := by decide +kernel
theorem dL_between_418 : decode cL_between 418 = .ok (.iload_n 1, 1) := by decide +kernel
theorem dL_between_419 : decode cL_between 419 = .ok (.iconst 3, 1) := by decide +kernel
theorem dL_between_420 : decode cL_between 420 = .ok (.ishr, 1) := by decide +kernel
theorem dL_between_421 : decode cL_between 421 = .ok (.bipush 6, 2) := by decide +kernel
theorem dL_between_423 : decode cL_between 423 = .ok (.invokestatic 54, 3) := by decide +kernel
theorem dL_between_426 : decode cL_between 426 = .ok (.iadd, 1) := by decide +kernel
theorem dL_between_427 : decode cL_between 427 = .ok (.iload 6, 2) := by decide +kernel
theorem dL_between_429 : decode cL_between 429 = .ok (.invokevirtual 117, 3) := by decide +kernel
theorem dL_between_432 : decode cL_between 432 = .ok (.istore 7, 2) := by decide +kernel
theorem dL_between_434 : decode cL_between 434 = .ok (.iload 7, 2) := by decide +kernel
theorem dL_between_436 : decode cL_between 436 = .ok (.iload 5, 2) := by decide +kernel
theorem dL_between_438 : decode cL_between 438 = .ok (.bipush 8, 2) := by decide +kernel
theorem dL_between_440 : decode cL_between 440 = .ok (.if_icmp .ne 8, 3) := by decide +kernel
theorem dL_between_443 : decode cL_between 443 = .ok (.bipush (-3), 2) := by decide +kernel
theorem dL_between_445 : decode cL_between 445 = .ok (.goto 7, 3) := by decide +kernel
theorem dL_between_448 : decode cL_between 448 = .ok (.iload 5, 2) := by decide +kernel
theorem dL_between_450 : decode cL_between 450 = .ok (.iconst 1, 1) := by decide +kernel
theorem dL_between_451 : decode cL_between 451 = .ok (.iadd, 1) := by decide +kernel
theorem dL_between_452 : decode cL_between 452 = .ok (.if_icmp .ne 38, 3) := by decide +kernel
theorem dL_between_455 : decode cL_between 455 = .ok (.aload_n 0, 1) := by decide +kernel
theorem dL_between_456 : decode cL_between 456 = .ok (.bipush 9, 2) := by decide +kernel
theorem dL_between_458 : decode cL_between 458 = .ok (.invokevirtual 15, 3) := by decide +kernel
theorem dL_between_461 : decode cL_between 461 = .ok (.ifCond .lt 29, 3) := by decide +kernel
theorem dL_between_464 : decode cL_between 464 = .ok (.aload_n 0, 1) := by decide +kernel
theorem dL_between_465 : decode cL_between 465 = .ok (.aload_n 0, 1) := by decide +kernel
theorem dL_between_466 : decode cL_between 466 = .ok (.bipush 9, 2) := by decide +kernel
theorem dL_between_468 : decode cL_between 468 = .ok (.invokevirtual 15, 3) := by decide +kernel
theorem dL_between_471 : decode cL_between 471 = .ok (.iconst 2, 1) := by decide +kernel
theorem dL_between_472 : decode cL_between 472 = .ok (.invokevirtual 9, 3) := by decide +kernel
theorem dL_between_475 : decode cL_between 475 = .ok (.iconst 1, 1) := by decide +kernel
theorem dL_between_476 : decode cL_between 476 = .ok (.if_icmp .eq 14, 3) := by decide +kernel
theorem dL_between_479 : decode cL_between 479 = .ok (.aload_n 0, 1) := by decide +kernel
theorem dL_between_480 : decode cL_between 480 = .ok (.bipush 7, 2) := by decide +kernel
theorem dL_between_482 : decode cL_between 482 = .ok (.invokevirtual 15, 3) := by decide +kernel
theorem dL_between_485 : decode cL_between 485 = .ok (.bipush 30, 2) := by decide +kernel
theorem dL_between_487 : decode cL_between 487 = .ok (.if_icmp .ne 37, 3) := by decide +kernel
theorem dL_between_490 : decode cL_between 490 = .ok (.iload 7, 2) := by decide +kernel
theorem dL_between_492 : decode cL_between 492 = .ok (.iload 5, 2) := by decide +kernel
theorem dL_between_494 : decode cL_between 494 = .ok (.bipush 8, 2) := by decide +kernel
theorem dL_between_496 : decode cL_between 496 = .ok (.if_icmp .ne 8, 3) := by decide +kernel
theorem dL_between_499 : decode cL_between 499 = .ok (.bipush (-3), 2) := by decide +kernel
theorem dL_between_501 : decode cL_between 501 = .ok (.goto 7, 3) := by decide +kernel
theorem dL_between_504 : decode cL_between 504 = .ok (.iload 5, 2) := by decide +kernel
theorem dL_between_506 : decode cL_between 506 = .ok (.iconst 1, 1) := by decide +kernel
theorem dL_between_507 : decode cL_between 507 = .ok (.iadd, 1) := by decide +kernel
theorem dL_between_508 : decode cL_between 508 = .ok (.if_icmp .ne 14, 3) := by decide +kernel
theorem dL_between_511 : decode cL_between 511 = .ok (.aload_n 0, 1) := by decide +kernel
theorem dL_between_512 : decode cL_between 512 = .ok (.invokevirtual 120, 3) := by decide +kernel
theorem dL_between_515 : decode cL_between 515 = .ok (.ifCond .ge 7, 3) := by decide +kernel
theorem dL_between_518 : decode cL_between 518 = .ok (.iconst 1, 1) := by decide +kernel
theorem dL_between_519 : decode cL_between 519 = .ok (.goto 4, 3) := by decide +kernel
theorem dL_between_522 : decode cL_between 522 = .ok (.iconst 0, 1) := by decide +kernel
theorem dL_between_523 : decode cL_between 523 = .ok (.ireturn, 1) := by decide +kernel
theorem dL_between_524 : decode cL_between 524 = .ok (.aload_n 0, 1) := by decide +kernel
theorem dL_between_525 : decode cL_between 525 = .ok (.iconst 0, 1) := by decide +kernel
theorem dL_between_526 : decode cL_between 526 = .ok (.iconst 1, 1) := by decide +kernel
theorem dL_between_527 : decode cL_between 527 = .ok (.invokevirtual 37, 3) := by decide +kernel
theorem dL_between_530 : decode cL_between 530 = .ok (.istore 8, 2) := by decide +kernel
theorem dL_between_532 : decode cL_between 532 = .ok (.iload 4, 2) := by decide +kernel
theorem dL_between_534 : decode cL_between 534 = .ok (.iload 8, 2) := by decide +kernel
theorem dL_between_536 : decode cL_between 536 = .ok (.invokestatic 40, 3) := by decide +kernel
theorem dL_between_539 : decode cL_between 539 = .ok (.istore 9, 2) := by decide +kernel
theorem dL_between_541 : decode cL_between 541 = .ok (.aload_n 0, 1) := by decide +kernel
theorem dL_between_542 : decode cL_between 542 = .ok (.iconst 0, 1) := by decide +kernel
theorem dL_between_543 : decode cL_between 543 = .ok (.invokevirtual 31, 3) := by decide +kernel
theorem dL_between_546 : decode cL_between 546 = .ok (.aload_n 0, 1) := by decide +kernel
theorem dL_between_547 : decode cL_between 547 = .ok (.iconst 1, 1) := by decide +kernel
theorem dL_between_548 : decode cL_between 548 = .ok (.invokevirtual 31, 3) := by decide +kernel
theorem dL_between_551 : decode cL_between 551 = .ok (.iadd, 1) := by decide +kernel
theorem dL_between_552 : decode cL_between 552 = .ok (.istore 10, 2) := by decide +kernel
theorem dL_between_554 : decode cL_between 554 = .ok (.aload_n 0, 1) := by decide +kernel
theorem dL_between_555 : decode cL_between 555 = .ok (.invokevirtual 120, 3) := by decide +kernel
theorem dL_between_558 : decode cL_between 558 = .ok (.iload 9, 2) := by decide +kernel
theorem dL_between_560 : decode cL_between 560 = .ok (.iload 8, 2) := by decide +kernel
theorem dL_between_562 : decode cL_between 562 = .ok (.isub, 1) := by decide +kernel
theorem dL_between_563 : decode cL_between 563 = .ok (.if_icmp .ne 76, 3) := by decide +kernel
theorem dL_between_566 : decode cL_between 566 = .ok (.aload_n 0, 1) := by decide +kernel
theorem dL_between_567 : decode cL_between 567 = .ok (.bipush 14, 2) := by decide +kernel
theorem dL_between_569 : decode cL_between 569 = .ok (.invokevirtual 15, 3) := by decide +kernel
theorem dL_between_572 : decode cL_between 572 = .ok (.iconst 1, 1) := by decide +kernel
theorem dL_between_573 : decode cL_between 573 = .ok (.if_icmp .ne 66, 3) := by decide +kernel
theorem dL_between_576 : decode cL_between 576 = .ok (.aload_n 0, 1) := by decide +kernel
theorem dL_between_577 : decode cL_between 577 = .ok (.iconst 1, 1) := by decide +kernel
theorem dL_between_578 : decode cL_between 578 = .ok (.invokevirtual 28, 3) := by decide +kernel
theorem dL_between_581 : decode cL_between 581 = .ok (.iload 9, 2) := by decide +kernel
theorem dL_between_583 : decode cL_between 583 = .ok (.if_icmp .ne 56, 3) := by decide +kernel
theorem dL_between_586 : decode cL_between 586 = .ok (.aload_n 0, 1) := by decide +kernel
theorem dL_between_587 : decode cL_between 587 = .ok (.iconst 5, 1) := by decide +kernel
theorem dL_between_588 : decode cL_between 588 = .ok (.invokevirtual 15, 3) := by decide +kernel
theorem dL_between_591 : decode cL_between 591 = .ok (.iload 9, 2) := by decide +kernel
theorem dL_between_593 : decode cL_between 593 = .ok (.if_icmp .ne 46, 3) := by decide +kernel
theorem dL_between_596 : decode cL_between 596 = .ok (.aload_n 0, 1) := by decide +kernel
theorem dL_between_597 : decode cL_between 597 = .ok (.iconst 0, 1) := by decide +kernel
theorem dL_between_598 : decode cL_between 598 = .ok (.invokevirtual 31, 3) := by decide +kernel
theorem dL_between_601 : decode cL_between 601 = .ok (.aload_n 0, 1) := by decide +kernel
theorem dL_between_602 : decode cL_between 602 = .ok (.iconst 1, 1) := by decide +kernel
theorem dL_between_603 : decode cL_between 603 = .ok (.invokevirtual 31, 3) := by decide +kernel
theorem dL_between_606 : decode cL_between 606 = .ok (.iadd, 1) := by decide +kernel
theorem dL_between_607 : decode cL_between 607 = .ok (.iload 10, 2) := by decide +kernel
theorem dL_between_609 : decode cL_between 609 = .ok (.if_icmp .ne 30, 3) := by decide +kernel
theorem dL_between_612 : decode cL_between 612 = .ok (.aload_n 0, 1) := by decide +kernel
theorem dL_between_613 : decode cL_between 613 = .ok (.bipush 10, 2) := by decide +kernel
theorem dL_between_615 : decode cL_between 615 = .ok (.invokevirtual 15, 3) := by decide +kernel
theorem dL_between_618 : decode cL_between 618 = .ok (.ifCond .ne 21, 3) := by decide +kernel
theorem dL_between_621 : decode cL_between 621 = .ok (.aload_n 0, 1) := by decide +kernel
theorem dL_between_622 : decode cL_between 622 = .ok (.iconst 2, 1) := by decide +kernel
theorem dL_between_623 : decode cL_between 623 = .ok (.invokevirtual 28, 3) := by decide +kernel
theorem dL_between_626 : decode cL_between 626 = .ok (.aload_n 0, 1) := by decide +kernel
theorem dL_between_627 : decode cL_between 627 = .ok (.bipush 12, 2) := by decide +kernel
theorem dL_between_629 : decode cL_between 629 = .ok (.invokevirtual 15, 3) := by decide +kernel
theorem dL_between_632 : decode cL_between 632 = .ok (.if_icmp .ne 7, 3) := by decide +kernel
theorem dL_between_635 : decode cL_between 635 = .ok (.iconst 1, 1) := by decide +kernel
theorem dL_between_636 : decode cL_between 636 = .ok (.goto 4, 3) := by decide +kernel
theorem dL_between_639 : decode cL_between 639 = .ok (.iconst 0, 1) := by decide +kernel
theorem dL_between_640 : decode cL_between 640 = .ok (.ireturn, 1) := by decide +kernel
theorem dL_log_0 : decode cL_log 0 = .ok (.aload_n 0, 1) := by decide +kernel
theorem dL_log_1 : decode cL_log 1 = .ok (.bipush 10, 2) := by decide +kernel
theorem dL_log_3 : decode cL_log 3 = .ok (.invokevirtual 15, 3) := by decide +kernel
theorem dL_log_6 : decode cL_log 6 = .ok (.istore_n 1, 1) := by decide +kernel
theorem dL_log_7 : decode cL_log 7 = .ok (.iconst 0, 1) := by decide +kernel
theorem dL_log_8 : decode cL_log 8 = .ok (.istore_n 2, 1) := by decide +kernel
theorem dL_log_9 : decode cL_log 9 = .ok (.iconst 0, 1) := by decide +kernel
theorem dL_log_10 : decode cL_log 10 = .ok (.istore_n 3, 1) := by decide +kernel
theorem dL_log_11 : decode cL_log 11 = .ok (.iconst 1, 1) := by decide +kernel
theorem dL_log_12 : decode cL_log 12 = .ok (.istore 4, 2) := by decide +kernel
theorem dL_log_14 : decode cL_log 14 = .ok (.iconst 0, 1) := by decide +kernel
theorem dL_log_15 : decode cL_log 15 = .ok (.istore 5, 2) := by decide +kernel
theorem dL_log_17 : decode cL_log 17 = .ok (.iload 5, 2) := by decide +kernel
theorem dL_log_19 : decode cL_log 19 = .ok (.iload_n 1, 1) := by decide +kernel
theorem dL_log_20 : decode cL_log 20 = .ok (.if_icmp .ge 75, 3) := by decide +kernel
theorem dL_log_23 : decode cL_log 23 = .ok (.aload_n 0, 1) := by decide +kernel
theorem dL_log_24 : decode cL_log 24 = .ok (.iload 5, 2) := by decide +kernel
theorem dL_log_26 : decode cL_log 26 = .ok (.invokevirtual 123, 3) := by decide +kernel
theorem dL_log_29 : decode cL_log 29 = .ok (.istore 6, 2) := by decide +kernel
theorem dL_log_31 : decode cL_log 31 = .ok (.iload 4, 2) := by decide +kernel
theorem dL_log_33 : decode cL_log 33 = .ok (.ifCond .eq 27, 3) := by decide +kernel
theorem dL_log_36 : decode cL_log 36 = .ok (.iload 6, 2) := by decide +kernel
theorem dL_log_38 : decode cL_log 38 = .ok (.bipush 58, 2) := by decide +kernel
theorem dL_log_40 : decode cL_log 40 = .ok (.if_icmp .ne 20, 3) := by decide +kernel
theorem dL_log_43 : decode cL_log 43 = .ok (.iload_n 2, 1) := by decide +kernel
theorem dL_log_44 : decode cL_log 44 = .ok (.iload_n 3, 1) := by decide +kernel
theorem dL_log_45 : decode cL_log 45 = .ok (.if_icmp .ge 5, 3) := by decide +kernel
theorem dL_log_48 : decode cL_log 48 = .ok (.iconst 0, 1) := by decide +kernel
theorem dL_log_49 : decode cL_log 49 = .ok (.ireturn, 1) := by decide +kernel
theorem dL_log_50 : decode cL_log 50 = .ok (.iload_n 2, 1) := by decide +kernel
theorem dL_log_51 : decode cL_log 51 = .ok (.istore_n 3, 1) := by decide +kernel
theorem dL_log_52 : decode cL_log 52 = .ok (.iconst 0, 1) := by decide +kernel
theorem dL_log_53 : decode cL_log 53 = .ok (.istore_n 2, 1) := by decide +kernel
theorem dL_log_54 : decode cL_log 54 = .ok (.iconst 0, 1) := by decide +kernel
theorem dL_log_55 : decode cL_log 55 = .ok (.istore 4, 2) := by decide +kernel
theorem dL_log_57 : decode cL_log 57 = .ok (.goto 32, 3) := by decide +kernel
theorem dL_log_60 : decode cL_log 60 = .ok (.iload 4, 2) := by decide +kernel
theorem dL_log_62 : decode cL_log 62 = .ok (.ifCond .eq 17, 3) := by decide +kernel
theorem dL_log_65 : decode cL_log 65 = .ok (.bipush 10, 2) := by decide +kernel
theorem dL_log_67 : decode cL_log 67 = .ok (.iload_n 2, 1) := by decide +kernel
theorem dL_log_68 : decode cL_log 68 = .ok (.imul, 1) := by decide +kernel
theorem dL_log_69 : decode cL_log 69 = .ok (.iload 6, 2) := by decide +kernel
theorem dL_log_71 : decode cL_log 71 = .ok (.iadd, 1) := by decide +kernel
theorem dL_log_72 : decode cL_log 72 = .ok (.bipush 48, 2) := by decide +kernel
theorem dL_log_74 : decode cL_log 74 = .ok (.isub, 1) := by decide +kernel
theorem dL_log_75 : decode cL_log 75 = .ok (.istore_n 2, 1) := by decide +kernel
theorem dL_log_76 : decode cL_log 76 = .ok (.goto 13, 3) := by decide +kernel
theorem dL_log_79 : decode cL_log 79 = .ok (.iload 6, 2) := by decide +kernel
theorem dL_log_81 : decode cL_log 81 = .ok (.bipush 47, 2) := by decide +kernel
theorem dL_log_83 : decode cL_log 83 = .ok (.if_icmp .ne 6, 3) := by decide +kernel
theorem dL_log_86 : decode cL_log 86 = .ok (.iconst 1, 1) := by decide +kernel
theorem dL_log_87 : decode cL_log 87 = .ok (.istore 4, 2) := by decide +kernel
theorem dL_log_89 : decode cL_log 89 = .ok (.iinc 5 1, 3) := by decide +kernel
theorem dL_log_92 : decode cL_log 92 = .ok (.goto (-75), 3) := by decide +kernel
theorem dL_log_95 : decode cL_log 95 = .ok (.iload 4, 2) := by decide +kernel
theorem dL_log_97 : decode cL_log 97 = .ok (.ifCond .eq 37, 3) := by decide +kernel
theorem dL_log_100 : decode cL_log 100 = .ok (.aload_n 0, 1) := by decide +kernel
theorem dL_log_101 : decode cL_log 101 = .ok (.iload_n 1, 1) := by decide +kernel
theorem dL_log_102 : decode cL_log 102 = .ok (.invokevirtual 123, 3) := by decide +kernel
theorem dL_log_105 : decode cL_log 105 = .ok (.bipush (-5), 2) := by decide +kernel
theorem dL_log_107 : decode cL_log 107 = .ok (.if_icmp .ne 27, 3) := by decide +kernel
theorem dL_log_110 : decode cL_log 110 = .ok (.aload_n 0, 1) := by decide +kernel
theorem dL_log_111 : decode cL_log 111 = .ok (.iconst (-1), 1) := by decide +kernel
theorem dL_log_112 : decode cL_log 112 = .ok (.invokevirtual 123, 3) := by decide +kernel
theorem dL_log_115 : decode cL_log 115 = .ok (.bipush (-2), 2) := by decide +kernel
theorem dL_log_117 : decode cL_log 117 = .ok (.if_icmp .ne 17, 3) := by decide +kernel
theorem dL_log_120 : decode cL_log 120 = .ok (.iload_n 3, 1) := by decide +kernel
theorem dL_log_121 : decode cL_log 121 = .ok (.aload_n 0, 1) := by decide +kernel
theorem dL_log_122 : decode cL_log 122 = .ok (.bipush 12, 2) := by decide +kernel
theorem dL_log_124 : decode cL_log 124 = .ok (.invokevirtual 15, 3) := by decide +kernel
theorem dL_log_127 : decode cL_log 127 = .ok (.if_icmp .gt 7, 3) := by decide +kernel
theorem dL_log_130 : decode cL_log 130 = .ok (.iconst 1, 1) := by decide +kernel
theorem dL_log_131 : decode cL_log 131 = .ok (.goto 4, 3) := by decide +kernel
theorem dL_log_134 : decode cL_log 134 = .ok (.iconst 0, 1) := by decide +kernel
theorem dL_log_135 : decode cL_log 135 = .ok (.ireturn, 1) := by decide +kernel
theorem dL_errors_0 : decode cL_errors 0 = .ok (.aload_n 0, 1) := by decide +kernel
theorem dL_errors_1 : decode cL_errors 1 = .ok (.iconst 0, 1) := by decide +kernel
theorem dL_errors_2 : decode cL_errors 2 = .ok (.invokevirtual 15, 3) := by decide +kernel
theorem dL_errors_5 : decode cL_errors 5 = .ok (.istore_n 1, 1) := by decide +kernel
theorem dL_errors_6 : decode cL_errors 6 = .ok (.aload_n 0, 1) := by decide +kernel
theorem dL_errors_7 : decode cL_errors 7 = .ok (.iconst 1, 1) := by decide +kernel
theorem dL_errors_8 : decode cL_errors 8 = .ok (.invokevirtual 15, 3) := by decide +kernel
theorem dL_errors_11 : decode cL_errors 11 = .ok (.istore_n 2, 1) := by decide +kernel
theorem dL_errors_12 : decode cL_errors 12 = .ok (.aload_n 0, 1) := by decide +kernel
theorem dL_errors_13 : decode cL_errors 13 = .ok (.iconst 2, 1) := by decide +kernel
theorem dL_errors_14 : decode cL_errors 14 = .ok (.invokevirtual 15, 3) := by decide +kernel
theorem dL_errors_17 : decode cL_errors 17 = .ok (.istore_n 3, 1) := by decide +kernel
theorem dL_errors_18 : decode cL_errors 18 = .ok (.aload_n 0, 1) := by decide +kernel
theorem dL_errors_19 : decode cL_errors 19 = .ok (.iload_n 1, 1) := by decide +kernel
theorem dL_errors_20 : decode cL_errors 20 = .ok (.invokevirtual 64, 3) := by decide +kernel
theorem dL_errors_23 : decode cL_errors 23 = .ok (.iconst (-1), 1) := by decide +kernel
theorem dL_errors_24 : decode cL_errors 24 = .ok (.if_icmp .ne 92, 3) := by decide +kernel
theorem dL_errors_27 : decode cL_errors 27 = .ok (.aload_n 0, 1) := by decide +kernel
theorem dL_errors_28 : decode cL_errors 28 = .ok (.iload_n 2, 1) := by decide +kernel
theorem dL_errors_29 : decode cL_errors 29 = .ok (.iconst 0, 1) := by decide +kernel
theorem dL_errors_30 : decode cL_errors 30 = .ok (.iconst 0, 1) := by decide +kernel
theorem dL_errors_31 : decode cL_errors 31 = .ok (.invokevirtual 67, 3) := by decide +kernel
theorem dL_errors_34 : decode cL_errors 34 = .ok (.iconst (-1), 1) := by decide +kernel
theorem dL_errors_35 : decode cL_errors 35 = .ok (.if_icmp .ne 81, 3) := by decide +kernel
theorem dL_errors_38 : decode cL_errors 38 = .ok (.aload_n 0, 1) := by decide +kernel
theorem dL_errors_39 : decode cL_errors 39 = .ok (.iload_n 1, 1) := by decide +kernel
theorem dL_errors_40 : decode cL_errors 40 = .ok (.invokevirtual 107, 3) := by decide +kernel
theorem dL_errors_43 : decode cL_errors 43 = .ok (.iconst (-1), 1) := by decide +kernel
theorem dL_errors_44 : decode cL_errors 44 = .ok (.if_icmp .ne 72, 3) := by decide +kernel
theorem dL_errors_47 : decode cL_errors 47 = .ok (.aload_n 0, 1) := by decide +kernel
theorem dL_errors_48 : decode cL_errors 48 = .ok (.iload_n 2, 1) := by decide +kernel
theorem dL_errors_49 : decode cL_errors 49 = .ok (.invokevirtual 71, 3) := by decide +kernel
theorem dL_errors_52 : decode cL_errors 52 = .ok (.iconst (-1), 1) := by decide +kernel
theorem dL_errors_53 : decode cL_errors 53 = .ok (.if_icmp .ne 63, 3) := by decide +kernel
theorem dL_errors_56 : decode cL_errors 56 = .ok (.aload_n 0, 1) := by decide +kernel
theorem dL_errors_57 : decode cL_errors 57 = .ok (.iconst 0, 1) := by decide +kernel
theorem dL_errors_58 : decode cL_errors 58 = .ok (.iload_n 1, 1) := by decide +kernel
theorem dL_errors_59 : decode cL_errors 59 = .ok (.invokevirtual 74, 3) := by decide +kernel
theorem dL_errors_62 : decode cL_errors 62 = .ok (.iconst (-1), 1) := by decide +kernel
theorem dL_errors_63 : decode cL_errors 63 = .ok (.if_icmp .ne 53, 3) := by decide +kernel
theorem dL_errors_66 : decode cL_errors 66 = .ok (.aload_n 0, 1) := by decide +kernel
theorem dL_errors_67 : decode cL_errors 67 = .ok (.iload_n 1, 1) := by decide +kernel
theorem dL_errors_68 : decode cL_errors 68 = .ok (.iconst 0, 1) := by decide +kernel
theorem dL_errors_69 : decode cL_errors 69 = .ok (.invokevirtual 77, 3) := by decide +kernel
theorem dL_errors_72 : decode cL_errors 72 = .ok (.iconst (-1), 1) := by decide +kernel
theorem dL_errors_73 : decode cL_errors 73 = .ok (.if_icmp .ne 43, 3) := by decide +kernel
theorem dL_errors_76 : decode cL_errors 76 = .ok (.aload_n 0, 1) := by decide +kernel
theorem dL_errors_77 : decode cL_errors 77 = .ok (.iload_n 3, 1) := by decide +kernel
theorem dL_errors_78 : decode cL_errors 78 = .ok (.invokevirtual 80, 3) := by decide +kernel
theorem dL_errors_81 : decode cL_errors 81 = .ok (.iconst (-1), 1) := by decide +kernel
theorem dL_errors_82 : decode cL_errors 82 = .ok (.if_icmp .ne 34, 3) := by decide +kernel
theorem dL_errors_85 : decode cL_errors 85 = .ok (.aload_n 0, 1) := by decide +kernel
theorem dL_errors_86 : decode cL_errors 86 = .ok (.iload_n 2, 1) := by decide +kernel
theorem dL_errors_87 : decode cL_errors 87 = .ok (.invokevirtual 126, 3) := by decide +kernel
theorem dL_errors_90 : decode cL_errors 90 = .ok (.iconst (-1), 1) := by decide +kernel
theorem dL_errors_91 : decode cL_errors 91 = .ok (.if_icmp .ne 25, 3) := by decide +kernel
theorem dL_errors_94 : decode cL_errors 94 = .ok (.aload_n 0, 1) := by decide +kernel
theorem dL_errors_95 : decode cL_errors 95 = .ok (.iload_n 1, 1) := by decide +kernel
theorem dL_errors_96 : decode cL_errors 96 = .ok (.invokevirtual 110, 3) := by decide +kernel
theorem dL_errors_99 : decode cL_errors 99 = .ok (.iconst (-1), 1) := by decide +kernel
theorem dL_errors_100 : decode cL_errors 100 = .ok (.if_icmp .ne 16, 3) := by decide +kernel
theorem dL_errors_103 : decode cL_errors 103 = .ok (.aload_n 0, 1) := by decide +kernel
theorem dL_errors_104 : decode cL_errors 104 = .ok (.iload_n 3, 1) := by decide +kernel
theorem dL_errors_105 : decode cL_errors 105 = .ok (.invokevirtual 129, 3) := by decide +kernel
theorem dL_errors_108 : decode cL_errors 108 = .ok (.iconst (-1), 1) := by decide +kernel
theorem dL_errors_109 : decode cL_errors 109 = .ok (.if_icmp .ne 7, 3) := by decide +kernel
theorem dL_errors_112 : decode cL_errors 112 = .ok (.iconst 1, 1) := by decide +kernel
theorem dL_errors_113 : decode cL_errors 113 = .ok (.goto 4, 3) := by decide +kernel
theorem dL_errors_116 : decode cL_errors 116 = .ok (.iconst 0, 1) := by decide +kernel
theorem dL_errors_117 : decode cL_errors 117 = .ok (.istore 4, 2) := by decide +kernel
theorem dL_errors_119 : decode cL_errors 119 = .ok (.aload_n 0, 1) := by decide +kernel
theorem dL_errors_120 : decode cL_errors 120 = .ok (.iconst 0, 1) := by decide +kernel
theorem dL_errors_121 : decode cL_errors 121 = .ok (.invokevirtual 107, 3) := by decide +kernel
theorem dL_errors_124 : decode cL_errors 124 = .ok (.bipush (-2), 2) := by decide +kernel
theorem dL_errors_126 : decode cL_errors 126 = .ok (.if_icmp .ne 95, 3) := by decide +kernel
theorem dL_errors_129 : decode cL_errors 129 = .ok (.aload_n 0, 1) := by decide +kernel
theorem dL_errors_130 : decode cL_errors 130 = .ok (.iconst 0, 1) := by decide +kernel
theorem dL_errors_131 : decode cL_errors 131 = .ok (.invokevirtual 110, 3) := by decide +kernel
theorem dL_errors_134 : decode cL_errors 134 = .ok (.bipush (-2), 2) := by decide +kernel
theorem dL_errors_136 : decode cL_errors 136 = .ok (.if_icmp .ne 85, 3) := by decide +kernel
theorem dL_errors_139 : decode cL_errors 139 = .ok (.aload_n 0, 1) := by decide +kernel
theorem dL_errors_140 : decode cL_errors 140 = .ok (.bipush 9, 2) := by decide +kernel
theorem dL_errors_142 : decode cL_errors 142 = .ok (.iconst 0, 1) := by decide +kernel
theorem dL_errors_143 : decode cL_errors 143 = .ok (.invokevirtual 132, 3) := by decide +kernel
theorem dL_errors_146 : decode cL_errors 146 = .ok (.bipush (-2), 2) := by decide +kernel
theorem dL_errors_148 : decode cL_errors 148 = .ok (.if_icmp .ne 73, 3) := by decide +kernel
theorem dL_errors_151 : decode cL_errors 151 = .ok (.aload_n 0, 1) := by decide +kernel
theorem dL_errors_152 : decode cL_errors 152 = .ok (.bipush 10, 2) := by decide +kernel
theorem dL_errors_154 : decode cL_errors 154 = .ok (.bipush 10, 2) := by decide +kernel
theorem dL_errors_156 : decode cL_errors 156 = .ok (.invokevirtual 132, 3) := by decide +kernel
theorem dL_errors_159 : decode cL_errors 159 = .ok (.bipush (-2), 2) := by decide +kernel
theorem dL_errors_161 : decode cL_errors 161 = .ok (.if_icmp .ne 60, 3) := by decide +kernel
theorem dL_errors_164 : decode cL_errors 164 = .ok (.aload_n 0, 1) := by decide +kernel
theorem dL_errors_165 : decode cL_errors 165 = .ok (.iconst 0, 1) := by decide +kernel
theorem dL_errors_166 : decode cL_errors 166 = .ok (.invokevirtual 104, 3) := by decide +kernel
theorem dL_errors_169 : decode cL_errors 169 = .ok (.bipush (-2), 2) := by decide +kernel
theorem dL_errors_171 : decode cL_errors 171 = .ok (.if_icmp .ne 50, 3) := by decide +kernel
theorem dL_errors_174 : decode cL_errors 174 = .ok (.aload_n 0, 1) := by decide +kernel
theorem dL_errors_175 : decode cL_errors 175 = .ok (.iconst 0, 1) := by decide +kernel
theorem dL_errors_176 : decode cL_errors 176 = .ok (.iconst 0, 1) := by decide +kernel
theorem dL_errors_177 : decode cL_errors 177 = .ok (.invokevirtual 117, 3) := by decide +kernel
theorem dL_errors_180 : decode cL_errors 180 = .ok (.bipush (-2), 2) := by decide +kernel
theorem dL_errors_182 : decode cL_errors 182 = .ok (.if_icmp .ne 39, 3) := by decide +kernel
theorem dL_errors_185 : decode cL_errors 185 = .ok (.aload_n 0, 1) := by decide +kernel
theorem dL_errors_186 : decode cL_errors 186 = .ok (.sipush 1001, 3) := by decide +kernel
theorem dL_errors_189 : decode cL_errors 189 = .ok (.invokevirtual 98, 3) := by decide +kernel
theorem dL_errors_192 : decode cL_errors 192 = .ok (.bipush (-2), 2) := by decide +kernel
theorem dL_errors_194 : decode cL_errors 194 = .ok (.if_icmp .ne 27, 3) := by decide +kernel
theorem dL_errors_197 : decode cL_errors 197 = .ok (.aload_n 0, 1) := by decide +kernel
theorem dL_errors_198 : decode cL_errors 198 = .ok (.iconst 0, 1) := by decide +kernel
theorem dL_errors_199 : decode cL_errors 199 = .ok (.invokevirtual 92, 3) := by decide +kernel
theorem dL_errors_202 : decode cL_errors 202 = .ok (.bipush (-2), 2) := by decide +kernel
theorem dL_errors_204 : decode cL_errors 204 = .ok (.if_icmp .ne 17, 3) := by decide +kernel
theorem dL_errors_207 : decode cL_errors 207 = .ok (.aload_n 0, 1) := by decide +kernel
theorem dL_errors_208 : decode cL_errors 208 = .ok (.iconst 0, 1) := by decide +kernel
theorem dL_errors_209 : decode cL_errors 209 = .ok (.invokevirtual 135, 3) := by decide +kernel
theorem dL_errors_212 : decode cL_errors 212 = .ok (.bipush (-2), 2) := by decide +kernel
theorem dL_errors_214 : decode cL_errors 214 = .ok (.if_icmp .ne 7, 3) := by decide +kernel
theorem dL_errors_217 : decode cL_errors 217 = .ok (.iconst 1, 1) := by decide +kernel
theorem dL_errors_218 : decode cL_errors 218 = .ok (.goto 4, 3) := by decide +kernel
theorem dL_errors_221 : decode cL_errors 221 = .ok (.iconst 0, 1) := by decide +kernel
theorem dL_errors_222 : decode cL_errors 222 = .ok (.istore 5, 2) := by decide +kernel
theorem dL_errors_224 : decode cL_errors 224 = .ok (.iload 4, 2) := by decide +kernel
theorem dL_errors_226 : decode cL_errors 226 = .ok (.ifCond .eq 95, 3) := by decide +kernel
theorem dL_errors_229 : decode cL_errors 229 = .ok (.iload 5, 2) := by decide +kernel
theorem dL_errors_231 : decode cL_errors 231 = .ok (.ifCond .eq 90, 3) := by decide +kernel
theorem dL_errors_234 : decode cL_errors 234 = .ok (.aload_n 0, 1) := by decide +kernel
theorem dL_errors_235 : decode cL_errors 235 = .ok (.aload_n 0, 1) := by decide +kernel
theorem dL_errors_236 : decode cL_errors 236 = .ok (.iconst 3, 1) := by decide +kernel
theorem dL_errors_237 : decode cL_errors 237 = .ok (.invokevirtual 15, 3) := by decide +kernel
theorem dL_errors_240 : decode cL_errors 240 = .ok (.invokevirtual 138, 3) := by decide +kernel
theorem dL_errors_243 : decode cL_errors 243 = .ok (.iconst (-1), 1) := by decide +kernel
theorem dL_errors_244 : decode cL_errors 244 = .ok (.if_icmp .ne 77, 3) := by decide +kernel
theorem dL_errors_247 : decode cL_errors 247 = .ok (.aload_n 0, 1) := by decide +kernel
theorem dL_errors_248 : decode cL_errors 248 = .ok (.iconst 2, 1) := by decide +kernel
theorem dL_errors_249 : decode cL_errors 249 = .ok (.invokevirtual 141, 3) := by decide +kernel
theorem dL_errors_252 : decode cL_errors 252 = .ok (.iconst (-1), 1) := by decide +kernel
theorem dL_errors_253 : decode cL_errors 253 = .ok (.if_icmp .ne 68, 3) := by decide +kernel
theorem dL_errors_256 : decode cL_errors 256 = .ok (.aload_n 0, 1) := by decide +kernel
theorem dL_errors_257 : decode cL_errors 257 = .ok (.iconst (-1), 1) := by decide +kernel
theorem dL_errors_258 : decode cL_errors 258 = .ok (.invokevirtual 144, 3) := by decide +kernel
theorem dL_errors_261 : decode cL_errors 261 = .ok (.iconst (-1), 1) := by decide +kernel
theorem dL_errors_262 : decode cL_errors 262 = .ok (.if_icmp .ne 59, 3) := by decide +kernel
theorem dL_errors_265 : decode cL_errors 265 = .ok (.aload_n 0, 1) := by decide +kernel
theorem dL_errors_266 : decode cL_errors 266 = .ok (.bipush 6, 2) := by decide +kernel
theorem dL_errors_268 : decode cL_errors 268 = .ok (.invokevirtual 28, 3) := by decide +kernel
theorem dL_errors_271 : decode cL_errors 271 = .ok (.bipush (-2), 2) := by decide +kernel
theorem dL_errors_273 : decode cL_errors 273 = .ok (.if_icmp .ne 48, 3) := by decide +kernel
theorem dL_errors_276 : decode cL_errors 276 = .ok (.aload_n 0, 1) := by decide +kernel
theorem dL_errors_277 : decode cL_errors 277 = .ok (.iload_n 1, 1) := by decide +kernel
theorem dL_errors_278 : decode cL_errors 278 = .ok (.iconst 0, 1) := by decide +kernel
theorem dL_errors_279 : decode cL_errors 279 = .ok (.invokevirtual 9, 3) := by decide +kernel
theorem dL_errors_282 : decode cL_errors 282 = .ok (.iconst (-1), 1) := by decide +kernel
theorem dL_errors_283 : decode cL_errors 283 = .ok (.if_icmp .ne 38, 3) := by decide +kernel
theorem dL_errors_286 : decode cL_errors 286 = .ok (.aload_n 0, 1) := by decide +kernel
theorem dL_errors_287 : decode cL_errors 287 = .ok (.iload_n 2, 1) := by decide +kernel
theorem dL_errors_288 : decode cL_errors 288 = .ok (.iconst 0, 1) := by decide +kernel
theorem dL_errors_289 : decode cL_errors 289 = .ok (.invokevirtual 25, 3) := by decide +kernel
theorem dL_errors_292 : decode cL_errors 292 = .ok (.iconst (-1), 1) := by decide +kernel
theorem dL_errors_293 : decode cL_errors 293 = .ok (.if_icmp .ne 28, 3) := by decide +kernel
theorem dL_errors_296 : decode cL_errors 296 = .ok (.aload_n 0, 1) := by decide +kernel
theorem dL_errors_297 : decode cL_errors 297 = .ok (.iload_n 3, 1) := by decide +kernel
theorem dL_errors_298 : decode cL_errors 298 = .ok (.iconst 0, 1) := by decide +kernel
theorem dL_errors_299 : decode cL_errors 299 = .ok (.invokevirtual 34, 3) := by decide +kernel
theorem dL_errors_302 : decode cL_errors 302 = .ok (.iconst (-1), 1) := by decide +kernel
theorem dL_errors_303 : decode cL_errors 303 = .ok (.if_icmp .ne 18, 3) := by decide +kernel
theorem dL_errors_306 : decode cL_errors 306 = .ok (.aload_n 0, 1) := by decide +kernel
theorem dL_errors_307 : decode cL_errors 307 = .ok (.bipush 15, 2) := by decide +kernel
theorem dL_errors_309 : decode cL_errors 309 = .ok (.invokevirtual 15, 3) := by decide +kernel
theorem dL_errors_312 : decode cL_errors 312 = .ok (.bipush (-2), 2) := by decide +kernel
theorem dL_errors_314 : decode cL_errors 314 = .ok (.if_icmp .ne 7, 3) := by decide +kernel
theorem dL_errors_317 : decode cL_errors 317 = .ok (.iconst 1, 1) := by decide +kernel
theorem dL_errors_318 : decode cL_errors 318 = .ok (.goto 4, 3) := by decide +kernel
theorem dL_errors_321 : decode cL_errors 321 = .ok (.iconst 0, 1) := by decide +kernel
theorem dL_errors_322 : decode cL_errors 322 = .ok (.ireturn, 1) := by decide +kernel
theorem dL_law_0 : decode cL_law 0 = .ok (.new 10, 3) := by decide +kernel
theorem dL_law_3 : decode cL_law 3 = .ok (.dup, 1) := by decide +kernel
theorem dL_law_4 : decode cL_law 4 = .ok (.invokespecial 147, 3) := by decide +kernel
theorem dL_law_7 : decode cL_law 7 = .ok (.astore_n 1, 1) := by decide +kernel
theorem dL_law_8 : decode cL_law 8 = .ok (.aload_n 1, 1) := by decide +kernel
theorem dL_law_9 : decode cL_law 9 = .ok (.invokevirtual 86, 3) := by decide +kernel
theorem dL_law_12 : decode cL_law 12 = .ok (.bipush (-4), 2) := by decide +kernel
theorem dL_law_14 : decode cL_law 14 = .ok (.if_icmp .ne 13, 3) := by decide +kernel
theorem dL_law_17 : decode cL_law 17 = .ok (.aload_n 1, 1) := by decide +kernel
theorem dL_law_18 : decode cL_law 18 = .ok (.iconst 1, 1) := by decide +kernel
theorem dL_law_19 : decode cL_law 19 = .ok (.invokevirtual 135, 3) := by decide +kernel
theorem dL_law_22 : decode cL_law 22 = .ok (.bipush (-4), 2) := by decide +kernel
theorem dL_law_24 : decode cL_law 24 = .ok (.if_icmp .eq 5, 3) := by decide +kernel
theorem dL_law_27 : decode cL_law 27 = .ok (.iconst 0, 1) := by decide +kernel
theorem dL_law_28 : decode cL_law 28 = .ok (.ireturn, 1) := by decide +kernel
theorem dL_law_29 : decode cL_law 29 = .ok (.iconst 0, 1) := by decide +kernel
theorem dL_law_30 : decode cL_law 30 = .ok (.istore_n 2, 1) := by decide +kernel
theorem dL_law_31 : decode cL_law 31 = .ok (.iload_n 2, 1) := by decide +kernel
theorem dL_law_32 : decode cL_law 32 = .ok (.bipush 34, 2) := by decide +kernel
theorem dL_law_34 : decode cL_law 34 = .ok (.if_icmp .ge 108, 3) := by decide +kernel
theorem dL_law_37 : decode cL_law 37 = .ok (.aload_n 0, 1) := by decide +kernel
theorem dL_law_38 : decode cL_law 38 = .ok (.iconst 2, 1) := by decide +kernel
theorem dL_law_39 : decode cL_law 39 = .ok (.iload_n 2, 1) := by decide +kernel
theorem dL_law_40 : decode cL_law 40 = .ok (.imul, 1) := by decide +kernel
theorem dL_law_41 : decode cL_law 41 = .ok (.invokestatic 148, 3) := by decide +kernel
theorem dL_law_44 : decode cL_law 44 = .ok (.istore_n 3, 1) := by decide +kernel
theorem dL_law_45 : decode cL_law 45 = .ok (.aload_n 0, 1) := by decide +kernel
theorem dL_law_46 : decode cL_law 46 = .ok (.iconst 2, 1) := by decide +kernel
theorem dL_law_47 : decode cL_law 47 = .ok (.iload_n 2, 1) := by decide +kernel
theorem dL_law_48 : decode cL_law 48 = .ok (.imul, 1) := by decide +kernel
theorem dL_law_49 : decode cL_law 49 = .ok (.iconst 1, 1) := by decide +kernel
theorem dL_law_50 : decode cL_law 50 = .ok (.iadd, 1) := by decide +kernel
theorem dL_law_51 : decode cL_law 51 = .ok (.invokestatic 148, 3) := by decide +kernel
theorem dL_law_54 : decode cL_law 54 = .ok (.istore 4, 2) := by decide +kernel
theorem dL_law_56 : decode cL_law 56 = .ok (.iload_n 2, 1) := by decide +kernel
theorem dL_law_57 : decode cL_law 57 = .ok (.bipush 7, 2) := by decide +kernel
theorem dL_law_59 : decode cL_law 59 = .ok (.if_icmp .ge 13, 3) := by decide +kernel
theorem dL_law_62 : decode cL_law 62 = .ok (.aload_n 1, 1) := by decide +kernel
theorem dL_law_63 : decode cL_law 63 = .ok (.iload_n 3, 1) := by decide +kernel
theorem dL_law_64 : decode cL_law 64 = .ok (.iload 4, 2) := by decide +kernel
theorem dL_law_66 : decode cL_law 66 = .ok (.invokestatic 113, 3) := by decide +kernel
