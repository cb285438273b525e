theorem dL_cell_0 : decode cL_cell 0 = .ok (.iload_n 1, 1) := by decide +kernel
theorem dL_cell_1 : decode cL_cell 1 = .ok (.aload_n 0, 1) := by decide +kernel
theorem dL_cell_2 : decode cL_cell 2 = .ok (.arraylength, 1) := by decide +kernel
theorem dL_cell_3 : decode cL_cell 3 = .ok (.if_icmp .ge 9, 3) := by decide +kernel
theorem dL_cell_6 : decode cL_cell 6 = .ok (.aload_n 0, 1) := by decide +kernel
theorem dL_cell_7 : decode cL_cell 7 = .ok (.iload_n 1, 1) := by decide +kernel
theorem dL_cell_8 : decode cL_cell 8 = .ok (.iaload, 1) := by decide +kernel
theorem dL_cell_9 : decode cL_cell 9 = .ok (.goto 11, 3) := by decide +kernel
theorem dL_cell_12 : decode cL_cell 12 = .ok (.ldc 7, 2) := by decide +kernel
theorem dL_cell_14 : decode cL_cell 14 = .ok (.iload_n 1, 1) := by decide +kernel
theorem dL_cell_15 : decode cL_cell 15 = .ok (.imul, 1) := by decide +kernel
theorem dL_cell_16 : decode cL_cell 16 = .ok (.sipush 10007, 3) := by decide +kernel
theorem dL_cell_19 : decode cL_cell 19 = .ok (.iadd, 1) := by decide +kernel
theorem dL_cell_20 : decode cL_cell 20 = .ok (.ireturn, 1) := by decide +kernel
theorem dL_low_0 : decode cL_low 0 = .ok (.iload_n 0, 1) := by decide +kernel
theorem dL_low_1 : decode cL_low 1 = .ok (.ldc 8, 2) := by decide +kernel
theorem dL_low_3 : decode cL_low 3 = .ok (.iand, 1) := by decide +kernel
theorem dL_low_4 : decode cL_low 4 = .ok (.iload_n 1, 1) := by decide +kernel
theorem dL_low_5 : decode cL_low 5 = .ok (.irem, 1) := by decide +kernel
theorem dL_low_6 : decode cL_low 6 = .ok (.ireturn, 1) := by decide +kernel
theorem dL_max_0 : decode cL_max 0 = .ok (.iload_n 0, 1) := by decide +kernel
theorem dL_max_1 : decode cL_max 1 = .ok (.iload_n 1, 1) := by decide +kernel
theorem dL_max_2 : decode cL_max 2 = .ok (.if_icmp .le 7, 3) := by decide +kernel
theorem dL_max_5 : decode cL_max 5 = .ok (.iload_n 0, 1) := by decide +kernel
theorem dL_max_6 : decode cL_max 6 = .ok (.goto 4, 3) := by decide +kernel
theorem dL_max_9 : decode cL_max 9 = .ok (.iload_n 1, 1) := by decide +kernel
theorem dL_max_10 : decode cL_max 10 = .ok (.ireturn, 1) := by decide +kernel
theorem dL_allOpen_0 : decode cL_allOpen 0 = .ok (.iconst 1, 1) := by decide +kernel
theorem dL_allOpen_1 : decode cL_allOpen 1 = .ok (.istore_n 2, 1) := by decide +kernel
theorem dL_allOpen_2 : decode cL_allOpen 2 = .ok (.iload_n 1, 1) := by decide +kernel
theorem dL_allOpen_3 : decode cL_allOpen 3 = .ok (.istore_n 3, 1) := by decide +kernel
theorem dL_allOpen_4 : decode cL_allOpen 4 = .ok (.iload_n 3, 1) := by decide +kernel
theorem dL_allOpen_5 : decode cL_allOpen 5 = .ok (.ifCond .le 33, 3) := by decide +kernel
theorem dL_allOpen_8 : decode cL_allOpen 8 = .ok (.iload_n 2, 1) := by decide +kernel
theorem dL_allOpen_9 : decode cL_allOpen 9 = .ok (.ifCond .eq 17, 3) := by decide +kernel
theorem dL_allOpen_12 : decode cL_allOpen 12 = .ok (.aload_n 0, 1) := by decide +kernel
theorem dL_allOpen_13 : decode cL_allOpen 13 = .ok (.iload_n 3, 1) := by decide +kernel
theorem dL_allOpen_14 : decode cL_allOpen 14 = .ok (.iconst 2, 1) := by decide +kernel
theorem dL_allOpen_15 : decode cL_allOpen 15 = .ok (.invokevirtual 9, 3) := by decide +kernel
theorem dL_allOpen_18 : decode cL_allOpen 18 = .ok (.iconst 1, 1) := by decide +kernel
theorem dL_allOpen_19 : decode cL_allOpen 19 = .ok (.if_icmp .ne 7, 3) := by decide +kernel
theorem dL_allOpen_22 : decode cL_allOpen 22 = .ok (.iconst 1, 1) := by decide +kernel
theorem dL_allOpen_23 : decode cL_allOpen 23 = .ok (.goto 4, 3) := by decide +kernel
theorem dL_allOpen_26 : decode cL_allOpen 26 = .ok (.iconst 0, 1) := by decide +kernel
theorem dL_allOpen_27 : decode cL_allOpen 27 = .ok (.istore_n 2, 1) := by decide +kernel
theorem dL_allOpen_28 : decode cL_allOpen 28 = .ok (.aload_n 0, 1) := by decide +kernel
theorem dL_allOpen_29 : decode cL_allOpen 29 = .ok (.iload_n 3, 1) := by decide +kernel
theorem dL_allOpen_30 : decode cL_allOpen 30 = .ok (.iconst 0, 1) := by decide +kernel
theorem dL_allOpen_31 : decode cL_allOpen 31 = .ok (.invokevirtual 9, 3) := by decide +kernel
theorem dL_allOpen_34 : decode cL_allOpen 34 = .ok (.istore_n 3, 1) := by decide +kernel
theorem dL_allOpen_35 : decode cL_allOpen 35 = .ok (.goto (-31), 3) := by decide +kernel
theorem dL_allOpen_38 : decode cL_allOpen 38 = .ok (.iload_n 2, 1) := by decide +kernel
theorem dL_allOpen_39 : decode cL_allOpen 39 = .ok (.ireturn, 1) := by decide +kernel
theorem dL_boxes_0 : decode cL_boxes 0 = .ok (.iconst 0, 1) := by decide +kernel
theorem dL_boxes_1 : decode cL_boxes 1 = .ok (.istore_n 1, 1) := by decide +kernel
theorem dL_boxes_2 : decode cL_boxes 2 = .ok (.iconst 0, 1) := by decide +kernel
theorem dL_boxes_3 : decode cL_boxes 3 = .ok (.istore_n 2, 1) := by decide +kernel
theorem dL_boxes_4 : decode cL_boxes 4 = .ok (.iconst 0, 1) := by decide +kernel
theorem dL_boxes_5 : decode cL_boxes 5 = .ok (.istore_n 3, 1) := by decide +kernel
theorem dL_boxes_6 : decode cL_boxes 6 = .ok (.iconst 0, 1) := by decide +kernel
theorem dL_boxes_7 : decode cL_boxes 7 = .ok (.istore 4, 2) := by decide +kernel
theorem dL_boxes_9 : decode cL_boxes 9 = .ok (.iload 4, 2) := by decide +kernel
theorem dL_boxes_11 : decode cL_boxes 11 = .ok (.aload_n 0, 1) := by decide +kernel
theorem dL_boxes_12 : decode cL_boxes 12 = .ok (.iconst 0, 1) := by decide +kernel
theorem dL_boxes_13 : decode cL_boxes 13 = .ok (.invokevirtual 15, 3) := by decide +kernel
theorem dL_boxes_16 : decode cL_boxes 16 = .ok (.if_icmp .ge 130, 3) := by decide +kernel
theorem dL_boxes_19 : decode cL_boxes 19 = .ok (.aload_n 0, 1) := by decide +kernel
theorem dL_boxes_20 : decode cL_boxes 20 = .ok (.iload 4, 2) := by decide +kernel
theorem dL_boxes_22 : decode cL_boxes 22 = .ok (.iconst 0, 1) := by decide +kernel
theorem dL_boxes_23 : decode cL_boxes 23 = .ok (.invokevirtual 9, 3) := by decide +kernel
theorem dL_boxes_26 : decode cL_boxes 26 = .ok (.istore 5, 2) := by decide +kernel
theorem dL_boxes_28 : decode cL_boxes 28 = .ok (.iload 4, 2) := by decide +kernel
theorem dL_boxes_30 : decode cL_boxes 30 = .ok (.ifCond .eq 12, 3) := by decide +kernel
theorem dL_boxes_33 : decode cL_boxes 33 = .ok (.aload_n 0, 1) := by decide +kernel
theorem dL_boxes_34 : decode cL_boxes 34 = .ok (.iload 5, 2) := by decide +kernel
theorem dL_boxes_36 : decode cL_boxes 36 = .ok (.invokestatic 19, 3) := by decide +kernel
theorem dL_boxes_39 : decode cL_boxes 39 = .ok (.ifCond .eq 7, 3) := by decide +kernel
theorem dL_boxes_42 : decode cL_boxes 42 = .ok (.iconst 1, 1) := by decide +kernel
theorem dL_boxes_43 : decode cL_boxes 43 = .ok (.goto 4, 3) := by decide +kernel
theorem dL_boxes_46 : decode cL_boxes 46 = .ok (.iconst 0, 1) := by decide +kernel
theorem dL_boxes_47 : decode cL_boxes 47 = .ok (.istore 6, 2) := by decide +kernel
theorem dL_boxes_49 : decode cL_boxes 49 = .ok (.aload_n 0, 1) := by decide +kernel
theorem dL_boxes_50 : decode cL_boxes 50 = .ok (.iload 4, 2) := by decide +kernel
theorem dL_boxes_52 : decode cL_boxes 52 = .ok (.iconst 3, 1) := by decide +kernel
theorem dL_boxes_53 : decode cL_boxes 53 = .ok (.invokevirtual 9, 3) := by decide +kernel
theorem dL_boxes_56 : decode cL_boxes 56 = .ok (.iload 6, 2) := by decide +kernel
theorem dL_boxes_58 : decode cL_boxes 58 = .ok (.ifCond .eq 7, 3) := by decide +kernel
theorem dL_boxes_61 : decode cL_boxes 61 = .ok (.iconst 1, 1) := by decide +kernel
theorem dL_boxes_62 : decode cL_boxes 62 = .ok (.goto 4, 3) := by decide +kernel
theorem dL_boxes_65 : decode cL_boxes 65 = .ok (.iconst 0, 1) := by decide +kernel
theorem dL_boxes_66 : decode cL_boxes 66 = .ok (.if_icmp .ne 33, 3) := by decide +kernel
theorem dL_boxes_69 : decode cL_boxes 69 = .ok (.iload 4, 2) := by decide +kernel
theorem dL_boxes_71 : decode cL_boxes 71 = .ok (.ifCond .le 15, 3) := by decide +kernel
theorem dL_boxes_74 : decode cL_boxes 74 = .ok (.iload 5, 2) := by decide +kernel
theorem dL_boxes_76 : decode cL_boxes 76 = .ok (.ifCond .lt 23, 3) := by decide +kernel
theorem dL_boxes_79 : decode cL_boxes 79 = .ok (.iload 5, 2) := by decide +kernel
theorem dL_boxes_81 : decode cL_boxes 81 = .ok (.iload 4, 2) := by decide +kernel
theorem dL_boxes_83 : decode cL_boxes 83 = .ok (.if_icmp .ge 16, 3) := by decide +kernel
theorem dL_boxes_86 : decode cL_boxes 86 = .ok (.aload_n 0, 1) := by decide +kernel
theorem dL_boxes_87 : decode cL_boxes 87 = .ok (.iload 4, 2) := by decide +kernel
theorem dL_boxes_89 : decode cL_boxes 89 = .ok (.bipush 8, 2) := by decide +kernel
theorem dL_boxes_91 : decode cL_boxes 91 = .ok (.invokevirtual 9, 3) := by decide +kernel
theorem dL_boxes_94 : decode cL_boxes 94 = .ok (.bipush (-2), 2) := by decide +kernel
theorem dL_boxes_96 : decode cL_boxes 96 = .ok (.if_icmp .eq 5, 3) := by decide +kernel
theorem dL_boxes_99 : decode cL_boxes 99 = .ok (.iconst 0, 1) := by decide +kernel
theorem dL_boxes_100 : decode cL_boxes 100 = .ok (.ireturn, 1) := by decide +kernel
theorem dL_boxes_101 : decode cL_boxes 101 = .ok (.iload_n 1, 1) := by decide +kernel
theorem dL_boxes_102 : decode cL_boxes 102 = .ok (.iload 4, 2) := by decide +kernel
theorem dL_boxes_104 : decode cL_boxes 104 = .ok (.ifCond .le 13, 3) := by decide +kernel
theorem dL_boxes_107 : decode cL_boxes 107 = .ok (.aload_n 0, 1) := by decide +kernel
theorem dL_boxes_108 : decode cL_boxes 108 = .ok (.iload 4, 2) := by decide +kernel
theorem dL_boxes_110 : decode cL_boxes 110 = .ok (.iconst 2, 1) := by decide +kernel
theorem dL_boxes_111 : decode cL_boxes 111 = .ok (.invokevirtual 9, 3) := by decide +kernel
theorem dL_boxes_114 : decode cL_boxes 114 = .ok (.goto 4, 3) := by decide +kernel
theorem dL_boxes_117 : decode cL_boxes 117 = .ok (.iconst 0, 1) := by decide +kernel
theorem dL_boxes_118 : decode cL_boxes 118 = .ok (.iadd, 1) := by decide +kernel
theorem dL_boxes_119 : decode cL_boxes 119 = .ok (.istore_n 1, 1) := by decide +kernel
theorem dL_boxes_120 : decode cL_boxes 120 = .ok (.iload_n 2, 1) := by decide +kernel
theorem dL_boxes_121 : decode cL_boxes 121 = .ok (.aload_n 0, 1) := by decide +kernel
theorem dL_boxes_122 : decode cL_boxes 122 = .ok (.iload 4, 2) := by decide +kernel
theorem dL_boxes_124 : decode cL_boxes 124 = .ok (.iconst 4, 1) := by decide +kernel
theorem dL_boxes_125 : decode cL_boxes 125 = .ok (.invokevirtual 9, 3) := by decide +kernel
theorem dL_boxes_128 : decode cL_boxes 128 = .ok (.iadd, 1) := by decide +kernel
theorem dL_boxes_129 : decode cL_boxes 129 = .ok (.istore_n 2, 1) := by decide +kernel
theorem dL_boxes_130 : decode cL_boxes 130 = .ok (.iload_n 3, 1) := by decide +kernel
theorem dL_boxes_131 : decode cL_boxes 131 = .ok (.aload_n 0, 1) := by decide +kernel
theorem dL_boxes_132 : decode cL_boxes 132 = .ok (.iload 4, 2) := by decide +kernel
theorem dL_boxes_134 : decode cL_boxes 134 = .ok (.iconst 5, 1) := by decide +kernel
theorem dL_boxes_135 : decode cL_boxes 135 = .ok (.invokevirtual 9, 3) := by decide +kernel
theorem dL_boxes_138 : decode cL_boxes 138 = .ok (.iadd, 1) := by decide +kernel
theorem dL_boxes_139 : decode cL_boxes 139 = .ok (.istore_n 3, 1) := by decide +kernel
theorem dL_boxes_140 : decode cL_boxes 140 = .ok (.iinc 4 1, 3) := by decide +kernel
theorem dL_boxes_143 : decode cL_boxes 143 = .ok (.goto (-134), 3) := by decide +kernel
theorem dL_boxes_146 : decode cL_boxes 146 = .ok (.iconst 0, 1) := by decide +kernel
theorem dL_boxes_147 : decode cL_boxes 147 = .ok (.istore 4, 2) := by decide +kernel
theorem dL_boxes_149 : decode cL_boxes 149 = .ok (.iconst 0, 1) := by decide +kernel
theorem dL_boxes_150 : decode cL_boxes 150 = .ok (.istore 5, 2) := by decide +kernel
theorem dL_boxes_152 : decode cL_boxes 152 = .ok (.iconst 0, 1) := by decide +kernel
theorem dL_boxes_153 : decode cL_boxes 153 = .ok (.istore 6, 2) := by decide +kernel
theorem dL_boxes_155 : decode cL_boxes 155 = .ok (.iconst 0, 1) := by decide +kernel
theorem dL_boxes_156 : decode cL_boxes 156 = .ok (.istore 7, 2) := by decide +kernel
theorem dL_boxes_158 : decode cL_boxes 158 = .ok (.iload 7, 2) := by decide +kernel
theorem dL_boxes_160 : decode cL_boxes 160 = .ok (.aload_n 0, 1) := by decide +kernel
theorem dL_boxes_161 : decode cL_boxes 161 = .ok (.iconst 1, 1) := by decide +kernel
theorem dL_boxes_162 : decode cL_boxes 162 = .ok (.invokevirtual 15, 3) := by decide +kernel
theorem dL_boxes_165 : decode cL_boxes 165 = .ok (.if_icmp .ge 128, 3) := by decide +kernel
theorem dL_boxes_168 : decode cL_boxes 168 = .ok (.aload_n 0, 1) := by decide +kernel
theorem dL_boxes_169 : decode cL_boxes 169 = .ok (.iload 7, 2) := by decide +kernel
theorem dL_boxes_171 : decode cL_boxes 171 = .ok (.iconst 1, 1) := by decide +kernel
theorem dL_boxes_172 : decode cL_boxes 172 = .ok (.invokevirtual 25, 3) := by decide +kernel
theorem dL_boxes_175 : decode cL_boxes 175 = .ok (.istore 8, 2) := by decide +kernel
theorem dL_boxes_177 : decode cL_boxes 177 = .ok (.iload 8, 2) := by decide +kernel
theorem dL_boxes_179 : decode cL_boxes 179 = .ok (.ifCond .lt 12, 3) := by decide +kernel
theorem dL_boxes_182 : decode cL_boxes 182 = .ok (.aload_n 0, 1) := by decide +kernel
theorem dL_boxes_183 : decode cL_boxes 183 = .ok (.iload 8, 2) := by decide +kernel
theorem dL_boxes_185 : decode cL_boxes 185 = .ok (.invokestatic 19, 3) := by decide +kernel
theorem dL_boxes_188 : decode cL_boxes 188 = .ok (.ifCond .eq 7, 3) := by decide +kernel
theorem dL_boxes_191 : decode cL_boxes 191 = .ok (.iconst 1, 1) := by decide +kernel
theorem dL_boxes_192 : decode cL_boxes 192 = .ok (.goto 4, 3) := by decide +kernel
theorem dL_boxes_195 : decode cL_boxes 195 = .ok (.iconst 0, 1) := by decide +kernel
theorem dL_boxes_196 : decode cL_boxes 196 = .ok (.istore 9, 2) := by decide +kernel
theorem dL_boxes_198 : decode cL_boxes 198 = .ok (.iload 4, 2) := by decide +kernel
theorem dL_boxes_200 : decode cL_boxes 200 = .ok (.iload 8, 2) := by decide +kernel
theorem dL_boxes_202 : decode cL_boxes 202 = .ok (.aload_n 0, 1) := by decide +kernel
theorem dL_boxes_203 : decode cL_boxes 203 = .ok (.iload 7, 2) := by decide +kernel
theorem dL_boxes_205 : decode cL_boxes 205 = .ok (.iconst 0, 1) := by decide +kernel
theorem dL_boxes_206 : decode cL_boxes 206 = .ok (.invokevirtual 25, 3) := by decide +kernel
theorem dL_boxes_209 : decode cL_boxes 209 = .ok (.if_icmp .ne 7, 3) := by decide +kernel
theorem dL_boxes_212 : decode cL_boxes 212 = .ok (.iconst 0, 1) := by decide +kernel
theorem dL_boxes_213 : decode cL_boxes 213 = .ok (.goto 4, 3) := by decide +kernel
theorem dL_boxes_216 : decode cL_boxes 216 = .ok (.iconst 1, 1) := by decide +kernel
theorem dL_boxes_217 : decode cL_boxes 217 = .ok (.iadd, 1) := by decide +kernel
theorem dL_boxes_218 : decode cL_boxes 218 = .ok (.istore 4, 2) := by decide +kernel
theorem dL_boxes_220 : decode cL_boxes 220 = .ok (.iload 5, 2) := by decide +kernel
theorem dL_boxes_222 : decode cL_boxes 222 = .ok (.iload 8, 2) := by decide +kernel
theorem dL_boxes_224 : decode cL_boxes 224 = .ok (.ifCond .ge 7, 3) := by decide +kernel
theorem dL_boxes_227 : decode cL_boxes 227 = .ok (.iconst 1, 1) := by decide +kernel
theorem dL_boxes_228 : decode cL_boxes 228 = .ok (.goto 4, 3) := by decide +kernel
theorem dL_boxes_231 : decode cL_boxes 231 = .ok (.iconst 0, 1) := by decide +kernel
theorem dL_boxes_232 : decode cL_boxes 232 = .ok (.iadd, 1) := by decide +kernel
theorem dL_boxes_233 : decode cL_boxes 233 = .ok (.istore 5, 2) := by decide +kernel
theorem dL_boxes_235 : decode cL_boxes 235 = .ok (.iload 6, 2) := by decide +kernel
theorem dL_boxes_237 : decode cL_boxes 237 = .ok (.iload 8, 2) := by decide +kernel
theorem dL_boxes_239 : decode cL_boxes 239 = .ok (.ifCond .ge 10, 3) := by decide +kernel
theorem dL_boxes_242 : decode cL_boxes 242 = .ok (.iconst 1, 1) := by decide +kernel
theorem dL_boxes_243 : decode cL_boxes 243 = .ok (.iload 7, 2) := by decide +kernel
theorem dL_boxes_245 : decode cL_boxes 245 = .ok (.ishl, 1) := by decide +kernel
theorem dL_boxes_246 : decode cL_boxes 246 = .ok (.goto 4, 3) := by decide +kernel
theorem dL_boxes_249 : decode cL_boxes 249 = .ok (.iconst 0, 1) := by decide +kernel
theorem dL_boxes_250 : decode cL_boxes 250 = .ok (.ior, 1) := by decide +kernel
theorem dL_boxes_251 : decode cL_boxes 251 = .ok (.istore 6, 2) := by decide +kernel
theorem dL_boxes_253 : decode cL_boxes 253 = .ok (.aload_n 0, 1) := by decide +kernel
theorem dL_boxes_254 : decode cL_boxes 254 = .ok (.iload 7, 2) := by decide +kernel
theorem dL_boxes_256 : decode cL_boxes 256 = .ok (.iconst 2, 1) := by decide +kernel
theorem dL_boxes_257 : decode cL_boxes 257 = .ok (.invokevirtual 25, 3) := by decide +kernel
theorem dL_boxes_260 : decode cL_boxes 260 = .ok (.iload 9, 2) := by decide +kernel
theorem dL_boxes_262 : decode cL_boxes 262 = .ok (.ifCond .eq 7, 3) := by decide +kernel
theorem dL_boxes_265 : decode cL_boxes 265 = .ok (.iconst 1, 1) := by decide +kernel
theorem dL_boxes_266 : decode cL_boxes 266 = .ok (.goto 4, 3) := by decide +kernel
theorem dL_boxes_269 : decode cL_boxes 269 = .ok (.iconst 0, 1) := by decide +kernel
theorem dL_boxes_270 : decode cL_boxes 270 = .ok (.if_icmp .ne 15, 3) := by decide +kernel
theorem dL_boxes_273 : decode cL_boxes 273 = .ok (.iload 8, 2) := by decide +kernel
theorem dL_boxes_275 : decode cL_boxes 275 = .ok (.ifCond .ge 12, 3) := by decide +kernel
theorem dL_boxes_278 : decode cL_boxes 278 = .ok (.iload 8, 2) := by decide +kernel
theorem dL_boxes_280 : decode cL_boxes 280 = .ok (.bipush (-5), 2) := by decide +kernel
theorem dL_boxes_282 : decode cL_boxes 282 = .ok (.if_icmp .eq 5, 3) := by decide +kernel
theorem dL_boxes_285 : decode cL_boxes 285 = .ok (.iconst 0, 1) := by decide +kernel
theorem dL_boxes_286 : decode cL_boxes 286 = .ok (.ireturn, 1) := by decide +kernel
theorem dL_boxes_287 : decode cL_boxes 287 = .ok (.iinc 7 1, 3) := by decide +kernel
theorem dL_boxes_290 : decode cL_boxes 290 = .ok (.goto (-132), 3) := by decide +kernel
theorem dL_boxes_293 : decode cL_boxes 293 = .ok (.aload_n 0, 1) := by decide +kernel
theorem dL_boxes_294 : decode cL_boxes 294 = .ok (.bipush 14, 2) := by decide +kernel
theorem dL_boxes_296 : decode cL_boxes 296 = .ok (.invokevirtual 15, 3) := by decide +kernel
theorem dL_boxes_299 : decode cL_boxes 299 = .ok (.iconst 1, 1) := by decide +kernel
theorem dL_boxes_300 : decode cL_boxes 300 = .ok (.if_icmp .ne 7, 3) := by decide +kernel
theorem dL_boxes_303 : decode cL_boxes 303 = .ok (.iconst 1, 1) := by decide +kernel
theorem dL_boxes_304 : decode cL_boxes 304 = .ok (.goto 4, 3) := by decide +kernel
theorem dL_boxes_307 : decode cL_boxes 307 = .ok (.iconst 0, 1) := by decide +kernel
theorem dL_boxes_308 : decode cL_boxes 308 = .ok (.istore 7, 2) := by decide +kernel
theorem dL_boxes_310 : decode cL_boxes 310 = .ok (.iload 7, 2) := by decide +kernel
theorem dL_boxes_312 : decode cL_boxes 312 = .ok (.ifCond .eq 93, 3) := by decide +kernel
theorem dL_boxes_315 : decode cL_boxes 315 = .ok (.aload_n 0, 1) := by decide +kernel
theorem dL_boxes_316 : decode cL_boxes 316 = .ok (.iconst 4, 1) := by decide +kernel
theorem dL_boxes_317 : decode cL_boxes 317 = .ok (.invokevirtual 28, 3) := by decide +kernel
theorem dL_boxes_320 : decode cL_boxes 320 = .ok (.iload 6, 2) := by decide +kernel
theorem dL_boxes_322 : decode cL_boxes 322 = .ok (.if_icmp .ne 79, 3) := by decide +kernel
theorem dL_boxes_325 : decode cL_boxes 325 = .ok (.iload 5, 2) := by decide +kernel
theorem dL_boxes_327 : decode cL_boxes 327 = .ok (.aload_n 0, 1) := by decide +kernel
theorem dL_boxes_328 : decode cL_boxes 328 = .ok (.iconst 0, 1) := by decide +kernel
theorem dL_boxes_329 : decode cL_boxes 329 = .ok (.invokevirtual 28, 3) := by decide +kernel
theorem dL_boxes_332 : decode cL_boxes 332 = .ok (.if_icmp .gt 69, 3) := by decide +kernel
theorem dL_boxes_335 : decode cL_boxes 335 = .ok (.aload_n 0, 1) := by decide +kernel
theorem dL_boxes_336 : decode cL_boxes 336 = .ok (.iconst 2, 1) := by decide +kernel
theorem dL_boxes_337 : decode cL_boxes 337 = .ok (.invokevirtual 28, 3) := by decide +kernel
theorem dL_boxes_340 : decode cL_boxes 340 = .ok (.ifCond .lt 61, 3) := by decide +kernel
theorem dL_boxes_343 : decode cL_boxes 343 = .ok (.aload_n 0, 1) := by decide +kernel
theorem dL_boxes_344 : decode cL_boxes 344 = .ok (.iconst 2, 1) := by decide +kernel
theorem dL_boxes_345 : decode cL_boxes 345 = .ok (.invokevirtual 28, 3) := by decide +kernel
theorem dL_boxes_348 : decode cL_boxes 348 = .ok (.aload_n 0, 1) := by decide +kernel
theorem dL_boxes_349 : decode cL_boxes 349 = .ok (.bipush 12, 2) := by decide +kernel
theorem dL_boxes_351 : decode cL_boxes 351 = .ok (.invokevirtual 15, 3) := by decide +kernel
theorem dL_boxes_354 : decode cL_boxes 354 = .ok (.if_icmp .gt 47, 3) := by decide +kernel
theorem dL_boxes_357 : decode cL_boxes 357 = .ok (.aload_n 0, 1) := by decide +kernel
theorem dL_boxes_358 : decode cL_boxes 358 = .ok (.iconst 1, 1) := by decide +kernel
theorem dL_boxes_359 : decode cL_boxes 359 = .ok (.invokevirtual 28, 3) := by decide +kernel
theorem dL_boxes_362 : decode cL_boxes 362 = .ok (.aload_n 0, 1) := by decide +kernel
theorem dL_boxes_363 : decode cL_boxes 363 = .ok (.bipush 12, 2) := by decide +kernel
theorem dL_boxes_365 : decode cL_boxes 365 = .ok (.invokevirtual 15, 3) := by decide +kernel
theorem dL_boxes_368 : decode cL_boxes 368 = .ok (.iadd, 1) := by decide +kernel
theorem dL_boxes_369 : decode cL_boxes 369 = .ok (.aload_n 0, 1) := by decide +kernel
theorem dL_boxes_370 : decode cL_boxes 370 = .ok (.iconst 5, 1) := by decide +kernel
theorem dL_boxes_371 : decode cL_boxes 371 = .ok (.invokevirtual 15, 3) := by decide +kernel
theorem dL_boxes_374 : decode cL_boxes 374 = .ok (.isub, 1) := by decide +kernel
theorem dL_boxes_375 : decode cL_boxes 375 = .ok (.aload_n 0, 1) := by decide +kernel
theorem dL_boxes_376 : decode cL_boxes 376 = .ok (.iconst 2, 1) := by decide +kernel
theorem dL_boxes_377 : decode cL_boxes 377 = .ok (.invokevirtual 28, 3) := by decide +kernel
theorem dL_boxes_380 : decode cL_boxes 380 = .ok (.if_icmp .ne 21, 3) := by decide +kernel
theorem dL_boxes_383 : decode cL_boxes 383 = .ok (.aload_n 0, 1) := by decide +kernel
theorem dL_boxes_384 : decode cL_boxes 384 = .ok (.iconst 3, 1) := by decide +kernel
theorem dL_boxes_385 : decode cL_boxes 385 = .ok (.invokevirtual 28, 3) := by decide +kernel
theorem dL_boxes_388 : decode cL_boxes 388 = .ok (.aload_n 0, 1) := by decide +kernel
theorem dL_boxes_389 : decode cL_boxes 389 = .ok (.bipush 13, 2) := by decide +kernel
theorem dL_boxes_391 : decode cL_boxes 391 = .ok (.invokevirtual 15, 3) := by decide +kernel
theorem dL_boxes_394 : decode cL_boxes 394 = .ok (.if_icmp .gt 7, 3) := by decide +kernel
theorem dL_boxes_397 : decode cL_boxes 397 = .ok (.iconst 1, 1) := by decide +kernel
theorem dL_boxes_398 : decode cL_boxes 398 = .ok (.goto 27, 3) := by decide +kernel
theorem dL_boxes_401 : decode cL_boxes 401 = .ok (.iconst 0, 1) := by decide +kernel
theorem dL_boxes_402 : decode cL_boxes 402 = .ok (.goto 23, 3) := by decide +kernel
theorem dL_boxes_405 : decode cL_boxes 405 = .ok (.iload 5, 2) := by decide +kernel
theorem dL_boxes_407 : decode cL_boxes 407 = .ok (.ifCond .ne 17, 3) := by decide +kernel
theorem dL_boxes_410 : decode cL_boxes 410 = .ok (.aload_n 0, 1) := by decide +kernel
theorem dL_boxes_411 : decode cL_boxes 411 = .ok (.iconst 0, 1) := by decide +kernel
theorem dL_boxes_412 : decode cL_boxes 412 = .ok (.invokevirtual 28, 3) := by decide +kernel
theorem dL_boxes_415 : decode cL_boxes 415 = .ok (.bipush (-4), 2) := by decide +kernel
theorem dL_boxes_417 : decode cL_boxes 417 = .ok (.if_icmp .ne 7, 3) := by decide +kernel
theorem dL_boxes_420 : decode cL_boxes 420 = .ok (.iconst 1, 1) := by decide +kernel
theorem dL_boxes_421 : decode cL_boxes 421 = .ok (.goto 4, 3) := by decide +kernel
theorem dL_boxes_424 : decode cL_boxes 424 = .ok (.iconst 0, 1) := by decide +kernel
theorem dL_boxes_425 : decode cL_boxes 425 = .ok (.istore 8, 2) := by decide +kernel
theorem dL_boxes_427 : decode cL_boxes 427 = .ok (.iload 8, 2) := by decide +kernel
theorem dL_boxes_429 : decode cL_boxes 429 = .ok (.ifCond .eq 49, 3) := by decide +kernel
theorem dL_boxes_432 : decode cL_boxes 432 = .ok (.aload_n 0, 1) := by decide +kernel
theorem dL_boxes_433 : decode cL_boxes 433 = .ok (.iconst 0, 1) := by decide +kernel
theorem dL_boxes_434 : decode cL_boxes 434 = .ok (.invokevirtual 31, 3) := by decide +kernel
theorem dL_boxes_437 : decode cL_boxes 437 = .ok (.iload 4, 2) := by decide +kernel
theorem dL_boxes_439 : decode cL_boxes 439 = .ok (.if_icmp .ne 39, 3) := by decide +kernel
theorem dL_boxes_442 : decode cL_boxes 442 = .ok (.aload_n 0, 1) := by decide +kernel
theorem dL_boxes_443 : decode cL_boxes 443 = .ok (.iconst 1, 1) := by decide +kernel
theorem dL_boxes_444 : decode cL_boxes 444 = .ok (.invokevirtual 31, 3) := by decide +kernel
theorem dL_boxes_447 : decode cL_boxes 447 = .ok (.iload_n 1, 1) := by decide +kernel
theorem dL_boxes_448 : decode cL_boxes 448 = .ok (.if_icmp .ne 30, 3) := by decide +kernel
theorem dL_boxes_451 : decode cL_boxes 451 = .ok (.iload_n 2, 1) := by decide +kernel
theorem dL_boxes_452 : decode cL_boxes 452 = .ok (.iload 5, 2) := by decide +kernel
theorem dL_boxes_454 : decode cL_boxes 454 = .ok (.iadd, 1) := by decide +kernel
theorem dL_boxes_455 : decode cL_boxes 455 = .ok (.aload_n 0, 1) := by decide +kernel
theorem dL_boxes_456 : decode cL_boxes 456 = .ok (.iconst 1, 1) := by decide +kernel
theorem dL_boxes_457 : decode cL_boxes 457 = .ok (.invokevirtual 15, 3) := by decide +kernel
theorem dL_boxes_460 : decode cL_boxes 460 = .ok (.if_icmp .ne 18, 3) := by decide +kernel
theorem dL_boxes_463 : decode cL_boxes 463 = .ok (.iload_n 3, 1) := by decide +kernel
theorem dL_boxes_464 : decode cL_boxes 464 = .ok (.aload_n 0, 1) := by decide +kernel
theorem dL_boxes_465 : decode cL_boxes 465 = .ok (.iconst 0, 1) := by decide +kernel
theorem dL_boxes_466 : decode cL_boxes 466 = .ok (.invokevirtual 15, 3) := by decide +kernel
theorem dL_boxes_469 : decode cL_boxes 469 = .ok (.iconst 1, 1) := by decide +kernel
theorem dL_boxes_470 : decode cL_boxes 470 = .ok (.isub, 1) := by decide +kernel
theorem dL_boxes_471 : decode cL_boxes 471 = .ok (.if_icmp .ne 7, 3) := by decide +kernel
theorem dL_boxes_474 : decode cL_boxes 474 = .ok (.iconst 1, 1) := by decide +kernel
theorem dL_boxes_475 : decode cL_boxes 475 = .ok (.goto 4, 3) := by decide +kernel
theorem dL_boxes_478 : decode cL_boxes 478 = .ok (.iconst 0, 1) := by decide +kernel
theorem dL_boxes_479 : decode cL_boxes 479 = .ok (.ireturn, 1) := by decide +kernel
theorem dL_clues_0 : decode cL_clues 0 = .ok (.iconst 0, 1) := by decide +kernel
theorem dL_clues_1 : decode cL_clues 1 = .ok (.istore_n 1, 1) := by decide +kernel
theorem dL_clues_2 : decode cL_clues 2 = .ok (.aload_n 0, 1) := by decide +kernel
theorem dL_clues_3 : decode cL_clues 3 = .ok (.bipush 6, 2) := by decide +kernel
theorem dL_clues_5 : decode cL_clues 5 = .ok (.invokevirtual 15, 3) := by decide +kernel
theorem dL_clues_8 : decode cL_clues 8 = .ok (.istore_n 2, 1) := by decide +kernel
theorem dL_clues_9 : decode cL_clues 9 = .ok (.iconst 0, 1) := by decide +kernel
theorem dL_clues_10 : decode cL_clues 10 = .ok (.istore_n 3, 1) := by decide +kernel
theorem dL_clues_11 : decode cL_clues 11 = .ok (.iconst 0, 1) := by decide +kernel
theorem dL_clues_12 : decode cL_clues 12 = .ok (.istore 4, 2) := by decide +kernel
theorem dL_clues_14 : decode cL_clues 14 = .ok (.iconst 0, 1) := by decide +kernel
theorem dL_clues_15 : decode cL_clues 15 = .ok (.istore 5, 2) := by decide +kernel
theorem dL_clues_17 : decode cL_clues 17 = .ok (.iload 5, 2) := by decide +kernel
theorem dL_clues_19 : decode cL_clues 19 = .ok (.aload_n 0, 1) := by decide +kernel
theorem dL_clues_20 : decode cL_clues 20 = .ok (.iconst 2, 1) := by decide +kernel
theorem dL_clues_21 : decode cL_clues 21 = .ok (.invokevirtual 15, 3) := by decide +kernel
theorem dL_clues_24 : decode cL_clues 24 = .ok (.if_icmp .ge 176, 3) := by decide +kernel
theorem dL_clues_27 : decode cL_clues 27 = .ok (.aload_n 0, 1) := by decide +kernel
theorem dL_clues_28 : decode cL_clues 28 = .ok (.iload 5, 2) := by decide +kernel
theorem dL_clues_30 : decode cL_clues 30 = .ok (.iconst 3, 1) := by decide +kernel
theorem dL_clues_31 : decode cL_clues 31 = .ok (.invokevirtual 34, 3) := by decide +kernel
theorem dL_clues_34 : decode cL_clues 34 = .ok (.istore 6, 2) := by decide +kernel
theorem dL_clues_36 : decode cL_clues 36 = .ok (.aload_n 0, 1) := by decide +kernel
theorem dL_clues_37 : decode cL_clues 37 = .ok (.aload_n 0, 1) := by decide +kernel
theorem dL_clues_38 : decode cL_clues 38 = .ok (.iload 5, 2) := by decide +kernel
theorem dL_clues_40 : decode cL_clues 40 = .ok (.iconst 1, 1) := by decide +kernel
theorem dL_clues_41 : decode cL_clues 41 = .ok (.invokevirtual 34, 3) := by decide +kernel
theorem dL_clues_44 : decode cL_clues 44 = .ok (.bipush 6, 2) := by decide +kernel
theorem dL_clues_46 : decode cL_clues 46 = .ok (.invokevirtual 9, 3) := by decide +kernel
theorem dL_clues_49 : decode cL_clues 49 = .ok (.istore 7, 2) := by decide +kernel
theorem dL_clues_51 : decode cL_clues 51 = .ok (.iconst 1, 1) := by decide +kernel
theorem dL_clues_52 : decode cL_clues 52 = .ok (.istore 8, 2) := by decide +kernel
theorem dL_clues_54 : decode cL_clues 54 = .ok (.aload_n 0, 1) := by decide +kernel
theorem dL_clues_55 : decode cL_clues 55 = .ok (.iload 5, 2) := by decide +kernel
theorem dL_clues_57 : decode cL_clues 57 = .ok (.iconst 2, 1) := by decide +kernel
theorem dL_clues_58 : decode cL_clues 58 = .ok (.invokevirtual 34, 3) := by decide +kernel
theorem dL_clues_61 : decode cL_clues 61 = .ok (.istore 9, 2) := by decide +kernel
theorem dL_clues_63 : decode cL_clues 63 = .ok (.iload 9, 2) := by decide +kernel
theorem dL_clues_65 : decode cL_clues 65 = .ok (.iconst 3, 1) := by decide +kernel
theorem dL_clues_66 : decode cL_clues 66 = .ok (.if_icmp .ge 16, 3) := by decide +kernel
theorem dL_clues_69 : decode cL_clues 69 = .ok (.iload 8, 2) := by decide +kernel
theorem dL_clues_71 : decode cL_clues 71 = .ok (.bipush 10, 2) := by decide +kernel
theorem dL_clues_73 : decode cL_clues 73 = .ok (.imul, 1) := by decide +kernel
theorem dL_clues_74 : decode cL_clues 74 = .ok (.istore 8, 2) := by decide +kernel
theorem dL_clues_76 : decode cL_clues 76 = .ok (.iinc 9 1, 3) := by decide +kernel
theorem dL_clues_79 : decode cL_clues 79 = .ok (.goto (-16), 3) := by decide +kernel
theorem dL_clues_82 : decode cL_clues 82 = .ok (.aload_n 0, 1) := by decide +kernel
theorem dL_clues_83 : decode cL_clues 83 = .ok (.iload 5, 2) := by decide +kernel
theorem dL_clues_85 : decode cL_clues 85 = .ok (.iconst 4, 1) := by decide +kernel
theorem dL_clues_86 : decode cL_clues 86 = .ok (.invokevirtual 34, 3) := by decide +kernel
theorem dL_clues_89 : decode cL_clues 89 = .ok (.iload 7, 2) := by decide +kernel
theorem dL_clues_91 : decode cL_clues 91 = .ok (.iload 8, 2) := by decide +kernel
theorem dL_clues_93 : decode cL_clues 93 = .ok (.idiv, 1) := by decide +kernel
theorem dL_clues_94 : decode cL_clues 94 = .ok (.bipush 10, 2) := by decide +kernel
theorem dL_clues_96 : decode cL_clues 96 = .ok (.irem, 1) := by decide +kernel
theorem dL_clues_97 : decode cL_clues 97 = .ok (.if_icmp .ne 53, 3) := by decide +kernel
theorem dL_clues_100 : decode cL_clues 100 = .ok (.aload_n 0, 1) := by decide +kernel
theorem dL_clues_101 : decode cL_clues 101 = .ok (.iload 5, 2) := by decide +kernel
theorem dL_clues_103 : decode cL_clues 103 = .ok (.iconst 5, 1) := by decide +kernel
theorem dL_clues_104 : decode cL_clues 104 = .ok (.invokevirtual 34, 3) := by decide +kernel
theorem dL_clues_107 : decode cL_clues 107 = .ok (.aload_n 0, 1) := by decide +kernel
theorem dL_clues_108 : decode cL_clues 108 = .ok (.aload_n 0, 1) := by decide +kernel
theorem dL_clues_109 : decode cL_clues 109 = .ok (.iload 5, 2) := by decide +kernel
theorem dL_clues_111 : decode cL_clues 111 = .ok (.iconst 0, 1) := by decide +kernel
theorem dL_clues_112 : decode cL_clues 112 = .ok (.invokevirtual 34, 3) := by decide +kernel
theorem dL_clues_115 : decode cL_clues 115 = .ok (.iconst 2, 1) := by decide +kernel
theorem dL_clues_116 : decode cL_clues 116 = .ok (.invokevirtual 25, 3) := by decide +kernel
theorem dL_clues_119 : decode cL_clues 119 = .ok (.if_icmp .ne 31, 3) := by decide +kernel
theorem dL_clues_122 : decode cL_clues 122 = .ok (.iload 6, 2) := by decide +kernel
theorem dL_clues_124 : decode cL_clues 124 = .ok (.ifCond .lt 26, 3) := by decide +kernel
theorem dL_clues_127 : decode cL_clues 127 = .ok (.iload 6, 2) := by decide +kernel
theorem dL_clues_129 : decode cL_clues 129 = .ok (.bipush 9, 2) := by decide +kernel
theorem dL_clues_131 : decode cL_clues 131 = .ok (.if_icmp .gt 19, 3) := by decide +kernel
theorem dL_clues_134 : decode cL_clues 134 = .ok (.aload_n 0, 1) := by decide +kernel
theorem dL_clues_135 : decode cL_clues 135 = .ok (.aload_n 0, 1) := by decide +kernel
theorem dL_clues_136 : decode cL_clues 136 = .ok (.iload 5, 2) := by decide +kernel
theorem dL_clues_138 : decode cL_clues 138 = .ok (.iconst 1, 1) := by decide +kernel
theorem dL_clues_139 : decode cL_clues 139 = .ok (.invokevirtual 34, 3) := by decide +kernel
theorem dL_clues_142 : decode cL_clues 142 = .ok (.iconst 1, 1) := by decide +kernel
theorem dL_clues_143 : decode cL_clues 143 = .ok (.invokevirtual 9, 3) := by decide +kernel
theorem dL_clues_146 : decode cL_clues 146 = .ok (.iconst 2, 1) := by decide +kernel
theorem dL_clues_147 : decode cL_clues 147 = .ok (.if_icmp .eq 5, 3) := by decide +kernel
theorem dL_clues_150 : decode cL_clues 150 = .ok (.iconst 0, 1) := by decide +kernel
theorem dL_clues_151 : decode cL_clues 151 = .ok (.ireturn, 1) := by decide +kernel
theorem dL_clues_152 : decode cL_clues 152 = .ok (.iload_n 1, 1) := by decide +kernel
theorem dL_clues_153 : decode cL_clues 153 = .ok (.iload 6, 2) := by decide +kernel
theorem dL_clues_155 : decode cL_clues 155 = .ok (.iconst 4, 1) := by decide +kernel
theorem dL_clues_156 : decode cL_clues 156 = .ok (.if_icmp .ge 7, 3) := by decide +kernel
theorem dL_clues_159 : decode cL_clues 159 = .ok (.iconst 1, 1) := by decide +kernel
theorem dL_clues_160 : decode cL_clues 160 = .ok (.goto 4, 3) := by decide +kernel
theorem dL_clues_163 : decode cL_clues 163 = .ok (.iconst 0, 1) := by decide +kernel
theorem dL_clues_164 : decode cL_clues 164 = .ok (.iadd, 1) := by decide +kernel
theorem dL_clues_165 : decode cL_clues 165 = .ok (.istore_n 1, 1) := by decide +kernel
theorem dL_clues_166 : decode cL_clues 166 = .ok (.iload 6, 2) := by decide +kernel
theorem dL_clues_168 : decode cL_clues 168 = .ok (.iconst 4, 1) := by decide +kernel
theorem dL_clues_169 : decode cL_clues 169 = .ok (.if_icmp .ge 25, 3) := by decide +kernel
theorem dL_clues_172 : decode cL_clues 172 = .ok (.bipush 9, 2) := by decide +kernel
theorem dL_clues_174 : decode cL_clues 174 = .ok (.iload 6, 2) := by decide +kernel
theorem dL_clues_176 : decode cL_clues 176 = .ok (.isub, 1) := by decide +kernel
theorem dL_clues_177 : decode cL_clues 177 = .ok (.iload_n 2, 1) := by decide +kernel
theorem dL_clues_178 : decode cL_clues 178 = .ok (.iload_n 3, 1) := by decide +kernel
theorem dL_clues_179 : decode cL_clues 179 = .ok (.isub, 1) := by decide +kernel
theorem dL_clues_180 : decode cL_clues 180 = .ok (.if_icmp .gt 14, 3) := by decide +kernel
theorem dL_clues_183 : decode cL_clues 183 = .ok (.iload_n 3, 1) := by decide +kernel
theorem dL_clues_184 : decode cL_clues 184 = .ok (.bipush 9, 2) := by decide +kernel
theorem dL_clues_186 : decode cL_clues 186 = .ok (.iload 6, 2) := by decide +kernel
theorem dL_clues_188 : decode cL_clues 188 = .ok (.isub, 1) := by decide +kernel
theorem dL_clues_189 : decode cL_clues 189 = .ok (.iadd, 1) := by decide +kernel
theorem dL_clues_190 : decode cL_clues 190 = .ok (.istore_n 3, 1) := by decide +kernel
theorem dL_clues_191 : decode cL_clues 191 = .ok (.iinc 4 1, 3) := by decide +kernel
theorem dL_clues_194 : decode cL_clues 194 = .ok (.iinc 5 1, 3) := by decide +kernel
theorem dL_clues_197 : decode cL_clues 197 = .ok (.goto (-180), 3) := by decide +kernel
theorem dL_clues_200 : decode cL_clues 200 = .ok (.aload_n 0, 1) := by decide +kernel
theorem dL_clues_201 : decode cL_clues 201 = .ok (.iconst 2, 1) := by decide +kernel
theorem dL_clues_202 : decode cL_clues 202 = .ok (.invokevirtual 31, 3) := by decide +kernel
theorem dL_clues_205 : decode cL_clues 205 = .ok (.iload_n 1, 1) := by decide +kernel
theorem dL_clues_206 : decode cL_clues 206 = .ok (.if_icmp .ne 48, 3) := by decide +kernel
theorem dL_clues_209 : decode cL_clues 209 = .ok (.aload_n 0, 1) := by decide +kernel
theorem dL_clues_210 : decode cL_clues 210 = .ok (.iconst 4, 1) := by decide +kernel
theorem dL_clues_211 : decode cL_clues 211 = .ok (.invokevirtual 31, 3) := by decide +kernel
theorem dL_clues_214 : decode cL_clues 214 = .ok (.iload_n 3, 1) := by decide +kernel
theorem dL_clues_215 : decode cL_clues 215 = .ok (.if_icmp .ne 39, 3) := by decide +kernel
theorem dL_clues_218 : decode cL_clues 218 = .ok (.aload_n 0, 1) := by decide +kernel
theorem dL_clues_219 : decode cL_clues 219 = .ok (.iconst 3, 1) := by decide +kernel
theorem dL_clues_220 : decode cL_clues 220 = .ok (.invokevirtual 31, 3) := by decide +kernel
theorem dL_clues_223 : decode cL_clues 223 = .ok (.aload_n 0, 1) := by decide +kernel
theorem dL_clues_224 : decode cL_clues 224 = .ok (.iconst 0, 1) := by decide +kernel
theorem dL_clues_225 : decode cL_clues 225 = .ok (.invokevirtual 31, 3) := by decide +kernel
theorem dL_clues_228 : decode cL_clues 228 = .ok (.aload_n 0, 1) := by decide +kernel
theorem dL_clues_229 : decode cL_clues 229 = .ok (.iconst 1, 1) := by decide +kernel
theorem dL_clues_230 : decode cL_clues 230 = .ok (.invokevirtual 31, 3) := by decide +kernel
theorem dL_clues_233 : decode cL_clues 233 = .ok (.iadd, 1) := by decide +kernel
theorem dL_clues_234 : decode cL_clues 234 = .ok (.iload 4, 2) := by decide +kernel
theorem dL_clues_236 : decode cL_clues 236 = .ok (.iadd, 1) := by decide +kernel
theorem dL_clues_237 : decode cL_clues 237 = .ok (.if_icmp .ne 17, 3) := by decide +kernel
theorem dL_clues_240 : decode cL_clues 240 = .ok (.aload_n 0, 1) := by decide +kernel
theorem dL_clues_241 : decode cL_clues 241 = .ok (.iconst 5, 1) := by decide +kernel
theorem dL_clues_242 : decode cL_clues 242 = .ok (.invokevirtual 31, 3) := by decide +kernel
theorem dL_clues_245 : decode cL_clues 245 = .ok (.bipush (-2), 2) := by decide +kernel
theorem dL_clues_247 : decode cL_clues 247 = .ok (.if_icmp .ne 7, 3) := by decide +kernel
theorem dL_clues_250 : decode cL_clues 250 = .ok (.iconst 1, 1) := by decide +kernel
theorem dL_clues_251 : decode cL_clues 251 = .ok (.goto 4, 3) := by decide +kernel
theorem dL_clues_254 : decode cL_clues 254 = .ok (.iconst 0, 1) := by decide +kernel
theorem dL_clues_255 : decode cL_clues 255 = .ok (.ireturn, 1) := by decide +kernel
theorem dL_groups_0 : decode cL_groups 0 = .ok (.iconst 0, 1) := by decide +kernel
theorem dL_groups_1 : decode cL_groups 1 = .ok (.istore_n 1, 1) := by decide +kernel
theorem dL_groups_2 : decode cL_groups 2 = .ok (.iconst 0, 1) := by decide +kernel
theorem dL_groups_3 : decode cL_groups 3 = .ok (.istore_n 2, 1) := by decide +kernel
theorem dL_groups_4 : decode cL_groups 4 = .ok (.aload_n 0, 1) := by decide +kernel
theorem dL_groups_5 : decode cL_groups 5 = .ok (.bipush 14, 2) := by decide +kernel
theorem dL_groups_7 : decode cL_groups 7 = .ok (.invokevirtual 15, 3) := by decide +kernel
theorem dL_groups_10 : decode cL_groups 10 = .ok (.iconst 1, 1) := by decide +kernel
theorem dL_groups_11 : decode cL_groups 11 = .ok (.if_icmp .ne 21, 3) := by decide +kernel
theorem dL_groups_14 : decode cL_groups 14 = .ok (.aload_n 0, 1) := by decide +kernel
theorem dL_groups_15 : decode cL_groups 15 = .ok (.iconst 1, 1) := by decide +kernel
theorem dL_groups_16 : decode cL_groups 16 = .ok (.invokevirtual 28, 3) := by decide +kernel
theorem dL_groups_19 : decode cL_groups 19 = .ok (.aload_n 0, 1) := by decide +kernel
theorem dL_groups_20 : decode cL_groups 20 = .ok (.bipush 12, 2) := by decide +kernel
theorem dL_groups_22 : decode cL_groups 22 = .ok (.invokevirtual 15, 3) := by decide +kernel
theorem dL_groups_25 : decode cL_groups 25 = .ok (.iadd, 1) := by decide +kernel
theorem dL_groups_26 : decode cL_groups 26 = .ok (.bipush 10, 2) := by decide +kernel
theorem dL_groups_28 : decode cL_groups 28 = .ok (.iadd, 1) := by decide +kernel
theorem dL_groups_29 : decode cL_groups 29 = .ok (.goto 8, 3) := by decide +kernel
theorem dL_groups_32 : decode cL_groups 32 = .ok (.aload_n 0, 1) := by decide +kernel
theorem dL_groups_33 : decode cL_groups 33 = .ok (.iconst 5, 1) := by decide +kernel
theorem dL_groups_34 : decode cL_groups 34 = .ok (.invokevirtual 15, 3) := by decide +kernel
theorem dL_groups_37 : decode cL_groups 37 = .ok (.istore_n 3, 1) := by decide +kernel
theorem dL_groups_38 : decode cL_groups 38 = .ok (.iconst 0, 1) := by decide +kernel
theorem dL_groups_39 : decode cL_groups 39 = .ok (.istore 4, 2) := by decide +kernel
theorem dL_groups_41 : decode cL_groups 41 = .ok (.iload 4, 2) := by decide +kernel
theorem dL_groups_43 : decode cL_groups 43 = .ok (.aload_n 0, 1) := by decide +kernel
theorem dL_groups_44 : decode cL_groups 44 = .ok (.iconst 3, 1) := by decide +kernel
theorem dL_groups_45 : decode cL_groups 45 = .ok (.invokevirtual 15, 3) := by decide +kernel
theorem dL_groups_48 : decode cL_groups 48 = .ok (.if_icmp .ge 90, 3) := by decide +kernel
theorem dL_groups_51 : decode cL_groups 51 = .ok (.aload_n 0, 1) := by decide +kernel
theorem dL_groups_52 : decode cL_groups 52 = .ok (.iload 4, 2) := by decide +kernel
theorem dL_groups_54 : decode cL_groups 54 = .ok (.iconst 1, 1) := by decide +kernel
theorem dL_groups_55 : decode cL_groups 55 = .ok (.invokevirtual 37, 3) := by decide +kernel
theorem dL_groups_58 : decode cL_groups 58 = .ok (.istore 5, 2) := by decide +kernel
theorem dL_groups_60 : decode cL_groups 60 = .ok (.iload_n 3, 1) := by decide +kernel
theorem dL_groups_61 : decode cL_groups 61 = .ok (.iload 5, 2) := by decide +kernel
theorem dL_groups_63 : decode cL_groups 63 = .ok (.invokestatic 40, 3) := by decide +kernel
theorem dL_groups_66 : decode cL_groups 66 = .ok (.istore 6, 2) := by decide +kernel
theorem dL_groups_68 : decode cL_groups 68 = .ok (.iload_n 1, 1) := by decide +kernel
theorem dL_groups_69 : decode cL_groups 69 = .ok (.iload 5, 2) := by decide +kernel
theorem dL_groups_71 : decode cL_groups 71 = .ok (.aload_n 0, 1) := by decide +kernel
theorem dL_groups_72 : decode cL_groups 72 = .ok (.iconst 5, 1) := by decide +kernel
theorem dL_groups_73 : decode cL_groups 73 = .ok (.invokevirtual 15, 3) := by decide +kernel
theorem dL_groups_76 : decode cL_groups 76 = .ok (.if_icmp .ge 7, 3) := by decide +kernel
theorem dL_groups_79 : decode cL_groups 79 = .ok (.iconst 1, 1) := by decide +kernel
theorem dL_groups_80 : decode cL_groups 80 = .ok (.goto 4, 3) := by decide +kernel
theorem dL_groups_83 : decode cL_groups 83 = .ok (.iconst 0, 1) := by decide +kernel
theorem dL_groups_84 : decode cL_groups 84 = .ok (.iadd, 1) := by decide +kernel
theorem dL_groups_85 : decode cL_groups 85 = .ok (.istore_n 1, 1) := by decide +kernel
theorem dL_groups_86 : decode cL_groups 86 = .ok (.aload_n 0, 1) := by decide +kernel
theorem dL_groups_87 : decode cL_groups 87 = .ok (.iload 4, 2) := by decide +kernel
theorem dL_groups_89 : decode cL_groups 89 = .ok (.iconst 2, 1) := by decide +kernel
theorem dL_groups_90 : decode cL_groups 90 = .ok (.invokevirtual 37, 3) := by decide +kernel
theorem dL_groups_93 : decode cL_groups 93 = .ok (.iload 6, 2) := by decide +kernel
theorem dL_groups_95 : decode cL_groups 95 = .ok (.if_icmp .ne 22, 3) := by decide +kernel
theorem dL_groups_98 : decode cL_groups 98 = .ok (.iload 4, 2) := by decide +kernel
theorem dL_groups_100 : decode cL_groups 100 = .ok (.ifCond .le 19, 3) := by decide +kernel
theorem dL_groups_103 : decode cL_groups 103 = .ok (.aload_n 0, 1) := by decide +kernel
theorem dL_groups_104 : decode cL_groups 104 = .ok (.iload 4, 2) := by decide +kernel
theorem dL_groups_106 : decode cL_groups 106 = .ok (.iconst 1, 1) := by decide +kernel
theorem dL_groups_107 : decode cL_groups 107 = .ok (.isub, 1) := by decide +kernel
theorem dL_groups_108 : decode cL_groups 108 = .ok (.iconst 1, 1) := by decide +kernel
theorem dL_groups_109 : decode cL_groups 109 = .ok (.invokevirtual 37, 3) := by decide +kernel
theorem dL_groups_112 : decode cL_groups 112 = .ok (.iload 5, 2) := by decide +kernel
theorem dL_groups_114 : decode cL_groups 114 = .ok (.if_icmp .le 5, 3) := by decide +kernel
theorem dL_groups_117 : decode cL_groups 117 = .ok (.iconst 0, 1) := by decide +kernel
theorem dL_groups_118 : decode cL_groups 118 = .ok (.ireturn, 1) := by decide +kernel
theorem dL_groups_119 : decode cL_groups 119 = .ok (.iload 6, 2) := by decide +kernel
theorem dL_groups_121 : decode cL_groups 121 = .ok (.aload_n 0, 1) := by decide +kernel
theorem dL_groups_122 : decode cL_groups 122 = .ok (.bipush 12, 2) := by decide +kernel
theorem dL_groups_124 : decode cL_groups 124 = .ok (.invokevirtual 15, 3) := by decide +kernel
theorem dL_groups_127 : decode cL_groups 127 = .ok (.iadd, 1) := by decide +kernel
theorem dL_groups_128 : decode cL_groups 128 = .ok (.bipush 10, 2) := by decide +kernel
theorem dL_groups_130 : decode cL_groups 130 = .ok (.iadd, 1) := by decide +kernel
theorem dL_groups_131 : decode cL_groups 131 = .ok (.istore_n 3, 1) := by decide +kernel
theorem dL_groups_132 : decode cL_groups 132 = .ok (.iinc 4 1, 3) := by decide +kernel
theorem dL_groups_135 : decode cL_groups 135 = .ok (.goto (-94), 3) := by decide +kernel
theorem dL_groups_138 : decode cL_groups 138 = .ok (.iconst 0, 1) := by decide +kernel
theorem dL_groups_139 : decode cL_groups 139 = .ok (.istore 4, 2) := by decide +kernel
theorem dL_groups_141 : decode cL_groups 141 = .ok (.iload 4, 2) := by decide +kernel
theorem dL_groups_143 : decode cL_groups 143 = .ok (.aload_n 0, 1) := by decide +kernel
theorem dL_groups_144 : decode cL_groups 144 = .ok (.bipush 7, 2) := by decide +kernel
theorem dL_groups_146 : decode cL_groups 146 = .ok (.invokevirtual 15, 3) := by decide +kernel
theorem dL_groups_149 : decode cL_groups 149 = .ok (.if_icmp .ge 62, 3) := by decide +kernel
theorem dL_groups_152 : decode cL_groups 152 = .ok (.iload_n 2, 1) := by decide +kernel
theorem dL_groups_153 : decode cL_groups 153 = .ok (.aload_n 0, 1) := by decide +kernel
theorem dL_groups_154 : decode cL_groups 154 = .ok (.iload 4, 2) := by decide +kernel
theorem dL_groups_156 : decode cL_groups 156 = .ok (.iconst 4, 1) := by decide +kernel
theorem dL_groups_157 : decode cL_groups 157 = .ok (.invokevirtual 43, 3) := by decide +kernel
theorem dL_groups_160 : decode cL_groups 160 = .ok (.iadd, 1) := by decide +kernel
theorem dL_groups_161 : decode cL_groups 161 = .ok (.istore_n 2, 1) := by decide +kernel
theorem dL_groups_162 : decode cL_groups 162 = .ok (.aload_n 0, 1) := by decide +kernel
theorem dL_groups_163 : decode cL_groups 163 = .ok (.iload 4, 2) := by decide +kernel
theorem dL_groups_165 : decode cL_groups 165 = .ok (.iconst 2, 1) := by decide +kernel
theorem dL_groups_166 : decode cL_groups 166 = .ok (.invokevirtual 43, 3) := by decide +kernel
theorem dL_groups_169 : decode cL_groups 169 = .ok (.aload_n 0, 1) := by decide +kernel
theorem dL_groups_170 : decode cL_groups 170 = .ok (.iload 4, 2) := by decide +kernel
theorem dL_groups_172 : decode cL_groups 172 = .ok (.iconst 1, 1) := by decide +kernel
theorem dL_groups_173 : decode cL_groups 173 = .ok (.invokevirtual 43, 3) := by decide +kernel
theorem dL_groups_176 : decode cL_groups 176 = .ok (.if_icmp .lt 27, 3) := by decide +kernel
theorem dL_groups_179 : decode cL_groups 179 = .ok (.aload_n 0, 1) := by decide +kernel
theorem dL_groups_180 : decode cL_groups 180 = .ok (.iload 4, 2) := by decide +kernel
theorem dL_groups_182 : decode cL_groups 182 = .ok (.iconst 3, 1) := by decide +kernel
theorem dL_groups_183 : decode cL_groups 183 = .ok (.invokevirtual 43, 3) := by decide +kernel
theorem dL_groups_186 : decode cL_groups 186 = .ok (.bipush 120, 2) := by decide +kernel
theorem dL_groups_188 : decode cL_groups 188 = .ok (.if_icmp .gt 15, 3) := by decide +kernel
theorem dL_groups_191 : decode cL_groups 191 = .ok (.aload_n 0, 1) := by decide +kernel
theorem dL_groups_192 : decode cL_groups 192 = .ok (.iload 4, 2) := by decide +kernel
theorem dL_groups_194 : decode cL_groups 194 = .ok (.iconst 5, 1) := by decide +kernel
theorem dL_groups_195 : decode cL_groups 195 = .ok (.invokevirtual 43, 3) := by decide +kernel
theorem dL_groups_198 : decode cL_groups 198 = .ok (.bipush 9, 2) := by decide +kernel
theorem dL_groups_200 : decode cL_groups 200 = .ok (.if_icmp .le 5, 3) := by decide +kernel
theorem dL_groups_203 : decode cL_groups 203 = .ok (.iconst 0, 1) := by decide +kernel
theorem dL_groups_204 : decode cL_groups 204 = .ok (.ireturn, 1) := by decide +kernel
theorem dL_groups_205 : decode cL_groups 205 = .ok (.iinc 4 1, 3) := by decide +kernel
theorem dL_groups_208 : decode cL_groups 208 = .ok (.goto (-67), 3) := by decide +kernel
theorem dL_groups_211 : decode cL_groups 211 = .ok (.aload_n 0, 1) := by decide +kernel
theorem dL_groups_212 : decode cL_groups 212 = .ok (.iconst 4, 1) := by decide +kernel
theorem dL_groups_213 : decode cL_groups 213 = .ok (.invokevirtual 15, 3) := by decide +kernel
theorem dL_groups_216 : decode cL_groups 216 = .ok (.iload_n 1, 1) := by decide +kernel
theorem dL_groups_217 : decode cL_groups 217 = .ok (.if_icmp .ne 46, 3) := by decide +kernel
theorem dL_groups_220 : decode cL_groups 220 = .ok (.aload_n 0, 1) := by decide +kernel
theorem dL_groups_221 : decode cL_groups 221 = .ok (.bipush 8, 2) := by decide +kernel
theorem dL_groups_223 : decode cL_groups 223 = .ok (.invokevirtual 15, 3) := by decide +kernel
theorem dL_groups_226 : decode cL_groups 226 = .ok (.iload_n 2, 1) := by decide +kernel
theorem dL_groups_227 : decode cL_groups 227 = .ok (.if_icmp .ne 36, 3) := by decide +kernel
theorem dL_groups_230 : decode cL_groups 230 = .ok (.aload_n 0, 1) := by decide +kernel
theorem dL_groups_231 : decode cL_groups 231 = .ok (.aload_n 0, 1) := by decide +kernel
theorem dL_groups_232 : decode cL_groups 232 = .ok (.iconst 3, 1) := by decide +kernel
theorem dL_groups_233 : decode cL_groups 233 = .ok (.invokevirtual 15, 3) := by decide +kernel
theorem dL_groups_236 : decode cL_groups 236 = .ok (.iconst 0, 1) := by decide +kernel
theorem dL_groups_237 : decode cL_groups 237 = .ok (.invokevirtual 37, 3) := by decide +kernel
theorem dL_groups_240 : decode cL_groups 240 = .ok (.iconst (-1), 1) := by decide +kernel
theorem dL_groups_241 : decode cL_groups 241 = .ok (.if_icmp .ne 22, 3) := by decide +kernel
theorem dL_groups_244 : decode cL_groups 244 = .ok (.aload_n 0, 1) := by decide +kernel
theorem dL_groups_245 : decode cL_groups 245 = .ok (.aload_n 0, 1) := by decide +kernel
theorem dL_groups_246 : decode cL_groups 246 = .ok (.bipush 7, 2) := by decide +kernel
theorem dL_groups_248 : decode cL_groups 248 = .ok (.invokevirtual 15, 3) := by decide +kernel
theorem dL_groups_251 : decode cL_groups 251 = .ok (.iconst 0, 1) := by decide +kernel
theorem dL_groups_252 : decode cL_groups 252 = .ok (.invokevirtual 43, 3) := by decide +kernel
theorem dL_groups_255 : decode cL_groups 255 = .ok (.iconst (-1), 1) := by decide +kernel
theorem dL_groups_256 : decode cL_groups 256 = .ok (.if_icmp .ne 7, 3) := by decide +kernel
theorem dL_groups_259 : decode cL_groups 259 = .ok (.iconst 1, 1) := by decide +kernel
theorem dL_groups_260 : decode cL_groups 260 = .ok (.goto 4, 3) := by decide +kernel
theorem dL_groups_263 : decode cL_groups 263 = .ok (.iconst 0, 1) := by decide +kernel
theorem dL_groups_264 : decode cL_groups 264 = .ok (.ireturn, 1) := by decide +kernel
theorem dL_types_0 : decode cL_types 0 = .ok (.aload_n 0, 1) := by decide +kernel
theorem dL_types_1 : decode cL_types 1 = .ok (.invokevirtual 46, 3) := by decide +kernel
theorem dL_types_4 : decode cL_types 4 = .ok (.pop, 1) := by decide +kernel
theorem dL_types_5 : decode cL_types 5 = .ok (.iload_n 1, 1) := by decide +kernel
theorem dL_types_6 : decode cL_types 6 = .ok (.bipush 9, 2) := by decide +kernel
theorem dL_types_8 : decode cL_types 8 = .ok (.if_icmp .le 16, 3) := by decide +kernel
theorem dL_types_11 : decode cL_types 11 = .ok (.aload_n 0, 1) := by decide +kernel
theorem dL_types_12 : decode cL_types 12 = .ok (.bipush 48, 2) := by decide +kernel
theorem dL_types_14 : decode cL_types 14 = .ok (.iload_n 1, 1) := by decide +kernel
theorem dL_types_15 : decode cL_types 15 = .ok (.bipush 10, 2) := by decide +kernel
theorem dL_types_17 : decode cL_types 17 = .ok (.idiv, 1) := by decide +kernel
theorem dL_types_18 : decode cL_types 18 = .ok (.iadd, 1) := by decide +kernel
theorem dL_types_19 : decode cL_types 19 = .ok (.i2c, 1) := by decide +kernel
theorem dL_types_20 : decode cL_types 20 = .ok (.invokevirtual 50, 3) := by decide +kernel
theorem dL_types_23 : decode cL_types 23 = .ok (.pop, 1) := by decide +kernel
theorem dL_types_24 : decode cL_types 24 = .ok (.aload_n 0, 1) := by decide +kernel
theorem dL_types_25 : decode cL_types 25 = .ok (.bipush 48, 2) := by decide +kernel
theorem dL_types_27 : decode cL_types 27 = .ok (.iload_n 1, 1) := by decide +kernel
theorem dL_types_28 : decode cL_types 28 = .ok (.bipush 10, 2) := by decide +kernel
theorem dL_types_30 : decode cL_types 30 = .ok (.irem, 1) := by decide +kernel
theorem dL_types_31 : decode cL_types 31 = .ok (.iadd, 1) := by decide +kernel
theorem dL_types_32 : decode cL_types 32 = .ok (.i2c, 1) := by decide +kernel
theorem dL_types_33 : decode cL_types 33 = .ok (.invokevirtual 50, 3) := by decide +kernel
theorem dL_types_36 : decode cL_types 36 = .ok (.pop, 1) := by decide +kernel
theorem dL_types_37 : decode cL_types 37 = .ok (.aload_n 0, 1) := by decide +kernel
theorem dL_types_38 : decode cL_types 38 = .ok (.bipush 32, 2) := by decide +kernel
theorem dL_types_40 : decode cL_types 40 = .ok (.invokevirtual 50, 3) := by decide +kernel
theorem dL_types_43 : decode cL_types 43 = .ok (.pop, 1) := by decide +kernel
theorem dL_types_44 : decode cL_types 44 = .ok (.aload_n 0, 1) := by decide +kernel
theorem dL_types_45 : decode cL_types 45 = .ok (.iload_n 2, 1) := by decide +kernel
theorem dL_types_46 : decode cL_types 46 = .ok (.ifCond .ne 8, 3) := by decide +kernel
theorem dL_types_49 : decode cL_types 49 = .ok (.bipush 108, 2) := by decide +kernel
theorem dL_types_51 : decode cL_types 51 = .ok (.goto 25, 3) := by decide +kernel
theorem dL_types_54 : decode cL_types 54 = .ok (.iload_n 2, 1) := by decide +kernel
theorem dL_types_55 : decode cL_types 55 = .ok (.iconst 1, 1) := by decide +kernel
theorem dL_types_56 : decode cL_types 56 = .ok (.if_icmp .ne 8, 3) := by decide +kernel
theorem dL_types_59 : decode cL_types 59 = .ok (.bipush 107, 2) := by decide +kernel
theorem dL_types_61 : decode cL_types 61 = .ok (.goto 15, 3) := by decide +kernel
theorem dL_types_64 : decode cL_types 64 = .ok (.iload_n 2, 1) := by decide +kernel
theorem dL_types_65 : decode cL_types 65 = .ok (.iconst 2, 1) := by decide +kernel
theorem dL_types_66 : decode cL_types 66 = .ok (.if_icmp .ne 8, 3) := by decide +kernel
theorem dL_types_69 : decode cL_types 69 = .ok (.bipush 99, 2) := by decide +kernel
theorem dL_types_71 : decode cL_types 71 = .ok (.goto 5, 3) := by decide +kernel
theorem dL_types_74 : decode cL_types 74 = .ok (.bipush 112, 2) := by decide +kernel
theorem dL_types_76 : decode cL_types 76 = .ok (.invokevirtual 50, 3) := by decide +kernel
theorem dL_types_79 : decode cL_types 79 = .ok (.pop, 1) := by decide +kernel
theorem dL_types_80 : decode cL_types 80 = .ok (.aload_n 0, 1) := by decide +kernel
theorem dL_types_81 : decode cL_types 81 = .ok (.iload_n 2, 1) := by decide +kernel
theorem dL_types_82 : decode cL_types 82 = .ok (.ifCond .ne 8, 3) := by decide +kernel
theorem dL_types_85 : decode cL_types 85 = .ok (.bipush 97, 2) := by decide +kernel
theorem dL_types_87 : decode cL_types 87 = .ok (.goto 25, 3) := by decide +kernel
theorem dL_types_90 : decode cL_types 90 = .ok (.iload_n 2, 1) := by decide +kernel
theorem dL_types_91 : decode cL_types 91 = .ok (.iconst 1, 1) := by decide +kernel
theorem dL_types_92 : decode cL_types 92 = .ok (.if_icmp .ne 8, 3) := by decide +kernel
theorem dL_types_95 : decode cL_types 95 = .ok (.bipush 101, 2) := by decide +kernel
theorem dL_types_97 : decode cL_types 97 = .ok (.goto 15, 3) := by decide +kernel
theorem dL_types_100 : decode cL_types 100 = .ok (.iload_n 2, 1) := by decide +kernel
theorem dL_types_101 : decode cL_types 101 = .ok (.iconst 2, 1) := by decide +kernel
theorem dL_types_102 : decode cL_types 102 = .ok (.if_icmp .ne 8, 3) := by decide +kernel
theorem dL_types_105 : decode cL_types 105 = .ok (.bipush 111, 2) := by decide +kernel
theorem dL_types_107 : decode cL_types 107 = .ok (.goto 5, 3) := by decide +kernel
theorem dL_types_110 : decode cL_types 110 = .ok (.bipush 108, 2) := by decide +kernel
theorem dL_types_112 : decode cL_types 112 = .ok (.invokevirtual 50, 3) := by decide +kernel
theorem dL_types_115 : decode cL_types 115 = .ok (.pop, 1) := by decide +kernel
theorem dL_types_116 : decode cL_types 116 = .ok (.aload_n 0, 1) := by decide +kernel
theorem dL_types_117 : decode cL_types 117 = .ok (.iload_n 2, 1) := by decide +kernel
theorem dL_types_118 : decode cL_types 118 = .ok (.ifCond .ne 8, 3) := by decide +kernel
theorem dL_types_121 : decode cL_types 121 = .ok (.bipush 116, 2) := by decide +kernel
theorem dL_types_123 : decode cL_types 123 = .ok (.goto 25, 3) := by decide +kernel
theorem dL_types_126 : decode cL_types 126 = .ok (.iload_n 2, 1) := by decide +kernel
theorem dL_types_127 : decode cL_types 127 = .ok (.iconst 1, 1) := by decide +kernel
theorem dL_types_128 : decode cL_types 128 = .ok (.if_icmp .ne 8, 3) := by decide +kernel
theorem dL_types_131 : decode cL_types 131 = .ok (.bipush 121, 2) := by decide +kernel
theorem dL_types_133 : decode cL_types 133 = .ok (.goto 15, 3) := by decide +kernel
theorem dL_types_136 : decode cL_types 136 = .ok (.iload_n 2, 1) := by decide +kernel
theorem dL_types_137 : decode cL_types 137 = .ok (.iconst 2, 1) := by decide +kernel
theorem dL_types_138 : decode cL_types 138 = .ok (.if_icmp .ne 8, 3) := by decide +kernel
theorem dL_types_141 : decode cL_types 141 = .ok (.bipush 100, 2) := by decide +kernel
theorem dL_types_143 : decode cL_types 143 = .ok (.goto 5, 3) := by decide +kernel
theorem dL_types_146 : decode cL_types 146 = .ok (.bipush 97, 2) := by decide +kernel
theorem dL_types_148 : decode cL_types 148 = .ok (.invokevirtual 50, 3) := by decide +kernel
theorem dL_types_151 : decode cL_types 151 = .ok (.pop, 1) := by decide +kernel
theorem dL_types_152 : decode cL_types 152 = .ok (.iload_n 2, 1) := by decide +kernel
theorem dL_types_153 : decode cL_types 153 = .ok (.iconst 1, 1) := by decide +kernel
theorem dL_types_154 : decode cL_types 154 = .ok (.if_icmp .eq 29, 3) := by decide +kernel
theorem dL_types_157 : decode cL_types 157 = .ok (.aload_n 0, 1) := by decide +kernel
theorem dL_types_158 : decode cL_types 158 = .ok (.iload_n 2, 1) := by decide +kernel
theorem dL_types_159 : decode cL_types 159 = .ok (.ifCond .ne 8, 3) := by decide +kernel
theorem dL_types_162 : decode cL_types 162 = .ok (.bipush 99, 2) := by decide +kernel
theorem dL_types_164 : decode cL_types 164 = .ok (.goto 15, 3) := by decide +kernel
theorem dL_types_167 : decode cL_types 167 = .ok (.iload_n 2, 1) := by decide +kernel
theorem dL_types_168 : decode cL_types 168 = .ok (.iconst 2, 1) := by decide +kernel
theorem dL_types_169 : decode cL_types 169 = .ok (.if_icmp .ne 8, 3) := by decide +kernel
theorem dL_types_172 : decode cL_types 172 = .ok (.bipush 101, 2) := by decide +kernel
theorem dL_types_174 : decode cL_types 174 = .ok (.goto 5, 3) := by decide +kernel
theorem dL_types_177 : decode cL_types 177 = .ok (.bipush 116, 2) := by decide +kernel
theorem dL_types_179 : decode cL_types 179 = .ok (.invokevirtual 50, 3) := by decide +kernel
theorem dL_types_182 : decode cL_types 182 = .ok (.pop, 1) := by decide +kernel
theorem dL_types_183 : decode cL_types 183 = .ok (.iload_n 2, 1) := by decide +kernel
theorem dL_types_184 : decode cL_types 184 = .ok (.ifCond .eq 8, 3) := by decide +kernel
theorem dL_types_187 : decode cL_types 187 = .ok (.iload_n 2, 1) := by decide +kernel
theorem dL_types_188 : decode cL_types 188 = .ok (.iconst 3, 1) := by decide +kernel
theorem dL_types_189 : decode cL_types 189 = .ok (.if_icmp .ne 19, 3) := by decide +kernel
theorem dL_types_192 : decode cL_types 192 = .ok (.aload_n 0, 1) := by decide +kernel
theorem dL_types_193 : decode cL_types 193 = .ok (.iload_n 2, 1) := by decide +kernel
theorem dL_types_194 : decode cL_types 194 = .ok (.ifCond .ne 8, 3) := by decide +kernel
theorem dL_types_197 : decode cL_types 197 = .ok (.bipush 104, 2) := by decide +kernel
theorem dL_types_199 : decode cL_types 199 = .ok (.goto 5, 3) := by decide +kernel
theorem dL_types_202 : decode cL_types 202 = .ok (.bipush 101, 2) := by decide +kernel
theorem dL_types_204 : decode cL_types 204 = .ok (.invokevirtual 50, 3) := by decide +kernel
theorem dL_types_207 : decode cL_types 207 = .ok (.pop, 1) := by decide +kernel
theorem dL_types_208 : decode cL_types 208 = .ok (.iload_n 2, 1) := by decide +kernel
theorem dL_types_209 : decode cL_types 209 = .ok (.ifCond .le 66, 3) := by decide +kernel
theorem dL_types_212 : decode cL_types 212 = .ok (.aload_n 0, 1) := by decide +kernel
theorem dL_types_213 : decode cL_types 213 = .ok (.bipush 32, 2) := by decide +kernel
theorem dL_types_215 : decode cL_types 215 = .ok (.invokevirtual 50, 3) := by decide +kernel
theorem dL_types_218 : decode cL_types 218 = .ok (.pop, 1) := by decide +kernel
theorem dL_types_219 : decode cL_types 219 = .ok (.iload_n 2, 1) := by decide +kernel
theorem dL_types_220 : decode cL_types 220 = .ok (.iconst 2, 1) := by decide +kernel
theorem dL_types_221 : decode cL_types 221 = .ok (.if_icmp .ne 9, 3) := by decide +kernel
theorem dL_types_224 : decode cL_types 224 = .ok (.sipush 1000, 3) := by decide +kernel
theorem dL_types_227 : decode cL_types 227 = .ok (.goto 15, 3) := by decide +kernel
theorem dL_types_230 : decode cL_types 230 = .ok (.iload_n 3, 1) := by decide +kernel
theorem dL_types_231 : decode cL_types 231 = .ok (.bipush 9, 2) := by decide +kernel
theorem dL_types_233 : decode cL_types 233 = .ok (.if_icmp .le 8, 3) := by decide +kernel
theorem dL_types_236 : decode cL_types 236 = .ok (.bipush 10, 2) := by decide +kernel
theorem dL_types_238 : decode cL_types 238 = .ok (.goto 4, 3) := by decide +kernel
theorem dL_types_241 : decode cL_types 241 = .ok (.iconst 1, 1) := by decide +kernel
theorem dL_types_242 : decode cL_types 242 = .ok (.istore 4, 2) := by decide +kernel
theorem dL_types_244 : decode cL_types 244 = .ok (.iload 4, 2) := by decide +kernel
theorem dL_types_246 : decode cL_types 246 = .ok (.ifCond .le 29, 3) := by decide +kernel
theorem dL_types_249 : decode cL_types 249 = .ok (.aload_n 0, 1) := by decide +kernel
theorem dL_types_250 : decode cL_types 250 = .ok (.bipush 48, 2) := by decide +kernel
theorem dL_types_252 : decode cL_types 252 = .ok (.iload_n 3, 1) := by decide +kernel
theorem dL_types_253 : decode cL_types 253 = .ok (.iload 4, 2) := by decide +kernel
theorem dL_types_255 : decode cL_types 255 = .ok (.idiv, 1) := by decide +kernel
theorem dL_types_256 : decode cL_types 256 = .ok (.bipush 10, 2) := by decide +kernel
theorem dL_types_258 : decode cL_types 258 = .ok (.irem, 1) := by decide +kernel
theorem dL_types_259 : decode cL_types 259 = .ok (.iadd, 1) := by decide +kernel
theorem dL_types_260 : decode cL_types 260 = .ok (.i2c, 1) := by decide +kernel
theorem dL_types_261 : decode cL_types 261 = .ok (.invokevirtual 50, 3) := by decide +kernel
theorem dL_types_264 : decode cL_types 264 = .ok (.pop, 1) := by decide +kernel
theorem dL_types_265 : decode cL_types 265 = .ok (.iload 4, 2) := by decide +kernel
theorem dL_types_267 : decode cL_types 267 = .ok (.bipush 10, 2) := by decide +kernel
theorem dL_types_269 : decode cL_types 269 = .ok (.idiv, 1) := by decide +kernel
theorem dL_types_270 : decode cL_types 270 = .ok (.istore 4, 2) := by decide +kernel
theorem dL_types_272 : decode cL_types 272 = .ok (.goto (-28), 3) := by decide +kernel
theorem dL_types_275 : decode cL_types 275 = .ok (.return_, 1) := by decide +kernel
theorem dL_build_0 : decode cL_build 0 = .ok (.iload_n 1, 1) := by decide +kernel
theorem dL_build_1 : decode cL_build 1 = .ok (.aload_n 0, 1) := by decide +kernel
theorem dL_build_2 : decode cL_build 2 = .ok (.iconst 0, 1) := by decide +kernel
theorem dL_build_3 : decode cL_build 3 = .ok (.invokevirtual 15, 3) := by decide +kernel
theorem dL_build_6 : decode cL_build 6 = .ok (.invokestatic 54, 3) := by decide +kernel
theorem dL_build_9 : decode cL_build 9 = .ok (.istore_n 3, 1) := by decide +kernel
theorem dL_build_10 : decode cL_build 10 = .ok (.iload_n 1, 1) := by decide +kernel
theorem dL_build_11 : decode cL_build 11 = .ok (.iconst 4, 1) := by decide +kernel
theorem dL_build_12 : decode cL_build 12 = .ok (.ishr, 1) := by decide +kernel
theorem dL_build_13 : decode cL_build 13 = .ok (.iconst 4, 1) := by decide +kernel
theorem dL_build_14 : decode cL_build 14 = .ok (.invokestatic 54, 3) := by decide +kernel
theorem dL_build_17 : decode cL_build 17 = .ok (.istore 4, 2) := by decide +kernel
theorem dL_build_19 : decode cL_build 19 = .ok (.aload_n 0, 1) := by decide +kernel
theorem dL_build_20 : decode cL_build 20 = .ok (.iconst 1, 1) := by decide +kernel
theorem dL_build_21 : decode cL_build 21 = .ok (.invokevirtual 15, 3) := by decide +kernel
theorem dL_build_24 : decode cL_build 24 = .ok (.istore 5, 2) := by decide +kernel
theorem dL_build_26 : decode cL_build 26 = .ok (.iload 5, 2) := by decide +kernel
theorem dL_build_28 : decode cL_build 28 = .ok (.ifCond .ne 19, 3) := by decide +kernel
theorem dL_build_31 : decode cL_build 31 = .ok (.iload 4, 2) := by decide +kernel
theorem dL_build_33 : decode cL_build 33 = .ok (.iconst 1, 1) := by decide +kernel
theorem dL_build_34 : decode cL_build 34 = .ok (.if_icmp .eq 9, 3) := by decide +kernel
theorem dL_build_37 : decode cL_build 37 = .ok (.iload 4, 2) := by decide +kernel
theorem dL_build_39 : decode cL_build 39 = .ok (.iconst 3, 1) := by decide +kernel
theorem dL_build_40 : decode cL_build 40 = .ok (.if_icmp .ne 7, 3) := by decide +kernel
theorem dL_build_43 : decode cL_build 43 = .ok (.iconst 2, 1) := by decide +kernel
theorem dL_build_44 : decode cL_build 44 = .ok (.goto 5, 3) := by decide +kernel
theorem dL_build_47 : decode cL_build 47 = .ok (.iload 4, 2) := by decide +kernel
theorem dL_build_49 : decode cL_build 49 = .ok (.istore 4, 2) := by decide +kernel
theorem dL_build_51 : decode cL_build 51 = .ok (.iload 4, 2) := by decide +kernel
theorem dL_build_53 : decode cL_build 53 = .ok (.iconst 2, 1) := by decide +kernel
theorem dL_build_54 : decode cL_build 54 = .ok (.if_icmp .ne 13, 3) := by decide +kernel
theorem dL_build_57 : decode cL_build 57 = .ok (.iload_n 2, 1) := by decide +kernel
theorem dL_build_58 : decode cL_build 58 = .ok (.sipush 10000, 3) := by decide +kernel
theorem dL_build_61 : decode cL_build 61 = .ok (.invokestatic 54, 3) := by decide +kernel
theorem dL_build_64 : decode cL_build 64 = .ok (.goto 18, 3) := by decide +kernel
theorem dL_build_67 : decode cL_build 67 = .ok (.iload 5, 2) := by decide +kernel
theorem dL_build_69 : decode cL_build 69 = .ok (.ifCond .ne 7, 3) := by decide +kernel
theorem dL_build_72 : decode cL_build 72 = .ok (.iconst 0, 1) := by decide +kernel
theorem dL_build_73 : decode cL_build 73 = .ok (.goto 9, 3) := by decide +kernel
theorem dL_build_76 : decode cL_build 76 = .ok (.iload_n 2, 1) := by decide +kernel
theorem dL_build_77 : decode cL_build 77 = .ok (.iload 5, 2) := by decide +kernel
theorem dL_build_79 : decode cL_build 79 = .ok (.invokestatic 54, 3) := by decide +kernel
theorem dL_build_82 : decode cL_build 82 = .ok (.istore 6, 2) := by decide +kernel
theorem dL_build_84 : decode cL_build 84 = .ok (.aload_n 0, 1) := by decide +kernel
theorem dL_build_85 : decode cL_build 85 = .ok (.iload_n 3, 1) := by decide +kernel
theorem dL_build_86 : decode cL_build 86 = .ok (.iload 4, 2) := by decide +kernel
theorem dL_build_88 : decode cL_build 88 = .ok (.iload 6, 2) := by decide +kernel
theorem dL_build_90 : decode cL_build 90 = .ok (.invokestatic 57, 3) := by decide +kernel
theorem dL_build_93 : decode cL_build 93 = .ok (.aload_n 0, 1) := by decide +kernel
theorem dL_build_94 : decode cL_build 94 = .ok (.invokevirtual 61, 3) := by decide +kernel
theorem dL_build_97 : decode cL_build 97 = .ok (.istore 7, 2) := by decide +kernel
theorem dL_build_99 : decode cL_build 99 = .ok (.iload 7, 2) := by decide +kernel
theorem dL_build_101 : decode cL_build 101 = .ok (.bipush (-3), 2) := by decide +kernel
theorem dL_build_103 : decode cL_build 103 = .ok (.if_icmp .ne 19, 3) := by decide +kernel
theorem dL_build_106 : decode cL_build 106 = .ok (.aload_n 0, 1) := by decide +kernel
theorem dL_build_107 : decode cL_build 107 = .ok (.iconst 0, 1) := by decide +kernel
theorem dL_build_108 : decode cL_build 108 = .ok (.invokevirtual 15, 3) := by decide +kernel
theorem dL_build_111 : decode cL_build 111 = .ok (.bipush 12, 2) := by decide +kernel
theorem dL_build_113 : decode cL_build 113 = .ok (.if_icmp .ne 7, 3) := by decide +kernel
theorem dL_build_116 : decode cL_build 116 = .ok (.iconst 1, 1) := by decide +kernel
theorem dL_build_117 : decode cL_build 117 = .ok (.goto 4, 3) := by decide +kernel
theorem dL_build_120 : decode cL_build 120 = .ok (.iconst 0, 1) := by decide +kernel
theorem dL_build_121 : decode cL_build 121 = .ok (.ireturn, 1) := by decide +kernel
theorem dL_build_122 : decode cL_build 122 = .ok (.aload_n 0, 1) := by decide +kernel
theorem dL_build_123 : decode cL_build 123 = .ok (.bipush 11, 2) := by decide +kernel
theorem dL_build_125 : decode cL_build 125 = .ok (.invokevirtual 15, 3) := by decide +kernel
theorem dL_build_128 : decode cL_build 128 = .ok (.istore 8, 2) := by decide +kernel
theorem dL_build_130 : decode cL_build 130 = .ok (.iload 7, 2) := by decide +kernel
theorem dL_build_132 : decode cL_build 132 = .ok (.aload_n 0, 1) := by decide +kernel
theorem dL_build_133 : decode cL_build 133 = .ok (.iconst 0, 1) := by decide +kernel
theorem dL_build_134 : decode cL_build 134 = .ok (.invokevirtual 15, 3) := by decide +kernel
theorem dL_build_137 : decode cL_build 137 = .ok (.iconst 1, 1) := by decide +kernel
theorem dL_build_138 : decode cL_build 138 = .ok (.isub, 1) := by decide +kernel
theorem dL_build_139 : decode cL_build 139 = .ok (.if_icmp .ne 63, 3) := by decide +kernel
theorem dL_build_142 : decode cL_build 142 = .ok (.aload_n 0, 1) := by decide +kernel
theorem dL_build_143 : decode cL_build 143 = .ok (.iload 7, 2) := by decide +kernel
theorem dL_build_145 : decode cL_build 145 = .ok (.iconst 0, 1) := by decide +kernel
theorem dL_build_146 : decode cL_build 146 = .ok (.invokevirtual 9, 3) := by decide +kernel
theorem dL_build_149 : decode cL_build 149 = .ok (.iload_n 3, 1) := by decide +kernel
theorem dL_build_150 : decode cL_build 150 = .ok (.if_icmp .ne 52, 3) := by decide +kernel
theorem dL_build_153 : decode cL_build 153 = .ok (.aload_n 0, 1) := by decide +kernel
theorem dL_build_154 : decode cL_build 154 = .ok (.iload 7, 2) := by decide +kernel
theorem dL_build_156 : decode cL_build 156 = .ok (.iconst 1, 1) := by decide +kernel
theorem dL_build_157 : decode cL_build 157 = .ok (.invokevirtual 9, 3) := by decide +kernel
theorem dL_build_160 : decode cL_build 160 = .ok (.iload 4, 2) := by decide +kernel
theorem dL_build_162 : decode cL_build 162 = .ok (.if_icmp .ne 40, 3) := by decide +kernel
theorem dL_build_165 : decode cL_build 165 = .ok (.aload_n 0, 1) := by decide +kernel
theorem dL_build_166 : decode cL_build 166 = .ok (.iload 7, 2) := by decide +kernel
theorem dL_build_168 : decode cL_build 168 = .ok (.iconst 2, 1) := by decide +kernel
theorem dL_build_169 : decode cL_build 169 = .ok (.invokevirtual 9, 3) := by decide +kernel
theorem dL_build_172 : decode cL_build 172 = .ok (.ifCond .ne 30, 3) := by decide +kernel
theorem dL_build_175 : decode cL_build 175 = .ok (.aload_n 0, 1) := by decide +kernel
theorem dL_build_176 : decode cL_build 176 = .ok (.iload 7, 2) := by decide +kernel
theorem dL_build_178 : decode cL_build 178 = .ok (.bipush 6, 2) := by decide +kernel
theorem dL_build_180 : decode cL_build 180 = .ok (.invokevirtual 9, 3) := by decide +kernel
theorem dL_build_183 : decode cL_build 183 = .ok (.iload 4, 2) := by decide +kernel
theorem dL_build_185 : decode cL_build 185 = .ok (.ifCond .ne 8, 3) := by decide +kernel
theorem dL_build_188 : decode cL_build 188 = .ok (.bipush (-5), 2) := by decide +kernel
theorem dL_build_190 : decode cL_build 190 = .ok (.goto 5, 3) := by decide +kernel
theorem dL_build_193 : decode cL_build 193 = .ok (.iload 6, 2) := by decide +kernel
theorem dL_build_195 : decode cL_build 195 = .ok (.if_icmp .ne 7, 3) := by decide +kernel
theorem dL_build_198 : decode cL_build 198 = .ok (.iconst 1, 1) := by decide +kernel
theorem dL_build_199 : decode cL_build 199 = .ok (.goto 4, 3) := by decide +kernel
theorem dL_build_202 : decode cL_build 202 = .ok (.iconst 0, 1) := by decide +kernel
theorem dL_build_203 : decode cL_build 203 = .ok (.istore 9, 2) := by decide +kernel
theorem dL_build_205 : decode cL_build 205 = .ok (.aload_n 0, 1) := by decide +kernel
theorem dL_build_206 : decode cL_build 206 = .ok (.bipush 120, 2) := by decide +kernel
theorem dL_build_208 : decode cL_build 208 = .ok (.invokevirtual 50, 3) := by decide +kernel
theorem dL_build_211 : decode cL_build 211 = .ok (.pop, 1) := by decide +kernel
theorem dL_build_212 : decode cL_build 212 = .ok (.aload_n 0, 1) := by decide +kernel
theorem dL_build_213 : decode cL_build 213 = .ok (.invokevirtual 61, 3) := by decide +kernel
theorem dL_build_216 : decode cL_build 216 = .ok (.bipush (-100), 2) := by decide +kernel
theorem dL_build_218 : decode cL_build 218 = .ok (.iload 8, 2) := by decide +kernel
theorem dL_build_220 : decode cL_build 220 = .ok (.isub, 1) := by decide +kernel
theorem dL_build_221 : decode cL_build 221 = .ok (.if_icmp .ne 7, 3) := by decide +kernel
theorem dL_build_224 : decode cL_build 224 = .ok (.iconst 1, 1) := by decide +kernel
theorem dL_build_225 : decode cL_build 225 = .ok (.goto 4, 3) := by decide +kernel
theorem dL_build_228 : decode cL_build 228 = .ok (.iconst 0, 1) := by decide +kernel
theorem dL_build_229 : decode cL_build 229 = .ok (.istore 10, 2) := by decide +kernel
theorem dL_build_231 : decode cL_build 231 = .ok (.iload 4, 2) := by decide +kernel
theorem dL_build_233 : decode cL_build 233 = .ok (.iconst 2, 1) := by decide +kernel
theorem dL_build_234 : decode cL_build 234 = .ok (.if_icmp .ne 44, 3) := by decide +kernel
theorem dL_build_237 : decode cL_build 237 = .ok (.aload_n 0, 1) := by decide +kernel
theorem dL_build_238 : decode cL_build 238 = .ok (.iload_n 2, 1) := by decide +kernel
theorem dL_build_239 : decode cL_build 239 = .ok (.bipush 8, 2) := by decide +kernel
theorem dL_build_241 : decode cL_build 241 = .ok (.ishr, 1) := by decide +kernel
theorem dL_build_242 : decode cL_build 242 = .ok (.iload 7, 2) := by decide +kernel
theorem dL_build_244 : decode cL_build 244 = .ok (.invokestatic 54, 3) := by decide +kernel
theorem dL_build_247 : decode cL_build 247 = .ok (.invokevirtual 64, 3) := by decide +kernel
theorem dL_build_250 : decode cL_build 250 = .ok (.istore 11, 2) := by decide +kernel
theorem dL_build_252 : decode cL_build 252 = .ok (.aload_n 0, 1) := by decide +kernel
theorem dL_build_253 : decode cL_build 253 = .ok (.iload 11, 2) := by decide +kernel
theorem dL_build_255 : decode cL_build 255 = .ok (.ifCond .ge 7, 3) := by decide +kernel
theorem dL_build_258 : decode cL_build 258 = .ok (.iconst 0, 1) := by decide +kernel
theorem dL_build_259 : decode cL_build 259 = .ok (.goto 5, 3) := by decide +kernel
theorem dL_build_262 : decode cL_build 262 = .ok (.iload 11, 2) := by decide +kernel
theorem dL_build_264 : decode cL_build 264 = .ok (.iload 7, 2) := by decide +kernel
theorem dL_build_266 : decode cL_build 266 = .ok (.iload_n 2, 1) := by decide +kernel
theorem dL_build_267 : decode cL_build 267 = .ok (.iconst 4, 1) := by decide +kernel
theorem dL_build_268 : decode cL_build 268 = .ok (.invokestatic 54, 3) := by decide +kernel
theorem dL_build_271 : decode cL_build 271 = .ok (.invokevirtual 67, 3) := by decide +kernel
theorem dL_build_274 : decode cL_build 274 = .ok (.pop, 1) := by decide +kernel
theorem dL_build_275 : decode cL_build 275 = .ok (.goto 18, 3) := by decide +kernel
theorem dL_build_278 : decode cL_build 278 = .ok (.aload_n 0, 1) := by decide +kernel
theorem dL_build_279 : decode cL_build 279 = .ok (.iload_n 2, 1) := by decide +kernel
theorem dL_build_280 : decode cL_build 280 = .ok (.iconst 3, 1) := by decide +kernel
theorem dL_build_281 : decode cL_build 281 = .ok (.ishr, 1) := by decide +kernel
theorem dL_build_282 : decode cL_build 282 = .ok (.iload 7, 2) := by decide +kernel
theorem dL_build_284 : decode cL_build 284 = .ok (.iconst 1, 1) := by decide +kernel
theorem dL_build_285 : decode cL_build 285 = .ok (.iadd, 1) := by decide +kernel
theorem dL_build_286 : decode cL_build 286 = .ok (.invokestatic 54, 3) := by decide +kernel
theorem dL_build_289 : decode cL_build 289 = .ok (.invokevirtual 64, 3) := by decide +kernel
theorem dL_build_292 : decode cL_build 292 = .ok (.pop, 1) := by decide +kernel
theorem dL_build_293 : decode cL_build 293 = .ok (.iload 9, 2) := by decide +kernel
theorem dL_build_295 : decode cL_build 295 = .ok (.ifCond .eq 12, 3) := by decide +kernel
theorem dL_build_298 : decode cL_build 298 = .ok (.iload 10, 2) := by decide +kernel
theorem dL_build_300 : decode cL_build 300 = .ok (.ifCond .eq 7, 3) := by decide +kernel
theorem dL_build_303 : decode cL_build 303 = .ok (.iconst 1, 1) := by decide +kernel
theorem dL_build_304 : decode cL_build 304 = .ok (.goto 4, 3) := by decide +kernel
theorem dL_build_307 : decode cL_build 307 = .ok (.iconst 0, 1) := by decide +kernel
theorem dL_build_308 : decode cL_build 308 = .ok (.ireturn, 1) := by decide +kernel
theorem dL_does_0 : decode cL_does 0 = .ok (.iload_n 1, 1) := by decide +kernel
theorem dL_does_1 : decode cL_does 1 = .ok (.bipush 100, 2) := by decide +kernel
theorem dL_does_3 : decode cL_does 3 = .ok (.irem, 1) := by decide +kernel
theorem dL_does_4 : decode cL_does 4 = .ok (.istore_n 2, 1) := by decide +kernel
theorem dL_does_5 : decode cL_does 5 = .ok (.iload_n 1, 1) := by decide +kernel
theorem dL_does_6 : decode cL_does 6 = .ok (.sipush 1000, 3) := by decide +kernel
theorem dL_does_9 : decode cL_does 9 = .ok (.irem, 1) := by decide +kernel
theorem dL_does_10 : decode cL_does 10 = .ok (.bipush 100, 2) := by decide +kernel
theorem dL_does_12 : decode cL_does 12 = .ok (.idiv, 1) := by decide +kernel
theorem dL_does_13 : decode cL_does 13 = .ok (.istore_n 3, 1) := by decide +kernel
theorem dL_does_14 : decode cL_does 14 = .ok (.iload_n 3, 1) := by decide +kernel
theorem dL_does_15 : decode cL_does 15 = .ok (.iconst 1, 1) := by decide +kernel
theorem dL_does_16 : decode cL_does 16 = .ok (.if_icmp .ne 29, 3) := by decide +kernel
theorem dL_does_19 : decode cL_does 19 = .ok (.aload_n 0, 1) := by decide +kernel
theorem dL_does_20 : decode cL_does 20 = .ok (.iload_n 2, 1) := by decide +kernel
theorem dL_does_21 : decode cL_does 21 = .ok (.iconst 2, 1) := by decide +kernel
theorem dL_does_22 : decode cL_does 22 = .ok (.invokevirtual 25, 3) := by decide +kernel
theorem dL_does_25 : decode cL_does 25 = .ok (.iconst 1, 1) := by decide +kernel
theorem dL_does_26 : decode cL_does 26 = .ok (.if_icmp .ne 17, 3) := by decide +kernel
theorem dL_does_29 : decode cL_does 29 = .ok (.aload_n 0, 1) := by decide +kernel
theorem dL_does_30 : decode cL_does 30 = .ok (.iload_n 2, 1) := by decide +kernel
theorem dL_does_31 : decode cL_does 31 = .ok (.invokevirtual 71, 3) := by decide +kernel
theorem dL_does_34 : decode cL_does 34 = .ok (.bipush (-4), 2) := by decide +kernel
theorem dL_does_36 : decode cL_does 36 = .ok (.if_icmp .eq 7, 3) := by decide +kernel
theorem dL_does_39 : decode cL_does 39 = .ok (.iconst 1, 1) := by decide +kernel
theorem dL_does_40 : decode cL_does 40 = .ok (.goto 4, 3) := by decide +kernel
theorem dL_does_43 : decode cL_does 43 = .ok (.iconst 0, 1) := by decide +kernel
theorem dL_does_44 : decode cL_does 44 = .ok (.ireturn, 1) := by decide +kernel
theorem dL_does_45 : decode cL_does 45 = .ok (.iload_n 3, 1) := by decide +kernel
theorem dL_does_46 : decode cL_does 46 = .ok (.iconst 2, 1) := by decide +kernel
theorem dL_does_47 : decode cL_does 47 = .ok (.if_icmp .ne 35, 3) := by decide +kernel
theorem dL_does_50 : decode cL_does 50 = .ok (.aload_n 0, 1) := by decide +kernel
theorem dL_does_51 : decode cL_does 51 = .ok (.iload_n 2, 1) := by decide +kernel
theorem dL_does_52 : decode cL_does 52 = .ok (.iconst 1, 1) := by decide +kernel
theorem dL_does_53 : decode cL_does 53 = .ok (.invokevirtual 25, 3) := by decide +kernel
theorem dL_does_56 : decode cL_does 56 = .ok (.bipush (-5), 2) := by decide +kernel
theorem dL_does_58 : decode cL_does 58 = .ok (.if_icmp .ne 22, 3) := by decide +kernel
theorem dL_does_61 : decode cL_does 61 = .ok (.aload_n 0, 1) := by decide +kernel
theorem dL_does_62 : decode cL_does 62 = .ok (.iload_n 2, 1) := by decide +kernel
theorem dL_does_63 : decode cL_does 63 = .ok (.iload_n 1, 1) := by decide +kernel
theorem dL_does_64 : decode cL_does 64 = .ok (.sipush 1000, 3) := by decide +kernel
theorem dL_does_67 : decode cL_does 67 = .ok (.idiv, 1) := by decide +kernel
theorem dL_does_68 : decode cL_does 68 = .ok (.invokevirtual 74, 3) := by decide +kernel
theorem dL_does_71 : decode cL_does 71 = .ok (.bipush (-4), 2) := by decide +kernel
theorem dL_does_73 : decode cL_does 73 = .ok (.if_icmp .eq 7, 3) := by decide +kernel
theorem dL_does_76 : decode cL_does 76 = .ok (.iconst 1, 1) := by decide +kernel
theorem dL_does_77 : decode cL_does 77 = .ok (.goto 4, 3) := by decide +kernel
theorem dL_does_80 : decode cL_does 80 = .ok (.iconst 0, 1) := by decide +kernel
theorem dL_does_81 : decode cL_does 81 = .ok (.ireturn, 1) := by decide +kernel
theorem dL_does_82 : decode cL_does 82 = .ok (.iload_n 3, 1) := by decide +kernel
theorem dL_does_83 : decode cL_does 83 = .ok (.iconst 3, 1) := by decide +kernel
theorem dL_does_84 : decode cL_does 84 = .ok (.if_icmp .ne 104, 3) := by decide +kernel
theorem dL_does_87 : decode cL_does 87 = .ok (.aload_n 0, 1) := by decide +kernel
theorem dL_does_88 : decode cL_does 88 = .ok (.iload_n 2, 1) := by decide +kernel
theorem dL_does_89 : decode cL_does 89 = .ok (.iconst 1, 1) := by decide +kernel
theorem dL_does_90 : decode cL_does 90 = .ok (.invokevirtual 9, 3) := by decide +kernel
theorem dL_does_93 : decode cL_does 93 = .ok (.iconst 2, 1) := by decide +kernel
theorem dL_does_94 : decode cL_does 94 = .ok (.if_icmp .ne 13, 3) := by decide +kernel
theorem dL_does_97 : decode cL_does 97 = .ok (.aload_n 0, 1) := by decide +kernel
theorem dL_does_98 : decode cL_does 98 = .ok (.iload_n 2, 1) := by decide +kernel
theorem dL_does_99 : decode cL_does 99 = .ok (.bipush 6, 2) := by decide +kernel
theorem dL_does_101 : decode cL_does 101 = .ok (.invokevirtual 9, 3) := by decide +kernel
theorem dL_does_104 : decode cL_does 104 = .ok (.goto 4, 3) := by decide +kernel
theorem dL_does_107 : decode cL_does 107 = .ok (.iconst 0, 1) := by decide +kernel
theorem dL_does_108 : decode cL_does 108 = .ok (.istore 4, 2) := by decide +kernel
theorem dL_does_110 : decode cL_does 110 = .ok (.aload_n 0, 1) := by decide +kernel
theorem dL_does_111 : decode cL_does 111 = .ok (.iload_n 2, 1) := by decide +kernel
theorem dL_does_112 : decode cL_does 112 = .ok (.iconst 1, 1) := by decide +kernel
theorem dL_does_113 : decode cL_does 113 = .ok (.invokevirtual 9, 3) := by decide +kernel
theorem dL_does_116 : decode cL_does 116 = .ok (.iconst 2, 1) := by decide +kernel
theorem dL_does_117 : decode cL_does 117 = .ok (.if_icmp .ne 15, 3) := by decide +kernel
theorem dL_does_120 : decode cL_does 120 = .ok (.aload_n 0, 1) := by decide +kernel
theorem dL_does_121 : decode cL_does 121 = .ok (.iload_n 2, 1) := by decide +kernel
theorem dL_does_122 : decode cL_does 122 = .ok (.bipush 7, 2) := by decide +kernel
theorem dL_does_124 : decode cL_does 124 = .ok (.invokevirtual 9, 3) := by decide +kernel
theorem dL_does_127 : decode cL_does 127 = .ok (.bipush 15, 2) := by decide +kernel
theorem dL_does_129 : decode cL_does 129 = .ok (.if_icmp .ne 7, 3) := by decide +kernel
theorem dL_does_132 : decode cL_does 132 = .ok (.iconst 1, 1) := by decide +kernel
theorem dL_does_133 : decode cL_does 133 = .ok (.goto 4, 3) := by decide +kernel
theorem dL_does_136 : decode cL_does 136 = .ok (.iconst 0, 1) := by decide +kernel
theorem dL_does_137 : decode cL_does 137 = .ok (.istore 5, 2) := by decide +kernel
theorem dL_does_139 : decode cL_does 139 = .ok (.aload_n 0, 1) := by decide +kernel
theorem dL_does_140 : decode cL_does 140 = .ok (.iload_n 2, 1) := by decide +kernel
theorem dL_does_141 : decode cL_does 141 = .ok (.iload 4, 2) := by decide +kernel
theorem dL_does_143 : decode cL_does 143 = .ok (.invokevirtual 77, 3) := by decide +kernel
theorem dL_does_146 : decode cL_does 146 = .ok (.istore 6, 2) := by decide +kernel
theorem dL_does_148 : decode cL_does 148 = .ok (.iload 5, 2) := by decide +kernel
theorem dL_does_150 : decode cL_does 150 = .ok (.ifCond .eq 36, 3) := by decide +kernel
theorem dL_does_153 : decode cL_does 153 = .ok (.iload 6, 2) := by decide +kernel
theorem dL_does_155 : decode cL_does 155 = .ok (.bipush (-6), 2) := by decide +kernel
theorem dL_does_157 : decode cL_does 157 = .ok (.if_icmp .eq 25, 3) := by decide +kernel
