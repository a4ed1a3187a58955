theorem d_M_findLengths_0 : decode b_M_findLengths 0 = .ok (.aload_n 0, 1) := by decide +kernel
theorem d_M_findLengths_1 : decode b_M_findLengths 1 = .ok (.iload_n 1, 1) := by decide +kernel
theorem d_M_findLengths_2 : decode b_M_findLengths 2 = .ok (.iload_n 2, 1) := by decide +kernel
theorem d_M_findLengths_3 : decode b_M_findLengths 3 = .ok (.invokevirtual 136, 3) := by decide +kernel
theorem d_M_findLengths_6 : decode b_M_findLengths 6 = .ok (.istore 4, 2) := by decide +kernel
theorem d_M_findLengths_8 : decode b_M_findLengths 8 = .ok (.iconst 0, 1) := by decide +kernel
theorem d_M_findLengths_9 : decode b_M_findLengths 9 = .ok (.istore 5, 2) := by decide +kernel
theorem d_M_findLengths_11 : decode b_M_findLengths 11 = .ok (.iload 5, 2) := by decide +kernel
theorem d_M_findLengths_13 : decode b_M_findLengths 13 = .ok (.iload_n 2, 1) := by decide +kernel
theorem d_M_findLengths_14 : decode b_M_findLengths 14 = .ok (.if_icmp .ge 19, 3) := by decide +kernel
theorem d_M_findLengths_17 : decode b_M_findLengths 17 = .ok (.aload_n 0, 1) := by decide +kernel
theorem d_M_findLengths_18 : decode b_M_findLengths 18 = .ok (.getfield 55, 3) := by decide +kernel
theorem d_M_findLengths_21 : decode b_M_findLengths 21 = .ok (.iload_n 1, 1) := by decide +kernel
theorem d_M_findLengths_22 : decode b_M_findLengths 22 = .ok (.iload 5, 2) := by decide +kernel
theorem d_M_findLengths_24 : decode b_M_findLengths 24 = .ok (.iadd, 1) := by decide +kernel
theorem d_M_findLengths_25 : decode b_M_findLengths 25 = .ok (.iconst 0, 1) := by decide +kernel
theorem d_M_findLengths_26 : decode b_M_findLengths 26 = .ok (.iastore, 1) := by decide +kernel
theorem d_M_findLengths_27 : decode b_M_findLengths 27 = .ok (.iinc 5 1, 3) := by decide +kernel
theorem d_M_findLengths_30 : decode b_M_findLengths 30 = .ok (.goto (-19), 3) := by decide +kernel
theorem d_M_findLengths_33 : decode b_M_findLengths 33 = .ok (.iload 4, 2) := by decide +kernel
theorem d_M_findLengths_35 : decode b_M_findLengths 35 = .ok (.iconst 1, 1) := by decide +kernel
theorem d_M_findLengths_36 : decode b_M_findLengths 36 = .ok (.if_icmp .ne 17, 3) := by decide +kernel
theorem d_M_findLengths_39 : decode b_M_findLengths 39 = .ok (.aload_n 0, 1) := by decide +kernel
theorem d_M_findLengths_40 : decode b_M_findLengths 40 = .ok (.getfield 55, 3) := by decide +kernel
theorem d_M_findLengths_43 : decode b_M_findLengths 43 = .ok (.iload_n 1, 1) := by decide +kernel
theorem d_M_findLengths_44 : decode b_M_findLengths 44 = .ok (.aload_n 0, 1) := by decide +kernel
theorem d_M_findLengths_45 : decode b_M_findLengths 45 = .ok (.getfield 61, 3) := by decide +kernel
theorem d_M_findLengths_48 : decode b_M_findLengths 48 = .ok (.iconst 0, 1) := by decide +kernel
theorem d_M_findLengths_49 : decode b_M_findLengths 49 = .ok (.iaload, 1) := by decide +kernel
theorem d_M_findLengths_50 : decode b_M_findLengths 50 = .ok (.iadd, 1) := by decide +kernel
theorem d_M_findLengths_51 : decode b_M_findLengths 51 = .ok (.iconst 1, 1) := by decide +kernel
theorem d_M_findLengths_52 : decode b_M_findLengths 52 = .ok (.iastore, 1) := by decide +kernel
theorem d_M_findLengths_53 : decode b_M_findLengths 53 = .ok (.iconst 0, 1) := by decide +kernel
theorem d_M_findLengths_54 : decode b_M_findLengths 54 = .ok (.istore 5, 2) := by decide +kernel
theorem d_M_findLengths_56 : decode b_M_findLengths 56 = .ok (.iconst 0, 1) := by decide +kernel
theorem d_M_findLengths_57 : decode b_M_findLengths 57 = .ok (.istore 6, 2) := by decide +kernel
theorem d_M_findLengths_59 : decode b_M_findLengths 59 = .ok (.iload 6, 2) := by decide +kernel
theorem d_M_findLengths_61 : decode b_M_findLengths 61 = .ok (.iload_n 3, 1) := by decide +kernel
theorem d_M_findLengths_62 : decode b_M_findLengths 62 = .ok (.if_icmp .ge 247, 3) := by decide +kernel
theorem d_M_findLengths_65 : decode b_M_findLengths 65 = .ok (.iload 4, 2) := by decide +kernel
theorem d_M_findLengths_67 : decode b_M_findLengths 67 = .ok (.iconst 1, 1) := by decide +kernel
theorem d_M_findLengths_68 : decode b_M_findLengths 68 = .ok (.if_icmp .le 241, 3) := by decide +kernel
theorem d_M_findLengths_71 : decode b_M_findLengths 71 = .ok (.iload 5, 2) := by decide +kernel
theorem d_M_findLengths_73 : decode b_M_findLengths 73 = .ok (.iconst 2, 1) := by decide +kernel
theorem d_M_findLengths_74 : decode b_M_findLengths 74 = .ok (.idiv, 1) := by decide +kernel
theorem d_M_findLengths_75 : decode b_M_findLengths 75 = .ok (.istore 7, 2) := by decide +kernel
theorem d_M_findLengths_77 : decode b_M_findLengths 77 = .ok (.iconst 0, 1) := by decide +kernel
theorem d_M_findLengths_78 : decode b_M_findLengths 78 = .ok (.istore 8, 2) := by decide +kernel
theorem d_M_findLengths_80 : decode b_M_findLengths 80 = .ok (.iconst 0, 1) := by decide +kernel
theorem d_M_findLengths_81 : decode b_M_findLengths 81 = .ok (.istore 9, 2) := by decide +kernel
theorem d_M_findLengths_83 : decode b_M_findLengths 83 = .ok (.iconst 0, 1) := by decide +kernel
theorem d_M_findLengths_84 : decode b_M_findLengths 84 = .ok (.istore 5, 2) := by decide +kernel
theorem d_M_findLengths_86 : decode b_M_findLengths 86 = .ok (.iload 8, 2) := by decide +kernel
theorem d_M_findLengths_88 : decode b_M_findLengths 88 = .ok (.iload 4, 2) := by decide +kernel
theorem d_M_findLengths_90 : decode b_M_findLengths 90 = .ok (.if_icmp .lt 10, 3) := by decide +kernel
theorem d_M_findLengths_93 : decode b_M_findLengths 93 = .ok (.iload 9, 2) := by decide +kernel
theorem d_M_findLengths_95 : decode b_M_findLengths 95 = .ok (.iload 7, 2) := by decide +kernel
theorem d_M_findLengths_97 : decode b_M_findLengths 97 = .ok (.if_icmp .ge 176, 3) := by decide +kernel
theorem d_M_findLengths_100 : decode b_M_findLengths 100 = .ok (.iload 9, 2) := by decide +kernel
theorem d_M_findLengths_102 : decode b_M_findLengths 102 = .ok (.iload 7, 2) := by decide +kernel
theorem d_M_findLengths_104 : decode b_M_findLengths 104 = .ok (.if_icmp .ge 27, 3) := by decide +kernel
theorem d_M_findLengths_107 : decode b_M_findLengths 107 = .ok (.aload_n 0, 1) := by decide +kernel
theorem d_M_findLengths_108 : decode b_M_findLengths 108 = .ok (.getfield 67, 3) := by decide +kernel
theorem d_M_findLengths_111 : decode b_M_findLengths 111 = .ok (.iconst 2, 1) := by decide +kernel
theorem d_M_findLengths_112 : decode b_M_findLengths 112 = .ok (.iload 9, 2) := by decide +kernel
theorem d_M_findLengths_114 : decode b_M_findLengths 114 = .ok (.imul, 1) := by decide +kernel
theorem d_M_findLengths_115 : decode b_M_findLengths 115 = .ok (.iaload, 1) := by decide +kernel
theorem d_M_findLengths_116 : decode b_M_findLengths 116 = .ok (.aload_n 0, 1) := by decide +kernel
theorem d_M_findLengths_117 : decode b_M_findLengths 117 = .ok (.getfield 67, 3) := by decide +kernel
theorem d_M_findLengths_120 : decode b_M_findLengths 120 = .ok (.iconst 2, 1) := by decide +kernel
theorem d_M_findLengths_121 : decode b_M_findLengths 121 = .ok (.iload 9, 2) := by decide +kernel
theorem d_M_findLengths_123 : decode b_M_findLengths 123 = .ok (.imul, 1) := by decide +kernel
theorem d_M_findLengths_124 : decode b_M_findLengths 124 = .ok (.iconst 1, 1) := by decide +kernel
theorem d_M_findLengths_125 : decode b_M_findLengths 125 = .ok (.iadd, 1) := by decide +kernel
theorem d_M_findLengths_126 : decode b_M_findLengths 126 = .ok (.iaload, 1) := by decide +kernel
theorem d_M_findLengths_127 : decode b_M_findLengths 127 = .ok (.iadd, 1) := by decide +kernel
theorem d_M_findLengths_128 : decode b_M_findLengths 128 = .ok (.goto 4, 3) := by decide +kernel
theorem d_M_findLengths_131 : decode b_M_findLengths 131 = .ok (.iconst 0, 1) := by decide +kernel
theorem d_M_findLengths_132 : decode b_M_findLengths 132 = .ok (.istore 10, 2) := by decide +kernel
theorem d_M_findLengths_134 : decode b_M_findLengths 134 = .ok (.iload 9, 2) := by decide +kernel
theorem d_M_findLengths_136 : decode b_M_findLengths 136 = .ok (.iload 7, 2) := by decide +kernel
theorem d_M_findLengths_138 : decode b_M_findLengths 138 = .ok (.if_icmp .eq 29, 3) := by decide +kernel
theorem d_M_findLengths_141 : decode b_M_findLengths 141 = .ok (.iload 8, 2) := by decide +kernel
theorem d_M_findLengths_143 : decode b_M_findLengths 143 = .ok (.iload 4, 2) := by decide +kernel
theorem d_M_findLengths_145 : decode b_M_findLengths 145 = .ok (.if_icmp .ge 26, 3) := by decide +kernel
theorem d_M_findLengths_148 : decode b_M_findLengths 148 = .ok (.aload_n 0, 1) := by decide +kernel
theorem d_M_findLengths_149 : decode b_M_findLengths 149 = .ok (.getfield 52, 3) := by decide +kernel
theorem d_M_findLengths_152 : decode b_M_findLengths 152 = .ok (.iload_n 1, 1) := by decide +kernel
theorem d_M_findLengths_153 : decode b_M_findLengths 153 = .ok (.aload_n 0, 1) := by decide +kernel
theorem d_M_findLengths_154 : decode b_M_findLengths 154 = .ok (.getfield 61, 3) := by decide +kernel
theorem d_M_findLengths_157 : decode b_M_findLengths 157 = .ok (.iload 8, 2) := by decide +kernel
theorem d_M_findLengths_159 : decode b_M_findLengths 159 = .ok (.iaload, 1) := by decide +kernel
theorem d_M_findLengths_160 : decode b_M_findLengths 160 = .ok (.iadd, 1) := by decide +kernel
theorem d_M_findLengths_161 : decode b_M_findLengths 161 = .ok (.iaload, 1) := by decide +kernel
theorem d_M_findLengths_162 : decode b_M_findLengths 162 = .ok (.iload 10, 2) := by decide +kernel
theorem d_M_findLengths_164 : decode b_M_findLengths 164 = .ok (.if_icmp .gt 7, 3) := by decide +kernel
theorem d_M_findLengths_167 : decode b_M_findLengths 167 = .ok (.iconst 1, 1) := by decide +kernel
theorem d_M_findLengths_168 : decode b_M_findLengths 168 = .ok (.goto 4, 3) := by decide +kernel
theorem d_M_findLengths_171 : decode b_M_findLengths 171 = .ok (.iconst 0, 1) := by decide +kernel
theorem d_M_findLengths_172 : decode b_M_findLengths 172 = .ok (.istore 11, 2) := by decide +kernel
theorem d_M_findLengths_174 : decode b_M_findLengths 174 = .ok (.aload_n 0, 1) := by decide +kernel
theorem d_M_findLengths_175 : decode b_M_findLengths 175 = .ok (.getfield 64, 3) := by decide +kernel
theorem d_M_findLengths_178 : decode b_M_findLengths 178 = .ok (.iload 5, 2) := by decide +kernel
theorem d_M_findLengths_180 : decode b_M_findLengths 180 = .ok (.iload 11, 2) := by decide +kernel
theorem d_M_findLengths_182 : decode b_M_findLengths 182 = .ok (.ifCond .eq 20, 3) := by decide +kernel
theorem d_M_findLengths_185 : decode b_M_findLengths 185 = .ok (.aload_n 0, 1) := by decide +kernel
theorem d_M_findLengths_186 : decode b_M_findLengths 186 = .ok (.getfield 52, 3) := by decide +kernel
theorem d_M_findLengths_189 : decode b_M_findLengths 189 = .ok (.iload_n 1, 1) := by decide +kernel
theorem d_M_findLengths_190 : decode b_M_findLengths 190 = .ok (.aload_n 0, 1) := by decide +kernel
theorem d_M_findLengths_191 : decode b_M_findLengths 191 = .ok (.getfield 61, 3) := by decide +kernel
theorem d_M_findLengths_194 : decode b_M_findLengths 194 = .ok (.iload 8, 2) := by decide +kernel
theorem d_M_findLengths_196 : decode b_M_findLengths 196 = .ok (.iaload, 1) := by decide +kernel
theorem d_M_findLengths_197 : decode b_M_findLengths 197 = .ok (.iadd, 1) := by decide +kernel
theorem d_M_findLengths_198 : decode b_M_findLengths 198 = .ok (.iaload, 1) := by decide +kernel
theorem d_M_findLengths_199 : decode b_M_findLengths 199 = .ok (.goto 5, 3) := by decide +kernel
theorem d_M_findLengths_202 : decode b_M_findLengths 202 = .ok (.iload 10, 2) := by decide +kernel
theorem d_M_findLengths_204 : decode b_M_findLengths 204 = .ok (.iastore, 1) := by decide +kernel
theorem d_M_findLengths_205 : decode b_M_findLengths 205 = .ok (.aload_n 0, 1) := by decide +kernel
theorem d_M_findLengths_206 : decode b_M_findLengths 206 = .ok (.getfield 70, 3) := by decide +kernel
theorem d_M_findLengths_209 : decode b_M_findLengths 209 = .ok (.sipush 600, 3) := by decide +kernel
theorem d_M_findLengths_212 : decode b_M_findLengths 212 = .ok (.iload 6, 2) := by decide +kernel
theorem d_M_findLengths_214 : decode b_M_findLengths 214 = .ok (.imul, 1) := by decide +kernel
theorem d_M_findLengths_215 : decode b_M_findLengths 215 = .ok (.iload 5, 2) := by decide +kernel
theorem d_M_findLengths_217 : decode b_M_findLengths 217 = .ok (.iadd, 1) := by decide +kernel
theorem d_M_findLengths_218 : decode b_M_findLengths 218 = .ok (.iload 11, 2) := by decide +kernel
theorem d_M_findLengths_220 : decode b_M_findLengths 220 = .ok (.ifCond .eq 8, 3) := by decide +kernel
theorem d_M_findLengths_223 : decode b_M_findLengths 223 = .ok (.iload 8, 2) := by decide +kernel
theorem d_M_findLengths_225 : decode b_M_findLengths 225 = .ok (.goto 9, 3) := by decide +kernel
theorem d_M_findLengths_228 : decode b_M_findLengths 228 = .ok (.iconst (-1), 1) := by decide +kernel
theorem d_M_findLengths_229 : decode b_M_findLengths 229 = .ok (.iconst 2, 1) := by decide +kernel
theorem d_M_findLengths_230 : decode b_M_findLengths 230 = .ok (.iload 9, 2) := by decide +kernel
theorem d_M_findLengths_232 : decode b_M_findLengths 232 = .ok (.imul, 1) := by decide +kernel
theorem d_M_findLengths_233 : decode b_M_findLengths 233 = .ok (.isub, 1) := by decide +kernel
theorem d_M_findLengths_234 : decode b_M_findLengths 234 = .ok (.iastore, 1) := by decide +kernel
theorem d_M_findLengths_235 : decode b_M_findLengths 235 = .ok (.iload 11, 2) := by decide +kernel
theorem d_M_findLengths_237 : decode b_M_findLengths 237 = .ok (.ifCond .eq 10, 3) := by decide +kernel
theorem d_M_findLengths_240 : decode b_M_findLengths 240 = .ok (.iload 8, 2) := by decide +kernel
theorem d_M_findLengths_242 : decode b_M_findLengths 242 = .ok (.iconst 1, 1) := by decide +kernel
theorem d_M_findLengths_243 : decode b_M_findLengths 243 = .ok (.iadd, 1) := by decide +kernel
theorem d_M_findLengths_244 : decode b_M_findLengths 244 = .ok (.goto 5, 3) := by decide +kernel
theorem d_M_findLengths_247 : decode b_M_findLengths 247 = .ok (.iload 8, 2) := by decide +kernel
theorem d_M_findLengths_249 : decode b_M_findLengths 249 = .ok (.istore 8, 2) := by decide +kernel
theorem d_M_findLengths_251 : decode b_M_findLengths 251 = .ok (.iload 11, 2) := by decide +kernel
theorem d_M_findLengths_253 : decode b_M_findLengths 253 = .ok (.ifCond .eq 8, 3) := by decide +kernel
theorem d_M_findLengths_256 : decode b_M_findLengths 256 = .ok (.iload 9, 2) := by decide +kernel
theorem d_M_findLengths_258 : decode b_M_findLengths 258 = .ok (.goto 7, 3) := by decide +kernel
theorem d_M_findLengths_261 : decode b_M_findLengths 261 = .ok (.iload 9, 2) := by decide +kernel
theorem d_M_findLengths_263 : decode b_M_findLengths 263 = .ok (.iconst 1, 1) := by decide +kernel
theorem d_M_findLengths_264 : decode b_M_findLengths 264 = .ok (.iadd, 1) := by decide +kernel
theorem d_M_findLengths_265 : decode b_M_findLengths 265 = .ok (.istore 9, 2) := by decide +kernel
theorem d_M_findLengths_267 : decode b_M_findLengths 267 = .ok (.iinc 5 1, 3) := by decide +kernel
theorem d_M_findLengths_270 : decode b_M_findLengths 270 = .ok (.goto (-184), 3) := by decide +kernel
theorem d_M_findLengths_273 : decode b_M_findLengths 273 = .ok (.iconst 0, 1) := by decide +kernel
theorem d_M_findLengths_274 : decode b_M_findLengths 274 = .ok (.istore 10, 2) := by decide +kernel
theorem d_M_findLengths_276 : decode b_M_findLengths 276 = .ok (.iload 10, 2) := by decide +kernel
theorem d_M_findLengths_278 : decode b_M_findLengths 278 = .ok (.iload 5, 2) := by decide +kernel
theorem d_M_findLengths_280 : decode b_M_findLengths 280 = .ok (.if_icmp .ge 23, 3) := by decide +kernel
theorem d_M_findLengths_283 : decode b_M_findLengths 283 = .ok (.aload_n 0, 1) := by decide +kernel
theorem d_M_findLengths_284 : decode b_M_findLengths 284 = .ok (.getfield 67, 3) := by decide +kernel
theorem d_M_findLengths_287 : decode b_M_findLengths 287 = .ok (.iload 10, 2) := by decide +kernel
theorem d_M_findLengths_289 : decode b_M_findLengths 289 = .ok (.aload_n 0, 1) := by decide +kernel
theorem d_M_findLengths_290 : decode b_M_findLengths 290 = .ok (.getfield 64, 3) := by decide +kernel
theorem d_M_findLengths_293 : decode b_M_findLengths 293 = .ok (.iload 10, 2) := by decide +kernel
theorem d_M_findLengths_295 : decode b_M_findLengths 295 = .ok (.iaload, 1) := by decide +kernel
theorem d_M_findLengths_296 : decode b_M_findLengths 296 = .ok (.iastore, 1) := by decide +kernel
theorem d_M_findLengths_297 : decode b_M_findLengths 297 = .ok (.iinc 10 1, 3) := by decide +kernel
theorem d_M_findLengths_300 : decode b_M_findLengths 300 = .ok (.goto (-24), 3) := by decide +kernel
theorem d_M_findLengths_303 : decode b_M_findLengths 303 = .ok (.iinc 6 1, 3) := by decide +kernel
theorem d_M_findLengths_306 : decode b_M_findLengths 306 = .ok (.goto (-247), 3) := by decide +kernel
theorem d_M_findLengths_309 : decode b_M_findLengths 309 = .ok (.iconst 0, 1) := by decide +kernel
theorem d_M_findLengths_310 : decode b_M_findLengths 310 = .ok (.istore 6, 2) := by decide +kernel
theorem d_M_findLengths_312 : decode b_M_findLengths 312 = .ok (.iload 6, 2) := by decide +kernel
theorem d_M_findLengths_314 : decode b_M_findLengths 314 = .ok (.iconst 2, 1) := by decide +kernel
theorem d_M_findLengths_315 : decode b_M_findLengths 315 = .ok (.iload 4, 2) := by decide +kernel
theorem d_M_findLengths_317 : decode b_M_findLengths 317 = .ok (.imul, 1) := by decide +kernel
theorem d_M_findLengths_318 : decode b_M_findLengths 318 = .ok (.iconst 2, 1) := by decide +kernel
theorem d_M_findLengths_319 : decode b_M_findLengths 319 = .ok (.isub, 1) := by decide +kernel
theorem d_M_findLengths_320 : decode b_M_findLengths 320 = .ok (.if_icmp .ge 25, 3) := by decide +kernel
theorem d_M_findLengths_323 : decode b_M_findLengths 323 = .ok (.iload 4, 2) := by decide +kernel
theorem d_M_findLengths_325 : decode b_M_findLengths 325 = .ok (.iconst 1, 1) := by decide +kernel
theorem d_M_findLengths_326 : decode b_M_findLengths 326 = .ok (.if_icmp .le 19, 3) := by decide +kernel
theorem d_M_findLengths_329 : decode b_M_findLengths 329 = .ok (.aload_n 0, 1) := by decide +kernel
theorem d_M_findLengths_330 : decode b_M_findLengths 330 = .ok (.iload_n 1, 1) := by decide +kernel
theorem d_M_findLengths_331 : decode b_M_findLengths 331 = .ok (.iload_n 3, 1) := by decide +kernel
theorem d_M_findLengths_332 : decode b_M_findLengths 332 = .ok (.iconst 1, 1) := by decide +kernel
theorem d_M_findLengths_333 : decode b_M_findLengths 333 = .ok (.isub, 1) := by decide +kernel
theorem d_M_findLengths_334 : decode b_M_findLengths 334 = .ok (.iload 6, 2) := by decide +kernel
theorem d_M_findLengths_336 : decode b_M_findLengths 336 = .ok (.invokevirtual 140, 3) := by decide +kernel
theorem d_M_findLengths_339 : decode b_M_findLengths 339 = .ok (.iinc 6 1, 3) := by decide +kernel
theorem d_M_findLengths_342 : decode b_M_findLengths 342 = .ok (.goto (-30), 3) := by decide +kernel
theorem d_M_findLengths_345 : decode b_M_findLengths 345 = .ok (.return_, 1) := by decide +kernel
def M_findLengths_312 (F : Nat) (x1 : Int32) (x3 : Int32) (k_312 : (Nat → Int32) → (Nat → Int32) → (Nat → Int32) → (Nat → Int32) → (Nat → Int32) → Int32 → Int32 → Option (Unit × (Nat → Int32) × (Nat → Int32) × (Nat → Int32) × (Nat → Int32) × (Nat → Int32))) (c_ranked : Nat → Int32) (c_lengths : Nat → Int32) (c_weight : Nat → Int32) (c_weightBefore : Nat → Int32) (c_items : Nat → Int32) (x4 : Int32) (x6 : Int32) : Option (Unit × (Nat → Int32) × (Nat → Int32) × (Nat → Int32) × (Nat → Int32) × (Nat → Int32)) :=
  mC (((2 * x4) - 2) ≤ x6) (some ((), c_ranked, c_lengths, c_weight, c_weightBefore, c_items)) (mC (x4 ≤ 1) (some ((), c_ranked, c_lengths, c_weight, c_weightBefore, c_items)) (mL (x3 - 1) fun t_1 => mR1 (M_takeItem F c_items c_ranked c_lengths x1 t_1 x6) fun _ c_lengths_2 => mL (x6 + 1) fun y6_4 => k_312 c_ranked c_lengths_2 c_weight c_weightBefore c_items x4 y6_4))
def M_findLengths_309 (F : Nat) (x1 : Int32) (x3 : Int32) (c_ranked : Nat → Int32) (c_lengths : Nat → Int32) (c_weight : Nat → Int32) (c_weightBefore : Nat → Int32) (c_items : Nat → Int32) (x4 : Int32) : Option (Unit × (Nat → Int32) × (Nat → Int32) × (Nat → Int32) × (Nat → Int32) × (Nat → Int32)) :=
  (mW7 (M_findLengths_312 F x1 x3) F) c_ranked c_lengths c_weight c_weightBefore c_items x4 0
def M_findLengths_303 (F : Nat) (k_59 : (Nat → Int32) → (Nat → Int32) → (Nat → Int32) → (Nat → Int32) → (Nat → Int32) → Int32 → Int32 → Int32 → Option (Unit × (Nat → Int32) × (Nat → Int32) × (Nat → Int32) × (Nat → Int32) × (Nat → Int32))) (c_ranked : Nat → Int32) (c_lengths : Nat → Int32) (c_weight : Nat → Int32) (c_weightBefore : Nat → Int32) (c_items : Nat → Int32) (x4 : Int32) (x5 : Int32) (x6 : Int32) : Option (Unit × (Nat → Int32) × (Nat → Int32) × (Nat → Int32) × (Nat → Int32) × (Nat → Int32)) :=
  mL (x6 + 1) fun y6_5 => k_59 c_ranked c_lengths c_weight c_weightBefore c_items x4 x5 y6_5
def M_findLengths_276 (F : Nat) (k_303 : (Nat → Int32) → (Nat → Int32) → (Nat → Int32) → (Nat → Int32) → (Nat → Int32) → Int32 → Int32 → Int32 → Option (Unit × (Nat → Int32) × (Nat → Int32) × (Nat → Int32) × (Nat → Int32) × (Nat → Int32))) (k_276 : (Nat → Int32) → (Nat → Int32) → (Nat → Int32) → (Nat → Int32) → (Nat → Int32) → Int32 → Int32 → Int32 → Int32 → Option (Unit × (Nat → Int32) × (Nat → Int32) × (Nat → Int32) × (Nat → Int32) × (Nat → Int32))) (c_ranked : Nat → Int32) (c_lengths : Nat → Int32) (c_weight : Nat → Int32) (c_weightBefore : Nat → Int32) (c_items : Nat → Int32) (x4 : Int32) (x5 : Int32) (x6 : Int32) (x10 : Int32) : Option (Unit × (Nat → Int32) × (Nat → Int32) × (Nat → Int32) × (Nat → Int32) × (Nat → Int32)) :=
  mC (x5 ≤ x10) (k_303 c_ranked c_lengths c_weight c_weightBefore c_items x4 x5 x6) (mG x10 600 (mL (c_weight x10.toNatClampNeg) fun v_6 => mG x10 600 (mL (upd c_weightBefore x10.toNatClampNeg v_6) fun c_7 => mL (x10 + 1) fun y10_8 => k_276 c_ranked c_lengths c_weight c_7 c_items x4 x5 x6 y10_8)))
def M_findLengths_273 (F : Nat) (k_59 : (Nat → Int32) → (Nat → Int32) → (Nat → Int32) → (Nat → Int32) → (Nat → Int32) → Int32 → Int32 → Int32 → Option (Unit × (Nat → Int32) × (Nat → Int32) × (Nat → Int32) × (Nat → Int32) × (Nat → Int32))) (c_ranked : Nat → Int32) (c_lengths : Nat → Int32) (c_weight : Nat → Int32) (c_weightBefore : Nat → Int32) (c_items : Nat → Int32) (x4 : Int32) (x5 : Int32) (x6 : Int32) : Option (Unit × (Nat → Int32) × (Nat → Int32) × (Nat → Int32) × (Nat → Int32) × (Nat → Int32)) :=
  (mW9 (M_findLengths_276 F (M_findLengths_303 F k_59)) F) c_ranked c_lengths c_weight c_weightBefore c_items x4 x5 x6 0
def M_findLengths_265 (F : Nat) (k_86 : (Nat → Int32) → (Nat → Int32) → (Nat → Int32) → (Nat → Int32) → (Nat → Int32) → Int32 → Int32 → Int32 → Int32 → Int32 → Int32 → Option (Unit × (Nat → Int32) × (Nat → Int32) × (Nat → Int32) × (Nat → Int32) × (Nat → Int32))) (c_ranked : Nat → Int32) (c_lengths : Nat → Int32) (c_weight : Nat → Int32) (c_weightBefore : Nat → Int32) (c_items : Nat → Int32) (x4 : Int32) (x5 : Int32) (x6 : Int32) (x7 : Int32) (x8 : Int32) (s0 : Int32) : Option (Unit × (Nat → Int32) × (Nat → Int32) × (Nat → Int32) × (Nat → Int32) × (Nat → Int32)) :=
  mL (x5 + 1) fun y5_9 => k_86 c_ranked c_lengths c_weight c_weightBefore c_items x4 y5_9 x6 x7 x8 s0
def M_findLengths_249 (F : Nat) (k_86 : (Nat → Int32) → (Nat → Int32) → (Nat → Int32) → (Nat → Int32) → (Nat → Int32) → Int32 → Int32 → Int32 → Int32 → Int32 → Int32 → Option (Unit × (Nat → Int32) × (Nat → Int32) × (Nat → Int32) × (Nat → Int32) × (Nat → Int32))) (c_ranked : Nat → Int32) (c_lengths : Nat → Int32) (c_weight : Nat → Int32) (c_weightBefore : Nat → Int32) (c_items : Nat → Int32) (x4 : Int32) (x5 : Int32) (x6 : Int32) (x7 : Int32) (x9 : Int32) (x11 : Int32) (s0 : Int32) : Option (Unit × (Nat → Int32) × (Nat → Int32) × (Nat → Int32) × (Nat → Int32) × (Nat → Int32)) :=
  mC (x11 = 0) ((M_findLengths_265 F k_86) c_ranked c_lengths c_weight c_weightBefore c_items x4 x5 x6 x7 s0 (x9 + 1)) ((M_findLengths_265 F k_86) c_ranked c_lengths c_weight c_weightBefore c_items x4 x5 x6 x7 s0 x9)
def M_findLengths_234 (F : Nat) (k_86 : (Nat → Int32) → (Nat → Int32) → (Nat → Int32) → (Nat → Int32) → (Nat → Int32) → Int32 → Int32 → Int32 → Int32 → Int32 → Int32 → Option (Unit × (Nat → Int32) × (Nat → Int32) × (Nat → Int32) × (Nat → Int32) × (Nat → Int32))) (c_ranked : Nat → Int32) (c_lengths : Nat → Int32) (c_weight : Nat → Int32) (c_weightBefore : Nat → Int32) (c_items : Nat → Int32) (x4 : Int32) (x5 : Int32) (x6 : Int32) (x7 : Int32) (x8 : Int32) (x9 : Int32) (x11 : Int32) (s1 : Int32) (s2 : Int32) : Option (Unit × (Nat → Int32) × (Nat → Int32) × (Nat → Int32) × (Nat → Int32) × (Nat → Int32)) :=
  mG s1 9000 (mL (upd c_items s1.toNatClampNeg s2) fun c_10 => mC (x11 = 0) ((M_findLengths_249 F k_86) c_ranked c_lengths c_weight c_weightBefore c_10 x4 x5 x6 x7 x9 x11 x8) ((M_findLengths_249 F k_86) c_ranked c_lengths c_weight c_weightBefore c_10 x4 x5 x6 x7 x9 x11 (x8 + 1)))
def M_findLengths_204 (F : Nat) (k_86 : (Nat → Int32) → (Nat → Int32) → (Nat → Int32) → (Nat → Int32) → (Nat → Int32) → Int32 → Int32 → Int32 → Int32 → Int32 → Int32 → Option (Unit × (Nat → Int32) × (Nat → Int32) × (Nat → Int32) × (Nat → Int32) × (Nat → Int32))) (c_ranked : Nat → Int32) (c_lengths : Nat → Int32) (c_weight : Nat → Int32) (c_weightBefore : Nat → Int32) (c_items : Nat → Int32) (x4 : Int32) (x5 : Int32) (x6 : Int32) (x7 : Int32) (x8 : Int32) (x9 : Int32) (x11 : Int32) (s1 : Int32) (s2 : Int32) : Option (Unit × (Nat → Int32) × (Nat → Int32) × (Nat → Int32) × (Nat → Int32) × (Nat → Int32)) :=
  mG s1 600 (mL (upd c_weight s1.toNatClampNeg s2) fun c_11 => mC (x11 = 0) ((M_findLengths_234 F k_86) c_ranked c_lengths c_11 c_weightBefore c_items x4 x5 x6 x7 x8 x9 x11 ((600 * x6) + x5) ((-1) - (2 * x9))) ((M_findLengths_234 F k_86) c_ranked c_lengths c_11 c_weightBefore c_items x4 x5 x6 x7 x8 x9 x11 ((600 * x6) + x5) x8))
def M_findLengths_172 (F : Nat) (c_counts : Nat → Int32) (x1 : Int32) (k_86 : (Nat → Int32) → (Nat → Int32) → (Nat → Int32) → (Nat → Int32) → (Nat → Int32) → Int32 → Int32 → Int32 → Int32 → Int32 → Int32 → Option (Unit × (Nat → Int32) × (Nat → Int32) × (Nat → Int32) × (Nat → Int32) × (Nat → Int32))) (c_ranked : Nat → Int32) (c_lengths : Nat → Int32) (c_weight : Nat → Int32) (c_weightBefore : Nat → Int32) (c_items : Nat → Int32) (x4 : Int32) (x5 : Int32) (x6 : Int32) (x7 : Int32) (x8 : Int32) (x9 : Int32) (x10 : Int32) (s0 : Int32) : Option (Unit × (Nat → Int32) × (Nat → Int32) × (Nat → Int32) × (Nat → Int32) × (Nat → Int32)) :=
  mC (s0 = 0) ((M_findLengths_204 F k_86) c_ranked c_lengths c_weight c_weightBefore c_items x4 x5 x6 x7 x8 x9 s0 x5 x10) (mG x8 288 (mL (x1 + (c_ranked x8.toNatClampNeg)) fun i_12 => mG i_12 339 ((M_findLengths_204 F k_86) c_ranked c_lengths c_weight c_weightBefore c_items x4 x5 x6 x7 x8 x9 s0 x5 (c_counts i_12.toNatClampNeg))))
def M_findLengths_167 (F : Nat) (c_counts : Nat → Int32) (x1 : Int32) (k_86 : (Nat → Int32) → (Nat → Int32) → (Nat → Int32) → (Nat → Int32) → (Nat → Int32) → Int32 → Int32 → Int32 → Int32 → Int32 → Int32 → Option (Unit × (Nat → Int32) × (Nat → Int32) × (Nat → Int32) × (Nat → Int32) × (Nat → Int32))) (c_ranked : Nat → Int32) (c_lengths : Nat → Int32) (c_weight : Nat → Int32) (c_weightBefore : Nat → Int32) (c_items : Nat → Int32) (x4 : Int32) (x5 : Int32) (x6 : Int32) (x7 : Int32) (x8 : Int32) (x9 : Int32) (x10 : Int32) : Option (Unit × (Nat → Int32) × (Nat → Int32) × (Nat → Int32) × (Nat → Int32) × (Nat → Int32)) :=
  (M_findLengths_172 F c_counts x1 k_86) c_ranked c_lengths c_weight c_weightBefore c_items x4 x5 x6 x7 x8 x9 x10 1
def M_findLengths_171 (F : Nat) (c_counts : Nat → Int32) (x1 : Int32) (k_86 : (Nat → Int32) → (Nat → Int32) → (Nat → Int32) → (Nat → Int32) → (Nat → Int32) → Int32 → Int32 → Int32 → Int32 → Int32 → Int32 → Option (Unit × (Nat → Int32) × (Nat → Int32) × (Nat → Int32) × (Nat → Int32) × (Nat → Int32))) (c_ranked : Nat → Int32) (c_lengths : Nat → Int32) (c_weight : Nat → Int32) (c_weightBefore : Nat → Int32) (c_items : Nat → Int32) (x4 : Int32) (x5 : Int32) (x6 : Int32) (x7 : Int32) (x8 : Int32) (x9 : Int32) (x10 : Int32) : Option (Unit × (Nat → Int32) × (Nat → Int32) × (Nat → Int32) × (Nat → Int32) × (Nat → Int32)) :=
  (M_findLengths_172 F c_counts x1 k_86) c_ranked c_lengths c_weight c_weightBefore c_items x4 x5 x6 x7 x8 x9 x10 0
def M_findLengths_132 (F : Nat) (c_counts : Nat → Int32) (x1 : Int32) (k_86 : (Nat → Int32) → (Nat → Int32) → (Nat → Int32) → (Nat → Int32) → (Nat → Int32) → Int32 → Int32 → Int32 → Int32 → Int32 → Int32 → Option (Unit × (Nat → Int32) × (Nat → Int32) × (Nat → Int32) × (Nat → Int32) × (Nat → Int32))) (c_ranked : Nat → Int32) (c_lengths : Nat → Int32) (c_weight : Nat → Int32) (c_weightBefore : Nat → Int32) (c_items : Nat → Int32) (x4 : Int32) (x5 : Int32) (x6 : Int32) (x7 : Int32) (x8 : Int32) (x9 : Int32) (s0 : Int32) : Option (Unit × (Nat → Int32) × (Nat → Int32) × (Nat → Int32) × (Nat → Int32) × (Nat → Int32)) :=
  mC (x9 = x7) ((M_findLengths_167 F c_counts x1 k_86) c_ranked c_lengths c_weight c_weightBefore c_items x4 x5 x6 x7 x8 x9 s0) (mC (x4 ≤ x8) ((M_findLengths_171 F c_counts x1 k_86) c_ranked c_lengths c_weight c_weightBefore c_items x4 x5 x6 x7 x8 x9 s0) (mG x8 288 (mL (x1 + (c_ranked x8.toNatClampNeg)) fun i_13 => mG i_13 339 (mC (s0 < (c_counts i_13.toNatClampNeg)) ((M_findLengths_171 F c_counts x1 k_86) c_ranked c_lengths c_weight c_weightBefore c_items x4 x5 x6 x7 x8 x9 s0) ((M_findLengths_167 F c_counts x1 k_86) c_ranked c_lengths c_weight c_weightBefore c_items x4 x5 x6 x7 x8 x9 s0)))))
def M_findLengths_100 (F : Nat) (c_counts : Nat → Int32) (x1 : Int32) (k_86 : (Nat → Int32) → (Nat → Int32) → (Nat → Int32) → (Nat → Int32) → (Nat → Int32) → Int32 → Int32 → Int32 → Int32 → Int32 → Int32 → Option (Unit × (Nat → Int32) × (Nat → Int32) × (Nat → Int32) × (Nat → Int32) × (Nat → Int32))) (c_ranked : Nat → Int32) (c_lengths : Nat → Int32) (c_weight : Nat → Int32) (c_weightBefore : Nat → Int32) (c_items : Nat → Int32) (x4 : Int32) (x5 : Int32) (x6 : Int32) (x7 : Int32) (x8 : Int32) (x9 : Int32) : Option (Unit × (Nat → Int32) × (Nat → Int32) × (Nat → Int32) × (Nat → Int32) × (Nat → Int32)) :=
  mC (x7 ≤ x9) ((M_findLengths_132 F c_counts x1 k_86) c_ranked c_lengths c_weight c_weightBefore c_items x4 x5 x6 x7 x8 x9 0) (mL (2 * x9) fun i_14 => mG i_14 600 (mL ((2 * x9) + 1) fun i_15 => mG i_15 600 ((M_findLengths_132 F c_counts x1 k_86) c_ranked c_lengths c_weight c_weightBefore c_items x4 x5 x6 x7 x8 x9 ((c_weightBefore i_14.toNatClampNeg) + (c_weightBefore i_15.toNatClampNeg)))))
def M_findLengths_86 (F : Nat) (c_counts : Nat → Int32) (x1 : Int32) (k_273 : (Nat → Int32) → (Nat → Int32) → (Nat → Int32) → (Nat → Int32) → (Nat → Int32) → Int32 → Int32 → Int32 → Option (Unit × (Nat → Int32) × (Nat → Int32) × (Nat → Int32) × (Nat → Int32) × (Nat → Int32))) (k_86 : (Nat → Int32) → (Nat → Int32) → (Nat → Int32) → (Nat → Int32) → (Nat → Int32) → Int32 → Int32 → Int32 → Int32 → Int32 → Int32 → Option (Unit × (Nat → Int32) × (Nat → Int32) × (Nat → Int32) × (Nat → Int32) × (Nat → Int32))) (c_ranked : Nat → Int32) (c_lengths : Nat → Int32) (c_weight : Nat → Int32) (c_weightBefore : Nat → Int32) (c_items : Nat → Int32) (x4 : Int32) (x5 : Int32) (x6 : Int32) (x7 : Int32) (x8 : Int32) (x9 : Int32) : Option (Unit × (Nat → Int32) × (Nat → Int32) × (Nat → Int32) × (Nat → Int32) × (Nat → Int32)) :=
  mC (x8 < x4) ((M_findLengths_100 F c_counts x1 k_86) c_ranked c_lengths c_weight c_weightBefore c_items x4 x5 x6 x7 x8 x9) (mC (x7 ≤ x9) (k_273 c_ranked c_lengths c_weight c_weightBefore c_items x4 x5 x6) ((M_findLengths_100 F c_counts x1 k_86) c_ranked c_lengths c_weight c_weightBefore c_items x4 x5 x6 x7 x8 x9))
def M_findLengths_59 (F : Nat) (c_counts : Nat → Int32) (x1 : Int32) (x3 : Int32) (k_309 : (Nat → Int32) → (Nat → Int32) → (Nat → Int32) → (Nat → Int32) → (Nat → Int32) → Int32 → Option (Unit × (Nat → Int32) × (Nat → Int32) × (Nat → Int32) × (Nat → Int32) × (Nat → Int32))) (k_59 : (Nat → Int32) → (Nat → Int32) → (Nat → Int32) → (Nat → Int32) → (Nat → Int32) → Int32 → Int32 → Int32 → Option (Unit × (Nat → Int32) × (Nat → Int32) × (Nat → Int32) × (Nat → Int32) × (Nat → Int32))) (c_ranked : Nat → Int32) (c_lengths : Nat → Int32) (c_weight : Nat → Int32) (c_weightBefore : Nat → Int32) (c_items : Nat → Int32) (x4 : Int32) (x5 : Int32) (x6 : Int32) : Option (Unit × (Nat → Int32) × (Nat → Int32) × (Nat → Int32) × (Nat → Int32) × (Nat → Int32)) :=
  mC (x3 ≤ x6) (k_309 c_ranked c_lengths c_weight c_weightBefore c_items x4) (mC (x4 ≤ 1) (k_309 c_ranked c_lengths c_weight c_weightBefore c_items x4) (mL (x5 / 2) fun y7_16 => (mW11 (M_findLengths_86 F c_counts x1 (M_findLengths_273 F k_59)) F) c_ranked c_lengths c_weight c_weightBefore c_items x4 0 x6 y7_16 0 0))
def M_findLengths_53 (F : Nat) (c_counts : Nat → Int32) (x1 : Int32) (x3 : Int32) (c_ranked : Nat → Int32) (c_lengths : Nat → Int32) (c_weight : Nat → Int32) (c_weightBefore : Nat → Int32) (c_items : Nat → Int32) (x4 : Int32) : Option (Unit × (Nat → Int32) × (Nat → Int32) × (Nat → Int32) × (Nat → Int32) × (Nat → Int32)) :=
  (mW8 (M_findLengths_59 F c_counts x1 x3 (M_findLengths_309 F x1 x3)) F) c_ranked c_lengths c_weight c_weightBefore c_items x4 0 0
def M_findLengths_33 (F : Nat) (c_counts : Nat → Int32) (x1 : Int32) (x3 : Int32) (c_ranked : Nat → Int32) (c_lengths : Nat → Int32) (c_weight : Nat → Int32) (c_weightBefore : Nat → Int32) (c_items : Nat → Int32) (x4 : Int32) : Option (Unit × (Nat → Int32) × (Nat → Int32) × (Nat → Int32) × (Nat → Int32) × (Nat → Int32)) :=
  mC (x4 = 1) (mG 0 288 (mL (x1 + (c_ranked (0 : Int32).toNatClampNeg)) fun t_17 => mG t_17 339 (mL (upd c_lengths t_17.toNatClampNeg 1) fun c_18 => (M_findLengths_53 F c_counts x1 x3) c_ranked c_18 c_weight c_weightBefore c_items x4))) ((M_findLengths_53 F c_counts x1 x3) c_ranked c_lengths c_weight c_weightBefore c_items x4)
def M_findLengths_11 (F : Nat) (x1 : Int32) (x2 : Int32) (k_33 : (Nat → Int32) → (Nat → Int32) → (Nat → Int32) → (Nat → Int32) → (Nat → Int32) → Int32 → Option (Unit × (Nat → Int32) × (Nat → Int32) × (Nat → Int32) × (Nat → Int32) × (Nat → Int32))) (k_11 : (Nat → Int32) → (Nat → Int32) → (Nat → Int32) → (Nat → Int32) → (Nat → Int32) → Int32 → Int32 → Option (Unit × (Nat → Int32) × (Nat → Int32) × (Nat → Int32) × (Nat → Int32) × (Nat → Int32))) (c_ranked : Nat → Int32) (c_lengths : Nat → Int32) (c_weight : Nat → Int32) (c_weightBefore : Nat → Int32) (c_items : Nat → Int32) (x4 : Int32) (x5 : Int32) : Option (Unit × (Nat → Int32) × (Nat → Int32) × (Nat → Int32) × (Nat → Int32) × (Nat → Int32)) :=
  mC (x2 ≤ x5) (k_33 c_ranked c_lengths c_weight c_weightBefore c_items x4) (mL (x1 + x5) fun t_19 => mG t_19 339 (mL (upd c_lengths t_19.toNatClampNeg 0) fun c_20 => mL (x5 + 1) fun y5_21 => k_11 c_ranked c_20 c_weight c_weightBefore c_items x4 y5_21))
abbrev M_findLengths_w (E : xE) (a_this : Nat) (a_counts : Nat) (a_ranked : Nat) (a_lengths : Nat) (a_weight : Nat) (a_weightBefore : Nat) (a_items : Nat) (x_row : Value) (x_starts : Value) (x_image : Value) (x_readRow : Value) (x_readStart : Value) (x_readAt : Value) (x_readMany : Value) (x_piece : Value) (x_packed : Value) (x_pairBefore : Value) (x_pairLast : Value) (x_tokenLength : Value) (x_tokenValue : Value) (x_fixed : Value) (x_lengthRow : Value) (x_step : Value) (x_stepMore : Value) (x_codes : Value) (x_symbolTree : Value) (x_distanceTree : Value) (x_smallTree : Value) (x_readLengths : Value) (x_source : Value) (x_target : Value) (c_counts : Nat → Int32) (c_ranked : Nat → Int32) (c_lengths : Nat → Int32) (c_weight : Nat → Int32) (c_weightBefore : Nat → Int32) (c_items : Nat → Int32) (v_plain : Int32) (v_closed : Int32) (v_rowSize : Int32) (v_pieces : Int32) (v_imageSize : Int32) (v_readSize : Int32) (v_readPieces : Int32) (v_packedBits : Int32) (v_tokens : Int32) (v_steps : Int32) (v_sourceFrom : Int32) (v_sourceBits : Int32) (v_readBits : Int32) (v_wrong : Int32) (v_made : Int32) (v_room : Int32) : va_W := [(a_this, .inr (12, [.int v_plain, .int v_closed, .int v_rowSize, x_row, .int v_pieces, x_starts, .int v_imageSize, x_image, .int v_readSize, x_readRow, .int v_readPieces, x_readStart, x_readAt, x_readMany, x_piece, x_packed, .int v_packedBits, x_pairBefore, x_pairLast, .int v_tokens, x_tokenLength, x_tokenValue, .ref a_counts, .ref a_lengths, x_fixed, .ref a_ranked, .ref a_weight, .ref a_weightBefore, .ref a_items, x_lengthRow, .int v_steps, x_step, x_stepMore, x_codes, x_symbolTree, x_distanceTree, x_smallTree, x_readLengths, x_source, .int v_sourceFrom, .int v_sourceBits, .int v_readBits, .int v_wrong, x_target, .int v_made, .int v_room])), (a_counts, .inl (E.2.1, 339, .inl c_counts)), (a_ranked, .inl (E.2.1, 288, .inl c_ranked)), (a_lengths, .inl (E.2.1, 339, .inl c_lengths)), (a_weight, .inl (E.2.1, 600, .inl c_weight)), (a_weightBefore, .inl (E.2.1, 600, .inl c_weightBefore)), (a_items, .inl (E.2.1, 9000, .inl c_items))]
def M_findLengths (F : Nat) (c_counts : Nat → Int32) (c_ranked : Nat → Int32) (c_lengths : Nat → Int32) (c_weight : Nat → Int32) (c_weightBefore : Nat → Int32) (c_items : Nat → Int32) (x1 : Int32) (x2 : Int32) (x3 : Int32) : Option (Unit × (Nat → Int32) × (Nat → Int32) × (Nat → Int32) × (Nat → Int32) × (Nat → Int32)) :=
  mR1 (M_rank F c_counts c_ranked x1 x2) fun r_23 c_ranked_22 => (mW7 (M_findLengths_11 F x1 x2 (M_findLengths_33 F c_counts x1 x3)) F) c_ranked_22 c_lengths c_weight c_weightBefore c_items r_23 0
abbrev M_findLengths_rm : Room := { frames := 17, cells := 0, slots := 0, locals := 408 }
set_option maxHeartbeats 4000000 in
set_option maxRecDepth 100000 in
theorem c_M_findLengths (l : Launch) (E : xE) (F sz : Nat) (a_this : Nat) (a_counts : Nat) (a_ranked : Nat) (a_lengths : Nat) (a_weight : Nat) (a_weightBefore : Nat) (a_items : Nat) (x_row : Value) (x_starts : Value) (x_image : Value) (x_readRow : Value) (x_readStart : Value) (x_readAt : Value) (x_readMany : Value) (x_piece : Value) (x_packed : Value) (x_pairBefore : Value) (x_pairLast : Value) (x_tokenLength : Value) (x_tokenValue : Value) (x_fixed : Value) (x_lengthRow : Value) (x_step : Value) (x_stepMore : Value) (x_codes : Value) (x_symbolTree : Value) (x_distanceTree : Value) (x_smallTree : Value) (x_readLengths : Value) (x_source : Value) (x_target : Value) (c_counts : Nat → Int32) (c_ranked : Nat → Int32) (c_lengths : Nat → Int32) (c_weight : Nat → Int32) (c_weightBefore : Nat → Int32) (c_items : Nat → Int32) (v_plain : Int32) (v_closed : Int32) (v_rowSize : Int32) (v_pieces : Int32) (v_imageSize : Int32) (v_readSize : Int32) (v_readPieces : Int32) (v_packedBits : Int32) (v_tokens : Int32) (v_steps : Int32) (v_sourceFrom : Int32) (v_sourceBits : Int32) (v_readBits : Int32) (v_wrong : Int32) (v_made : Int32) (v_room : Int32) (x1 : Int32) (x2 : Int32) (x3 : Int32) (res : Unit × (Nat → Int32) × (Nat → Int32) × (Nat → Int32) × (Nat → Int32) × (Nat → Int32)) (hm : M_findLengths F c_counts c_ranked c_lengths c_weight c_weightBefore c_items x1 x2 x3 = some res) : Met l y_M_findLengths (Cond.code y_M_findLengths b_M_findLengths 12 none :: x_tb) M_findLengths_rm (va_Pc [.ref a_this, .int x1, .int x2, .int x3] (xPre E (M_findLengths_w E a_this a_counts a_ranked a_lengths a_weight a_weightBefore a_items x_row x_starts x_image x_readRow x_readStart x_readAt x_readMany x_piece x_packed x_pairBefore x_pairLast x_tokenLength x_tokenValue x_fixed x_lengthRow x_step x_stepMore x_codes x_symbolTree x_distanceTree x_smallTree x_readLengths x_source x_target c_counts c_ranked c_lengths c_weight c_weightBefore c_items v_plain v_closed v_rowSize v_pieces v_imageSize v_readSize v_readPieces v_packedBits v_tokens v_steps v_sourceFrom v_sourceBits v_readBits v_wrong v_made v_room) sz)) (xQv E (fun (u : (Nat → Int32) × (Nat → Int32) × (Nat → Int32) × (Nat → Int32) × (Nat → Int32)) => u = res.2) (fun (u : (Nat → Int32) × (Nat → Int32) × (Nat → Int32) × (Nat → Int32) × (Nat → Int32)) => (M_findLengths_w E a_this a_counts a_ranked a_lengths a_weight a_weightBefore a_items x_row x_starts x_image x_readRow x_readStart x_readAt x_readMany x_piece x_packed x_pairBefore x_pairLast x_tokenLength x_tokenValue x_fixed x_lengthRow x_step x_stepMore x_codes x_symbolTree x_distanceTree x_smallTree x_readLengths x_source x_target c_counts u.1 u.2.1 u.2.2.1 u.2.2.2.1 u.2.2.2.2 v_plain v_closed v_rowSize v_pieces v_imageSize v_readSize v_readPieces v_packedBits v_tokens v_steps v_sourceFrom v_sourceBits v_readBits v_wrong v_made v_room)) (va_A (M_findLengths_w E a_this a_counts a_ranked a_lengths a_weight a_weightBefore a_items x_row x_starts x_image x_readRow x_readStart x_readAt x_readMany x_piece x_packed x_pairBefore x_pairLast x_tokenLength x_tokenValue x_fixed x_lengthRow x_step x_stepMore x_codes x_symbolTree x_distanceTree x_smallTree x_readLengths x_source x_target c_counts c_ranked c_lengths c_weight c_weightBefore c_items v_plain v_closed v_rowSize v_pieces v_imageSize v_readSize v_readPieces v_packedBits v_tokens v_steps v_sourceFrom v_sourceBits v_readBits v_wrong v_made v_room) sz)) 0 0 (va_A (M_findLengths_w E a_this a_counts a_ranked a_lengths a_weight a_weightBefore a_items x_row x_starts x_image x_readRow x_readStart x_readAt x_readMany x_piece x_packed x_pairBefore x_pairLast x_tokenLength x_tokenValue x_fixed x_lengthRow x_step x_stepMore x_codes x_symbolTree x_distanceTree x_smallTree x_readLengths x_source x_target c_counts c_ranked c_lengths c_weight c_weightBefore c_items v_plain v_closed v_rowSize v_pieces v_imageSize v_readSize v_readPieces v_packedBits v_tokens v_steps v_sourceFrom v_sourceBits v_readBits v_wrong v_made v_room) sz) := by
  refine xEnV (by decide) (Nat.le_of_ble_eq_true rfl) ?_
  intro p e s m args below meth c A ls Q hx hb hnm hts hown hml hK hA hI hN hret hP hD hS hl
  replace hown : s.vm.findClass R_M = some m.cls := hown
  replace hl : lv_has ls 12 [(0, .ref a_this), (1, .int x1), (2, .int x2), (3, .int x3)] := hl
  obtain ⟨H, eH⟩ : ∃ z, z = s.heap := ⟨_, rfl⟩
  obtain ⟨locs, eL⟩ : ∃ z : List Loc, z = [] := ⟨_, rfl⟩
  rw [show W p l e M_findLengths_rm s m args below meth c s.heap [] 0 0 Q (F0 m 0 ls []) = W p l e M_findLengths_rm s m args below meth c H locs 0 0 Q (F0 m 0 ls []) by rw [eH, eL]]
  replace hP : va_P E.1 vwCl (M_findLengths_w E a_this a_counts a_ranked a_lengths a_weight a_weightBefore a_items x_row x_starts x_image x_readRow x_readStart x_readAt x_readMany x_piece x_packed x_pairBefore x_pairLast x_tokenLength x_tokenValue x_fixed x_lengthRow x_step x_stepMore x_codes x_symbolTree x_distanceTree x_smallTree x_readLengths x_source x_target c_counts c_ranked c_lengths c_weight c_weightBefore c_items v_plain v_closed v_rowSize v_pieces v_imageSize v_readSize v_readPieces v_packedBits v_tokens v_steps v_sourceFrom v_sourceBits v_readBits v_wrong v_made v_room) H := by rw [eH]; exact hP
  replace hS : va_S A s.heap H locs := by rw [eH, eL]; exact hS
  clear eH eL
  rw [M_findLengths] at hm
  have h_33 : ∀ (c_ranked : Nat → Int32) (c_lengths : Nat → Int32) (c_weight : Nat → Int32) (c_weightBefore : Nat → Int32) (c_items : Nat → Int32) (x4 : Int32) (H : Heap) (locs : List Loc) (ls : Array Slot), (M_findLengths_33 F c_counts x1 x3) c_ranked c_lengths c_weight c_weightBefore c_items x4 = some res → va_P E.1 vwCl (M_findLengths_w E a_this a_counts a_ranked a_lengths a_weight a_weightBefore a_items x_row x_starts x_image x_readRow x_readStart x_readAt x_readMany x_piece x_packed x_pairBefore x_pairLast x_tokenLength x_tokenValue x_fixed x_lengthRow x_step x_stepMore x_codes x_symbolTree x_distanceTree x_smallTree x_readLengths x_source x_target c_counts c_ranked c_lengths c_weight c_weightBefore c_items v_plain v_closed v_rowSize v_pieces v_imageSize v_readSize v_readPieces v_packedBits v_tokens v_steps v_sourceFrom v_sourceBits v_readBits v_wrong v_made v_room) H → va_D A (M_findLengths_w E a_this a_counts a_ranked a_lengths a_weight a_weightBefore a_items x_row x_starts x_image x_readRow x_readStart x_readAt x_readMany x_piece x_packed x_pairBefore x_pairLast x_tokenLength x_tokenValue x_fixed x_lengthRow x_step x_stepMore x_codes x_symbolTree x_distanceTree x_smallTree x_readLengths x_source x_target c_counts c_ranked c_lengths c_weight c_weightBefore c_items v_plain v_closed v_rowSize v_pieces v_imageSize v_readSize v_readPieces v_packedBits v_tokens v_steps v_sourceFrom v_sourceBits v_readBits v_wrong v_made v_room) → va_S A s.heap H locs → lv_has ls 12 [(0, .ref a_this), (1, .int x1), (3, .int x3), (4, .int x4)] → W p l e M_findLengths_rm s m args below meth c H locs 0 0 Q (F0 m 33 ls []) := by
    intro c_ranked c_lengths c_weight c_weightBefore c_items x4 H locs ls hm hP hD hS hl
    rw [M_findLengths_33] at hm
    have h_53 : ∀ (c_ranked : Nat → Int32) (c_lengths : Nat → Int32) (c_weight : Nat → Int32) (c_weightBefore : Nat → Int32) (c_items : Nat → Int32) (x4 : Int32) (H : Heap) (locs : List Loc) (ls : Array Slot), (M_findLengths_53 F c_counts x1 x3) c_ranked c_lengths c_weight c_weightBefore c_items x4 = some res → va_P E.1 vwCl (M_findLengths_w E a_this a_counts a_ranked a_lengths a_weight a_weightBefore a_items x_row x_starts x_image x_readRow x_readStart x_readAt x_readMany x_piece x_packed x_pairBefore x_pairLast x_tokenLength x_tokenValue x_fixed x_lengthRow x_step x_stepMore x_codes x_symbolTree x_distanceTree x_smallTree x_readLengths x_source x_target c_counts c_ranked c_lengths c_weight c_weightBefore c_items v_plain v_closed v_rowSize v_pieces v_imageSize v_readSize v_readPieces v_packedBits v_tokens v_steps v_sourceFrom v_sourceBits v_readBits v_wrong v_made v_room) H → va_D A (M_findLengths_w E a_this a_counts a_ranked a_lengths a_weight a_weightBefore a_items x_row x_starts x_image x_readRow x_readStart x_readAt x_readMany x_piece x_packed x_pairBefore x_pairLast x_tokenLength x_tokenValue x_fixed x_lengthRow x_step x_stepMore x_codes x_symbolTree x_distanceTree x_smallTree x_readLengths x_source x_target c_counts c_ranked c_lengths c_weight c_weightBefore c_items v_plain v_closed v_rowSize v_pieces v_imageSize v_readSize v_readPieces v_packedBits v_tokens v_steps v_sourceFrom v_sourceBits v_readBits v_wrong v_made v_room) → va_S A s.heap H locs → lv_has ls 12 [(0, .ref a_this), (1, .int x1), (3, .int x3), (4, .int x4)] → W p l e M_findLengths_rm s m args below meth c H locs 0 0 Q (F0 m 53 ls []) := by
      intro c_ranked c_lengths c_weight c_weightBefore c_items x4 H locs ls hm hP hD hS hl
      rw [M_findLengths_53] at hm
      have h_309 : ∀ (c_ranked : Nat → Int32) (c_lengths : Nat → Int32) (c_weight : Nat → Int32) (c_weightBefore : Nat → Int32) (c_items : Nat → Int32) (x4 : Int32) (H : Heap) (locs : List Loc) (ls : Array Slot), (M_findLengths_309 F x1 x3) c_ranked c_lengths c_weight c_weightBefore c_items x4 = some res → va_P E.1 vwCl (M_findLengths_w E a_this a_counts a_ranked a_lengths a_weight a_weightBefore a_items x_row x_starts x_image x_readRow x_readStart x_readAt x_readMany x_piece x_packed x_pairBefore x_pairLast x_tokenLength x_tokenValue x_fixed x_lengthRow x_step x_stepMore x_codes x_symbolTree x_distanceTree x_smallTree x_readLengths x_source x_target c_counts c_ranked c_lengths c_weight c_weightBefore c_items v_plain v_closed v_rowSize v_pieces v_imageSize v_readSize v_readPieces v_packedBits v_tokens v_steps v_sourceFrom v_sourceBits v_readBits v_wrong v_made v_room) H → va_D A (M_findLengths_w E a_this a_counts a_ranked a_lengths a_weight a_weightBefore a_items x_row x_starts x_image x_readRow x_readStart x_readAt x_readMany x_piece x_packed x_pairBefore x_pairLast x_tokenLength x_tokenValue x_fixed x_lengthRow x_step x_stepMore x_codes x_symbolTree x_distanceTree x_smallTree x_readLengths x_source x_target c_counts c_ranked c_lengths c_weight c_weightBefore c_items v_plain v_closed v_rowSize v_pieces v_imageSize v_readSize v_readPieces v_packedBits v_tokens v_steps v_sourceFrom v_sourceBits v_readBits v_wrong v_made v_room) → va_S A s.heap H locs → lv_has ls 12 [(0, .ref a_this), (1, .int x1), (3, .int x3), (4, .int x4)] → W p l e M_findLengths_rm s m args below meth c H locs 0 0 Q (F0 m 309 ls []) := by
        intro c_ranked c_lengths c_weight c_weightBefore c_items x4 H locs ls hm hP hD hS hl
        rw [M_findLengths_309] at hm
        have h_312 : ∀ (n_312 : Nat) (c_ranked : Nat → Int32) (c_lengths : Nat → Int32) (c_weight : Nat → Int32) (c_weightBefore : Nat → Int32) (c_items : Nat → Int32) (x4 : Int32) (x6 : Int32) (H : Heap) (locs : List Loc) (ls : Array Slot), (mW7 (M_findLengths_312 F x1 x3) n_312) c_ranked c_lengths c_weight c_weightBefore c_items x4 x6 = some res → va_P E.1 vwCl (M_findLengths_w E a_this a_counts a_ranked a_lengths a_weight a_weightBefore a_items x_row x_starts x_image x_readRow x_readStart x_readAt x_readMany x_piece x_packed x_pairBefore x_pairLast x_tokenLength x_tokenValue x_fixed x_lengthRow x_step x_stepMore x_codes x_symbolTree x_distanceTree x_smallTree x_readLengths x_source x_target c_counts c_ranked c_lengths c_weight c_weightBefore c_items v_plain v_closed v_rowSize v_pieces v_imageSize v_readSize v_readPieces v_packedBits v_tokens v_steps v_sourceFrom v_sourceBits v_readBits v_wrong v_made v_room) H → va_D A (M_findLengths_w E a_this a_counts a_ranked a_lengths a_weight a_weightBefore a_items x_row x_starts x_image x_readRow x_readStart x_readAt x_readMany x_piece x_packed x_pairBefore x_pairLast x_tokenLength x_tokenValue x_fixed x_lengthRow x_step x_stepMore x_codes x_symbolTree x_distanceTree x_smallTree x_readLengths x_source x_target c_counts c_ranked c_lengths c_weight c_weightBefore c_items v_plain v_closed v_rowSize v_pieces v_imageSize v_readSize v_readPieces v_packedBits v_tokens v_steps v_sourceFrom v_sourceBits v_readBits v_wrong v_made v_room) → va_S A s.heap H locs → lv_has ls 12 [(0, .ref a_this), (1, .int x1), (3, .int x3), (4, .int x4), (6, .int x6)] → W p l e M_findLengths_rm s m args below meth c H locs 0 0 Q (F0 m 312 ls []) := by
          intro n_312
          induction n_312 with
          | zero => exact fun _ _ _ _ _ _ _ _ _ _ hm _ _ _ _ => (mW7_z hm).elim
          | succ n_312 ih_312 =>
            intro c_ranked c_lengths c_weight c_weightBefore c_items x4 x6 H locs ls hm hP hD hS hl
            replace hm := mW7_s hm
            rw [M_findLengths_312] at hm
            refine lv_iload hx hb d_M_findLengths_312 (lv_at hl 4 rfl) ?_
            refine lv_iconst (v := 2) hx hb d_M_findLengths_314 (by decide) ?_
            refine lv_iload hx hb d_M_findLengths_315 (lv_at hl 3 rfl) ?_
            refine lv_imul hx hb d_M_findLengths_317 ?_
            refine lv_iconst (v := 2) hx hb d_M_findLengths_318 (by decide) ?_
            refine lv_isub hx hb d_M_findLengths_319 ?_
            refine lv_icmp_ge (tgt := 345) hx hb d_M_findLengths_320 (by decide) (fun c320 => ?_) (fun c320 => ?_)
            · replace hm := mC_t hm c320
              replace hm := Option.some.inj hm
              subst hm
              exact hret d_M_findLengths_345 (u := (c_ranked, c_lengths, c_weight, c_weightBefore, c_items)) rfl hP hD hS
            · replace hm := mC_f hm c320
              refine lv_iload hx hb d_M_findLengths_323 (lv_at hl 3 rfl) ?_
              refine lv_iconst (v := 1) hx hb d_M_findLengths_325 (by decide) ?_
              refine lv_icmp_le (tgt := 345) hx hb d_M_findLengths_326 (by decide) (fun c326 => ?_) (fun c326 => ?_)
              · replace hm := mC_t hm c326
                replace hm := Option.some.inj hm
                subst hm
                exact hret d_M_findLengths_345 (u := (c_ranked, c_lengths, c_weight, c_weightBefore, c_items)) rfl hP hD hS
              · replace hm := mC_f hm c326
                refine lv_aload_n hx hb d_M_findLengths_329 rfl (lv_at hl 0 rfl) ?_
                refine lv_iload_n hx hb d_M_findLengths_330 rfl (lv_at hl 1 rfl) ?_
                refine lv_iload_n hx hb d_M_findLengths_331 rfl (lv_at hl 2 rfl) ?_
                refine lv_iconst (v := 1) hx hb d_M_findLengths_332 (by decide) ?_
                refine lv_isub hx hb d_M_findLengths_333 ?_
                refine lv_iload hx hb d_M_findLengths_334 (lv_at hl 4 rfl) ?_
                obtain ⟨t_1, et_1⟩ : ∃ z : Int32, z = x3 - 1 := ⟨_, rfl⟩
                rw [← et_1]
                replace hm := mL_e hm t_1 et_1
                obtain ⟨r_3, c_lengths_2, hc336, hm⟩ := mR1_e hm
                refine xmv (wc := (M_takeItem_w E a_this a_items a_ranked a_lengths x_row x_starts x_image x_readRow x_readStart x_readAt x_readMany x_piece x_packed x_pairBefore x_pairLast x_tokenLength x_tokenValue (.ref a_counts) x_fixed (.ref a_weight) (.ref a_weightBefore) x_lengthRow x_step x_stepMore x_codes x_symbolTree x_distanceTree x_smallTree x_readLengths x_source x_target c_items c_ranked c_lengths v_plain v_closed v_rowSize v_pieces v_imageSize v_readSize v_readPieces v_packedBits v_tokens v_steps v_sourceFrom v_sourceBits v_readBits v_wrong v_made v_room)) [true, false, true, true, false, false, true] [0, 3, 1, 2] [0, 2, 3, 1] hP hD hS hA rfl (by decide) (by decide) 4 (by decide) (fun _ => rfl) (fun hPc hDc hFc => va_runV (As := [.int x1, .int t_1, .int x6]) (rest := []) ⟨hx, hb, hml, hown, hts⟩ (c_M_takeItem l E F H.size a_this a_items a_ranked a_lengths x_row x_starts x_image x_readRow x_readStart x_readAt x_readMany x_piece x_packed x_pairBefore x_pairLast x_tokenLength x_tokenValue (.ref a_counts) x_fixed (.ref a_weight) (.ref a_weightBefore) x_lengthRow x_step x_stepMore x_codes x_symbolTree x_distanceTree x_smallTree x_readLengths x_source x_target c_items c_ranked c_lengths v_plain v_closed v_rowSize v_pieces v_imageSize v_readSize v_readPieces v_packedBits v_tokens v_steps v_sourceFrom v_sourceBits v_readBits v_wrong v_made v_room x1 t_1 x6 (r_3, c_lengths_2) hc336) (cwV 3 hts (x_gV tw_1005 tw_1007 tw_41 tw_79 tw_1008) rfl rfl rfl (by decide +kernel) ⟨Nat.le_of_ble_eq_true rfl, Nat.le_of_ble_eq_true rfl⟩) (xPV 12 0 rfl rfl hPc hDc hFc hK hI hN hS) rfl rfl hl.1 rfl (lv_room (Nat.le_of_ble_eq_true rfl)) d_M_findLengths_336 ⟨Nat.le_of_ble_eq_true rfl, Nat.le_of_ble_eq_true rfl⟩) (fun u9 H locs hw hP hD hS => ?_)
                have hw2 : c_lengths_2 = u9 := hw.symm
                subst hw2
                replace hP : va_P E.1 vwCl (M_findLengths_w E a_this a_counts a_ranked a_lengths a_weight a_weightBefore a_items x_row x_starts x_image x_readRow x_readStart x_readAt x_readMany x_piece x_packed x_pairBefore x_pairLast x_tokenLength x_tokenValue x_fixed x_lengthRow x_step x_stepMore x_codes x_symbolTree x_distanceTree x_smallTree x_readLengths x_source x_target c_counts c_ranked c_lengths_2 c_weight c_weightBefore c_items v_plain v_closed v_rowSize v_pieces v_imageSize v_readSize v_readPieces v_packedBits v_tokens v_steps v_sourceFrom v_sourceBits v_readBits v_wrong v_made v_room) H := hP
                replace hD : va_D A (M_findLengths_w E a_this a_counts a_ranked a_lengths a_weight a_weightBefore a_items x_row x_starts x_image x_readRow x_readStart x_readAt x_readMany x_piece x_packed x_pairBefore x_pairLast x_tokenLength x_tokenValue x_fixed x_lengthRow x_step x_stepMore x_codes x_symbolTree x_distanceTree x_smallTree x_readLengths x_source x_target c_counts c_ranked c_lengths_2 c_weight c_weightBefore c_items v_plain v_closed v_rowSize v_pieces v_imageSize v_readSize v_readPieces v_packedBits v_tokens v_steps v_sourceFrom v_sourceBits v_readBits v_wrong v_made v_room) := hD
                obtain ⟨y6_4, ey6_4⟩ : ∃ y : Int32, y = x6 + 1 := ⟨_, rfl⟩
                replace hm := mL_e hm y6_4 ey6_4
                refine lv_iinc (v := y6_4) (lv' := [(6, .int y6_4), (0, .ref a_this), (1, .int x1), (3, .int x3), (4, .int x4)]) hx hb d_M_findLengths_339 hl (k := 4) rfl (by rw [ey6_4]; rfl) (by decide) rfl (fun ls hl => ?_)
                refine lv_goto (tgt := 312) hx hb d_M_findLengths_342 (by decide) ?_
                exact ih_312 _ _ _ _ _ _ _ H locs ls hm hP hD hS (lv_sub hl [1, 2, 3, 4, 0] rfl)
        refine lv_iconst (v := 0) hx hb d_M_findLengths_309 (by decide) ?_
        refine lv_istore (lv' := [(6, .int 0), (0, .ref a_this), (1, .int x1), (3, .int x3), (4, .int x4)]) hx hb d_M_findLengths_310 hl (by decide) rfl (fun ls hl => ?_)
        exact h_312 F _ _ _ _ _ _ _ H locs ls hm hP hD hS (lv_sub hl [1, 2, 3, 4, 0] rfl)
      have h_59 : ∀ (n_59 : Nat) (c_ranked : Nat → Int32) (c_lengths : Nat → Int32) (c_weight : Nat → Int32) (c_weightBefore : Nat → Int32) (c_items : Nat → Int32) (x4 : Int32) (x5 : Int32) (x6 : Int32) (H : Heap) (locs : List Loc) (ls : Array Slot), (mW8 (M_findLengths_59 F c_counts x1 x3 (M_findLengths_309 F x1 x3)) n_59) c_ranked c_lengths c_weight c_weightBefore c_items x4 x5 x6 = some res → va_P E.1 vwCl (M_findLengths_w E a_this a_counts a_ranked a_lengths a_weight a_weightBefore a_items x_row x_starts x_image x_readRow x_readStart x_readAt x_readMany x_piece x_packed x_pairBefore x_pairLast x_tokenLength x_tokenValue x_fixed x_lengthRow x_step x_stepMore x_codes x_symbolTree x_distanceTree x_smallTree x_readLengths x_source x_target c_counts c_ranked c_lengths c_weight c_weightBefore c_items v_plain v_closed v_rowSize v_pieces v_imageSize v_readSize v_readPieces v_packedBits v_tokens v_steps v_sourceFrom v_sourceBits v_readBits v_wrong v_made v_room) H → va_D A (M_findLengths_w E a_this a_counts a_ranked a_lengths a_weight a_weightBefore a_items x_row x_starts x_image x_readRow x_readStart x_readAt x_readMany x_piece x_packed x_pairBefore x_pairLast x_tokenLength x_tokenValue x_fixed x_lengthRow x_step x_stepMore x_codes x_symbolTree x_distanceTree x_smallTree x_readLengths x_source x_target c_counts c_ranked c_lengths c_weight c_weightBefore c_items v_plain v_closed v_rowSize v_pieces v_imageSize v_readSize v_readPieces v_packedBits v_tokens v_steps v_sourceFrom v_sourceBits v_readBits v_wrong v_made v_room) → va_S A s.heap H locs → lv_has ls 12 [(0, .ref a_this), (1, .int x1), (3, .int x3), (4, .int x4), (5, .int x5), (6, .int x6)] → W p l e M_findLengths_rm s m args below meth c H locs 0 0 Q (F0 m 59 ls []) := by
        intro n_59
        induction n_59 with
        | zero => exact fun _ _ _ _ _ _ _ _ _ _ _ hm _ _ _ _ => (mW8_z hm).elim
        | succ n_59 ih_59 =>
          intro c_ranked c_lengths c_weight c_weightBefore c_items x4 x5 x6 H locs ls hm hP hD hS hl
          replace hm := mW8_s hm
          rw [M_findLengths_59] at hm
          refine lv_iload hx hb d_M_findLengths_59 (lv_at hl 5 rfl) ?_
          refine lv_iload_n hx hb d_M_findLengths_61 rfl (lv_at hl 2 rfl) ?_
          refine lv_icmp_ge (tgt := 309) hx hb d_M_findLengths_62 (by decide) (fun c62 => ?_) (fun c62 => ?_)
          · replace hm := mC_t hm c62
            exact h_309 _ _ _ _ _ _ H locs ls hm hP hD hS (lv_sub hl [0, 1, 2, 3] rfl)
          · replace hm := mC_f hm c62
            refine lv_iload hx hb d_M_findLengths_65 (lv_at hl 3 rfl) ?_
            refine lv_iconst (v := 1) hx hb d_M_findLengths_67 (by decide) ?_
            refine lv_icmp_le (tgt := 309) hx hb d_M_findLengths_68 (by decide) (fun c68 => ?_) (fun c68 => ?_)
            · replace hm := mC_t hm c68
              exact h_309 _ _ _ _ _ _ H locs ls hm hP hD hS (lv_sub hl [0, 1, 2, 3] rfl)
            · replace hm := mC_f hm c68
              have h_273 : ∀ (c_ranked : Nat → Int32) (c_lengths : Nat → Int32) (c_weight : Nat → Int32) (c_weightBefore : Nat → Int32) (c_items : Nat → Int32) (x4 : Int32) (x5 : Int32) (x6 : Int32) (H : Heap) (locs : List Loc) (ls : Array Slot), (M_findLengths_273 F (mW8 (M_findLengths_59 F c_counts x1 x3 (M_findLengths_309 F x1 x3)) n_59)) c_ranked c_lengths c_weight c_weightBefore c_items x4 x5 x6 = some res → va_P E.1 vwCl (M_findLengths_w E a_this a_counts a_ranked a_lengths a_weight a_weightBefore a_items x_row x_starts x_image x_readRow x_readStart x_readAt x_readMany x_piece x_packed x_pairBefore x_pairLast x_tokenLength x_tokenValue x_fixed x_lengthRow x_step x_stepMore x_codes x_symbolTree x_distanceTree x_smallTree x_readLengths x_source x_target c_counts c_ranked c_lengths c_weight c_weightBefore c_items v_plain v_closed v_rowSize v_pieces v_imageSize v_readSize v_readPieces v_packedBits v_tokens v_steps v_sourceFrom v_sourceBits v_readBits v_wrong v_made v_room) H → va_D A (M_findLengths_w E a_this a_counts a_ranked a_lengths a_weight a_weightBefore a_items x_row x_starts x_image x_readRow x_readStart x_readAt x_readMany x_piece x_packed x_pairBefore x_pairLast x_tokenLength x_tokenValue x_fixed x_lengthRow x_step x_stepMore x_codes x_symbolTree x_distanceTree x_smallTree x_readLengths x_source x_target c_counts c_ranked c_lengths c_weight c_weightBefore c_items v_plain v_closed v_rowSize v_pieces v_imageSize v_readSize v_readPieces v_packedBits v_tokens v_steps v_sourceFrom v_sourceBits v_readBits v_wrong v_made v_room) → va_S A s.heap H locs → lv_has ls 12 [(0, .ref a_this), (1, .int x1), (3, .int x3), (4, .int x4), (5, .int x5), (6, .int x6)] → W p l e M_findLengths_rm s m args below meth c H locs 0 0 Q (F0 m 273 ls []) := by
                intro c_ranked c_lengths c_weight c_weightBefore c_items x4 x5 x6 H locs ls hm hP hD hS hl
                rw [M_findLengths_273] at hm
                have h_303 : ∀ (c_ranked : Nat → Int32) (c_lengths : Nat → Int32) (c_weight : Nat → Int32) (c_weightBefore : Nat → Int32) (c_items : Nat → Int32) (x4 : Int32) (x5 : Int32) (x6 : Int32) (H : Heap) (locs : List Loc) (ls : Array Slot), (M_findLengths_303 F (mW8 (M_findLengths_59 F c_counts x1 x3 (M_findLengths_309 F x1 x3)) n_59)) c_ranked c_lengths c_weight c_weightBefore c_items x4 x5 x6 = some res → va_P E.1 vwCl (M_findLengths_w E a_this a_counts a_ranked a_lengths a_weight a_weightBefore a_items x_row x_starts x_image x_readRow x_readStart x_readAt x_readMany x_piece x_packed x_pairBefore x_pairLast x_tokenLength x_tokenValue x_fixed x_lengthRow x_step x_stepMore x_codes x_symbolTree x_distanceTree x_smallTree x_readLengths x_source x_target c_counts c_ranked c_lengths c_weight c_weightBefore c_items v_plain v_closed v_rowSize v_pieces v_imageSize v_readSize v_readPieces v_packedBits v_tokens v_steps v_sourceFrom v_sourceBits v_readBits v_wrong v_made v_room) H → va_D A (M_findLengths_w E a_this a_counts a_ranked a_lengths a_weight a_weightBefore a_items x_row x_starts x_image x_readRow x_readStart x_readAt x_readMany x_piece x_packed x_pairBefore x_pairLast x_tokenLength x_tokenValue x_fixed x_lengthRow x_step x_stepMore x_codes x_symbolTree x_distanceTree x_smallTree x_readLengths x_source x_target c_counts c_ranked c_lengths c_weight c_weightBefore c_items v_plain v_closed v_rowSize v_pieces v_imageSize v_readSize v_readPieces v_packedBits v_tokens v_steps v_sourceFrom v_sourceBits v_readBits v_wrong v_made v_room) → va_S A s.heap H locs → lv_has ls 12 [(0, .ref a_this), (1, .int x1), (3, .int x3), (4, .int x4), (5, .int x5), (6, .int x6)] → W p l e M_findLengths_rm s m args below meth c H locs 0 0 Q (F0 m 303 ls []) := by
                  intro c_ranked c_lengths c_weight c_weightBefore c_items x4 x5 x6 H locs ls hm hP hD hS hl
                  rw [M_findLengths_303] at hm
                  obtain ⟨y6_5, ey6_5⟩ : ∃ y : Int32, y = x6 + 1 := ⟨_, rfl⟩
                  replace hm := mL_e hm y6_5 ey6_5
                  refine lv_iinc (v := y6_5) (lv' := [(6, .int y6_5), (0, .ref a_this), (1, .int x1), (3, .int x3), (4, .int x4), (5, .int x5)]) hx hb d_M_findLengths_303 hl (k := 5) rfl (by rw [ey6_5]; rfl) (by decide) rfl (fun ls hl => ?_)
                  refine lv_goto (tgt := 59) hx hb d_M_findLengths_306 (by decide) ?_
                  exact ih_59 _ _ _ _ _ _ _ _ H locs ls hm hP hD hS (lv_sub hl [1, 2, 3, 4, 5, 0] rfl)
                have h_276 : ∀ (n_276 : Nat) (c_ranked : Nat → Int32) (c_lengths : Nat → Int32) (c_weight : Nat → Int32) (c_weightBefore : Nat → Int32) (c_items : Nat → Int32) (x4 : Int32) (x5 : Int32) (x6 : Int32) (x10 : Int32) (H : Heap) (locs : List Loc) (ls : Array Slot), (mW9 (M_findLengths_276 F (M_findLengths_303 F (mW8 (M_findLengths_59 F c_counts x1 x3 (M_findLengths_309 F x1 x3)) n_59))) n_276) c_ranked c_lengths c_weight c_weightBefore c_items x4 x5 x6 x10 = some res → va_P E.1 vwCl (M_findLengths_w E a_this a_counts a_ranked a_lengths a_weight a_weightBefore a_items x_row x_starts x_image x_readRow x_readStart x_readAt x_readMany x_piece x_packed x_pairBefore x_pairLast x_tokenLength x_tokenValue x_fixed x_lengthRow x_step x_stepMore x_codes x_symbolTree x_distanceTree x_smallTree x_readLengths x_source x_target c_counts c_ranked c_lengths c_weight c_weightBefore c_items v_plain v_closed v_rowSize v_pieces v_imageSize v_readSize v_readPieces v_packedBits v_tokens v_steps v_sourceFrom v_sourceBits v_readBits v_wrong v_made v_room) H → va_D A (M_findLengths_w E a_this a_counts a_ranked a_lengths a_weight a_weightBefore a_items x_row x_starts x_image x_readRow x_readStart x_readAt x_readMany x_piece x_packed x_pairBefore x_pairLast x_tokenLength x_tokenValue x_fixed x_lengthRow x_step x_stepMore x_codes x_symbolTree x_distanceTree x_smallTree x_readLengths x_source x_target c_counts c_ranked c_lengths c_weight c_weightBefore c_items v_plain v_closed v_rowSize v_pieces v_imageSize v_readSize v_readPieces v_packedBits v_tokens v_steps v_sourceFrom v_sourceBits v_readBits v_wrong v_made v_room) → va_S A s.heap H locs → lv_has ls 12 [(0, .ref a_this), (1, .int x1), (3, .int x3), (4, .int x4), (5, .int x5), (6, .int x6), (10, .int x10)] → W p l e M_findLengths_rm s m args below meth c H locs 0 0 Q (F0 m 276 ls []) := by
                  intro n_276
                  induction n_276 with
                  | zero => exact fun _ _ _ _ _ _ _ _ _ _ _ _ hm _ _ _ _ => (mW9_z hm).elim
                  | succ n_276 ih_276 =>
                    intro c_ranked c_lengths c_weight c_weightBefore c_items x4 x5 x6 x10 H locs ls hm hP hD hS hl
                    replace hm := mW9_s hm
                    rw [M_findLengths_276] at hm
                    refine lv_iload hx hb d_M_findLengths_276 (lv_at hl 6 rfl) ?_
                    refine lv_iload hx hb d_M_findLengths_278 (lv_at hl 4 rfl) ?_
                    refine lv_icmp_ge (tgt := 303) hx hb d_M_findLengths_280 (by decide) (fun c280 => ?_) (fun c280 => ?_)
                    · replace hm := mC_t hm c280
                      exact h_303 _ _ _ _ _ _ _ _ H locs ls hm hP hD hS (lv_sub hl [0, 1, 2, 3, 4, 5] rfl)
                    · replace hm := mC_f hm c280
                      refine lv_aload_n hx hb d_M_findLengths_283 rfl (lv_at hl 0 rfl) ?_
                      refine va_get (D := E.1) (ci := 12) (v := .ref a_weightBefore) (C := R_M) (T := F_M) (N := 46) hx hb hts i_M hown hK hP 0 rfl rfl 27 (by decide) (hts _ tw_822) (fun _ h9 => h9) rfl d_M_findLengths_284 ?_
                      refine lv_iload hx hb d_M_findLengths_287 (lv_at hl 6 rfl) ?_
                      refine lv_aload_n hx hb d_M_findLengths_289 rfl (lv_at hl 0 rfl) ?_
                      refine va_get (D := E.1) (ci := 12) (v := .ref a_weight) (C := R_M) (T := F_M) (N := 46) hx hb hts i_M hown hK hP 0 rfl rfl 26 (by decide) (hts _ tw_821) (fun _ h9 => h9) rfl d_M_findLengths_290 ?_
                      refine lv_iload hx hb d_M_findLengths_293 (lv_at hl 6 rfl) ?_
                      obtain ⟨hi295, hm⟩ := mG_e hm
                      refine va_iald hx hb hK hP 4 0 rfl rfl hi295 d_M_findLengths_295 ?_
                      refine lv_topi (fun v_6 ev_6 => ?_)
                      replace hm := mL_e hm v_6 ev_6
                      obtain ⟨hi296, hm⟩ := mG_e hm
                      obtain ⟨c_7, ec_7⟩ : ∃ z : Nat → Int32, z = upd c_weightBefore x10.toNatClampNeg v_6 := ⟨_, rfl⟩
                      replace hm := mL_e hm c_7 ec_7
                      refine va_iast hx hb hK hP hD hS 5 0 rfl rfl hi296 d_M_findLengths_296 (fun H locs hP hD hS => ?_)
                      rw [← ec_7] at hP hD
                      replace hP : va_P E.1 vwCl (M_findLengths_w E a_this a_counts a_ranked a_lengths a_weight a_weightBefore a_items x_row x_starts x_image x_readRow x_readStart x_readAt x_readMany x_piece x_packed x_pairBefore x_pairLast x_tokenLength x_tokenValue x_fixed x_lengthRow x_step x_stepMore x_codes x_symbolTree x_distanceTree x_smallTree x_readLengths x_source x_target c_counts c_ranked c_lengths c_weight c_7 c_items v_plain v_closed v_rowSize v_pieces v_imageSize v_readSize v_readPieces v_packedBits v_tokens v_steps v_sourceFrom v_sourceBits v_readBits v_wrong v_made v_room) H := hP
                      replace hD : va_D A (M_findLengths_w E a_this a_counts a_ranked a_lengths a_weight a_weightBefore a_items x_row x_starts x_image x_readRow x_readStart x_readAt x_readMany x_piece x_packed x_pairBefore x_pairLast x_tokenLength x_tokenValue x_fixed x_lengthRow x_step x_stepMore x_codes x_symbolTree x_distanceTree x_smallTree x_readLengths x_source x_target c_counts c_ranked c_lengths c_weight c_7 c_items v_plain v_closed v_rowSize v_pieces v_imageSize v_readSize v_readPieces v_packedBits v_tokens v_steps v_sourceFrom v_sourceBits v_readBits v_wrong v_made v_room) := hD
                      obtain ⟨y10_8, ey10_8⟩ : ∃ y : Int32, y = x10 + 1 := ⟨_, rfl⟩
                      replace hm := mL_e hm y10_8 ey10_8
                      refine lv_iinc (v := y10_8) (lv' := [(10, .int y10_8), (0, .ref a_this), (1, .int x1), (3, .int x3), (4, .int x4), (5, .int x5), (6, .int x6)]) hx hb d_M_findLengths_297 hl (k := 6) rfl (by rw [ey10_8]; rfl) (by decide) rfl (fun ls hl => ?_)
                      refine lv_goto (tgt := 276) hx hb d_M_findLengths_300 (by decide) ?_
                      exact ih_276 _ _ _ _ _ _ _ _ _ H locs ls hm hP hD hS (lv_sub hl [1, 2, 3, 4, 5, 6, 0] rfl)
                refine lv_iconst (v := 0) hx hb d_M_findLengths_273 (by decide) ?_
                refine lv_istore (lv' := [(10, .int 0), (0, .ref a_this), (1, .int x1), (3, .int x3), (4, .int x4), (5, .int x5), (6, .int x6)]) hx hb d_M_findLengths_274 hl (by decide) rfl (fun ls hl => ?_)
                exact h_276 F _ _ _ _ _ _ _ _ _ H locs ls hm hP hD hS (lv_sub hl [1, 2, 3, 4, 5, 6, 0] rfl)
              have h_86 : ∀ (n_86 : Nat) (c_ranked : Nat → Int32) (c_lengths : Nat → Int32) (c_weight : Nat → Int32) (c_weightBefore : Nat → Int32) (c_items : Nat → Int32) (x4 : Int32) (x5 : Int32) (x6 : Int32) (x7 : Int32) (x8 : Int32) (x9 : Int32) (H : Heap) (locs : List Loc) (ls : Array Slot), (mW11 (M_findLengths_86 F c_counts x1 (M_findLengths_273 F (mW8 (M_findLengths_59 F c_counts x1 x3 (M_findLengths_309 F x1 x3)) n_59))) n_86) c_ranked c_lengths c_weight c_weightBefore c_items x4 x5 x6 x7 x8 x9 = some res → va_P E.1 vwCl (M_findLengths_w E a_this a_counts a_ranked a_lengths a_weight a_weightBefore a_items x_row x_starts x_image x_readRow x_readStart x_readAt x_readMany x_piece x_packed x_pairBefore x_pairLast x_tokenLength x_tokenValue x_fixed x_lengthRow x_step x_stepMore x_codes x_symbolTree x_distanceTree x_smallTree x_readLengths x_source x_target c_counts c_ranked c_lengths c_weight c_weightBefore c_items v_plain v_closed v_rowSize v_pieces v_imageSize v_readSize v_readPieces v_packedBits v_tokens v_steps v_sourceFrom v_sourceBits v_readBits v_wrong v_made v_room) H → va_D A (M_findLengths_w E a_this a_counts a_ranked a_lengths a_weight a_weightBefore a_items x_row x_starts x_image x_readRow x_readStart x_readAt x_readMany x_piece x_packed x_pairBefore x_pairLast x_tokenLength x_tokenValue x_fixed x_lengthRow x_step x_stepMore x_codes x_symbolTree x_distanceTree x_smallTree x_readLengths x_source x_target c_counts c_ranked c_lengths c_weight c_weightBefore c_items v_plain v_closed v_rowSize v_pieces v_imageSize v_readSize v_readPieces v_packedBits v_tokens v_steps v_sourceFrom v_sourceBits v_readBits v_wrong v_made v_room) → va_S A s.heap H locs → lv_has ls 12 [(0, .ref a_this), (1, .int x1), (3, .int x3), (4, .int x4), (5, .int x5), (6, .int x6), (7, .int x7), (8, .int x8), (9, .int x9)] → W p l e M_findLengths_rm s m args below meth c H locs 0 0 Q (F0 m 86 ls []) := by
                intro n_86
                induction n_86 with
                | zero => exact fun _ _ _ _ _ _ _ _ _ _ _ _ _ _ hm _ _ _ _ => (mW11_z hm).elim
                | succ n_86 ih_86 =>
                  intro c_ranked c_lengths c_weight c_weightBefore c_items x4 x5 x6 x7 x8 x9 H locs ls hm hP hD hS hl
                  replace hm := mW11_s hm
                  rw [M_findLengths_86] at hm
                  have h_100 : ∀ (c_ranked : Nat → Int32) (c_lengths : Nat → Int32) (c_weight : Nat → Int32) (c_weightBefore : Nat → Int32) (c_items : Nat → Int32) (x4 : Int32) (x5 : Int32) (x6 : Int32) (x7 : Int32) (x8 : Int32) (x9 : Int32) (H : Heap) (locs : List Loc) (ls : Array Slot), (M_findLengths_100 F c_counts x1 (mW11 (M_findLengths_86 F c_counts x1 (M_findLengths_273 F (mW8 (M_findLengths_59 F c_counts x1 x3 (M_findLengths_309 F x1 x3)) n_59))) n_86)) c_ranked c_lengths c_weight c_weightBefore c_items x4 x5 x6 x7 x8 x9 = some res → va_P E.1 vwCl (M_findLengths_w E a_this a_counts a_ranked a_lengths a_weight a_weightBefore a_items x_row x_starts x_image x_readRow x_readStart x_readAt x_readMany x_piece x_packed x_pairBefore x_pairLast x_tokenLength x_tokenValue x_fixed x_lengthRow x_step x_stepMore x_codes x_symbolTree x_distanceTree x_smallTree x_readLengths x_source x_target c_counts c_ranked c_lengths c_weight c_weightBefore c_items v_plain v_closed v_rowSize v_pieces v_imageSize v_readSize v_readPieces v_packedBits v_tokens v_steps v_sourceFrom v_sourceBits v_readBits v_wrong v_made v_room) H → va_D A (M_findLengths_w E a_this a_counts a_ranked a_lengths a_weight a_weightBefore a_items x_row x_starts x_image x_readRow x_readStart x_readAt x_readMany x_piece x_packed x_pairBefore x_pairLast x_tokenLength x_tokenValue x_fixed x_lengthRow x_step x_stepMore x_codes x_symbolTree x_distanceTree x_smallTree x_readLengths x_source x_target c_counts c_ranked c_lengths c_weight c_weightBefore c_items v_plain v_closed v_rowSize v_pieces v_imageSize v_readSize v_readPieces v_packedBits v_tokens v_steps v_sourceFrom v_sourceBits v_readBits v_wrong v_made v_room) → va_S A s.heap H locs → lv_has ls 12 [(0, .ref a_this), (1, .int x1), (3, .int x3), (4, .int x4), (5, .int x5), (6, .int x6), (7, .int x7), (8, .int x8), (9, .int x9)] → W p l e M_findLengths_rm s m args below meth c H locs 0 0 Q (F0 m 100 ls []) := by
                    intro c_ranked c_lengths c_weight c_weightBefore c_items x4 x5 x6 x7 x8 x9 H locs ls hm hP hD hS hl
                    rw [M_findLengths_100] at hm
                    have h_132 : ∀ (c_ranked : Nat → Int32) (c_lengths : Nat → Int32) (c_weight : Nat → Int32) (c_weightBefore : Nat → Int32) (c_items : Nat → Int32) (x4 : Int32) (x5 : Int32) (x6 : Int32) (x7 : Int32) (x8 : Int32) (x9 : Int32) (s0 : Int32) (H : Heap) (locs : List Loc) (ls : Array Slot), (M_findLengths_132 F c_counts x1 (mW11 (M_findLengths_86 F c_counts x1 (M_findLengths_273 F (mW8 (M_findLengths_59 F c_counts x1 x3 (M_findLengths_309 F x1 x3)) n_59))) n_86)) c_ranked c_lengths c_weight c_weightBefore c_items x4 x5 x6 x7 x8 x9 s0 = some res → va_P E.1 vwCl (M_findLengths_w E a_this a_counts a_ranked a_lengths a_weight a_weightBefore a_items x_row x_starts x_image x_readRow x_readStart x_readAt x_readMany x_piece x_packed x_pairBefore x_pairLast x_tokenLength x_tokenValue x_fixed x_lengthRow x_step x_stepMore x_codes x_symbolTree x_distanceTree x_smallTree x_readLengths x_source x_target c_counts c_ranked c_lengths c_weight c_weightBefore c_items v_plain v_closed v_rowSize v_pieces v_imageSize v_readSize v_readPieces v_packedBits v_tokens v_steps v_sourceFrom v_sourceBits v_readBits v_wrong v_made v_room) H → va_D A (M_findLengths_w E a_this a_counts a_ranked a_lengths a_weight a_weightBefore a_items x_row x_starts x_image x_readRow x_readStart x_readAt x_readMany x_piece x_packed x_pairBefore x_pairLast x_tokenLength x_tokenValue x_fixed x_lengthRow x_step x_stepMore x_codes x_symbolTree x_distanceTree x_smallTree x_readLengths x_source x_target c_counts c_ranked c_lengths c_weight c_weightBefore c_items v_plain v_closed v_rowSize v_pieces v_imageSize v_readSize v_readPieces v_packedBits v_tokens v_steps v_sourceFrom v_sourceBits v_readBits v_wrong v_made v_room) → va_S A s.heap H locs → lv_has ls 12 [(0, .ref a_this), (1, .int x1), (3, .int x3), (4, .int x4), (5, .int x5), (6, .int x6), (7, .int x7), (8, .int x8), (9, .int x9)] → W p l e M_findLengths_rm s m args below meth c H locs 0 0 Q (F0 m 132 ls [.int s0]) := by
                      intro c_ranked c_lengths c_weight c_weightBefore c_items x4 x5 x6 x7 x8 x9 s0 H locs ls hm hP hD hS hl
                      rw [M_findLengths_132] at hm
                      have h_172 : ∀ (c_ranked : Nat → Int32) (c_lengths : Nat → Int32) (c_weight : Nat → Int32) (c_weightBefore : Nat → Int32) (c_items : Nat → Int32) (x4 : Int32) (x5 : Int32) (x6 : Int32) (x7 : Int32) (x8 : Int32) (x9 : Int32) (x10 : Int32) (s0 : Int32) (H : Heap) (locs : List Loc) (ls : Array Slot), (M_findLengths_172 F c_counts x1 (mW11 (M_findLengths_86 F c_counts x1 (M_findLengths_273 F (mW8 (M_findLengths_59 F c_counts x1 x3 (M_findLengths_309 F x1 x3)) n_59))) n_86)) c_ranked c_lengths c_weight c_weightBefore c_items x4 x5 x6 x7 x8 x9 x10 s0 = some res → va_P E.1 vwCl (M_findLengths_w E a_this a_counts a_ranked a_lengths a_weight a_weightBefore a_items x_row x_starts x_image x_readRow x_readStart x_readAt x_readMany x_piece x_packed x_pairBefore x_pairLast x_tokenLength x_tokenValue x_fixed x_lengthRow x_step x_stepMore x_codes x_symbolTree x_distanceTree x_smallTree x_readLengths x_source x_target c_counts c_ranked c_lengths c_weight c_weightBefore c_items v_plain v_closed v_rowSize v_pieces v_imageSize v_readSize v_readPieces v_packedBits v_tokens v_steps v_sourceFrom v_sourceBits v_readBits v_wrong v_made v_room) H → va_D A (M_findLengths_w E a_this a_counts a_ranked a_lengths a_weight a_weightBefore a_items x_row x_starts x_image x_readRow x_readStart x_readAt x_readMany x_piece x_packed x_pairBefore x_pairLast x_tokenLength x_tokenValue x_fixed x_lengthRow x_step x_stepMore x_codes x_symbolTree x_distanceTree x_smallTree x_readLengths x_source x_target c_counts c_ranked c_lengths c_weight c_weightBefore c_items v_plain v_closed v_rowSize v_pieces v_imageSize v_readSize v_readPieces v_packedBits v_tokens v_steps v_sourceFrom v_sourceBits v_readBits v_wrong v_made v_room) → va_S A s.heap H locs → lv_has ls 12 [(0, .ref a_this), (1, .int x1), (3, .int x3), (4, .int x4), (5, .int x5), (6, .int x6), (7, .int x7), (8, .int x8), (9, .int x9), (10, .int x10)] → W p l e M_findLengths_rm s m args below meth c H locs 0 0 Q (F0 m 172 ls [.int s0]) := by
                        intro c_ranked c_lengths c_weight c_weightBefore c_items x4 x5 x6 x7 x8 x9 x10 s0 H locs ls hm hP hD hS hl
                        rw [M_findLengths_172] at hm
                        have h_204 : ∀ (c_ranked : Nat → Int32) (c_lengths : Nat → Int32) (c_weight : Nat → Int32) (c_weightBefore : Nat → Int32) (c_items : Nat → Int32) (x4 : Int32) (x5 : Int32) (x6 : Int32) (x7 : Int32) (x8 : Int32) (x9 : Int32) (x11 : Int32) (s1 : Int32) (s2 : Int32) (H : Heap) (locs : List Loc) (ls : Array Slot), (M_findLengths_204 F (mW11 (M_findLengths_86 F c_counts x1 (M_findLengths_273 F (mW8 (M_findLengths_59 F c_counts x1 x3 (M_findLengths_309 F x1 x3)) n_59))) n_86)) c_ranked c_lengths c_weight c_weightBefore c_items x4 x5 x6 x7 x8 x9 x11 s1 s2 = some res → va_P E.1 vwCl (M_findLengths_w E a_this a_counts a_ranked a_lengths a_weight a_weightBefore a_items x_row x_starts x_image x_readRow x_readStart x_readAt x_readMany x_piece x_packed x_pairBefore x_pairLast x_tokenLength x_tokenValue x_fixed x_lengthRow x_step x_stepMore x_codes x_symbolTree x_distanceTree x_smallTree x_readLengths x_source x_target c_counts c_ranked c_lengths c_weight c_weightBefore c_items v_plain v_closed v_rowSize v_pieces v_imageSize v_readSize v_readPieces v_packedBits v_tokens v_steps v_sourceFrom v_sourceBits v_readBits v_wrong v_made v_room) H → va_D A (M_findLengths_w E a_this a_counts a_ranked a_lengths a_weight a_weightBefore a_items x_row x_starts x_image x_readRow x_readStart x_readAt x_readMany x_piece x_packed x_pairBefore x_pairLast x_tokenLength x_tokenValue x_fixed x_lengthRow x_step x_stepMore x_codes x_symbolTree x_distanceTree x_smallTree x_readLengths x_source x_target c_counts c_ranked c_lengths c_weight c_weightBefore c_items v_plain v_closed v_rowSize v_pieces v_imageSize v_readSize v_readPieces v_packedBits v_tokens v_steps v_sourceFrom v_sourceBits v_readBits v_wrong v_made v_room) → va_S A s.heap H locs → lv_has ls 12 [(0, .ref a_this), (1, .int x1), (3, .int x3), (4, .int x4), (5, .int x5), (6, .int x6), (7, .int x7), (8, .int x8), (9, .int x9), (11, .int x11)] → W p l e M_findLengths_rm s m args below meth c H locs 0 0 Q (F0 m 204 ls [.int s2, .int s1, .ref a_weight]) := by
                          intro c_ranked c_lengths c_weight c_weightBefore c_items x4 x5 x6 x7 x8 x9 x11 s1 s2 H locs ls hm hP hD hS hl
                          rw [M_findLengths_204] at hm
                          have h_234 : ∀ (c_ranked : Nat → Int32) (c_lengths : Nat → Int32) (c_weight : Nat → Int32) (c_weightBefore : Nat → Int32) (c_items : Nat → Int32) (x4 : Int32) (x5 : Int32) (x6 : Int32) (x7 : Int32) (x8 : Int32) (x9 : Int32) (x11 : Int32) (s1 : Int32) (s2 : Int32) (H : Heap) (locs : List Loc) (ls : Array Slot), (M_findLengths_234 F (mW11 (M_findLengths_86 F c_counts x1 (M_findLengths_273 F (mW8 (M_findLengths_59 F c_counts x1 x3 (M_findLengths_309 F x1 x3)) n_59))) n_86)) c_ranked c_lengths c_weight c_weightBefore c_items x4 x5 x6 x7 x8 x9 x11 s1 s2 = some res → va_P E.1 vwCl (M_findLengths_w E a_this a_counts a_ranked a_lengths a_weight a_weightBefore a_items x_row x_starts x_image x_readRow x_readStart x_readAt x_readMany x_piece x_packed x_pairBefore x_pairLast x_tokenLength x_tokenValue x_fixed x_lengthRow x_step x_stepMore x_codes x_symbolTree x_distanceTree x_smallTree x_readLengths x_source x_target c_counts c_ranked c_lengths c_weight c_weightBefore c_items v_plain v_closed v_rowSize v_pieces v_imageSize v_readSize v_readPieces v_packedBits v_tokens v_steps v_sourceFrom v_sourceBits v_readBits v_wrong v_made v_room) H → va_D A (M_findLengths_w E a_this a_counts a_ranked a_lengths a_weight a_weightBefore a_items x_row x_starts x_image x_readRow x_readStart x_readAt x_readMany x_piece x_packed x_pairBefore x_pairLast x_tokenLength x_tokenValue x_fixed x_lengthRow x_step x_stepMore x_codes x_symbolTree x_distanceTree x_smallTree x_readLengths x_source x_target c_counts c_ranked c_lengths c_weight c_weightBefore c_items v_plain v_closed v_rowSize v_pieces v_imageSize v_readSize v_readPieces v_packedBits v_tokens v_steps v_sourceFrom v_sourceBits v_readBits v_wrong v_made v_room) → va_S A s.heap H locs → lv_has ls 12 [(0, .ref a_this), (1, .int x1), (3, .int x3), (4, .int x4), (5, .int x5), (6, .int x6), (7, .int x7), (8, .int x8), (9, .int x9), (11, .int x11)] → W p l e M_findLengths_rm s m args below meth c H locs 0 0 Q (F0 m 234 ls [.int s2, .int s1, .ref a_items]) := by
                            intro c_ranked c_lengths c_weight c_weightBefore c_items x4 x5 x6 x7 x8 x9 x11 s1 s2 H locs ls hm hP hD hS hl
                            rw [M_findLengths_234] at hm
                            have h_249 : ∀ (c_ranked : Nat → Int32) (c_lengths : Nat → Int32) (c_weight : Nat → Int32) (c_weightBefore : Nat → Int32) (c_items : Nat → Int32) (x4 : Int32) (x5 : Int32) (x6 : Int32) (x7 : Int32) (x9 : Int32) (x11 : Int32) (s0 : Int32) (H : Heap) (locs : List Loc) (ls : Array Slot), (M_findLengths_249 F (mW11 (M_findLengths_86 F c_counts x1 (M_findLengths_273 F (mW8 (M_findLengths_59 F c_counts x1 x3 (M_findLengths_309 F x1 x3)) n_59))) n_86)) c_ranked c_lengths c_weight c_weightBefore c_items x4 x5 x6 x7 x9 x11 s0 = some res → va_P E.1 vwCl (M_findLengths_w E a_this a_counts a_ranked a_lengths a_weight a_weightBefore a_items x_row x_starts x_image x_readRow x_readStart x_readAt x_readMany x_piece x_packed x_pairBefore x_pairLast x_tokenLength x_tokenValue x_fixed x_lengthRow x_step x_stepMore x_codes x_symbolTree x_distanceTree x_smallTree x_readLengths x_source x_target c_counts c_ranked c_lengths c_weight c_weightBefore c_items v_plain v_closed v_rowSize v_pieces v_imageSize v_readSize v_readPieces v_packedBits v_tokens v_steps v_sourceFrom v_sourceBits v_readBits v_wrong v_made v_room) H → va_D A (M_findLengths_w E a_this a_counts a_ranked a_lengths a_weight a_weightBefore a_items x_row x_starts x_image x_readRow x_readStart x_readAt x_readMany x_piece x_packed x_pairBefore x_pairLast x_tokenLength x_tokenValue x_fixed x_lengthRow x_step x_stepMore x_codes x_symbolTree x_distanceTree x_smallTree x_readLengths x_source x_target c_counts c_ranked c_lengths c_weight c_weightBefore c_items v_plain v_closed v_rowSize v_pieces v_imageSize v_readSize v_readPieces v_packedBits v_tokens v_steps v_sourceFrom v_sourceBits v_readBits v_wrong v_made v_room) → va_S A s.heap H locs → lv_has ls 12 [(0, .ref a_this), (1, .int x1), (3, .int x3), (4, .int x4), (5, .int x5), (6, .int x6), (7, .int x7), (9, .int x9), (11, .int x11)] → W p l e M_findLengths_rm s m args below meth c H locs 0 0 Q (F0 m 249 ls [.int s0]) := by
                              intro c_ranked c_lengths c_weight c_weightBefore c_items x4 x5 x6 x7 x9 x11 s0 H locs ls hm hP hD hS hl
                              rw [M_findLengths_249] at hm
                              have h_265 : ∀ (c_ranked : Nat → Int32) (c_lengths : Nat → Int32) (c_weight : Nat → Int32) (c_weightBefore : Nat → Int32) (c_items : Nat → Int32) (x4 : Int32) (x5 : Int32) (x6 : Int32) (x7 : Int32) (x8 : Int32) (s0 : Int32) (H : Heap) (locs : List Loc) (ls : Array Slot), (M_findLengths_265 F (mW11 (M_findLengths_86 F c_counts x1 (M_findLengths_273 F (mW8 (M_findLengths_59 F c_counts x1 x3 (M_findLengths_309 F x1 x3)) n_59))) n_86)) c_ranked c_lengths c_weight c_weightBefore c_items x4 x5 x6 x7 x8 s0 = some res → va_P E.1 vwCl (M_findLengths_w E a_this a_counts a_ranked a_lengths a_weight a_weightBefore a_items x_row x_starts x_image x_readRow x_readStart x_readAt x_readMany x_piece x_packed x_pairBefore x_pairLast x_tokenLength x_tokenValue x_fixed x_lengthRow x_step x_stepMore x_codes x_symbolTree x_distanceTree x_smallTree x_readLengths x_source x_target c_counts c_ranked c_lengths c_weight c_weightBefore c_items v_plain v_closed v_rowSize v_pieces v_imageSize v_readSize v_readPieces v_packedBits v_tokens v_steps v_sourceFrom v_sourceBits v_readBits v_wrong v_made v_room) H → va_D A (M_findLengths_w E a_this a_counts a_ranked a_lengths a_weight a_weightBefore a_items x_row x_starts x_image x_readRow x_readStart x_readAt x_readMany x_piece x_packed x_pairBefore x_pairLast x_tokenLength x_tokenValue x_fixed x_lengthRow x_step x_stepMore x_codes x_symbolTree x_distanceTree x_smallTree x_readLengths x_source x_target c_counts c_ranked c_lengths c_weight c_weightBefore c_items v_plain v_closed v_rowSize v_pieces v_imageSize v_readSize v_readPieces v_packedBits v_tokens v_steps v_sourceFrom v_sourceBits v_readBits v_wrong v_made v_room) → va_S A s.heap H locs → lv_has ls 12 [(0, .ref a_this), (1, .int x1), (3, .int x3), (4, .int x4), (5, .int x5), (6, .int x6), (7, .int x7), (8, .int x8)] → W p l e M_findLengths_rm s m args below meth c H locs 0 0 Q (F0 m 265 ls [.int s0]) := by
                                intro c_ranked c_lengths c_weight c_weightBefore c_items x4 x5 x6 x7 x8 s0 H locs ls hm hP hD hS hl
                                rw [M_findLengths_265] at hm
                                refine lv_istore (lv' := [(9, .int s0), (0, .ref a_this), (1, .int x1), (3, .int x3), (4, .int x4), (5, .int x5), (6, .int x6), (7, .int x7), (8, .int x8)]) hx hb d_M_findLengths_265 hl (by decide) rfl (fun ls hl => ?_)
                                obtain ⟨y5_9, ey5_9⟩ : ∃ y : Int32, y = x5 + 1 := ⟨_, rfl⟩
                                replace hm := mL_e hm y5_9 ey5_9
                                refine lv_iinc (v := y5_9) (lv' := [(5, .int y5_9), (9, .int s0), (0, .ref a_this), (1, .int x1), (3, .int x3), (4, .int x4), (6, .int x6), (7, .int x7), (8, .int x8)]) hx hb d_M_findLengths_267 hl (k := 5) rfl (by rw [ey5_9]; rfl) (by decide) rfl (fun ls hl => ?_)
                                refine lv_goto (tgt := 86) hx hb d_M_findLengths_270 (by decide) ?_
                                exact ih_86 _ _ _ _ _ _ _ _ _ _ _ H locs ls hm hP hD hS (lv_sub hl [2, 3, 4, 5, 0, 6, 7, 8, 1] rfl)
                              refine lv_istore (lv' := [(8, .int s0), (0, .ref a_this), (1, .int x1), (3, .int x3), (4, .int x4), (5, .int x5), (6, .int x6), (7, .int x7), (9, .int x9), (11, .int x11)]) hx hb d_M_findLengths_249 hl (by decide) rfl (fun ls hl => ?_)
                              refine lv_iload hx hb d_M_findLengths_251 (lv_at hl 9 rfl) ?_
                              refine lv_if_eq (tgt := 261) hx hb d_M_findLengths_253 (by decide) (fun c253 => ?_) (fun c253 => ?_)
                              · replace hm := mC_t hm c253
                                refine lv_iload hx hb d_M_findLengths_261 (lv_at hl 8 rfl) ?_
                                refine lv_iconst (v := 1) hx hb d_M_findLengths_263 (by decide) ?_
                                refine lv_iadd hx hb d_M_findLengths_264 ?_
                                exact h_265 _ _ _ _ _ _ _ _ _ _ _ H locs ls hm hP hD hS (lv_sub hl [1, 2, 3, 4, 5, 6, 7, 0] rfl)
                              · replace hm := mC_f hm c253
                                refine lv_iload hx hb d_M_findLengths_256 (lv_at hl 8 rfl) ?_
                                refine lv_goto (tgt := 265) hx hb d_M_findLengths_258 (by decide) ?_
                                exact h_265 _ _ _ _ _ _ _ _ _ _ _ H locs ls hm hP hD hS (lv_sub hl [1, 2, 3, 4, 5, 6, 7, 0] rfl)
                            obtain ⟨hi234, hm⟩ := mG_e hm
                            obtain ⟨c_10, ec_10⟩ : ∃ z : Nat → Int32, z = upd c_items s1.toNatClampNeg s2 := ⟨_, rfl⟩
                            replace hm := mL_e hm c_10 ec_10
                            refine va_iast hx hb hK hP hD hS 6 0 rfl rfl hi234 d_M_findLengths_234 (fun H locs hP hD hS => ?_)
                            rw [← ec_10] at hP hD
                            replace hP : va_P E.1 vwCl (M_findLengths_w E a_this a_counts a_ranked a_lengths a_weight a_weightBefore a_items x_row x_starts x_image x_readRow x_readStart x_readAt x_readMany x_piece x_packed x_pairBefore x_pairLast x_tokenLength x_tokenValue x_fixed x_lengthRow x_step x_stepMore x_codes x_symbolTree x_distanceTree x_smallTree x_readLengths x_source x_target c_counts c_ranked c_lengths c_weight c_weightBefore c_10 v_plain v_closed v_rowSize v_pieces v_imageSize v_readSize v_readPieces v_packedBits v_tokens v_steps v_sourceFrom v_sourceBits v_readBits v_wrong v_made v_room) H := hP
                            replace hD : va_D A (M_findLengths_w E a_this a_counts a_ranked a_lengths a_weight a_weightBefore a_items x_row x_starts x_image x_readRow x_readStart x_readAt x_readMany x_piece x_packed x_pairBefore x_pairLast x_tokenLength x_tokenValue x_fixed x_lengthRow x_step x_stepMore x_codes x_symbolTree x_distanceTree x_smallTree x_readLengths x_source x_target c_counts c_ranked c_lengths c_weight c_weightBefore c_10 v_plain v_closed v_rowSize v_pieces v_imageSize v_readSize v_readPieces v_packedBits v_tokens v_steps v_sourceFrom v_sourceBits v_readBits v_wrong v_made v_room) := hD
                            refine lv_iload hx hb d_M_findLengths_235 (lv_at hl 9 rfl) ?_
                            refine lv_if_eq (tgt := 247) hx hb d_M_findLengths_237 (by decide) (fun c237 => ?_) (fun c237 => ?_)
                            · replace hm := mC_t hm c237
                              refine lv_iload hx hb d_M_findLengths_247 (lv_at hl 7 rfl) ?_
                              exact h_249 _ _ _ _ _ _ _ _ _ _ _ _ H locs ls hm hP hD hS (lv_sub hl [0, 1, 2, 3, 4, 5, 6, 8, 9] rfl)
                            · replace hm := mC_f hm c237
                              refine lv_iload hx hb d_M_findLengths_240 (lv_at hl 7 rfl) ?_
                              refine lv_iconst (v := 1) hx hb d_M_findLengths_242 (by decide) ?_
                              refine lv_iadd hx hb d_M_findLengths_243 ?_
                              refine lv_goto (tgt := 249) hx hb d_M_findLengths_244 (by decide) ?_
                              exact h_249 _ _ _ _ _ _ _ _ _ _ _ _ H locs ls hm hP hD hS (lv_sub hl [0, 1, 2, 3, 4, 5, 6, 8, 9] rfl)
                          obtain ⟨hi204, hm⟩ := mG_e hm
                          obtain ⟨c_11, ec_11⟩ : ∃ z : Nat → Int32, z = upd c_weight s1.toNatClampNeg s2 := ⟨_, rfl⟩
                          replace hm := mL_e hm c_11 ec_11
                          refine va_iast hx hb hK hP hD hS 4 0 rfl rfl hi204 d_M_findLengths_204 (fun H locs hP hD hS => ?_)
                          rw [← ec_11] at hP hD
                          replace hP : va_P E.1 vwCl (M_findLengths_w E a_this a_counts a_ranked a_lengths a_weight a_weightBefore a_items x_row x_starts x_image x_readRow x_readStart x_readAt x_readMany x_piece x_packed x_pairBefore x_pairLast x_tokenLength x_tokenValue x_fixed x_lengthRow x_step x_stepMore x_codes x_symbolTree x_distanceTree x_smallTree x_readLengths x_source x_target c_counts c_ranked c_lengths c_11 c_weightBefore c_items v_plain v_closed v_rowSize v_pieces v_imageSize v_readSize v_readPieces v_packedBits v_tokens v_steps v_sourceFrom v_sourceBits v_readBits v_wrong v_made v_room) H := hP
                          replace hD : va_D A (M_findLengths_w E a_this a_counts a_ranked a_lengths a_weight a_weightBefore a_items x_row x_starts x_image x_readRow x_readStart x_readAt x_readMany x_piece x_packed x_pairBefore x_pairLast x_tokenLength x_tokenValue x_fixed x_lengthRow x_step x_stepMore x_codes x_symbolTree x_distanceTree x_smallTree x_readLengths x_source x_target c_counts c_ranked c_lengths c_11 c_weightBefore c_items v_plain v_closed v_rowSize v_pieces v_imageSize v_readSize v_readPieces v_packedBits v_tokens v_steps v_sourceFrom v_sourceBits v_readBits v_wrong v_made v_room) := hD
                          refine lv_aload_n hx hb d_M_findLengths_205 rfl (lv_at hl 0 rfl) ?_
                          refine va_get (D := E.1) (ci := 12) (v := .ref a_items) (C := R_M) (T := F_M) (N := 46) hx hb hts i_M hown hK hP 0 rfl rfl 28 (by decide) (hts _ tw_823) (fun _ h9 => h9) rfl d_M_findLengths_206 ?_
                          refine lv_sipush (v := 600) hx hb d_M_findLengths_209 (by decide) ?_
                          refine lv_iload hx hb d_M_findLengths_212 (lv_at hl 5 rfl) ?_
                          refine lv_imul hx hb d_M_findLengths_214 ?_
                          refine lv_iload hx hb d_M_findLengths_215 (lv_at hl 4 rfl) ?_
                          refine lv_iadd hx hb d_M_findLengths_217 ?_
                          refine lv_iload hx hb d_M_findLengths_218 (lv_at hl 9 rfl) ?_
                          refine lv_if_eq (tgt := 228) hx hb d_M_findLengths_220 (by decide) (fun c220 => ?_) (fun c220 => ?_)
                          · replace hm := mC_t hm c220
                            refine lv_iconst (v := (-1)) hx hb d_M_findLengths_228 (by decide) ?_
                            refine lv_iconst (v := 2) hx hb d_M_findLengths_229 (by decide) ?_
                            refine lv_iload hx hb d_M_findLengths_230 (lv_at hl 8 rfl) ?_
                            refine lv_imul hx hb d_M_findLengths_232 ?_
                            refine lv_isub hx hb d_M_findLengths_233 ?_
                            exact h_234 _ _ _ _ _ _ _ _ _ _ _ _ _ _ H locs ls hm hP hD hS hl
                          · replace hm := mC_f hm c220
                            refine lv_iload hx hb d_M_findLengths_223 (lv_at hl 7 rfl) ?_
                            refine lv_goto (tgt := 234) hx hb d_M_findLengths_225 (by decide) ?_
                            exact h_234 _ _ _ _ _ _ _ _ _ _ _ _ _ _ H locs ls hm hP hD hS hl
                        refine lv_istore (lv' := [(11, .int s0), (0, .ref a_this), (1, .int x1), (3, .int x3), (4, .int x4), (5, .int x5), (6, .int x6), (7, .int x7), (8, .int x8), (9, .int x9), (10, .int x10)]) hx hb d_M_findLengths_172 hl (by decide) rfl (fun ls hl => ?_)
                        refine lv_aload_n hx hb d_M_findLengths_174 rfl (lv_at hl 1 rfl) ?_
                        refine va_get (D := E.1) (ci := 12) (v := .ref a_weight) (C := R_M) (T := F_M) (N := 46) hx hb hts i_M hown hK hP 0 rfl rfl 26 (by decide) (hts _ tw_821) (fun _ h9 => h9) rfl d_M_findLengths_175 ?_
                        refine lv_iload hx hb d_M_findLengths_178 (lv_at hl 5 rfl) ?_
                        refine lv_iload hx hb d_M_findLengths_180 (lv_at hl 0 rfl) ?_
                        refine lv_if_eq (tgt := 202) hx hb d_M_findLengths_182 (by decide) (fun c182 => ?_) (fun c182 => ?_)
                        · replace hm := mC_t hm c182
                          refine lv_iload hx hb d_M_findLengths_202 (lv_at hl 10 rfl) ?_
                          exact h_204 _ _ _ _ _ _ _ _ _ _ _ _ _ _ H locs ls hm hP hD hS (lv_sub hl [1, 2, 3, 4, 5, 6, 7, 8, 9, 0] rfl)
                        · replace hm := mC_f hm c182
                          refine lv_aload_n hx hb d_M_findLengths_185 rfl (lv_at hl 1 rfl) ?_
                          refine va_get (D := E.1) (ci := 12) (v := .ref a_counts) (C := R_M) (T := F_M) (N := 46) hx hb hts i_M hown hK hP 0 rfl rfl 22 (by decide) (hts _ tw_817) (fun _ h9 => h9) rfl d_M_findLengths_186 ?_
                          refine lv_iload_n hx hb d_M_findLengths_189 rfl (lv_at hl 2 rfl) ?_
                          refine lv_aload_n hx hb d_M_findLengths_190 rfl (lv_at hl 1 rfl) ?_
                          refine va_get (D := E.1) (ci := 12) (v := .ref a_ranked) (C := R_M) (T := F_M) (N := 46) hx hb hts i_M hown hK hP 0 rfl rfl 25 (by decide) (hts _ tw_820) (fun _ h9 => h9) rfl d_M_findLengths_191 ?_
                          refine lv_iload hx hb d_M_findLengths_194 (lv_at hl 8 rfl) ?_
                          obtain ⟨hi196, hm⟩ := mG_e hm
                          refine va_iald hx hb hK hP 2 0 rfl rfl hi196 d_M_findLengths_196 ?_
                          refine lv_iadd hx hb d_M_findLengths_197 ?_
                          refine lv_topi (fun i_12 ei_12 => ?_)
                          replace hm := mL_e hm i_12 ei_12
                          obtain ⟨hi198, hm⟩ := mG_e hm
                          refine va_iald hx hb hK hP 1 0 rfl rfl hi198 d_M_findLengths_198 ?_
                          refine lv_goto (tgt := 204) hx hb d_M_findLengths_199 (by decide) ?_
                          exact h_204 _ _ _ _ _ _ _ _ _ _ _ _ _ _ H locs ls hm hP hD hS (lv_sub hl [1, 2, 3, 4, 5, 6, 7, 8, 9, 0] rfl)
                      have h_167 : ∀ (c_ranked : Nat → Int32) (c_lengths : Nat → Int32) (c_weight : Nat → Int32) (c_weightBefore : Nat → Int32) (c_items : Nat → Int32) (x4 : Int32) (x5 : Int32) (x6 : Int32) (x7 : Int32) (x8 : Int32) (x9 : Int32) (x10 : Int32) (H : Heap) (locs : List Loc) (ls : Array Slot), (M_findLengths_167 F c_counts x1 (mW11 (M_findLengths_86 F c_counts x1 (M_findLengths_273 F (mW8 (M_findLengths_59 F c_counts x1 x3 (M_findLengths_309 F x1 x3)) n_59))) n_86)) c_ranked c_lengths c_weight c_weightBefore c_items x4 x5 x6 x7 x8 x9 x10 = some res → va_P E.1 vwCl (M_findLengths_w E a_this a_counts a_ranked a_lengths a_weight a_weightBefore a_items x_row x_starts x_image x_readRow x_readStart x_readAt x_readMany x_piece x_packed x_pairBefore x_pairLast x_tokenLength x_tokenValue x_fixed x_lengthRow x_step x_stepMore x_codes x_symbolTree x_distanceTree x_smallTree x_readLengths x_source x_target c_counts c_ranked c_lengths c_weight c_weightBefore c_items v_plain v_closed v_rowSize v_pieces v_imageSize v_readSize v_readPieces v_packedBits v_tokens v_steps v_sourceFrom v_sourceBits v_readBits v_wrong v_made v_room) H → va_D A (M_findLengths_w E a_this a_counts a_ranked a_lengths a_weight a_weightBefore a_items x_row x_starts x_image x_readRow x_readStart x_readAt x_readMany x_piece x_packed x_pairBefore x_pairLast x_tokenLength x_tokenValue x_fixed x_lengthRow x_step x_stepMore x_codes x_symbolTree x_distanceTree x_smallTree x_readLengths x_source x_target c_counts c_ranked c_lengths c_weight c_weightBefore c_items v_plain v_closed v_rowSize v_pieces v_imageSize v_readSize v_readPieces v_packedBits v_tokens v_steps v_sourceFrom v_sourceBits v_readBits v_wrong v_made v_room) → va_S A s.heap H locs → lv_has ls 12 [(0, .ref a_this), (1, .int x1), (3, .int x3), (4, .int x4), (5, .int x5), (6, .int x6), (7, .int x7), (8, .int x8), (9, .int x9), (10, .int x10)] → W p l e M_findLengths_rm s m args below meth c H locs 0 0 Q (F0 m 167 ls []) := by
                        intro c_ranked c_lengths c_weight c_weightBefore c_items x4 x5 x6 x7 x8 x9 x10 H locs ls hm hP hD hS hl
                        rw [M_findLengths_167] at hm
                        refine lv_iconst (v := 1) hx hb d_M_findLengths_167 (by decide) ?_
                        refine lv_goto (tgt := 172) hx hb d_M_findLengths_168 (by decide) ?_
                        exact h_172 _ _ _ _ _ _ _ _ _ _ _ _ _ H locs ls hm hP hD hS hl
                      refine lv_istore (lv' := [(10, .int s0), (0, .ref a_this), (1, .int x1), (3, .int x3), (4, .int x4), (5, .int x5), (6, .int x6), (7, .int x7), (8, .int x8), (9, .int x9)]) hx hb d_M_findLengths_132 hl (by decide) rfl (fun ls hl => ?_)
                      refine lv_iload hx hb d_M_findLengths_134 (lv_at hl 9 rfl) ?_
                      refine lv_iload hx hb d_M_findLengths_136 (lv_at hl 7 rfl) ?_
                      refine lv_icmp_eq (tgt := 167) hx hb d_M_findLengths_138 (by decide) (fun c138 => ?_) (fun c138 => ?_)
                      · replace hm := mC_t hm c138
                        exact h_167 _ _ _ _ _ _ _ _ _ _ _ _ H locs ls hm hP hD hS (lv_sub hl [1, 2, 3, 4, 5, 6, 7, 8, 9, 0] rfl)
                      · replace hm := mC_f hm c138
                        have h_171 : ∀ (c_ranked : Nat → Int32) (c_lengths : Nat → Int32) (c_weight : Nat → Int32) (c_weightBefore : Nat → Int32) (c_items : Nat → Int32) (x4 : Int32) (x5 : Int32) (x6 : Int32) (x7 : Int32) (x8 : Int32) (x9 : Int32) (x10 : Int32) (H : Heap) (locs : List Loc) (ls : Array Slot), (M_findLengths_171 F c_counts x1 (mW11 (M_findLengths_86 F c_counts x1 (M_findLengths_273 F (mW8 (M_findLengths_59 F c_counts x1 x3 (M_findLengths_309 F x1 x3)) n_59))) n_86)) c_ranked c_lengths c_weight c_weightBefore c_items x4 x5 x6 x7 x8 x9 x10 = some res → va_P E.1 vwCl (M_findLengths_w E a_this a_counts a_ranked a_lengths a_weight a_weightBefore a_items x_row x_starts x_image x_readRow x_readStart x_readAt x_readMany x_piece x_packed x_pairBefore x_pairLast x_tokenLength x_tokenValue x_fixed x_lengthRow x_step x_stepMore x_codes x_symbolTree x_distanceTree x_smallTree x_readLengths x_source x_target c_counts c_ranked c_lengths c_weight c_weightBefore c_items v_plain v_closed v_rowSize v_pieces v_imageSize v_readSize v_readPieces v_packedBits v_tokens v_steps v_sourceFrom v_sourceBits v_readBits v_wrong v_made v_room) H → va_D A (M_findLengths_w E a_this a_counts a_ranked a_lengths a_weight a_weightBefore a_items x_row x_starts x_image x_readRow x_readStart x_readAt x_readMany x_piece x_packed x_pairBefore x_pairLast x_tokenLength x_tokenValue x_fixed x_lengthRow x_step x_stepMore x_codes x_symbolTree x_distanceTree x_smallTree x_readLengths x_source x_target c_counts c_ranked c_lengths c_weight c_weightBefore c_items v_plain v_closed v_rowSize v_pieces v_imageSize v_readSize v_readPieces v_packedBits v_tokens v_steps v_sourceFrom v_sourceBits v_readBits v_wrong v_made v_room) → va_S A s.heap H locs → lv_has ls 12 [(0, .ref a_this), (1, .int x1), (3, .int x3), (4, .int x4), (5, .int x5), (6, .int x6), (7, .int x7), (8, .int x8), (9, .int x9), (10, .int x10)] → W p l e M_findLengths_rm s m args below meth c H locs 0 0 Q (F0 m 171 ls []) := by
                          intro c_ranked c_lengths c_weight c_weightBefore c_items x4 x5 x6 x7 x8 x9 x10 H locs ls hm hP hD hS hl
                          rw [M_findLengths_171] at hm
                          refine lv_iconst (v := 0) hx hb d_M_findLengths_171 (by decide) ?_
                          exact h_172 _ _ _ _ _ _ _ _ _ _ _ _ _ H locs ls hm hP hD hS hl
                        refine lv_iload hx hb d_M_findLengths_141 (lv_at hl 8 rfl) ?_
                        refine lv_iload hx hb d_M_findLengths_143 (lv_at hl 4 rfl) ?_
                        refine lv_icmp_ge (tgt := 171) hx hb d_M_findLengths_145 (by decide) (fun c145 => ?_) (fun c145 => ?_)
                        · replace hm := mC_t hm c145
                          exact h_171 _ _ _ _ _ _ _ _ _ _ _ _ H locs ls hm hP hD hS (lv_sub hl [1, 2, 3, 4, 5, 6, 7, 8, 9, 0] rfl)
                        · replace hm := mC_f hm c145
                          refine lv_aload_n hx hb d_M_findLengths_148 rfl (lv_at hl 1 rfl) ?_
                          refine va_get (D := E.1) (ci := 12) (v := .ref a_counts) (C := R_M) (T := F_M) (N := 46) hx hb hts i_M hown hK hP 0 rfl rfl 22 (by decide) (hts _ tw_817) (fun _ h9 => h9) rfl d_M_findLengths_149 ?_
                          refine lv_iload_n hx hb d_M_findLengths_152 rfl (lv_at hl 2 rfl) ?_
                          refine lv_aload_n hx hb d_M_findLengths_153 rfl (lv_at hl 1 rfl) ?_
                          refine va_get (D := E.1) (ci := 12) (v := .ref a_ranked) (C := R_M) (T := F_M) (N := 46) hx hb hts i_M hown hK hP 0 rfl rfl 25 (by decide) (hts _ tw_820) (fun _ h9 => h9) rfl d_M_findLengths_154 ?_
                          refine lv_iload hx hb d_M_findLengths_157 (lv_at hl 8 rfl) ?_
                          obtain ⟨hi159, hm⟩ := mG_e hm
                          refine va_iald hx hb hK hP 2 0 rfl rfl hi159 d_M_findLengths_159 ?_
                          refine lv_iadd hx hb d_M_findLengths_160 ?_
                          refine lv_topi (fun i_13 ei_13 => ?_)
                          replace hm := mL_e hm i_13 ei_13
                          obtain ⟨hi161, hm⟩ := mG_e hm
                          refine va_iald hx hb hK hP 1 0 rfl rfl hi161 d_M_findLengths_161 ?_
                          refine lv_iload hx hb d_M_findLengths_162 (lv_at hl 0 rfl) ?_
                          refine lv_icmp_gt (tgt := 171) hx hb d_M_findLengths_164 (by decide) (fun c164 => ?_) (fun c164 => ?_)
                          · replace hm := mC_t hm c164
                            exact h_171 _ _ _ _ _ _ _ _ _ _ _ _ H locs ls hm hP hD hS (lv_sub hl [1, 2, 3, 4, 5, 6, 7, 8, 9, 0] rfl)
                          · replace hm := mC_f hm c164
                            exact h_167 _ _ _ _ _ _ _ _ _ _ _ _ H locs ls hm hP hD hS (lv_sub hl [1, 2, 3, 4, 5, 6, 7, 8, 9, 0] rfl)
                    refine lv_iload hx hb d_M_findLengths_100 (lv_at hl 8 rfl) ?_
                    refine lv_iload hx hb d_M_findLengths_102 (lv_at hl 6 rfl) ?_
                    refine lv_icmp_ge (tgt := 131) hx hb d_M_findLengths_104 (by decide) (fun c104 => ?_) (fun c104 => ?_)
                    · replace hm := mC_t hm c104
                      refine lv_iconst (v := 0) hx hb d_M_findLengths_131 (by decide) ?_
                      exact h_132 _ _ _ _ _ _ _ _ _ _ _ _ H locs ls hm hP hD hS hl
                    · replace hm := mC_f hm c104
                      refine lv_aload_n hx hb d_M_findLengths_107 rfl (lv_at hl 0 rfl) ?_
                      refine va_get (D := E.1) (ci := 12) (v := .ref a_weightBefore) (C := R_M) (T := F_M) (N := 46) hx hb hts i_M hown hK hP 0 rfl rfl 27 (by decide) (hts _ tw_822) (fun _ h9 => h9) rfl d_M_findLengths_108 ?_
                      refine lv_iconst (v := 2) hx hb d_M_findLengths_111 (by decide) ?_
                      refine lv_iload hx hb d_M_findLengths_112 (lv_at hl 8 rfl) ?_
                      refine lv_imul hx hb d_M_findLengths_114 ?_
                      refine lv_topi (fun i_14 ei_14 => ?_)
                      replace hm := mL_e hm i_14 ei_14
                      obtain ⟨hi115, hm⟩ := mG_e hm
                      refine va_iald hx hb hK hP 5 0 rfl rfl hi115 d_M_findLengths_115 ?_
                      refine lv_aload_n hx hb d_M_findLengths_116 rfl (lv_at hl 0 rfl) ?_
                      refine va_get (D := E.1) (ci := 12) (v := .ref a_weightBefore) (C := R_M) (T := F_M) (N := 46) hx hb hts i_M hown hK hP 0 rfl rfl 27 (by decide) (hts _ tw_822) (fun _ h9 => h9) rfl d_M_findLengths_117 ?_
                      refine lv_iconst (v := 2) hx hb d_M_findLengths_120 (by decide) ?_
                      refine lv_iload hx hb d_M_findLengths_121 (lv_at hl 8 rfl) ?_
                      refine lv_imul hx hb d_M_findLengths_123 ?_
                      refine lv_iconst (v := 1) hx hb d_M_findLengths_124 (by decide) ?_
                      refine lv_iadd hx hb d_M_findLengths_125 ?_
                      refine lv_topi (fun i_15 ei_15 => ?_)
                      replace hm := mL_e hm i_15 ei_15
                      obtain ⟨hi126, hm⟩ := mG_e hm
                      refine va_iald hx hb hK hP 5 0 rfl rfl hi126 d_M_findLengths_126 ?_
                      refine lv_iadd hx hb d_M_findLengths_127 ?_
                      refine lv_goto (tgt := 132) hx hb d_M_findLengths_128 (by decide) ?_
                      exact h_132 _ _ _ _ _ _ _ _ _ _ _ _ H locs ls hm hP hD hS hl
                  refine lv_iload hx hb d_M_findLengths_86 (lv_at hl 7 rfl) ?_
                  refine lv_iload hx hb d_M_findLengths_88 (lv_at hl 3 rfl) ?_
                  refine lv_icmp_lt (tgt := 100) hx hb d_M_findLengths_90 (by decide) (fun c90 => ?_) (fun c90 => ?_)
                  · replace hm := mC_t hm c90
                    exact h_100 _ _ _ _ _ _ _ _ _ _ _ H locs ls hm hP hD hS hl
                  · replace hm := mC_f hm c90
                    refine lv_iload hx hb d_M_findLengths_93 (lv_at hl 8 rfl) ?_
                    refine lv_iload hx hb d_M_findLengths_95 (lv_at hl 6 rfl) ?_
                    refine lv_icmp_ge (tgt := 273) hx hb d_M_findLengths_97 (by decide) (fun c97 => ?_) (fun c97 => ?_)
                    · replace hm := mC_t hm c97
                      exact h_273 _ _ _ _ _ _ _ _ H locs ls hm hP hD hS (lv_sub hl [0, 1, 2, 3, 4, 5] rfl)
                    · replace hm := mC_f hm c97
                      exact h_100 _ _ _ _ _ _ _ _ _ _ _ H locs ls hm hP hD hS hl
              refine lv_iload hx hb d_M_findLengths_71 (lv_at hl 4 rfl) ?_
              refine lv_iconst (v := 2) hx hb d_M_findLengths_73 (by decide) ?_
              refine lv_idiv hx hb d_M_findLengths_74 (by decide) ?_
              refine lv_topi (fun y7_16 ey7_16 => ?_)
              replace hm := mL_e hm y7_16 ey7_16
              refine lv_istore (lv' := [(7, .int y7_16), (0, .ref a_this), (1, .int x1), (3, .int x3), (4, .int x4), (5, .int x5), (6, .int x6)]) hx hb d_M_findLengths_75 hl (by decide) rfl (fun ls hl => ?_)
              refine lv_iconst (v := 0) hx hb d_M_findLengths_77 (by decide) ?_
              refine lv_istore (lv' := [(8, .int 0), (7, .int y7_16), (0, .ref a_this), (1, .int x1), (3, .int x3), (4, .int x4), (5, .int x5), (6, .int x6)]) hx hb d_M_findLengths_78 hl (by decide) rfl (fun ls hl => ?_)
              refine lv_iconst (v := 0) hx hb d_M_findLengths_80 (by decide) ?_
              refine lv_istore (lv' := [(9, .int 0), (8, .int 0), (7, .int y7_16), (0, .ref a_this), (1, .int x1), (3, .int x3), (4, .int x4), (5, .int x5), (6, .int x6)]) hx hb d_M_findLengths_81 hl (by decide) rfl (fun ls hl => ?_)
              refine lv_iconst (v := 0) hx hb d_M_findLengths_83 (by decide) ?_
              refine lv_istore (lv' := [(5, .int 0), (9, .int 0), (8, .int 0), (7, .int y7_16), (0, .ref a_this), (1, .int x1), (3, .int x3), (4, .int x4), (6, .int x6)]) hx hb d_M_findLengths_84 hl (by decide) rfl (fun ls hl => ?_)
              exact h_86 F _ _ _ _ _ _ _ _ _ _ _ H locs ls hm hP hD hS (lv_sub hl [4, 5, 6, 7, 0, 8, 3, 2, 1] rfl)
      refine lv_iconst (v := 0) hx hb d_M_findLengths_53 (by decide) ?_
      refine lv_istore (lv' := [(5, .int 0), (0, .ref a_this), (1, .int x1), (3, .int x3), (4, .int x4)]) hx hb d_M_findLengths_54 hl (by decide) rfl (fun ls hl => ?_)
      refine lv_iconst (v := 0) hx hb d_M_findLengths_56 (by decide) ?_
      refine lv_istore (lv' := [(6, .int 0), (5, .int 0), (0, .ref a_this), (1, .int x1), (3, .int x3), (4, .int x4)]) hx hb d_M_findLengths_57 hl (by decide) rfl (fun ls hl => ?_)
      exact h_59 F _ _ _ _ _ _ _ _ H locs ls hm hP hD hS (lv_sub hl [2, 3, 4, 5, 1, 0] rfl)
    refine lv_iload hx hb d_M_findLengths_33 (lv_at hl 3 rfl) ?_
    refine lv_iconst (v := 1) hx hb d_M_findLengths_35 (by decide) ?_
    refine lv_icmp_ne (tgt := 53) hx hb d_M_findLengths_36 (by decide) (fun c36 => ?_) (fun c36 => ?_)
    · replace hm := mC_f hm c36
      exact h_53 _ _ _ _ _ _ H locs ls hm hP hD hS hl
    · replace hm := mC_t hm c36
      refine lv_aload_n hx hb d_M_findLengths_39 rfl (lv_at hl 0 rfl) ?_
      refine va_get (D := E.1) (ci := 12) (v := .ref a_lengths) (C := R_M) (T := F_M) (N := 46) hx hb hts i_M hown hK hP 0 rfl rfl 23 (by decide) (hts _ tw_818) (fun _ h9 => h9) rfl d_M_findLengths_40 ?_
      refine lv_iload_n hx hb d_M_findLengths_43 rfl (lv_at hl 1 rfl) ?_
      refine lv_aload_n hx hb d_M_findLengths_44 rfl (lv_at hl 0 rfl) ?_
      refine va_get (D := E.1) (ci := 12) (v := .ref a_ranked) (C := R_M) (T := F_M) (N := 46) hx hb hts i_M hown hK hP 0 rfl rfl 25 (by decide) (hts _ tw_820) (fun _ h9 => h9) rfl d_M_findLengths_45 ?_
      refine lv_iconst (v := 0) hx hb d_M_findLengths_48 (by decide) ?_
      obtain ⟨hi49, hm⟩ := mG_e hm
      refine va_iald hx hb hK hP 2 0 rfl rfl hi49 d_M_findLengths_49 ?_
      refine lv_iadd hx hb d_M_findLengths_50 ?_
      refine lv_iconst (v := 1) hx hb d_M_findLengths_51 (by decide) ?_
      obtain ⟨t_17, et_17⟩ : ∃ z : Int32, z = x1 + (c_ranked (0 : Int32).toNatClampNeg) := ⟨_, rfl⟩
      rw [← et_17]
      replace hm := mL_e hm t_17 et_17
      obtain ⟨hi52, hm⟩ := mG_e hm
      obtain ⟨c_18, ec_18⟩ : ∃ z : Nat → Int32, z = upd c_lengths t_17.toNatClampNeg 1 := ⟨_, rfl⟩
      replace hm := mL_e hm c_18 ec_18
      refine va_iast hx hb hK hP hD hS 3 0 rfl rfl hi52 d_M_findLengths_52 (fun H locs hP hD hS => ?_)
      rw [← ec_18] at hP hD
      replace hP : va_P E.1 vwCl (M_findLengths_w E a_this a_counts a_ranked a_lengths a_weight a_weightBefore a_items x_row x_starts x_image x_readRow x_readStart x_readAt x_readMany x_piece x_packed x_pairBefore x_pairLast x_tokenLength x_tokenValue x_fixed x_lengthRow x_step x_stepMore x_codes x_symbolTree x_distanceTree x_smallTree x_readLengths x_source x_target c_counts c_ranked c_18 c_weight c_weightBefore c_items v_plain v_closed v_rowSize v_pieces v_imageSize v_readSize v_readPieces v_packedBits v_tokens v_steps v_sourceFrom v_sourceBits v_readBits v_wrong v_made v_room) H := hP
      replace hD : va_D A (M_findLengths_w E a_this a_counts a_ranked a_lengths a_weight a_weightBefore a_items x_row x_starts x_image x_readRow x_readStart x_readAt x_readMany x_piece x_packed x_pairBefore x_pairLast x_tokenLength x_tokenValue x_fixed x_lengthRow x_step x_stepMore x_codes x_symbolTree x_distanceTree x_smallTree x_readLengths x_source x_target c_counts c_ranked c_18 c_weight c_weightBefore c_items v_plain v_closed v_rowSize v_pieces v_imageSize v_readSize v_readPieces v_packedBits v_tokens v_steps v_sourceFrom v_sourceBits v_readBits v_wrong v_made v_room) := hD
      exact h_53 _ _ _ _ _ _ H locs ls hm hP hD hS hl
  have h_11 : ∀ (n_11 : Nat) (c_ranked : Nat → Int32) (c_lengths : Nat → Int32) (c_weight : Nat → Int32) (c_weightBefore : Nat → Int32) (c_items : Nat → Int32) (x4 : Int32) (x5 : Int32) (H : Heap) (locs : List Loc) (ls : Array Slot), (mW7 (M_findLengths_11 F x1 x2 (M_findLengths_33 F c_counts x1 x3)) n_11) c_ranked c_lengths c_weight c_weightBefore c_items x4 x5 = some res → va_P E.1 vwCl (M_findLengths_w E a_this a_counts a_ranked a_lengths a_weight a_weightBefore a_items x_row x_starts x_image x_readRow x_readStart x_readAt x_readMany x_piece x_packed x_pairBefore x_pairLast x_tokenLength x_tokenValue x_fixed x_lengthRow x_step x_stepMore x_codes x_symbolTree x_distanceTree x_smallTree x_readLengths x_source x_target c_counts c_ranked c_lengths c_weight c_weightBefore c_items v_plain v_closed v_rowSize v_pieces v_imageSize v_readSize v_readPieces v_packedBits v_tokens v_steps v_sourceFrom v_sourceBits v_readBits v_wrong v_made v_room) H → va_D A (M_findLengths_w E a_this a_counts a_ranked a_lengths a_weight a_weightBefore a_items x_row x_starts x_image x_readRow x_readStart x_readAt x_readMany x_piece x_packed x_pairBefore x_pairLast x_tokenLength x_tokenValue x_fixed x_lengthRow x_step x_stepMore x_codes x_symbolTree x_distanceTree x_smallTree x_readLengths x_source x_target c_counts c_ranked c_lengths c_weight c_weightBefore c_items v_plain v_closed v_rowSize v_pieces v_imageSize v_readSize v_readPieces v_packedBits v_tokens v_steps v_sourceFrom v_sourceBits v_readBits v_wrong v_made v_room) → va_S A s.heap H locs → lv_has ls 12 [(0, .ref a_this), (1, .int x1), (2, .int x2), (3, .int x3), (4, .int x4), (5, .int x5)] → W p l e M_findLengths_rm s m args below meth c H locs 0 0 Q (F0 m 11 ls []) := by
    intro n_11
    induction n_11 with
    | zero => exact fun _ _ _ _ _ _ _ _ _ _ hm _ _ _ _ => (mW7_z hm).elim
    | succ n_11 ih_11 =>
      intro c_ranked c_lengths c_weight c_weightBefore c_items x4 x5 H locs ls hm hP hD hS hl
      replace hm := mW7_s hm
      rw [M_findLengths_11] at hm
      refine lv_iload hx hb d_M_findLengths_11 (lv_at hl 5 rfl) ?_
      refine lv_iload_n hx hb d_M_findLengths_13 rfl (lv_at hl 2 rfl) ?_
      refine lv_icmp_ge (tgt := 33) hx hb d_M_findLengths_14 (by decide) (fun c14 => ?_) (fun c14 => ?_)
      · replace hm := mC_t hm c14
        exact h_33 _ _ _ _ _ _ H locs ls hm hP hD hS (lv_sub hl [0, 1, 3, 4] rfl)
      · replace hm := mC_f hm c14
        refine lv_aload_n hx hb d_M_findLengths_17 rfl (lv_at hl 0 rfl) ?_
        refine va_get (D := E.1) (ci := 12) (v := .ref a_lengths) (C := R_M) (T := F_M) (N := 46) hx hb hts i_M hown hK hP 0 rfl rfl 23 (by decide) (hts _ tw_818) (fun _ h9 => h9) rfl d_M_findLengths_18 ?_
        refine lv_iload_n hx hb d_M_findLengths_21 rfl (lv_at hl 1 rfl) ?_
        refine lv_iload hx hb d_M_findLengths_22 (lv_at hl 5 rfl) ?_
        refine lv_iadd hx hb d_M_findLengths_24 ?_
        refine lv_iconst (v := 0) hx hb d_M_findLengths_25 (by decide) ?_
        obtain ⟨t_19, et_19⟩ : ∃ z : Int32, z = x1 + x5 := ⟨_, rfl⟩
        rw [← et_19]
        replace hm := mL_e hm t_19 et_19
        obtain ⟨hi26, hm⟩ := mG_e hm
        obtain ⟨c_20, ec_20⟩ : ∃ z : Nat → Int32, z = upd c_lengths t_19.toNatClampNeg 0 := ⟨_, rfl⟩
        replace hm := mL_e hm c_20 ec_20
        refine va_iast hx hb hK hP hD hS 3 0 rfl rfl hi26 d_M_findLengths_26 (fun H locs hP hD hS => ?_)
        rw [← ec_20] at hP hD
        replace hP : va_P E.1 vwCl (M_findLengths_w E a_this a_counts a_ranked a_lengths a_weight a_weightBefore a_items x_row x_starts x_image x_readRow x_readStart x_readAt x_readMany x_piece x_packed x_pairBefore x_pairLast x_tokenLength x_tokenValue x_fixed x_lengthRow x_step x_stepMore x_codes x_symbolTree x_distanceTree x_smallTree x_readLengths x_source x_target c_counts c_ranked c_20 c_weight c_weightBefore c_items v_plain v_closed v_rowSize v_pieces v_imageSize v_readSize v_readPieces v_packedBits v_tokens v_steps v_sourceFrom v_sourceBits v_readBits v_wrong v_made v_room) H := hP
        replace hD : va_D A (M_findLengths_w E a_this a_counts a_ranked a_lengths a_weight a_weightBefore a_items x_row x_starts x_image x_readRow x_readStart x_readAt x_readMany x_piece x_packed x_pairBefore x_pairLast x_tokenLength x_tokenValue x_fixed x_lengthRow x_step x_stepMore x_codes x_symbolTree x_distanceTree x_smallTree x_readLengths x_source x_target c_counts c_ranked c_20 c_weight c_weightBefore c_items v_plain v_closed v_rowSize v_pieces v_imageSize v_readSize v_readPieces v_packedBits v_tokens v_steps v_sourceFrom v_sourceBits v_readBits v_wrong v_made v_room) := hD
        obtain ⟨y5_21, ey5_21⟩ : ∃ y : Int32, y = x5 + 1 := ⟨_, rfl⟩
        replace hm := mL_e hm y5_21 ey5_21
        refine lv_iinc (v := y5_21) (lv' := [(5, .int y5_21), (0, .ref a_this), (1, .int x1), (2, .int x2), (3, .int x3), (4, .int x4)]) hx hb d_M_findLengths_27 hl (k := 5) rfl (by rw [ey5_21]; rfl) (by decide) rfl (fun ls hl => ?_)
        refine lv_goto (tgt := 11) hx hb d_M_findLengths_30 (by decide) ?_
        exact ih_11 _ _ _ _ _ _ _ H locs ls hm hP hD hS (lv_sub hl [1, 2, 3, 4, 5, 0] rfl)
  refine lv_aload_n hx hb d_M_findLengths_0 rfl (lv_at hl 0 rfl) ?_
  refine lv_iload_n hx hb d_M_findLengths_1 rfl (lv_at hl 1 rfl) ?_
  refine lv_iload_n hx hb d_M_findLengths_2 rfl (lv_at hl 2 rfl) ?_
  obtain ⟨r_23, c_ranked_22, hc3, hm⟩ := mR1_e hm
  refine xmi (wc := (M_rank_w E a_this a_counts a_ranked x_row x_starts x_image x_readRow x_readStart x_readAt x_readMany x_piece x_packed x_pairBefore x_pairLast x_tokenLength x_tokenValue (.ref a_lengths) x_fixed (.ref a_weight) (.ref a_weightBefore) (.ref a_items) x_lengthRow x_step x_stepMore x_codes x_symbolTree x_distanceTree x_smallTree x_readLengths x_source x_target c_counts c_ranked v_plain v_closed v_rowSize v_pieces v_imageSize v_readSize v_readPieces v_packedBits v_tokens v_steps v_sourceFrom v_sourceBits v_readBits v_wrong v_made v_room)) [true, true, true, false, false, false, false] [0, 1, 2] [0, 1, 2] hP hD hS hA rfl (by decide) (by decide) 3 (by decide) (fun _ => rfl) (fun hPc hDc hFc => va_runV (As := [.int x1, .int x2]) (rest := []) ⟨hx, hb, hml, hown, hts⟩ (c_M_rank l E F H.size a_this a_counts a_ranked x_row x_starts x_image x_readRow x_readStart x_readAt x_readMany x_piece x_packed x_pairBefore x_pairLast x_tokenLength x_tokenValue (.ref a_lengths) x_fixed (.ref a_weight) (.ref a_weightBefore) (.ref a_items) x_lengthRow x_step x_stepMore x_codes x_symbolTree x_distanceTree x_smallTree x_readLengths x_source x_target c_counts c_ranked v_plain v_closed v_rowSize v_pieces v_imageSize v_readSize v_readPieces v_packedBits v_tokens v_steps v_sourceFrom v_sourceBits v_readBits v_wrong v_made v_room x1 x2 (r_23, c_ranked_22) hc3) (cwV 2 hts (x_gV tw_1001 tw_1003 tw_40 tw_79 tw_1004) rfl rfl rfl (by decide +kernel) ⟨Nat.le_of_ble_eq_true rfl, Nat.le_of_ble_eq_true rfl⟩) (xPV 12 0 rfl rfl hPc hDc hFc hK hI hN hS) rfl rfl hl.1 rfl (lv_room (Nat.le_of_ble_eq_true rfl)) d_M_findLengths_3 ⟨Nat.le_of_ble_eq_true rfl, Nat.le_of_ble_eq_true rfl⟩) (fun r9 u9 H locs hw hP hD hS => ?_)
  have hw1 : r_23 = r9 := hw.1.symm
  subst hw1
  have hw2 : c_ranked_22 = u9 := hw.2.symm
  subst hw2
  replace hP : va_P E.1 vwCl (M_findLengths_w E a_this a_counts a_ranked a_lengths a_weight a_weightBefore a_items x_row x_starts x_image x_readRow x_readStart x_readAt x_readMany x_piece x_packed x_pairBefore x_pairLast x_tokenLength x_tokenValue x_fixed x_lengthRow x_step x_stepMore x_codes x_symbolTree x_distanceTree x_smallTree x_readLengths x_source x_target c_counts c_ranked_22 c_lengths c_weight c_weightBefore c_items v_plain v_closed v_rowSize v_pieces v_imageSize v_readSize v_readPieces v_packedBits v_tokens v_steps v_sourceFrom v_sourceBits v_readBits v_wrong v_made v_room) H := hP
  replace hD : va_D A (M_findLengths_w E a_this a_counts a_ranked a_lengths a_weight a_weightBefore a_items x_row x_starts x_image x_readRow x_readStart x_readAt x_readMany x_piece x_packed x_pairBefore x_pairLast x_tokenLength x_tokenValue x_fixed x_lengthRow x_step x_stepMore x_codes x_symbolTree x_distanceTree x_smallTree x_readLengths x_source x_target c_counts c_ranked_22 c_lengths c_weight c_weightBefore c_items v_plain v_closed v_rowSize v_pieces v_imageSize v_readSize v_readPieces v_packedBits v_tokens v_steps v_sourceFrom v_sourceBits v_readBits v_wrong v_made v_room) := hD
  refine lv_istore (lv' := [(4, .int r_23), (0, .ref a_this), (1, .int x1), (2, .int x2), (3, .int x3)]) hx hb d_M_findLengths_6 hl (by decide) rfl (fun ls hl => ?_)
  refine lv_iconst (v := 0) hx hb d_M_findLengths_8 (by decide) ?_
  refine lv_istore (lv' := [(5, .int 0), (4, .int r_23), (0, .ref a_this), (1, .int x1), (2, .int x2), (3, .int x3)]) hx hb d_M_findLengths_9 hl (by decide) rfl (fun ls hl => ?_)
  exact h_11 F _ _ _ _ _ _ _ H locs ls hm hP hD hS (lv_sub hl [2, 3, 4, 5, 1, 0] rfl)
