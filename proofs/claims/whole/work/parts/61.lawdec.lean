theorem d_Law_law_0 : decode code 0 = .ok (.new 7, 3) := by decide +kernel
theorem d_Law_law_3 : decode code 3 = .ok (.dup, 1) := by decide +kernel
theorem d_Law_law_4 : decode code 4 = .ok (.invokespecial 9, 3) := by decide +kernel
theorem d_Law_law_7 : decode code 7 = .ok (.astore_n 1, 1) := by decide +kernel
theorem d_Law_law_8 : decode code 8 = .ok (.new 10, 3) := by decide +kernel
theorem d_Law_law_11 : decode code 11 = .ok (.dup, 1) := by decide +kernel
theorem d_Law_law_12 : decode code 12 = .ok (.invokespecial 12, 3) := by decide +kernel
theorem d_Law_law_15 : decode code 15 = .ok (.astore_n 2, 1) := by decide +kernel
theorem d_Law_law_16 : decode code 16 = .ok (.iconst 0, 1) := by decide +kernel
theorem d_Law_law_17 : decode code 17 = .ok (.istore_n 3, 1) := by decide +kernel
theorem d_Law_law_18 : decode code 18 = .ok (.iload_n 3, 1) := by decide +kernel
theorem d_Law_law_19 : decode code 19 = .ok (.aload_n 0, 1) := by decide +kernel
theorem d_Law_law_20 : decode code 20 = .ok (.arraylength, 1) := by decide +kernel
theorem d_Law_law_21 : decode code 21 = .ok (.iconst 4, 1) := by decide +kernel
theorem d_Law_law_22 : decode code 22 = .ok (.isub, 1) := by decide +kernel
theorem d_Law_law_23 : decode code 23 = .ok (.if_icmp .gt 441, 3) := by decide +kernel
theorem d_Law_law_26 : decode code 26 = .ok (.aload_n 0, 1) := by decide +kernel
theorem d_Law_law_27 : decode code 27 = .ok (.iload_n 3, 1) := by decide +kernel
theorem d_Law_law_28 : decode code 28 = .ok (.iaload, 1) := by decide +kernel
theorem d_Law_law_29 : decode code 29 = .ok (.bipush 15, 2) := by decide +kernel
theorem d_Law_law_31 : decode code 31 = .ok (.iand, 1) := by decide +kernel
theorem d_Law_law_32 : decode code 32 = .ok (.tableswitch 426 0 11 #[64, 101, 164, 207, 221, 234, 257, 281, 314, 337, 350, 403], 64) := by decide +kernel
theorem d_Law_law_96 : decode code 96 = .ok (.aload_n 1, 1) := by decide +kernel
theorem d_Law_law_97 : decode code 97 = .ok (.aload_n 0, 1) := by decide +kernel
theorem d_Law_law_98 : decode code 98 = .ok (.iload_n 3, 1) := by decide +kernel
theorem d_Law_law_99 : decode code 99 = .ok (.iconst 1, 1) := by decide +kernel
theorem d_Law_law_100 : decode code 100 = .ok (.iadd, 1) := by decide +kernel
theorem d_Law_law_101 : decode code 101 = .ok (.iaload, 1) := by decide +kernel
theorem d_Law_law_102 : decode code 102 = .ok (.ifCond .eq 7, 3) := by decide +kernel
theorem d_Law_law_105 : decode code 105 = .ok (.iconst 1, 1) := by decide +kernel
theorem d_Law_law_106 : decode code 106 = .ok (.goto 4, 3) := by decide +kernel
theorem d_Law_law_109 : decode code 109 = .ok (.iconst 0, 1) := by decide +kernel
theorem d_Law_law_110 : decode code 110 = .ok (.invokevirtual 13, 3) := by decide +kernel
theorem d_Law_law_113 : decode code 113 = .ok (.aload_n 2, 1) := by decide +kernel
theorem d_Law_law_114 : decode code 114 = .ok (.aload_n 0, 1) := by decide +kernel
theorem d_Law_law_115 : decode code 115 = .ok (.iload_n 3, 1) := by decide +kernel
theorem d_Law_law_116 : decode code 116 = .ok (.iconst 1, 1) := by decide +kernel
theorem d_Law_law_117 : decode code 117 = .ok (.iadd, 1) := by decide +kernel
theorem d_Law_law_118 : decode code 118 = .ok (.iaload, 1) := by decide +kernel
theorem d_Law_law_119 : decode code 119 = .ok (.ifCond .eq 7, 3) := by decide +kernel
theorem d_Law_law_122 : decode code 122 = .ok (.iconst 1, 1) := by decide +kernel
theorem d_Law_law_123 : decode code 123 = .ok (.goto 4, 3) := by decide +kernel
theorem d_Law_law_126 : decode code 126 = .ok (.iconst 0, 1) := by decide +kernel
theorem d_Law_law_127 : decode code 127 = .ok (.invokevirtual 17, 3) := by decide +kernel
theorem d_Law_law_130 : decode code 130 = .ok (.goto 328, 3) := by decide +kernel
theorem d_Law_law_133 : decode code 133 = .ok (.aload_n 1, 1) := by decide +kernel
theorem d_Law_law_134 : decode code 134 = .ok (.aload_n 0, 1) := by decide +kernel
theorem d_Law_law_135 : decode code 135 = .ok (.iload_n 3, 1) := by decide +kernel
theorem d_Law_law_136 : decode code 136 = .ok (.iconst 1, 1) := by decide +kernel
theorem d_Law_law_137 : decode code 137 = .ok (.iadd, 1) := by decide +kernel
theorem d_Law_law_138 : decode code 138 = .ok (.iaload, 1) := by decide +kernel
theorem d_Law_law_139 : decode code 139 = .ok (.i2l, 1) := by decide +kernel
theorem d_Law_law_140 : decode code 140 = .ok (.bipush 32, 2) := by decide +kernel
theorem d_Law_law_142 : decode code 142 = .ok (.lshl, 1) := by decide +kernel
theorem d_Law_law_143 : decode code 143 = .ok (.aload_n 0, 1) := by decide +kernel
theorem d_Law_law_144 : decode code 144 = .ok (.iload_n 3, 1) := by decide +kernel
theorem d_Law_law_145 : decode code 145 = .ok (.iconst 2, 1) := by decide +kernel
theorem d_Law_law_146 : decode code 146 = .ok (.iadd, 1) := by decide +kernel
theorem d_Law_law_147 : decode code 147 = .ok (.iaload, 1) := by decide +kernel
theorem d_Law_law_148 : decode code 148 = .ok (.i2l, 1) := by decide +kernel
theorem d_Law_law_149 : decode code 149 = .ok (.ldc2_w 18, 3) := by decide +kernel
theorem d_Law_law_152 : decode code 152 = .ok (.land, 1) := by decide +kernel
theorem d_Law_law_153 : decode code 153 = .ok (.lor, 1) := by decide +kernel
theorem d_Law_law_154 : decode code 154 = .ok (.aload_n 0, 1) := by decide +kernel
theorem d_Law_law_155 : decode code 155 = .ok (.iload_n 3, 1) := by decide +kernel
theorem d_Law_law_156 : decode code 156 = .ok (.iconst 3, 1) := by decide +kernel
theorem d_Law_law_157 : decode code 157 = .ok (.iadd, 1) := by decide +kernel
theorem d_Law_law_158 : decode code 158 = .ok (.iaload, 1) := by decide +kernel
theorem d_Law_law_159 : decode code 159 = .ok (.invokevirtual 20, 3) := by decide +kernel
theorem d_Law_law_162 : decode code 162 = .ok (.aload_n 2, 1) := by decide +kernel
theorem d_Law_law_163 : decode code 163 = .ok (.aload_n 0, 1) := by decide +kernel
theorem d_Law_law_164 : decode code 164 = .ok (.iload_n 3, 1) := by decide +kernel
theorem d_Law_law_165 : decode code 165 = .ok (.iconst 1, 1) := by decide +kernel
theorem d_Law_law_166 : decode code 166 = .ok (.iadd, 1) := by decide +kernel
theorem d_Law_law_167 : decode code 167 = .ok (.iaload, 1) := by decide +kernel
theorem d_Law_law_168 : decode code 168 = .ok (.i2l, 1) := by decide +kernel
theorem d_Law_law_169 : decode code 169 = .ok (.bipush 32, 2) := by decide +kernel
theorem d_Law_law_171 : decode code 171 = .ok (.lshl, 1) := by decide +kernel
theorem d_Law_law_172 : decode code 172 = .ok (.aload_n 0, 1) := by decide +kernel
theorem d_Law_law_173 : decode code 173 = .ok (.iload_n 3, 1) := by decide +kernel
theorem d_Law_law_174 : decode code 174 = .ok (.iconst 2, 1) := by decide +kernel
theorem d_Law_law_175 : decode code 175 = .ok (.iadd, 1) := by decide +kernel
theorem d_Law_law_176 : decode code 176 = .ok (.iaload, 1) := by decide +kernel
theorem d_Law_law_177 : decode code 177 = .ok (.i2l, 1) := by decide +kernel
theorem d_Law_law_178 : decode code 178 = .ok (.ldc2_w 18, 3) := by decide +kernel
theorem d_Law_law_181 : decode code 181 = .ok (.land, 1) := by decide +kernel
theorem d_Law_law_182 : decode code 182 = .ok (.lor, 1) := by decide +kernel
theorem d_Law_law_183 : decode code 183 = .ok (.aload_n 0, 1) := by decide +kernel
theorem d_Law_law_184 : decode code 184 = .ok (.iload_n 3, 1) := by decide +kernel
theorem d_Law_law_185 : decode code 185 = .ok (.iconst 3, 1) := by decide +kernel
theorem d_Law_law_186 : decode code 186 = .ok (.iadd, 1) := by decide +kernel
theorem d_Law_law_187 : decode code 187 = .ok (.iaload, 1) := by decide +kernel
theorem d_Law_law_188 : decode code 188 = .ok (.invokevirtual 24, 3) := by decide +kernel
theorem d_Law_law_191 : decode code 191 = .ok (.if_icmp .eq 267, 3) := by decide +kernel
theorem d_Law_law_194 : decode code 194 = .ok (.iconst 0, 1) := by decide +kernel
theorem d_Law_law_195 : decode code 195 = .ok (.ireturn, 1) := by decide +kernel
theorem d_Law_law_196 : decode code 196 = .ok (.aload_n 1, 1) := by decide +kernel
theorem d_Law_law_197 : decode code 197 = .ok (.aload_n 0, 1) := by decide +kernel
theorem d_Law_law_198 : decode code 198 = .ok (.iload_n 3, 1) := by decide +kernel
theorem d_Law_law_199 : decode code 199 = .ok (.iconst 1, 1) := by decide +kernel
theorem d_Law_law_200 : decode code 200 = .ok (.iadd, 1) := by decide +kernel
theorem d_Law_law_201 : decode code 201 = .ok (.iaload, 1) := by decide +kernel
theorem d_Law_law_202 : decode code 202 = .ok (.aload_n 0, 1) := by decide +kernel
theorem d_Law_law_203 : decode code 203 = .ok (.iload_n 3, 1) := by decide +kernel
theorem d_Law_law_204 : decode code 204 = .ok (.iconst 2, 1) := by decide +kernel
theorem d_Law_law_205 : decode code 205 = .ok (.iadd, 1) := by decide +kernel
theorem d_Law_law_206 : decode code 206 = .ok (.iaload, 1) := by decide +kernel
theorem d_Law_law_207 : decode code 207 = .ok (.aload_n 0, 1) := by decide +kernel
theorem d_Law_law_208 : decode code 208 = .ok (.iload_n 3, 1) := by decide +kernel
theorem d_Law_law_209 : decode code 209 = .ok (.iconst 3, 1) := by decide +kernel
theorem d_Law_law_210 : decode code 210 = .ok (.iadd, 1) := by decide +kernel
theorem d_Law_law_211 : decode code 211 = .ok (.iaload, 1) := by decide +kernel
theorem d_Law_law_212 : decode code 212 = .ok (.invokevirtual 25, 3) := by decide +kernel
theorem d_Law_law_215 : decode code 215 = .ok (.aload_n 2, 1) := by decide +kernel
theorem d_Law_law_216 : decode code 216 = .ok (.aload_n 0, 1) := by decide +kernel
theorem d_Law_law_217 : decode code 217 = .ok (.iload_n 3, 1) := by decide +kernel
theorem d_Law_law_218 : decode code 218 = .ok (.iconst 1, 1) := by decide +kernel
theorem d_Law_law_219 : decode code 219 = .ok (.iadd, 1) := by decide +kernel
theorem d_Law_law_220 : decode code 220 = .ok (.iaload, 1) := by decide +kernel
theorem d_Law_law_221 : decode code 221 = .ok (.aload_n 0, 1) := by decide +kernel
theorem d_Law_law_222 : decode code 222 = .ok (.iload_n 3, 1) := by decide +kernel
theorem d_Law_law_223 : decode code 223 = .ok (.iconst 2, 1) := by decide +kernel
theorem d_Law_law_224 : decode code 224 = .ok (.iadd, 1) := by decide +kernel
theorem d_Law_law_225 : decode code 225 = .ok (.iaload, 1) := by decide +kernel
theorem d_Law_law_226 : decode code 226 = .ok (.aload_n 0, 1) := by decide +kernel
theorem d_Law_law_227 : decode code 227 = .ok (.iload_n 3, 1) := by decide +kernel
theorem d_Law_law_228 : decode code 228 = .ok (.iconst 3, 1) := by decide +kernel
theorem d_Law_law_229 : decode code 229 = .ok (.iadd, 1) := by decide +kernel
theorem d_Law_law_230 : decode code 230 = .ok (.iaload, 1) := by decide +kernel
theorem d_Law_law_231 : decode code 231 = .ok (.invokevirtual 29, 3) := by decide +kernel
theorem d_Law_law_234 : decode code 234 = .ok (.if_icmp .eq 224, 3) := by decide +kernel
theorem d_Law_law_237 : decode code 237 = .ok (.iconst 0, 1) := by decide +kernel
theorem d_Law_law_238 : decode code 238 = .ok (.ireturn, 1) := by decide +kernel
theorem d_Law_law_239 : decode code 239 = .ok (.aload_n 1, 1) := by decide +kernel
theorem d_Law_law_240 : decode code 240 = .ok (.invokevirtual 30, 3) := by decide +kernel
theorem d_Law_law_243 : decode code 243 = .ok (.aload_n 2, 1) := by decide +kernel
theorem d_Law_law_244 : decode code 244 = .ok (.invokevirtual 34, 3) := by decide +kernel
theorem d_Law_law_247 : decode code 247 = .ok (.lcmp, 1) := by decide +kernel
theorem d_Law_law_248 : decode code 248 = .ok (.ifCond .eq 210, 3) := by decide +kernel
theorem d_Law_law_251 : decode code 251 = .ok (.iconst 0, 1) := by decide +kernel
theorem d_Law_law_252 : decode code 252 = .ok (.ireturn, 1) := by decide +kernel
theorem d_Law_law_253 : decode code 253 = .ok (.aload_n 1, 1) := by decide +kernel
theorem d_Law_law_254 : decode code 254 = .ok (.invokevirtual 35, 3) := by decide +kernel
theorem d_Law_law_257 : decode code 257 = .ok (.aload_n 2, 1) := by decide +kernel
theorem d_Law_law_258 : decode code 258 = .ok (.invokevirtual 39, 3) := by decide +kernel
theorem d_Law_law_261 : decode code 261 = .ok (.if_icmp .eq 197, 3) := by decide +kernel
theorem d_Law_law_264 : decode code 264 = .ok (.iconst 0, 1) := by decide +kernel
theorem d_Law_law_265 : decode code 265 = .ok (.ireturn, 1) := by decide +kernel
theorem d_Law_law_266 : decode code 266 = .ok (.aload_n 1, 1) := by decide +kernel
theorem d_Law_law_267 : decode code 267 = .ok (.aload_n 0, 1) := by decide +kernel
theorem d_Law_law_268 : decode code 268 = .ok (.iload_n 3, 1) := by decide +kernel
theorem d_Law_law_269 : decode code 269 = .ok (.iconst 1, 1) := by decide +kernel
theorem d_Law_law_270 : decode code 270 = .ok (.iadd, 1) := by decide +kernel
theorem d_Law_law_271 : decode code 271 = .ok (.iaload, 1) := by decide +kernel
theorem d_Law_law_272 : decode code 272 = .ok (.invokevirtual 40, 3) := by decide +kernel
theorem d_Law_law_275 : decode code 275 = .ok (.aload_n 2, 1) := by decide +kernel
theorem d_Law_law_276 : decode code 276 = .ok (.aload_n 0, 1) := by decide +kernel
theorem d_Law_law_277 : decode code 277 = .ok (.iload_n 3, 1) := by decide +kernel
theorem d_Law_law_278 : decode code 278 = .ok (.iconst 1, 1) := by decide +kernel
theorem d_Law_law_279 : decode code 279 = .ok (.iadd, 1) := by decide +kernel
theorem d_Law_law_280 : decode code 280 = .ok (.iaload, 1) := by decide +kernel
theorem d_Law_law_281 : decode code 281 = .ok (.invokevirtual 44, 3) := by decide +kernel
theorem d_Law_law_284 : decode code 284 = .ok (.if_icmp .eq 174, 3) := by decide +kernel
theorem d_Law_law_287 : decode code 287 = .ok (.iconst 0, 1) := by decide +kernel
theorem d_Law_law_288 : decode code 288 = .ok (.ireturn, 1) := by decide +kernel
theorem d_Law_law_289 : decode code 289 = .ok (.aload_n 1, 1) := by decide +kernel
theorem d_Law_law_290 : decode code 290 = .ok (.aload_n 0, 1) := by decide +kernel
theorem d_Law_law_291 : decode code 291 = .ok (.iload_n 3, 1) := by decide +kernel
theorem d_Law_law_292 : decode code 292 = .ok (.iconst 1, 1) := by decide +kernel
theorem d_Law_law_293 : decode code 293 = .ok (.iadd, 1) := by decide +kernel
theorem d_Law_law_294 : decode code 294 = .ok (.iaload, 1) := by decide +kernel
theorem d_Law_law_295 : decode code 295 = .ok (.invokevirtual 45, 3) := by decide +kernel
theorem d_Law_law_298 : decode code 298 = .ok (.aload_n 2, 1) := by decide +kernel
theorem d_Law_law_299 : decode code 299 = .ok (.aload_n 0, 1) := by decide +kernel
theorem d_Law_law_300 : decode code 300 = .ok (.iload_n 3, 1) := by decide +kernel
theorem d_Law_law_301 : decode code 301 = .ok (.iconst 1, 1) := by decide +kernel
theorem d_Law_law_302 : decode code 302 = .ok (.iadd, 1) := by decide +kernel
theorem d_Law_law_303 : decode code 303 = .ok (.iaload, 1) := by decide +kernel
theorem d_Law_law_304 : decode code 304 = .ok (.invokevirtual 49, 3) := by decide +kernel
theorem d_Law_law_307 : decode code 307 = .ok (.lcmp, 1) := by decide +kernel
theorem d_Law_law_308 : decode code 308 = .ok (.ifCond .eq 150, 3) := by decide +kernel
theorem d_Law_law_311 : decode code 311 = .ok (.iconst 0, 1) := by decide +kernel
theorem d_Law_law_312 : decode code 312 = .ok (.ireturn, 1) := by decide +kernel
theorem d_Law_law_313 : decode code 313 = .ok (.aload_n 1, 1) := by decide +kernel
theorem d_Law_law_314 : decode code 314 = .ok (.aload_n 0, 1) := by decide +kernel
theorem d_Law_law_315 : decode code 315 = .ok (.iload_n 3, 1) := by decide +kernel
theorem d_Law_law_316 : decode code 316 = .ok (.iconst 1, 1) := by decide +kernel
theorem d_Law_law_317 : decode code 317 = .ok (.iadd, 1) := by decide +kernel
theorem d_Law_law_318 : decode code 318 = .ok (.iaload, 1) := by decide +kernel
theorem d_Law_law_319 : decode code 319 = .ok (.aload_n 0, 1) := by decide +kernel
theorem d_Law_law_320 : decode code 320 = .ok (.iload_n 3, 1) := by decide +kernel
theorem d_Law_law_321 : decode code 321 = .ok (.iconst 2, 1) := by decide +kernel
theorem d_Law_law_322 : decode code 322 = .ok (.iadd, 1) := by decide +kernel
theorem d_Law_law_323 : decode code 323 = .ok (.iaload, 1) := by decide +kernel
theorem d_Law_law_324 : decode code 324 = .ok (.invokevirtual 50, 3) := by decide +kernel
theorem d_Law_law_327 : decode code 327 = .ok (.aload_n 2, 1) := by decide +kernel
theorem d_Law_law_328 : decode code 328 = .ok (.aload_n 0, 1) := by decide +kernel
theorem d_Law_law_329 : decode code 329 = .ok (.iload_n 3, 1) := by decide +kernel
theorem d_Law_law_330 : decode code 330 = .ok (.iconst 1, 1) := by decide +kernel
theorem d_Law_law_331 : decode code 331 = .ok (.iadd, 1) := by decide +kernel
theorem d_Law_law_332 : decode code 332 = .ok (.iaload, 1) := by decide +kernel
theorem d_Law_law_333 : decode code 333 = .ok (.aload_n 0, 1) := by decide +kernel
theorem d_Law_law_334 : decode code 334 = .ok (.iload_n 3, 1) := by decide +kernel
theorem d_Law_law_335 : decode code 335 = .ok (.iconst 2, 1) := by decide +kernel
theorem d_Law_law_336 : decode code 336 = .ok (.iadd, 1) := by decide +kernel
theorem d_Law_law_337 : decode code 337 = .ok (.iaload, 1) := by decide +kernel
theorem d_Law_law_338 : decode code 338 = .ok (.invokevirtual 54, 3) := by decide +kernel
theorem d_Law_law_341 : decode code 341 = .ok (.if_icmp .eq 117, 3) := by decide +kernel
theorem d_Law_law_344 : decode code 344 = .ok (.iconst 0, 1) := by decide +kernel
theorem d_Law_law_345 : decode code 345 = .ok (.ireturn, 1) := by decide +kernel
theorem d_Law_law_346 : decode code 346 = .ok (.aload_n 1, 1) := by decide +kernel
theorem d_Law_law_347 : decode code 347 = .ok (.aload_n 0, 1) := by decide +kernel
theorem d_Law_law_348 : decode code 348 = .ok (.iload_n 3, 1) := by decide +kernel
theorem d_Law_law_349 : decode code 349 = .ok (.iconst 1, 1) := by decide +kernel
theorem d_Law_law_350 : decode code 350 = .ok (.iadd, 1) := by decide +kernel
theorem d_Law_law_351 : decode code 351 = .ok (.iaload, 1) := by decide +kernel
theorem d_Law_law_352 : decode code 352 = .ok (.invokevirtual 55, 3) := by decide +kernel
theorem d_Law_law_355 : decode code 355 = .ok (.aload_n 2, 1) := by decide +kernel
theorem d_Law_law_356 : decode code 356 = .ok (.aload_n 0, 1) := by decide +kernel
theorem d_Law_law_357 : decode code 357 = .ok (.iload_n 3, 1) := by decide +kernel
theorem d_Law_law_358 : decode code 358 = .ok (.iconst 1, 1) := by decide +kernel
theorem d_Law_law_359 : decode code 359 = .ok (.iadd, 1) := by decide +kernel
theorem d_Law_law_360 : decode code 360 = .ok (.iaload, 1) := by decide +kernel
theorem d_Law_law_361 : decode code 361 = .ok (.invokevirtual 58, 3) := by decide +kernel
theorem d_Law_law_364 : decode code 364 = .ok (.if_icmp .eq 94, 3) := by decide +kernel
theorem d_Law_law_367 : decode code 367 = .ok (.iconst 0, 1) := by decide +kernel
theorem d_Law_law_368 : decode code 368 = .ok (.ireturn, 1) := by decide +kernel
theorem d_Law_law_369 : decode code 369 = .ok (.aload_n 1, 1) := by decide +kernel
theorem d_Law_law_370 : decode code 370 = .ok (.invokevirtual 59, 3) := by decide +kernel
theorem d_Law_law_373 : decode code 373 = .ok (.aload_n 2, 1) := by decide +kernel
theorem d_Law_law_374 : decode code 374 = .ok (.invokevirtual 62, 3) := by decide +kernel
theorem d_Law_law_377 : decode code 377 = .ok (.if_icmp .eq 81, 3) := by decide +kernel
theorem d_Law_law_380 : decode code 380 = .ok (.iconst 0, 1) := by decide +kernel
theorem d_Law_law_381 : decode code 381 = .ok (.ireturn, 1) := by decide +kernel
theorem d_Law_law_382 : decode code 382 = .ok (.aload_n 1, 1) := by decide +kernel
theorem d_Law_law_383 : decode code 383 = .ok (.aload_n 0, 1) := by decide +kernel
theorem d_Law_law_384 : decode code 384 = .ok (.iload_n 3, 1) := by decide +kernel
theorem d_Law_law_385 : decode code 385 = .ok (.iconst 1, 1) := by decide +kernel
theorem d_Law_law_386 : decode code 386 = .ok (.iadd, 1) := by decide +kernel
theorem d_Law_law_387 : decode code 387 = .ok (.iaload, 1) := by decide +kernel
theorem d_Law_law_388 : decode code 388 = .ok (.i2l, 1) := by decide +kernel
theorem d_Law_law_389 : decode code 389 = .ok (.bipush 32, 2) := by decide +kernel
theorem d_Law_law_391 : decode code 391 = .ok (.lshl, 1) := by decide +kernel
theorem d_Law_law_392 : decode code 392 = .ok (.aload_n 0, 1) := by decide +kernel
theorem d_Law_law_393 : decode code 393 = .ok (.iload_n 3, 1) := by decide +kernel
theorem d_Law_law_394 : decode code 394 = .ok (.iconst 2, 1) := by decide +kernel
theorem d_Law_law_395 : decode code 395 = .ok (.iadd, 1) := by decide +kernel
theorem d_Law_law_396 : decode code 396 = .ok (.iaload, 1) := by decide +kernel
theorem d_Law_law_397 : decode code 397 = .ok (.i2l, 1) := by decide +kernel
theorem d_Law_law_398 : decode code 398 = .ok (.ldc2_w 18, 3) := by decide +kernel
theorem d_Law_law_401 : decode code 401 = .ok (.land, 1) := by decide +kernel
theorem d_Law_law_402 : decode code 402 = .ok (.lor, 1) := by decide +kernel
theorem d_Law_law_403 : decode code 403 = .ok (.invokevirtual 63, 3) := by decide +kernel
theorem d_Law_law_406 : decode code 406 = .ok (.aload_n 2, 1) := by decide +kernel
theorem d_Law_law_407 : decode code 407 = .ok (.aload_n 0, 1) := by decide +kernel
theorem d_Law_law_408 : decode code 408 = .ok (.iload_n 3, 1) := by decide +kernel
theorem d_Law_law_409 : decode code 409 = .ok (.iconst 1, 1) := by decide +kernel
theorem d_Law_law_410 : decode code 410 = .ok (.iadd, 1) := by decide +kernel
theorem d_Law_law_411 : decode code 411 = .ok (.iaload, 1) := by decide +kernel
theorem d_Law_law_412 : decode code 412 = .ok (.i2l, 1) := by decide +kernel
theorem d_Law_law_413 : decode code 413 = .ok (.bipush 32, 2) := by decide +kernel
theorem d_Law_law_415 : decode code 415 = .ok (.lshl, 1) := by decide +kernel
theorem d_Law_law_416 : decode code 416 = .ok (.aload_n 0, 1) := by decide +kernel
theorem d_Law_law_417 : decode code 417 = .ok (.iload_n 3, 1) := by decide +kernel
theorem d_Law_law_418 : decode code 418 = .ok (.iconst 2, 1) := by decide +kernel
theorem d_Law_law_419 : decode code 419 = .ok (.iadd, 1) := by decide +kernel
theorem d_Law_law_420 : decode code 420 = .ok (.iaload, 1) := by decide +kernel
theorem d_Law_law_421 : decode code 421 = .ok (.i2l, 1) := by decide +kernel
theorem d_Law_law_422 : decode code 422 = .ok (.ldc2_w 18, 3) := by decide +kernel
theorem d_Law_law_425 : decode code 425 = .ok (.land, 1) := by decide +kernel
theorem d_Law_law_426 : decode code 426 = .ok (.lor, 1) := by decide +kernel
theorem d_Law_law_427 : decode code 427 = .ok (.invokevirtual 67, 3) := by decide +kernel
theorem d_Law_law_430 : decode code 430 = .ok (.if_icmp .eq 28, 3) := by decide +kernel
theorem d_Law_law_433 : decode code 433 = .ok (.iconst 0, 1) := by decide +kernel
theorem d_Law_law_434 : decode code 434 = .ok (.ireturn, 1) := by decide +kernel
theorem d_Law_law_435 : decode code 435 = .ok (.aload_n 1, 1) := by decide +kernel
theorem d_Law_law_436 : decode code 436 = .ok (.aload_n 0, 1) := by decide +kernel
theorem d_Law_law_437 : decode code 437 = .ok (.iload_n 3, 1) := by decide +kernel
theorem d_Law_law_438 : decode code 438 = .ok (.iconst 1, 1) := by decide +kernel
theorem d_Law_law_439 : decode code 439 = .ok (.iadd, 1) := by decide +kernel
theorem d_Law_law_440 : decode code 440 = .ok (.iaload, 1) := by decide +kernel
theorem d_Law_law_441 : decode code 441 = .ok (.invokevirtual 68, 3) := by decide +kernel
theorem d_Law_law_444 : decode code 444 = .ok (.aload_n 2, 1) := by decide +kernel
theorem d_Law_law_445 : decode code 445 = .ok (.aload_n 0, 1) := by decide +kernel
theorem d_Law_law_446 : decode code 446 = .ok (.iload_n 3, 1) := by decide +kernel
theorem d_Law_law_447 : decode code 447 = .ok (.iconst 1, 1) := by decide +kernel
theorem d_Law_law_448 : decode code 448 = .ok (.iadd, 1) := by decide +kernel
theorem d_Law_law_449 : decode code 449 = .ok (.iaload, 1) := by decide +kernel
theorem d_Law_law_450 : decode code 450 = .ok (.invokevirtual 71, 3) := by decide +kernel
theorem d_Law_law_453 : decode code 453 = .ok (.if_icmp .eq 5, 3) := by decide +kernel
theorem d_Law_law_456 : decode code 456 = .ok (.iconst 0, 1) := by decide +kernel
theorem d_Law_law_457 : decode code 457 = .ok (.ireturn, 1) := by decide +kernel
theorem d_Law_law_458 : decode code 458 = .ok (.iinc 3 4, 3) := by decide +kernel
theorem d_Law_law_461 : decode code 461 = .ok (.goto (-443), 3) := by decide +kernel
theorem d_Law_law_464 : decode code 464 = .ok (.iconst 1, 1) := by decide +kernel
theorem d_Law_law_465 : decode code 465 = .ok (.ireturn, 1) := by decide +kernel
