theorem dL_law_0 : decode cL_law 0 = .ok (.new 7, 3) := by decide +kernel
theorem dL_law_3 : decode cL_law 3 = .ok (.dup, 1) := by decide +kernel
theorem dL_law_4 : decode cL_law 4 = .ok (.invokespecial 9, 3) := by decide +kernel
theorem dL_law_7 : decode cL_law 7 = .ok (.astore_n 1, 1) := by decide +kernel
theorem dL_law_8 : decode cL_law 8 = .ok (.new 10, 3) := by decide +kernel
theorem dL_law_11 : decode cL_law 11 = .ok (.dup, 1) := by decide +kernel
theorem dL_law_12 : decode cL_law 12 = .ok (.invokespecial 12, 3) := by decide +kernel
theorem dL_law_15 : decode cL_law 15 = .ok (.astore_n 2, 1) := by decide +kernel
theorem dL_law_16 : decode cL_law 16 = .ok (.iconst 0, 1) := by decide +kernel
theorem dL_law_17 : decode cL_law 17 = .ok (.istore_n 3, 1) := by decide +kernel
theorem dL_law_18 : decode cL_law 18 = .ok (.iload_n 3, 1) := by decide +kernel
theorem dL_law_19 : decode cL_law 19 = .ok (.aload_n 0, 1) := by decide +kernel
theorem dL_law_20 : decode cL_law 20 = .ok (.arraylength, 1) := by decide +kernel
theorem dL_law_21 : decode cL_law 21 = .ok (.bipush 6, 2) := by decide +kernel
theorem dL_law_23 : decode cL_law 23 = .ok (.isub, 1) := by decide +kernel
theorem dL_law_24 : decode cL_law 24 = .ok (.if_icmp .gt 417, 3) := by decide +kernel
theorem dL_law_27 : decode cL_law 27 = .ok (.aload_n 0, 1) := by decide +kernel
theorem dL_law_28 : decode cL_law 28 = .ok (.iload_n 3, 1) := by decide +kernel
theorem dL_law_29 : decode cL_law 29 = .ok (.iaload, 1) := by decide +kernel
theorem dL_law_30 : decode cL_law 30 = .ok (.bipush 15, 2) := by decide +kernel
theorem dL_law_32 : decode cL_law 32 = .ok (.iand, 1) := by decide +kernel
theorem dL_law_33 : decode cL_law 33 = .ok (.tableswitch 402 0 10 #[59, 122, 145, 158, 191, 234, 247, 270, 293, 316, 359], 59) := by decide +kernel
theorem dL_law_92 : decode cL_law 92 = .ok (.aload_n 1, 1) := by decide +kernel
theorem dL_law_93 : decode cL_law 93 = .ok (.aload_n 0, 1) := by decide +kernel
theorem dL_law_94 : decode cL_law 94 = .ok (.iload_n 3, 1) := by decide +kernel
theorem dL_law_95 : decode cL_law 95 = .ok (.iconst 1, 1) := by decide +kernel
theorem dL_law_96 : decode cL_law 96 = .ok (.iadd, 1) := by decide +kernel
theorem dL_law_97 : decode cL_law 97 = .ok (.iaload, 1) := by decide +kernel
theorem dL_law_98 : decode cL_law 98 = .ok (.aload_n 0, 1) := by decide +kernel
theorem dL_law_99 : decode cL_law 99 = .ok (.iload_n 3, 1) := by decide +kernel
theorem dL_law_100 : decode cL_law 100 = .ok (.iconst 2, 1) := by decide +kernel
theorem dL_law_101 : decode cL_law 101 = .ok (.iadd, 1) := by decide +kernel
theorem dL_law_102 : decode cL_law 102 = .ok (.iaload, 1) := by decide +kernel
theorem dL_law_103 : decode cL_law 103 = .ok (.aload_n 0, 1) := by decide +kernel
theorem dL_law_104 : decode cL_law 104 = .ok (.iload_n 3, 1) := by decide +kernel
theorem dL_law_105 : decode cL_law 105 = .ok (.iconst 3, 1) := by decide +kernel
theorem dL_law_106 : decode cL_law 106 = .ok (.iadd, 1) := by decide +kernel
theorem dL_law_107 : decode cL_law 107 = .ok (.iaload, 1) := by decide +kernel
theorem dL_law_108 : decode cL_law 108 = .ok (.aload_n 0, 1) := by decide +kernel
theorem dL_law_109 : decode cL_law 109 = .ok (.iload_n 3, 1) := by decide +kernel
theorem dL_law_110 : decode cL_law 110 = .ok (.iconst 4, 1) := by decide +kernel
theorem dL_law_111 : decode cL_law 111 = .ok (.iadd, 1) := by decide +kernel
theorem dL_law_112 : decode cL_law 112 = .ok (.iaload, 1) := by decide +kernel
theorem dL_law_113 : decode cL_law 113 = .ok (.aload_n 0, 1) := by decide +kernel
theorem dL_law_114 : decode cL_law 114 = .ok (.iload_n 3, 1) := by decide +kernel
theorem dL_law_115 : decode cL_law 115 = .ok (.iconst 5, 1) := by decide +kernel
theorem dL_law_116 : decode cL_law 116 = .ok (.iadd, 1) := by decide +kernel
theorem dL_law_117 : decode cL_law 117 = .ok (.iaload, 1) := by decide +kernel
theorem dL_law_118 : decode cL_law 118 = .ok (.invokevirtual 13, 3) := by decide +kernel
theorem dL_law_121 : decode cL_law 121 = .ok (.aload_n 2, 1) := by decide +kernel
theorem dL_law_122 : decode cL_law 122 = .ok (.aload_n 0, 1) := by decide +kernel
theorem dL_law_123 : decode cL_law 123 = .ok (.iload_n 3, 1) := by decide +kernel
theorem dL_law_124 : decode cL_law 124 = .ok (.iconst 1, 1) := by decide +kernel
theorem dL_law_125 : decode cL_law 125 = .ok (.iadd, 1) := by decide +kernel
theorem dL_law_126 : decode cL_law 126 = .ok (.iaload, 1) := by decide +kernel
theorem dL_law_127 : decode cL_law 127 = .ok (.aload_n 0, 1) := by decide +kernel
theorem dL_law_128 : decode cL_law 128 = .ok (.iload_n 3, 1) := by decide +kernel
theorem dL_law_129 : decode cL_law 129 = .ok (.iconst 2, 1) := by decide +kernel
theorem dL_law_130 : decode cL_law 130 = .ok (.iadd, 1) := by decide +kernel
theorem dL_law_131 : decode cL_law 131 = .ok (.iaload, 1) := by decide +kernel
theorem dL_law_132 : decode cL_law 132 = .ok (.aload_n 0, 1) := by decide +kernel
theorem dL_law_133 : decode cL_law 133 = .ok (.iload_n 3, 1) := by decide +kernel
theorem dL_law_134 : decode cL_law 134 = .ok (.iconst 3, 1) := by decide +kernel
theorem dL_law_135 : decode cL_law 135 = .ok (.iadd, 1) := by decide +kernel
theorem dL_law_136 : decode cL_law 136 = .ok (.iaload, 1) := by decide +kernel
theorem dL_law_137 : decode cL_law 137 = .ok (.aload_n 0, 1) := by decide +kernel
theorem dL_law_138 : decode cL_law 138 = .ok (.iload_n 3, 1) := by decide +kernel
theorem dL_law_139 : decode cL_law 139 = .ok (.iconst 4, 1) := by decide +kernel
theorem dL_law_140 : decode cL_law 140 = .ok (.iadd, 1) := by decide +kernel
theorem dL_law_141 : decode cL_law 141 = .ok (.iaload, 1) := by decide +kernel
theorem dL_law_142 : decode cL_law 142 = .ok (.aload_n 0, 1) := by decide +kernel
theorem dL_law_143 : decode cL_law 143 = .ok (.iload_n 3, 1) := by decide +kernel
theorem dL_law_144 : decode cL_law 144 = .ok (.iconst 5, 1) := by decide +kernel
theorem dL_law_145 : decode cL_law 145 = .ok (.iadd, 1) := by decide +kernel
theorem dL_law_146 : decode cL_law 146 = .ok (.iaload, 1) := by decide +kernel
theorem dL_law_147 : decode cL_law 147 = .ok (.invokevirtual 17, 3) := by decide +kernel
theorem dL_law_150 : decode cL_law 150 = .ok (.if_icmp .eq 285, 3) := by decide +kernel
theorem dL_law_153 : decode cL_law 153 = .ok (.iconst 0, 1) := by decide +kernel
theorem dL_law_154 : decode cL_law 154 = .ok (.ireturn, 1) := by decide +kernel
theorem dL_law_155 : decode cL_law 155 = .ok (.aload_n 1, 1) := by decide +kernel
theorem dL_law_156 : decode cL_law 156 = .ok (.aload_n 0, 1) := by decide +kernel
theorem dL_law_157 : decode cL_law 157 = .ok (.iload_n 3, 1) := by decide +kernel
theorem dL_law_158 : decode cL_law 158 = .ok (.iconst 1, 1) := by decide +kernel
theorem dL_law_159 : decode cL_law 159 = .ok (.iadd, 1) := by decide +kernel
theorem dL_law_160 : decode cL_law 160 = .ok (.iaload, 1) := by decide +kernel
theorem dL_law_161 : decode cL_law 161 = .ok (.invokevirtual 18, 3) := by decide +kernel
theorem dL_law_164 : decode cL_law 164 = .ok (.aload_n 2, 1) := by decide +kernel
theorem dL_law_165 : decode cL_law 165 = .ok (.aload_n 0, 1) := by decide +kernel
theorem dL_law_166 : decode cL_law 166 = .ok (.iload_n 3, 1) := by decide +kernel
theorem dL_law_167 : decode cL_law 167 = .ok (.iconst 1, 1) := by decide +kernel
theorem dL_law_168 : decode cL_law 168 = .ok (.iadd, 1) := by decide +kernel
theorem dL_law_169 : decode cL_law 169 = .ok (.iaload, 1) := by decide +kernel
theorem dL_law_170 : decode cL_law 170 = .ok (.invokevirtual 22, 3) := by decide +kernel
theorem dL_law_173 : decode cL_law 173 = .ok (.if_icmp .eq 262, 3) := by decide +kernel
theorem dL_law_176 : decode cL_law 176 = .ok (.iconst 0, 1) := by decide +kernel
theorem dL_law_177 : decode cL_law 177 = .ok (.ireturn, 1) := by decide +kernel
theorem dL_law_178 : decode cL_law 178 = .ok (.aload_n 1, 1) := by decide +kernel
theorem dL_law_179 : decode cL_law 179 = .ok (.invokevirtual 23, 3) := by decide +kernel
theorem dL_law_182 : decode cL_law 182 = .ok (.aload_n 2, 1) := by decide +kernel
theorem dL_law_183 : decode cL_law 183 = .ok (.invokevirtual 27, 3) := by decide +kernel
theorem dL_law_186 : decode cL_law 186 = .ok (.if_icmp .eq 249, 3) := by decide +kernel
theorem dL_law_189 : decode cL_law 189 = .ok (.iconst 0, 1) := by decide +kernel
theorem dL_law_190 : decode cL_law 190 = .ok (.ireturn, 1) := by decide +kernel
theorem dL_law_191 : decode cL_law 191 = .ok (.aload_n 1, 1) := by decide +kernel
theorem dL_law_192 : decode cL_law 192 = .ok (.aload_n 0, 1) := by decide +kernel
theorem dL_law_193 : decode cL_law 193 = .ok (.iload_n 3, 1) := by decide +kernel
theorem dL_law_194 : decode cL_law 194 = .ok (.iconst 1, 1) := by decide +kernel
theorem dL_law_195 : decode cL_law 195 = .ok (.iadd, 1) := by decide +kernel
theorem dL_law_196 : decode cL_law 196 = .ok (.iaload, 1) := by decide +kernel
theorem dL_law_197 : decode cL_law 197 = .ok (.aload_n 0, 1) := by decide +kernel
theorem dL_law_198 : decode cL_law 198 = .ok (.iload_n 3, 1) := by decide +kernel
theorem dL_law_199 : decode cL_law 199 = .ok (.iconst 2, 1) := by decide +kernel
theorem dL_law_200 : decode cL_law 200 = .ok (.iadd, 1) := by decide +kernel
theorem dL_law_201 : decode cL_law 201 = .ok (.iaload, 1) := by decide +kernel
theorem dL_law_202 : decode cL_law 202 = .ok (.invokevirtual 28, 3) := by decide +kernel
theorem dL_law_205 : decode cL_law 205 = .ok (.aload_n 2, 1) := by decide +kernel
theorem dL_law_206 : decode cL_law 206 = .ok (.aload_n 0, 1) := by decide +kernel
theorem dL_law_207 : decode cL_law 207 = .ok (.iload_n 3, 1) := by decide +kernel
theorem dL_law_208 : decode cL_law 208 = .ok (.iconst 1, 1) := by decide +kernel
theorem dL_law_209 : decode cL_law 209 = .ok (.iadd, 1) := by decide +kernel
theorem dL_law_210 : decode cL_law 210 = .ok (.iaload, 1) := by decide +kernel
theorem dL_law_211 : decode cL_law 211 = .ok (.aload_n 0, 1) := by decide +kernel
theorem dL_law_212 : decode cL_law 212 = .ok (.iload_n 3, 1) := by decide +kernel
theorem dL_law_213 : decode cL_law 213 = .ok (.iconst 2, 1) := by decide +kernel
theorem dL_law_214 : decode cL_law 214 = .ok (.iadd, 1) := by decide +kernel
theorem dL_law_215 : decode cL_law 215 = .ok (.iaload, 1) := by decide +kernel
theorem dL_law_216 : decode cL_law 216 = .ok (.invokevirtual 32, 3) := by decide +kernel
theorem dL_law_219 : decode cL_law 219 = .ok (.if_icmp .eq 216, 3) := by decide +kernel
theorem dL_law_222 : decode cL_law 222 = .ok (.iconst 0, 1) := by decide +kernel
theorem dL_law_223 : decode cL_law 223 = .ok (.ireturn, 1) := by decide +kernel
theorem dL_law_224 : decode cL_law 224 = .ok (.aload_n 1, 1) := by decide +kernel
theorem dL_law_225 : decode cL_law 225 = .ok (.aload_n 0, 1) := by decide +kernel
theorem dL_law_226 : decode cL_law 226 = .ok (.iload_n 3, 1) := by decide +kernel
theorem dL_law_227 : decode cL_law 227 = .ok (.iconst 1, 1) := by decide +kernel
theorem dL_law_228 : decode cL_law 228 = .ok (.iadd, 1) := by decide +kernel
theorem dL_law_229 : decode cL_law 229 = .ok (.iaload, 1) := by decide +kernel
theorem dL_law_230 : decode cL_law 230 = .ok (.aload_n 0, 1) := by decide +kernel
theorem dL_law_231 : decode cL_law 231 = .ok (.iload_n 3, 1) := by decide +kernel
theorem dL_law_232 : decode cL_law 232 = .ok (.iconst 2, 1) := by decide +kernel
theorem dL_law_233 : decode cL_law 233 = .ok (.iadd, 1) := by decide +kernel
theorem dL_law_234 : decode cL_law 234 = .ok (.iaload, 1) := by decide +kernel
theorem dL_law_235 : decode cL_law 235 = .ok (.aload_n 0, 1) := by decide +kernel
theorem dL_law_236 : decode cL_law 236 = .ok (.iload_n 3, 1) := by decide +kernel
theorem dL_law_237 : decode cL_law 237 = .ok (.iconst 3, 1) := by decide +kernel
theorem dL_law_238 : decode cL_law 238 = .ok (.iadd, 1) := by decide +kernel
theorem dL_law_239 : decode cL_law 239 = .ok (.iaload, 1) := by decide +kernel
theorem dL_law_240 : decode cL_law 240 = .ok (.invokevirtual 33, 3) := by decide +kernel
theorem dL_law_243 : decode cL_law 243 = .ok (.aload_n 2, 1) := by decide +kernel
theorem dL_law_244 : decode cL_law 244 = .ok (.aload_n 0, 1) := by decide +kernel
theorem dL_law_245 : decode cL_law 245 = .ok (.iload_n 3, 1) := by decide +kernel
theorem dL_law_246 : decode cL_law 246 = .ok (.iconst 1, 1) := by decide +kernel
theorem dL_law_247 : decode cL_law 247 = .ok (.iadd, 1) := by decide +kernel
theorem dL_law_248 : decode cL_law 248 = .ok (.iaload, 1) := by decide +kernel
theorem dL_law_249 : decode cL_law 249 = .ok (.aload_n 0, 1) := by decide +kernel
theorem dL_law_250 : decode cL_law 250 = .ok (.iload_n 3, 1) := by decide +kernel
theorem dL_law_251 : decode cL_law 251 = .ok (.iconst 2, 1) := by decide +kernel
theorem dL_law_252 : decode cL_law 252 = .ok (.iadd, 1) := by decide +kernel
theorem dL_law_253 : decode cL_law 253 = .ok (.iaload, 1) := by decide +kernel
theorem dL_law_254 : decode cL_law 254 = .ok (.aload_n 0, 1) := by decide +kernel
theorem dL_law_255 : decode cL_law 255 = .ok (.iload_n 3, 1) := by decide +kernel
theorem dL_law_256 : decode cL_law 256 = .ok (.iconst 3, 1) := by decide +kernel
theorem dL_law_257 : decode cL_law 257 = .ok (.iadd, 1) := by decide +kernel
theorem dL_law_258 : decode cL_law 258 = .ok (.iaload, 1) := by decide +kernel
theorem dL_law_259 : decode cL_law 259 = .ok (.invokevirtual 37, 3) := by decide +kernel
theorem dL_law_262 : decode cL_law 262 = .ok (.if_icmp .eq 173, 3) := by decide +kernel
theorem dL_law_265 : decode cL_law 265 = .ok (.iconst 0, 1) := by decide +kernel
theorem dL_law_266 : decode cL_law 266 = .ok (.ireturn, 1) := by decide +kernel
theorem dL_law_267 : decode cL_law 267 = .ok (.aload_n 1, 1) := by decide +kernel
theorem dL_law_268 : decode cL_law 268 = .ok (.invokevirtual 38, 3) := by decide +kernel
theorem dL_law_271 : decode cL_law 271 = .ok (.aload_n 2, 1) := by decide +kernel
theorem dL_law_272 : decode cL_law 272 = .ok (.invokevirtual 41, 3) := by decide +kernel
theorem dL_law_275 : decode cL_law 275 = .ok (.if_icmp .eq 160, 3) := by decide +kernel
theorem dL_law_278 : decode cL_law 278 = .ok (.iconst 0, 1) := by decide +kernel
theorem dL_law_279 : decode cL_law 279 = .ok (.ireturn, 1) := by decide +kernel
theorem dL_law_280 : decode cL_law 280 = .ok (.aload_n 1, 1) := by decide +kernel
theorem dL_law_281 : decode cL_law 281 = .ok (.aload_n 0, 1) := by decide +kernel
theorem dL_law_282 : decode cL_law 282 = .ok (.iload_n 3, 1) := by decide +kernel
theorem dL_law_283 : decode cL_law 283 = .ok (.iconst 1, 1) := by decide +kernel
theorem dL_law_284 : decode cL_law 284 = .ok (.iadd, 1) := by decide +kernel
theorem dL_law_285 : decode cL_law 285 = .ok (.iaload, 1) := by decide +kernel
theorem dL_law_286 : decode cL_law 286 = .ok (.invokevirtual 42, 3) := by decide +kernel
theorem dL_law_289 : decode cL_law 289 = .ok (.aload_n 2, 1) := by decide +kernel
theorem dL_law_290 : decode cL_law 290 = .ok (.aload_n 0, 1) := by decide +kernel
theorem dL_law_291 : decode cL_law 291 = .ok (.iload_n 3, 1) := by decide +kernel
theorem dL_law_292 : decode cL_law 292 = .ok (.iconst 1, 1) := by decide +kernel
theorem dL_law_293 : decode cL_law 293 = .ok (.iadd, 1) := by decide +kernel
theorem dL_law_294 : decode cL_law 294 = .ok (.iaload, 1) := by decide +kernel
theorem dL_law_295 : decode cL_law 295 = .ok (.invokevirtual 45, 3) := by decide +kernel
theorem dL_law_298 : decode cL_law 298 = .ok (.if_icmp .eq 137, 3) := by decide +kernel
theorem dL_law_301 : decode cL_law 301 = .ok (.iconst 0, 1) := by decide +kernel
theorem dL_law_302 : decode cL_law 302 = .ok (.ireturn, 1) := by decide +kernel
theorem dL_law_303 : decode cL_law 303 = .ok (.aload_n 1, 1) := by decide +kernel
theorem dL_law_304 : decode cL_law 304 = .ok (.aload_n 0, 1) := by decide +kernel
theorem dL_law_305 : decode cL_law 305 = .ok (.iload_n 3, 1) := by decide +kernel
theorem dL_law_306 : decode cL_law 306 = .ok (.iconst 1, 1) := by decide +kernel
theorem dL_law_307 : decode cL_law 307 = .ok (.iadd, 1) := by decide +kernel
theorem dL_law_308 : decode cL_law 308 = .ok (.iaload, 1) := by decide +kernel
theorem dL_law_309 : decode cL_law 309 = .ok (.invokevirtual 46, 3) := by decide +kernel
theorem dL_law_312 : decode cL_law 312 = .ok (.aload_n 2, 1) := by decide +kernel
theorem dL_law_313 : decode cL_law 313 = .ok (.aload_n 0, 1) := by decide +kernel
theorem dL_law_314 : decode cL_law 314 = .ok (.iload_n 3, 1) := by decide +kernel
theorem dL_law_315 : decode cL_law 315 = .ok (.iconst 1, 1) := by decide +kernel
theorem dL_law_316 : decode cL_law 316 = .ok (.iadd, 1) := by decide +kernel
theorem dL_law_317 : decode cL_law 317 = .ok (.iaload, 1) := by decide +kernel
theorem dL_law_318 : decode cL_law 318 = .ok (.invokevirtual 49, 3) := by decide +kernel
theorem dL_law_321 : decode cL_law 321 = .ok (.if_icmp .eq 114, 3) := by decide +kernel
theorem dL_law_324 : decode cL_law 324 = .ok (.iconst 0, 1) := by decide +kernel
theorem dL_law_325 : decode cL_law 325 = .ok (.ireturn, 1) := by decide +kernel
theorem dL_law_326 : decode cL_law 326 = .ok (.aload_n 1, 1) := by decide +kernel
theorem dL_law_327 : decode cL_law 327 = .ok (.aload_n 0, 1) := by decide +kernel
theorem dL_law_328 : decode cL_law 328 = .ok (.iload_n 3, 1) := by decide +kernel
theorem dL_law_329 : decode cL_law 329 = .ok (.iconst 1, 1) := by decide +kernel
theorem dL_law_330 : decode cL_law 330 = .ok (.iadd, 1) := by decide +kernel
theorem dL_law_331 : decode cL_law 331 = .ok (.iaload, 1) := by decide +kernel
theorem dL_law_332 : decode cL_law 332 = .ok (.invokevirtual 50, 3) := by decide +kernel
theorem dL_law_335 : decode cL_law 335 = .ok (.aload_n 2, 1) := by decide +kernel
theorem dL_law_336 : decode cL_law 336 = .ok (.aload_n 0, 1) := by decide +kernel
theorem dL_law_337 : decode cL_law 337 = .ok (.iload_n 3, 1) := by decide +kernel
theorem dL_law_338 : decode cL_law 338 = .ok (.iconst 1, 1) := by decide +kernel
theorem dL_law_339 : decode cL_law 339 = .ok (.iadd, 1) := by decide +kernel
theorem dL_law_340 : decode cL_law 340 = .ok (.iaload, 1) := by decide +kernel
theorem dL_law_341 : decode cL_law 341 = .ok (.invokevirtual 53, 3) := by decide +kernel
theorem dL_law_344 : decode cL_law 344 = .ok (.if_icmp .eq 91, 3) := by decide +kernel
theorem dL_law_347 : decode cL_law 347 = .ok (.iconst 0, 1) := by decide +kernel
theorem dL_law_348 : decode cL_law 348 = .ok (.ireturn, 1) := by decide +kernel
theorem dL_law_349 : decode cL_law 349 = .ok (.aload_n 1, 1) := by decide +kernel
theorem dL_law_350 : decode cL_law 350 = .ok (.aload_n 0, 1) := by decide +kernel
theorem dL_law_351 : decode cL_law 351 = .ok (.iload_n 3, 1) := by decide +kernel
theorem dL_law_352 : decode cL_law 352 = .ok (.iconst 1, 1) := by decide +kernel
theorem dL_law_353 : decode cL_law 353 = .ok (.iadd, 1) := by decide +kernel
theorem dL_law_354 : decode cL_law 354 = .ok (.iaload, 1) := by decide +kernel
theorem dL_law_355 : decode cL_law 355 = .ok (.aload_n 0, 1) := by decide +kernel
theorem dL_law_356 : decode cL_law 356 = .ok (.iload_n 3, 1) := by decide +kernel
theorem dL_law_357 : decode cL_law 357 = .ok (.iconst 2, 1) := by decide +kernel
theorem dL_law_358 : decode cL_law 358 = .ok (.iadd, 1) := by decide +kernel
theorem dL_law_359 : decode cL_law 359 = .ok (.iaload, 1) := by decide +kernel
theorem dL_law_360 : decode cL_law 360 = .ok (.aload_n 0, 1) := by decide +kernel
theorem dL_law_361 : decode cL_law 361 = .ok (.iload_n 3, 1) := by decide +kernel
theorem dL_law_362 : decode cL_law 362 = .ok (.iconst 3, 1) := by decide +kernel
theorem dL_law_363 : decode cL_law 363 = .ok (.iadd, 1) := by decide +kernel
theorem dL_law_364 : decode cL_law 364 = .ok (.iaload, 1) := by decide +kernel
theorem dL_law_365 : decode cL_law 365 = .ok (.invokevirtual 54, 3) := by decide +kernel
theorem dL_law_368 : decode cL_law 368 = .ok (.aload_n 2, 1) := by decide +kernel
theorem dL_law_369 : decode cL_law 369 = .ok (.aload_n 0, 1) := by decide +kernel
theorem dL_law_370 : decode cL_law 370 = .ok (.iload_n 3, 1) := by decide +kernel
theorem dL_law_371 : decode cL_law 371 = .ok (.iconst 1, 1) := by decide +kernel
theorem dL_law_372 : decode cL_law 372 = .ok (.iadd, 1) := by decide +kernel
theorem dL_law_373 : decode cL_law 373 = .ok (.iaload, 1) := by decide +kernel
theorem dL_law_374 : decode cL_law 374 = .ok (.aload_n 0, 1) := by decide +kernel
theorem dL_law_375 : decode cL_law 375 = .ok (.iload_n 3, 1) := by decide +kernel
theorem dL_law_376 : decode cL_law 376 = .ok (.iconst 2, 1) := by decide +kernel
theorem dL_law_377 : decode cL_law 377 = .ok (.iadd, 1) := by decide +kernel
theorem dL_law_378 : decode cL_law 378 = .ok (.iaload, 1) := by decide +kernel
theorem dL_law_379 : decode cL_law 379 = .ok (.aload_n 0, 1) := by decide +kernel
theorem dL_law_380 : decode cL_law 380 = .ok (.iload_n 3, 1) := by decide +kernel
theorem dL_law_381 : decode cL_law 381 = .ok (.iconst 3, 1) := by decide +kernel
theorem dL_law_382 : decode cL_law 382 = .ok (.iadd, 1) := by decide +kernel
theorem dL_law_383 : decode cL_law 383 = .ok (.iaload, 1) := by decide +kernel
theorem dL_law_384 : decode cL_law 384 = .ok (.invokevirtual 57, 3) := by decide +kernel
theorem dL_law_387 : decode cL_law 387 = .ok (.if_icmp .eq 48, 3) := by decide +kernel
theorem dL_law_390 : decode cL_law 390 = .ok (.iconst 0, 1) := by decide +kernel
theorem dL_law_391 : decode cL_law 391 = .ok (.ireturn, 1) := by decide +kernel
theorem dL_law_392 : decode cL_law 392 = .ok (.aload_n 1, 1) := by decide +kernel
theorem dL_law_393 : decode cL_law 393 = .ok (.aload_n 0, 1) := by decide +kernel
theorem dL_law_394 : decode cL_law 394 = .ok (.iload_n 3, 1) := by decide +kernel
theorem dL_law_395 : decode cL_law 395 = .ok (.iconst 1, 1) := by decide +kernel
theorem dL_law_396 : decode cL_law 396 = .ok (.iadd, 1) := by decide +kernel
theorem dL_law_397 : decode cL_law 397 = .ok (.iaload, 1) := by decide +kernel
theorem dL_law_398 : decode cL_law 398 = .ok (.aload_n 0, 1) := by decide +kernel
theorem dL_law_399 : decode cL_law 399 = .ok (.iload_n 3, 1) := by decide +kernel
theorem dL_law_400 : decode cL_law 400 = .ok (.iconst 2, 1) := by decide +kernel
theorem dL_law_401 : decode cL_law 401 = .ok (.iadd, 1) := by decide +kernel
theorem dL_law_402 : decode cL_law 402 = .ok (.iaload, 1) := by decide +kernel
theorem dL_law_403 : decode cL_law 403 = .ok (.aload_n 0, 1) := by decide +kernel
theorem dL_law_404 : decode cL_law 404 = .ok (.iload_n 3, 1) := by decide +kernel
theorem dL_law_405 : decode cL_law 405 = .ok (.iconst 3, 1) := by decide +kernel
theorem dL_law_406 : decode cL_law 406 = .ok (.iadd, 1) := by decide +kernel
theorem dL_law_407 : decode cL_law 407 = .ok (.iaload, 1) := by decide +kernel
theorem dL_law_408 : decode cL_law 408 = .ok (.invokevirtual 58, 3) := by decide +kernel
theorem dL_law_411 : decode cL_law 411 = .ok (.aload_n 2, 1) := by decide +kernel
theorem dL_law_412 : decode cL_law 412 = .ok (.aload_n 0, 1) := by decide +kernel
theorem dL_law_413 : decode cL_law 413 = .ok (.iload_n 3, 1) := by decide +kernel
theorem dL_law_414 : decode cL_law 414 = .ok (.iconst 1, 1) := by decide +kernel
theorem dL_law_415 : decode cL_law 415 = .ok (.iadd, 1) := by decide +kernel
theorem dL_law_416 : decode cL_law 416 = .ok (.iaload, 1) := by decide +kernel
theorem dL_law_417 : decode cL_law 417 = .ok (.aload_n 0, 1) := by decide +kernel
theorem dL_law_418 : decode cL_law 418 = .ok (.iload_n 3, 1) := by decide +kernel
theorem dL_law_419 : decode cL_law 419 = .ok (.iconst 2, 1) := by decide +kernel
theorem dL_law_420 : decode cL_law 420 = .ok (.iadd, 1) := by decide +kernel
theorem dL_law_421 : decode cL_law 421 = .ok (.iaload, 1) := by decide +kernel
theorem dL_law_422 : decode cL_law 422 = .ok (.aload_n 0, 1) := by decide +kernel
theorem dL_law_423 : decode cL_law 423 = .ok (.iload_n 3, 1) := by decide +kernel
theorem dL_law_424 : decode cL_law 424 = .ok (.iconst 3, 1) := by decide +kernel
theorem dL_law_425 : decode cL_law 425 = .ok (.iadd, 1) := by decide +kernel
theorem dL_law_426 : decode cL_law 426 = .ok (.iaload, 1) := by decide +kernel
theorem dL_law_427 : decode cL_law 427 = .ok (.invokevirtual 61, 3) := by decide +kernel
theorem dL_law_430 : decode cL_law 430 = .ok (.if_icmp .eq 5, 3) := by decide +kernel
theorem dL_law_433 : decode cL_law 433 = .ok (.iconst 0, 1) := by decide +kernel
theorem dL_law_434 : decode cL_law 434 = .ok (.ireturn, 1) := by decide +kernel
theorem dL_law_435 : decode cL_law 435 = .ok (.iinc 3 6, 3) := by decide +kernel
theorem dL_law_438 : decode cL_law 438 = .ok (.goto (-420), 3) := by decide +kernel
theorem dL_law_441 : decode cL_law 441 = .ok (.iconst 1, 1) := by decide +kernel
theorem dL_law_442 : decode cL_law 442 = .ok (.ireturn, 1) := by decide +kernel
def zkC (op a b c d e : Int32) (t : zS) : zR := if op = 0 then mX11_feed a b c d e t else if op = 1 then mX11_end a t else if op = 2 then mX11_program  t else if op = 3 then mX11_sizes a b t else if op = 4 then mX11_input a b c t else if op = 5 then mX11_start  t else if op = 6 then mX11_run a t else if op = 7 then mX11_output a t else if op = 8 then mX11_count a t else if op = 9 then mX11_process a b c t else if op = 10 then mX11_types a b c t else some (0, t)
def zkM (op a b c d e : Int32) (t : zS) : zR := if op = 0 then mX12_feed a b c d e t else if op = 1 then mX12_end a t else if op = 2 then mX12_program  t else if op = 3 then mX12_sizes a b t else if op = 4 then mX12_input a b c t else if op = 5 then mX12_start  t else if op = 6 then mX12_run a t else if op = 7 then mX12_output a t else if op = 8 then mX12_count a t else if op = 9 then mX12_process a b c t else if op = 10 then mX12_types a b c t else some (0, t)
theorem zkC_0 (a b c d e : Int32) (t : zS) : zkC 0 a b c d e t = mX11_feed a b c d e t := by rw [zkC, if_pos rfl]
theorem zkC_1 (a b c d e : Int32) (t : zS) : zkC 1 a b c d e t = mX11_end a t := by rw [zkC, if_neg (by decide), if_pos rfl]
theorem zkC_2 (a b c d e : Int32) (t : zS) : zkC 2 a b c d e t = mX11_program  t := by rw [zkC, if_neg (by decide), if_neg (by decide), if_pos rfl]
theorem zkC_3 (a b c d e : Int32) (t : zS) : zkC 3 a b c d e t = mX11_sizes a b t := by rw [zkC, if_neg (by decide), if_neg (by decide), if_neg (by decide), if_pos rfl]
theorem zkC_4 (a b c d e : Int32) (t : zS) : zkC 4 a b c d e t = mX11_input a b c t := by rw [zkC, if_neg (by decide), if_neg (by decide), if_neg (by decide), if_neg (by decide), if_pos rfl]
theorem zkC_5 (a b c d e : Int32) (t : zS) : zkC 5 a b c d e t = mX11_start  t := by rw [zkC, if_neg (by decide), if_neg (by decide), if_neg (by decide), if_neg (by decide), if_neg (by decide), if_pos rfl]
theorem zkC_6 (a b c d e : Int32) (t : zS) : zkC 6 a b c d e t = mX11_run a t := by rw [zkC, if_neg (by decide), if_neg (by decide), if_neg (by decide), if_neg (by decide), if_neg (by decide), if_neg (by decide), if_pos rfl]
theorem zkC_7 (a b c d e : Int32) (t : zS) : zkC 7 a b c d e t = mX11_output a t := by rw [zkC, if_neg (by decide), if_neg (by decide), if_neg (by decide), if_neg (by decide), if_neg (by decide), if_neg (by decide), if_neg (by decide), if_pos rfl]
theorem zkC_8 (a b c d e : Int32) (t : zS) : zkC 8 a b c d e t = mX11_count a t := by rw [zkC, if_neg (by decide), if_neg (by decide), if_neg (by decide), if_neg (by decide), if_neg (by decide), if_neg (by decide), if_neg (by decide), if_neg (by decide), if_pos rfl]
theorem zkC_9 (a b c d e : Int32) (t : zS) : zkC 9 a b c d e t = mX11_process a b c t := by rw [zkC, if_neg (by decide), if_neg (by decide), if_neg (by decide), if_neg (by decide), if_neg (by decide), if_neg (by decide), if_neg (by decide), if_neg (by decide), if_neg (by decide), if_pos rfl]
theorem zkC_10 (a b c d e : Int32) (t : zS) : zkC 10 a b c d e t = mX11_types a b c t := by rw [zkC, if_neg (by decide), if_neg (by decide), if_neg (by decide), if_neg (by decide), if_neg (by decide), if_neg (by decide), if_neg (by decide), if_neg (by decide), if_neg (by decide), if_neg (by decide), if_pos rfl]
theorem zkM_0 (a b c d e : Int32) (t : zS) : zkM 0 a b c d e t = mX12_feed a b c d e t := by rw [zkM, if_pos rfl]
theorem zkM_1 (a b c d e : Int32) (t : zS) : zkM 1 a b c d e t = mX12_end a t := by rw [zkM, if_neg (by decide), if_pos rfl]
theorem zkM_2 (a b c d e : Int32) (t : zS) : zkM 2 a b c d e t = mX12_program  t := by rw [zkM, if_neg (by decide), if_neg (by decide), if_pos rfl]
theorem zkM_3 (a b c d e : Int32) (t : zS) : zkM 3 a b c d e t = mX12_sizes a b t := by rw [zkM, if_neg (by decide), if_neg (by decide), if_neg (by decide), if_pos rfl]
theorem zkM_4 (a b c d e : Int32) (t : zS) : zkM 4 a b c d e t = mX12_input a b c t := by rw [zkM, if_neg (by decide), if_neg (by decide), if_neg (by decide), if_neg (by decide), if_pos rfl]
theorem zkM_5 (a b c d e : Int32) (t : zS) : zkM 5 a b c d e t = mX12_start  t := by rw [zkM, if_neg (by decide), if_neg (by decide), if_neg (by decide), if_neg (by decide), if_neg (by decide), if_pos rfl]
theorem zkM_6 (a b c d e : Int32) (t : zS) : zkM 6 a b c d e t = mX12_run a t := by rw [zkM, if_neg (by decide), if_neg (by decide), if_neg (by decide), if_neg (by decide), if_neg (by decide), if_neg (by decide), if_pos rfl]
theorem zkM_7 (a b c d e : Int32) (t : zS) : zkM 7 a b c d e t = mX12_output a t := by rw [zkM, if_neg (by decide), if_neg (by decide), if_neg (by decide), if_neg (by decide), if_neg (by decide), if_neg (by decide), if_neg (by decide), if_pos rfl]
theorem zkM_8 (a b c d e : Int32) (t : zS) : zkM 8 a b c d e t = mX12_count a t := by rw [zkM, if_neg (by decide), if_neg (by decide), if_neg (by decide), if_neg (by decide), if_neg (by decide), if_neg (by decide), if_neg (by decide), if_neg (by decide), if_pos rfl]
theorem zkM_9 (a b c d e : Int32) (t : zS) : zkM 9 a b c d e t = mX12_process a b c t := by rw [zkM, if_neg (by decide), if_neg (by decide), if_neg (by decide), if_neg (by decide), if_neg (by decide), if_neg (by decide), if_neg (by decide), if_neg (by decide), if_neg (by decide), if_pos rfl]
theorem zkM_10 (a b c d e : Int32) (t : zS) : zkM 10 a b c d e t = mX12_types a b c t := by rw [zkM, if_neg (by decide), if_neg (by decide), if_neg (by decide), if_neg (by decide), if_neg (by decide), if_neg (by decide), if_neg (by decide), if_neg (by decide), if_neg (by decide), if_neg (by decide), if_pos rfl]
set_option maxRecDepth 20000 in
theorem lk_RL_13 : Cond.methodLink RL 13 yX11_feed ∈ zGT := (zGT_in zch3 127 rfl rfl)
set_option maxRecDepth 20000 in
theorem yl_X11_feed : zY yX11_feed cX11_feed 6 (some .int) 5 := ⟨(zGT_in zch3 130 rfl rfl), (zGT_in zch1 1 rfl rfl), by decide +kernel, by decide +kernel, by decide +kernel, by decide⟩
set_option maxRecDepth 20000 in
theorem ylv_X11_feed : zYv yX11_feed := ⟨(zGT_in zch3 128 rfl rfl), (zGT_in zch3 129 rfl rfl)⟩
set_option maxRecDepth 20000 in
theorem lk_RL_17 : Cond.methodLink RL 17 yX12_feed ∈ zGT := (zGT_in zch9 91 rfl rfl)
set_option maxRecDepth 20000 in
theorem yl_X12_feed : zY yX12_feed cX12_feed 8 (some .int) 5 := ⟨(zGT_in zch9 94 rfl rfl), (zGT_in zch1 14 rfl rfl), by decide +kernel, by decide +kernel, by decide +kernel, by decide⟩
set_option maxRecDepth 20000 in
theorem ylv_X12_feed : zYv yX12_feed := ⟨(zGT_in zch9 92 rfl rfl), (zGT_in zch9 93 rfl rfl)⟩
set_option maxRecDepth 20000 in
theorem lk_RL_18 : Cond.methodLink RL 18 yX11_end ∈ zGT := (zGT_in zch3 139 rfl rfl)
set_option maxRecDepth 20000 in
theorem yl_X11_end : zY yX11_end cX11_end 2 (some .int) 1 := ⟨(zGT_in zch3 142 rfl rfl), (zGT_in zch1 1 rfl rfl), by decide +kernel, by decide +kernel, by decide +kernel, by decide⟩
set_option maxRecDepth 20000 in
theorem ylv_X11_end : zYv yX11_end := ⟨(zGT_in zch3 140 rfl rfl), (zGT_in zch3 141 rfl rfl)⟩
set_option maxRecDepth 20000 in
theorem lk_RL_22 : Cond.methodLink RL 22 yX12_end ∈ zGT := (zGT_in zch9 95 rfl rfl)
set_option maxRecDepth 20000 in
theorem yl_X12_end : zY yX12_end cX12_end 2 (some .int) 1 := ⟨(zGT_in zch9 98 rfl rfl), (zGT_in zch1 14 rfl rfl), by decide +kernel, by decide +kernel, by decide +kernel, by decide⟩
set_option maxRecDepth 20000 in
theorem ylv_X12_end : zYv yX12_end := ⟨(zGT_in zch9 96 rfl rfl), (zGT_in zch9 97 rfl rfl)⟩
set_option maxRecDepth 20000 in
theorem lk_RL_23 : Cond.methodLink RL 23 yX11_program ∈ zGT := (zGT_in zch3 143 rfl rfl)
set_option maxRecDepth 20000 in
theorem yl_X11_program : zY yX11_program cX11_program 5 (some .int) 0 := ⟨(zGT_in zch3 146 rfl rfl), (zGT_in zch1 1 rfl rfl), by decide +kernel, by decide +kernel, by decide +kernel, by decide⟩
set_option maxRecDepth 20000 in
theorem ylv_X11_program : zYv yX11_program := ⟨(zGT_in zch3 144 rfl rfl), (zGT_in zch3 145 rfl rfl)⟩
set_option maxRecDepth 20000 in
theorem lk_RL_27 : Cond.methodLink RL 27 yX12_program ∈ zGT := (zGT_in zch8 45 rfl rfl)
set_option maxRecDepth 20000 in
theorem yl_X12_program : zY yX12_program cX12_program 3 (some .int) 0 := ⟨(zGT_in zch8 48 rfl rfl), (zGT_in zch1 14 rfl rfl), by decide +kernel, by decide +kernel, by decide +kernel, by decide⟩
set_option maxRecDepth 20000 in
theorem ylv_X12_program : zYv yX12_program := ⟨(zGT_in zch8 46 rfl rfl), (zGT_in zch8 47 rfl rfl)⟩
set_option maxRecDepth 20000 in
theorem lk_RL_28 : Cond.methodLink RL 28 yX11_sizes ∈ zGT := (zGT_in zch5 203 rfl rfl)
set_option maxRecDepth 20000 in
theorem yl_X11_sizes : zY yX11_sizes cX11_sizes 3 (some .int) 2 := ⟨(zGT_in zch5 206 rfl rfl), (zGT_in zch1 1 rfl rfl), by decide +kernel, by decide +kernel, by decide +kernel, by decide⟩
set_option maxRecDepth 20000 in
theorem ylv_X11_sizes : zYv yX11_sizes := ⟨(zGT_in zch5 204 rfl rfl), (zGT_in zch5 205 rfl rfl)⟩
set_option maxRecDepth 20000 in
theorem lk_RL_32 : Cond.methodLink RL 32 yX12_sizes ∈ zGT := (zGT_in zch9 99 rfl rfl)
set_option maxRecDepth 20000 in
theorem yl_X12_sizes : zY yX12_sizes cX12_sizes 3 (some .int) 2 := ⟨(zGT_in zch9 102 rfl rfl), (zGT_in zch1 14 rfl rfl), by decide +kernel, by decide +kernel, by decide +kernel, by decide⟩
set_option maxRecDepth 20000 in
theorem ylv_X12_sizes : zYv yX12_sizes := ⟨(zGT_in zch9 100 rfl rfl), (zGT_in zch9 101 rfl rfl)⟩
set_option maxRecDepth 20000 in
theorem lk_RL_33 : Cond.methodLink RL 33 yX11_input ∈ zGT := (zGT_in zch5 207 rfl rfl)
set_option maxRecDepth 20000 in
theorem yl_X11_input : zY yX11_input cX11_input 4 (some .int) 3 := ⟨(zGT_in zch5 210 rfl rfl), (zGT_in zch1 1 rfl rfl), by decide +kernel, by decide +kernel, by decide +kernel, by decide⟩
set_option maxRecDepth 20000 in
theorem ylv_X11_input : zYv yX11_input := ⟨(zGT_in zch5 208 rfl rfl), (zGT_in zch5 209 rfl rfl)⟩
set_option maxRecDepth 20000 in
theorem lk_RL_37 : Cond.methodLink RL 37 yX12_input ∈ zGT := (zGT_in zch9 106 rfl rfl)
set_option maxRecDepth 20000 in
theorem yl_X12_input : zY yX12_input cX12_input 4 (some .int) 3 := ⟨(zGT_in zch9 109 rfl rfl), (zGT_in zch1 14 rfl rfl), by decide +kernel, by decide +kernel, by decide +kernel, by decide⟩
set_option maxRecDepth 20000 in
theorem ylv_X12_input : zYv yX12_input := ⟨(zGT_in zch9 107 rfl rfl), (zGT_in zch9 108 rfl rfl)⟩
set_option maxRecDepth 20000 in
theorem lk_RL_38 : Cond.methodLink RL 38 yX11_start ∈ zGT := (zGT_in zch5 216 rfl rfl)
set_option maxRecDepth 20000 in
theorem yl_X11_start : zY yX11_start cX11_start 1 (some .int) 0 := ⟨(zGT_in zch5 219 rfl rfl), (zGT_in zch1 1 rfl rfl), by decide +kernel, by decide +kernel, by decide +kernel, by decide⟩
set_option maxRecDepth 20000 in
theorem ylv_X11_start : zYv yX11_start := ⟨(zGT_in zch5 217 rfl rfl), (zGT_in zch5 218 rfl rfl)⟩
set_option maxRecDepth 20000 in
theorem lk_RL_41 : Cond.methodLink RL 41 yX12_start ∈ zGT := (zGT_in zch9 110 rfl rfl)
set_option maxRecDepth 20000 in
theorem yl_X12_start : zY yX12_start cX12_start 2 (some .int) 0 := ⟨(zGT_in zch9 113 rfl rfl), (zGT_in zch1 14 rfl rfl), by decide +kernel, by decide +kernel, by decide +kernel, by decide⟩
set_option maxRecDepth 20000 in
theorem ylv_X12_start : zYv yX12_start := ⟨(zGT_in zch9 111 rfl rfl), (zGT_in zch9 112 rfl rfl)⟩
set_option maxRecDepth 20000 in
theorem lk_RL_42 : Cond.methodLink RL 42 yX11_run ∈ zGT := (zGT_in zch6 7 rfl rfl)
set_option maxRecDepth 20000 in
theorem yl_X11_run : zY yX11_run cX11_run 3 (some .int) 1 := ⟨(zGT_in zch6 10 rfl rfl), (zGT_in zch1 1 rfl rfl), by decide +kernel, by decide +kernel, by decide +kernel, by decide⟩
set_option maxRecDepth 20000 in
theorem ylv_X11_run : zYv yX11_run := ⟨(zGT_in zch6 8 rfl rfl), (zGT_in zch6 9 rfl rfl)⟩
set_option maxRecDepth 20000 in
theorem lk_RL_45 : Cond.methodLink RL 45 yX12_run ∈ zGT := (zGT_in zch9 130 rfl rfl)
set_option maxRecDepth 20000 in
theorem yl_X12_run : zY yX12_run cX12_run 3 (some .int) 1 := ⟨(zGT_in zch9 133 rfl rfl), (zGT_in zch1 14 rfl rfl), by decide +kernel, by decide +kernel, by decide +kernel, by decide⟩
set_option maxRecDepth 20000 in
theorem ylv_X12_run : zYv yX12_run := ⟨(zGT_in zch9 131 rfl rfl), (zGT_in zch9 132 rfl rfl)⟩
set_option maxRecDepth 20000 in
theorem lk_RL_46 : Cond.methodLink RL 46 yX11_output ∈ zGT := (zGT_in zch6 147 rfl rfl)
set_option maxRecDepth 20000 in
theorem yl_X11_output : zY yX11_output cX11_output 2 (some .int) 1 := ⟨(zGT_in zch6 150 rfl rfl), (zGT_in zch1 1 rfl rfl), by decide +kernel, by decide +kernel, by decide +kernel, by decide⟩
set_option maxRecDepth 20000 in
theorem ylv_X11_output : zYv yX11_output := ⟨(zGT_in zch6 148 rfl rfl), (zGT_in zch6 149 rfl rfl)⟩
set_option maxRecDepth 20000 in
theorem lk_RL_49 : Cond.methodLink RL 49 yX12_output ∈ zGT := (zGT_in zch9 179 rfl rfl)
set_option maxRecDepth 20000 in
theorem yl_X12_output : zY yX12_output cX12_output 2 (some .int) 1 := ⟨(zGT_in zch9 182 rfl rfl), (zGT_in zch1 14 rfl rfl), by decide +kernel, by decide +kernel, by decide +kernel, by decide⟩
set_option maxRecDepth 20000 in
theorem ylv_X12_output : zYv yX12_output := ⟨(zGT_in zch9 180 rfl rfl), (zGT_in zch9 181 rfl rfl)⟩
set_option maxRecDepth 20000 in
theorem lk_RL_50 : Cond.methodLink RL 50 yX11_count ∈ zGT := (zGT_in zch6 155 rfl rfl)
set_option maxRecDepth 20000 in
theorem yl_X11_count : zY yX11_count cX11_count 2 (some .int) 1 := ⟨(zGT_in zch6 158 rfl rfl), (zGT_in zch1 1 rfl rfl), by decide +kernel, by decide +kernel, by decide +kernel, by decide⟩
set_option maxRecDepth 20000 in
theorem ylv_X11_count : zYv yX11_count := ⟨(zGT_in zch6 156 rfl rfl), (zGT_in zch6 157 rfl rfl)⟩
set_option maxRecDepth 20000 in
theorem lk_RL_53 : Cond.methodLink RL 53 yX12_count ∈ zGT := (zGT_in zch9 184 rfl rfl)
set_option maxRecDepth 20000 in
theorem yl_X12_count : zY yX12_count cX12_count 2 (some .int) 1 := ⟨(zGT_in zch9 187 rfl rfl), (zGT_in zch1 14 rfl rfl), by decide +kernel, by decide +kernel, by decide +kernel, by decide⟩
set_option maxRecDepth 20000 in
theorem ylv_X12_count : zYv yX12_count := ⟨(zGT_in zch9 185 rfl rfl), (zGT_in zch9 186 rfl rfl)⟩
set_option maxRecDepth 20000 in
theorem lk_RL_54 : Cond.methodLink RL 54 yX11_process ∈ zGT := (zGT_in zch6 163 rfl rfl)
set_option maxRecDepth 20000 in
theorem yl_X11_process : zY yX11_process cX11_process 4 (some .int) 3 := ⟨(zGT_in zch6 166 rfl rfl), (zGT_in zch1 1 rfl rfl), by decide +kernel, by decide +kernel, by decide +kernel, by decide⟩
set_option maxRecDepth 20000 in
theorem ylv_X11_process : zYv yX11_process := ⟨(zGT_in zch6 164 rfl rfl), (zGT_in zch6 165 rfl rfl)⟩
set_option maxRecDepth 20000 in
theorem lk_RL_57 : Cond.methodLink RL 57 yX12_process ∈ zGT := (zGT_in zch9 189 rfl rfl)
set_option maxRecDepth 20000 in
theorem yl_X12_process : zY yX12_process cX12_process 7 (some .int) 3 := ⟨(zGT_in zch9 192 rfl rfl), (zGT_in zch1 14 rfl rfl), by decide +kernel, by decide +kernel, by decide +kernel, by decide⟩
set_option maxRecDepth 20000 in
theorem ylv_X12_process : zYv yX12_process := ⟨(zGT_in zch9 190 rfl rfl), (zGT_in zch9 191 rfl rfl)⟩
set_option maxRecDepth 20000 in
theorem lk_RL_58 : Cond.methodLink RL 58 yX11_types ∈ zGT := (zGT_in zch6 180 rfl rfl)
set_option maxRecDepth 20000 in
theorem yl_X11_types : zY yX11_types cX11_types 5 (some .int) 3 := ⟨(zGT_in zch6 183 rfl rfl), (zGT_in zch1 1 rfl rfl), by decide +kernel, by decide +kernel, by decide +kernel, by decide⟩
set_option maxRecDepth 20000 in
theorem ylv_X11_types : zYv yX11_types := ⟨(zGT_in zch6 181 rfl rfl), (zGT_in zch6 182 rfl rfl)⟩
set_option maxRecDepth 20000 in
theorem lk_RL_61 : Cond.methodLink RL 61 yX12_types ∈ zGT := (zGT_in zch9 193 rfl rfl)
set_option maxRecDepth 20000 in
theorem yl_X12_types : zY yX12_types cX12_types 4 (some .int) 3 := ⟨(zGT_in zch9 196 rfl rfl), (zGT_in zch1 14 rfl rfl), by decide +kernel, by decide +kernel, by decide +kernel, by decide⟩
set_option maxRecDepth 20000 in
theorem ylv_X12_types : zYv yX12_types := ⟨(zGT_in zch9 194 rfl rfl), (zGT_in zch9 195 rfl rfl)⟩
theorem obl_C : zObj shC 0 RX11 := ⟨11, _, _, rfl, rfl, rfl⟩
theorem obl_M : zObj shM 0 RX12 := ⟨12, _, _, rfl, rfl, rfl⟩
theorem zx_add {i : Int32} {k c : Nat} (hi : i = Int32.ofNat k) : i + Int32.ofNat c = Int32.ofNat (k + c) := by
  rw [hi, Int32.ofNat_add]
set_option maxHeartbeats 4000000 in
set_option maxRecDepth 20000 in
/-- THE LAW'S LOOP: a relation between the stores that every call keeps, with equal answers, carries the law to its end -/
theorem law_loop {E F : zE} {K : zLC} (hL : zlL K ≤ 3072) (Rel : Nat → zS → zS → Prop)
    (hstep : ∀ (n : Nat) (t u : zS) (op a b c d e : Int32), n < 512 → Rel n t u → ∃ (r : Int32) (t2 u2 : zS), zkC op a b c d e t = some (r, t2) ∧ zkM op a b c d e u = some (r, u2) ∧ Rel (n + 1) t2 u2) :
    ∀ (j n : Nat) (i : Int32) (t u : zS), i = Int32.ofNat (6 * n) → zlL K < 6 * n + 6 * j → 6 * n ≤ zlL K → Rel n t u → zL E F K t u 18 [(0, .ref (zlb K)), (1, .ref (za E 0)), (2, .ref (za F 0)), (3, .int i)] [] := by
  intro j
  induction j with
  | zero => intro n i t u hi h1 h2; omega
  | succ j ih =>
    intro n i t u hi h1 h2 hrel0
    refine zl_iload_n 3 dL_law_18 rfl rfl ?_
    refine zl_aload_n 0 dL_law_19 rfl rfl ?_
    refine zl_len rfl dL_law_20 ?_
    refine zl_bipush (v := 6) dL_law_21 (by decide) ?_
    refine zl_isub dL_law_23 ?_
    have e1 : i.toInt = ((6 * n : Nat) : Int) := by rw [hi]; exact Int32.toInt_ofNat_of_lt (by omega)
    have e2 : (Int32.ofNat (zlL K) - 6).toInt = (zlL K : Int) - 6 := by
      have q1 : (Int32.ofNat (zlL K)).toInt = (zlL K : Int) := Int32.toInt_ofNat_of_lt (by omega)
      rw [Int32.toInt_sub, q1]
      have q2 : (6 : Int32).toInt = 6 := by decide
      rw [q2]
      exact Int.bmod_eq_of_le (by omega) (by omega)
    refine zl_icmp_gt (tgt := 441) dL_law_24 (by decide) (fun hg => ?_) (fun hg => ?_)
    · refine zl_iconst (v := 1) dL_law_441 (by decide) ?_
      exact zl_ret dL_law_442
    · have hle : 6 * n + 6 ≤ zlL K := by
        have q := Int32.not_lt.mp hg
        rw [Int32.le_iff_toInt_le, e1, e2] at q
        omega
      have hin : ∀ c : Int32, (0 ≤ c ∧ c ≤ 5) → zin (i + c) (zlL K) := by
        intro c hc
        obtain ⟨c0, c5⟩ := hc
        have e := zofn_of c0
        have hcn : c.toNatClampNeg ≤ 5 := by
          have h3 : c.toNatClampNeg = c.toInt.toNat := rfl
          have q := Int32.le_iff_toInt_le.mp c5
          have q5 : (5 : Int32).toInt = 5 := by decide
          omega
        rw [e, zx_add hi]
        obtain ⟨p1, p2⟩ := zofn (k := 6 * n + c.toNatClampNeg) (by omega)
        exact ⟨p1, by rw [p2]; omega⟩
      have hin0 : zin i (zlL K) := by
        obtain ⟨p1, p2⟩ := zofn (k := 6 * n) (by omega)
        rw [hi]
        exact ⟨p1, by rw [p2]; omega⟩
      have hend : ∀ t2 u2, Rel (n + 1) t2 u2 → zL E F K t2 u2 435 [(0, .ref (zlb K)), (1, .ref (za E 0)), (2, .ref (za F 0)), (3, .int i)] [] := by
        intro t2 u2 hr2
        refine zl_iinc (v := i + 6) (lv' := [(3, .int (i + 6)), (0, .ref (zlb K)), (1, .ref (za E 0)), (2, .ref (za F 0))]) (q := 3) dL_law_435 rfl rfl (by decide) rfl ?_
        refine zl_goto (tgt := 18) dL_law_438 (by decide) ?_
        have h9 := ih (n + 1) (i + 6) t2 u2 (by rw [show (6 : Int32) = Int32.ofNat 6 from rfl, zx_add hi]; rfl) (by omega) (by omega) hr2
        revert h9
        generalize i + 6 = i2
        intro h9
        obtain ⟨p, e, s, m, below, meth, c, b, L, xs⟩ := K
        exact fun ok H locs ls hP hU hS hl => h9 ok H locs ls hP hU hS (lv_sub hl [1, 2, 3, 0] rfl)
      refine zl_aload_n 0 dL_law_27 rfl rfl ?_
      refine zl_iload_n 3 dL_law_28 rfl rfl ?_
      refine zl_ald hin0 dL_law_29 ?_
      refine zl_bipush (v := 15) dL_law_30 (by decide) ?_
      refine zl_iand dL_law_32 ?_
      obtain ⟨r, t2, u2, hc, hm, hrel⟩ := hstep n t u (zlx K i.toNatClampNeg &&& 15) (zlx K (i + 1).toNatClampNeg) (zlx K (i + 2).toNatClampNeg) (zlx K (i + 3).toNatClampNeg) (zlx K (i + 4).toNatClampNeg) (zlx K (i + 5).toNatClampNeg) (by omega) hrel0
      generalize zlx K i.toNatClampNeg &&& 15 = x at hc hm ⊢
      by_cases hx0 : x = 0
      · subst hx0
        rw [zkC_0] at hc
        rw [zkM_0] at hm
        refine zl_tabIn (tgt := 92) dL_law_33 (by decide) (by decide) rfl (by decide) ?_
        refine zl_aload_n 1 dL_law_92 rfl rfl ?_
        refine zl_aload_n 0 dL_law_93 rfl rfl ?_
        refine zl_iload_n 3 dL_law_94 rfl rfl ?_
        refine zl_iconst (v := 1) dL_law_95 (by decide) ?_
        refine zl_iadd dL_law_96 ?_
        refine zl_ald (hin 1 (by decide)) dL_law_97 ?_
        refine zl_aload_n 0 dL_law_98 rfl rfl ?_
        refine zl_iload_n 3 dL_law_99 rfl rfl ?_
        refine zl_iconst (v := 2) dL_law_100 (by decide) ?_
        refine zl_iadd dL_law_101 ?_
        refine zl_ald (hin 2 (by decide)) dL_law_102 ?_
        refine zl_aload_n 0 dL_law_103 rfl rfl ?_
        refine zl_iload_n 3 dL_law_104 rfl rfl ?_
        refine zl_iconst (v := 3) dL_law_105 (by decide) ?_
        refine zl_iadd dL_law_106 ?_
        refine zl_ald (hin 3 (by decide)) dL_law_107 ?_
        refine zl_aload_n 0 dL_law_108 rfl rfl ?_
        refine zl_iload_n 3 dL_law_109 rfl rfl ?_
        refine zl_iconst (v := 4) dL_law_110 (by decide) ?_
        refine zl_iadd dL_law_111 ?_
        refine zl_ald (hin 4 (by decide)) dL_law_112 ?_
        refine zl_aload_n 0 dL_law_113 rfl rfl ?_
        refine zl_iload_n 3 dL_law_114 rfl rfl ?_
        refine zl_iconst (v := 5) dL_law_115 (by decide) ?_
        refine zl_iadd dL_law_116 ?_
        refine zl_ald (hin 5 (by decide)) dL_law_117 ?_
        refine zl_callC (ctX11_feed (E := E) (f := 3) (Nat.le_refl _) hc) yl_X11_feed ylv_X11_feed obl_C lk_RL_13 (by decide) rfl rfl (Nat.le_of_ble_eq_true rfl) dL_law_118 ?_
        refine zl_aload_n 2 dL_law_121 rfl rfl ?_
        refine zl_aload_n 0 dL_law_122 rfl rfl ?_
        refine zl_iload_n 3 dL_law_123 rfl rfl ?_
        refine zl_iconst (v := 1) dL_law_124 (by decide) ?_
        refine zl_iadd dL_law_125 ?_
        refine zl_ald (hin 1 (by decide)) dL_law_126 ?_
        refine zl_aload_n 0 dL_law_127 rfl rfl ?_
        refine zl_iload_n 3 dL_law_128 rfl rfl ?_
        refine zl_iconst (v := 2) dL_law_129 (by decide) ?_
        refine zl_iadd dL_law_130 ?_
        refine zl_ald (hin 2 (by decide)) dL_law_131 ?_
        refine zl_aload_n 0 dL_law_132 rfl rfl ?_
        refine zl_iload_n 3 dL_law_133 rfl rfl ?_
        refine zl_iconst (v := 3) dL_law_134 (by decide) ?_
        refine zl_iadd dL_law_135 ?_
        refine zl_ald (hin 3 (by decide)) dL_law_136 ?_
        refine zl_aload_n 0 dL_law_137 rfl rfl ?_
        refine zl_iload_n 3 dL_law_138 rfl rfl ?_
        refine zl_iconst (v := 4) dL_law_139 (by decide) ?_
        refine zl_iadd dL_law_140 ?_
        refine zl_ald (hin 4 (by decide)) dL_law_141 ?_
        refine zl_aload_n 0 dL_law_142 rfl rfl ?_
        refine zl_iload_n 3 dL_law_143 rfl rfl ?_
        refine zl_iconst (v := 5) dL_law_144 (by decide) ?_
        refine zl_iadd dL_law_145 ?_
        refine zl_ald (hin 5 (by decide)) dL_law_146 ?_
        refine zl_callM (ctX12_feed (E := F) (f := 1) (Nat.le_refl _) hm) yl_X12_feed ylv_X12_feed obl_M lk_RL_17 (by decide) rfl rfl (Nat.le_of_ble_eq_true rfl) dL_law_147 ?_
        refine zl_icmp_eq (tgt := 435) dL_law_150 (by decide) rfl ?_
        exact hend t2 u2 hrel
      by_cases hx1 : x = 1
      · subst hx1
        rw [zkC_1] at hc
        rw [zkM_1] at hm
        refine zl_tabIn (tgt := 155) dL_law_33 (by decide) (by decide) rfl (by decide) ?_
        refine zl_aload_n 1 dL_law_155 rfl rfl ?_
        refine zl_aload_n 0 dL_law_156 rfl rfl ?_
        refine zl_iload_n 3 dL_law_157 rfl rfl ?_
        refine zl_iconst (v := 1) dL_law_158 (by decide) ?_
        refine zl_iadd dL_law_159 ?_
        refine zl_ald (hin 1 (by decide)) dL_law_160 ?_
        refine zl_callC (ctX11_end (E := E) (f := 1) (Nat.le_refl _) hc) yl_X11_end ylv_X11_end obl_C lk_RL_18 (by decide) rfl rfl (Nat.le_of_ble_eq_true rfl) dL_law_161 ?_
        refine zl_aload_n 2 dL_law_164 rfl rfl ?_
        refine zl_aload_n 0 dL_law_165 rfl rfl ?_
        refine zl_iload_n 3 dL_law_166 rfl rfl ?_
        refine zl_iconst (v := 1) dL_law_167 (by decide) ?_
        refine zl_iadd dL_law_168 ?_
        refine zl_ald (hin 1 (by decide)) dL_law_169 ?_
        refine zl_callM (ctX12_end (E := F) (f := 2) (Nat.le_refl _) hm) yl_X12_end ylv_X12_end obl_M lk_RL_22 (by decide) rfl rfl (Nat.le_of_ble_eq_true rfl) dL_law_170 ?_
        refine zl_icmp_eq (tgt := 435) dL_law_173 (by decide) rfl ?_
        exact hend t2 u2 hrel
      by_cases hx2 : x = 2
      · subst hx2
        rw [zkC_2] at hc
        rw [zkM_2] at hm
        refine zl_tabIn (tgt := 178) dL_law_33 (by decide) (by decide) rfl (by decide) ?_
        refine zl_aload_n 1 dL_law_178 rfl rfl ?_
        refine zl_callC (ctX11_program (E := E) (f := 608) (Nat.le_refl _) hc) yl_X11_program ylv_X11_program obl_C lk_RL_23 (by decide) rfl rfl (Nat.le_of_ble_eq_true rfl) dL_law_179 ?_
        refine zl_aload_n 2 dL_law_182 rfl rfl ?_
        refine zl_callM (ctX12_program (E := F) (f := 612) (Nat.le_refl _) hm) yl_X12_program ylv_X12_program obl_M lk_RL_27 (by decide) rfl rfl (Nat.le_of_ble_eq_true rfl) dL_law_183 ?_
        refine zl_icmp_eq (tgt := 435) dL_law_186 (by decide) rfl ?_
        exact hend t2 u2 hrel
      by_cases hx3 : x = 3
      · subst hx3
        rw [zkC_3] at hc
        rw [zkM_3] at hm
        refine zl_tabIn (tgt := 191) dL_law_33 (by decide) (by decide) rfl (by decide) ?_
        refine zl_aload_n 1 dL_law_191 rfl rfl ?_
        refine zl_aload_n 0 dL_law_192 rfl rfl ?_
        refine zl_iload_n 3 dL_law_193 rfl rfl ?_
        refine zl_iconst (v := 1) dL_law_194 (by decide) ?_
        refine zl_iadd dL_law_195 ?_
        refine zl_ald (hin 1 (by decide)) dL_law_196 ?_
        refine zl_aload_n 0 dL_law_197 rfl rfl ?_
        refine zl_iload_n 3 dL_law_198 rfl rfl ?_
        refine zl_iconst (v := 2) dL_law_199 (by decide) ?_
        refine zl_iadd dL_law_200 ?_
        refine zl_ald (hin 2 (by decide)) dL_law_201 ?_
        refine zl_callC (ctX11_sizes (E := E) (f := 1) (Nat.le_refl _) hc) yl_X11_sizes ylv_X11_sizes obl_C lk_RL_28 (by decide) rfl rfl (Nat.le_of_ble_eq_true rfl) dL_law_202 ?_
        refine zl_aload_n 2 dL_law_205 rfl rfl ?_
        refine zl_aload_n 0 dL_law_206 rfl rfl ?_
        refine zl_iload_n 3 dL_law_207 rfl rfl ?_
        refine zl_iconst (v := 1) dL_law_208 (by decide) ?_
        refine zl_iadd dL_law_209 ?_
        refine zl_ald (hin 1 (by decide)) dL_law_210 ?_
        refine zl_aload_n 0 dL_law_211 rfl rfl ?_
        refine zl_iload_n 3 dL_law_212 rfl rfl ?_
        refine zl_iconst (v := 2) dL_law_213 (by decide) ?_
        refine zl_iadd dL_law_214 ?_
        refine zl_ald (hin 2 (by decide)) dL_law_215 ?_
        refine zl_callM (ctX12_sizes (E := F) (f := 2) (Nat.le_refl _) hm) yl_X12_sizes ylv_X12_sizes obl_M lk_RL_32 (by decide) rfl rfl (Nat.le_of_ble_eq_true rfl) dL_law_216 ?_
        refine zl_icmp_eq (tgt := 435) dL_law_219 (by decide) rfl ?_
        exact hend t2 u2 hrel
      by_cases hx4 : x = 4
      · subst hx4
        rw [zkC_4] at hc
        rw [zkM_4] at hm
        refine zl_tabIn (tgt := 224) dL_law_33 (by decide) (by decide) rfl (by decide) ?_
        refine zl_aload_n 1 dL_law_224 rfl rfl ?_
        refine zl_aload_n 0 dL_law_225 rfl rfl ?_
        refine zl_iload_n 3 dL_law_226 rfl rfl ?_
        refine zl_iconst (v := 1) dL_law_227 (by decide) ?_
        refine zl_iadd dL_law_228 ?_
        refine zl_ald (hin 1 (by decide)) dL_law_229 ?_
        refine zl_aload_n 0 dL_law_230 rfl rfl ?_
        refine zl_iload_n 3 dL_law_231 rfl rfl ?_
        refine zl_iconst (v := 2) dL_law_232 (by decide) ?_
        refine zl_iadd dL_law_233 ?_
        refine zl_ald (hin 2 (by decide)) dL_law_234 ?_
        refine zl_aload_n 0 dL_law_235 rfl rfl ?_
        refine zl_iload_n 3 dL_law_236 rfl rfl ?_
        refine zl_iconst (v := 3) dL_law_237 (by decide) ?_
        refine zl_iadd dL_law_238 ?_
        refine zl_ald (hin 3 (by decide)) dL_law_239 ?_
        refine zl_callC (ctX11_input (E := E) (f := 3) (Nat.le_refl _) hc) yl_X11_input ylv_X11_input obl_C lk_RL_33 (by decide) rfl rfl (Nat.le_of_ble_eq_true rfl) dL_law_240 ?_
        refine zl_aload_n 2 dL_law_243 rfl rfl ?_
        refine zl_aload_n 0 dL_law_244 rfl rfl ?_
        refine zl_iload_n 3 dL_law_245 rfl rfl ?_
        refine zl_iconst (v := 1) dL_law_246 (by decide) ?_
        refine zl_iadd dL_law_247 ?_
        refine zl_ald (hin 1 (by decide)) dL_law_248 ?_
        refine zl_aload_n 0 dL_law_249 rfl rfl ?_
        refine zl_iload_n 3 dL_law_250 rfl rfl ?_
        refine zl_iconst (v := 2) dL_law_251 (by decide) ?_
        refine zl_iadd dL_law_252 ?_
        refine zl_ald (hin 2 (by decide)) dL_law_253 ?_
        refine zl_aload_n 0 dL_law_254 rfl rfl ?_
        refine zl_iload_n 3 dL_law_255 rfl rfl ?_
        refine zl_iconst (v := 3) dL_law_256 (by decide) ?_
        refine zl_iadd dL_law_257 ?_
        refine zl_ald (hin 3 (by decide)) dL_law_258 ?_
        refine zl_callM (ctX12_input (E := F) (f := 1) (Nat.le_refl _) hm) yl_X12_input ylv_X12_input obl_M lk_RL_37 (by decide) rfl rfl (Nat.le_of_ble_eq_true rfl) dL_law_259 ?_
        refine zl_icmp_eq (tgt := 435) dL_law_262 (by decide) rfl ?_
        exact hend t2 u2 hrel
      by_cases hx5 : x = 5
      · subst hx5
        rw [zkC_5] at hc
        rw [zkM_5] at hm
        refine zl_tabIn (tgt := 267) dL_law_33 (by decide) (by decide) rfl (by decide) ?_
        refine zl_aload_n 1 dL_law_267 rfl rfl ?_
        refine zl_callC (ctX11_start (E := E) (f := 6) (Nat.le_refl _) hc) yl_X11_start ylv_X11_start obl_C lk_RL_38 (by decide) rfl rfl (Nat.le_of_ble_eq_true rfl) dL_law_268 ?_
        refine zl_aload_n 2 dL_law_271 rfl rfl ?_
        refine zl_callM (ctX12_start (E := F) (f := 5) (Nat.le_refl _) hm) yl_X12_start ylv_X12_start obl_M lk_RL_41 (by decide) rfl rfl (Nat.le_of_ble_eq_true rfl) dL_law_272 ?_
        refine zl_icmp_eq (tgt := 435) dL_law_275 (by decide) rfl ?_
        exact hend t2 u2 hrel
      by_cases hx6 : x = 6
      · subst hx6
        rw [zkC_6] at hc
        rw [zkM_6] at hm
        refine zl_tabIn (tgt := 280) dL_law_33 (by decide) (by decide) rfl (by decide) ?_
        refine zl_aload_n 1 dL_law_280 rfl rfl ?_
        refine zl_aload_n 0 dL_law_281 rfl rfl ?_
        refine zl_iload_n 3 dL_law_282 rfl rfl ?_
        refine zl_iconst (v := 1) dL_law_283 (by decide) ?_
        refine zl_iadd dL_law_284 ?_
        refine zl_ald (hin 1 (by decide)) dL_law_285 ?_
        refine zl_callC (ctX11_run (E := E) (f := 8) (Nat.le_refl _) hc) yl_X11_run ylv_X11_run obl_C lk_RL_42 (by decide) rfl rfl (Nat.le_of_ble_eq_true rfl) dL_law_286 ?_
        refine zl_aload_n 2 dL_law_289 rfl rfl ?_
        refine zl_aload_n 0 dL_law_290 rfl rfl ?_
        refine zl_iload_n 3 dL_law_291 rfl rfl ?_
        refine zl_iconst (v := 1) dL_law_292 (by decide) ?_
        refine zl_iadd dL_law_293 ?_
        refine zl_ald (hin 1 (by decide)) dL_law_294 ?_
        refine zl_callM (ctX12_run (E := F) (f := 8) (Nat.le_refl _) hm) yl_X12_run ylv_X12_run obl_M lk_RL_45 (by decide) rfl rfl (Nat.le_of_ble_eq_true rfl) dL_law_295 ?_
        refine zl_icmp_eq (tgt := 435) dL_law_298 (by decide) rfl ?_
        exact hend t2 u2 hrel
      by_cases hx7 : x = 7
      · subst hx7
        rw [zkC_7] at hc
        rw [zkM_7] at hm
        refine zl_tabIn (tgt := 303) dL_law_33 (by decide) (by decide) rfl (by decide) ?_
        refine zl_aload_n 1 dL_law_303 rfl rfl ?_
        refine zl_aload_n 0 dL_law_304 rfl rfl ?_
        refine zl_iload_n 3 dL_law_305 rfl rfl ?_
        refine zl_iconst (v := 1) dL_law_306 (by decide) ?_
        refine zl_iadd dL_law_307 ?_
        refine zl_ald (hin 1 (by decide)) dL_law_308 ?_
        refine zl_callC (ctX11_output (E := E) (f := 3) (Nat.le_refl _) hc) yl_X11_output ylv_X11_output obl_C lk_RL_46 (by decide) rfl rfl (Nat.le_of_ble_eq_true rfl) dL_law_309 ?_
        refine zl_aload_n 2 dL_law_312 rfl rfl ?_
        refine zl_aload_n 0 dL_law_313 rfl rfl ?_
        refine zl_iload_n 3 dL_law_314 rfl rfl ?_
        refine zl_iconst (v := 1) dL_law_315 (by decide) ?_
        refine zl_iadd dL_law_316 ?_
        refine zl_ald (hin 1 (by decide)) dL_law_317 ?_
        refine zl_callM (ctX12_output (E := F) (f := 2) (Nat.le_refl _) hm) yl_X12_output ylv_X12_output obl_M lk_RL_49 (by decide) rfl rfl (Nat.le_of_ble_eq_true rfl) dL_law_318 ?_
        refine zl_icmp_eq (tgt := 435) dL_law_321 (by decide) rfl ?_
        exact hend t2 u2 hrel
      by_cases hx8 : x = 8
      · subst hx8
        rw [zkC_8] at hc
        rw [zkM_8] at hm
        refine zl_tabIn (tgt := 326) dL_law_33 (by decide) (by decide) rfl (by decide) ?_
        refine zl_aload_n 1 dL_law_326 rfl rfl ?_
        refine zl_aload_n 0 dL_law_327 rfl rfl ?_
        refine zl_iload_n 3 dL_law_328 rfl rfl ?_
        refine zl_iconst (v := 1) dL_law_329 (by decide) ?_
        refine zl_iadd dL_law_330 ?_
        refine zl_ald (hin 1 (by decide)) dL_law_331 ?_
        refine zl_callC (ctX11_count (E := E) (f := 2) (Nat.le_refl _) hc) yl_X11_count ylv_X11_count obl_C lk_RL_50 (by decide) rfl rfl (Nat.le_of_ble_eq_true rfl) dL_law_332 ?_
        refine zl_aload_n 2 dL_law_335 rfl rfl ?_
        refine zl_aload_n 0 dL_law_336 rfl rfl ?_
        refine zl_iload_n 3 dL_law_337 rfl rfl ?_
        refine zl_iconst (v := 1) dL_law_338 (by decide) ?_
        refine zl_iadd dL_law_339 ?_
        refine zl_ald (hin 1 (by decide)) dL_law_340 ?_
        refine zl_callM (ctX12_count (E := F) (f := 2) (Nat.le_refl _) hm) yl_X12_count ylv_X12_count obl_M lk_RL_53 (by decide) rfl rfl (Nat.le_of_ble_eq_true rfl) dL_law_341 ?_
        refine zl_icmp_eq (tgt := 435) dL_law_344 (by decide) rfl ?_
        exact hend t2 u2 hrel
      by_cases hx9 : x = 9
      · subst hx9
        rw [zkC_9] at hc
        rw [zkM_9] at hm
        refine zl_tabIn (tgt := 349) dL_law_33 (by decide) (by decide) rfl (by decide) ?_
        refine zl_aload_n 1 dL_law_349 rfl rfl ?_
        refine zl_aload_n 0 dL_law_350 rfl rfl ?_
        refine zl_iload_n 3 dL_law_351 rfl rfl ?_
        refine zl_iconst (v := 1) dL_law_352 (by decide) ?_
        refine zl_iadd dL_law_353 ?_
        refine zl_ald (hin 1 (by decide)) dL_law_354 ?_
        refine zl_aload_n 0 dL_law_355 rfl rfl ?_
        refine zl_iload_n 3 dL_law_356 rfl rfl ?_
        refine zl_iconst (v := 2) dL_law_357 (by decide) ?_
        refine zl_iadd dL_law_358 ?_
        refine zl_ald (hin 2 (by decide)) dL_law_359 ?_
        refine zl_aload_n 0 dL_law_360 rfl rfl ?_
        refine zl_iload_n 3 dL_law_361 rfl rfl ?_
        refine zl_iconst (v := 3) dL_law_362 (by decide) ?_
        refine zl_iadd dL_law_363 ?_
        refine zl_ald (hin 3 (by decide)) dL_law_364 ?_
        refine zl_callC (ctX11_process (E := E) (f := 5) (Nat.le_refl _) hc) yl_X11_process ylv_X11_process obl_C lk_RL_54 (by decide) rfl rfl (Nat.le_of_ble_eq_true rfl) dL_law_365 ?_
        refine zl_aload_n 2 dL_law_368 rfl rfl ?_
        refine zl_aload_n 0 dL_law_369 rfl rfl ?_
        refine zl_iload_n 3 dL_law_370 rfl rfl ?_
        refine zl_iconst (v := 1) dL_law_371 (by decide) ?_
        refine zl_iadd dL_law_372 ?_
        refine zl_ald (hin 1 (by decide)) dL_law_373 ?_
        refine zl_aload_n 0 dL_law_374 rfl rfl ?_
        refine zl_iload_n 3 dL_law_375 rfl rfl ?_
        refine zl_iconst (v := 2) dL_law_376 (by decide) ?_
        refine zl_iadd dL_law_377 ?_
        refine zl_ald (hin 2 (by decide)) dL_law_378 ?_
        refine zl_aload_n 0 dL_law_379 rfl rfl ?_
        refine zl_iload_n 3 dL_law_380 rfl rfl ?_
        refine zl_iconst (v := 3) dL_law_381 (by decide) ?_
        refine zl_iadd dL_law_382 ?_
        refine zl_ald (hin 3 (by decide)) dL_law_383 ?_
        refine zl_callM (ctX12_process (E := F) (f := 2) (Nat.le_refl _) hm) yl_X12_process ylv_X12_process obl_M lk_RL_57 (by decide) rfl rfl (Nat.le_of_ble_eq_true rfl) dL_law_384 ?_
        refine zl_icmp_eq (tgt := 435) dL_law_387 (by decide) rfl ?_
        exact hend t2 u2 hrel
      by_cases hx10 : x = 10
      · subst hx10
        rw [zkC_10] at hc
        rw [zkM_10] at hm
        refine zl_tabIn (tgt := 392) dL_law_33 (by decide) (by decide) rfl (by decide) ?_
        refine zl_aload_n 1 dL_law_392 rfl rfl ?_
        refine zl_aload_n 0 dL_law_393 rfl rfl ?_
        refine zl_iload_n 3 dL_law_394 rfl rfl ?_
        refine zl_iconst (v := 1) dL_law_395 (by decide) ?_
        refine zl_iadd dL_law_396 ?_
        refine zl_ald (hin 1 (by decide)) dL_law_397 ?_
        refine zl_aload_n 0 dL_law_398 rfl rfl ?_
        refine zl_iload_n 3 dL_law_399 rfl rfl ?_
        refine zl_iconst (v := 2) dL_law_400 (by decide) ?_
        refine zl_iadd dL_law_401 ?_
        refine zl_ald (hin 2 (by decide)) dL_law_402 ?_
        refine zl_aload_n 0 dL_law_403 rfl rfl ?_
        refine zl_iload_n 3 dL_law_404 rfl rfl ?_
        refine zl_iconst (v := 3) dL_law_405 (by decide) ?_
        refine zl_iadd dL_law_406 ?_
        refine zl_ald (hin 3 (by decide)) dL_law_407 ?_
        refine zl_callC (ctX11_types (E := E) (f := 5) (Nat.le_refl _) hc) yl_X11_types ylv_X11_types obl_C lk_RL_58 (by decide) rfl rfl (Nat.le_of_ble_eq_true rfl) dL_law_408 ?_
        refine zl_aload_n 2 dL_law_411 rfl rfl ?_
        refine zl_aload_n 0 dL_law_412 rfl rfl ?_
        refine zl_iload_n 3 dL_law_413 rfl rfl ?_
        refine zl_iconst (v := 1) dL_law_414 (by decide) ?_
        refine zl_iadd dL_law_415 ?_
        refine zl_ald (hin 1 (by decide)) dL_law_416 ?_
        refine zl_aload_n 0 dL_law_417 rfl rfl ?_
        refine zl_iload_n 3 dL_law_418 rfl rfl ?_
        refine zl_iconst (v := 2) dL_law_419 (by decide) ?_
        refine zl_iadd dL_law_420 ?_
        refine zl_ald (hin 2 (by decide)) dL_law_421 ?_
        refine zl_aload_n 0 dL_law_422 rfl rfl ?_
        refine zl_iload_n 3 dL_law_423 rfl rfl ?_
        refine zl_iconst (v := 3) dL_law_424 (by decide) ?_
        refine zl_iadd dL_law_425 ?_
        refine zl_ald (hin 3 (by decide)) dL_law_426 ?_
        refine zl_callM (ctX12_types (E := F) (f := 4) (Nat.le_refl _) hm) yl_X12_types ylv_X12_types obl_M lk_RL_61 (by decide) rfl rfl (Nat.le_of_ble_eq_true rfl) dL_law_427 ?_
        refine zl_icmp_eq (tgt := 435) dL_law_430 (by decide) rfl ?_
        exact hend t2 u2 hrel
      have hO : (x).toInt < 0 ∨ 10 < (x).toInt := by
        have q0 := lv_neT (a := 0) hx0 (by decide)
        have q1 := lv_neT (a := 1) hx1 (by decide)
        have q2 := lv_neT (a := 2) hx2 (by decide)
        have q3 := lv_neT (a := 3) hx3 (by decide)
        have q4 := lv_neT (a := 4) hx4 (by decide)
        have q5 := lv_neT (a := 5) hx5 (by decide)
        have q6 := lv_neT (a := 6) hx6 (by decide)
        have q7 := lv_neT (a := 7) hx7 (by decide)
        have q8 := lv_neT (a := 8) hx8 (by decide)
        have q9 := lv_neT (a := 9) hx9 (by decide)
        have q10 := lv_neT (a := 10) hx10 (by decide)
        omega
      refine zl_tabOut (tgt := 435) dL_law_33 hO (by decide) ?_
      rw [zkC, if_neg hx0, if_neg hx1, if_neg hx2, if_neg hx3, if_neg hx4, if_neg hx5, if_neg hx6, if_neg hx7, if_neg hx8, if_neg hx9, if_neg hx10] at hc
      rw [zkM, if_neg hx0, if_neg hx1, if_neg hx2, if_neg hx3, if_neg hx4, if_neg hx5, if_neg hx6, if_neg hx7, if_neg hx8, if_neg hx9, if_neg hx10] at hm
      cases hc
      cases hm
      exact hend t u hrel
