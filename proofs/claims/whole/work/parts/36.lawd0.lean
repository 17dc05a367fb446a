-- the law: its instructions, 0
theorem d_law_0 : decode code 0 = .ok (.new 8, 3) := by decide +kernel
theorem d_law_3 : decode code 3 = .ok (.dup, 1) := by decide +kernel
theorem d_law_4 : decode code 4 = .ok (.invokespecial 74, 3) := by decide +kernel
theorem d_law_7 : decode code 7 = .ok (.astore_n 1, 1) := by decide +kernel
theorem d_law_8 : decode code 8 = .ok (.new 75, 3) := by decide +kernel
theorem d_law_11 : decode code 11 = .ok (.dup, 1) := by decide +kernel
theorem d_law_12 : decode code 12 = .ok (.invokespecial 77, 3) := by decide +kernel
theorem d_law_15 : decode code 15 = .ok (.astore_n 2, 1) := by decide +kernel
theorem d_law_16 : decode code 16 = .ok (.iconst 1, 1) := by decide +kernel
theorem d_law_17 : decode code 17 = .ok (.newarray .long, 2) := by decide +kernel
theorem d_law_19 : decode code 19 = .ok (.astore_n 3, 1) := by decide +kernel
theorem d_law_20 : decode code 20 = .ok (.iconst 1, 1) := by decide +kernel
theorem d_law_21 : decode code 21 = .ok (.newarray .double, 2) := by decide +kernel
theorem d_law_23 : decode code 23 = .ok (.astore 4, 2) := by decide +kernel
theorem d_law_25 : decode code 25 = .ok (.iconst 0, 1) := by decide +kernel
theorem d_law_26 : decode code 26 = .ok (.istore 5, 2) := by decide +kernel
theorem d_law_28 : decode code 28 = .ok (.iload 5, 2) := by decide +kernel
theorem d_law_30 : decode code 30 = .ok (.aload_n 0, 1) := by decide +kernel
theorem d_law_31 : decode code 31 = .ok (.arraylength, 1) := by decide +kernel
theorem d_law_32 : decode code 32 = .ok (.iconst 4, 1) := by decide +kernel
theorem d_law_33 : decode code 33 = .ok (.isub, 1) := by decide +kernel
theorem d_law_34 : decode code 34 = .ok (.if_icmp .gt 1313, 3) := by decide +kernel
theorem d_law_37 : decode code 37 = .ok (.aload_n 0, 1) := by decide +kernel
theorem d_law_38 : decode code 38 = .ok (.iload 5, 2) := by decide +kernel
theorem d_law_40 : decode code 40 = .ok (.iaload, 1) := by decide +kernel
theorem d_law_41 : decode code 41 = .ok (.bipush 31, 2) := by decide +kernel
theorem d_law_43 : decode code 43 = .ok (.iand, 1) := by decide +kernel
theorem d_law_44 : decode code 44 = .ok (.tableswitch 1297 0 16 #[84, 172, 282, 338, 438, 494, 562, 618, 686, 776, 860, 916, 972, 1061, 1148, 1204, 1272], 84) := by decide +kernel
theorem d_law_128 : decode code 128 = .ok (.aload_n 1, 1) := by decide +kernel
theorem d_law_129 : decode code 129 = .ok (.aload_n 0, 1) := by decide +kernel
theorem d_law_130 : decode code 130 = .ok (.iload 5, 2) := by decide +kernel
theorem d_law_132 : decode code 132 = .ok (.iconst 1, 1) := by decide +kernel
theorem d_law_133 : decode code 133 = .ok (.iadd, 1) := by decide +kernel
theorem d_law_134 : decode code 134 = .ok (.iaload, 1) := by decide +kernel
theorem d_law_135 : decode code 135 = .ok (.i2d, 1) := by decide +kernel
theorem d_law_136 : decode code 136 = .ok (.ldc2_w 78, 3) := by decide +kernel
theorem d_law_139 : decode code 139 = .ok (.dmul, 1) := by decide +kernel
theorem d_law_140 : decode code 140 = .ok (.aload_n 0, 1) := by decide +kernel
theorem d_law_141 : decode code 141 = .ok (.iload 5, 2) := by decide +kernel
theorem d_law_143 : decode code 143 = .ok (.iconst 2, 1) := by decide +kernel
theorem d_law_144 : decode code 144 = .ok (.iadd, 1) := by decide +kernel
theorem d_law_145 : decode code 145 = .ok (.iaload, 1) := by decide +kernel
theorem d_law_146 : decode code 146 = .ok (.i2d, 1) := by decide +kernel
theorem d_law_147 : decode code 147 = .ok (.ldc2_w 78, 3) := by decide +kernel
theorem d_law_150 : decode code 150 = .ok (.dmul, 1) := by decide +kernel
theorem d_law_151 : decode code 151 = .ok (.aload_n 3, 1) := by decide +kernel
theorem d_law_152 : decode code 152 = .ok (.invokestatic 80, 3) := by decide +kernel
theorem d_law_155 : decode code 155 = .ok (.istore 6, 2) := by decide +kernel
theorem d_law_157 : decode code 157 = .ok (.aload_n 2, 1) := by decide +kernel
theorem d_law_158 : decode code 158 = .ok (.aload_n 0, 1) := by decide +kernel
theorem d_law_159 : decode code 159 = .ok (.iload 5, 2) := by decide +kernel
theorem d_law_161 : decode code 161 = .ok (.iconst 1, 1) := by decide +kernel
theorem d_law_162 : decode code 162 = .ok (.iadd, 1) := by decide +kernel
theorem d_law_163 : decode code 163 = .ok (.iaload, 1) := by decide +kernel
theorem d_law_164 : decode code 164 = .ok (.i2d, 1) := by decide +kernel
theorem d_law_165 : decode code 165 = .ok (.ldc2_w 78, 3) := by decide +kernel
theorem d_law_168 : decode code 168 = .ok (.dmul, 1) := by decide +kernel
theorem d_law_169 : decode code 169 = .ok (.aload_n 0, 1) := by decide +kernel
theorem d_law_170 : decode code 170 = .ok (.iload 5, 2) := by decide +kernel
theorem d_law_172 : decode code 172 = .ok (.iconst 2, 1) := by decide +kernel
theorem d_law_173 : decode code 173 = .ok (.iadd, 1) := by decide +kernel
theorem d_law_174 : decode code 174 = .ok (.iaload, 1) := by decide +kernel
theorem d_law_175 : decode code 175 = .ok (.i2d, 1) := by decide +kernel
theorem d_law_176 : decode code 176 = .ok (.ldc2_w 78, 3) := by decide +kernel
theorem d_law_179 : decode code 179 = .ok (.dmul, 1) := by decide +kernel
theorem d_law_180 : decode code 180 = .ok (.invokevirtual 85, 3) := by decide +kernel
theorem d_law_183 : decode code 183 = .ok (.istore 7, 2) := by decide +kernel
theorem d_law_185 : decode code 185 = .ok (.aload_n 2, 1) := by decide +kernel
theorem d_law_186 : decode code 186 = .ok (.invokevirtual 86, 3) := by decide +kernel
theorem d_law_189 : decode code 189 = .ok (.iload 6, 2) := by decide +kernel
theorem d_law_191 : decode code 191 = .ok (.if_icmp .eq 5, 3) := by decide +kernel
theorem d_law_194 : decode code 194 = .ok (.iconst 0, 1) := by decide +kernel
theorem d_law_195 : decode code 195 = .ok (.ireturn, 1) := by decide +kernel
theorem d_law_196 : decode code 196 = .ok (.iload 6, 2) := by decide +kernel
theorem d_law_198 : decode code 198 = .ok (.ifCond .ne 15, 3) := by decide +kernel
theorem d_law_201 : decode code 201 = .ok (.aload_n 3, 1) := by decide +kernel
theorem d_law_202 : decode code 202 = .ok (.iconst 0, 1) := by decide +kernel
theorem d_law_203 : decode code 203 = .ok (.laload, 1) := by decide +kernel
theorem d_law_204 : decode code 204 = .ok (.iload 7, 2) := by decide +kernel
theorem d_law_206 : decode code 206 = .ok (.i2l, 1) := by decide +kernel
theorem d_law_207 : decode code 207 = .ok (.lcmp, 1) := by decide +kernel
theorem d_law_208 : decode code 208 = .ok (.ifCond .eq 5, 3) := by decide +kernel
theorem d_law_211 : decode code 211 = .ok (.iconst 0, 1) := by decide +kernel
theorem d_law_212 : decode code 212 = .ok (.ireturn, 1) := by decide +kernel
theorem d_law_213 : decode code 213 = .ok (.goto 1128, 3) := by decide +kernel
theorem d_law_216 : decode code 216 = .ok (.aload_n 1, 1) := by decide +kernel
theorem d_law_217 : decode code 217 = .ok (.aload_n 0, 1) := by decide +kernel
theorem d_law_218 : decode code 218 = .ok (.iload 5, 2) := by decide +kernel
theorem d_law_220 : decode code 220 = .ok (.iconst 1, 1) := by decide +kernel
theorem d_law_221 : decode code 221 = .ok (.iadd, 1) := by decide +kernel
theorem d_law_222 : decode code 222 = .ok (.iaload, 1) := by decide +kernel
theorem d_law_223 : decode code 223 = .ok (.i2d, 1) := by decide +kernel
theorem d_law_224 : decode code 224 = .ok (.ldc2_w 78, 3) := by decide +kernel
theorem d_law_227 : decode code 227 = .ok (.dmul, 1) := by decide +kernel
theorem d_law_228 : decode code 228 = .ok (.aload_n 0, 1) := by decide +kernel
theorem d_law_229 : decode code 229 = .ok (.iload 5, 2) := by decide +kernel
theorem d_law_231 : decode code 231 = .ok (.iconst 2, 1) := by decide +kernel
theorem d_law_232 : decode code 232 = .ok (.iadd, 1) := by decide +kernel
theorem d_law_233 : decode code 233 = .ok (.iaload, 1) := by decide +kernel
theorem d_law_234 : decode code 234 = .ok (.i2d, 1) := by decide +kernel
theorem d_law_235 : decode code 235 = .ok (.ldc2_w 78, 3) := by decide +kernel
theorem d_law_238 : decode code 238 = .ok (.dmul, 1) := by decide +kernel
theorem d_law_239 : decode code 239 = .ok (.aload_n 0, 1) := by decide +kernel
theorem d_law_240 : decode code 240 = .ok (.iload 5, 2) := by decide +kernel
theorem d_law_242 : decode code 242 = .ok (.iconst 3, 1) := by decide +kernel
theorem d_law_243 : decode code 243 = .ok (.iadd, 1) := by decide +kernel
theorem d_law_244 : decode code 244 = .ok (.iaload, 1) := by decide +kernel
theorem d_law_245 : decode code 245 = .ok (.i2d, 1) := by decide +kernel
theorem d_law_246 : decode code 246 = .ok (.ldc2_w 78, 3) := by decide +kernel
theorem d_law_249 : decode code 249 = .ok (.dmul, 1) := by decide +kernel
theorem d_law_250 : decode code 250 = .ok (.aload_n 3, 1) := by decide +kernel
theorem d_law_251 : decode code 251 = .ok (.invokestatic 90, 3) := by decide +kernel
theorem d_law_254 : decode code 254 = .ok (.istore 6, 2) := by decide +kernel
theorem d_law_256 : decode code 256 = .ok (.aload_n 2, 1) := by decide +kernel
theorem d_law_257 : decode code 257 = .ok (.aload_n 0, 1) := by decide +kernel
theorem d_law_258 : decode code 258 = .ok (.iload 5, 2) := by decide +kernel
theorem d_law_260 : decode code 260 = .ok (.iconst 1, 1) := by decide +kernel
theorem d_law_261 : decode code 261 = .ok (.iadd, 1) := by decide +kernel
theorem d_law_262 : decode code 262 = .ok (.iaload, 1) := by decide +kernel
theorem d_law_263 : decode code 263 = .ok (.i2d, 1) := by decide +kernel
theorem d_law_264 : decode code 264 = .ok (.ldc2_w 78, 3) := by decide +kernel
theorem d_law_267 : decode code 267 = .ok (.dmul, 1) := by decide +kernel
theorem d_law_268 : decode code 268 = .ok (.aload_n 0, 1) := by decide +kernel
theorem d_law_269 : decode code 269 = .ok (.iload 5, 2) := by decide +kernel
theorem d_law_271 : decode code 271 = .ok (.iconst 2, 1) := by decide +kernel
theorem d_law_272 : decode code 272 = .ok (.iadd, 1) := by decide +kernel
theorem d_law_273 : decode code 273 = .ok (.iaload, 1) := by decide +kernel
theorem d_law_274 : decode code 274 = .ok (.i2d, 1) := by decide +kernel
theorem d_law_275 : decode code 275 = .ok (.ldc2_w 78, 3) := by decide +kernel
theorem d_law_278 : decode code 278 = .ok (.dmul, 1) := by decide +kernel
theorem d_law_279 : decode code 279 = .ok (.aload_n 0, 1) := by decide +kernel
theorem d_law_280 : decode code 280 = .ok (.iload 5, 2) := by decide +kernel
theorem d_law_282 : decode code 282 = .ok (.iconst 3, 1) := by decide +kernel
theorem d_law_283 : decode code 283 = .ok (.iadd, 1) := by decide +kernel
theorem d_law_284 : decode code 284 = .ok (.iaload, 1) := by decide +kernel
theorem d_law_285 : decode code 285 = .ok (.i2d, 1) := by decide +kernel
theorem d_law_286 : decode code 286 = .ok (.ldc2_w 78, 3) := by decide +kernel
theorem d_law_289 : decode code 289 = .ok (.dmul, 1) := by decide +kernel
theorem d_law_290 : decode code 290 = .ok (.invokevirtual 93, 3) := by decide +kernel
theorem d_law_293 : decode code 293 = .ok (.istore 7, 2) := by decide +kernel
theorem d_law_295 : decode code 295 = .ok (.aload_n 2, 1) := by decide +kernel
theorem d_law_296 : decode code 296 = .ok (.invokevirtual 86, 3) := by decide +kernel
theorem d_law_299 : decode code 299 = .ok (.iload 6, 2) := by decide +kernel
theorem d_law_301 : decode code 301 = .ok (.if_icmp .eq 5, 3) := by decide +kernel
theorem d_law_304 : decode code 304 = .ok (.iconst 0, 1) := by decide +kernel
theorem d_law_305 : decode code 305 = .ok (.ireturn, 1) := by decide +kernel
theorem d_law_306 : decode code 306 = .ok (.iload 6, 2) := by decide +kernel
theorem d_law_308 : decode code 308 = .ok (.ifCond .ne 15, 3) := by decide +kernel
theorem d_law_311 : decode code 311 = .ok (.aload_n 3, 1) := by decide +kernel
theorem d_law_312 : decode code 312 = .ok (.iconst 0, 1) := by decide +kernel
theorem d_law_313 : decode code 313 = .ok (.laload, 1) := by decide +kernel
theorem d_law_314 : decode code 314 = .ok (.iload 7, 2) := by decide +kernel
theorem d_law_316 : decode code 316 = .ok (.i2l, 1) := by decide +kernel
theorem d_law_317 : decode code 317 = .ok (.lcmp, 1) := by decide +kernel
theorem d_law_318 : decode code 318 = .ok (.ifCond .eq 5, 3) := by decide +kernel
theorem d_law_321 : decode code 321 = .ok (.iconst 0, 1) := by decide +kernel
theorem d_law_322 : decode code 322 = .ok (.ireturn, 1) := by decide +kernel
theorem d_law_323 : decode code 323 = .ok (.goto 1018, 3) := by decide +kernel
theorem d_law_326 : decode code 326 = .ok (.aload_n 1, 1) := by decide +kernel
theorem d_law_327 : decode code 327 = .ok (.aload_n 0, 1) := by decide +kernel
theorem d_law_328 : decode code 328 = .ok (.iload 5, 2) := by decide +kernel
theorem d_law_330 : decode code 330 = .ok (.iconst 1, 1) := by decide +kernel
theorem d_law_331 : decode code 331 = .ok (.iadd, 1) := by decide +kernel
theorem d_law_332 : decode code 332 = .ok (.iaload, 1) := by decide +kernel
theorem d_law_333 : decode code 333 = .ok (.aload_n 3, 1) := by decide +kernel
theorem d_law_334 : decode code 334 = .ok (.invokestatic 94, 3) := by decide +kernel
theorem d_law_337 : decode code 337 = .ok (.istore 6, 2) := by decide +kernel
theorem d_law_339 : decode code 339 = .ok (.aload_n 2, 1) := by decide +kernel
theorem d_law_340 : decode code 340 = .ok (.aload_n 0, 1) := by decide +kernel
theorem d_law_341 : decode code 341 = .ok (.iload 5, 2) := by decide +kernel
theorem d_law_343 : decode code 343 = .ok (.iconst 1, 1) := by decide +kernel
theorem d_law_344 : decode code 344 = .ok (.iadd, 1) := by decide +kernel
theorem d_law_345 : decode code 345 = .ok (.iaload, 1) := by decide +kernel
theorem d_law_346 : decode code 346 = .ok (.invokevirtual 97, 3) := by decide +kernel
theorem d_law_349 : decode code 349 = .ok (.istore 7, 2) := by decide +kernel
theorem d_law_351 : decode code 351 = .ok (.aload_n 2, 1) := by decide +kernel
theorem d_law_352 : decode code 352 = .ok (.invokevirtual 86, 3) := by decide +kernel
theorem d_law_355 : decode code 355 = .ok (.iload 6, 2) := by decide +kernel
theorem d_law_357 : decode code 357 = .ok (.if_icmp .eq 5, 3) := by decide +kernel
theorem d_law_360 : decode code 360 = .ok (.iconst 0, 1) := by decide +kernel
theorem d_law_361 : decode code 361 = .ok (.ireturn, 1) := by decide +kernel
theorem d_law_362 : decode code 362 = .ok (.iload 6, 2) := by decide +kernel
theorem d_law_364 : decode code 364 = .ok (.ifCond .ne 15, 3) := by decide +kernel
theorem d_law_367 : decode code 367 = .ok (.aload_n 3, 1) := by decide +kernel
theorem d_law_368 : decode code 368 = .ok (.iconst 0, 1) := by decide +kernel
theorem d_law_369 : decode code 369 = .ok (.laload, 1) := by decide +kernel
theorem d_law_370 : decode code 370 = .ok (.iload 7, 2) := by decide +kernel
theorem d_law_372 : decode code 372 = .ok (.i2l, 1) := by decide +kernel
theorem d_law_373 : decode code 373 = .ok (.lcmp, 1) := by decide +kernel
theorem d_law_374 : decode code 374 = .ok (.ifCond .eq 5, 3) := by decide +kernel
