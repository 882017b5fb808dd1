/-! DECODE rows (by wip/names.py) -/
theorem zd_N_init_0 : decode zc_N_init 0 = .ok (.aload_n 0, 1) := by decide +kernel
theorem zd_N_init_1 : decode zc_N_init 1 = .ok (.invokespecial 1, 3) := by decide +kernel
theorem zd_N_init_4 : decode zc_N_init 4 = .ok (.aload_n 0, 1) := by decide +kernel
theorem zd_N_init_5 : decode zc_N_init 5 = .ok (.bipush 56, 2) := by decide +kernel
theorem zd_N_init_7 : decode zc_N_init 7 = .ok (.newarray .int, 2) := by decide +kernel
theorem zd_N_init_9 : decode zc_N_init 9 = .ok (.putfield 7, 3) := by decide +kernel
theorem zd_N_init_12 : decode zc_N_init 12 = .ok (.aload_n 0, 1) := by decide +kernel
theorem zd_N_init_13 : decode zc_N_init 13 = .ok (.bipush 32, 2) := by decide +kernel
theorem zd_N_init_15 : decode zc_N_init 15 = .ok (.newarray .int, 2) := by decide +kernel
theorem zd_N_init_17 : decode zc_N_init 17 = .ok (.putfield 13, 3) := by decide +kernel
theorem zd_N_init_20 : decode zc_N_init 20 = .ok (.aload_n 0, 1) := by decide +kernel
theorem zd_N_init_21 : decode zc_N_init 21 = .ok (.bipush 8, 2) := by decide +kernel
theorem zd_N_init_23 : decode zc_N_init 23 = .ok (.newarray .int, 2) := by decide +kernel
theorem zd_N_init_25 : decode zc_N_init 25 = .ok (.putfield 16, 3) := by decide +kernel
theorem zd_N_init_28 : decode zc_N_init 28 = .ok (.aload_n 0, 1) := by decide +kernel
theorem zd_N_init_29 : decode zc_N_init 29 = .ok (.bipush 16, 2) := by decide +kernel
theorem zd_N_init_31 : decode zc_N_init 31 = .ok (.newarray .int, 2) := by decide +kernel
theorem zd_N_init_33 : decode zc_N_init 33 = .ok (.putfield 19, 3) := by decide +kernel
theorem zd_N_init_36 : decode zc_N_init 36 = .ok (.aload_n 0, 1) := by decide +kernel
theorem zd_N_init_37 : decode zc_N_init 37 = .ok (.bipush 16, 2) := by decide +kernel
theorem zd_N_init_39 : decode zc_N_init 39 = .ok (.newarray .int, 2) := by decide +kernel
theorem zd_N_init_41 : decode zc_N_init 41 = .ok (.putfield 22, 3) := by decide +kernel
theorem zd_N_init_44 : decode zc_N_init 44 = .ok (.aload_n 0, 1) := by decide +kernel
theorem zd_N_init_45 : decode zc_N_init 45 = .ok (.bipush 32, 2) := by decide +kernel
theorem zd_N_init_47 : decode zc_N_init 47 = .ok (.newarray .int, 2) := by decide +kernel
theorem zd_N_init_49 : decode zc_N_init 49 = .ok (.putfield 25, 3) := by decide +kernel
theorem zd_N_init_52 : decode zc_N_init 52 = .ok (.aload_n 0, 1) := by decide +kernel
theorem zd_N_init_53 : decode zc_N_init 53 = .ok (.bipush 16, 2) := by decide +kernel
theorem zd_N_init_55 : decode zc_N_init 55 = .ok (.newarray .int, 2) := by decide +kernel
theorem zd_N_init_57 : decode zc_N_init 57 = .ok (.putfield 28, 3) := by decide +kernel
theorem zd_N_init_60 : decode zc_N_init 60 = .ok (.aload_n 0, 1) := by decide +kernel
theorem zd_N_init_61 : decode zc_N_init 61 = .ok (.bipush 16, 2) := by decide +kernel
theorem zd_N_init_63 : decode zc_N_init 63 = .ok (.newarray .int, 2) := by decide +kernel
theorem zd_N_init_65 : decode zc_N_init 65 = .ok (.putfield 31, 3) := by decide +kernel
theorem zd_N_init_68 : decode zc_N_init 68 = .ok (.aload_n 0, 1) := by decide +kernel
theorem zd_N_init_69 : decode zc_N_init 69 = .ok (.bipush 16, 2) := by decide +kernel
theorem zd_N_init_71 : decode zc_N_init 71 = .ok (.newarray .int, 2) := by decide +kernel
theorem zd_N_init_73 : decode zc_N_init 73 = .ok (.putfield 34, 3) := by decide +kernel
theorem zd_N_init_76 : decode zc_N_init 76 = .ok (.aload_n 0, 1) := by decide +kernel
theorem zd_N_init_77 : decode zc_N_init 77 = .ok (.bipush 16, 2) := by decide +kernel
theorem zd_N_init_79 : decode zc_N_init 79 = .ok (.newarray .int, 2) := by decide +kernel
theorem zd_N_init_81 : decode zc_N_init 81 = .ok (.putfield 37, 3) := by decide +kernel
theorem zd_N_init_84 : decode zc_N_init 84 = .ok (.aload_n 0, 1) := by decide +kernel
theorem zd_N_init_85 : decode zc_N_init 85 = .ok (.bipush 16, 2) := by decide +kernel
theorem zd_N_init_87 : decode zc_N_init 87 = .ok (.newarray .int, 2) := by decide +kernel
theorem zd_N_init_89 : decode zc_N_init 89 = .ok (.putfield 40, 3) := by decide +kernel
theorem zd_N_init_92 : decode zc_N_init 92 = .ok (.aload_n 0, 1) := by decide +kernel
theorem zd_N_init_93 : decode zc_N_init 93 = .ok (.bipush 32, 2) := by decide +kernel
theorem zd_N_init_95 : decode zc_N_init 95 = .ok (.newarray .int, 2) := by decide +kernel
theorem zd_N_init_97 : decode zc_N_init 97 = .ok (.putfield 43, 3) := by decide +kernel
theorem zd_N_init_100 : decode zc_N_init 100 = .ok (.aload_n 0, 1) := by decide +kernel
theorem zd_N_init_101 : decode zc_N_init 101 = .ok (.bipush 18, 2) := by decide +kernel
theorem zd_N_init_103 : decode zc_N_init 103 = .ok (.newarray .int, 2) := by decide +kernel
theorem zd_N_init_105 : decode zc_N_init 105 = .ok (.putfield 46, 3) := by decide +kernel
theorem zd_N_init_108 : decode zc_N_init 108 = .ok (.aload_n 0, 1) := by decide +kernel
theorem zd_N_init_109 : decode zc_N_init 109 = .ok (.bipush 16, 2) := by decide +kernel
theorem zd_N_init_111 : decode zc_N_init 111 = .ok (.newarray .int, 2) := by decide +kernel
theorem zd_N_init_113 : decode zc_N_init 113 = .ok (.putfield 49, 3) := by decide +kernel
theorem zd_N_init_116 : decode zc_N_init 116 = .ok (.aload_n 0, 1) := by decide +kernel
theorem zd_N_init_117 : decode zc_N_init 117 = .ok (.bipush 16, 2) := by decide +kernel
theorem zd_N_init_119 : decode zc_N_init 119 = .ok (.newarray .int, 2) := by decide +kernel
theorem zd_N_init_121 : decode zc_N_init 121 = .ok (.putfield 52, 3) := by decide +kernel
theorem zd_N_init_124 : decode zc_N_init 124 = .ok (.aload_n 0, 1) := by decide +kernel
theorem zd_N_init_125 : decode zc_N_init 125 = .ok (.bipush 18, 2) := by decide +kernel
theorem zd_N_init_127 : decode zc_N_init 127 = .ok (.newarray .int, 2) := by decide +kernel
theorem zd_N_init_129 : decode zc_N_init 129 = .ok (.putfield 55, 3) := by decide +kernel
theorem zd_N_init_132 : decode zc_N_init 132 = .ok (.aload_n 0, 1) := by decide +kernel
theorem zd_N_init_133 : decode zc_N_init 133 = .ok (.sipush 320, 3) := by decide +kernel
theorem zd_N_init_136 : decode zc_N_init 136 = .ok (.newarray .byte, 2) := by decide +kernel
theorem zd_N_init_138 : decode zc_N_init 138 = .ok (.putfield 58, 3) := by decide +kernel
theorem zd_N_init_141 : decode zc_N_init 141 = .ok (.aload_n 0, 1) := by decide +kernel
theorem zd_N_init_142 : decode zc_N_init 142 = .ok (.bipush 64, 2) := by decide +kernel
theorem zd_N_init_144 : decode zc_N_init 144 = .ok (.newarray .int, 2) := by decide +kernel
theorem zd_N_init_146 : decode zc_N_init 146 = .ok (.putfield 62, 3) := by decide +kernel
theorem zd_N_init_149 : decode zc_N_init 149 = .ok (.aload_n 0, 1) := by decide +kernel
theorem zd_N_init_150 : decode zc_N_init 150 = .ok (.bipush 8, 2) := by decide +kernel
theorem zd_N_init_152 : decode zc_N_init 152 = .ok (.newarray .int, 2) := by decide +kernel
theorem zd_N_init_154 : decode zc_N_init 154 = .ok (.putfield 65, 3) := by decide +kernel
theorem zd_N_init_157 : decode zc_N_init 157 = .ok (.aload_n 0, 1) := by decide +kernel
theorem zd_N_init_158 : decode zc_N_init 158 = .ok (.bipush 8, 2) := by decide +kernel
theorem zd_N_init_160 : decode zc_N_init 160 = .ok (.newarray .int, 2) := by decide +kernel
theorem zd_N_init_162 : decode zc_N_init 162 = .ok (.putfield 68, 3) := by decide +kernel
theorem zd_N_init_165 : decode zc_N_init 165 = .ok (.aload_n 0, 1) := by decide +kernel
theorem zd_N_init_166 : decode zc_N_init 166 = .ok (.bipush 64, 2) := by decide +kernel
theorem zd_N_init_168 : decode zc_N_init 168 = .ok (.newarray .int, 2) := by decide +kernel
theorem zd_N_init_170 : decode zc_N_init 170 = .ok (.dup, 1) := by decide +kernel
theorem zd_N_init_171 : decode zc_N_init 171 = .ok (.iconst 0, 1) := by decide +kernel
theorem zd_N_init_172 : decode zc_N_init 172 = .ok (.ldc 71, 2) := by decide +kernel
theorem zd_N_init_174 : decode zc_N_init 174 = .ok (.iastore, 1) := by decide +kernel
theorem zd_N_init_175 : decode zc_N_init 175 = .ok (.dup, 1) := by decide +kernel
theorem zd_N_init_176 : decode zc_N_init 176 = .ok (.iconst 1, 1) := by decide +kernel
theorem zd_N_init_177 : decode zc_N_init 177 = .ok (.ldc 72, 2) := by decide +kernel
theorem zd_N_init_179 : decode zc_N_init 179 = .ok (.iastore, 1) := by decide +kernel
theorem zd_N_init_180 : decode zc_N_init 180 = .ok (.dup, 1) := by decide +kernel
theorem zd_N_init_181 : decode zc_N_init 181 = .ok (.iconst 2, 1) := by decide +kernel
theorem zd_N_init_182 : decode zc_N_init 182 = .ok (.ldc 73, 2) := by decide +kernel
theorem zd_N_init_184 : decode zc_N_init 184 = .ok (.iastore, 1) := by decide +kernel
theorem zd_N_init_185 : decode zc_N_init 185 = .ok (.dup, 1) := by decide +kernel
theorem zd_N_init_186 : decode zc_N_init 186 = .ok (.iconst 3, 1) := by decide +kernel
theorem zd_N_init_187 : decode zc_N_init 187 = .ok (.ldc 74, 2) := by decide +kernel
theorem zd_N_init_189 : decode zc_N_init 189 = .ok (.iastore, 1) := by decide +kernel
theorem zd_N_init_190 : decode zc_N_init 190 = .ok (.dup, 1) := by decide +kernel
theorem zd_N_init_191 : decode zc_N_init 191 = .ok (.iconst 4, 1) := by decide +kernel
theorem zd_N_init_192 : decode zc_N_init 192 = .ok (.ldc 75, 2) := by decide +kernel
theorem zd_N_init_194 : decode zc_N_init 194 = .ok (.iastore, 1) := by decide +kernel
theorem zd_N_init_195 : decode zc_N_init 195 = .ok (.dup, 1) := by decide +kernel
theorem zd_N_init_196 : decode zc_N_init 196 = .ok (.iconst 5, 1) := by decide +kernel
theorem zd_N_init_197 : decode zc_N_init 197 = .ok (.ldc 76, 2) := by decide +kernel
theorem zd_N_init_199 : decode zc_N_init 199 = .ok (.iastore, 1) := by decide +kernel
theorem zd_N_init_200 : decode zc_N_init 200 = .ok (.dup, 1) := by decide +kernel
theorem zd_N_init_201 : decode zc_N_init 201 = .ok (.bipush 6, 2) := by decide +kernel
theorem zd_N_init_203 : decode zc_N_init 203 = .ok (.ldc 77, 2) := by decide +kernel
theorem zd_N_init_205 : decode zc_N_init 205 = .ok (.iastore, 1) := by decide +kernel
theorem zd_N_init_206 : decode zc_N_init 206 = .ok (.dup, 1) := by decide +kernel
theorem zd_N_init_207 : decode zc_N_init 207 = .ok (.bipush 7, 2) := by decide +kernel
theorem zd_N_init_209 : decode zc_N_init 209 = .ok (.ldc 78, 2) := by decide +kernel
theorem zd_N_init_211 : decode zc_N_init 211 = .ok (.iastore, 1) := by decide +kernel
theorem zd_N_init_212 : decode zc_N_init 212 = .ok (.dup, 1) := by decide +kernel
theorem zd_N_init_213 : decode zc_N_init 213 = .ok (.bipush 8, 2) := by decide +kernel
theorem zd_N_init_215 : decode zc_N_init 215 = .ok (.ldc 79, 2) := by decide +kernel
theorem zd_N_init_217 : decode zc_N_init 217 = .ok (.iastore, 1) := by decide +kernel
theorem zd_N_init_218 : decode zc_N_init 218 = .ok (.dup, 1) := by decide +kernel
theorem zd_N_init_219 : decode zc_N_init 219 = .ok (.bipush 9, 2) := by decide +kernel
theorem zd_N_init_221 : decode zc_N_init 221 = .ok (.ldc 80, 2) := by decide +kernel
theorem zd_N_init_223 : decode zc_N_init 223 = .ok (.iastore, 1) := by decide +kernel
theorem zd_N_init_224 : decode zc_N_init 224 = .ok (.dup, 1) := by decide +kernel
theorem zd_N_init_225 : decode zc_N_init 225 = .ok (.bipush 10, 2) := by decide +kernel
theorem zd_N_init_227 : decode zc_N_init 227 = .ok (.ldc 81, 2) := by decide +kernel
theorem zd_N_init_229 : decode zc_N_init 229 = .ok (.iastore, 1) := by decide +kernel
theorem zd_N_init_230 : decode zc_N_init 230 = .ok (.dup, 1) := by decide +kernel
theorem zd_N_init_231 : decode zc_N_init 231 = .ok (.bipush 11, 2) := by decide +kernel
theorem zd_N_init_233 : decode zc_N_init 233 = .ok (.ldc 82, 2) := by decide +kernel
theorem zd_N_init_235 : decode zc_N_init 235 = .ok (.iastore, 1) := by decide +kernel
theorem zd_N_init_236 : decode zc_N_init 236 = .ok (.dup, 1) := by decide +kernel
theorem zd_N_init_237 : decode zc_N_init 237 = .ok (.bipush 12, 2) := by decide +kernel
theorem zd_N_init_239 : decode zc_N_init 239 = .ok (.ldc 83, 2) := by decide +kernel
theorem zd_N_init_241 : decode zc_N_init 241 = .ok (.iastore, 1) := by decide +kernel
theorem zd_N_init_242 : decode zc_N_init 242 = .ok (.dup, 1) := by decide +kernel
theorem zd_N_init_243 : decode zc_N_init 243 = .ok (.bipush 13, 2) := by decide +kernel
theorem zd_N_init_245 : decode zc_N_init 245 = .ok (.ldc 84, 2) := by decide +kernel
theorem zd_N_init_247 : decode zc_N_init 247 = .ok (.iastore, 1) := by decide +kernel
theorem zd_N_init_248 : decode zc_N_init 248 = .ok (.dup, 1) := by decide +kernel
theorem zd_N_init_249 : decode zc_N_init 249 = .ok (.bipush 14, 2) := by decide +kernel
theorem zd_N_init_251 : decode zc_N_init 251 = .ok (.ldc 85, 2) := by decide +kernel
theorem zd_N_init_253 : decode zc_N_init 253 = .ok (.iastore, 1) := by decide +kernel
theorem zd_N_init_254 : decode zc_N_init 254 = .ok (.dup, 1) := by decide +kernel
theorem zd_N_init_255 : decode zc_N_init 255 = .ok (.bipush 15, 2) := by decide +kernel
theorem zd_N_init_257 : decode zc_N_init 257 = .ok (.ldc 86, 2) := by decide +kernel
theorem zd_N_init_259 : decode zc_N_init 259 = .ok (.iastore, 1) := by decide +kernel
theorem zd_N_init_260 : decode zc_N_init 260 = .ok (.dup, 1) := by decide +kernel
theorem zd_N_init_261 : decode zc_N_init 261 = .ok (.bipush 16, 2) := by decide +kernel
theorem zd_N_init_263 : decode zc_N_init 263 = .ok (.ldc 87, 2) := by decide +kernel
theorem zd_N_init_265 : decode zc_N_init 265 = .ok (.iastore, 1) := by decide +kernel
theorem zd_N_init_266 : decode zc_N_init 266 = .ok (.dup, 1) := by decide +kernel
theorem zd_N_init_267 : decode zc_N_init 267 = .ok (.bipush 17, 2) := by decide +kernel
theorem zd_N_init_269 : decode zc_N_init 269 = .ok (.ldc 88, 2) := by decide +kernel
theorem zd_N_init_271 : decode zc_N_init 271 = .ok (.iastore, 1) := by decide +kernel
theorem zd_N_init_272 : decode zc_N_init 272 = .ok (.dup, 1) := by decide +kernel
theorem zd_N_init_273 : decode zc_N_init 273 = .ok (.bipush 18, 2) := by decide +kernel
theorem zd_N_init_275 : decode zc_N_init 275 = .ok (.ldc 89, 2) := by decide +kernel
theorem zd_N_init_277 : decode zc_N_init 277 = .ok (.iastore, 1) := by decide +kernel
theorem zd_N_init_278 : decode zc_N_init 278 = .ok (.dup, 1) := by decide +kernel
theorem zd_N_init_279 : decode zc_N_init 279 = .ok (.bipush 19, 2) := by decide +kernel
theorem zd_N_init_281 : decode zc_N_init 281 = .ok (.ldc 90, 2) := by decide +kernel
theorem zd_N_init_283 : decode zc_N_init 283 = .ok (.iastore, 1) := by decide +kernel
theorem zd_N_init_284 : decode zc_N_init 284 = .ok (.dup, 1) := by decide +kernel
theorem zd_N_init_285 : decode zc_N_init 285 = .ok (.bipush 20, 2) := by decide +kernel
theorem zd_N_init_287 : decode zc_N_init 287 = .ok (.ldc 91, 2) := by decide +kernel
theorem zd_N_init_289 : decode zc_N_init 289 = .ok (.iastore, 1) := by decide +kernel
theorem zd_N_init_290 : decode zc_N_init 290 = .ok (.dup, 1) := by decide +kernel
theorem zd_N_init_291 : decode zc_N_init 291 = .ok (.bipush 21, 2) := by decide +kernel
theorem zd_N_init_293 : decode zc_N_init 293 = .ok (.ldc 92, 2) := by decide +kernel
theorem zd_N_init_295 : decode zc_N_init 295 = .ok (.iastore, 1) := by decide +kernel
theorem zd_N_init_296 : decode zc_N_init 296 = .ok (.dup, 1) := by decide +kernel
theorem zd_N_init_297 : decode zc_N_init 297 = .ok (.bipush 22, 2) := by decide +kernel
theorem zd_N_init_299 : decode zc_N_init 299 = .ok (.ldc 93, 2) := by decide +kernel
theorem zd_N_init_301 : decode zc_N_init 301 = .ok (.iastore, 1) := by decide +kernel
theorem zd_N_init_302 : decode zc_N_init 302 = .ok (.dup, 1) := by decide +kernel
theorem zd_N_init_303 : decode zc_N_init 303 = .ok (.bipush 23, 2) := by decide +kernel
theorem zd_N_init_305 : decode zc_N_init 305 = .ok (.ldc 94, 2) := by decide +kernel
theorem zd_N_init_307 : decode zc_N_init 307 = .ok (.iastore, 1) := by decide +kernel
theorem zd_N_init_308 : decode zc_N_init 308 = .ok (.dup, 1) := by decide +kernel
theorem zd_N_init_309 : decode zc_N_init 309 = .ok (.bipush 24, 2) := by decide +kernel
theorem zd_N_init_311 : decode zc_N_init 311 = .ok (.ldc 95, 2) := by decide +kernel
theorem zd_N_init_313 : decode zc_N_init 313 = .ok (.iastore, 1) := by decide +kernel
theorem zd_N_init_314 : decode zc_N_init 314 = .ok (.dup, 1) := by decide +kernel
theorem zd_N_init_315 : decode zc_N_init 315 = .ok (.bipush 25, 2) := by decide +kernel
theorem zd_N_init_317 : decode zc_N_init 317 = .ok (.ldc 96, 2) := by decide +kernel
theorem zd_N_init_319 : decode zc_N_init 319 = .ok (.iastore, 1) := by decide +kernel
theorem zd_N_init_320 : decode zc_N_init 320 = .ok (.dup, 1) := by decide +kernel
theorem zd_N_init_321 : decode zc_N_init 321 = .ok (.bipush 26, 2) := by decide +kernel
theorem zd_N_init_323 : decode zc_N_init 323 = .ok (.ldc 97, 2) := by decide +kernel
theorem zd_N_init_325 : decode zc_N_init 325 = .ok (.iastore, 1) := by decide +kernel
theorem zd_N_init_326 : decode zc_N_init 326 = .ok (.dup, 1) := by decide +kernel
theorem zd_N_init_327 : decode zc_N_init 327 = .ok (.bipush 27, 2) := by decide +kernel
theorem zd_N_init_329 : decode zc_N_init 329 = .ok (.ldc 98, 2) := by decide +kernel
theorem zd_N_init_331 : decode zc_N_init 331 = .ok (.iastore, 1) := by decide +kernel
theorem zd_N_init_332 : decode zc_N_init 332 = .ok (.dup, 1) := by decide +kernel
theorem zd_N_init_333 : decode zc_N_init 333 = .ok (.bipush 28, 2) := by decide +kernel
theorem zd_N_init_335 : decode zc_N_init 335 = .ok (.ldc 99, 2) := by decide +kernel
theorem zd_N_init_337 : decode zc_N_init 337 = .ok (.iastore, 1) := by decide +kernel
theorem zd_N_init_338 : decode zc_N_init 338 = .ok (.dup, 1) := by decide +kernel
theorem zd_N_init_339 : decode zc_N_init 339 = .ok (.bipush 29, 2) := by decide +kernel
theorem zd_N_init_341 : decode zc_N_init 341 = .ok (.ldc 100, 2) := by decide +kernel
theorem zd_N_init_343 : decode zc_N_init 343 = .ok (.iastore, 1) := by decide +kernel
theorem zd_N_init_344 : decode zc_N_init 344 = .ok (.dup, 1) := by decide +kernel
theorem zd_N_init_345 : decode zc_N_init 345 = .ok (.bipush 30, 2) := by decide +kernel
theorem zd_N_init_347 : decode zc_N_init 347 = .ok (.ldc 101, 2) := by decide +kernel
theorem zd_N_init_349 : decode zc_N_init 349 = .ok (.iastore, 1) := by decide +kernel
theorem zd_N_init_350 : decode zc_N_init 350 = .ok (.dup, 1) := by decide +kernel
theorem zd_N_init_351 : decode zc_N_init 351 = .ok (.bipush 31, 2) := by decide +kernel
theorem zd_N_init_353 : decode zc_N_init 353 = .ok (.ldc 102, 2) := by decide +kernel
theorem zd_N_init_355 : decode zc_N_init 355 = .ok (.iastore, 1) := by decide +kernel
theorem zd_N_init_356 : decode zc_N_init 356 = .ok (.dup, 1) := by decide +kernel
theorem zd_N_init_357 : decode zc_N_init 357 = .ok (.bipush 32, 2) := by decide +kernel
theorem zd_N_init_359 : decode zc_N_init 359 = .ok (.ldc 103, 2) := by decide +kernel
theorem zd_N_init_361 : decode zc_N_init 361 = .ok (.iastore, 1) := by decide +kernel
theorem zd_N_init_362 : decode zc_N_init 362 = .ok (.dup, 1) := by decide +kernel
theorem zd_N_init_363 : decode zc_N_init 363 = .ok (.bipush 33, 2) := by decide +kernel
theorem zd_N_init_365 : decode zc_N_init 365 = .ok (.ldc 104, 2) := by decide +kernel
theorem zd_N_init_367 : decode zc_N_init 367 = .ok (.iastore, 1) := by decide +kernel
theorem zd_N_init_368 : decode zc_N_init 368 = .ok (.dup, 1) := by decide +kernel
theorem zd_N_init_369 : decode zc_N_init 369 = .ok (.bipush 34, 2) := by decide +kernel
theorem zd_N_init_371 : decode zc_N_init 371 = .ok (.ldc 105, 2) := by decide +kernel
theorem zd_N_init_373 : decode zc_N_init 373 = .ok (.iastore, 1) := by decide +kernel
theorem zd_N_init_374 : decode zc_N_init 374 = .ok (.dup, 1) := by decide +kernel
theorem zd_N_init_375 : decode zc_N_init 375 = .ok (.bipush 35, 2) := by decide +kernel
theorem zd_N_init_377 : decode zc_N_init 377 = .ok (.ldc 106, 2) := by decide +kernel
theorem zd_N_init_379 : decode zc_N_init 379 = .ok (.iastore, 1) := by decide +kernel
theorem zd_N_init_380 : decode zc_N_init 380 = .ok (.dup, 1) := by decide +kernel
theorem zd_N_init_381 : decode zc_N_init 381 = .ok (.bipush 36, 2) := by decide +kernel
theorem zd_N_init_383 : decode zc_N_init 383 = .ok (.ldc 107, 2) := by decide +kernel
theorem zd_N_init_385 : decode zc_N_init 385 = .ok (.iastore, 1) := by decide +kernel
theorem zd_N_init_386 : decode zc_N_init 386 = .ok (.dup, 1) := by decide +kernel
theorem zd_N_init_387 : decode zc_N_init 387 = .ok (.bipush 37, 2) := by decide +kernel
theorem zd_N_init_389 : decode zc_N_init 389 = .ok (.ldc 108, 2) := by decide +kernel
theorem zd_N_init_391 : decode zc_N_init 391 = .ok (.iastore, 1) := by decide +kernel
theorem zd_N_init_392 : decode zc_N_init 392 = .ok (.dup, 1) := by decide +kernel
theorem zd_N_init_393 : decode zc_N_init 393 = .ok (.bipush 38, 2) := by decide +kernel
theorem zd_N_init_395 : decode zc_N_init 395 = .ok (.ldc 109, 2) := by decide +kernel
theorem zd_N_init_397 : decode zc_N_init 397 = .ok (.iastore, 1) := by decide +kernel
theorem zd_N_init_398 : decode zc_N_init 398 = .ok (.dup, 1) := by decide +kernel
theorem zd_N_init_399 : decode zc_N_init 399 = .ok (.bipush 39, 2) := by decide +kernel
theorem zd_N_init_401 : decode zc_N_init 401 = .ok (.ldc 110, 2) := by decide +kernel
theorem zd_N_init_403 : decode zc_N_init 403 = .ok (.iastore, 1) := by decide +kernel
theorem zd_N_init_404 : decode zc_N_init 404 = .ok (.dup, 1) := by decide +kernel
theorem zd_N_init_405 : decode zc_N_init 405 = .ok (.bipush 40, 2) := by decide +kernel
theorem zd_N_init_407 : decode zc_N_init 407 = .ok (.ldc 111, 2) := by decide +kernel
theorem zd_N_init_409 : decode zc_N_init 409 = .ok (.iastore, 1) := by decide +kernel
theorem zd_N_init_410 : decode zc_N_init 410 = .ok (.dup, 1) := by decide +kernel
theorem zd_N_init_411 : decode zc_N_init 411 = .ok (.bipush 41, 2) := by decide +kernel
theorem zd_N_init_413 : decode zc_N_init 413 = .ok (.ldc 112, 2) := by decide +kernel
theorem zd_N_init_415 : decode zc_N_init 415 = .ok (.iastore, 1) := by decide +kernel
theorem zd_N_init_416 : decode zc_N_init 416 = .ok (.dup, 1) := by decide +kernel
theorem zd_N_init_417 : decode zc_N_init 417 = .ok (.bipush 42, 2) := by decide +kernel
theorem zd_N_init_419 : decode zc_N_init 419 = .ok (.ldc 113, 2) := by decide +kernel
theorem zd_N_init_421 : decode zc_N_init 421 = .ok (.iastore, 1) := by decide +kernel
theorem zd_N_init_422 : decode zc_N_init 422 = .ok (.dup, 1) := by decide +kernel
theorem zd_N_init_423 : decode zc_N_init 423 = .ok (.bipush 43, 2) := by decide +kernel
theorem zd_N_init_425 : decode zc_N_init 425 = .ok (.ldc 114, 2) := by decide +kernel
theorem zd_N_init_427 : decode zc_N_init 427 = .ok (.iastore, 1) := by decide +kernel
theorem zd_N_init_428 : decode zc_N_init 428 = .ok (.dup, 1) := by decide +kernel
theorem zd_N_init_429 : decode zc_N_init 429 = .ok (.bipush 44, 2) := by decide +kernel
theorem zd_N_init_431 : decode zc_N_init 431 = .ok (.ldc 115, 2) := by decide +kernel
theorem zd_N_init_433 : decode zc_N_init 433 = .ok (.iastore, 1) := by decide +kernel
theorem zd_N_init_434 : decode zc_N_init 434 = .ok (.dup, 1) := by decide +kernel
theorem zd_N_init_435 : decode zc_N_init 435 = .ok (.bipush 45, 2) := by decide +kernel
theorem zd_N_init_437 : decode zc_N_init 437 = .ok (.ldc 116, 2) := by decide +kernel
theorem zd_N_init_439 : decode zc_N_init 439 = .ok (.iastore, 1) := by decide +kernel
theorem zd_N_init_440 : decode zc_N_init 440 = .ok (.dup, 1) := by decide +kernel
theorem zd_N_init_441 : decode zc_N_init 441 = .ok (.bipush 46, 2) := by decide +kernel
theorem zd_N_init_443 : decode zc_N_init 443 = .ok (.ldc 117, 2) := by decide +kernel
theorem zd_N_init_445 : decode zc_N_init 445 = .ok (.iastore, 1) := by decide +kernel
theorem zd_N_init_446 : decode zc_N_init 446 = .ok (.dup, 1) := by decide +kernel
theorem zd_N_init_447 : decode zc_N_init 447 = .ok (.bipush 47, 2) := by decide +kernel
theorem zd_N_init_449 : decode zc_N_init 449 = .ok (.ldc 118, 2) := by decide +kernel
theorem zd_N_init_451 : decode zc_N_init 451 = .ok (.iastore, 1) := by decide +kernel
theorem zd_N_init_452 : decode zc_N_init 452 = .ok (.dup, 1) := by decide +kernel
theorem zd_N_init_453 : decode zc_N_init 453 = .ok (.bipush 48, 2) := by decide +kernel
theorem zd_N_init_455 : decode zc_N_init 455 = .ok (.ldc 119, 2) := by decide +kernel
theorem zd_N_init_457 : decode zc_N_init 457 = .ok (.iastore, 1) := by decide +kernel
theorem zd_N_init_458 : decode zc_N_init 458 = .ok (.dup, 1) := by decide +kernel
theorem zd_N_init_459 : decode zc_N_init 459 = .ok (.bipush 49, 2) := by decide +kernel
theorem zd_N_init_461 : decode zc_N_init 461 = .ok (.ldc 120, 2) := by decide +kernel
theorem zd_N_init_463 : decode zc_N_init 463 = .ok (.iastore, 1) := by decide +kernel
theorem zd_N_init_464 : decode zc_N_init 464 = .ok (.dup, 1) := by decide +kernel
theorem zd_N_init_465 : decode zc_N_init 465 = .ok (.bipush 50, 2) := by decide +kernel
theorem zd_N_init_467 : decode zc_N_init 467 = .ok (.ldc 121, 2) := by decide +kernel
theorem zd_N_init_469 : decode zc_N_init 469 = .ok (.iastore, 1) := by decide +kernel
theorem zd_N_init_470 : decode zc_N_init 470 = .ok (.dup, 1) := by decide +kernel
theorem zd_N_init_471 : decode zc_N_init 471 = .ok (.bipush 51, 2) := by decide +kernel
theorem zd_N_init_473 : decode zc_N_init 473 = .ok (.ldc 122, 2) := by decide +kernel
theorem zd_N_init_475 : decode zc_N_init 475 = .ok (.iastore, 1) := by decide +kernel
theorem zd_N_init_476 : decode zc_N_init 476 = .ok (.dup, 1) := by decide +kernel
theorem zd_N_init_477 : decode zc_N_init 477 = .ok (.bipush 52, 2) := by decide +kernel
theorem zd_N_init_479 : decode zc_N_init 479 = .ok (.ldc 123, 2) := by decide +kernel
theorem zd_N_init_481 : decode zc_N_init 481 = .ok (.iastore, 1) := by decide +kernel
theorem zd_N_init_482 : decode zc_N_init 482 = .ok (.dup, 1) := by decide +kernel
theorem zd_N_init_483 : decode zc_N_init 483 = .ok (.bipush 53, 2) := by decide +kernel
theorem zd_N_init_485 : decode zc_N_init 485 = .ok (.ldc 124, 2) := by decide +kernel
theorem zd_N_init_487 : decode zc_N_init 487 = .ok (.iastore, 1) := by decide +kernel
theorem zd_N_init_488 : decode zc_N_init 488 = .ok (.dup, 1) := by decide +kernel
theorem zd_N_init_489 : decode zc_N_init 489 = .ok (.bipush 54, 2) := by decide +kernel
theorem zd_N_init_491 : decode zc_N_init 491 = .ok (.ldc 125, 2) := by decide +kernel
theorem zd_N_init_493 : decode zc_N_init 493 = .ok (.iastore, 1) := by decide +kernel
theorem zd_N_init_494 : decode zc_N_init 494 = .ok (.dup, 1) := by decide +kernel
theorem zd_N_init_495 : decode zc_N_init 495 = .ok (.bipush 55, 2) := by decide +kernel
theorem zd_N_init_497 : decode zc_N_init 497 = .ok (.ldc 126, 2) := by decide +kernel
theorem zd_N_init_499 : decode zc_N_init 499 = .ok (.iastore, 1) := by decide +kernel
theorem zd_N_init_500 : decode zc_N_init 500 = .ok (.dup, 1) := by decide +kernel
theorem zd_N_init_501 : decode zc_N_init 501 = .ok (.bipush 56, 2) := by decide +kernel
theorem zd_N_init_503 : decode zc_N_init 503 = .ok (.ldc 127, 2) := by decide +kernel
theorem zd_N_init_505 : decode zc_N_init 505 = .ok (.iastore, 1) := by decide +kernel
theorem zd_N_init_506 : decode zc_N_init 506 = .ok (.dup, 1) := by decide +kernel
theorem zd_N_init_507 : decode zc_N_init 507 = .ok (.bipush 57, 2) := by decide +kernel
theorem zd_N_init_509 : decode zc_N_init 509 = .ok (.ldc 128, 2) := by decide +kernel
theorem zd_N_init_511 : decode zc_N_init 511 = .ok (.iastore, 1) := by decide +kernel
theorem zd_N_init_512 : decode zc_N_init 512 = .ok (.dup, 1) := by decide +kernel
theorem zd_N_init_513 : decode zc_N_init 513 = .ok (.bipush 58, 2) := by decide +kernel
theorem zd_N_init_515 : decode zc_N_init 515 = .ok (.ldc 129, 2) := by decide +kernel
theorem zd_N_init_517 : decode zc_N_init 517 = .ok (.iastore, 1) := by decide +kernel
theorem zd_N_init_518 : decode zc_N_init 518 = .ok (.dup, 1) := by decide +kernel
theorem zd_N_init_519 : decode zc_N_init 519 = .ok (.bipush 59, 2) := by decide +kernel
theorem zd_N_init_521 : decode zc_N_init 521 = .ok (.ldc 130, 2) := by decide +kernel
theorem zd_N_init_523 : decode zc_N_init 523 = .ok (.iastore, 1) := by decide +kernel
theorem zd_N_init_524 : decode zc_N_init 524 = .ok (.dup, 1) := by decide +kernel
theorem zd_N_init_525 : decode zc_N_init 525 = .ok (.bipush 60, 2) := by decide +kernel
theorem zd_N_init_527 : decode zc_N_init 527 = .ok (.ldc 131, 2) := by decide +kernel
theorem zd_N_init_529 : decode zc_N_init 529 = .ok (.iastore, 1) := by decide +kernel
theorem zd_N_init_530 : decode zc_N_init 530 = .ok (.dup, 1) := by decide +kernel
theorem zd_N_init_531 : decode zc_N_init 531 = .ok (.bipush 61, 2) := by decide +kernel
theorem zd_N_init_533 : decode zc_N_init 533 = .ok (.ldc 132, 2) := by decide +kernel
theorem zd_N_init_535 : decode zc_N_init 535 = .ok (.iastore, 1) := by decide +kernel
theorem zd_N_init_536 : decode zc_N_init 536 = .ok (.dup, 1) := by decide +kernel
theorem zd_N_init_537 : decode zc_N_init 537 = .ok (.bipush 62, 2) := by decide +kernel
theorem zd_N_init_539 : decode zc_N_init 539 = .ok (.ldc 133, 2) := by decide +kernel
theorem zd_N_init_541 : decode zc_N_init 541 = .ok (.iastore, 1) := by decide +kernel
theorem zd_N_init_542 : decode zc_N_init 542 = .ok (.dup, 1) := by decide +kernel
theorem zd_N_init_543 : decode zc_N_init 543 = .ok (.bipush 63, 2) := by decide +kernel
theorem zd_N_init_545 : decode zc_N_init 545 = .ok (.ldc 134, 2) := by decide +kernel
theorem zd_N_init_547 : decode zc_N_init 547 = .ok (.iastore, 1) := by decide +kernel
theorem zd_N_init_548 : decode zc_N_init 548 = .ok (.putfield 135, 3) := by decide +kernel
theorem zd_N_init_551 : decode zc_N_init 551 = .ok (.aload_n 0, 1) := by decide +kernel
theorem zd_N_init_552 : decode zc_N_init 552 = .ok (.bipush 8, 2) := by decide +kernel
theorem zd_N_init_554 : decode zc_N_init 554 = .ok (.newarray .int, 2) := by decide +kernel
theorem zd_N_init_556 : decode zc_N_init 556 = .ok (.dup, 1) := by decide +kernel
theorem zd_N_init_557 : decode zc_N_init 557 = .ok (.iconst 0, 1) := by decide +kernel
theorem zd_N_init_558 : decode zc_N_init 558 = .ok (.ldc 138, 2) := by decide +kernel
theorem zd_N_init_560 : decode zc_N_init 560 = .ok (.iastore, 1) := by decide +kernel
theorem zd_N_init_561 : decode zc_N_init 561 = .ok (.dup, 1) := by decide +kernel
theorem zd_N_init_562 : decode zc_N_init 562 = .ok (.iconst 1, 1) := by decide +kernel
theorem zd_N_init_563 : decode zc_N_init 563 = .ok (.ldc 139, 2) := by decide +kernel
theorem zd_N_init_565 : decode zc_N_init 565 = .ok (.iastore, 1) := by decide +kernel
theorem zd_N_init_566 : decode zc_N_init 566 = .ok (.dup, 1) := by decide +kernel
theorem zd_N_init_567 : decode zc_N_init 567 = .ok (.iconst 2, 1) := by decide +kernel
theorem zd_N_init_568 : decode zc_N_init 568 = .ok (.ldc 140, 2) := by decide +kernel
theorem zd_N_init_570 : decode zc_N_init 570 = .ok (.iastore, 1) := by decide +kernel
theorem zd_N_init_571 : decode zc_N_init 571 = .ok (.dup, 1) := by decide +kernel
theorem zd_N_init_572 : decode zc_N_init 572 = .ok (.iconst 3, 1) := by decide +kernel
theorem zd_N_init_573 : decode zc_N_init 573 = .ok (.ldc 141, 2) := by decide +kernel
theorem zd_N_init_575 : decode zc_N_init 575 = .ok (.iastore, 1) := by decide +kernel
theorem zd_N_init_576 : decode zc_N_init 576 = .ok (.dup, 1) := by decide +kernel
theorem zd_N_init_577 : decode zc_N_init 577 = .ok (.iconst 4, 1) := by decide +kernel
theorem zd_N_init_578 : decode zc_N_init 578 = .ok (.ldc 142, 2) := by decide +kernel
theorem zd_N_init_580 : decode zc_N_init 580 = .ok (.iastore, 1) := by decide +kernel
theorem zd_N_init_581 : decode zc_N_init 581 = .ok (.dup, 1) := by decide +kernel
theorem zd_N_init_582 : decode zc_N_init 582 = .ok (.iconst 5, 1) := by decide +kernel
theorem zd_N_init_583 : decode zc_N_init 583 = .ok (.ldc 143, 2) := by decide +kernel
theorem zd_N_init_585 : decode zc_N_init 585 = .ok (.iastore, 1) := by decide +kernel
theorem zd_N_init_586 : decode zc_N_init 586 = .ok (.dup, 1) := by decide +kernel
theorem zd_N_init_587 : decode zc_N_init 587 = .ok (.bipush 6, 2) := by decide +kernel
theorem zd_N_init_589 : decode zc_N_init 589 = .ok (.ldc 144, 2) := by decide +kernel
theorem zd_N_init_591 : decode zc_N_init 591 = .ok (.iastore, 1) := by decide +kernel
theorem zd_N_init_592 : decode zc_N_init 592 = .ok (.dup, 1) := by decide +kernel
theorem zd_N_init_593 : decode zc_N_init 593 = .ok (.bipush 7, 2) := by decide +kernel
theorem zd_N_init_595 : decode zc_N_init 595 = .ok (.ldc 145, 2) := by decide +kernel
theorem zd_N_init_597 : decode zc_N_init 597 = .ok (.iastore, 1) := by decide +kernel
theorem zd_N_init_598 : decode zc_N_init 598 = .ok (.putfield 146, 3) := by decide +kernel
theorem zd_N_init_601 : decode zc_N_init 601 = .ok (.aload_n 0, 1) := by decide +kernel
theorem zd_N_init_602 : decode zc_N_init 602 = .ok (.iconst 0, 1) := by decide +kernel
theorem zd_N_init_603 : decode zc_N_init 603 = .ok (.putfield 149, 3) := by decide +kernel
theorem zd_N_init_606 : decode zc_N_init 606 = .ok (.return_, 1) := by decide +kernel
