theorem dX11_reckon_150 : decode cX11_reckon 150 = .ok (.lload 4, 2) := by decide +kernel
theorem dX11_reckon_152 : decode cX11_reckon 152 = .ok (.lcmp, 1) := by decide +kernel
theorem dX11_reckon_153 : decode cX11_reckon 153 = .ok (.ifCond .ne 7, 3) := by decide +kernel
theorem dX11_reckon_156 : decode cX11_reckon 156 = .ok (.lconst 1, 1) := by decide +kernel
theorem dX11_reckon_157 : decode cX11_reckon 157 = .ok (.goto 4, 3) := by decide +kernel
theorem dX11_reckon_160 : decode cX11_reckon 160 = .ok (.lconst 0, 1) := by decide +kernel
theorem dX11_reckon_161 : decode cX11_reckon 161 = .ok (.lreturn, 1) := by decide +kernel
theorem dX11_reckonAll_0 : decode cX11_reckonAll 0 = .ok (.aload_n 0, 1) := by decide +kernel
theorem dX11_reckonAll_1 : decode cX11_reckonAll 1 = .ok (.iconst 0, 1) := by decide +kernel
theorem dX11_reckonAll_2 : decode cX11_reckonAll 2 = .ok (.putfield 405, 3) := by decide +kernel
theorem dX11_reckonAll_5 : decode cX11_reckonAll 5 = .ok (.iconst 0, 1) := by decide +kernel
theorem dX11_reckonAll_6 : decode cX11_reckonAll 6 = .ok (.istore_n 3, 1) := by decide +kernel
theorem dX11_reckonAll_7 : decode cX11_reckonAll 7 = .ok (.iload_n 1, 1) := by decide +kernel
theorem dX11_reckonAll_8 : decode cX11_reckonAll 8 = .ok (.istore 4, 2) := by decide +kernel
theorem dX11_reckonAll_10 : decode cX11_reckonAll 10 = .ok (.iload 4, 2) := by decide +kernel
theorem dX11_reckonAll_12 : decode cX11_reckonAll 12 = .ok (.iload_n 2, 1) := by decide +kernel
theorem dX11_reckonAll_13 : decode cX11_reckonAll 13 = .ok (.if_icmp .ge 353, 3) := by decide +kernel
theorem dX11_reckonAll_16 : decode cX11_reckonAll 16 = .ok (.aload_n 0, 1) := by decide +kernel
theorem dX11_reckonAll_17 : decode cX11_reckonAll 17 = .ok (.getfield 405, 3) := by decide +kernel
theorem dX11_reckonAll_20 : decode cX11_reckonAll 20 = .ok (.ifCond .ne 346, 3) := by decide +kernel
theorem dX11_reckonAll_23 : decode cX11_reckonAll 23 = .ok (.aload_n 0, 1) := by decide +kernel
theorem dX11_reckonAll_24 : decode cX11_reckonAll 24 = .ok (.getfield 331, 3) := by decide +kernel
theorem dX11_reckonAll_27 : decode cX11_reckonAll 27 = .ok (.ifCond .eq 13, 3) := by decide +kernel
theorem dX11_reckonAll_30 : decode cX11_reckonAll 30 = .ok (.aload_n 0, 1) := by decide +kernel
theorem dX11_reckonAll_31 : decode cX11_reckonAll 31 = .ok (.getfield 45, 3) := by decide +kernel
theorem dX11_reckonAll_34 : decode cX11_reckonAll 34 = .ok (.iload 4, 2) := by decide +kernel
theorem dX11_reckonAll_36 : decode cX11_reckonAll 36 = .ok (.iaload, 1) := by decide +kernel
theorem dX11_reckonAll_37 : decode cX11_reckonAll 37 = .ok (.goto 20, 3) := by decide +kernel
theorem dX11_reckonAll_40 : decode cX11_reckonAll 40 = .ok (.aload_n 0, 1) := by decide +kernel
theorem dX11_reckonAll_41 : decode cX11_reckonAll 41 = .ok (.getfield 13, 3) := by decide +kernel
theorem dX11_reckonAll_44 : decode cX11_reckonAll 44 = .ok (.aload_n 0, 1) := by decide +kernel
theorem dX11_reckonAll_45 : decode cX11_reckonAll 45 = .ok (.getfield 408, 3) := by decide +kernel
theorem dX11_reckonAll_48 : decode cX11_reckonAll 48 = .ok (.bipush 98, 2) := by decide +kernel
theorem dX11_reckonAll_50 : decode cX11_reckonAll 50 = .ok (.iadd, 1) := by decide +kernel
theorem dX11_reckonAll_51 : decode cX11_reckonAll 51 = .ok (.iconst 2, 1) := by decide +kernel
theorem dX11_reckonAll_52 : decode cX11_reckonAll 52 = .ok (.iload 4, 2) := by decide +kernel
theorem dX11_reckonAll_54 : decode cX11_reckonAll 54 = .ok (.imul, 1) := by decide +kernel
theorem dX11_reckonAll_55 : decode cX11_reckonAll 55 = .ok (.iadd, 1) := by decide +kernel
theorem dX11_reckonAll_56 : decode cX11_reckonAll 56 = .ok (.iaload, 1) := by decide +kernel
theorem dX11_reckonAll_57 : decode cX11_reckonAll 57 = .ok (.istore 5, 2) := by decide +kernel
theorem dX11_reckonAll_59 : decode cX11_reckonAll 59 = .ok (.aload_n 0, 1) := by decide +kernel
theorem dX11_reckonAll_60 : decode cX11_reckonAll 60 = .ok (.getfield 331, 3) := by decide +kernel
theorem dX11_reckonAll_63 : decode cX11_reckonAll 63 = .ok (.ifCond .eq 13, 3) := by decide +kernel
theorem dX11_reckonAll_66 : decode cX11_reckonAll 66 = .ok (.aload_n 0, 1) := by decide +kernel
theorem dX11_reckonAll_67 : decode cX11_reckonAll 67 = .ok (.getfield 48, 3) := by decide +kernel
theorem dX11_reckonAll_70 : decode cX11_reckonAll 70 = .ok (.iload 4, 2) := by decide +kernel
theorem dX11_reckonAll_72 : decode cX11_reckonAll 72 = .ok (.iaload, 1) := by decide +kernel
theorem dX11_reckonAll_73 : decode cX11_reckonAll 73 = .ok (.goto 22, 3) := by decide +kernel
theorem dX11_reckonAll_76 : decode cX11_reckonAll 76 = .ok (.aload_n 0, 1) := by decide +kernel
theorem dX11_reckonAll_77 : decode cX11_reckonAll 77 = .ok (.getfield 13, 3) := by decide +kernel
theorem dX11_reckonAll_80 : decode cX11_reckonAll 80 = .ok (.aload_n 0, 1) := by decide +kernel
theorem dX11_reckonAll_81 : decode cX11_reckonAll 81 = .ok (.getfield 408, 3) := by decide +kernel
theorem dX11_reckonAll_84 : decode cX11_reckonAll 84 = .ok (.bipush 98, 2) := by decide +kernel
theorem dX11_reckonAll_86 : decode cX11_reckonAll 86 = .ok (.iadd, 1) := by decide +kernel
theorem dX11_reckonAll_87 : decode cX11_reckonAll 87 = .ok (.iconst 2, 1) := by decide +kernel
theorem dX11_reckonAll_88 : decode cX11_reckonAll 88 = .ok (.iload 4, 2) := by decide +kernel
theorem dX11_reckonAll_90 : decode cX11_reckonAll 90 = .ok (.imul, 1) := by decide +kernel
theorem dX11_reckonAll_91 : decode cX11_reckonAll 91 = .ok (.iadd, 1) := by decide +kernel
theorem dX11_reckonAll_92 : decode cX11_reckonAll 92 = .ok (.iconst 1, 1) := by decide +kernel
theorem dX11_reckonAll_93 : decode cX11_reckonAll 93 = .ok (.iadd, 1) := by decide +kernel
theorem dX11_reckonAll_94 : decode cX11_reckonAll 94 = .ok (.iaload, 1) := by decide +kernel
theorem dX11_reckonAll_95 : decode cX11_reckonAll 95 = .ok (.istore 6, 2) := by decide +kernel
theorem dX11_reckonAll_97 : decode cX11_reckonAll 97 = .ok (.iinc 4 1, 3) := by decide +kernel
theorem dX11_reckonAll_100 : decode cX11_reckonAll 100 = .ok (.iload 5, 2) := by decide +kernel
theorem dX11_reckonAll_102 : decode cX11_reckonAll 102 = .ok (.bipush 20, 2) := by decide +kernel
theorem dX11_reckonAll_104 : decode cX11_reckonAll 104 = .ok (.if_icmp .ge 120, 3) := by decide +kernel
theorem dX11_reckonAll_107 : decode cX11_reckonAll 107 = .ok (.aload_n 0, 1) := by decide +kernel
theorem dX11_reckonAll_108 : decode cX11_reckonAll 108 = .ok (.getfield 105, 3) := by decide +kernel
theorem dX11_reckonAll_111 : decode cX11_reckonAll 111 = .ok (.iload_n 3, 1) := by decide +kernel
theorem dX11_reckonAll_112 : decode cX11_reckonAll 112 = .ok (.iload 5, 2) := by decide +kernel
theorem dX11_reckonAll_114 : decode cX11_reckonAll 114 = .ok (.ifCond .ne 9, 3) := by decide +kernel
theorem dX11_reckonAll_117 : decode cX11_reckonAll 117 = .ok (.iload 6, 2) := by decide +kernel
theorem dX11_reckonAll_119 : decode cX11_reckonAll 119 = .ok (.i2l, 1) := by decide +kernel
theorem dX11_reckonAll_120 : decode cX11_reckonAll 120 = .ok (.goto 97, 3) := by decide +kernel
theorem dX11_reckonAll_123 : decode cX11_reckonAll 123 = .ok (.aload_n 0, 1) := by decide +kernel
theorem dX11_reckonAll_124 : decode cX11_reckonAll 124 = .ok (.getfield 331, 3) := by decide +kernel
theorem dX11_reckonAll_127 : decode cX11_reckonAll 127 = .ok (.ifCond .ne 13, 3) := by decide +kernel
theorem dX11_reckonAll_130 : decode cX11_reckonAll 130 = .ok (.aload_n 0, 1) := by decide +kernel
theorem dX11_reckonAll_131 : decode cX11_reckonAll 131 = .ok (.getfield 99, 3) := by decide +kernel
theorem dX11_reckonAll_134 : decode cX11_reckonAll 134 = .ok (.iload 5, 2) := by decide +kernel
theorem dX11_reckonAll_136 : decode cX11_reckonAll 136 = .ok (.laload, 1) := by decide +kernel
theorem dX11_reckonAll_137 : decode cX11_reckonAll 137 = .ok (.goto 80, 3) := by decide +kernel
theorem dX11_reckonAll_140 : decode cX11_reckonAll 140 = .ok (.iload 5, 2) := by decide +kernel
theorem dX11_reckonAll_142 : decode cX11_reckonAll 142 = .ok (.bipush 6, 2) := by decide +kernel
theorem dX11_reckonAll_144 : decode cX11_reckonAll 144 = .ok (.if_icmp .ge 13, 3) := by decide +kernel
theorem dX11_reckonAll_147 : decode cX11_reckonAll 147 = .ok (.aload_n 0, 1) := by decide +kernel
theorem dX11_reckonAll_148 : decode cX11_reckonAll 148 = .ok (.getfield 102, 3) := by decide +kernel
theorem dX11_reckonAll_151 : decode cX11_reckonAll 151 = .ok (.iload 5, 2) := by decide +kernel
theorem dX11_reckonAll_153 : decode cX11_reckonAll 153 = .ok (.laload, 1) := by decide +kernel
theorem dX11_reckonAll_154 : decode cX11_reckonAll 154 = .ok (.goto 63, 3) := by decide +kernel
theorem dX11_reckonAll_157 : decode cX11_reckonAll 157 = .ok (.iload 5, 2) := by decide +kernel
theorem dX11_reckonAll_159 : decode cX11_reckonAll 159 = .ok (.bipush 6, 2) := by decide +kernel
theorem dX11_reckonAll_161 : decode cX11_reckonAll 161 = .ok (.if_icmp .ne 30, 3) := by decide +kernel
theorem dX11_reckonAll_164 : decode cX11_reckonAll 164 = .ok (.aload_n 0, 1) := by decide +kernel
theorem dX11_reckonAll_165 : decode cX11_reckonAll 165 = .ok (.iload 6, 2) := by decide +kernel
theorem dX11_reckonAll_167 : decode cX11_reckonAll 167 = .ok (.invokevirtual 198, 3) := by decide +kernel
theorem dX11_reckonAll_170 : decode cX11_reckonAll 170 = .ok (.ifCond .eq 16, 3) := by decide +kernel
theorem dX11_reckonAll_173 : decode cX11_reckonAll 173 = .ok (.aload_n 0, 1) := by decide +kernel
theorem dX11_reckonAll_174 : decode cX11_reckonAll 174 = .ok (.getfield 13, 3) := by decide +kernel
theorem dX11_reckonAll_177 : decode cX11_reckonAll 177 = .ok (.bipush 10, 2) := by decide +kernel
theorem dX11_reckonAll_179 : decode cX11_reckonAll 179 = .ok (.iload 6, 2) := by decide +kernel
theorem dX11_reckonAll_181 : decode cX11_reckonAll 181 = .ok (.iadd, 1) := by decide +kernel
theorem dX11_reckonAll_182 : decode cX11_reckonAll 182 = .ok (.iaload, 1) := by decide +kernel
theorem dX11_reckonAll_183 : decode cX11_reckonAll 183 = .ok (.goto 4, 3) := by decide +kernel
theorem dX11_reckonAll_186 : decode cX11_reckonAll 186 = .ok (.iconst (-1), 1) := by decide +kernel
theorem dX11_reckonAll_187 : decode cX11_reckonAll 187 = .ok (.i2l, 1) := by decide +kernel
theorem dX11_reckonAll_188 : decode cX11_reckonAll 188 = .ok (.goto 29, 3) := by decide +kernel
theorem dX11_reckonAll_191 : decode cX11_reckonAll 191 = .ok (.aload_n 0, 1) := by decide +kernel
theorem dX11_reckonAll_192 : decode cX11_reckonAll 192 = .ok (.iload 6, 2) := by decide +kernel
theorem dX11_reckonAll_194 : decode cX11_reckonAll 194 = .ok (.invokevirtual 213, 3) := by decide +kernel
theorem dX11_reckonAll_197 : decode cX11_reckonAll 197 = .ok (.ifCond .eq 17, 3) := by decide +kernel
theorem dX11_reckonAll_200 : decode cX11_reckonAll 200 = .ok (.aload_n 0, 1) := by decide +kernel
theorem dX11_reckonAll_201 : decode cX11_reckonAll 201 = .ok (.getfield 13, 3) := by decide +kernel
theorem dX11_reckonAll_204 : decode cX11_reckonAll 204 = .ok (.bipush 17, 2) := by decide +kernel
theorem dX11_reckonAll_206 : decode cX11_reckonAll 206 = .ok (.iload 6, 2) := by decide +kernel
theorem dX11_reckonAll_208 : decode cX11_reckonAll 208 = .ok (.iadd, 1) := by decide +kernel
theorem dX11_reckonAll_209 : decode cX11_reckonAll 209 = .ok (.iaload, 1) := by decide +kernel
theorem dX11_reckonAll_210 : decode cX11_reckonAll 210 = .ok (.i2l, 1) := by decide +kernel
theorem dX11_reckonAll_211 : decode cX11_reckonAll 211 = .ok (.goto 6, 3) := by decide +kernel
theorem dX11_reckonAll_214 : decode cX11_reckonAll 214 = .ok (.ldc2_w 179, 3) := by decide +kernel
theorem dX11_reckonAll_217 : decode cX11_reckonAll 217 = .ok (.lastore, 1) := by decide +kernel
theorem dX11_reckonAll_218 : decode cX11_reckonAll 218 = .ok (.iinc 3 1, 3) := by decide +kernel
theorem dX11_reckonAll_221 : decode cX11_reckonAll 221 = .ok (.goto 142, 3) := by decide +kernel
theorem dX11_reckonAll_224 : decode cX11_reckonAll 224 = .ok (.iload 5, 2) := by decide +kernel
theorem dX11_reckonAll_226 : decode cX11_reckonAll 226 = .ok (.bipush 28, 2) := by decide +kernel
theorem dX11_reckonAll_228 : decode cX11_reckonAll 228 = .ok (.if_icmp .ge 73, 3) := by decide +kernel
theorem dX11_reckonAll_231 : decode cX11_reckonAll 231 = .ok (.iinc 3 (-1), 3) := by decide +kernel
theorem dX11_reckonAll_234 : decode cX11_reckonAll 234 = .ok (.aload_n 0, 1) := by decide +kernel
theorem dX11_reckonAll_235 : decode cX11_reckonAll 235 = .ok (.getfield 105, 3) := by decide +kernel
theorem dX11_reckonAll_238 : decode cX11_reckonAll 238 = .ok (.iload_n 3, 1) := by decide +kernel
theorem dX11_reckonAll_239 : decode cX11_reckonAll 239 = .ok (.iconst 1, 1) := by decide +kernel
theorem dX11_reckonAll_240 : decode cX11_reckonAll 240 = .ok (.isub, 1) := by decide +kernel
theorem dX11_reckonAll_241 : decode cX11_reckonAll 241 = .ok (.aload_n 0, 1) := by decide +kernel
theorem dX11_reckonAll_242 : decode cX11_reckonAll 242 = .ok (.iload 5, 2) := by decide +kernel
theorem dX11_reckonAll_244 : decode cX11_reckonAll 244 = .ok (.aload_n 0, 1) := by decide +kernel
theorem dX11_reckonAll_245 : decode cX11_reckonAll 245 = .ok (.getfield 105, 3) := by decide +kernel
theorem dX11_reckonAll_248 : decode cX11_reckonAll 248 = .ok (.iload_n 3, 1) := by decide +kernel
theorem dX11_reckonAll_249 : decode cX11_reckonAll 249 = .ok (.iconst 1, 1) := by decide +kernel
theorem dX11_reckonAll_250 : decode cX11_reckonAll 250 = .ok (.isub, 1) := by decide +kernel
theorem dX11_reckonAll_251 : decode cX11_reckonAll 251 = .ok (.laload, 1) := by decide +kernel
theorem dX11_reckonAll_252 : decode cX11_reckonAll 252 = .ok (.aload_n 0, 1) := by decide +kernel
theorem dX11_reckonAll_253 : decode cX11_reckonAll 253 = .ok (.getfield 105, 3) := by decide +kernel
theorem dX11_reckonAll_256 : decode cX11_reckonAll 256 = .ok (.iload_n 3, 1) := by decide +kernel
theorem dX11_reckonAll_257 : decode cX11_reckonAll 257 = .ok (.laload, 1) := by decide +kernel
theorem dX11_reckonAll_258 : decode cX11_reckonAll 258 = .ok (.invokevirtual 411, 3) := by decide +kernel
theorem dX11_reckonAll_261 : decode cX11_reckonAll 261 = .ok (.lastore, 1) := by decide +kernel
theorem dX11_reckonAll_262 : decode cX11_reckonAll 262 = .ok (.aload_n 0, 1) := by decide +kernel
theorem dX11_reckonAll_263 : decode cX11_reckonAll 263 = .ok (.aload_n 0, 1) := by decide +kernel
theorem dX11_reckonAll_264 : decode cX11_reckonAll 264 = .ok (.getfield 405, 3) := by decide +kernel
theorem dX11_reckonAll_267 : decode cX11_reckonAll 267 = .ok (.ifCond .ne 23, 3) := by decide +kernel
theorem dX11_reckonAll_270 : decode cX11_reckonAll 270 = .ok (.aload_n 0, 1) := by decide +kernel
theorem dX11_reckonAll_271 : decode cX11_reckonAll 271 = .ok (.getfield 105, 3) := by decide +kernel
theorem dX11_reckonAll_274 : decode cX11_reckonAll 274 = .ok (.iload_n 3, 1) := by decide +kernel
theorem dX11_reckonAll_275 : decode cX11_reckonAll 275 = .ok (.iconst 1, 1) := by decide +kernel
theorem dX11_reckonAll_276 : decode cX11_reckonAll 276 = .ok (.isub, 1) := by decide +kernel
theorem dX11_reckonAll_277 : decode cX11_reckonAll 277 = .ok (.laload, 1) := by decide +kernel
theorem dX11_reckonAll_278 : decode cX11_reckonAll 278 = .ok (.ldc2_w 415, 3) := by decide +kernel
theorem dX11_reckonAll_281 : decode cX11_reckonAll 281 = .ok (.ldc2_w 417, 3) := by decide +kernel
theorem dX11_reckonAll_284 : decode cX11_reckonAll 284 = .ok (.invokestatic 172, 3) := by decide +kernel
theorem dX11_reckonAll_287 : decode cX11_reckonAll 287 = .ok (.ifCond .ne 7, 3) := by decide +kernel
theorem dX11_reckonAll_290 : decode cX11_reckonAll 290 = .ok (.iconst 1, 1) := by decide +kernel
theorem dX11_reckonAll_291 : decode cX11_reckonAll 291 = .ok (.goto 4, 3) := by decide +kernel
theorem dX11_reckonAll_294 : decode cX11_reckonAll 294 = .ok (.iconst 0, 1) := by decide +kernel
theorem dX11_reckonAll_295 : decode cX11_reckonAll 295 = .ok (.putfield 405, 3) := by decide +kernel
theorem dX11_reckonAll_298 : decode cX11_reckonAll 298 = .ok (.goto 65, 3) := by decide +kernel
theorem dX11_reckonAll_301 : decode cX11_reckonAll 301 = .ok (.iload 5, 2) := by decide +kernel
theorem dX11_reckonAll_303 : decode cX11_reckonAll 303 = .ok (.bipush 28, 2) := by decide +kernel
theorem dX11_reckonAll_305 : decode cX11_reckonAll 305 = .ok (.if_icmp .ne 24, 3) := by decide +kernel
theorem dX11_reckonAll_308 : decode cX11_reckonAll 308 = .ok (.aload_n 0, 1) := by decide +kernel
theorem dX11_reckonAll_309 : decode cX11_reckonAll 309 = .ok (.getfield 105, 3) := by decide +kernel
theorem dX11_reckonAll_312 : decode cX11_reckonAll 312 = .ok (.iload_n 3, 1) := by decide +kernel
theorem dX11_reckonAll_313 : decode cX11_reckonAll 313 = .ok (.iconst 1, 1) := by decide +kernel
theorem dX11_reckonAll_314 : decode cX11_reckonAll 314 = .ok (.isub, 1) := by decide +kernel
theorem dX11_reckonAll_315 : decode cX11_reckonAll 315 = .ok (.lconst 1, 1) := by decide +kernel
theorem dX11_reckonAll_316 : decode cX11_reckonAll 316 = .ok (.aload_n 0, 1) := by decide +kernel
theorem dX11_reckonAll_317 : decode cX11_reckonAll 317 = .ok (.getfield 105, 3) := by decide +kernel
theorem dX11_reckonAll_320 : decode cX11_reckonAll 320 = .ok (.iload_n 3, 1) := by decide +kernel
theorem dX11_reckonAll_321 : decode cX11_reckonAll 321 = .ok (.iconst 1, 1) := by decide +kernel
theorem dX11_reckonAll_322 : decode cX11_reckonAll 322 = .ok (.isub, 1) := by decide +kernel
theorem dX11_reckonAll_323 : decode cX11_reckonAll 323 = .ok (.laload, 1) := by decide +kernel
theorem dX11_reckonAll_324 : decode cX11_reckonAll 324 = .ok (.lsub, 1) := by decide +kernel
theorem dX11_reckonAll_325 : decode cX11_reckonAll 325 = .ok (.lastore, 1) := by decide +kernel
theorem dX11_reckonAll_326 : decode cX11_reckonAll 326 = .ok (.goto 37, 3) := by decide +kernel
theorem dX11_reckonAll_329 : decode cX11_reckonAll 329 = .ok (.aload_n 0, 1) := by decide +kernel
theorem dX11_reckonAll_330 : decode cX11_reckonAll 330 = .ok (.getfield 105, 3) := by decide +kernel
theorem dX11_reckonAll_333 : decode cX11_reckonAll 333 = .ok (.iload_n 3, 1) := by decide +kernel
theorem dX11_reckonAll_334 : decode cX11_reckonAll 334 = .ok (.iconst 1, 1) := by decide +kernel
theorem dX11_reckonAll_335 : decode cX11_reckonAll 335 = .ok (.isub, 1) := by decide +kernel
theorem dX11_reckonAll_336 : decode cX11_reckonAll 336 = .ok (.laload, 1) := by decide +kernel
theorem dX11_reckonAll_337 : decode cX11_reckonAll 337 = .ok (.iload 5, 2) := by decide +kernel
theorem dX11_reckonAll_339 : decode cX11_reckonAll 339 = .ok (.bipush 29, 2) := by decide +kernel
theorem dX11_reckonAll_341 : decode cX11_reckonAll 341 = .ok (.if_icmp .ne 7, 3) := by decide +kernel
theorem dX11_reckonAll_344 : decode cX11_reckonAll 344 = .ok (.lconst 0, 1) := by decide +kernel
theorem dX11_reckonAll_345 : decode cX11_reckonAll 345 = .ok (.goto 4, 3) := by decide +kernel
theorem dX11_reckonAll_348 : decode cX11_reckonAll 348 = .ok (.lconst 1, 1) := by decide +kernel
theorem dX11_reckonAll_349 : decode cX11_reckonAll 349 = .ok (.lcmp, 1) := by decide +kernel
theorem dX11_reckonAll_350 : decode cX11_reckonAll 350 = .ok (.ifCond .ne 10, 3) := by decide +kernel
theorem dX11_reckonAll_353 : decode cX11_reckonAll 353 = .ok (.iload 6, 2) := by decide +kernel
theorem dX11_reckonAll_355 : decode cX11_reckonAll 355 = .ok (.istore 4, 2) := by decide +kernel
theorem dX11_reckonAll_357 : decode cX11_reckonAll 357 = .ok (.goto 6, 3) := by decide +kernel
theorem dX11_reckonAll_360 : decode cX11_reckonAll 360 = .ok (.iinc 3 (-1), 3) := by decide +kernel
theorem dX11_reckonAll_363 : decode cX11_reckonAll 363 = .ok (.goto (-353), 3) := by decide +kernel
theorem dX11_reckonAll_366 : decode cX11_reckonAll 366 = .ok (.aload_n 0, 1) := by decide +kernel
theorem dX11_reckonAll_367 : decode cX11_reckonAll 367 = .ok (.iload_n 3, 1) := by decide +kernel
theorem dX11_reckonAll_368 : decode cX11_reckonAll 368 = .ok (.ifCond .le 12, 3) := by decide +kernel
theorem dX11_reckonAll_371 : decode cX11_reckonAll 371 = .ok (.aload_n 0, 1) := by decide +kernel
theorem dX11_reckonAll_372 : decode cX11_reckonAll 372 = .ok (.getfield 105, 3) := by decide +kernel
theorem dX11_reckonAll_375 : decode cX11_reckonAll 375 = .ok (.iconst 0, 1) := by decide +kernel
theorem dX11_reckonAll_376 : decode cX11_reckonAll 376 = .ok (.laload, 1) := by decide +kernel
theorem dX11_reckonAll_377 : decode cX11_reckonAll 377 = .ok (.goto 4, 3) := by decide +kernel
theorem dX11_reckonAll_380 : decode cX11_reckonAll 380 = .ok (.lconst 0, 1) := by decide +kernel
theorem dX11_reckonAll_381 : decode cX11_reckonAll 381 = .ok (.putfield 419, 3) := by decide +kernel
theorem dX11_reckonAll_384 : decode cX11_reckonAll 384 = .ok (.return_, 1) := by decide +kernel
theorem dX11_isSo_0 : decode cX11_isSo 0 = .ok (.aload_n 0, 1) := by decide +kernel
theorem dX11_isSo_1 : decode cX11_isSo 1 = .ok (.getfield 13, 3) := by decide +kernel
theorem dX11_isSo_4 : decode cX11_isSo 4 = .ok (.iload_n 1, 1) := by decide +kernel
theorem dX11_isSo_5 : decode cX11_isSo 5 = .ok (.iconst 5, 1) := by decide +kernel
theorem dX11_isSo_6 : decode cX11_isSo 6 = .ok (.iadd, 1) := by decide +kernel
theorem dX11_isSo_7 : decode cX11_isSo 7 = .ok (.iaload, 1) := by decide +kernel
theorem dX11_isSo_8 : decode cX11_isSo 8 = .ok (.aload_n 0, 1) := by decide +kernel
theorem dX11_isSo_9 : decode cX11_isSo 9 = .ok (.getfield 13, 3) := by decide +kernel
theorem dX11_isSo_12 : decode cX11_isSo 12 = .ok (.iload_n 1, 1) := by decide +kernel
theorem dX11_isSo_13 : decode cX11_isSo 13 = .ok (.bipush 6, 2) := by decide +kernel
theorem dX11_isSo_15 : decode cX11_isSo 15 = .ok (.iadd, 1) := by decide +kernel
theorem dX11_isSo_16 : decode cX11_isSo 16 = .ok (.iaload, 1) := by decide +kernel
theorem dX11_isSo_17 : decode cX11_isSo 17 = .ok (.if_icmp .ge 42, 3) := by decide +kernel
theorem dX11_isSo_20 : decode cX11_isSo 20 = .ok (.aload_n 0, 1) := by decide +kernel
theorem dX11_isSo_21 : decode cX11_isSo 21 = .ok (.aload_n 0, 1) := by decide +kernel
theorem dX11_isSo_22 : decode cX11_isSo 22 = .ok (.getfield 13, 3) := by decide +kernel
theorem dX11_isSo_25 : decode cX11_isSo 25 = .ok (.iload_n 1, 1) := by decide +kernel
theorem dX11_isSo_26 : decode cX11_isSo 26 = .ok (.iconst 5, 1) := by decide +kernel
theorem dX11_isSo_27 : decode cX11_isSo 27 = .ok (.iadd, 1) := by decide +kernel
theorem dX11_isSo_28 : decode cX11_isSo 28 = .ok (.iaload, 1) := by decide +kernel
theorem dX11_isSo_29 : decode cX11_isSo 29 = .ok (.aload_n 0, 1) := by decide +kernel
theorem dX11_isSo_30 : decode cX11_isSo 30 = .ok (.getfield 13, 3) := by decide +kernel
theorem dX11_isSo_33 : decode cX11_isSo 33 = .ok (.iload_n 1, 1) := by decide +kernel
theorem dX11_isSo_34 : decode cX11_isSo 34 = .ok (.bipush 6, 2) := by decide +kernel
theorem dX11_isSo_36 : decode cX11_isSo 36 = .ok (.iadd, 1) := by decide +kernel
theorem dX11_isSo_37 : decode cX11_isSo 37 = .ok (.iaload, 1) := by decide +kernel
theorem dX11_isSo_38 : decode cX11_isSo 38 = .ok (.invokevirtual 422, 3) := by decide +kernel
theorem dX11_isSo_41 : decode cX11_isSo 41 = .ok (.aload_n 0, 1) := by decide +kernel
theorem dX11_isSo_42 : decode cX11_isSo 42 = .ok (.getfield 405, 3) := by decide +kernel
theorem dX11_isSo_45 : decode cX11_isSo 45 = .ok (.ifCond .ne 12, 3) := by decide +kernel
theorem dX11_isSo_48 : decode cX11_isSo 48 = .ok (.aload_n 0, 1) := by decide +kernel
theorem dX11_isSo_49 : decode cX11_isSo 49 = .ok (.getfield 419, 3) := by decide +kernel
theorem dX11_isSo_52 : decode cX11_isSo 52 = .ok (.lconst 0, 1) := by decide +kernel
theorem dX11_isSo_53 : decode cX11_isSo 53 = .ok (.lcmp, 1) := by decide +kernel
theorem dX11_isSo_54 : decode cX11_isSo 54 = .ok (.ifCond .ne 5, 3) := by decide +kernel
theorem dX11_isSo_57 : decode cX11_isSo 57 = .ok (.iconst 0, 1) := by decide +kernel
theorem dX11_isSo_58 : decode cX11_isSo 58 = .ok (.ireturn, 1) := by decide +kernel
theorem dX11_isSo_59 : decode cX11_isSo 59 = .ok (.aload_n 0, 1) := by decide +kernel
theorem dX11_isSo_60 : decode cX11_isSo 60 = .ok (.getfield 13, 3) := by decide +kernel
theorem dX11_isSo_63 : decode cX11_isSo 63 = .ok (.iload_n 1, 1) := by decide +kernel
theorem dX11_isSo_64 : decode cX11_isSo 64 = .ok (.iaload, 1) := by decide +kernel
theorem dX11_isSo_65 : decode cX11_isSo 65 = .ok (.iconst 2, 1) := by decide +kernel
theorem dX11_isSo_66 : decode cX11_isSo 66 = .ok (.if_icmp .eq 44, 3) := by decide +kernel
theorem dX11_isSo_69 : decode cX11_isSo 69 = .ok (.aload_n 0, 1) := by decide +kernel
theorem dX11_isSo_70 : decode cX11_isSo 70 = .ok (.aload_n 0, 1) := by decide +kernel
theorem dX11_isSo_71 : decode cX11_isSo 71 = .ok (.getfield 13, 3) := by decide +kernel
theorem dX11_isSo_74 : decode cX11_isSo 74 = .ok (.iload_n 1, 1) := by decide +kernel
theorem dX11_isSo_75 : decode cX11_isSo 75 = .ok (.iconst 3, 1) := by decide +kernel
theorem dX11_isSo_76 : decode cX11_isSo 76 = .ok (.iadd, 1) := by decide +kernel
theorem dX11_isSo_77 : decode cX11_isSo 77 = .ok (.iaload, 1) := by decide +kernel
theorem dX11_isSo_78 : decode cX11_isSo 78 = .ok (.aload_n 0, 1) := by decide +kernel
theorem dX11_isSo_79 : decode cX11_isSo 79 = .ok (.getfield 13, 3) := by decide +kernel
theorem dX11_isSo_82 : decode cX11_isSo 82 = .ok (.iload_n 1, 1) := by decide +kernel
theorem dX11_isSo_83 : decode cX11_isSo 83 = .ok (.iconst 4, 1) := by decide +kernel
theorem dX11_isSo_84 : decode cX11_isSo 84 = .ok (.iadd, 1) := by decide +kernel
theorem dX11_isSo_85 : decode cX11_isSo 85 = .ok (.iaload, 1) := by decide +kernel
theorem dX11_isSo_86 : decode cX11_isSo 86 = .ok (.invokevirtual 422, 3) := by decide +kernel
theorem dX11_isSo_89 : decode cX11_isSo 89 = .ok (.aload_n 0, 1) := by decide +kernel
theorem dX11_isSo_90 : decode cX11_isSo 90 = .ok (.aload_n 0, 1) := by decide +kernel
theorem dX11_isSo_91 : decode cX11_isSo 91 = .ok (.getfield 419, 3) := by decide +kernel
theorem dX11_isSo_94 : decode cX11_isSo 94 = .ok (.putfield 425, 3) := by decide +kernel
theorem dX11_isSo_97 : decode cX11_isSo 97 = .ok (.aload_n 0, 1) := by decide +kernel
theorem dX11_isSo_98 : decode cX11_isSo 98 = .ok (.getfield 405, 3) := by decide +kernel
theorem dX11_isSo_101 : decode cX11_isSo 101 = .ok (.ifCond .ne 7, 3) := by decide +kernel
theorem dX11_isSo_104 : decode cX11_isSo 104 = .ok (.iconst 1, 1) := by decide +kernel
theorem dX11_isSo_105 : decode cX11_isSo 105 = .ok (.goto 4, 3) := by decide +kernel
theorem dX11_isSo_108 : decode cX11_isSo 108 = .ok (.iconst 0, 1) := by decide +kernel
theorem dX11_isSo_109 : decode cX11_isSo 109 = .ok (.ireturn, 1) := by decide +kernel
theorem dX11_isSo_110 : decode cX11_isSo 110 = .ok (.iconst 1, 1) := by decide +kernel
theorem dX11_isSo_111 : decode cX11_isSo 111 = .ok (.ireturn, 1) := by decide +kernel
theorem dX11_tells_0 : decode cX11_tells 0 = .ok (.aload_n 0, 1) := by decide +kernel
theorem dX11_tells_1 : decode cX11_tells 1 = .ok (.getfield 13, 3) := by decide +kernel
theorem dX11_tells_4 : decode cX11_tells 4 = .ok (.iconst 4, 1) := by decide +kernel
theorem dX11_tells_5 : decode cX11_tells 5 = .ok (.iaload, 1) := by decide +kernel
theorem dX11_tells_6 : decode cX11_tells 6 = .ok (.iconst (-1), 1) := by decide +kernel
theorem dX11_tells_7 : decode cX11_tells 7 = .ok (.if_icmp .ne 6, 3) := by decide +kernel
theorem dX11_tells_10 : decode cX11_tells 10 = .ok (.lload 4, 2) := by decide +kernel
theorem dX11_tells_12 : decode cX11_tells 12 = .ok (.lreturn, 1) := by decide +kernel
theorem dX11_tells_13 : decode cX11_tells 13 = .ok (.aload_n 0, 1) := by decide +kernel
theorem dX11_tells_14 : decode cX11_tells 14 = .ok (.bipush 90, 2) := by decide +kernel
theorem dX11_tells_16 : decode cX11_tells 16 = .ok (.sipush 900, 3) := by decide +kernel
theorem dX11_tells_19 : decode cX11_tells 19 = .ok (.aload_n 0, 1) := by decide +kernel
theorem dX11_tells_20 : decode cX11_tells 20 = .ok (.getfield 13, 3) := by decide +kernel
theorem dX11_tells_23 : decode cX11_tells 23 = .ok (.iconst 4, 1) := by decide +kernel
theorem dX11_tells_24 : decode cX11_tells 24 = .ok (.iaload, 1) := by decide +kernel
theorem dX11_tells_25 : decode cX11_tells 25 = .ok (.imul, 1) := by decide +kernel
theorem dX11_tells_26 : decode cX11_tells 26 = .ok (.iadd, 1) := by decide +kernel
theorem dX11_tells_27 : decode cX11_tells 27 = .ok (.putfield 408, 3) := by decide +kernel
theorem dX11_tells_30 : decode cX11_tells 30 = .ok (.aload_n 0, 1) := by decide +kernel
theorem dX11_tells_31 : decode cX11_tells 31 = .ok (.getfield 99, 3) := by decide +kernel
theorem dX11_tells_34 : decode cX11_tells 34 = .ok (.iconst 1, 1) := by decide +kernel
theorem dX11_tells_35 : decode cX11_tells 35 = .ok (.iload_n 2, 1) := by decide +kernel
theorem dX11_tells_36 : decode cX11_tells 36 = .ok (.i2l, 1) := by decide +kernel
theorem dX11_tells_37 : decode cX11_tells 37 = .ok (.lastore, 1) := by decide +kernel
theorem dX11_tells_38 : decode cX11_tells 38 = .ok (.aload_n 0, 1) := by decide +kernel
theorem dX11_tells_39 : decode cX11_tells 39 = .ok (.getfield 99, 3) := by decide +kernel
theorem dX11_tells_42 : decode cX11_tells 42 = .ok (.iconst 2, 1) := by decide +kernel
theorem dX11_tells_43 : decode cX11_tells 43 = .ok (.iload_n 2, 1) := by decide +kernel
theorem dX11_tells_44 : decode cX11_tells 44 = .ok (.iconst (-1), 1) := by decide +kernel
theorem dX11_tells_45 : decode cX11_tells 45 = .ok (.if_icmp .ne 9, 3) := by decide +kernel
theorem dX11_tells_48 : decode cX11_tells 48 = .ok (.ldc2_w 179, 3) := by decide +kernel
theorem dX11_tells_51 : decode cX11_tells 51 = .ok (.goto 13, 3) := by decide +kernel
theorem dX11_tells_54 : decode cX11_tells 54 = .ok (.aload_n 0, 1) := by decide +kernel
theorem dX11_tells_55 : decode cX11_tells 55 = .ok (.getfield 13, 3) := by decide +kernel
theorem dX11_tells_58 : decode cX11_tells 58 = .ok (.bipush 10, 2) := by decide +kernel
theorem dX11_tells_60 : decode cX11_tells 60 = .ok (.iload_n 2, 1) := by decide +kernel
theorem dX11_tells_61 : decode cX11_tells 61 = .ok (.iadd, 1) := by decide +kernel
theorem dX11_tells_62 : decode cX11_tells 62 = .ok (.iaload, 1) := by decide +kernel
theorem dX11_tells_63 : decode cX11_tells 63 = .ok (.i2l, 1) := by decide +kernel
theorem dX11_tells_64 : decode cX11_tells 64 = .ok (.lastore, 1) := by decide +kernel
theorem dX11_tells_65 : decode cX11_tells 65 = .ok (.aload_n 0, 1) := by decide +kernel
theorem dX11_tells_66 : decode cX11_tells 66 = .ok (.getfield 99, 3) := by decide +kernel
theorem dX11_tells_69 : decode cX11_tells 69 = .ok (.iconst 3, 1) := by decide +kernel
theorem dX11_tells_70 : decode cX11_tells 70 = .ok (.iload_n 2, 1) := by decide +kernel
theorem dX11_tells_71 : decode cX11_tells 71 = .ok (.iconst (-1), 1) := by decide +kernel
theorem dX11_tells_72 : decode cX11_tells 72 = .ok (.if_icmp .ne 9, 3) := by decide +kernel
theorem dX11_tells_75 : decode cX11_tells 75 = .ok (.ldc2_w 179, 3) := by decide +kernel
theorem dX11_tells_78 : decode cX11_tells 78 = .ok (.goto 18, 3) := by decide +kernel
theorem dX11_tells_81 : decode cX11_tells 81 = .ok (.aload_n 0, 1) := by decide +kernel
theorem dX11_tells_82 : decode cX11_tells 82 = .ok (.getfield 13, 3) := by decide +kernel
theorem dX11_tells_85 : decode cX11_tells 85 = .ok (.bipush 30, 2) := by decide +kernel
theorem dX11_tells_87 : decode cX11_tells 87 = .ok (.bipush 6, 2) := by decide +kernel
theorem dX11_tells_89 : decode cX11_tells 89 = .ok (.iload_n 2, 1) := by decide +kernel
theorem dX11_tells_90 : decode cX11_tells 90 = .ok (.imul, 1) := by decide +kernel
theorem dX11_tells_91 : decode cX11_tells 91 = .ok (.iadd, 1) := by decide +kernel
theorem dX11_tells_92 : decode cX11_tells 92 = .ok (.iload_n 3, 1) := by decide +kernel
theorem dX11_tells_93 : decode cX11_tells 93 = .ok (.iadd, 1) := by decide +kernel
theorem dX11_tells_94 : decode cX11_tells 94 = .ok (.iaload, 1) := by decide +kernel
theorem dX11_tells_95 : decode cX11_tells 95 = .ok (.i2l, 1) := by decide +kernel
theorem dX11_tells_96 : decode cX11_tells 96 = .ok (.lastore, 1) := by decide +kernel
theorem dX11_tells_97 : decode cX11_tells 97 = .ok (.aload_n 0, 1) := by decide +kernel
theorem dX11_tells_98 : decode cX11_tells 98 = .ok (.getfield 99, 3) := by decide +kernel
theorem dX11_tells_101 : decode cX11_tells 101 = .ok (.iconst 4, 1) := by decide +kernel
theorem dX11_tells_102 : decode cX11_tells 102 = .ok (.iload_n 3, 1) := by decide +kernel
theorem dX11_tells_103 : decode cX11_tells 103 = .ok (.i2l, 1) := by decide +kernel
theorem dX11_tells_104 : decode cX11_tells 104 = .ok (.lastore, 1) := by decide +kernel
theorem dX11_tells_105 : decode cX11_tells 105 = .ok (.aload_n 0, 1) := by decide +kernel
theorem dX11_tells_106 : decode cX11_tells 106 = .ok (.getfield 99, 3) := by decide +kernel
theorem dX11_tells_109 : decode cX11_tells 109 = .ok (.iconst 5, 1) := by decide +kernel
theorem dX11_tells_110 : decode cX11_tells 110 = .ok (.aload_n 0, 1) := by decide +kernel
theorem dX11_tells_111 : decode cX11_tells 111 = .ok (.getfield 13, 3) := by decide +kernel
theorem dX11_tells_114 : decode cX11_tells 114 = .ok (.bipush 72, 2) := by decide +kernel
theorem dX11_tells_116 : decode cX11_tells 116 = .ok (.iload_n 3, 1) := by decide +kernel
theorem dX11_tells_117 : decode cX11_tells 117 = .ok (.iadd, 1) := by decide +kernel
theorem dX11_tells_118 : decode cX11_tells 118 = .ok (.iaload, 1) := by decide +kernel
theorem dX11_tells_119 : decode cX11_tells 119 = .ok (.i2l, 1) := by decide +kernel
theorem dX11_tells_120 : decode cX11_tells 120 = .ok (.lastore, 1) := by decide +kernel
theorem dX11_tells_121 : decode cX11_tells 121 = .ok (.aload_n 0, 1) := by decide +kernel
theorem dX11_tells_122 : decode cX11_tells 122 = .ok (.getfield 99, 3) := by decide +kernel
theorem dX11_tells_125 : decode cX11_tells 125 = .ok (.bipush 6, 2) := by decide +kernel
theorem dX11_tells_127 : decode cX11_tells 127 = .ok (.aload_n 0, 1) := by decide +kernel
theorem dX11_tells_128 : decode cX11_tells 128 = .ok (.getfield 13, 3) := by decide +kernel
theorem dX11_tells_131 : decode cX11_tells 131 = .ok (.bipush 78, 2) := by decide +kernel
theorem dX11_tells_133 : decode cX11_tells 133 = .ok (.iload_n 3, 1) := by decide +kernel
theorem dX11_tells_134 : decode cX11_tells 134 = .ok (.iadd, 1) := by decide +kernel
theorem dX11_tells_135 : decode cX11_tells 135 = .ok (.iaload, 1) := by decide +kernel
theorem dX11_tells_136 : decode cX11_tells 136 = .ok (.i2l, 1) := by decide +kernel
theorem dX11_tells_137 : decode cX11_tells 137 = .ok (.lastore, 1) := by decide +kernel
theorem dX11_tells_138 : decode cX11_tells 138 = .ok (.aload_n 0, 1) := by decide +kernel
theorem dX11_tells_139 : decode cX11_tells 139 = .ok (.getfield 99, 3) := by decide +kernel
theorem dX11_tells_142 : decode cX11_tells 142 = .ok (.bipush 7, 2) := by decide +kernel
theorem dX11_tells_144 : decode cX11_tells 144 = .ok (.aload_n 0, 1) := by decide +kernel
theorem dX11_tells_145 : decode cX11_tells 145 = .ok (.getfield 13, 3) := by decide +kernel
theorem dX11_tells_148 : decode cX11_tells 148 = .ok (.bipush 9, 2) := by decide +kernel
theorem dX11_tells_150 : decode cX11_tells 150 = .ok (.iaload, 1) := by decide +kernel
theorem dX11_tells_151 : decode cX11_tells 151 = .ok (.i2l, 1) := by decide +kernel
theorem dX11_tells_152 : decode cX11_tells 152 = .ok (.lastore, 1) := by decide +kernel
theorem dX11_tells_153 : decode cX11_tells 153 = .ok (.aload_n 0, 1) := by decide +kernel
theorem dX11_tells_154 : decode cX11_tells 154 = .ok (.getfield 99, 3) := by decide +kernel
theorem dX11_tells_157 : decode cX11_tells 157 = .ok (.bipush 8, 2) := by decide +kernel
theorem dX11_tells_159 : decode cX11_tells 159 = .ok (.aload_n 0, 1) := by decide +kernel
theorem dX11_tells_160 : decode cX11_tells 160 = .ok (.getfield 13, 3) := by decide +kernel
theorem dX11_tells_163 : decode cX11_tells 163 = .ok (.iconst 5, 1) := by decide +kernel
theorem dX11_tells_164 : decode cX11_tells 164 = .ok (.iaload, 1) := by decide +kernel
theorem dX11_tells_165 : decode cX11_tells 165 = .ok (.i2l, 1) := by decide +kernel
theorem dX11_tells_166 : decode cX11_tells 166 = .ok (.lastore, 1) := by decide +kernel
theorem dX11_tells_167 : decode cX11_tells 167 = .ok (.aload_n 0, 1) := by decide +kernel
theorem dX11_tells_168 : decode cX11_tells 168 = .ok (.getfield 99, 3) := by decide +kernel
theorem dX11_tells_171 : decode cX11_tells 171 = .ok (.bipush 9, 2) := by decide +kernel
theorem dX11_tells_173 : decode cX11_tells 173 = .ok (.aload_n 0, 1) := by decide +kernel
theorem dX11_tells_174 : decode cX11_tells 174 = .ok (.getfield 13, 3) := by decide +kernel
theorem dX11_tells_177 : decode cX11_tells 177 = .ok (.bipush 7, 2) := by decide +kernel
theorem dX11_tells_179 : decode cX11_tells 179 = .ok (.iaload, 1) := by decide +kernel
theorem dX11_tells_180 : decode cX11_tells 180 = .ok (.i2l, 1) := by decide +kernel
theorem dX11_tells_181 : decode cX11_tells 181 = .ok (.lastore, 1) := by decide +kernel
theorem dX11_tells_182 : decode cX11_tells 182 = .ok (.lload 4, 2) := by decide +kernel
theorem dX11_tells_184 : decode cX11_tells 184 = .ok (.lstore 6, 2) := by decide +kernel
theorem dX11_tells_186 : decode cX11_tells 186 = .ok (.iconst 0, 1) := by decide +kernel
theorem dX11_tells_187 : decode cX11_tells 187 = .ok (.istore 8, 2) := by decide +kernel
theorem dX11_tells_189 : decode cX11_tells 189 = .ok (.iload 8, 2) := by decide +kernel
theorem dX11_tells_191 : decode cX11_tells 191 = .ok (.aload_n 0, 1) := by decide +kernel
theorem dX11_tells_192 : decode cX11_tells 192 = .ok (.getfield 13, 3) := by decide +kernel
theorem dX11_tells_195 : decode cX11_tells 195 = .ok (.aload_n 0, 1) := by decide +kernel
theorem dX11_tells_196 : decode cX11_tells 196 = .ok (.getfield 408, 3) := by decide +kernel
theorem dX11_tells_199 : decode cX11_tells 199 = .ok (.iconst 1, 1) := by decide +kernel
theorem dX11_tells_200 : decode cX11_tells 200 = .ok (.iadd, 1) := by decide +kernel
theorem dX11_tells_201 : decode cX11_tells 201 = .ok (.iaload, 1) := by decide +kernel
theorem dX11_tells_202 : decode cX11_tells 202 = .ok (.if_icmp .ge 58, 3) := by decide +kernel
theorem dX11_tells_205 : decode cX11_tells 205 = .ok (.aload_n 0, 1) := by decide +kernel
theorem dX11_tells_206 : decode cX11_tells 206 = .ok (.getfield 408, 3) := by decide +kernel
theorem dX11_tells_209 : decode cX11_tells 209 = .ok (.iconst 2, 1) := by decide +kernel
theorem dX11_tells_210 : decode cX11_tells 210 = .ok (.iadd, 1) := by decide +kernel
theorem dX11_tells_211 : decode cX11_tells 211 = .ok (.bipush 8, 2) := by decide +kernel
theorem dX11_tells_213 : decode cX11_tells 213 = .ok (.iload 8, 2) := by decide +kernel
theorem dX11_tells_215 : decode cX11_tells 215 = .ok (.imul, 1) := by decide +kernel
theorem dX11_tells_216 : decode cX11_tells 216 = .ok (.iadd, 1) := by decide +kernel
theorem dX11_tells_217 : decode cX11_tells 217 = .ok (.istore 9, 2) := by decide +kernel
theorem dX11_tells_219 : decode cX11_tells 219 = .ok (.aload_n 0, 1) := by decide +kernel
theorem dX11_tells_220 : decode cX11_tells 220 = .ok (.getfield 13, 3) := by decide +kernel
theorem dX11_tells_223 : decode cX11_tells 223 = .ok (.iload 9, 2) := by decide +kernel
theorem dX11_tells_225 : decode cX11_tells 225 = .ok (.iaload, 1) := by decide +kernel
theorem dX11_tells_226 : decode cX11_tells 226 = .ok (.iload_n 1, 1) := by decide +kernel
theorem dX11_tells_227 : decode cX11_tells 227 = .ok (.if_icmp .ne 27, 3) := by decide +kernel
theorem dX11_tells_230 : decode cX11_tells 230 = .ok (.aload_n 0, 1) := by decide +kernel
theorem dX11_tells_231 : decode cX11_tells 231 = .ok (.iload 9, 2) := by decide +kernel
theorem dX11_tells_233 : decode cX11_tells 233 = .ok (.invokevirtual 428, 3) := by decide +kernel
theorem dX11_tells_236 : decode cX11_tells 236 = .ok (.ifCond .eq 18, 3) := by decide +kernel
theorem dX11_tells_239 : decode cX11_tells 239 = .ok (.iload_n 1, 1) := by decide +kernel
theorem dX11_tells_240 : decode cX11_tells 240 = .ok (.iconst 2, 1) := by decide +kernel
theorem dX11_tells_241 : decode cX11_tells 241 = .ok (.if_icmp .ne 7, 3) := by decide +kernel
theorem dX11_tells_244 : decode cX11_tells 244 = .ok (.lconst 1, 1) := by decide +kernel
theorem dX11_tells_245 : decode cX11_tells 245 = .ok (.goto 7, 3) := by decide +kernel
theorem dX11_tells_248 : decode cX11_tells 248 = .ok (.aload_n 0, 1) := by decide +kernel
theorem dX11_tells_249 : decode cX11_tells 249 = .ok (.getfield 425, 3) := by decide +kernel
theorem dX11_tells_252 : decode cX11_tells 252 = .ok (.lstore 6, 2) := by decide +kernel
theorem dX11_tells_254 : decode cX11_tells 254 = .ok (.iinc 8 1, 3) := by decide +kernel
theorem dX11_tells_257 : decode cX11_tells 257 = .ok (.goto (-68), 3) := by decide +kernel
theorem dX11_tells_260 : decode cX11_tells 260 = .ok (.lload 6, 2) := by decide +kernel
theorem dX11_tells_262 : decode cX11_tells 262 = .ok (.lreturn, 1) := by decide +kernel
theorem dX11_swayOf_0 : decode cX11_swayOf 0 = .ok (.aload_n 0, 1) := by decide +kernel
theorem dX11_swayOf_1 : decode cX11_swayOf 1 = .ok (.iconst 0, 1) := by decide +kernel
theorem dX11_swayOf_2 : decode cX11_swayOf 2 = .ok (.iload_n 1, 1) := by decide +kernel
theorem dX11_swayOf_3 : decode cX11_swayOf 3 = .ok (.iload_n 2, 1) := by decide +kernel
theorem dX11_swayOf_4 : decode cX11_swayOf 4 = .ok (.aload_n 0, 1) := by decide +kernel
theorem dX11_swayOf_5 : decode cX11_swayOf 5 = .ok (.getfield 13, 3) := by decide +kernel
theorem dX11_swayOf_8 : decode cX11_swayOf 8 = .ok (.bipush 30, 2) := by decide +kernel
theorem dX11_swayOf_10 : decode cX11_swayOf 10 = .ok (.bipush 6, 2) := by decide +kernel
theorem dX11_swayOf_12 : decode cX11_swayOf 12 = .ok (.iload_n 1, 1) := by decide +kernel
theorem dX11_swayOf_13 : decode cX11_swayOf 13 = .ok (.imul, 1) := by decide +kernel
theorem dX11_swayOf_14 : decode cX11_swayOf 14 = .ok (.iadd, 1) := by decide +kernel
theorem dX11_swayOf_15 : decode cX11_swayOf 15 = .ok (.iload_n 2, 1) := by decide +kernel
theorem dX11_swayOf_16 : decode cX11_swayOf 16 = .ok (.iadd, 1) := by decide +kernel
theorem dX11_swayOf_17 : decode cX11_swayOf 17 = .ok (.iaload, 1) := by decide +kernel
theorem dX11_swayOf_18 : decode cX11_swayOf 18 = .ok (.i2l, 1) := by decide +kernel
theorem dX11_swayOf_19 : decode cX11_swayOf 19 = .ok (.invokevirtual 431, 3) := by decide +kernel
theorem dX11_swayOf_22 : decode cX11_swayOf 22 = .ok (.iconst 0, 1) := by decide +kernel
theorem dX11_swayOf_23 : decode cX11_swayOf 23 = .ok (.bipush 9, 2) := by decide +kernel
theorem dX11_swayOf_25 : decode cX11_swayOf 25 = .ok (.invokestatic 435, 3) := by decide +kernel
theorem dX11_swayOf_28 : decode cX11_swayOf 28 = .ok (.ireturn, 1) := by decide +kernel
theorem dX11_takesOf_0 : decode cX11_takesOf 0 = .ok (.aload_n 0, 1) := by decide +kernel
theorem dX11_takesOf_1 : decode cX11_takesOf 1 = .ok (.iconst 1, 1) := by decide +kernel
theorem dX11_takesOf_2 : decode cX11_takesOf 2 = .ok (.iconst (-1), 1) := by decide +kernel
theorem dX11_takesOf_3 : decode cX11_takesOf 3 = .ok (.iload_n 1, 1) := by decide +kernel
theorem dX11_takesOf_4 : decode cX11_takesOf 4 = .ok (.aload_n 0, 1) := by decide +kernel
theorem dX11_takesOf_5 : decode cX11_takesOf 5 = .ok (.getfield 13, 3) := by decide +kernel
theorem dX11_takesOf_8 : decode cX11_takesOf 8 = .ok (.bipush 72, 2) := by decide +kernel
theorem dX11_takesOf_10 : decode cX11_takesOf 10 = .ok (.iload_n 1, 1) := by decide +kernel
theorem dX11_takesOf_11 : decode cX11_takesOf 11 = .ok (.iadd, 1) := by decide +kernel
theorem dX11_takesOf_12 : decode cX11_takesOf 12 = .ok (.iaload, 1) := by decide +kernel
theorem dX11_takesOf_13 : decode cX11_takesOf 13 = .ok (.i2l, 1) := by decide +kernel
theorem dX11_takesOf_14 : decode cX11_takesOf 14 = .ok (.invokevirtual 431, 3) := by decide +kernel
theorem dX11_takesOf_17 : decode cX11_takesOf 17 = .ok (.iconst 1, 1) := by decide +kernel
theorem dX11_takesOf_18 : decode cX11_takesOf 18 = .ok (.bipush 9, 2) := by decide +kernel
theorem dX11_takesOf_20 : decode cX11_takesOf 20 = .ok (.invokestatic 435, 3) := by decide +kernel
theorem dX11_takesOf_23 : decode cX11_takesOf 23 = .ok (.ireturn, 1) := by decide +kernel
theorem dX11_sits_0 : decode cX11_sits 0 = .ok (.aload_n 0, 1) := by decide +kernel
theorem dX11_sits_1 : decode cX11_sits 1 = .ok (.iload_n 1, 1) := by decide +kernel
theorem dX11_sits_2 : decode cX11_sits 2 = .ok (.invokevirtual 183, 3) := by decide +kernel
theorem dX11_sits_5 : decode cX11_sits 5 = .ok (.ifCond .ne 20, 3) := by decide +kernel
theorem dX11_sits_8 : decode cX11_sits 8 = .ok (.aload_n 0, 1) := by decide +kernel
theorem dX11_sits_9 : decode cX11_sits 9 = .ok (.iconst 2, 1) := by decide +kernel
theorem dX11_sits_10 : decode cX11_sits 10 = .ok (.iload_n 1, 1) := by decide +kernel
theorem dX11_sits_11 : decode cX11_sits 11 = .ok (.iload_n 2, 1) := by decide +kernel
theorem dX11_sits_12 : decode cX11_sits 12 = .ok (.lconst 0, 1) := by decide +kernel
theorem dX11_sits_13 : decode cX11_sits 13 = .ok (.invokevirtual 431, 3) := by decide +kernel
theorem dX11_sits_16 : decode cX11_sits 16 = .ok (.lconst 0, 1) := by decide +kernel
theorem dX11_sits_17 : decode cX11_sits 17 = .ok (.lcmp, 1) := by decide +kernel
theorem dX11_sits_18 : decode cX11_sits 18 = .ok (.ifCond .ne 7, 3) := by decide +kernel
theorem dX11_sits_21 : decode cX11_sits 21 = .ok (.iconst 1, 1) := by decide +kernel
theorem dX11_sits_22 : decode cX11_sits 22 = .ok (.goto 4, 3) := by decide +kernel
theorem dX11_sits_25 : decode cX11_sits 25 = .ok (.iconst 0, 1) := by decide +kernel
theorem dX11_sits_26 : decode cX11_sits 26 = .ok (.ireturn, 1) := by decide +kernel
theorem dX11_isAye_0 : decode cX11_isAye 0 = .ok (.aload_n 0, 1) := by decide +kernel
theorem dX11_isAye_1 : decode cX11_isAye 1 = .ok (.iload_n 1, 1) := by decide +kernel
theorem dX11_isAye_2 : decode cX11_isAye 2 = .ok (.iload_n 2, 1) := by decide +kernel
theorem dX11_isAye_3 : decode cX11_isAye 3 = .ok (.invokevirtual 219, 3) := by decide +kernel
theorem dX11_isAye_6 : decode cX11_isAye 6 = .ok (.ifCond .eq 17, 3) := by decide +kernel
theorem dX11_isAye_9 : decode cX11_isAye 9 = .ok (.aload_n 0, 1) := by decide +kernel
theorem dX11_isAye_10 : decode cX11_isAye 10 = .ok (.iload_n 1, 1) := by decide +kernel
theorem dX11_isAye_11 : decode cX11_isAye 11 = .ok (.iload_n 2, 1) := by decide +kernel
theorem dX11_isAye_12 : decode cX11_isAye 12 = .ok (.invokevirtual 216, 3) := by decide +kernel
theorem dX11_isAye_15 : decode cX11_isAye 15 = .ok (.iconst 5, 1) := by decide +kernel
theorem dX11_isAye_16 : decode cX11_isAye 16 = .ok (.if_icmp .lt 7, 3) := by decide +kernel
theorem dX11_isAye_19 : decode cX11_isAye 19 = .ok (.iconst 1, 1) := by decide +kernel
theorem dX11_isAye_20 : decode cX11_isAye 20 = .ok (.goto 4, 3) := by decide +kernel
theorem dX11_isAye_23 : decode cX11_isAye 23 = .ok (.iconst 0, 1) := by decide +kernel
theorem dX11_isAye_24 : decode cX11_isAye 24 = .ok (.ireturn, 1) := by decide +kernel
theorem dX11_sitting_0 : decode cX11_sitting 0 = .ok (.iconst 0, 1) := by decide +kernel
theorem dX11_sitting_1 : decode cX11_sitting 1 = .ok (.istore_n 2, 1) := by decide +kernel
theorem dX11_sitting_2 : decode cX11_sitting 2 = .ok (.iconst 0, 1) := by decide +kernel
theorem dX11_sitting_3 : decode cX11_sitting 3 = .ok (.istore_n 3, 1) := by decide +kernel
theorem dX11_sitting_4 : decode cX11_sitting 4 = .ok (.iload_n 3, 1) := by decide +kernel
theorem dX11_sitting_5 : decode cX11_sitting 5 = .ok (.aload_n 0, 1) := by decide +kernel
theorem dX11_sitting_6 : decode cX11_sitting 6 = .ok (.getfield 13, 3) := by decide +kernel
theorem dX11_sitting_9 : decode cX11_sitting 9 = .ok (.iconst 0, 1) := by decide +kernel
theorem dX11_sitting_10 : decode cX11_sitting 10 = .ok (.iaload, 1) := by decide +kernel
theorem dX11_sitting_11 : decode cX11_sitting 11 = .ok (.if_icmp .ge 28, 3) := by decide +kernel
theorem dX11_sitting_14 : decode cX11_sitting 14 = .ok (.iload_n 2, 1) := by decide +kernel
theorem dX11_sitting_15 : decode cX11_sitting 15 = .ok (.aload_n 0, 1) := by decide +kernel
theorem dX11_sitting_16 : decode cX11_sitting 16 = .ok (.iload_n 3, 1) := by decide +kernel
theorem dX11_sitting_17 : decode cX11_sitting 17 = .ok (.iload_n 1, 1) := by decide +kernel
theorem dX11_sitting_18 : decode cX11_sitting 18 = .ok (.invokevirtual 219, 3) := by decide +kernel
theorem dX11_sitting_21 : decode cX11_sitting 21 = .ok (.ifCond .eq 9, 3) := by decide +kernel
theorem dX11_sitting_24 : decode cX11_sitting 24 = .ok (.iconst 1, 1) := by decide +kernel
theorem dX11_sitting_25 : decode cX11_sitting 25 = .ok (.iload_n 3, 1) := by decide +kernel
theorem dX11_sitting_26 : decode cX11_sitting 26 = .ok (.ishl, 1) := by decide +kernel
theorem dX11_sitting_27 : decode cX11_sitting 27 = .ok (.goto 4, 3) := by decide +kernel
theorem dX11_sitting_30 : decode cX11_sitting 30 = .ok (.iconst 0, 1) := by decide +kernel
theorem dX11_sitting_31 : decode cX11_sitting 31 = .ok (.ior, 1) := by decide +kernel
theorem dX11_sitting_32 : decode cX11_sitting 32 = .ok (.istore_n 2, 1) := by decide +kernel
theorem dX11_sitting_33 : decode cX11_sitting 33 = .ok (.iinc 3 1, 3) := by decide +kernel
theorem dX11_sitting_36 : decode cX11_sitting 36 = .ok (.goto (-32), 3) := by decide +kernel
theorem dX11_sitting_39 : decode cX11_sitting 39 = .ok (.iload_n 2, 1) := by decide +kernel
theorem dX11_sitting_40 : decode cX11_sitting 40 = .ok (.ireturn, 1) := by decide +kernel
theorem dX11_ayes_0 : decode cX11_ayes 0 = .ok (.iconst 0, 1) := by decide +kernel
theorem dX11_ayes_1 : decode cX11_ayes 1 = .ok (.istore_n 2, 1) := by decide +kernel
theorem dX11_ayes_2 : decode cX11_ayes 2 = .ok (.iconst 0, 1) := by decide +kernel
theorem dX11_ayes_3 : decode cX11_ayes 3 = .ok (.istore_n 3, 1) := by decide +kernel
theorem dX11_ayes_4 : decode cX11_ayes 4 = .ok (.iload_n 3, 1) := by decide +kernel
theorem dX11_ayes_5 : decode cX11_ayes 5 = .ok (.aload_n 0, 1) := by decide +kernel
theorem dX11_ayes_6 : decode cX11_ayes 6 = .ok (.getfield 13, 3) := by decide +kernel
theorem dX11_ayes_9 : decode cX11_ayes 9 = .ok (.iconst 0, 1) := by decide +kernel
theorem dX11_ayes_10 : decode cX11_ayes 10 = .ok (.iaload, 1) := by decide +kernel
theorem dX11_ayes_11 : decode cX11_ayes 11 = .ok (.if_icmp .ge 28, 3) := by decide +kernel
theorem dX11_ayes_14 : decode cX11_ayes 14 = .ok (.iload_n 2, 1) := by decide +kernel
theorem dX11_ayes_15 : decode cX11_ayes 15 = .ok (.aload_n 0, 1) := by decide +kernel
theorem dX11_ayes_16 : decode cX11_ayes 16 = .ok (.iload_n 3, 1) := by decide +kernel
theorem dX11_ayes_17 : decode cX11_ayes 17 = .ok (.iload_n 1, 1) := by decide +kernel
theorem dX11_ayes_18 : decode cX11_ayes 18 = .ok (.invokevirtual 222, 3) := by decide +kernel
theorem dX11_ayes_21 : decode cX11_ayes 21 = .ok (.ifCond .eq 9, 3) := by decide +kernel
theorem dX11_ayes_24 : decode cX11_ayes 24 = .ok (.iconst 1, 1) := by decide +kernel
theorem dX11_ayes_25 : decode cX11_ayes 25 = .ok (.iload_n 3, 1) := by decide +kernel
theorem dX11_ayes_26 : decode cX11_ayes 26 = .ok (.ishl, 1) := by decide +kernel
theorem dX11_ayes_27 : decode cX11_ayes 27 = .ok (.goto 4, 3) := by decide +kernel
theorem dX11_ayes_30 : decode cX11_ayes 30 = .ok (.iconst 0, 1) := by decide +kernel
theorem dX11_ayes_31 : decode cX11_ayes 31 = .ok (.ior, 1) := by decide +kernel
theorem dX11_ayes_32 : decode cX11_ayes 32 = .ok (.istore_n 2, 1) := by decide +kernel
theorem dX11_ayes_33 : decode cX11_ayes 33 = .ok (.iinc 3 1, 3) := by decide +kernel
theorem dX11_ayes_36 : decode cX11_ayes 36 = .ok (.goto (-32), 3) := by decide +kernel
theorem dX11_ayes_39 : decode cX11_ayes 39 = .ok (.iload_n 2, 1) := by decide +kernel
theorem dX11_ayes_40 : decode cX11_ayes 40 = .ok (.ireturn, 1) := by decide +kernel
theorem dX11_carries_0 : decode cX11_carries 0 = .ok (.iload_n 1, 1) := by decide +kernel
theorem dX11_carries_1 : decode cX11_carries 1 = .ok (.invokestatic 439, 3) := by decide +kernel
theorem dX11_carries_4 : decode cX11_carries 4 = .ok (.aload_n 0, 1) := by decide +kernel
theorem dX11_carries_5 : decode cX11_carries 5 = .ok (.getfield 13, 3) := by decide +kernel
theorem dX11_carries_8 : decode cX11_carries 8 = .ok (.bipush 8, 2) := by decide +kernel
theorem dX11_carries_10 : decode cX11_carries 10 = .ok (.iaload, 1) := by decide +kernel
theorem dX11_carries_11 : decode cX11_carries 11 = .ok (.if_icmp .lt 20, 3) := by decide +kernel
theorem dX11_carries_14 : decode cX11_carries 14 = .ok (.iconst 2, 1) := by decide +kernel
theorem dX11_carries_15 : decode cX11_carries 15 = .ok (.iload_n 2, 1) := by decide +kernel
theorem dX11_carries_16 : decode cX11_carries 16 = .ok (.invokestatic 439, 3) := by decide +kernel
theorem dX11_carries_19 : decode cX11_carries 19 = .ok (.imul, 1) := by decide +kernel
theorem dX11_carries_20 : decode cX11_carries 20 = .ok (.iload_n 1, 1) := by decide +kernel
theorem dX11_carries_21 : decode cX11_carries 21 = .ok (.invokestatic 439, 3) := by decide +kernel
theorem dX11_carries_24 : decode cX11_carries 24 = .ok (.if_icmp .le 7, 3) := by decide +kernel
theorem dX11_carries_27 : decode cX11_carries 27 = .ok (.iconst 1, 1) := by decide +kernel
theorem dX11_carries_28 : decode cX11_carries 28 = .ok (.goto 4, 3) := by decide +kernel
theorem dX11_carries_31 : decode cX11_carries 31 = .ok (.iconst 0, 1) := by decide +kernel
theorem dX11_carries_32 : decode cX11_carries 32 = .ok (.ireturn, 1) := by decide +kernel
theorem dX11_seconder_0 : decode cX11_seconder 0 = .ok (.iconst (-1), 1) := by decide +kernel
theorem dX11_seconder_1 : decode cX11_seconder 1 = .ok (.istore_n 3, 1) := by decide +kernel
theorem dX11_seconder_2 : decode cX11_seconder 2 = .ok (.aload_n 0, 1) := by decide +kernel
theorem dX11_seconder_3 : decode cX11_seconder 3 = .ok (.getfield 13, 3) := by decide +kernel
theorem dX11_seconder_6 : decode cX11_seconder 6 = .ok (.iconst 0, 1) := by decide +kernel
theorem dX11_seconder_7 : decode cX11_seconder 7 = .ok (.iaload, 1) := by decide +kernel
theorem dX11_seconder_8 : decode cX11_seconder 8 = .ok (.iconst 1, 1) := by decide +kernel
theorem dX11_seconder_9 : decode cX11_seconder 9 = .ok (.isub, 1) := by decide +kernel
theorem dX11_seconder_10 : decode cX11_seconder 10 = .ok (.istore 4, 2) := by decide +kernel
theorem dX11_seconder_12 : decode cX11_seconder 12 = .ok (.iload 4, 2) := by decide +kernel
theorem dX11_seconder_14 : decode cX11_seconder 14 = .ok (.ifCond .lt 36, 3) := by decide +kernel
theorem dX11_seconder_17 : decode cX11_seconder 17 = .ok (.aload_n 0, 1) := by decide +kernel
theorem dX11_seconder_18 : decode cX11_seconder 18 = .ok (.iload 4, 2) := by decide +kernel
theorem dX11_seconder_20 : decode cX11_seconder 20 = .ok (.iload_n 2, 1) := by decide +kernel
theorem dX11_seconder_21 : decode cX11_seconder 21 = .ok (.invokevirtual 204, 3) := by decide +kernel
theorem dX11_seconder_24 : decode cX11_seconder 24 = .ok (.ifCond .eq 18, 3) := by decide +kernel
theorem dX11_seconder_27 : decode cX11_seconder 27 = .ok (.aload_n 0, 1) := by decide +kernel
theorem dX11_seconder_28 : decode cX11_seconder 28 = .ok (.iload 4, 2) := by decide +kernel
theorem dX11_seconder_30 : decode cX11_seconder 30 = .ok (.iload_n 1, 1) := by decide +kernel
theorem dX11_seconder_31 : decode cX11_seconder 31 = .ok (.invokevirtual 222, 3) := by decide +kernel
theorem dX11_seconder_34 : decode cX11_seconder 34 = .ok (.ifCond .eq 8, 3) := by decide +kernel
theorem dX11_seconder_37 : decode cX11_seconder 37 = .ok (.iload 4, 2) := by decide +kernel
theorem dX11_seconder_39 : decode cX11_seconder 39 = .ok (.goto 4, 3) := by decide +kernel
theorem dX11_seconder_42 : decode cX11_seconder 42 = .ok (.iload_n 3, 1) := by decide +kernel
theorem dX11_seconder_43 : decode cX11_seconder 43 = .ok (.istore_n 3, 1) := by decide +kernel
theorem dX11_seconder_44 : decode cX11_seconder 44 = .ok (.iinc 4 (-1), 3) := by decide +kernel
theorem dX11_seconder_47 : decode cX11_seconder 47 = .ok (.goto (-35), 3) := by decide +kernel
theorem dX11_seconder_50 : decode cX11_seconder 50 = .ok (.iload_n 3, 1) := by decide +kernel
theorem dX11_seconder_51 : decode cX11_seconder 51 = .ok (.ireturn, 1) := by decide +kernel
theorem dX11_canDivide_0 : decode cX11_canDivide 0 = .ok (.aload_n 0, 1) := by decide +kernel
theorem dX11_canDivide_1 : decode cX11_canDivide 1 = .ok (.getfield 13, 3) := by decide +kernel
theorem dX11_canDivide_4 : decode cX11_canDivide 4 = .ok (.bipush 17, 2) := by decide +kernel
theorem dX11_canDivide_6 : decode cX11_canDivide 6 = .ok (.iload_n 1, 1) := by decide +kernel
theorem dX11_canDivide_7 : decode cX11_canDivide 7 = .ok (.iadd, 1) := by decide +kernel
theorem dX11_canDivide_8 : decode cX11_canDivide 8 = .ok (.iaload, 1) := by decide +kernel
theorem dX11_canDivide_9 : decode cX11_canDivide 9 = .ok (.iconst 1, 1) := by decide +kernel
theorem dX11_canDivide_10 : decode cX11_canDivide 10 = .ok (.if_icmp .ne 43, 3) := by decide +kernel
theorem dX11_canDivide_13 : decode cX11_canDivide 13 = .ok (.aload_n 0, 1) := by decide +kernel
theorem dX11_canDivide_14 : decode cX11_canDivide 14 = .ok (.iload_n 1, 1) := by decide +kernel
theorem dX11_canDivide_15 : decode cX11_canDivide 15 = .ok (.invokevirtual 228, 3) := by decide +kernel
theorem dX11_canDivide_18 : decode cX11_canDivide 18 = .ok (.invokestatic 439, 3) := by decide +kernel
theorem dX11_canDivide_21 : decode cX11_canDivide 21 = .ok (.aload_n 0, 1) := by decide +kernel
theorem dX11_canDivide_22 : decode cX11_canDivide 22 = .ok (.getfield 13, 3) := by decide +kernel
theorem dX11_canDivide_25 : decode cX11_canDivide 25 = .ok (.bipush 8, 2) := by decide +kernel
theorem dX11_canDivide_27 : decode cX11_canDivide 27 = .ok (.iaload, 1) := by decide +kernel
theorem dX11_canDivide_28 : decode cX11_canDivide 28 = .ok (.if_icmp .lt 25, 3) := by decide +kernel
theorem dX11_canDivide_31 : decode cX11_canDivide 31 = .ok (.aload_n 0, 1) := by decide +kernel
theorem dX11_canDivide_32 : decode cX11_canDivide 32 = .ok (.getfield 13, 3) := by decide +kernel
theorem dX11_canDivide_35 : decode cX11_canDivide 35 = .ok (.bipush 9, 2) := by decide +kernel
theorem dX11_canDivide_37 : decode cX11_canDivide 37 = .ok (.iaload, 1) := by decide +kernel
theorem dX11_canDivide_38 : decode cX11_canDivide 38 = .ok (.aload_n 0, 1) := by decide +kernel
theorem dX11_canDivide_39 : decode cX11_canDivide 39 = .ok (.iload_n 1, 1) := by decide +kernel
theorem dX11_canDivide_40 : decode cX11_canDivide 40 = .ok (.invokevirtual 225, 3) := by decide +kernel
theorem dX11_canDivide_43 : decode cX11_canDivide 43 = .ok (.iadd, 1) := by decide +kernel
theorem dX11_canDivide_44 : decode cX11_canDivide 44 = .ok (.bipush 48, 2) := by decide +kernel
theorem dX11_canDivide_46 : decode cX11_canDivide 46 = .ok (.if_icmp .gt 7, 3) := by decide +kernel
theorem dX11_canDivide_49 : decode cX11_canDivide 49 = .ok (.iconst 1, 1) := by decide +kernel
theorem dX11_canDivide_50 : decode cX11_canDivide 50 = .ok (.goto 4, 3) := by decide +kernel
theorem dX11_canDivide_53 : decode cX11_canDivide 53 = .ok (.iconst 0, 1) := by decide +kernel
theorem dX11_canDivide_54 : decode cX11_canDivide 54 = .ok (.ireturn, 1) := by decide +kernel
theorem dX11_divideIt_0 : decode cX11_divideIt 0 = .ok (.aload_n 0, 1) := by decide +kernel
theorem dX11_divideIt_1 : decode cX11_divideIt 1 = .ok (.iload_n 1, 1) := by decide +kernel
theorem dX11_divideIt_2 : decode cX11_divideIt 2 = .ok (.invokevirtual 225, 3) := by decide +kernel
theorem dX11_divideIt_5 : decode cX11_divideIt 5 = .ok (.istore_n 2, 1) := by decide +kernel
theorem dX11_divideIt_6 : decode cX11_divideIt 6 = .ok (.aload_n 0, 1) := by decide +kernel
theorem dX11_divideIt_7 : decode cX11_divideIt 7 = .ok (.getfield 13, 3) := by decide +kernel
theorem dX11_divideIt_10 : decode cX11_divideIt 10 = .ok (.bipush 17, 2) := by decide +kernel
theorem dX11_divideIt_12 : decode cX11_divideIt 12 = .ok (.iload_n 1, 1) := by decide +kernel
theorem dX11_divideIt_13 : decode cX11_divideIt 13 = .ok (.iadd, 1) := by decide +kernel
theorem dX11_divideIt_14 : decode cX11_divideIt 14 = .ok (.aload_n 0, 1) := by decide +kernel
theorem dX11_divideIt_15 : decode cX11_divideIt 15 = .ok (.aload_n 0, 1) := by decide +kernel
theorem dX11_divideIt_16 : decode cX11_divideIt 16 = .ok (.iload_n 1, 1) := by decide +kernel
theorem dX11_divideIt_17 : decode cX11_divideIt 17 = .ok (.invokevirtual 228, 3) := by decide +kernel
theorem dX11_divideIt_20 : decode cX11_divideIt 20 = .ok (.aload_n 0, 1) := by decide +kernel
theorem dX11_divideIt_21 : decode cX11_divideIt 21 = .ok (.iload_n 1, 1) := by decide +kernel
theorem dX11_divideIt_22 : decode cX11_divideIt 22 = .ok (.invokevirtual 231, 3) := by decide +kernel
theorem dX11_divideIt_25 : decode cX11_divideIt 25 = .ok (.invokevirtual 442, 3) := by decide +kernel
theorem dX11_divideIt_28 : decode cX11_divideIt 28 = .ok (.ifCond .eq 7, 3) := by decide +kernel
theorem dX11_divideIt_31 : decode cX11_divideIt 31 = .ok (.iconst 2, 1) := by decide +kernel
theorem dX11_divideIt_32 : decode cX11_divideIt 32 = .ok (.goto 4, 3) := by decide +kernel
theorem dX11_divideIt_35 : decode cX11_divideIt 35 = .ok (.iconst 3, 1) := by decide +kernel
theorem dX11_divideIt_36 : decode cX11_divideIt 36 = .ok (.iastore, 1) := by decide +kernel
theorem dX11_divideIt_37 : decode cX11_divideIt 37 = .ok (.aload_n 0, 1) := by decide +kernel
theorem dX11_divideIt_38 : decode cX11_divideIt 38 = .ok (.getfield 13, 3) := by decide +kernel
theorem dX11_divideIt_41 : decode cX11_divideIt 41 = .ok (.bipush 9, 2) := by decide +kernel
theorem dX11_divideIt_43 : decode cX11_divideIt 43 = .ok (.dup2, 1) := by decide +kernel
theorem dX11_divideIt_44 : decode cX11_divideIt 44 = .ok (.iaload, 1) := by decide +kernel
theorem dX11_divideIt_45 : decode cX11_divideIt 45 = .ok (.iload_n 2, 1) := by decide +kernel
theorem dX11_divideIt_46 : decode cX11_divideIt 46 = .ok (.iadd, 1) := by decide +kernel
theorem dX11_divideIt_47 : decode cX11_divideIt 47 = .ok (.iastore, 1) := by decide +kernel
theorem dX11_divideIt_48 : decode cX11_divideIt 48 = .ok (.return_, 1) := by decide +kernel
theorem dX11_canMove_0 : decode cX11_canMove 0 = .ok (.aload_n 0, 1) := by decide +kernel
theorem dX11_canMove_1 : decode cX11_canMove 1 = .ok (.getfield 13, 3) := by decide +kernel
theorem dX11_canMove_4 : decode cX11_canMove 4 = .ok (.bipush 17, 2) := by decide +kernel
theorem dX11_canMove_6 : decode cX11_canMove 6 = .ok (.iload_n 1, 1) := by decide +kernel
theorem dX11_canMove_7 : decode cX11_canMove 7 = .ok (.iadd, 1) := by decide +kernel
theorem dX11_canMove_8 : decode cX11_canMove 8 = .ok (.iaload, 1) := by decide +kernel
theorem dX11_canMove_9 : decode cX11_canMove 9 = .ok (.ifCond .ne 26, 3) := by decide +kernel
theorem dX11_canMove_12 : decode cX11_canMove 12 = .ok (.aload_n 0, 1) := by decide +kernel
theorem dX11_canMove_13 : decode cX11_canMove 13 = .ok (.iload_n 2, 1) := by decide +kernel
theorem dX11_canMove_14 : decode cX11_canMove 14 = .ok (.iload_n 1, 1) := by decide +kernel
theorem dX11_canMove_15 : decode cX11_canMove 15 = .ok (.invokevirtual 219, 3) := by decide +kernel
theorem dX11_canMove_18 : decode cX11_canMove 18 = .ok (.ifCond .eq 17, 3) := by decide +kernel
theorem dX11_canMove_21 : decode cX11_canMove 21 = .ok (.aload_n 0, 1) := by decide +kernel
theorem dX11_canMove_22 : decode cX11_canMove 22 = .ok (.iload_n 1, 1) := by decide +kernel
theorem dX11_canMove_23 : decode cX11_canMove 23 = .ok (.iload_n 2, 1) := by decide +kernel
theorem dX11_canMove_24 : decode cX11_canMove 24 = .ok (.invokevirtual 445, 3) := by decide +kernel
theorem dX11_canMove_27 : decode cX11_canMove 27 = .ok (.iconst (-1), 1) := by decide +kernel
theorem dX11_canMove_28 : decode cX11_canMove 28 = .ok (.if_icmp .eq 7, 3) := by decide +kernel
theorem dX11_canMove_31 : decode cX11_canMove 31 = .ok (.iconst 1, 1) := by decide +kernel
theorem dX11_canMove_32 : decode cX11_canMove 32 = .ok (.goto 4, 3) := by decide +kernel
theorem dX11_canMove_35 : decode cX11_canMove 35 = .ok (.iconst 0, 1) := by decide +kernel
theorem dX11_canMove_36 : decode cX11_canMove 36 = .ok (.ireturn, 1) := by decide +kernel
theorem dX11_moveNow_0 : decode cX11_moveNow 0 = .ok (.aload_n 0, 1) := by decide +kernel
theorem dX11_moveNow_1 : decode cX11_moveNow 1 = .ok (.iload_n 1, 1) := by decide +kernel
theorem dX11_moveNow_2 : decode cX11_moveNow 2 = .ok (.invokevirtual 213, 3) := by decide +kernel
theorem dX11_moveNow_5 : decode cX11_moveNow 5 = .ok (.ifCond .eq 11, 3) := by decide +kernel
theorem dX11_moveNow_8 : decode cX11_moveNow 8 = .ok (.aload_n 0, 1) := by decide +kernel
theorem dX11_moveNow_9 : decode cX11_moveNow 9 = .ok (.iload_n 2, 1) := by decide +kernel
theorem dX11_moveNow_10 : decode cX11_moveNow 10 = .ok (.invokevirtual 198, 3) := by decide +kernel
theorem dX11_moveNow_13 : decode cX11_moveNow 13 = .ok (.ifCond .ne 6, 3) := by decide +kernel
theorem dX11_moveNow_16 : decode cX11_moveNow 16 = .ok (.bipush (-2), 2) := by decide +kernel
theorem dX11_moveNow_18 : decode cX11_moveNow 18 = .ok (.ireturn, 1) := by decide +kernel
theorem dX11_moveNow_19 : decode cX11_moveNow 19 = .ok (.aload_n 0, 1) := by decide +kernel
theorem dX11_moveNow_20 : decode cX11_moveNow 20 = .ok (.iload_n 1, 1) := by decide +kernel
theorem dX11_moveNow_21 : decode cX11_moveNow 21 = .ok (.iload_n 2, 1) := by decide +kernel
theorem dX11_moveNow_22 : decode cX11_moveNow 22 = .ok (.invokevirtual 448, 3) := by decide +kernel
theorem dX11_moveNow_25 : decode cX11_moveNow 25 = .ok (.ifCond .ne 6, 3) := by decide +kernel
theorem dX11_moveNow_28 : decode cX11_moveNow 28 = .ok (.bipush (-3), 2) := by decide +kernel
theorem dX11_moveNow_30 : decode cX11_moveNow 30 = .ok (.ireturn, 1) := by decide +kernel
theorem dX11_moveNow_31 : decode cX11_moveNow 31 = .ok (.aload_n 0, 1) := by decide +kernel
theorem dX11_moveNow_32 : decode cX11_moveNow 32 = .ok (.iload_n 1, 1) := by decide +kernel
theorem dX11_moveNow_33 : decode cX11_moveNow 33 = .ok (.iload_n 2, 1) := by decide +kernel
theorem dX11_moveNow_34 : decode cX11_moveNow 34 = .ok (.invokevirtual 445, 3) := by decide +kernel
theorem dX11_moveNow_37 : decode cX11_moveNow 37 = .ok (.istore_n 3, 1) := by decide +kernel
theorem dX11_moveNow_38 : decode cX11_moveNow 38 = .ok (.aload_n 0, 1) := by decide +kernel
theorem dX11_moveNow_39 : decode cX11_moveNow 39 = .ok (.iconst 0, 1) := by decide +kernel
theorem dX11_moveNow_40 : decode cX11_moveNow 40 = .ok (.invokevirtual 451, 3) := by decide +kernel
theorem dX11_moveNow_43 : decode cX11_moveNow 43 = .ok (.aload_n 0, 1) := by decide +kernel
theorem dX11_moveNow_44 : decode cX11_moveNow 44 = .ok (.getfield 13, 3) := by decide +kernel
theorem dX11_moveNow_47 : decode cX11_moveNow 47 = .ok (.bipush 17, 2) := by decide +kernel
theorem dX11_moveNow_49 : decode cX11_moveNow 49 = .ok (.iload_n 1, 1) := by decide +kernel
theorem dX11_moveNow_50 : decode cX11_moveNow 50 = .ok (.iadd, 1) := by decide +kernel
theorem dX11_moveNow_51 : decode cX11_moveNow 51 = .ok (.iconst 1, 1) := by decide +kernel
theorem dX11_moveNow_52 : decode cX11_moveNow 52 = .ok (.iastore, 1) := by decide +kernel
theorem dX11_moveNow_53 : decode cX11_moveNow 53 = .ok (.iload_n 3, 1) := by decide +kernel
theorem dX11_moveNow_54 : decode cX11_moveNow 54 = .ok (.ireturn, 1) := by decide +kernel
theorem dX11_move_0 : decode cX11_move 0 = .ok (.aload_n 0, 1) := by decide +kernel
theorem dX11_move_1 : decode cX11_move 1 = .ok (.iconst 0, 1) := by decide +kernel
theorem dX11_move_2 : decode cX11_move 2 = .ok (.putfield 152, 3) := by decide +kernel
theorem dX11_move_5 : decode cX11_move 5 = .ok (.aload_n 0, 1) := by decide +kernel
theorem dX11_move_6 : decode cX11_move 6 = .ok (.aload_n 0, 1) := by decide +kernel
theorem dX11_move_7 : decode cX11_move 7 = .ok (.iload_n 1, 1) := by decide +kernel
theorem dX11_move_8 : decode cX11_move 8 = .ok (.iload_n 2, 1) := by decide +kernel
theorem dX11_move_9 : decode cX11_move 9 = .ok (.invokevirtual 454, 3) := by decide +kernel
theorem dX11_move_12 : decode cX11_move 12 = .ok (.invokevirtual 161, 3) := by decide +kernel
theorem dX11_move_15 : decode cX11_move 15 = .ok (.ireturn, 1) := by decide +kernel
theorem dX11_divideNow_0 : decode cX11_divideNow 0 = .ok (.aload_n 0, 1) := by decide +kernel
theorem dX11_divideNow_1 : decode cX11_divideNow 1 = .ok (.iload_n 1, 1) := by decide +kernel
theorem dX11_divideNow_2 : decode cX11_divideNow 2 = .ok (.invokevirtual 213, 3) := by decide +kernel
theorem dX11_divideNow_5 : decode cX11_divideNow 5 = .ok (.ifCond .ne 6, 3) := by decide +kernel
theorem dX11_divideNow_8 : decode cX11_divideNow 8 = .ok (.bipush (-2), 2) := by decide +kernel
theorem dX11_divideNow_10 : decode cX11_divideNow 10 = .ok (.ireturn, 1) := by decide +kernel
theorem dX11_divideNow_11 : decode cX11_divideNow 11 = .ok (.aload_n 0, 1) := by decide +kernel
theorem dX11_divideNow_12 : decode cX11_divideNow 12 = .ok (.iload_n 1, 1) := by decide +kernel
theorem dX11_divideNow_13 : decode cX11_divideNow 13 = .ok (.invokevirtual 234, 3) := by decide +kernel
theorem dX11_divideNow_16 : decode cX11_divideNow 16 = .ok (.ifCond .ne 6, 3) := by decide +kernel
theorem dX11_divideNow_19 : decode cX11_divideNow 19 = .ok (.bipush (-3), 2) := by decide +kernel
theorem dX11_divideNow_21 : decode cX11_divideNow 21 = .ok (.ireturn, 1) := by decide +kernel
theorem dX11_divideNow_22 : decode cX11_divideNow 22 = .ok (.aload_n 0, 1) := by decide +kernel
theorem dX11_divideNow_23 : decode cX11_divideNow 23 = .ok (.iload_n 1, 1) := by decide +kernel
theorem dX11_divideNow_24 : decode cX11_divideNow 24 = .ok (.invokevirtual 231, 3) := by decide +kernel
theorem dX11_divideNow_27 : decode cX11_divideNow 27 = .ok (.invokestatic 439, 3) := by decide +kernel
theorem dX11_divideNow_30 : decode cX11_divideNow 30 = .ok (.istore_n 2, 1) := by decide +kernel
theorem dX11_divideNow_31 : decode cX11_divideNow 31 = .ok (.aload_n 0, 1) := by decide +kernel
theorem dX11_divideNow_32 : decode cX11_divideNow 32 = .ok (.iconst 1, 1) := by decide +kernel
theorem dX11_divideNow_33 : decode cX11_divideNow 33 = .ok (.invokevirtual 451, 3) := by decide +kernel
theorem dX11_divideNow_36 : decode cX11_divideNow 36 = .ok (.aload_n 0, 1) := by decide +kernel
theorem dX11_divideNow_37 : decode cX11_divideNow 37 = .ok (.iload_n 1, 1) := by decide +kernel
theorem dX11_divideNow_38 : decode cX11_divideNow 38 = .ok (.invokevirtual 457, 3) := by decide +kernel
theorem dX11_divideNow_41 : decode cX11_divideNow 41 = .ok (.iload_n 2, 1) := by decide +kernel
theorem dX11_divideNow_42 : decode cX11_divideNow 42 = .ok (.ireturn, 1) := by decide +kernel
theorem dX11_divide_0 : decode cX11_divide 0 = .ok (.aload_n 0, 1) := by decide +kernel
theorem dX11_divide_1 : decode cX11_divide 1 = .ok (.iconst 0, 1) := by decide +kernel
theorem dX11_divide_2 : decode cX11_divide 2 = .ok (.putfield 152, 3) := by decide +kernel
theorem dX11_divide_5 : decode cX11_divide 5 = .ok (.aload_n 0, 1) := by decide +kernel
theorem dX11_divide_6 : decode cX11_divide 6 = .ok (.aload_n 0, 1) := by decide +kernel
theorem dX11_divide_7 : decode cX11_divide 7 = .ok (.iload_n 1, 1) := by decide +kernel
theorem dX11_divide_8 : decode cX11_divide 8 = .ok (.invokevirtual 460, 3) := by decide +kernel
theorem dX11_divide_11 : decode cX11_divide 11 = .ok (.invokevirtual 161, 3) := by decide +kernel
theorem dX11_divide_14 : decode cX11_divide 14 = .ok (.ireturn, 1) := by decide +kernel
theorem dX11_flyNow_0 : decode cX11_flyNow 0 = .ok (.iload_n 2, 1) := by decide +kernel
theorem dX11_flyNow_1 : decode cX11_flyNow 1 = .ok (.invokestatic 187, 3) := by decide +kernel
theorem dX11_flyNow_4 : decode cX11_flyNow 4 = .ok (.ifCond .ne 5, 3) := by decide +kernel
theorem dX11_flyNow_7 : decode cX11_flyNow 7 = .ok (.iconst (-1), 1) := by decide +kernel
theorem dX11_flyNow_8 : decode cX11_flyNow 8 = .ok (.ireturn, 1) := by decide +kernel
theorem dX11_flyNow_9 : decode cX11_flyNow 9 = .ok (.aload_n 0, 1) := by decide +kernel
theorem dX11_flyNow_10 : decode cX11_flyNow 10 = .ok (.iload_n 1, 1) := by decide +kernel
theorem dX11_flyNow_11 : decode cX11_flyNow 11 = .ok (.invokevirtual 198, 3) := by decide +kernel
theorem dX11_flyNow_14 : decode cX11_flyNow 14 = .ok (.ifCond .ne 6, 3) := by decide +kernel
theorem dX11_flyNow_17 : decode cX11_flyNow 17 = .ok (.bipush (-2), 2) := by decide +kernel
theorem dX11_flyNow_19 : decode cX11_flyNow 19 = .ok (.ireturn, 1) := by decide +kernel
theorem dX11_flyNow_20 : decode cX11_flyNow 20 = .ok (.aload_n 0, 1) := by decide +kernel
theorem dX11_flyNow_21 : decode cX11_flyNow 21 = .ok (.getfield 13, 3) := by decide +kernel
theorem dX11_flyNow_24 : decode cX11_flyNow 24 = .ok (.bipush 10, 2) := by decide +kernel
theorem dX11_flyNow_26 : decode cX11_flyNow 26 = .ok (.iload_n 1, 1) := by decide +kernel
theorem dX11_flyNow_27 : decode cX11_flyNow 27 = .ok (.iadd, 1) := by decide +kernel
theorem dX11_flyNow_28 : decode cX11_flyNow 28 = .ok (.iaload, 1) := by decide +kernel
theorem dX11_flyNow_29 : decode cX11_flyNow 29 = .ok (.istore_n 3, 1) := by decide +kernel
theorem dX11_flyNow_30 : decode cX11_flyNow 30 = .ok (.iload_n 3, 1) := by decide +kernel
theorem dX11_flyNow_31 : decode cX11_flyNow 31 = .ok (.iload_n 2, 1) := by decide +kernel
theorem dX11_flyNow_32 : decode cX11_flyNow 32 = .ok (.if_icmp .ne 6, 3) := by decide +kernel
theorem dX11_flyNow_35 : decode cX11_flyNow 35 = .ok (.bipush (-3), 2) := by decide +kernel
theorem dX11_flyNow_37 : decode cX11_flyNow 37 = .ok (.ireturn, 1) := by decide +kernel
theorem dX11_flyNow_38 : decode cX11_flyNow 38 = .ok (.aload_n 0, 1) := by decide +kernel
theorem dX11_flyNow_39 : decode cX11_flyNow 39 = .ok (.iconst 2, 1) := by decide +kernel
theorem dX11_flyNow_40 : decode cX11_flyNow 40 = .ok (.invokevirtual 451, 3) := by decide +kernel
theorem dX11_flyNow_43 : decode cX11_flyNow 43 = .ok (.aload_n 0, 1) := by decide +kernel
theorem dX11_flyNow_44 : decode cX11_flyNow 44 = .ok (.getfield 13, 3) := by decide +kernel
theorem dX11_flyNow_47 : decode cX11_flyNow 47 = .ok (.bipush 10, 2) := by decide +kernel
theorem dX11_flyNow_49 : decode cX11_flyNow 49 = .ok (.iload_n 1, 1) := by decide +kernel
theorem dX11_flyNow_50 : decode cX11_flyNow 50 = .ok (.iadd, 1) := by decide +kernel
theorem dX11_flyNow_51 : decode cX11_flyNow 51 = .ok (.iload_n 2, 1) := by decide +kernel
theorem dX11_flyNow_52 : decode cX11_flyNow 52 = .ok (.iastore, 1) := by decide +kernel
theorem dX11_flyNow_53 : decode cX11_flyNow 53 = .ok (.iload_n 3, 1) := by decide +kernel
theorem dX11_flyNow_54 : decode cX11_flyNow 54 = .ok (.iconst (-1), 1) := by decide +kernel
theorem dX11_flyNow_55 : decode cX11_flyNow 55 = .ok (.if_icmp .ne 8, 3) := by decide +kernel
theorem dX11_flyNow_58 : decode cX11_flyNow 58 = .ok (.bipush 20, 2) := by decide +kernel
theorem dX11_flyNow_60 : decode cX11_flyNow 60 = .ok (.goto 4, 3) := by decide +kernel
theorem dX11_flyNow_63 : decode cX11_flyNow 63 = .ok (.iload_n 3, 1) := by decide +kernel
theorem dX11_flyNow_64 : decode cX11_flyNow 64 = .ok (.ireturn, 1) := by decide +kernel
theorem dX11_fly_0 : decode cX11_fly 0 = .ok (.aload_n 0, 1) := by decide +kernel
theorem dX11_fly_1 : decode cX11_fly 1 = .ok (.iconst 0, 1) := by decide +kernel
theorem dX11_fly_2 : decode cX11_fly 2 = .ok (.putfield 152, 3) := by decide +kernel
theorem dX11_fly_5 : decode cX11_fly 5 = .ok (.aload_n 0, 1) := by decide +kernel
theorem dX11_fly_6 : decode cX11_fly 6 = .ok (.aload_n 0, 1) := by decide +kernel
theorem dX11_fly_7 : decode cX11_fly 7 = .ok (.iload_n 1, 1) := by decide +kernel
theorem dX11_fly_8 : decode cX11_fly 8 = .ok (.iload_n 2, 1) := by decide +kernel
theorem dX11_fly_9 : decode cX11_fly 9 = .ok (.invokevirtual 463, 3) := by decide +kernel
theorem dX11_fly_12 : decode cX11_fly 12 = .ok (.invokevirtual 161, 3) := by decide +kernel
theorem dX11_fly_15 : decode cX11_fly 15 = .ok (.ireturn, 1) := by decide +kernel
theorem dX11_passIt_0 : decode cX11_passIt 0 = .ok (.iconst 0, 1) := by decide +kernel
theorem dX11_passIt_1 : decode cX11_passIt 1 = .ok (.istore_n 1, 1) := by decide +kernel
theorem dX11_passIt_2 : decode cX11_passIt 2 = .ok (.iconst 0, 1) := by decide +kernel
theorem dX11_passIt_3 : decode cX11_passIt 3 = .ok (.istore_n 2, 1) := by decide +kernel
theorem dX11_passIt_4 : decode cX11_passIt 4 = .ok (.iload_n 2, 1) := by decide +kernel
theorem dX11_passIt_5 : decode cX11_passIt 5 = .ok (.aload_n 0, 1) := by decide +kernel
theorem dX11_passIt_6 : decode cX11_passIt 6 = .ok (.getfield 13, 3) := by decide +kernel
theorem dX11_passIt_9 : decode cX11_passIt 9 = .ok (.iconst 1, 1) := by decide +kernel
theorem dX11_passIt_10 : decode cX11_passIt 10 = .ok (.iaload, 1) := by decide +kernel
theorem dX11_passIt_11 : decode cX11_passIt 11 = .ok (.if_icmp .ge 56, 3) := by decide +kernel
theorem dX11_passIt_14 : decode cX11_passIt 14 = .ok (.aload_n 0, 1) := by decide +kernel
theorem dX11_passIt_15 : decode cX11_passIt 15 = .ok (.getfield 13, 3) := by decide +kernel
theorem dX11_passIt_18 : decode cX11_passIt 18 = .ok (.bipush 17, 2) := by decide +kernel
theorem dX11_passIt_20 : decode cX11_passIt 20 = .ok (.iload_n 2, 1) := by decide +kernel
theorem dX11_passIt_21 : decode cX11_passIt 21 = .ok (.iadd, 1) := by decide +kernel
theorem dX11_passIt_22 : decode cX11_passIt 22 = .ok (.aload_n 0, 1) := by decide +kernel
theorem dX11_passIt_23 : decode cX11_passIt 23 = .ok (.getfield 13, 3) := by decide +kernel
theorem dX11_passIt_26 : decode cX11_passIt 26 = .ok (.bipush 17, 2) := by decide +kernel
theorem dX11_passIt_28 : decode cX11_passIt 28 = .ok (.iload_n 2, 1) := by decide +kernel
theorem dX11_passIt_29 : decode cX11_passIt 29 = .ok (.iadd, 1) := by decide +kernel
theorem dX11_passIt_30 : decode cX11_passIt 30 = .ok (.iaload, 1) := by decide +kernel
theorem dX11_passIt_31 : decode cX11_passIt 31 = .ok (.iconst 2, 1) := by decide +kernel
theorem dX11_passIt_32 : decode cX11_passIt 32 = .ok (.if_icmp .ne 7, 3) := by decide +kernel
theorem dX11_passIt_35 : decode cX11_passIt 35 = .ok (.iconst 2, 1) := by decide +kernel
theorem dX11_passIt_36 : decode cX11_passIt 36 = .ok (.goto 4, 3) := by decide +kernel
theorem dX11_passIt_39 : decode cX11_passIt 39 = .ok (.iconst 0, 1) := by decide +kernel
theorem dX11_passIt_40 : decode cX11_passIt 40 = .ok (.iastore, 1) := by decide +kernel
theorem dX11_passIt_41 : decode cX11_passIt 41 = .ok (.iload_n 1, 1) := by decide +kernel
theorem dX11_passIt_42 : decode cX11_passIt 42 = .ok (.aload_n 0, 1) := by decide +kernel
theorem dX11_passIt_43 : decode cX11_passIt 43 = .ok (.getfield 13, 3) := by decide +kernel
theorem dX11_passIt_46 : decode cX11_passIt 46 = .ok (.bipush 17, 2) := by decide +kernel
theorem dX11_passIt_48 : decode cX11_passIt 48 = .ok (.iload_n 2, 1) := by decide +kernel
theorem dX11_passIt_49 : decode cX11_passIt 49 = .ok (.iadd, 1) := by decide +kernel
theorem dX11_passIt_50 : decode cX11_passIt 50 = .ok (.iaload, 1) := by decide +kernel
theorem dX11_passIt_51 : decode cX11_passIt 51 = .ok (.ifCond .ne 7, 3) := by decide +kernel
theorem dX11_passIt_54 : decode cX11_passIt 54 = .ok (.iconst 1, 1) := by decide +kernel
theorem dX11_passIt_55 : decode cX11_passIt 55 = .ok (.goto 4, 3) := by decide +kernel
theorem dX11_passIt_58 : decode cX11_passIt 58 = .ok (.iconst 0, 1) := by decide +kernel
theorem dX11_passIt_59 : decode cX11_passIt 59 = .ok (.iadd, 1) := by decide +kernel
theorem dX11_passIt_60 : decode cX11_passIt 60 = .ok (.istore_n 1, 1) := by decide +kernel
theorem dX11_passIt_61 : decode cX11_passIt 61 = .ok (.iinc 2 1, 3) := by decide +kernel
theorem dX11_passIt_64 : decode cX11_passIt 64 = .ok (.goto (-60), 3) := by decide +kernel
theorem dX11_passIt_67 : decode cX11_passIt 67 = .ok (.aload_n 0, 1) := by decide +kernel
theorem dX11_passIt_68 : decode cX11_passIt 68 = .ok (.getfield 13, 3) := by decide +kernel
theorem dX11_passIt_71 : decode cX11_passIt 71 = .ok (.bipush 9, 2) := by decide +kernel
theorem dX11_passIt_73 : decode cX11_passIt 73 = .ok (.iconst 0, 1) := by decide +kernel
theorem dX11_passIt_74 : decode cX11_passIt 74 = .ok (.iastore, 1) := by decide +kernel
theorem dX11_passIt_75 : decode cX11_passIt 75 = .ok (.aload_n 0, 1) := by decide +kernel
theorem dX11_passIt_76 : decode cX11_passIt 76 = .ok (.getfield 13, 3) := by decide +kernel
theorem dX11_passIt_79 : decode cX11_passIt 79 = .ok (.iconst 5, 1) := by decide +kernel
theorem dX11_passIt_80 : decode cX11_passIt 80 = .ok (.dup2, 1) := by decide +kernel
theorem dX11_passIt_81 : decode cX11_passIt 81 = .ok (.iaload, 1) := by decide +kernel
theorem dX11_passIt_82 : decode cX11_passIt 82 = .ok (.iconst 1, 1) := by decide +kernel
theorem dX11_passIt_83 : decode cX11_passIt 83 = .ok (.iadd, 1) := by decide +kernel
theorem dX11_passIt_84 : decode cX11_passIt 84 = .ok (.iastore, 1) := by decide +kernel
theorem dX11_passIt_85 : decode cX11_passIt 85 = .ok (.iload_n 1, 1) := by decide +kernel
theorem dX11_passIt_86 : decode cX11_passIt 86 = .ok (.ireturn, 1) := by decide +kernel
theorem dX11_passNow_0 : decode cX11_passNow 0 = .ok (.aload_n 0, 1) := by decide +kernel
theorem dX11_passNow_1 : decode cX11_passNow 1 = .ok (.getfield 13, 3) := by decide +kernel
theorem dX11_passNow_4 : decode cX11_passNow 4 = .ok (.iconst 5, 1) := by decide +kernel
theorem dX11_passNow_5 : decode cX11_passNow 5 = .ok (.iaload, 1) := by decide +kernel
theorem dX11_passNow_6 : decode cX11_passNow 6 = .ok (.sipush 999, 3) := by decide +kernel
theorem dX11_passNow_9 : decode cX11_passNow 9 = .ok (.if_icmp .ne 6, 3) := by decide +kernel
theorem dX11_passNow_12 : decode cX11_passNow 12 = .ok (.bipush (-3), 2) := by decide +kernel
theorem dX11_passNow_14 : decode cX11_passNow 14 = .ok (.ireturn, 1) := by decide +kernel
theorem dX11_passNow_15 : decode cX11_passNow 15 = .ok (.aload_n 0, 1) := by decide +kernel
theorem dX11_passNow_16 : decode cX11_passNow 16 = .ok (.iconst 3, 1) := by decide +kernel
theorem dX11_passNow_17 : decode cX11_passNow 17 = .ok (.invokevirtual 451, 3) := by decide +kernel
theorem dX11_passNow_20 : decode cX11_passNow 20 = .ok (.aload_n 0, 1) := by decide +kernel
theorem dX11_passNow_21 : decode cX11_passNow 21 = .ok (.invokevirtual 466, 3) := by decide +kernel
theorem dX11_passNow_24 : decode cX11_passNow 24 = .ok (.ireturn, 1) := by decide +kernel
theorem dX11_pass_0 : decode cX11_pass 0 = .ok (.aload_n 0, 1) := by decide +kernel
theorem dX11_pass_1 : decode cX11_pass 1 = .ok (.iconst 0, 1) := by decide +kernel
theorem dX11_pass_2 : decode cX11_pass 2 = .ok (.putfield 152, 3) := by decide +kernel
theorem dX11_pass_5 : decode cX11_pass 5 = .ok (.aload_n 0, 1) := by decide +kernel
theorem dX11_pass_6 : decode cX11_pass 6 = .ok (.aload_n 0, 1) := by decide +kernel
theorem dX11_pass_7 : decode cX11_pass 7 = .ok (.invokevirtual 469, 3) := by decide +kernel
theorem dX11_pass_10 : decode cX11_pass 10 = .ok (.invokevirtual 161, 3) := by decide +kernel
theorem dX11_pass_13 : decode cX11_pass 13 = .ok (.ireturn, 1) := by decide +kernel
theorem dX11_second_0 : decode cX11_second 0 = .ok (.aload_n 0, 1) := by decide +kernel
theorem dX11_second_1 : decode cX11_second 1 = .ok (.iconst 0, 1) := by decide +kernel
theorem dX11_second_2 : decode cX11_second 2 = .ok (.putfield 152, 3) := by decide +kernel
theorem dX11_second_5 : decode cX11_second 5 = .ok (.aload_n 0, 1) := by decide +kernel
theorem dX11_second_6 : decode cX11_second 6 = .ok (.iload_n 1, 1) := by decide +kernel
theorem dX11_second_7 : decode cX11_second 7 = .ok (.invokevirtual 213, 3) := by decide +kernel
theorem dX11_second_10 : decode cX11_second 10 = .ok (.ifCond .eq 20, 3) := by decide +kernel
theorem dX11_second_13 : decode cX11_second 13 = .ok (.aload_n 0, 1) := by decide +kernel
theorem dX11_second_14 : decode cX11_second 14 = .ok (.iload_n 2, 1) := by decide +kernel
theorem dX11_second_15 : decode cX11_second 15 = .ok (.invokevirtual 198, 3) := by decide +kernel
theorem dX11_second_18 : decode cX11_second 18 = .ok (.ifCond .eq 12, 3) := by decide +kernel
theorem dX11_second_21 : decode cX11_second 21 = .ok (.aload_n 0, 1) := by decide +kernel
theorem dX11_second_22 : decode cX11_second 22 = .ok (.iload_n 1, 1) := by decide +kernel
theorem dX11_second_23 : decode cX11_second 23 = .ok (.iload_n 2, 1) := by decide +kernel
theorem dX11_second_24 : decode cX11_second 24 = .ok (.invokevirtual 445, 3) := by decide +kernel
theorem dX11_second_27 : decode cX11_second 27 = .ok (.goto 4, 3) := by decide +kernel
theorem dX11_second_30 : decode cX11_second 30 = .ok (.iconst (-1), 1) := by decide +kernel
theorem dX11_second_31 : decode cX11_second 31 = .ok (.ireturn, 1) := by decide +kernel
theorem dX11_isNew_0 : decode cX11_isNew 0 = .ok (.iconst 1, 1) := by decide +kernel
theorem dX11_isNew_1 : decode cX11_isNew 1 = .ok (.istore_n 2, 1) := by decide +kernel
theorem dX11_isNew_2 : decode cX11_isNew 2 = .ok (.iconst 0, 1) := by decide +kernel
theorem dX11_isNew_3 : decode cX11_isNew 3 = .ok (.istore_n 3, 1) := by decide +kernel
theorem dX11_isNew_4 : decode cX11_isNew 4 = .ok (.iload_n 3, 1) := by decide +kernel
theorem dX11_isNew_5 : decode cX11_isNew 5 = .ok (.iload_n 1, 1) := by decide +kernel
theorem dX11_isNew_6 : decode cX11_isNew 6 = .ok (.if_icmp .ge 34, 3) := by decide +kernel
theorem dX11_isNew_9 : decode cX11_isNew 9 = .ok (.iload_n 2, 1) := by decide +kernel
theorem dX11_isNew_10 : decode cX11_isNew 10 = .ok (.ifCond .eq 22, 3) := by decide +kernel
theorem dX11_isNew_13 : decode cX11_isNew 13 = .ok (.aload_n 0, 1) := by decide +kernel
theorem dX11_isNew_14 : decode cX11_isNew 14 = .ok (.getfield 108, 3) := by decide +kernel
theorem dX11_isNew_17 : decode cX11_isNew 17 = .ok (.iload_n 3, 1) := by decide +kernel
theorem dX11_isNew_18 : decode cX11_isNew 18 = .ok (.iaload, 1) := by decide +kernel
theorem dX11_isNew_19 : decode cX11_isNew 19 = .ok (.aload_n 0, 1) := by decide +kernel
theorem dX11_isNew_20 : decode cX11_isNew 20 = .ok (.getfield 108, 3) := by decide +kernel
theorem dX11_isNew_23 : decode cX11_isNew 23 = .ok (.iload_n 1, 1) := by decide +kernel
theorem dX11_isNew_24 : decode cX11_isNew 24 = .ok (.iaload, 1) := by decide +kernel
theorem dX11_isNew_25 : decode cX11_isNew 25 = .ok (.if_icmp .eq 7, 3) := by decide +kernel
theorem dX11_isNew_28 : decode cX11_isNew 28 = .ok (.iconst 1, 1) := by decide +kernel
theorem dX11_isNew_29 : decode cX11_isNew 29 = .ok (.goto 4, 3) := by decide +kernel
theorem dX11_isNew_32 : decode cX11_isNew 32 = .ok (.iconst 0, 1) := by decide +kernel
theorem dX11_isNew_33 : decode cX11_isNew 33 = .ok (.istore_n 2, 1) := by decide +kernel
theorem dX11_isNew_34 : decode cX11_isNew 34 = .ok (.iinc 3 1, 3) := by decide +kernel
theorem dX11_isNew_37 : decode cX11_isNew 37 = .ok (.goto (-33), 3) := by decide +kernel
theorem dX11_isNew_40 : decode cX11_isNew 40 = .ok (.iload_n 2, 1) := by decide +kernel
theorem dX11_isNew_41 : decode cX11_isNew 41 = .ok (.ireturn, 1) := by decide +kernel
theorem dX11_findRichest_0 : decode cX11_findRichest 0 = .ok (.aload_n 0, 1) := by decide +kernel
theorem dX11_findRichest_1 : decode cX11_findRichest 1 = .ok (.getfield 13, 3) := by decide +kernel
theorem dX11_findRichest_4 : decode cX11_findRichest 4 = .ok (.bipush 9, 2) := by decide +kernel
theorem dX11_findRichest_6 : decode cX11_findRichest 6 = .ok (.iaload, 1) := by decide +kernel
theorem dX11_findRichest_7 : decode cX11_findRichest 7 = .ok (.istore_n 1, 1) := by decide +kernel
theorem dX11_findRichest_8 : decode cX11_findRichest 8 = .ok (.iconst 0, 1) := by decide +kernel
theorem dX11_findRichest_9 : decode cX11_findRichest 9 = .ok (.istore_n 2, 1) := by decide +kernel
theorem dX11_findRichest_10 : decode cX11_findRichest 10 = .ok (.aload_n 0, 1) := by decide +kernel
theorem dX11_findRichest_11 : decode cX11_findRichest 11 = .ok (.iconst 0, 1) := by decide +kernel
theorem dX11_findRichest_12 : decode cX11_findRichest 12 = .ok (.putfield 472, 3) := by decide +kernel
theorem dX11_findRichest_15 : decode cX11_findRichest 15 = .ok (.iconst 0, 1) := by decide +kernel
theorem dX11_findRichest_16 : decode cX11_findRichest 16 = .ok (.istore_n 3, 1) := by decide +kernel
theorem dX11_findRichest_17 : decode cX11_findRichest 17 = .ok (.aload_n 0, 1) := by decide +kernel
theorem dX11_findRichest_18 : decode cX11_findRichest 18 = .ok (.getfield 108, 3) := by decide +kernel
theorem dX11_findRichest_21 : decode cX11_findRichest 21 = .ok (.iconst 0, 1) := by decide +kernel
theorem dX11_findRichest_22 : decode cX11_findRichest 22 = .ok (.iconst (-1), 1) := by decide +kernel
theorem dX11_findRichest_23 : decode cX11_findRichest 23 = .ok (.iastore, 1) := by decide +kernel
theorem dX11_findRichest_24 : decode cX11_findRichest 24 = .ok (.aload_n 0, 1) := by decide +kernel
theorem dX11_findRichest_25 : decode cX11_findRichest 25 = .ok (.getfield 111, 3) := by decide +kernel
theorem dX11_findRichest_28 : decode cX11_findRichest 28 = .ok (.iconst 0, 1) := by decide +kernel
theorem dX11_findRichest_29 : decode cX11_findRichest 29 = .ok (.iload_n 1, 1) := by decide +kernel
theorem dX11_findRichest_30 : decode cX11_findRichest 30 = .ok (.iastore, 1) := by decide +kernel
theorem dX11_findRichest_31 : decode cX11_findRichest 31 = .ok (.aload_n 0, 1) := by decide +kernel
theorem dX11_findRichest_32 : decode cX11_findRichest 32 = .ok (.getfield 114, 3) := by decide +kernel
theorem dX11_findRichest_35 : decode cX11_findRichest 35 = .ok (.iconst 0, 1) := by decide +kernel
theorem dX11_findRichest_36 : decode cX11_findRichest 36 = .ok (.iconst 0, 1) := by decide +kernel
theorem dX11_findRichest_37 : decode cX11_findRichest 37 = .ok (.iastore, 1) := by decide +kernel
theorem dX11_findRichest_38 : decode cX11_findRichest 38 = .ok (.iload_n 3, 1) := by decide +kernel
theorem dX11_findRichest_39 : decode cX11_findRichest 39 = .ok (.ifCond .lt 242, 3) := by decide +kernel
theorem dX11_findRichest_42 : decode cX11_findRichest 42 = .ok (.aload_n 0, 1) := by decide +kernel
theorem dX11_findRichest_43 : decode cX11_findRichest 43 = .ok (.getfield 108, 3) := by decide +kernel
theorem dX11_findRichest_46 : decode cX11_findRichest 46 = .ok (.iload_n 3, 1) := by decide +kernel
theorem dX11_findRichest_47 : decode cX11_findRichest 47 = .ok (.dup2, 1) := by decide +kernel
theorem dX11_findRichest_48 : decode cX11_findRichest 48 = .ok (.iaload, 1) := by decide +kernel
theorem dX11_findRichest_49 : decode cX11_findRichest 49 = .ok (.iconst 1, 1) := by decide +kernel
theorem dX11_findRichest_50 : decode cX11_findRichest 50 = .ok (.iadd, 1) := by decide +kernel
theorem dX11_findRichest_51 : decode cX11_findRichest 51 = .ok (.iastore, 1) := by decide +kernel
theorem dX11_findRichest_52 : decode cX11_findRichest 52 = .ok (.aload_n 0, 1) := by decide +kernel
theorem dX11_findRichest_53 : decode cX11_findRichest 53 = .ok (.getfield 13, 3) := by decide +kernel
theorem dX11_findRichest_56 : decode cX11_findRichest 56 = .ok (.bipush 9, 2) := by decide +kernel
theorem dX11_findRichest_58 : decode cX11_findRichest 58 = .ok (.aload_n 0, 1) := by decide +kernel
theorem dX11_findRichest_59 : decode cX11_findRichest 59 = .ok (.getfield 111, 3) := by decide +kernel
theorem dX11_findRichest_62 : decode cX11_findRichest 62 = .ok (.iload_n 3, 1) := by decide +kernel
theorem dX11_findRichest_63 : decode cX11_findRichest 63 = .ok (.iaload, 1) := by decide +kernel
theorem dX11_findRichest_64 : decode cX11_findRichest 64 = .ok (.iastore, 1) := by decide +kernel
theorem dX11_findRichest_65 : decode cX11_findRichest 65 = .ok (.aload_n 0, 1) := by decide +kernel
theorem dX11_findRichest_66 : decode cX11_findRichest 66 = .ok (.getfield 108, 3) := by decide +kernel
theorem dX11_findRichest_69 : decode cX11_findRichest 69 = .ok (.iload_n 3, 1) := by decide +kernel
theorem dX11_findRichest_70 : decode cX11_findRichest 70 = .ok (.iaload, 1) := by decide +kernel
theorem dX11_findRichest_71 : decode cX11_findRichest 71 = .ok (.aload_n 0, 1) := by decide +kernel
theorem dX11_findRichest_72 : decode cX11_findRichest 72 = .ok (.getfield 13, 3) := by decide +kernel
theorem dX11_findRichest_75 : decode cX11_findRichest 75 = .ok (.iconst 1, 1) := by decide +kernel
theorem dX11_findRichest_76 : decode cX11_findRichest 76 = .ok (.iaload, 1) := by decide +kernel
theorem dX11_findRichest_77 : decode cX11_findRichest 77 = .ok (.if_icmp .lt 9, 3) := by decide +kernel
theorem dX11_findRichest_80 : decode cX11_findRichest 80 = .ok (.iinc 3 (-1), 3) := by decide +kernel
theorem dX11_findRichest_83 : decode cX11_findRichest 83 = .ok (.goto (-45), 3) := by decide +kernel
theorem dX11_findRichest_86 : decode cX11_findRichest 86 = .ok (.aload_n 0, 1) := by decide +kernel
theorem dX11_findRichest_87 : decode cX11_findRichest 87 = .ok (.iload_n 3, 1) := by decide +kernel
theorem dX11_findRichest_88 : decode cX11_findRichest 88 = .ok (.invokevirtual 475, 3) := by decide +kernel
theorem dX11_findRichest_91 : decode cX11_findRichest 91 = .ok (.ifCond .eq (-53), 3) := by decide +kernel
theorem dX11_findRichest_94 : decode cX11_findRichest 94 = .ok (.aload_n 0, 1) := by decide +kernel
theorem dX11_findRichest_95 : decode cX11_findRichest 95 = .ok (.aload_n 0, 1) := by decide +kernel
theorem dX11_findRichest_96 : decode cX11_findRichest 96 = .ok (.getfield 108, 3) := by decide +kernel
theorem dX11_findRichest_99 : decode cX11_findRichest 99 = .ok (.iload_n 3, 1) := by decide +kernel
theorem dX11_findRichest_100 : decode cX11_findRichest 100 = .ok (.iaload, 1) := by decide +kernel
theorem dX11_findRichest_101 : decode cX11_findRichest 101 = .ok (.invokevirtual 234, 3) := by decide +kernel
theorem dX11_findRichest_104 : decode cX11_findRichest 104 = .ok (.ifCond .eq (-66), 3) := by decide +kernel
theorem dX11_findRichest_107 : decode cX11_findRichest 107 = .ok (.aload_n 0, 1) := by decide +kernel
theorem dX11_findRichest_108 : decode cX11_findRichest 108 = .ok (.getfield 108, 3) := by decide +kernel
theorem dX11_findRichest_111 : decode cX11_findRichest 111 = .ok (.iload_n 3, 1) := by decide +kernel
theorem dX11_findRichest_112 : decode cX11_findRichest 112 = .ok (.iaload, 1) := by decide +kernel
theorem dX11_findRichest_113 : decode cX11_findRichest 113 = .ok (.istore 4, 2) := by decide +kernel
theorem dX11_findRichest_115 : decode cX11_findRichest 115 = .ok (.aload_n 0, 1) := by decide +kernel
theorem dX11_findRichest_116 : decode cX11_findRichest 116 = .ok (.getfield 114, 3) := by decide +kernel
theorem dX11_findRichest_119 : decode cX11_findRichest 119 = .ok (.iload_n 3, 1) := by decide +kernel
theorem dX11_findRichest_120 : decode cX11_findRichest 120 = .ok (.iconst 1, 1) := by decide +kernel
theorem dX11_findRichest_121 : decode cX11_findRichest 121 = .ok (.iadd, 1) := by decide +kernel
theorem dX11_findRichest_122 : decode cX11_findRichest 122 = .ok (.aload_n 0, 1) := by decide +kernel
theorem dX11_findRichest_123 : decode cX11_findRichest 123 = .ok (.getfield 114, 3) := by decide +kernel
theorem dX11_findRichest_126 : decode cX11_findRichest 126 = .ok (.iload_n 3, 1) := by decide +kernel
theorem dX11_findRichest_127 : decode cX11_findRichest 127 = .ok (.iaload, 1) := by decide +kernel
theorem dX11_findRichest_128 : decode cX11_findRichest 128 = .ok (.aload_n 0, 1) := by decide +kernel
theorem dX11_findRichest_129 : decode cX11_findRichest 129 = .ok (.aload_n 0, 1) := by decide +kernel
theorem dX11_findRichest_130 : decode cX11_findRichest 130 = .ok (.iload 4, 2) := by decide +kernel
theorem dX11_findRichest_132 : decode cX11_findRichest 132 = .ok (.invokevirtual 228, 3) := by decide +kernel
theorem dX11_findRichest_135 : decode cX11_findRichest 135 = .ok (.aload_n 0, 1) := by decide +kernel
theorem dX11_findRichest_136 : decode cX11_findRichest 136 = .ok (.iload 4, 2) := by decide +kernel
theorem dX11_findRichest_138 : decode cX11_findRichest 138 = .ok (.invokevirtual 231, 3) := by decide +kernel
theorem dX11_findRichest_141 : decode cX11_findRichest 141 = .ok (.invokevirtual 442, 3) := by decide +kernel
theorem dX11_findRichest_144 : decode cX11_findRichest 144 = .ok (.ifCond .eq 16, 3) := by decide +kernel
theorem dX11_findRichest_147 : decode cX11_findRichest 147 = .ok (.aload_n 0, 1) := by decide +kernel
theorem dX11_findRichest_148 : decode cX11_findRichest 148 = .ok (.getfield 13, 3) := by decide +kernel
theorem dX11_findRichest_151 : decode cX11_findRichest 151 = .ok (.bipush 78, 2) := by decide +kernel
theorem dX11_findRichest_153 : decode cX11_findRichest 153 = .ok (.iload 4, 2) := by decide +kernel
theorem dX11_findRichest_155 : decode cX11_findRichest 155 = .ok (.iadd, 1) := by decide +kernel
theorem dX11_findRichest_156 : decode cX11_findRichest 156 = .ok (.iaload, 1) := by decide +kernel
theorem dX11_findRichest_157 : decode cX11_findRichest 157 = .ok (.goto 4, 3) := by decide +kernel
theorem dX11_findRichest_160 : decode cX11_findRichest 160 = .ok (.iconst 0, 1) := by decide +kernel
theorem dX11_findRichest_161 : decode cX11_findRichest 161 = .ok (.iadd, 1) := by decide +kernel
theorem dX11_findRichest_162 : decode cX11_findRichest 162 = .ok (.iastore, 1) := by decide +kernel
theorem dX11_findRichest_163 : decode cX11_findRichest 163 = .ok (.aload_n 0, 1) := by decide +kernel
theorem dX11_findRichest_164 : decode cX11_findRichest 164 = .ok (.getfield 111, 3) := by decide +kernel
theorem dX11_findRichest_167 : decode cX11_findRichest 167 = .ok (.iload_n 3, 1) := by decide +kernel
theorem dX11_findRichest_168 : decode cX11_findRichest 168 = .ok (.iconst 1, 1) := by decide +kernel
theorem dX11_findRichest_169 : decode cX11_findRichest 169 = .ok (.iadd, 1) := by decide +kernel
theorem dX11_findRichest_170 : decode cX11_findRichest 170 = .ok (.aload_n 0, 1) := by decide +kernel
theorem dX11_findRichest_171 : decode cX11_findRichest 171 = .ok (.getfield 111, 3) := by decide +kernel
theorem dX11_findRichest_174 : decode cX11_findRichest 174 = .ok (.iload_n 3, 1) := by decide +kernel
theorem dX11_findRichest_175 : decode cX11_findRichest 175 = .ok (.iaload, 1) := by decide +kernel
theorem dX11_findRichest_176 : decode cX11_findRichest 176 = .ok (.aload_n 0, 1) := by decide +kernel
theorem dX11_findRichest_177 : decode cX11_findRichest 177 = .ok (.iload 4, 2) := by decide +kernel
theorem dX11_findRichest_179 : decode cX11_findRichest 179 = .ok (.invokevirtual 225, 3) := by decide +kernel
theorem dX11_findRichest_182 : decode cX11_findRichest 182 = .ok (.iadd, 1) := by decide +kernel
theorem dX11_findRichest_183 : decode cX11_findRichest 183 = .ok (.iastore, 1) := by decide +kernel
theorem dX11_findRichest_184 : decode cX11_findRichest 184 = .ok (.iinc 3 1, 3) := by decide +kernel
theorem dX11_findRichest_187 : decode cX11_findRichest 187 = .ok (.aload_n 0, 1) := by decide +kernel
theorem dX11_findRichest_188 : decode cX11_findRichest 188 = .ok (.getfield 108, 3) := by decide +kernel
theorem dX11_findRichest_191 : decode cX11_findRichest 191 = .ok (.iload_n 3, 1) := by decide +kernel
theorem dX11_findRichest_192 : decode cX11_findRichest 192 = .ok (.iconst (-1), 1) := by decide +kernel
theorem dX11_findRichest_193 : decode cX11_findRichest 193 = .ok (.iastore, 1) := by decide +kernel
theorem dX11_findRichest_194 : decode cX11_findRichest 194 = .ok (.aload_n 0, 1) := by decide +kernel
theorem dX11_findRichest_195 : decode cX11_findRichest 195 = .ok (.getfield 114, 3) := by decide +kernel
theorem dX11_findRichest_198 : decode cX11_findRichest 198 = .ok (.iload_n 3, 1) := by decide +kernel
theorem dX11_findRichest_199 : decode cX11_findRichest 199 = .ok (.iaload, 1) := by decide +kernel
theorem dX11_findRichest_200 : decode cX11_findRichest 200 = .ok (.iload_n 2, 1) := by decide +kernel
theorem dX11_findRichest_201 : decode cX11_findRichest 201 = .ok (.if_icmp .le 7, 3) := by decide +kernel
theorem dX11_findRichest_204 : decode cX11_findRichest 204 = .ok (.iconst 1, 1) := by decide +kernel
theorem dX11_findRichest_205 : decode cX11_findRichest 205 = .ok (.goto 4, 3) := by decide +kernel
theorem dX11_findRichest_208 : decode cX11_findRichest 208 = .ok (.iconst 0, 1) := by decide +kernel
theorem dX11_findRichest_209 : decode cX11_findRichest 209 = .ok (.istore 5, 2) := by decide +kernel
theorem dX11_findRichest_211 : decode cX11_findRichest 211 = .ok (.iconst 0, 1) := by decide +kernel
theorem dX11_findRichest_212 : decode cX11_findRichest 212 = .ok (.istore 6, 2) := by decide +kernel
theorem dX11_findRichest_214 : decode cX11_findRichest 214 = .ok (.iload 6, 2) := by decide +kernel
theorem dX11_findRichest_216 : decode cX11_findRichest 216 = .ok (.iload_n 3, 1) := by decide +kernel
theorem dX11_findRichest_217 : decode cX11_findRichest 217 = .ok (.if_icmp .ge 28, 3) := by decide +kernel
theorem dX11_findRichest_220 : decode cX11_findRichest 220 = .ok (.iload 5, 2) := by decide +kernel
theorem dX11_findRichest_222 : decode cX11_findRichest 222 = .ok (.ifCond .eq 23, 3) := by decide +kernel
theorem dX11_findRichest_225 : decode cX11_findRichest 225 = .ok (.aload_n 0, 1) := by decide +kernel
theorem dX11_findRichest_226 : decode cX11_findRichest 226 = .ok (.getfield 117, 3) := by decide +kernel
theorem dX11_findRichest_229 : decode cX11_findRichest 229 = .ok (.iload 6, 2) := by decide +kernel
theorem dX11_findRichest_231 : decode cX11_findRichest 231 = .ok (.aload_n 0, 1) := by decide +kernel
theorem dX11_findRichest_232 : decode cX11_findRichest 232 = .ok (.getfield 108, 3) := by decide +kernel
theorem dX11_findRichest_235 : decode cX11_findRichest 235 = .ok (.iload 6, 2) := by decide +kernel
theorem dX11_findRichest_237 : decode cX11_findRichest 237 = .ok (.iaload, 1) := by decide +kernel
theorem dX11_findRichest_238 : decode cX11_findRichest 238 = .ok (.iastore, 1) := by decide +kernel
theorem dX11_findRichest_239 : decode cX11_findRichest 239 = .ok (.iinc 6 1, 3) := by decide +kernel
theorem dX11_findRichest_242 : decode cX11_findRichest 242 = .ok (.goto (-28), 3) := by decide +kernel
theorem dX11_findRichest_245 : decode cX11_findRichest 245 = .ok (.aload_n 0, 1) := by decide +kernel
theorem dX11_findRichest_246 : decode cX11_findRichest 246 = .ok (.iload 5, 2) := by decide +kernel
theorem dX11_findRichest_248 : decode cX11_findRichest 248 = .ok (.ifCond .eq 7, 3) := by decide +kernel
theorem dX11_findRichest_251 : decode cX11_findRichest 251 = .ok (.iload_n 3, 1) := by decide +kernel
theorem dX11_findRichest_252 : decode cX11_findRichest 252 = .ok (.goto 7, 3) := by decide +kernel
theorem dX11_findRichest_255 : decode cX11_findRichest 255 = .ok (.aload_n 0, 1) := by decide +kernel
theorem dX11_findRichest_256 : decode cX11_findRichest 256 = .ok (.getfield 472, 3) := by decide +kernel
theorem dX11_findRichest_259 : decode cX11_findRichest 259 = .ok (.putfield 472, 3) := by decide +kernel
theorem dX11_findRichest_262 : decode cX11_findRichest 262 = .ok (.iload 5, 2) := by decide +kernel
theorem dX11_findRichest_264 : decode cX11_findRichest 264 = .ok (.ifCond .eq 12, 3) := by decide +kernel
theorem dX11_findRichest_267 : decode cX11_findRichest 267 = .ok (.aload_n 0, 1) := by decide +kernel
theorem dX11_findRichest_268 : decode cX11_findRichest 268 = .ok (.getfield 114, 3) := by decide +kernel
theorem dX11_findRichest_271 : decode cX11_findRichest 271 = .ok (.iload_n 3, 1) := by decide +kernel
theorem dX11_findRichest_272 : decode cX11_findRichest 272 = .ok (.iaload, 1) := by decide +kernel
theorem dX11_findRichest_273 : decode cX11_findRichest 273 = .ok (.goto 4, 3) := by decide +kernel
theorem dX11_findRichest_276 : decode cX11_findRichest 276 = .ok (.iload_n 2, 1) := by decide +kernel
theorem dX11_findRichest_277 : decode cX11_findRichest 277 = .ok (.istore_n 2, 1) := by decide +kernel
theorem dX11_findRichest_278 : decode cX11_findRichest 278 = .ok (.goto (-240), 3) := by decide +kernel
theorem dX11_findRichest_281 : decode cX11_findRichest 281 = .ok (.aload_n 0, 1) := by decide +kernel
theorem dX11_findRichest_282 : decode cX11_findRichest 282 = .ok (.getfield 13, 3) := by decide +kernel
theorem dX11_findRichest_285 : decode cX11_findRichest 285 = .ok (.bipush 9, 2) := by decide +kernel
theorem dX11_findRichest_287 : decode cX11_findRichest 287 = .ok (.iload_n 1, 1) := by decide +kernel
theorem dX11_findRichest_288 : decode cX11_findRichest 288 = .ok (.iastore, 1) := by decide +kernel
theorem dX11_findRichest_289 : decode cX11_findRichest 289 = .ok (.iload_n 2, 1) := by decide +kernel
theorem dX11_findRichest_290 : decode cX11_findRichest 290 = .ok (.ireturn, 1) := by decide +kernel
theorem dX11_richest_0 : decode cX11_richest 0 = .ok (.aload_n 0, 1) := by decide +kernel
theorem dX11_richest_1 : decode cX11_richest 1 = .ok (.iconst 0, 1) := by decide +kernel
theorem dX11_richest_2 : decode cX11_richest 2 = .ok (.putfield 152, 3) := by decide +kernel
theorem dX11_richest_5 : decode cX11_richest 5 = .ok (.iload_n 1, 1) := by decide +kernel
theorem dX11_richest_6 : decode cX11_richest 6 = .ok (.iconst (-1), 1) := by decide +kernel
theorem dX11_richest_7 : decode cX11_richest 7 = .ok (.if_icmp .ge 5, 3) := by decide +kernel
theorem dX11_richest_10 : decode cX11_richest 10 = .ok (.iconst (-1), 1) := by decide +kernel
theorem dX11_richest_11 : decode cX11_richest 11 = .ok (.ireturn, 1) := by decide +kernel
theorem dX11_richest_12 : decode cX11_richest 12 = .ok (.aload_n 0, 1) := by decide +kernel
theorem dX11_richest_13 : decode cX11_richest 13 = .ok (.invokevirtual 478, 3) := by decide +kernel
theorem dX11_richest_16 : decode cX11_richest 16 = .ok (.istore_n 2, 1) := by decide +kernel
theorem dX11_richest_17 : decode cX11_richest 17 = .ok (.iload_n 1, 1) := by decide +kernel
theorem dX11_richest_18 : decode cX11_richest 18 = .ok (.iconst (-1), 1) := by decide +kernel
theorem dX11_richest_19 : decode cX11_richest 19 = .ok (.if_icmp .ne 7, 3) := by decide +kernel
theorem dX11_richest_22 : decode cX11_richest 22 = .ok (.iload_n 2, 1) := by decide +kernel
theorem dX11_richest_23 : decode cX11_richest 23 = .ok (.goto 21, 3) := by decide +kernel
theorem dX11_richest_26 : decode cX11_richest 26 = .ok (.iload_n 1, 1) := by decide +kernel
theorem dX11_richest_27 : decode cX11_richest 27 = .ok (.aload_n 0, 1) := by decide +kernel
theorem dX11_richest_28 : decode cX11_richest 28 = .ok (.getfield 472, 3) := by decide +kernel
theorem dX11_richest_31 : decode cX11_richest 31 = .ok (.if_icmp .ge 12, 3) := by decide +kernel
theorem dX11_richest_34 : decode cX11_richest 34 = .ok (.aload_n 0, 1) := by decide +kernel
theorem dX11_richest_35 : decode cX11_richest 35 = .ok (.getfield 117, 3) := by decide +kernel
theorem dX11_richest_38 : decode cX11_richest 38 = .ok (.iload_n 1, 1) := by decide +kernel
theorem dX11_richest_39 : decode cX11_richest 39 = .ok (.iaload, 1) := by decide +kernel
theorem dX11_richest_40 : decode cX11_richest 40 = .ok (.goto 4, 3) := by decide +kernel
theorem dX11_richest_43 : decode cX11_richest 43 = .ok (.iconst (-1), 1) := by decide +kernel
theorem dX11_richest_44 : decode cX11_richest 44 = .ok (.ireturn, 1) := by decide +kernel
theorem dX11_byClock_0 : decode cX11_byClock 0 = .ok (.aload_n 0, 1) := by decide +kernel
theorem dX11_byClock_1 : decode cX11_byClock 1 = .ok (.iconst 0, 1) := by decide +kernel
theorem dX11_byClock_2 : decode cX11_byClock 2 = .ok (.putfield 152, 3) := by decide +kernel
theorem dX11_byClock_5 : decode cX11_byClock 5 = .ok (.iload_n 1, 1) := by decide +kernel
theorem dX11_byClock_6 : decode cX11_byClock 6 = .ok (.i2l, 1) := by decide +kernel
theorem dX11_byClock_7 : decode cX11_byClock 7 = .ok (.lconst 0, 1) := by decide +kernel
theorem dX11_byClock_8 : decode cX11_byClock 8 = .ok (.ldc2_w 287, 3) := by decide +kernel
theorem dX11_byClock_11 : decode cX11_byClock 11 = .ok (.invokestatic 172, 3) := by decide +kernel
theorem dX11_byClock_14 : decode cX11_byClock 14 = .ok (.ifCond .ne 5, 3) := by decide +kernel
theorem dX11_byClock_17 : decode cX11_byClock 17 = .ok (.iconst (-1), 1) := by decide +kernel
theorem dX11_byClock_18 : decode cX11_byClock 18 = .ok (.ireturn, 1) := by decide +kernel
theorem dX11_byClock_19 : decode cX11_byClock 19 = .ok (.aload_n 0, 1) := by decide +kernel
theorem dX11_byClock_20 : decode cX11_byClock 20 = .ok (.getfield 13, 3) := by decide +kernel
theorem dX11_byClock_23 : decode cX11_byClock 23 = .ok (.bipush 9, 2) := by decide +kernel
theorem dX11_byClock_25 : decode cX11_byClock 25 = .ok (.iaload, 1) := by decide +kernel
theorem dX11_byClock_26 : decode cX11_byClock 26 = .ok (.istore_n 2, 1) := by decide +kernel
theorem dX11_byClock_27 : decode cX11_byClock 27 = .ok (.iconst 0, 1) := by decide +kernel
theorem dX11_byClock_28 : decode cX11_byClock 28 = .ok (.istore_n 3, 1) := by decide +kernel
theorem dX11_byClock_29 : decode cX11_byClock 29 = .ok (.iconst 0, 1) := by decide +kernel
theorem dX11_byClock_30 : decode cX11_byClock 30 = .ok (.istore 4, 2) := by decide +kernel
theorem dX11_byClock_32 : decode cX11_byClock 32 = .ok (.iload 4, 2) := by decide +kernel
theorem dX11_byClock_34 : decode cX11_byClock 34 = .ok (.aload_n 0, 1) := by decide +kernel
theorem dX11_byClock_35 : decode cX11_byClock 35 = .ok (.getfield 13, 3) := by decide +kernel
theorem dX11_byClock_38 : decode cX11_byClock 38 = .ok (.iconst 1, 1) := by decide +kernel
theorem dX11_byClock_39 : decode cX11_byClock 39 = .ok (.iaload, 1) := by decide +kernel
theorem dX11_byClock_40 : decode cX11_byClock 40 = .ok (.if_icmp .ge 85, 3) := by decide +kernel
theorem dX11_byClock_43 : decode cX11_byClock 43 = .ok (.aload_n 0, 1) := by decide +kernel
theorem dX11_byClock_44 : decode cX11_byClock 44 = .ok (.iload 4, 2) := by decide +kernel
theorem dX11_byClock_46 : decode cX11_byClock 46 = .ok (.invokevirtual 234, 3) := by decide +kernel
theorem dX11_byClock_49 : decode cX11_byClock 49 = .ok (.ifCond .eq 70, 3) := by decide +kernel
theorem dX11_byClock_52 : decode cX11_byClock 52 = .ok (.aload_n 0, 1) := by decide +kernel
theorem dX11_byClock_53 : decode cX11_byClock 53 = .ok (.getfield 13, 3) := by decide +kernel
theorem dX11_byClock_56 : decode cX11_byClock 56 = .ok (.bipush 9, 2) := by decide +kernel
theorem dX11_byClock_58 : decode cX11_byClock 58 = .ok (.iaload, 1) := by decide +kernel
theorem dX11_byClock_59 : decode cX11_byClock 59 = .ok (.aload_n 0, 1) := by decide +kernel
theorem dX11_byClock_60 : decode cX11_byClock 60 = .ok (.iload 4, 2) := by decide +kernel
theorem dX11_byClock_62 : decode cX11_byClock 62 = .ok (.invokevirtual 225, 3) := by decide +kernel
theorem dX11_byClock_65 : decode cX11_byClock 65 = .ok (.iadd, 1) := by decide +kernel
theorem dX11_byClock_66 : decode cX11_byClock 66 = .ok (.istore 5, 2) := by decide +kernel
theorem dX11_byClock_68 : decode cX11_byClock 68 = .ok (.iload_n 3, 1) := by decide +kernel
theorem dX11_byClock_69 : decode cX11_byClock 69 = .ok (.iload 5, 2) := by decide +kernel
theorem dX11_byClock_71 : decode cX11_byClock 71 = .ok (.iload_n 1, 1) := by decide +kernel
theorem dX11_byClock_72 : decode cX11_byClock 72 = .ok (.if_icmp .gt 35, 3) := by decide +kernel
theorem dX11_byClock_75 : decode cX11_byClock 75 = .ok (.aload_n 0, 1) := by decide +kernel
theorem dX11_byClock_76 : decode cX11_byClock 76 = .ok (.aload_n 0, 1) := by decide +kernel
theorem dX11_byClock_77 : decode cX11_byClock 77 = .ok (.iload 4, 2) := by decide +kernel
theorem dX11_byClock_79 : decode cX11_byClock 79 = .ok (.invokevirtual 228, 3) := by decide +kernel
theorem dX11_byClock_82 : decode cX11_byClock 82 = .ok (.aload_n 0, 1) := by decide +kernel
theorem dX11_byClock_83 : decode cX11_byClock 83 = .ok (.iload 4, 2) := by decide +kernel
theorem dX11_byClock_85 : decode cX11_byClock 85 = .ok (.invokevirtual 231, 3) := by decide +kernel
theorem dX11_byClock_88 : decode cX11_byClock 88 = .ok (.invokevirtual 442, 3) := by decide +kernel
theorem dX11_byClock_91 : decode cX11_byClock 91 = .ok (.ifCond .eq 16, 3) := by decide +kernel
theorem dX11_byClock_94 : decode cX11_byClock 94 = .ok (.aload_n 0, 1) := by decide +kernel
theorem dX11_byClock_95 : decode cX11_byClock 95 = .ok (.getfield 13, 3) := by decide +kernel
theorem dX11_byClock_98 : decode cX11_byClock 98 = .ok (.bipush 78, 2) := by decide +kernel
theorem dX11_byClock_100 : decode cX11_byClock 100 = .ok (.iload 4, 2) := by decide +kernel
theorem dX11_byClock_102 : decode cX11_byClock 102 = .ok (.iadd, 1) := by decide +kernel
theorem dX11_byClock_103 : decode cX11_byClock 103 = .ok (.iaload, 1) := by decide +kernel
theorem dX11_byClock_104 : decode cX11_byClock 104 = .ok (.goto 4, 3) := by decide +kernel
theorem dX11_byClock_107 : decode cX11_byClock 107 = .ok (.iconst 0, 1) := by decide +kernel
theorem dX11_byClock_108 : decode cX11_byClock 108 = .ok (.iadd, 1) := by decide +kernel
theorem dX11_byClock_109 : decode cX11_byClock 109 = .ok (.istore_n 3, 1) := by decide +kernel
theorem dX11_byClock_110 : decode cX11_byClock 110 = .ok (.aload_n 0, 1) := by decide +kernel
theorem dX11_byClock_111 : decode cX11_byClock 111 = .ok (.getfield 13, 3) := by decide +kernel
theorem dX11_byClock_114 : decode cX11_byClock 114 = .ok (.bipush 9, 2) := by decide +kernel
theorem dX11_byClock_116 : decode cX11_byClock 116 = .ok (.iload 5, 2) := by decide +kernel
theorem dX11_byClock_118 : decode cX11_byClock 118 = .ok (.iastore, 1) := by decide +kernel
theorem dX11_byClock_119 : decode cX11_byClock 119 = .ok (.iinc 4 1, 3) := by decide +kernel
theorem dX11_byClock_122 : decode cX11_byClock 122 = .ok (.goto (-90), 3) := by decide +kernel
theorem dX11_byClock_125 : decode cX11_byClock 125 = .ok (.aload_n 0, 1) := by decide +kernel
theorem dX11_byClock_126 : decode cX11_byClock 126 = .ok (.getfield 13, 3) := by decide +kernel
theorem dX11_byClock_129 : decode cX11_byClock 129 = .ok (.bipush 9, 2) := by decide +kernel
theorem dX11_byClock_131 : decode cX11_byClock 131 = .ok (.iload_n 2, 1) := by decide +kernel
theorem dX11_byClock_132 : decode cX11_byClock 132 = .ok (.iastore, 1) := by decide +kernel
theorem dX11_byClock_133 : decode cX11_byClock 133 = .ok (.iload_n 3, 1) := by decide +kernel
theorem dX11_byClock_134 : decode cX11_byClock 134 = .ok (.ireturn, 1) := by decide +kernel
theorem dX11_spoilt_0 : decode cX11_spoilt 0 = .ok (.aload_n 0, 1) := by decide +kernel
theorem dX11_spoilt_1 : decode cX11_spoilt 1 = .ok (.iconst 0, 1) := by decide +kernel
theorem dX11_spoilt_2 : decode cX11_spoilt 2 = .ok (.putfield 152, 3) := by decide +kernel
theorem dX11_spoilt_5 : decode cX11_spoilt 5 = .ok (.aload_n 0, 1) := by decide +kernel
theorem dX11_spoilt_6 : decode cX11_spoilt 6 = .ok (.iload_n 1, 1) := by decide +kernel
theorem dX11_spoilt_7 : decode cX11_spoilt 7 = .ok (.invokevirtual 213, 3) := by decide +kernel
theorem dX11_spoilt_10 : decode cX11_spoilt 10 = .ok (.ifCond .eq 13, 3) := by decide +kernel
theorem dX11_spoilt_13 : decode cX11_spoilt 13 = .ok (.iload_n 2, 1) := by decide +kernel
theorem dX11_spoilt_14 : decode cX11_spoilt 14 = .ok (.i2l, 1) := by decide +kernel
theorem dX11_spoilt_15 : decode cX11_spoilt 15 = .ok (.lconst 0, 1) := by decide +kernel
theorem dX11_spoilt_16 : decode cX11_spoilt 16 = .ok (.lconst 1, 1) := by decide +kernel
theorem dX11_spoilt_17 : decode cX11_spoilt 17 = .ok (.invokestatic 172, 3) := by decide +kernel
theorem dX11_spoilt_20 : decode cX11_spoilt 20 = .ok (.ifCond .ne 5, 3) := by decide +kernel
theorem dX11_spoilt_23 : decode cX11_spoilt 23 = .ok (.iconst (-1), 1) := by decide +kernel
theorem dX11_spoilt_24 : decode cX11_spoilt 24 = .ok (.ireturn, 1) := by decide +kernel
theorem dX11_spoilt_25 : decode cX11_spoilt 25 = .ok (.aload_n 0, 1) := by decide +kernel
theorem dX11_spoilt_26 : decode cX11_spoilt 26 = .ok (.iload_n 1, 1) := by decide +kernel
theorem dX11_spoilt_27 : decode cX11_spoilt 27 = .ok (.invokevirtual 228, 3) := by decide +kernel
theorem dX11_spoilt_30 : decode cX11_spoilt 30 = .ok (.istore_n 3, 1) := by decide +kernel
theorem dX11_spoilt_31 : decode cX11_spoilt 31 = .ok (.aload_n 0, 1) := by decide +kernel
theorem dX11_spoilt_32 : decode cX11_spoilt 32 = .ok (.iload_n 1, 1) := by decide +kernel
theorem dX11_spoilt_33 : decode cX11_spoilt 33 = .ok (.invokevirtual 231, 3) := by decide +kernel
theorem dX11_spoilt_36 : decode cX11_spoilt 36 = .ok (.istore 4, 2) := by decide +kernel
theorem dX11_spoilt_38 : decode cX11_spoilt 38 = .ok (.ldc_w 481, 3) := by decide +kernel
theorem dX11_spoilt_41 : decode cX11_spoilt 41 = .ok (.istore 5, 2) := by decide +kernel
theorem dX11_spoilt_43 : decode cX11_spoilt 43 = .ok (.iconst 0, 1) := by decide +kernel
theorem dX11_spoilt_44 : decode cX11_spoilt 44 = .ok (.istore 6, 2) := by decide +kernel
theorem dX11_spoilt_46 : decode cX11_spoilt 46 = .ok (.iconst 0, 1) := by decide +kernel
theorem dX11_spoilt_47 : decode cX11_spoilt 47 = .ok (.istore 7, 2) := by decide +kernel
theorem dX11_spoilt_49 : decode cX11_spoilt 49 = .ok (.iload 7, 2) := by decide +kernel
theorem dX11_spoilt_51 : decode cX11_spoilt 51 = .ok (.iload_n 3, 1) := by decide +kernel
theorem dX11_spoilt_52 : decode cX11_spoilt 52 = .ok (.if_icmp .gt 59, 3) := by decide +kernel
theorem dX11_spoilt_55 : decode cX11_spoilt 55 = .ok (.iload 7, 2) := by decide +kernel
theorem dX11_spoilt_57 : decode cX11_spoilt 57 = .ok (.iload_n 3, 1) := by decide +kernel
theorem dX11_spoilt_58 : decode cX11_spoilt 58 = .ok (.iconst (-1), 1) := by decide +kernel
theorem dX11_spoilt_59 : decode cX11_spoilt 59 = .ok (.ixor, 1) := by decide +kernel
theorem dX11_spoilt_60 : decode cX11_spoilt 60 = .ok (.iand, 1) := by decide +kernel
theorem dX11_spoilt_61 : decode cX11_spoilt 61 = .ok (.ifCond .ne 44, 3) := by decide +kernel
theorem dX11_spoilt_64 : decode cX11_spoilt 64 = .ok (.iload 7, 2) := by decide +kernel
theorem dX11_spoilt_66 : decode cX11_spoilt 66 = .ok (.invokestatic 439, 3) := by decide +kernel
theorem dX11_spoilt_69 : decode cX11_spoilt 69 = .ok (.iload 5, 2) := by decide +kernel
theorem dX11_spoilt_71 : decode cX11_spoilt 71 = .ok (.if_icmp .ge 34, 3) := by decide +kernel
theorem dX11_spoilt_74 : decode cX11_spoilt 74 = .ok (.aload_n 0, 1) := by decide +kernel
theorem dX11_spoilt_75 : decode cX11_spoilt 75 = .ok (.iload_n 3, 1) := by decide +kernel
theorem dX11_spoilt_76 : decode cX11_spoilt 76 = .ok (.iload 7, 2) := by decide +kernel
theorem dX11_spoilt_78 : decode cX11_spoilt 78 = .ok (.iconst (-1), 1) := by decide +kernel
theorem dX11_spoilt_79 : decode cX11_spoilt 79 = .ok (.ixor, 1) := by decide +kernel
theorem dX11_spoilt_80 : decode cX11_spoilt 80 = .ok (.iand, 1) := by decide +kernel
theorem dX11_spoilt_81 : decode cX11_spoilt 81 = .ok (.iload 4, 2) := by decide +kernel
theorem dX11_spoilt_83 : decode cX11_spoilt 83 = .ok (.iload 7, 2) := by decide +kernel
theorem dX11_spoilt_85 : decode cX11_spoilt 85 = .ok (.iconst (-1), 1) := by decide +kernel
theorem dX11_spoilt_86 : decode cX11_spoilt 86 = .ok (.ixor, 1) := by decide +kernel
theorem dX11_spoilt_87 : decode cX11_spoilt 87 = .ok (.iand, 1) := by decide +kernel
theorem dX11_spoilt_88 : decode cX11_spoilt 88 = .ok (.invokevirtual 442, 3) := by decide +kernel
theorem dX11_spoilt_91 : decode cX11_spoilt 91 = .ok (.ifCond .ne 14, 3) := by decide +kernel
theorem dX11_spoilt_94 : decode cX11_spoilt 94 = .ok (.iload 7, 2) := by decide +kernel
theorem dX11_spoilt_96 : decode cX11_spoilt 96 = .ok (.invokestatic 439, 3) := by decide +kernel
theorem dX11_spoilt_99 : decode cX11_spoilt 99 = .ok (.istore 5, 2) := by decide +kernel
theorem dX11_spoilt_101 : decode cX11_spoilt 101 = .ok (.iload 7, 2) := by decide +kernel
theorem dX11_spoilt_103 : decode cX11_spoilt 103 = .ok (.istore 6, 2) := by decide +kernel
theorem dX11_spoilt_105 : decode cX11_spoilt 105 = .ok (.iinc 7 1, 3) := by decide +kernel
theorem dX11_spoilt_108 : decode cX11_spoilt 108 = .ok (.goto (-59), 3) := by decide +kernel
theorem dX11_spoilt_111 : decode cX11_spoilt 111 = .ok (.iload_n 2, 1) := by decide +kernel
theorem dX11_spoilt_112 : decode cX11_spoilt 112 = .ok (.ifCond .ne 8, 3) := by decide +kernel
theorem dX11_spoilt_115 : decode cX11_spoilt 115 = .ok (.iload 5, 2) := by decide +kernel
theorem dX11_spoilt_117 : decode cX11_spoilt 117 = .ok (.goto 5, 3) := by decide +kernel
theorem dX11_spoilt_120 : decode cX11_spoilt 120 = .ok (.iload 6, 2) := by decide +kernel
theorem dX11_spoilt_122 : decode cX11_spoilt 122 = .ok (.ireturn, 1) := by decide +kernel
theorem dX11_come_0 : decode cX11_come 0 = .ok (.aload_n 0, 1) := by decide +kernel
theorem dX11_come_1 : decode cX11_come 1 = .ok (.iconst 0, 1) := by decide +kernel
theorem dX11_come_2 : decode cX11_come 2 = .ok (.putfield 152, 3) := by decide +kernel
theorem dX11_come_5 : decode cX11_come 5 = .ok (.aload_n 0, 1) := by decide +kernel
theorem dX11_come_6 : decode cX11_come 6 = .ok (.iload_n 1, 1) := by decide +kernel
theorem dX11_come_7 : decode cX11_come 7 = .ok (.invokevirtual 213, 3) := by decide +kernel
theorem dX11_come_10 : decode cX11_come 10 = .ok (.ifCond .eq 13, 3) := by decide +kernel
theorem dX11_come_13 : decode cX11_come 13 = .ok (.iload_n 2, 1) := by decide +kernel
theorem dX11_come_14 : decode cX11_come 14 = .ok (.i2l, 1) := by decide +kernel
theorem dX11_come_15 : decode cX11_come 15 = .ok (.lconst 0, 1) := by decide +kernel
theorem dX11_come_16 : decode cX11_come 16 = .ok (.lconst 1, 1) := by decide +kernel
theorem dX11_come_17 : decode cX11_come 17 = .ok (.invokestatic 172, 3) := by decide +kernel
theorem dX11_come_20 : decode cX11_come 20 = .ok (.ifCond .ne 5, 3) := by decide +kernel
theorem dX11_come_23 : decode cX11_come 23 = .ok (.iconst (-1), 1) := by decide +kernel
theorem dX11_come_24 : decode cX11_come 24 = .ok (.ireturn, 1) := by decide +kernel
theorem dX11_come_25 : decode cX11_come 25 = .ok (.aload_n 0, 1) := by decide +kernel
theorem dX11_come_26 : decode cX11_come 26 = .ok (.iload_n 1, 1) := by decide +kernel
theorem dX11_come_27 : decode cX11_come 27 = .ok (.invokevirtual 228, 3) := by decide +kernel
theorem dX11_come_30 : decode cX11_come 30 = .ok (.istore_n 3, 1) := by decide +kernel
theorem dX11_come_31 : decode cX11_come 31 = .ok (.aload_n 0, 1) := by decide +kernel
theorem dX11_come_32 : decode cX11_come 32 = .ok (.iload_n 1, 1) := by decide +kernel
theorem dX11_come_33 : decode cX11_come 33 = .ok (.invokevirtual 231, 3) := by decide +kernel
theorem dX11_come_36 : decode cX11_come 36 = .ok (.istore 4, 2) := by decide +kernel
theorem dX11_come_38 : decode cX11_come 38 = .ok (.iconst 0, 1) := by decide +kernel
theorem dX11_come_39 : decode cX11_come 39 = .ok (.istore 5, 2) := by decide +kernel
theorem dX11_come_41 : decode cX11_come 41 = .ok (.aload_n 0, 1) := by decide +kernel
theorem dX11_come_42 : decode cX11_come 42 = .ok (.bipush 16, 2) := by decide +kernel
theorem dX11_come_44 : decode cX11_come 44 = .ok (.invokevirtual 165, 3) := by decide +kernel
theorem dX11_come_47 : decode cX11_come 47 = .ok (.iconst 0, 1) := by decide +kernel
theorem dX11_come_48 : decode cX11_come 48 = .ok (.istore 6, 2) := by decide +kernel
theorem dX11_come_50 : decode cX11_come 50 = .ok (.iload 6, 2) := by decide +kernel
theorem dX11_come_52 : decode cX11_come 52 = .ok (.aload_n 0, 1) := by decide +kernel
theorem dX11_come_53 : decode cX11_come 53 = .ok (.getfield 13, 3) := by decide +kernel
theorem dX11_come_56 : decode cX11_come 56 = .ok (.iconst 0, 1) := by decide +kernel
theorem dX11_come_57 : decode cX11_come 57 = .ok (.iaload, 1) := by decide +kernel
theorem dX11_come_58 : decode cX11_come 58 = .ok (.if_icmp .ge 64, 3) := by decide +kernel
theorem dX11_come_61 : decode cX11_come 61 = .ok (.iload 5, 2) := by decide +kernel
theorem dX11_come_63 : decode cX11_come 63 = .ok (.aload_n 0, 1) := by decide +kernel
theorem dX11_come_64 : decode cX11_come 64 = .ok (.iload 6, 2) := by decide +kernel
theorem dX11_come_66 : decode cX11_come 66 = .ok (.invokevirtual 183, 3) := by decide +kernel
theorem dX11_come_69 : decode cX11_come 69 = .ok (.ifCond .eq 10, 3) := by decide +kernel
theorem dX11_come_72 : decode cX11_come 72 = .ok (.iconst 1, 1) := by decide +kernel
theorem dX11_come_73 : decode cX11_come 73 = .ok (.iload 6, 2) := by decide +kernel
theorem dX11_come_75 : decode cX11_come 75 = .ok (.ishl, 1) := by decide +kernel
theorem dX11_come_76 : decode cX11_come 76 = .ok (.goto 4, 3) := by decide +kernel
theorem dX11_come_79 : decode cX11_come 79 = .ok (.iconst 0, 1) := by decide +kernel
theorem dX11_come_80 : decode cX11_come 80 = .ok (.ior, 1) := by decide +kernel
theorem dX11_come_81 : decode cX11_come 81 = .ok (.istore 5, 2) := by decide +kernel
theorem dX11_come_83 : decode cX11_come 83 = .ok (.aload_n 0, 1) := by decide +kernel
theorem dX11_come_84 : decode cX11_come 84 = .ok (.getfield 13, 3) := by decide +kernel
theorem dX11_come_87 : decode cX11_come 87 = .ok (.bipush 10, 2) := by decide +kernel
theorem dX11_come_89 : decode cX11_come 89 = .ok (.iload 6, 2) := by decide +kernel
theorem dX11_come_91 : decode cX11_come 91 = .ok (.iadd, 1) := by decide +kernel
theorem dX11_come_92 : decode cX11_come 92 = .ok (.aload_n 0, 1) := by decide +kernel
theorem dX11_come_93 : decode cX11_come 93 = .ok (.iload 6, 2) := by decide +kernel
theorem dX11_come_95 : decode cX11_come 95 = .ok (.invokevirtual 183, 3) := by decide +kernel
theorem dX11_come_98 : decode cX11_come 98 = .ok (.ifCond .eq 7, 3) := by decide +kernel
theorem dX11_come_101 : decode cX11_come 101 = .ok (.iconst 0, 1) := by decide +kernel
theorem dX11_come_102 : decode cX11_come 102 = .ok (.goto 13, 3) := by decide +kernel
theorem dX11_come_105 : decode cX11_come 105 = .ok (.aload_n 0, 1) := by decide +kernel
theorem dX11_come_106 : decode cX11_come 106 = .ok (.getfield 13, 3) := by decide +kernel
theorem dX11_come_109 : decode cX11_come 109 = .ok (.bipush 10, 2) := by decide +kernel
theorem dX11_come_111 : decode cX11_come 111 = .ok (.iload 6, 2) := by decide +kernel
theorem dX11_come_113 : decode cX11_come 113 = .ok (.iadd, 1) := by decide +kernel
theorem dX11_come_114 : decode cX11_come 114 = .ok (.iaload, 1) := by decide +kernel
theorem dX11_come_115 : decode cX11_come 115 = .ok (.iastore, 1) := by decide +kernel
theorem dX11_come_116 : decode cX11_come 116 = .ok (.iinc 6 1, 3) := by decide +kernel
theorem dX11_come_119 : decode cX11_come 119 = .ok (.goto (-69), 3) := by decide +kernel
theorem dX11_come_122 : decode cX11_come 122 = .ok (.aload_n 0, 1) := by decide +kernel
theorem dX11_come_123 : decode cX11_come 123 = .ok (.iload_n 1, 1) := by decide +kernel
theorem dX11_come_124 : decode cX11_come 124 = .ok (.invokevirtual 228, 3) := by decide +kernel
theorem dX11_come_127 : decode cX11_come 127 = .ok (.iload 5, 2) := by decide +kernel
theorem dX11_come_129 : decode cX11_come 129 = .ok (.iand, 1) := by decide +kernel
theorem dX11_come_130 : decode cX11_come 130 = .ok (.istore 6, 2) := by decide +kernel
theorem dX11_come_132 : decode cX11_come 132 = .ok (.aload_n 0, 1) := by decide +kernel
theorem dX11_come_133 : decode cX11_come 133 = .ok (.iload_n 1, 1) := by decide +kernel
theorem dX11_come_134 : decode cX11_come 134 = .ok (.invokevirtual 231, 3) := by decide +kernel
theorem dX11_come_137 : decode cX11_come 137 = .ok (.iload 5, 2) := by decide +kernel
theorem dX11_come_139 : decode cX11_come 139 = .ok (.iand, 1) := by decide +kernel
theorem dX11_come_140 : decode cX11_come 140 = .ok (.istore 7, 2) := by decide +kernel
theorem dX11_come_142 : decode cX11_come 142 = .ok (.aload_n 0, 1) := by decide +kernel
theorem dX11_come_143 : decode cX11_come 143 = .ok (.bipush 16, 2) := by decide +kernel
theorem dX11_come_145 : decode cX11_come 145 = .ok (.invokevirtual 169, 3) := by decide +kernel
theorem dX11_come_148 : decode cX11_come 148 = .ok (.ldc_w 481, 3) := by decide +kernel
theorem dX11_come_151 : decode cX11_come 151 = .ok (.istore 8, 2) := by decide +kernel
theorem dX11_come_153 : decode cX11_come 153 = .ok (.iconst (-1), 1) := by decide +kernel
theorem dX11_come_154 : decode cX11_come 154 = .ok (.istore 9, 2) := by decide +kernel
theorem dX11_come_156 : decode cX11_come 156 = .ok (.iconst 0, 1) := by decide +kernel
theorem dX11_come_157 : decode cX11_come 157 = .ok (.istore 10, 2) := by decide +kernel
theorem dX11_come_159 : decode cX11_come 159 = .ok (.iload 10, 2) := by decide +kernel
theorem dX11_come_161 : decode cX11_come 161 = .ok (.iload 5, 2) := by decide +kernel
theorem dX11_come_163 : decode cX11_come 163 = .ok (.if_icmp .gt 62, 3) := by decide +kernel
theorem dX11_come_166 : decode cX11_come 166 = .ok (.iload 10, 2) := by decide +kernel
theorem dX11_come_168 : decode cX11_come 168 = .ok (.iload 5, 2) := by decide +kernel
theorem dX11_come_170 : decode cX11_come 170 = .ok (.iconst (-1), 1) := by decide +kernel
theorem dX11_come_171 : decode cX11_come 171 = .ok (.ixor, 1) := by decide +kernel
theorem dX11_come_172 : decode cX11_come 172 = .ok (.iand, 1) := by decide +kernel
theorem dX11_come_173 : decode cX11_come 173 = .ok (.ifCond .ne 46, 3) := by decide +kernel
theorem dX11_come_176 : decode cX11_come 176 = .ok (.iload 10, 2) := by decide +kernel
theorem dX11_come_178 : decode cX11_come 178 = .ok (.invokestatic 439, 3) := by decide +kernel
theorem dX11_come_181 : decode cX11_come 181 = .ok (.iload 8, 2) := by decide +kernel
theorem dX11_come_183 : decode cX11_come 183 = .ok (.if_icmp .ge 36, 3) := by decide +kernel
theorem dX11_come_186 : decode cX11_come 186 = .ok (.aload_n 0, 1) := by decide +kernel
theorem dX11_come_187 : decode cX11_come 187 = .ok (.iload_n 3, 1) := by decide +kernel
theorem dX11_come_188 : decode cX11_come 188 = .ok (.iload 10, 2) := by decide +kernel
theorem dX11_come_190 : decode cX11_come 190 = .ok (.iload 6, 2) := by decide +kernel
theorem dX11_come_192 : decode cX11_come 192 = .ok (.iand, 1) := by decide +kernel
theorem dX11_come_193 : decode cX11_come 193 = .ok (.ior, 1) := by decide +kernel
theorem dX11_come_194 : decode cX11_come 194 = .ok (.iload 4, 2) := by decide +kernel
theorem dX11_come_196 : decode cX11_come 196 = .ok (.iload 10, 2) := by decide +kernel
theorem dX11_come_198 : decode cX11_come 198 = .ok (.iload 7, 2) := by decide +kernel
theorem dX11_come_200 : decode cX11_come 200 = .ok (.iand, 1) := by decide +kernel
theorem dX11_come_201 : decode cX11_come 201 = .ok (.ior, 1) := by decide +kernel
theorem dX11_come_202 : decode cX11_come 202 = .ok (.invokevirtual 442, 3) := by decide +kernel
theorem dX11_come_205 : decode cX11_come 205 = .ok (.ifCond .eq 14, 3) := by decide +kernel
theorem dX11_come_208 : decode cX11_come 208 = .ok (.iload 10, 2) := by decide +kernel
theorem dX11_come_210 : decode cX11_come 210 = .ok (.invokestatic 439, 3) := by decide +kernel
theorem dX11_come_213 : decode cX11_come 213 = .ok (.istore 8, 2) := by decide +kernel
theorem dX11_come_215 : decode cX11_come 215 = .ok (.iload 10, 2) := by decide +kernel
theorem dX11_come_217 : decode cX11_come 217 = .ok (.istore 9, 2) := by decide +kernel
theorem dX11_come_219 : decode cX11_come 219 = .ok (.iinc 10 1, 3) := by decide +kernel
theorem dX11_come_222 : decode cX11_come 222 = .ok (.goto (-63), 3) := by decide +kernel
theorem dX11_come_225 : decode cX11_come 225 = .ok (.iload 9, 2) := by decide +kernel
theorem dX11_come_227 : decode cX11_come 227 = .ok (.iconst (-1), 1) := by decide +kernel
theorem dX11_come_228 : decode cX11_come 228 = .ok (.if_icmp .eq 8, 3) := by decide +kernel
theorem dX11_come_231 : decode cX11_come 231 = .ok (.iload_n 2, 1) := by decide +kernel
theorem dX11_come_232 : decode cX11_come 232 = .ok (.iconst 1, 1) := by decide +kernel
theorem dX11_come_233 : decode cX11_come 233 = .ok (.if_icmp .ne 8, 3) := by decide +kernel
theorem dX11_come_236 : decode cX11_come 236 = .ok (.iload 9, 2) := by decide +kernel
theorem dX11_come_238 : decode cX11_come 238 = .ok (.goto 5, 3) := by decide +kernel
theorem dX11_come_241 : decode cX11_come 241 = .ok (.iload 8, 2) := by decide +kernel
theorem dX11_come_243 : decode cX11_come 243 = .ok (.ireturn, 1) := by decide +kernel
theorem dX11_layLeft_0 : decode cX11_layLeft 0 = .ok (.iconst 0, 1) := by decide +kernel
theorem dX11_layLeft_1 : decode cX11_layLeft 1 = .ok (.istore_n 2, 1) := by decide +kernel
theorem dX11_layLeft_2 : decode cX11_layLeft 2 = .ok (.iload_n 2, 1) := by decide +kernel
theorem dX11_layLeft_3 : decode cX11_layLeft 3 = .ok (.bipush 7, 2) := by decide +kernel
theorem dX11_layLeft_5 : decode cX11_layLeft 5 = .ok (.if_icmp .ge 27, 3) := by decide +kernel
theorem dX11_layLeft_8 : decode cX11_layLeft 8 = .ok (.aload_n 0, 1) := by decide +kernel
theorem dX11_layLeft_9 : decode cX11_layLeft 9 = .ok (.getfield 120, 3) := by decide +kernel
theorem dX11_layLeft_12 : decode cX11_layLeft 12 = .ok (.iload_n 2, 1) := by decide +kernel
theorem dX11_layLeft_13 : decode cX11_layLeft 13 = .ok (.iload_n 2, 1) := by decide +kernel
theorem dX11_layLeft_14 : decode cX11_layLeft 14 = .ok (.iload_n 1, 1) := by decide +kernel
theorem dX11_layLeft_15 : decode cX11_layLeft 15 = .ok (.if_icmp .ne 7, 3) := by decide +kernel
theorem dX11_layLeft_18 : decode cX11_layLeft 18 = .ok (.iconst 0, 1) := by decide +kernel
theorem dX11_layLeft_19 : decode cX11_layLeft 19 = .ok (.goto 6, 3) := by decide +kernel
theorem dX11_layLeft_22 : decode cX11_layLeft 22 = .ok (.ldc_w 481, 3) := by decide +kernel
theorem dX11_layLeft_25 : decode cX11_layLeft 25 = .ok (.iastore, 1) := by decide +kernel
theorem dX11_layLeft_26 : decode cX11_layLeft 26 = .ok (.iinc 2 1, 3) := by decide +kernel
theorem dX11_layLeft_29 : decode cX11_layLeft 29 = .ok (.goto (-27), 3) := by decide +kernel
theorem dX11_layLeft_32 : decode cX11_layLeft 32 = .ok (.iconst 0, 1) := by decide +kernel
theorem dX11_layLeft_33 : decode cX11_layLeft 33 = .ok (.istore_n 2, 1) := by decide +kernel
theorem dX11_layLeft_34 : decode cX11_layLeft 34 = .ok (.iload_n 2, 1) := by decide +kernel
theorem dX11_layLeft_35 : decode cX11_layLeft 35 = .ok (.bipush 7, 2) := by decide +kernel
theorem dX11_layLeft_37 : decode cX11_layLeft 37 = .ok (.if_icmp .ge 99, 3) := by decide +kernel
theorem dX11_layLeft_40 : decode cX11_layLeft 40 = .ok (.iconst 0, 1) := by decide +kernel
theorem dX11_layLeft_41 : decode cX11_layLeft 41 = .ok (.istore_n 3, 1) := by decide +kernel
theorem dX11_layLeft_42 : decode cX11_layLeft 42 = .ok (.iload_n 3, 1) := by decide +kernel
theorem dX11_layLeft_43 : decode cX11_layLeft 43 = .ok (.aload_n 0, 1) := by decide +kernel
theorem dX11_layLeft_44 : decode cX11_layLeft 44 = .ok (.getfield 13, 3) := by decide +kernel
theorem dX11_layLeft_47 : decode cX11_layLeft 47 = .ok (.iconst 0, 1) := by decide +kernel
theorem dX11_layLeft_48 : decode cX11_layLeft 48 = .ok (.iaload, 1) := by decide +kernel
theorem dX11_layLeft_49 : decode cX11_layLeft 49 = .ok (.if_icmp .ge 81, 3) := by decide +kernel
theorem dX11_layLeft_52 : decode cX11_layLeft 52 = .ok (.iconst 0, 1) := by decide +kernel
theorem dX11_layLeft_53 : decode cX11_layLeft 53 = .ok (.istore 4, 2) := by decide +kernel
theorem dX11_layLeft_55 : decode cX11_layLeft 55 = .ok (.iload 4, 2) := by decide +kernel
theorem dX11_layLeft_57 : decode cX11_layLeft 57 = .ok (.aload_n 0, 1) := by decide +kernel
theorem dX11_layLeft_58 : decode cX11_layLeft 58 = .ok (.getfield 13, 3) := by decide +kernel
theorem dX11_layLeft_61 : decode cX11_layLeft 61 = .ok (.iconst 0, 1) := by decide +kernel
theorem dX11_layLeft_62 : decode cX11_layLeft 62 = .ok (.iaload, 1) := by decide +kernel
theorem dX11_layLeft_63 : decode cX11_layLeft 63 = .ok (.if_icmp .ge 61, 3) := by decide +kernel
theorem dX11_layLeft_66 : decode cX11_layLeft 66 = .ok (.aload_n 0, 1) := by decide +kernel
theorem dX11_layLeft_67 : decode cX11_layLeft 67 = .ok (.getfield 120, 3) := by decide +kernel
theorem dX11_layLeft_70 : decode cX11_layLeft 70 = .ok (.iload_n 3, 1) := by decide +kernel
theorem dX11_layLeft_71 : decode cX11_layLeft 71 = .ok (.aload_n 0, 1) := by decide +kernel
theorem dX11_layLeft_72 : decode cX11_layLeft 72 = .ok (.iload 4, 2) := by decide +kernel
theorem dX11_layLeft_74 : decode cX11_layLeft 74 = .ok (.iload_n 3, 1) := by decide +kernel
theorem dX11_layLeft_75 : decode cX11_layLeft 75 = .ok (.invokevirtual 204, 3) := by decide +kernel
theorem dX11_layLeft_78 : decode cX11_layLeft 78 = .ok (.ifCond .eq 33, 3) := by decide +kernel
theorem dX11_layLeft_81 : decode cX11_layLeft 81 = .ok (.aload_n 0, 1) := by decide +kernel
theorem dX11_layLeft_82 : decode cX11_layLeft 82 = .ok (.getfield 120, 3) := by decide +kernel
theorem dX11_layLeft_85 : decode cX11_layLeft 85 = .ok (.iload 4, 2) := by decide +kernel
theorem dX11_layLeft_87 : decode cX11_layLeft 87 = .ok (.iaload, 1) := by decide +kernel
theorem dX11_layLeft_88 : decode cX11_layLeft 88 = .ok (.iconst 1, 1) := by decide +kernel
theorem dX11_layLeft_89 : decode cX11_layLeft 89 = .ok (.iadd, 1) := by decide +kernel
theorem dX11_layLeft_90 : decode cX11_layLeft 90 = .ok (.aload_n 0, 1) := by decide +kernel
theorem dX11_layLeft_91 : decode cX11_layLeft 91 = .ok (.getfield 120, 3) := by decide +kernel
theorem dX11_layLeft_94 : decode cX11_layLeft 94 = .ok (.iload_n 3, 1) := by decide +kernel
theorem dX11_layLeft_95 : decode cX11_layLeft 95 = .ok (.iaload, 1) := by decide +kernel
theorem dX11_layLeft_96 : decode cX11_layLeft 96 = .ok (.if_icmp .ge 15, 3) := by decide +kernel
theorem dX11_layLeft_99 : decode cX11_layLeft 99 = .ok (.aload_n 0, 1) := by decide +kernel
theorem dX11_layLeft_100 : decode cX11_layLeft 100 = .ok (.getfield 120, 3) := by decide +kernel
theorem dX11_layLeft_103 : decode cX11_layLeft 103 = .ok (.iload 4, 2) := by decide +kernel
theorem dX11_layLeft_105 : decode cX11_layLeft 105 = .ok (.iaload, 1) := by decide +kernel
theorem dX11_layLeft_106 : decode cX11_layLeft 106 = .ok (.iconst 1, 1) := by decide +kernel
theorem dX11_layLeft_107 : decode cX11_layLeft 107 = .ok (.iadd, 1) := by decide +kernel
theorem dX11_layLeft_108 : decode cX11_layLeft 108 = .ok (.goto 9, 3) := by decide +kernel
theorem dX11_layLeft_111 : decode cX11_layLeft 111 = .ok (.aload_n 0, 1) := by decide +kernel
theorem dX11_layLeft_112 : decode cX11_layLeft 112 = .ok (.getfield 120, 3) := by decide +kernel
theorem dX11_layLeft_115 : decode cX11_layLeft 115 = .ok (.iload_n 3, 1) := by decide +kernel
theorem dX11_layLeft_116 : decode cX11_layLeft 116 = .ok (.iaload, 1) := by decide +kernel
theorem dX11_layLeft_117 : decode cX11_layLeft 117 = .ok (.iastore, 1) := by decide +kernel
theorem dX11_layLeft_118 : decode cX11_layLeft 118 = .ok (.iinc 4 1, 3) := by decide +kernel
theorem dX11_layLeft_121 : decode cX11_layLeft 121 = .ok (.goto (-66), 3) := by decide +kernel
theorem dX11_layLeft_124 : decode cX11_layLeft 124 = .ok (.iinc 3 1, 3) := by decide +kernel
theorem dX11_layLeft_127 : decode cX11_layLeft 127 = .ok (.goto (-85), 3) := by decide +kernel
theorem dX11_layLeft_130 : decode cX11_layLeft 130 = .ok (.iinc 2 1, 3) := by decide +kernel
theorem dX11_layLeft_133 : decode cX11_layLeft 133 = .ok (.goto (-99), 3) := by decide +kernel
theorem dX11_layLeft_136 : decode cX11_layLeft 136 = .ok (.return_, 1) := by decide +kernel
theorem dX11_chain_0 : decode cX11_chain 0 = .ok (.aload_n 0, 1) := by decide +kernel
theorem dX11_chain_1 : decode cX11_chain 1 = .ok (.iconst 0, 1) := by decide +kernel
theorem dX11_chain_2 : decode cX11_chain 2 = .ok (.putfield 152, 3) := by decide +kernel
theorem dX11_chain_5 : decode cX11_chain 5 = .ok (.aload_n 0, 1) := by decide +kernel
theorem dX11_chain_6 : decode cX11_chain 6 = .ok (.iload_n 1, 1) := by decide +kernel
theorem dX11_chain_7 : decode cX11_chain 7 = .ok (.invokevirtual 198, 3) := by decide +kernel
theorem dX11_chain_10 : decode cX11_chain 10 = .ok (.ifCond .eq 16, 3) := by decide +kernel
theorem dX11_chain_13 : decode cX11_chain 13 = .ok (.aload_n 0, 1) := by decide +kernel
theorem dX11_chain_14 : decode cX11_chain 14 = .ok (.iload_n 2, 1) := by decide +kernel
theorem dX11_chain_15 : decode cX11_chain 15 = .ok (.invokevirtual 198, 3) := by decide +kernel
theorem dX11_chain_18 : decode cX11_chain 18 = .ok (.ifCond .eq 8, 3) := by decide +kernel
theorem dX11_chain_21 : decode cX11_chain 21 = .ok (.iload_n 3, 1) := by decide +kernel
theorem dX11_chain_22 : decode cX11_chain 22 = .ok (.iconst (-1), 1) := by decide +kernel
theorem dX11_chain_23 : decode cX11_chain 23 = .ok (.if_icmp .ge 5, 3) := by decide +kernel
theorem dX11_chain_26 : decode cX11_chain 26 = .ok (.iconst (-1), 1) := by decide +kernel
theorem dX11_chain_27 : decode cX11_chain 27 = .ok (.ireturn, 1) := by decide +kernel
theorem dX11_chain_28 : decode cX11_chain 28 = .ok (.aload_n 0, 1) := by decide +kernel
theorem dX11_chain_29 : decode cX11_chain 29 = .ok (.iload_n 2, 1) := by decide +kernel
theorem dX11_chain_30 : decode cX11_chain 30 = .ok (.invokevirtual 482, 3) := by decide +kernel
theorem dX11_chain_33 : decode cX11_chain 33 = .ok (.aload_n 0, 1) := by decide +kernel
theorem dX11_chain_34 : decode cX11_chain 34 = .ok (.getfield 120, 3) := by decide +kernel
theorem dX11_chain_37 : decode cX11_chain 37 = .ok (.iload_n 1, 1) := by decide +kernel
theorem dX11_chain_38 : decode cX11_chain 38 = .ok (.iaload, 1) := by decide +kernel
theorem dX11_chain_39 : decode cX11_chain 39 = .ok (.ldc_w 481, 3) := by decide +kernel
theorem dX11_chain_42 : decode cX11_chain 42 = .ok (.if_icmp .eq 13, 3) := by decide +kernel
theorem dX11_chain_45 : decode cX11_chain 45 = .ok (.iload_n 3, 1) := by decide +kernel
theorem dX11_chain_46 : decode cX11_chain 46 = .ok (.aload_n 0, 1) := by decide +kernel
theorem dX11_chain_47 : decode cX11_chain 47 = .ok (.getfield 120, 3) := by decide +kernel
theorem dX11_chain_50 : decode cX11_chain 50 = .ok (.iload_n 1, 1) := by decide +kernel
theorem dX11_chain_51 : decode cX11_chain 51 = .ok (.iaload, 1) := by decide +kernel
theorem dX11_chain_52 : decode cX11_chain 52 = .ok (.if_icmp .lt 5, 3) := by decide +kernel
theorem dX11_chain_55 : decode cX11_chain 55 = .ok (.iconst (-1), 1) := by decide +kernel
theorem dX11_chain_56 : decode cX11_chain 56 = .ok (.ireturn, 1) := by decide +kernel
theorem dX11_chain_57 : decode cX11_chain 57 = .ok (.iload_n 3, 1) := by decide +kernel
theorem dX11_chain_58 : decode cX11_chain 58 = .ok (.iconst (-1), 1) := by decide +kernel
theorem dX11_chain_59 : decode cX11_chain 59 = .ok (.if_icmp .ne 10, 3) := by decide +kernel
theorem dX11_chain_62 : decode cX11_chain 62 = .ok (.aload_n 0, 1) := by decide +kernel
theorem dX11_chain_63 : decode cX11_chain 63 = .ok (.getfield 120, 3) := by decide +kernel
theorem dX11_chain_66 : decode cX11_chain 66 = .ok (.iload_n 1, 1) := by decide +kernel
theorem dX11_chain_67 : decode cX11_chain 67 = .ok (.iaload, 1) := by decide +kernel
theorem dX11_chain_68 : decode cX11_chain 68 = .ok (.ireturn, 1) := by decide +kernel
theorem dX11_chain_69 : decode cX11_chain 69 = .ok (.iload_n 1, 1) := by decide +kernel
theorem dX11_chain_70 : decode cX11_chain 70 = .ok (.istore 4, 2) := by decide +kernel
theorem dX11_chain_72 : decode cX11_chain 72 = .ok (.iconst 0, 1) := by decide +kernel
theorem dX11_chain_73 : decode cX11_chain 73 = .ok (.istore 5, 2) := by decide +kernel
theorem dX11_chain_75 : decode cX11_chain 75 = .ok (.iload 5, 2) := by decide +kernel
theorem dX11_chain_77 : decode cX11_chain 77 = .ok (.iload_n 3, 1) := by decide +kernel
theorem dX11_chain_78 : decode cX11_chain 78 = .ok (.if_icmp .gt 52, 3) := by decide +kernel
theorem dX11_chain_81 : decode cX11_chain 81 = .ok (.iconst 0, 1) := by decide +kernel
theorem dX11_chain_82 : decode cX11_chain 82 = .ok (.istore 6, 2) := by decide +kernel
theorem dX11_chain_84 : decode cX11_chain 84 = .ok (.aload_n 0, 1) := by decide +kernel
theorem dX11_chain_85 : decode cX11_chain 85 = .ok (.iload 6, 2) := by decide +kernel
theorem dX11_chain_87 : decode cX11_chain 87 = .ok (.iload 4, 2) := by decide +kernel
theorem dX11_chain_89 : decode cX11_chain 89 = .ok (.invokevirtual 204, 3) := by decide +kernel
theorem dX11_chain_92 : decode cX11_chain 92 = .ok (.ifCond .eq 22, 3) := by decide +kernel
theorem dX11_chain_95 : decode cX11_chain 95 = .ok (.aload_n 0, 1) := by decide +kernel
theorem dX11_chain_96 : decode cX11_chain 96 = .ok (.getfield 120, 3) := by decide +kernel
theorem dX11_chain_99 : decode cX11_chain 99 = .ok (.iload 6, 2) := by decide +kernel
theorem dX11_chain_101 : decode cX11_chain 101 = .ok (.iaload, 1) := by decide +kernel
theorem dX11_chain_102 : decode cX11_chain 102 = .ok (.aload_n 0, 1) := by decide +kernel
theorem dX11_chain_103 : decode cX11_chain 103 = .ok (.getfield 120, 3) := by decide +kernel
theorem dX11_chain_106 : decode cX11_chain 106 = .ok (.iload 4, 2) := by decide +kernel
theorem dX11_chain_108 : decode cX11_chain 108 = .ok (.iaload, 1) := by decide +kernel
theorem dX11_chain_109 : decode cX11_chain 109 = .ok (.iconst 1, 1) := by decide +kernel
theorem dX11_chain_110 : decode cX11_chain 110 = .ok (.isub, 1) := by decide +kernel
theorem dX11_chain_111 : decode cX11_chain 111 = .ok (.if_icmp .eq 9, 3) := by decide +kernel
theorem dX11_chain_114 : decode cX11_chain 114 = .ok (.iinc 6 1, 3) := by decide +kernel
theorem dX11_chain_117 : decode cX11_chain 117 = .ok (.goto (-33), 3) := by decide +kernel
theorem dX11_chain_120 : decode cX11_chain 120 = .ok (.iload 6, 2) := by decide +kernel
theorem dX11_chain_122 : decode cX11_chain 122 = .ok (.istore 4, 2) := by decide +kernel
theorem dX11_chain_124 : decode cX11_chain 124 = .ok (.iinc 5 1, 3) := by decide +kernel
theorem dX11_chain_127 : decode cX11_chain 127 = .ok (.goto (-52), 3) := by decide +kernel
theorem dX11_chain_130 : decode cX11_chain 130 = .ok (.iload 4, 2) := by decide +kernel
theorem dX11_chain_132 : decode cX11_chain 132 = .ok (.ireturn, 1) := by decide +kernel
theorem dX11_hearAll_0 : decode cX11_hearAll 0 = .ok (.iconst 1, 1) := by decide +kernel
theorem dX11_hearAll_1 : decode cX11_hearAll 1 = .ok (.istore_n 2, 1) := by decide +kernel
theorem dX11_hearAll_2 : decode cX11_hearAll 2 = .ok (.iconst 0, 1) := by decide +kernel
theorem dX11_hearAll_3 : decode cX11_hearAll 3 = .ok (.istore_n 3, 1) := by decide +kernel
theorem dX11_hearAll_4 : decode cX11_hearAll 4 = .ok (.iload_n 3, 1) := by decide +kernel
theorem dX11_hearAll_5 : decode cX11_hearAll 5 = .ok (.aload_n 0, 1) := by decide +kernel
theorem dX11_hearAll_6 : decode cX11_hearAll 6 = .ok (.getfield 13, 3) := by decide +kernel
theorem dX11_hearAll_9 : decode cX11_hearAll 9 = .ok (.iconst 0, 1) := by decide +kernel
theorem dX11_hearAll_10 : decode cX11_hearAll 10 = .ok (.iaload, 1) := by decide +kernel
theorem dX11_hearAll_11 : decode cX11_hearAll 11 = .ok (.if_icmp .ge 98, 3) := by decide +kernel
theorem dX11_hearAll_14 : decode cX11_hearAll 14 = .ok (.aload_n 0, 1) := by decide +kernel
theorem dX11_hearAll_15 : decode cX11_hearAll 15 = .ok (.iload_n 3, 1) := by decide +kernel
theorem dX11_hearAll_16 : decode cX11_hearAll 16 = .ok (.invokevirtual 183, 3) := by decide +kernel
theorem dX11_hearAll_19 : decode cX11_hearAll 19 = .ok (.ifCond .ne 11, 3) := by decide +kernel
theorem dX11_hearAll_22 : decode cX11_hearAll 22 = .ok (.iload_n 1, 1) := by decide +kernel
theorem dX11_hearAll_23 : decode cX11_hearAll 23 = .ok (.iload_n 3, 1) := by decide +kernel
theorem dX11_hearAll_24 : decode cX11_hearAll 24 = .ok (.invokestatic 485, 3) := by decide +kernel
theorem dX11_hearAll_27 : decode cX11_hearAll 27 = .ok (.ifCond .eq 7, 3) := by decide +kernel
theorem dX11_hearAll_30 : decode cX11_hearAll 30 = .ok (.iconst 1, 1) := by decide +kernel
theorem dX11_hearAll_31 : decode cX11_hearAll 31 = .ok (.goto 4, 3) := by decide +kernel
theorem dX11_hearAll_34 : decode cX11_hearAll 34 = .ok (.iconst 0, 1) := by decide +kernel
theorem dX11_hearAll_35 : decode cX11_hearAll 35 = .ok (.istore 4, 2) := by decide +kernel
theorem dX11_hearAll_37 : decode cX11_hearAll 37 = .ok (.iconst 0, 1) := by decide +kernel
theorem dX11_hearAll_38 : decode cX11_hearAll 38 = .ok (.istore 5, 2) := by decide +kernel
theorem dX11_hearAll_40 : decode cX11_hearAll 40 = .ok (.iload 5, 2) := by decide +kernel
theorem dX11_hearAll_42 : decode cX11_hearAll 42 = .ok (.aload_n 0, 1) := by decide +kernel
theorem dX11_hearAll_43 : decode cX11_hearAll 43 = .ok (.getfield 13, 3) := by decide +kernel
theorem dX11_hearAll_46 : decode cX11_hearAll 46 = .ok (.iconst 0, 1) := by decide +kernel
theorem dX11_hearAll_47 : decode cX11_hearAll 47 = .ok (.iaload, 1) := by decide +kernel
theorem dX11_hearAll_48 : decode cX11_hearAll 48 = .ok (.if_icmp .ge 40, 3) := by decide +kernel
theorem dX11_hearAll_51 : decode cX11_hearAll 51 = .ok (.iload 4, 2) := by decide +kernel
theorem dX11_hearAll_53 : decode cX11_hearAll 53 = .ok (.ifCond .ne 22, 3) := by decide +kernel
theorem dX11_hearAll_56 : decode cX11_hearAll 56 = .ok (.iload_n 1, 1) := by decide +kernel
theorem dX11_hearAll_57 : decode cX11_hearAll 57 = .ok (.iload 5, 2) := by decide +kernel
theorem dX11_hearAll_59 : decode cX11_hearAll 59 = .ok (.invokestatic 485, 3) := by decide +kernel
theorem dX11_hearAll_62 : decode cX11_hearAll 62 = .ok (.ifCond .eq 17, 3) := by decide +kernel
theorem dX11_hearAll_65 : decode cX11_hearAll 65 = .ok (.aload_n 0, 1) := by decide +kernel
theorem dX11_hearAll_66 : decode cX11_hearAll 66 = .ok (.iload 5, 2) := by decide +kernel
theorem dX11_hearAll_68 : decode cX11_hearAll 68 = .ok (.iload_n 3, 1) := by decide +kernel
theorem dX11_hearAll_69 : decode cX11_hearAll 69 = .ok (.invokevirtual 204, 3) := by decide +kernel
theorem dX11_hearAll_72 : decode cX11_hearAll 72 = .ok (.ifCond .eq 7, 3) := by decide +kernel
theorem dX11_hearAll_75 : decode cX11_hearAll 75 = .ok (.iconst 1, 1) := by decide +kernel
theorem dX11_hearAll_76 : decode cX11_hearAll 76 = .ok (.goto 4, 3) := by decide +kernel
theorem dX11_hearAll_79 : decode cX11_hearAll 79 = .ok (.iconst 0, 1) := by decide +kernel
theorem dX11_hearAll_80 : decode cX11_hearAll 80 = .ok (.istore 4, 2) := by decide +kernel
theorem dX11_hearAll_82 : decode cX11_hearAll 82 = .ok (.iinc 5 1, 3) := by decide +kernel
theorem dX11_hearAll_85 : decode cX11_hearAll 85 = .ok (.goto (-45), 3) := by decide +kernel
theorem dX11_hearAll_88 : decode cX11_hearAll 88 = .ok (.iload_n 2, 1) := by decide +kernel
theorem dX11_hearAll_89 : decode cX11_hearAll 89 = .ok (.ifCond .eq 12, 3) := by decide +kernel
theorem dX11_hearAll_92 : decode cX11_hearAll 92 = .ok (.iload 4, 2) := by decide +kernel
theorem dX11_hearAll_94 : decode cX11_hearAll 94 = .ok (.ifCond .eq 7, 3) := by decide +kernel
theorem dX11_hearAll_97 : decode cX11_hearAll 97 = .ok (.iconst 1, 1) := by decide +kernel
theorem dX11_hearAll_98 : decode cX11_hearAll 98 = .ok (.goto 4, 3) := by decide +kernel
theorem dX11_hearAll_101 : decode cX11_hearAll 101 = .ok (.iconst 0, 1) := by decide +kernel
theorem dX11_hearAll_102 : decode cX11_hearAll 102 = .ok (.istore_n 2, 1) := by decide +kernel
theorem dX11_hearAll_103 : decode cX11_hearAll 103 = .ok (.iinc 3 1, 3) := by decide +kernel
theorem dX11_hearAll_106 : decode cX11_hearAll 106 = .ok (.goto (-102), 3) := by decide +kernel
theorem dX11_hearAll_109 : decode cX11_hearAll 109 = .ok (.iload_n 2, 1) := by decide +kernel
theorem dX11_hearAll_110 : decode cX11_hearAll 110 = .ok (.ireturn, 1) := by decide +kernel
theorem dX11_ears_0 : decode cX11_ears 0 = .ok (.aload_n 0, 1) := by decide +kernel
theorem dX11_ears_1 : decode cX11_ears 1 = .ok (.iconst 0, 1) := by decide +kernel
theorem dX11_ears_2 : decode cX11_ears 2 = .ok (.putfield 152, 3) := by decide +kernel
theorem dX11_ears_5 : decode cX11_ears 5 = .ok (.iload_n 1, 1) := by decide +kernel
theorem dX11_ears_6 : decode cX11_ears 6 = .ok (.i2l, 1) := by decide +kernel
theorem dX11_ears_7 : decode cX11_ears 7 = .ok (.lconst 0, 1) := by decide +kernel
theorem dX11_ears_8 : decode cX11_ears 8 = .ok (.lconst 1, 1) := by decide +kernel
theorem dX11_ears_9 : decode cX11_ears 9 = .ok (.invokestatic 172, 3) := by decide +kernel
theorem dX11_ears_12 : decode cX11_ears 12 = .ok (.ifCond .ne 5, 3) := by decide +kernel
theorem dX11_ears_15 : decode cX11_ears 15 = .ok (.iconst (-1), 1) := by decide +kernel
theorem dX11_ears_16 : decode cX11_ears 16 = .ok (.ireturn, 1) := by decide +kernel
theorem dX11_ears_17 : decode cX11_ears 17 = .ok (.aload_n 0, 1) := by decide +kernel
theorem dX11_ears_18 : decode cX11_ears 18 = .ok (.invokevirtual 488, 3) := by decide +kernel
theorem dX11_ears_21 : decode cX11_ears 21 = .ok (.istore_n 2, 1) := by decide +kernel
theorem dX11_ears_22 : decode cX11_ears 22 = .ok (.ldc_w 481, 3) := by decide +kernel
theorem dX11_ears_25 : decode cX11_ears 25 = .ok (.istore_n 3, 1) := by decide +kernel
theorem dX11_ears_26 : decode cX11_ears 26 = .ok (.iconst 0, 1) := by decide +kernel
theorem dX11_ears_27 : decode cX11_ears 27 = .ok (.istore 4, 2) := by decide +kernel
theorem dX11_ears_29 : decode cX11_ears 29 = .ok (.iconst 0, 1) := by decide +kernel
theorem dX11_ears_30 : decode cX11_ears 30 = .ok (.istore 5, 2) := by decide +kernel
theorem dX11_ears_32 : decode cX11_ears 32 = .ok (.iload 5, 2) := by decide +kernel
theorem dX11_ears_34 : decode cX11_ears 34 = .ok (.iload_n 2, 1) := by decide +kernel
theorem dX11_ears_35 : decode cX11_ears 35 = .ok (.if_icmp .gt 46, 3) := by decide +kernel
theorem dX11_ears_38 : decode cX11_ears 38 = .ok (.iload 5, 2) := by decide +kernel
theorem dX11_ears_40 : decode cX11_ears 40 = .ok (.iload_n 2, 1) := by decide +kernel
theorem dX11_ears_41 : decode cX11_ears 41 = .ok (.iconst (-1), 1) := by decide +kernel
theorem dX11_ears_42 : decode cX11_ears 42 = .ok (.ixor, 1) := by decide +kernel
theorem dX11_ears_43 : decode cX11_ears 43 = .ok (.iand, 1) := by decide +kernel
theorem dX11_ears_44 : decode cX11_ears 44 = .ok (.ifCond .ne 31, 3) := by decide +kernel
theorem dX11_ears_47 : decode cX11_ears 47 = .ok (.iload 5, 2) := by decide +kernel
theorem dX11_ears_49 : decode cX11_ears 49 = .ok (.invokestatic 439, 3) := by decide +kernel
theorem dX11_ears_52 : decode cX11_ears 52 = .ok (.iload_n 3, 1) := by decide +kernel
theorem dX11_ears_53 : decode cX11_ears 53 = .ok (.if_icmp .ge 22, 3) := by decide +kernel
theorem dX11_ears_56 : decode cX11_ears 56 = .ok (.aload_n 0, 1) := by decide +kernel
theorem dX11_ears_57 : decode cX11_ears 57 = .ok (.iload 5, 2) := by decide +kernel
theorem dX11_ears_59 : decode cX11_ears 59 = .ok (.invokevirtual 491, 3) := by decide +kernel
theorem dX11_ears_62 : decode cX11_ears 62 = .ok (.ifCond .eq 13, 3) := by decide +kernel
theorem dX11_ears_65 : decode cX11_ears 65 = .ok (.iload 5, 2) := by decide +kernel
theorem dX11_ears_67 : decode cX11_ears 67 = .ok (.invokestatic 439, 3) := by decide +kernel
theorem dX11_ears_70 : decode cX11_ears 70 = .ok (.istore_n 3, 1) := by decide +kernel
theorem dX11_ears_71 : decode cX11_ears 71 = .ok (.iload 5, 2) := by decide +kernel
theorem dX11_ears_73 : decode cX11_ears 73 = .ok (.istore 4, 2) := by decide +kernel
theorem dX11_ears_75 : decode cX11_ears 75 = .ok (.iinc 5 1, 3) := by decide +kernel
theorem dX11_ears_78 : decode cX11_ears 78 = .ok (.goto (-46), 3) := by decide +kernel
theorem dX11_ears_81 : decode cX11_ears 81 = .ok (.iload_n 1, 1) := by decide +kernel
theorem dX11_ears_82 : decode cX11_ears 82 = .ok (.ifCond .ne 7, 3) := by decide +kernel
theorem dX11_ears_85 : decode cX11_ears 85 = .ok (.iload_n 3, 1) := by decide +kernel
theorem dX11_ears_86 : decode cX11_ears 86 = .ok (.goto 5, 3) := by decide +kernel
theorem dX11_ears_89 : decode cX11_ears 89 = .ok (.iload 4, 2) := by decide +kernel
theorem dX11_ears_91 : decode cX11_ears 91 = .ok (.ireturn, 1) := by decide +kernel
theorem dX11_heardBy_0 : decode cX11_heardBy 0 = .ok (.iconst 0, 1) := by decide +kernel
theorem dX11_heardBy_1 : decode cX11_heardBy 1 = .ok (.istore_n 2, 1) := by decide +kernel
theorem dX11_heardBy_2 : decode cX11_heardBy 2 = .ok (.iconst 0, 1) := by decide +kernel
theorem dX11_heardBy_3 : decode cX11_heardBy 3 = .ok (.istore_n 3, 1) := by decide +kernel
theorem dX11_heardBy_4 : decode cX11_heardBy 4 = .ok (.iload_n 3, 1) := by decide +kernel
theorem dX11_heardBy_5 : decode cX11_heardBy 5 = .ok (.aload_n 0, 1) := by decide +kernel
theorem dX11_heardBy_6 : decode cX11_heardBy 6 = .ok (.getfield 13, 3) := by decide +kernel
theorem dX11_heardBy_9 : decode cX11_heardBy 9 = .ok (.iconst 0, 1) := by decide +kernel
theorem dX11_heardBy_10 : decode cX11_heardBy 10 = .ok (.iaload, 1) := by decide +kernel
theorem dX11_heardBy_11 : decode cX11_heardBy 11 = .ok (.if_icmp .ge 26, 3) := by decide +kernel
theorem dX11_heardBy_14 : decode cX11_heardBy 14 = .ok (.iload_n 2, 1) := by decide +kernel
theorem dX11_heardBy_15 : decode cX11_heardBy 15 = .ok (.aload_n 0, 1) := by decide +kernel
theorem dX11_heardBy_16 : decode cX11_heardBy 16 = .ok (.iload_n 3, 1) := by decide +kernel
theorem dX11_heardBy_17 : decode cX11_heardBy 17 = .ok (.iload_n 1, 1) := by decide +kernel
theorem dX11_heardBy_18 : decode cX11_heardBy 18 = .ok (.invokevirtual 204, 3) := by decide +kernel
theorem dX11_heardBy_21 : decode cX11_heardBy 21 = .ok (.ifCond .eq 7, 3) := by decide +kernel
theorem dX11_heardBy_24 : decode cX11_heardBy 24 = .ok (.iconst 1, 1) := by decide +kernel
theorem dX11_heardBy_25 : decode cX11_heardBy 25 = .ok (.goto 4, 3) := by decide +kernel
theorem dX11_heardBy_28 : decode cX11_heardBy 28 = .ok (.iconst 0, 1) := by decide +kernel
theorem dX11_heardBy_29 : decode cX11_heardBy 29 = .ok (.iadd, 1) := by decide +kernel
theorem dX11_heardBy_30 : decode cX11_heardBy 30 = .ok (.istore_n 2, 1) := by decide +kernel
theorem dX11_heardBy_31 : decode cX11_heardBy 31 = .ok (.iinc 3 1, 3) := by decide +kernel
theorem dX11_heardBy_34 : decode cX11_heardBy 34 = .ok (.goto (-30), 3) := by decide +kernel
theorem dX11_heardBy_37 : decode cX11_heardBy 37 = .ok (.iload_n 2, 1) := by decide +kernel
theorem dX11_heardBy_38 : decode cX11_heardBy 38 = .ok (.ireturn, 1) := by decide +kernel
theorem dX11_loudest_0 : decode cX11_loudest 0 = .ok (.aload_n 0, 1) := by decide +kernel
theorem dX11_loudest_1 : decode cX11_loudest 1 = .ok (.iconst 0, 1) := by decide +kernel
theorem dX11_loudest_2 : decode cX11_loudest 2 = .ok (.putfield 152, 3) := by decide +kernel
theorem dX11_loudest_5 : decode cX11_loudest 5 = .ok (.iload_n 1, 1) := by decide +kernel
theorem dX11_loudest_6 : decode cX11_loudest 6 = .ok (.i2l, 1) := by decide +kernel
theorem dX11_loudest_7 : decode cX11_loudest 7 = .ok (.lconst 0, 1) := by decide +kernel
theorem dX11_loudest_8 : decode cX11_loudest 8 = .ok (.lconst 1, 1) := by decide +kernel
theorem dX11_loudest_9 : decode cX11_loudest 9 = .ok (.invokestatic 172, 3) := by decide +kernel
theorem dX11_loudest_12 : decode cX11_loudest 12 = .ok (.ifCond .ne 5, 3) := by decide +kernel
theorem dX11_loudest_15 : decode cX11_loudest 15 = .ok (.iconst (-1), 1) := by decide +kernel
theorem dX11_loudest_16 : decode cX11_loudest 16 = .ok (.ireturn, 1) := by decide +kernel
theorem dX11_loudest_17 : decode cX11_loudest 17 = .ok (.iconst (-1), 1) := by decide +kernel
theorem dX11_loudest_18 : decode cX11_loudest 18 = .ok (.istore_n 2, 1) := by decide +kernel
theorem dX11_loudest_19 : decode cX11_loudest 19 = .ok (.iconst (-1), 1) := by decide +kernel
theorem dX11_loudest_20 : decode cX11_loudest 20 = .ok (.istore_n 3, 1) := by decide +kernel
theorem dX11_loudest_21 : decode cX11_loudest 21 = .ok (.iconst 0, 1) := by decide +kernel
theorem dX11_loudest_22 : decode cX11_loudest 22 = .ok (.istore 4, 2) := by decide +kernel
theorem dX11_loudest_24 : decode cX11_loudest 24 = .ok (.iload 4, 2) := by decide +kernel
theorem dX11_loudest_26 : decode cX11_loudest 26 = .ok (.aload_n 0, 1) := by decide +kernel
theorem dX11_loudest_27 : decode cX11_loudest 27 = .ok (.getfield 13, 3) := by decide +kernel
theorem dX11_loudest_30 : decode cX11_loudest 30 = .ok (.iconst 0, 1) := by decide +kernel
theorem dX11_loudest_31 : decode cX11_loudest 31 = .ok (.iaload, 1) := by decide +kernel
theorem dX11_loudest_32 : decode cX11_loudest 32 = .ok (.if_icmp .ge 43, 3) := by decide +kernel
theorem dX11_loudest_35 : decode cX11_loudest 35 = .ok (.aload_n 0, 1) := by decide +kernel
theorem dX11_loudest_36 : decode cX11_loudest 36 = .ok (.iload 4, 2) := by decide +kernel
theorem dX11_loudest_38 : decode cX11_loudest 38 = .ok (.invokevirtual 494, 3) := by decide +kernel
theorem dX11_loudest_41 : decode cX11_loudest 41 = .ok (.istore 5, 2) := by decide +kernel
theorem dX11_loudest_43 : decode cX11_loudest 43 = .ok (.iload 5, 2) := by decide +kernel
theorem dX11_loudest_45 : decode cX11_loudest 45 = .ok (.iload_n 2, 1) := by decide +kernel
theorem dX11_loudest_46 : decode cX11_loudest 46 = .ok (.if_icmp .le 8, 3) := by decide +kernel
theorem dX11_loudest_49 : decode cX11_loudest 49 = .ok (.iload 4, 2) := by decide +kernel
theorem dX11_loudest_51 : decode cX11_loudest 51 = .ok (.goto 4, 3) := by decide +kernel
theorem dX11_loudest_54 : decode cX11_loudest 54 = .ok (.iload_n 3, 1) := by decide +kernel
theorem dX11_loudest_55 : decode cX11_loudest 55 = .ok (.istore_n 3, 1) := by decide +kernel
theorem dX11_loudest_56 : decode cX11_loudest 56 = .ok (.iload 5, 2) := by decide +kernel
theorem dX11_loudest_58 : decode cX11_loudest 58 = .ok (.iload_n 2, 1) := by decide +kernel
theorem dX11_loudest_59 : decode cX11_loudest 59 = .ok (.if_icmp .le 8, 3) := by decide +kernel
theorem dX11_loudest_62 : decode cX11_loudest 62 = .ok (.iload 5, 2) := by decide +kernel
theorem dX11_loudest_64 : decode cX11_loudest 64 = .ok (.goto 4, 3) := by decide +kernel
theorem dX11_loudest_67 : decode cX11_loudest 67 = .ok (.iload_n 2, 1) := by decide +kernel
theorem dX11_loudest_68 : decode cX11_loudest 68 = .ok (.istore_n 2, 1) := by decide +kernel
theorem dX11_loudest_69 : decode cX11_loudest 69 = .ok (.iinc 4 1, 3) := by decide +kernel
theorem dX11_loudest_72 : decode cX11_loudest 72 = .ok (.goto (-48), 3) := by decide +kernel
theorem dX11_loudest_75 : decode cX11_loudest 75 = .ok (.iload_n 1, 1) := by decide +kernel
theorem dX11_loudest_76 : decode cX11_loudest 76 = .ok (.ifCond .ne 7, 3) := by decide +kernel
theorem dX11_loudest_79 : decode cX11_loudest 79 = .ok (.iload_n 3, 1) := by decide +kernel
theorem dX11_loudest_80 : decode cX11_loudest 80 = .ok (.goto 4, 3) := by decide +kernel
theorem dX11_loudest_83 : decode cX11_loudest 83 = .ok (.iload_n 2, 1) := by decide +kernel
theorem dX11_loudest_84 : decode cX11_loudest 84 = .ok (.ireturn, 1) := by decide +kernel
theorem dX11_nearest_0 : decode cX11_nearest 0 = .ok (.aload_n 0, 1) := by decide +kernel
theorem dX11_nearest_1 : decode cX11_nearest 1 = .ok (.iconst 0, 1) := by decide +kernel
theorem dX11_nearest_2 : decode cX11_nearest 2 = .ok (.putfield 152, 3) := by decide +kernel
theorem dX11_nearest_5 : decode cX11_nearest 5 = .ok (.aload_n 0, 1) := by decide +kernel
theorem dX11_nearest_6 : decode cX11_nearest 6 = .ok (.iload_n 1, 1) := by decide +kernel
theorem dX11_nearest_7 : decode cX11_nearest 7 = .ok (.invokevirtual 198, 3) := by decide +kernel
theorem dX11_nearest_10 : decode cX11_nearest 10 = .ok (.ifCond .eq 11, 3) := by decide +kernel
theorem dX11_nearest_13 : decode cX11_nearest 13 = .ok (.aload_n 0, 1) := by decide +kernel
theorem dX11_nearest_14 : decode cX11_nearest 14 = .ok (.iload_n 2, 1) := by decide +kernel
theorem dX11_nearest_15 : decode cX11_nearest 15 = .ok (.invokevirtual 213, 3) := by decide +kernel
theorem dX11_nearest_18 : decode cX11_nearest 18 = .ok (.ifCond .ne 5, 3) := by decide +kernel
theorem dX11_nearest_21 : decode cX11_nearest 21 = .ok (.iconst (-1), 1) := by decide +kernel
theorem dX11_nearest_22 : decode cX11_nearest 22 = .ok (.ireturn, 1) := by decide +kernel
theorem dX11_nearest_23 : decode cX11_nearest 23 = .ok (.aload_n 0, 1) := by decide +kernel
theorem dX11_nearest_24 : decode cX11_nearest 24 = .ok (.getfield 13, 3) := by decide +kernel
theorem dX11_nearest_27 : decode cX11_nearest 27 = .ok (.bipush 10, 2) := by decide +kernel
theorem dX11_nearest_29 : decode cX11_nearest 29 = .ok (.iload_n 1, 1) := by decide +kernel
theorem dX11_nearest_30 : decode cX11_nearest 30 = .ok (.iadd, 1) := by decide +kernel
theorem dX11_nearest_31 : decode cX11_nearest 31 = .ok (.iaload, 1) := by decide +kernel
theorem dX11_nearest_32 : decode cX11_nearest 32 = .ok (.istore_n 3, 1) := by decide +kernel
theorem dX11_nearest_33 : decode cX11_nearest 33 = .ok (.iload_n 3, 1) := by decide +kernel
theorem dX11_nearest_34 : decode cX11_nearest 34 = .ok (.iconst (-1), 1) := by decide +kernel
theorem dX11_nearest_35 : decode cX11_nearest 35 = .ok (.if_icmp .ne 7, 3) := by decide +kernel
theorem dX11_nearest_38 : decode cX11_nearest 38 = .ok (.iconst 0, 1) := by decide +kernel
theorem dX11_nearest_39 : decode cX11_nearest 39 = .ok (.goto 4, 3) := by decide +kernel
theorem dX11_nearest_42 : decode cX11_nearest 42 = .ok (.iload_n 3, 1) := by decide +kernel
theorem dX11_nearest_43 : decode cX11_nearest 43 = .ok (.istore 4, 2) := by decide +kernel
theorem dX11_nearest_45 : decode cX11_nearest 45 = .ok (.ldc_w 481, 3) := by decide +kernel
theorem dX11_nearest_48 : decode cX11_nearest 48 = .ok (.istore 5, 2) := by decide +kernel
theorem dX11_nearest_50 : decode cX11_nearest 50 = .ok (.iconst (-1), 1) := by decide +kernel
theorem dX11_nearest_51 : decode cX11_nearest 51 = .ok (.istore 6, 2) := by decide +kernel
theorem dX11_nearest_53 : decode cX11_nearest 53 = .ok (.iconst 0, 1) := by decide +kernel
theorem dX11_nearest_54 : decode cX11_nearest 54 = .ok (.istore 7, 2) := by decide +kernel
theorem dX11_nearest_56 : decode cX11_nearest 56 = .ok (.iload 7, 2) := by decide +kernel
theorem dX11_nearest_58 : decode cX11_nearest 58 = .ok (.bipush 20, 2) := by decide +kernel
theorem dX11_nearest_60 : decode cX11_nearest 60 = .ok (.if_icmp .ge 76, 3) := by decide +kernel
theorem dX11_nearest_63 : decode cX11_nearest 63 = .ok (.aload_n 0, 1) := by decide +kernel
theorem dX11_nearest_64 : decode cX11_nearest 64 = .ok (.getfield 13, 3) := by decide +kernel
theorem dX11_nearest_67 : decode cX11_nearest 67 = .ok (.bipush 10, 2) := by decide +kernel
theorem dX11_nearest_69 : decode cX11_nearest 69 = .ok (.iload_n 1, 1) := by decide +kernel
theorem dX11_nearest_70 : decode cX11_nearest 70 = .ok (.iadd, 1) := by decide +kernel
theorem dX11_nearest_71 : decode cX11_nearest 71 = .ok (.iload 7, 2) := by decide +kernel
theorem dX11_nearest_73 : decode cX11_nearest 73 = .ok (.iastore, 1) := by decide +kernel
theorem dX11_nearest_74 : decode cX11_nearest 74 = .ok (.iload 7, 2) := by decide +kernel
theorem dX11_nearest_76 : decode cX11_nearest 76 = .ok (.iload 4, 2) := by decide +kernel
theorem dX11_nearest_78 : decode cX11_nearest 78 = .ok (.if_icmp .ge 11, 3) := by decide +kernel
theorem dX11_nearest_81 : decode cX11_nearest 81 = .ok (.iload 4, 2) := by decide +kernel
theorem dX11_nearest_83 : decode cX11_nearest 83 = .ok (.iload 7, 2) := by decide +kernel
theorem dX11_nearest_85 : decode cX11_nearest 85 = .ok (.isub, 1) := by decide +kernel
theorem dX11_nearest_86 : decode cX11_nearest 86 = .ok (.goto 8, 3) := by decide +kernel
theorem dX11_nearest_89 : decode cX11_nearest 89 = .ok (.iload 7, 2) := by decide +kernel
theorem dX11_nearest_91 : decode cX11_nearest 91 = .ok (.iload 4, 2) := by decide +kernel
theorem dX11_nearest_93 : decode cX11_nearest 93 = .ok (.isub, 1) := by decide +kernel
theorem dX11_nearest_94 : decode cX11_nearest 94 = .ok (.istore 8, 2) := by decide +kernel
theorem dX11_nearest_96 : decode cX11_nearest 96 = .ok (.iload 8, 2) := by decide +kernel
theorem dX11_nearest_98 : decode cX11_nearest 98 = .ok (.iload 5, 2) := by decide +kernel
theorem dX11_nearest_100 : decode cX11_nearest 100 = .ok (.if_icmp .ge 30, 3) := by decide +kernel
theorem dX11_nearest_103 : decode cX11_nearest 103 = .ok (.aload_n 0, 1) := by decide +kernel
theorem dX11_nearest_104 : decode cX11_nearest 104 = .ok (.iload_n 1, 1) := by decide +kernel
theorem dX11_nearest_105 : decode cX11_nearest 105 = .ok (.iload_n 2, 1) := by decide +kernel
theorem dX11_nearest_106 : decode cX11_nearest 106 = .ok (.invokevirtual 219, 3) := by decide +kernel
theorem dX11_nearest_109 : decode cX11_nearest 109 = .ok (.ifCond .eq 21, 3) := by decide +kernel
theorem dX11_nearest_112 : decode cX11_nearest 112 = .ok (.aload_n 0, 1) := by decide +kernel
theorem dX11_nearest_113 : decode cX11_nearest 113 = .ok (.iload_n 2, 1) := by decide +kernel
theorem dX11_nearest_114 : decode cX11_nearest 114 = .ok (.iload_n 1, 1) := by decide +kernel
theorem dX11_nearest_115 : decode cX11_nearest 115 = .ok (.invokevirtual 445, 3) := by decide +kernel
theorem dX11_nearest_118 : decode cX11_nearest 118 = .ok (.iconst (-1), 1) := by decide +kernel
theorem dX11_nearest_119 : decode cX11_nearest 119 = .ok (.if_icmp .eq 11, 3) := by decide +kernel
theorem dX11_nearest_122 : decode cX11_nearest 122 = .ok (.iload 8, 2) := by decide +kernel
theorem dX11_nearest_124 : decode cX11_nearest 124 = .ok (.istore 5, 2) := by decide +kernel
theorem dX11_nearest_126 : decode cX11_nearest 126 = .ok (.iload 7, 2) := by decide +kernel
theorem dX11_nearest_128 : decode cX11_nearest 128 = .ok (.istore 6, 2) := by decide +kernel
theorem dX11_nearest_130 : decode cX11_nearest 130 = .ok (.iinc 7 1, 3) := by decide +kernel
theorem dX11_nearest_133 : decode cX11_nearest 133 = .ok (.goto (-77), 3) := by decide +kernel
theorem dX11_nearest_136 : decode cX11_nearest 136 = .ok (.aload_n 0, 1) := by decide +kernel
theorem dX11_nearest_137 : decode cX11_nearest 137 = .ok (.getfield 13, 3) := by decide +kernel
theorem dX11_nearest_140 : decode cX11_nearest 140 = .ok (.bipush 10, 2) := by decide +kernel
theorem dX11_nearest_142 : decode cX11_nearest 142 = .ok (.iload_n 1, 1) := by decide +kernel
theorem dX11_nearest_143 : decode cX11_nearest 143 = .ok (.iadd, 1) := by decide +kernel
theorem dX11_nearest_144 : decode cX11_nearest 144 = .ok (.iload_n 3, 1) := by decide +kernel
theorem dX11_nearest_145 : decode cX11_nearest 145 = .ok (.iastore, 1) := by decide +kernel
theorem dX11_nearest_146 : decode cX11_nearest 146 = .ok (.iload 6, 2) := by decide +kernel
theorem dX11_nearest_148 : decode cX11_nearest 148 = .ok (.ireturn, 1) := by decide +kernel
theorem dX11_heard_0 : decode cX11_heard 0 = .ok (.aload_n 0, 1) := by decide +kernel
theorem dX11_heard_1 : decode cX11_heard 1 = .ok (.iconst 0, 1) := by decide +kernel
theorem dX11_heard_2 : decode cX11_heard 2 = .ok (.putfield 152, 3) := by decide +kernel
theorem dX11_heard_5 : decode cX11_heard 5 = .ok (.iload_n 1, 1) := by decide +kernel
theorem dX11_heard_6 : decode cX11_heard 6 = .ok (.i2l, 1) := by decide +kernel
theorem dX11_heard_7 : decode cX11_heard 7 = .ok (.lconst 0, 1) := by decide +kernel
theorem dX11_heard_8 : decode cX11_heard 8 = .ok (.ldc2_w 241, 3) := by decide +kernel
theorem dX11_heard_11 : decode cX11_heard 11 = .ok (.invokestatic 172, 3) := by decide +kernel
theorem dX11_heard_14 : decode cX11_heard 14 = .ok (.ifCond .ne 9, 3) := by decide +kernel
theorem dX11_heard_17 : decode cX11_heard 17 = .ok (.aload_n 0, 1) := by decide +kernel
theorem dX11_heard_18 : decode cX11_heard 18 = .ok (.iconst (-1), 1) := by decide +kernel
theorem dX11_heard_19 : decode cX11_heard 19 = .ok (.invokevirtual 161, 3) := by decide +kernel
theorem dX11_heard_22 : decode cX11_heard 22 = .ok (.ireturn, 1) := by decide +kernel
theorem dX11_heard_23 : decode cX11_heard 23 = .ok (.aload_n 0, 1) := by decide +kernel
theorem dX11_heard_24 : decode cX11_heard 24 = .ok (.getfield 13, 3) := by decide +kernel
theorem dX11_heard_27 : decode cX11_heard 27 = .ok (.iconst 2, 1) := by decide +kernel
theorem dX11_heard_28 : decode cX11_heard 28 = .ok (.iaload, 1) := by decide +kernel
theorem dX11_heard_29 : decode cX11_heard 29 = .ok (.istore_n 2, 1) := by decide +kernel
theorem dX11_heard_30 : decode cX11_heard 30 = .ok (.iload_n 2, 1) := by decide +kernel
theorem dX11_heard_31 : decode cX11_heard 31 = .ok (.bipush 6, 2) := by decide +kernel
theorem dX11_heard_33 : decode cX11_heard 33 = .ok (.if_icmp .ne 10, 3) := by decide +kernel
theorem dX11_heard_36 : decode cX11_heard 36 = .ok (.aload_n 0, 1) := by decide +kernel
theorem dX11_heard_37 : decode cX11_heard 37 = .ok (.bipush (-5), 2) := by decide +kernel
theorem dX11_heard_39 : decode cX11_heard 39 = .ok (.invokevirtual 161, 3) := by decide +kernel
theorem dX11_heard_42 : decode cX11_heard 42 = .ok (.ireturn, 1) := by decide +kernel
theorem dX11_heard_43 : decode cX11_heard 43 = .ok (.aload_n 0, 1) := by decide +kernel
theorem dX11_heard_44 : decode cX11_heard 44 = .ok (.getfield 13, 3) := by decide +kernel
theorem dX11_heard_47 : decode cX11_heard 47 = .ok (.bipush 84, 2) := by decide +kernel
theorem dX11_heard_49 : decode cX11_heard 49 = .ok (.iload_n 2, 1) := by decide +kernel
theorem dX11_heard_50 : decode cX11_heard 50 = .ok (.iadd, 1) := by decide +kernel
theorem dX11_heard_51 : decode cX11_heard 51 = .ok (.iload_n 1, 1) := by decide +kernel
theorem dX11_heard_52 : decode cX11_heard 52 = .ok (.iastore, 1) := by decide +kernel
theorem dX11_heard_53 : decode cX11_heard 53 = .ok (.aload_n 0, 1) := by decide +kernel
theorem dX11_heard_54 : decode cX11_heard 54 = .ok (.getfield 13, 3) := by decide +kernel
theorem dX11_heard_57 : decode cX11_heard 57 = .ok (.iconst 2, 1) := by decide +kernel
theorem dX11_heard_58 : decode cX11_heard 58 = .ok (.dup2, 1) := by decide +kernel
theorem dX11_heard_59 : decode cX11_heard 59 = .ok (.iaload, 1) := by decide +kernel
theorem dX11_heard_60 : decode cX11_heard 60 = .ok (.iconst 1, 1) := by decide +kernel
theorem dX11_heard_61 : decode cX11_heard 61 = .ok (.iadd, 1) := by decide +kernel
theorem dX11_heard_62 : decode cX11_heard 62 = .ok (.iastore, 1) := by decide +kernel
theorem dX11_heard_63 : decode cX11_heard 63 = .ok (.aload_n 0, 1) := by decide +kernel
theorem dX11_heard_64 : decode cX11_heard 64 = .ok (.iload_n 2, 1) := by decide +kernel
theorem dX11_heard_65 : decode cX11_heard 65 = .ok (.iconst 1, 1) := by decide +kernel
theorem dX11_heard_66 : decode cX11_heard 66 = .ok (.iadd, 1) := by decide +kernel
theorem dX11_heard_67 : decode cX11_heard 67 = .ok (.invokevirtual 161, 3) := by decide +kernel
theorem dX11_heard_70 : decode cX11_heard 70 = .ok (.ireturn, 1) := by decide +kernel
theorem dX11_forget_0 : decode cX11_forget 0 = .ok (.aload_n 0, 1) := by decide +kernel
theorem dX11_forget_1 : decode cX11_forget 1 = .ok (.iconst 0, 1) := by decide +kernel
theorem dX11_forget_2 : decode cX11_forget 2 = .ok (.putfield 152, 3) := by decide +kernel
theorem dX11_forget_5 : decode cX11_forget 5 = .ok (.aload_n 0, 1) := by decide +kernel
theorem dX11_forget_6 : decode cX11_forget 6 = .ok (.getfield 13, 3) := by decide +kernel
theorem dX11_forget_9 : decode cX11_forget 9 = .ok (.iconst 2, 1) := by decide +kernel
theorem dX11_forget_10 : decode cX11_forget 10 = .ok (.iaload, 1) := by decide +kernel
theorem dX11_forget_11 : decode cX11_forget 11 = .ok (.istore_n 1, 1) := by decide +kernel
theorem dX11_forget_12 : decode cX11_forget 12 = .ok (.aload_n 0, 1) := by decide +kernel
theorem dX11_forget_13 : decode cX11_forget 13 = .ok (.getfield 13, 3) := by decide +kernel
theorem dX11_forget_16 : decode cX11_forget 16 = .ok (.iconst 2, 1) := by decide +kernel
theorem dX11_forget_17 : decode cX11_forget 17 = .ok (.iconst 0, 1) := by decide +kernel
theorem dX11_forget_18 : decode cX11_forget 18 = .ok (.iastore, 1) := by decide +kernel
theorem dX11_forget_19 : decode cX11_forget 19 = .ok (.iload_n 1, 1) := by decide +kernel
theorem dX11_forget_20 : decode cX11_forget 20 = .ok (.ireturn, 1) := by decide +kernel
theorem dX11_thatCanBe_0 : decode cX11_thatCanBe 0 = .ok (.iconst 0, 1) := by decide +kernel
theorem dX11_thatCanBe_1 : decode cX11_thatCanBe 1 = .ok (.istore_n 1, 1) := by decide +kernel
theorem dX11_thatCanBe_2 : decode cX11_thatCanBe 2 = .ok (.iconst 0, 1) := by decide +kernel
theorem dX11_thatCanBe_3 : decode cX11_thatCanBe 3 = .ok (.istore_n 2, 1) := by decide +kernel
theorem dX11_thatCanBe_4 : decode cX11_thatCanBe 4 = .ok (.iload_n 2, 1) := by decide +kernel
theorem dX11_thatCanBe_5 : decode cX11_thatCanBe 5 = .ok (.aload_n 0, 1) := by decide +kernel
theorem dX11_thatCanBe_6 : decode cX11_thatCanBe 6 = .ok (.getfield 13, 3) := by decide +kernel
theorem dX11_thatCanBe_9 : decode cX11_thatCanBe 9 = .ok (.iconst 1, 1) := by decide +kernel
theorem dX11_thatCanBe_10 : decode cX11_thatCanBe 10 = .ok (.iaload, 1) := by decide +kernel
theorem dX11_thatCanBe_11 : decode cX11_thatCanBe 11 = .ok (.if_icmp .ge 76, 3) := by decide +kernel
theorem dX11_thatCanBe_14 : decode cX11_thatCanBe 14 = .ok (.iconst 1, 1) := by decide +kernel
theorem dX11_thatCanBe_15 : decode cX11_thatCanBe 15 = .ok (.istore_n 3, 1) := by decide +kernel
theorem dX11_thatCanBe_16 : decode cX11_thatCanBe 16 = .ok (.iconst 0, 1) := by decide +kernel
theorem dX11_thatCanBe_17 : decode cX11_thatCanBe 17 = .ok (.istore 4, 2) := by decide +kernel
theorem dX11_thatCanBe_19 : decode cX11_thatCanBe 19 = .ok (.iload 4, 2) := by decide +kernel
theorem dX11_thatCanBe_21 : decode cX11_thatCanBe 21 = .ok (.aload_n 0, 1) := by decide +kernel
theorem dX11_thatCanBe_22 : decode cX11_thatCanBe 22 = .ok (.getfield 13, 3) := by decide +kernel
theorem dX11_thatCanBe_25 : decode cX11_thatCanBe 25 = .ok (.iconst 2, 1) := by decide +kernel
theorem dX11_thatCanBe_26 : decode cX11_thatCanBe 26 = .ok (.iaload, 1) := by decide +kernel
theorem dX11_thatCanBe_27 : decode cX11_thatCanBe 27 = .ok (.if_icmp .ge 40, 3) := by decide +kernel
theorem dX11_thatCanBe_30 : decode cX11_thatCanBe 30 = .ok (.iload_n 3, 1) := by decide +kernel
theorem dX11_thatCanBe_31 : decode cX11_thatCanBe 31 = .ok (.ifCond .eq 28, 3) := by decide +kernel
theorem dX11_thatCanBe_34 : decode cX11_thatCanBe 34 = .ok (.aload_n 0, 1) := by decide +kernel
theorem dX11_thatCanBe_35 : decode cX11_thatCanBe 35 = .ok (.iload_n 2, 1) := by decide +kernel
theorem dX11_thatCanBe_36 : decode cX11_thatCanBe 36 = .ok (.invokevirtual 231, 3) := by decide +kernel
theorem dX11_thatCanBe_39 : decode cX11_thatCanBe 39 = .ok (.invokestatic 439, 3) := by decide +kernel
theorem dX11_thatCanBe_42 : decode cX11_thatCanBe 42 = .ok (.aload_n 0, 1) := by decide +kernel
theorem dX11_thatCanBe_43 : decode cX11_thatCanBe 43 = .ok (.getfield 13, 3) := by decide +kernel
theorem dX11_thatCanBe_46 : decode cX11_thatCanBe 46 = .ok (.bipush 84, 2) := by decide +kernel
theorem dX11_thatCanBe_48 : decode cX11_thatCanBe 48 = .ok (.iload 4, 2) := by decide +kernel
theorem dX11_thatCanBe_50 : decode cX11_thatCanBe 50 = .ok (.iadd, 1) := by decide +kernel
theorem dX11_thatCanBe_51 : decode cX11_thatCanBe 51 = .ok (.iaload, 1) := by decide +kernel
theorem dX11_thatCanBe_52 : decode cX11_thatCanBe 52 = .ok (.if_icmp .ne 7, 3) := by decide +kernel
theorem dX11_thatCanBe_55 : decode cX11_thatCanBe 55 = .ok (.iconst 1, 1) := by decide +kernel
theorem dX11_thatCanBe_56 : decode cX11_thatCanBe 56 = .ok (.goto 4, 3) := by decide +kernel
theorem dX11_thatCanBe_59 : decode cX11_thatCanBe 59 = .ok (.iconst 0, 1) := by decide +kernel
theorem dX11_thatCanBe_60 : decode cX11_thatCanBe 60 = .ok (.istore_n 3, 1) := by decide +kernel
theorem dX11_thatCanBe_61 : decode cX11_thatCanBe 61 = .ok (.iinc 4 1, 3) := by decide +kernel
theorem dX11_thatCanBe_64 : decode cX11_thatCanBe 64 = .ok (.goto (-45), 3) := by decide +kernel
theorem dX11_thatCanBe_67 : decode cX11_thatCanBe 67 = .ok (.iload_n 1, 1) := by decide +kernel
theorem dX11_thatCanBe_68 : decode cX11_thatCanBe 68 = .ok (.iload_n 3, 1) := by decide +kernel
theorem dX11_thatCanBe_69 : decode cX11_thatCanBe 69 = .ok (.ifCond .eq 9, 3) := by decide +kernel
theorem dX11_thatCanBe_72 : decode cX11_thatCanBe 72 = .ok (.iconst 1, 1) := by decide +kernel
theorem dX11_thatCanBe_73 : decode cX11_thatCanBe 73 = .ok (.iload_n 2, 1) := by decide +kernel
theorem dX11_thatCanBe_74 : decode cX11_thatCanBe 74 = .ok (.ishl, 1) := by decide +kernel
theorem dX11_thatCanBe_75 : decode cX11_thatCanBe 75 = .ok (.goto 4, 3) := by decide +kernel
theorem dX11_thatCanBe_78 : decode cX11_thatCanBe 78 = .ok (.iconst 0, 1) := by decide +kernel
theorem dX11_thatCanBe_79 : decode cX11_thatCanBe 79 = .ok (.ior, 1) := by decide +kernel
theorem dX11_thatCanBe_80 : decode cX11_thatCanBe 80 = .ok (.istore_n 1, 1) := by decide +kernel
theorem dX11_thatCanBe_81 : decode cX11_thatCanBe 81 = .ok (.iinc 2 1, 3) := by decide +kernel
theorem dX11_thatCanBe_84 : decode cX11_thatCanBe 84 = .ok (.goto (-80), 3) := by decide +kernel
theorem dX11_thatCanBe_87 : decode cX11_thatCanBe 87 = .ok (.iload_n 1, 1) := by decide +kernel
theorem dX11_thatCanBe_88 : decode cX11_thatCanBe 88 = .ok (.ireturn, 1) := by decide +kernel
theorem dX11_canBe_0 : decode cX11_canBe 0 = .ok (.aload_n 0, 1) := by decide +kernel
theorem dX11_canBe_1 : decode cX11_canBe 1 = .ok (.iconst 0, 1) := by decide +kernel
theorem dX11_canBe_2 : decode cX11_canBe 2 = .ok (.putfield 152, 3) := by decide +kernel
theorem dX11_canBe_5 : decode cX11_canBe 5 = .ok (.aload_n 0, 1) := by decide +kernel
theorem dX11_canBe_6 : decode cX11_canBe 6 = .ok (.invokevirtual 497, 3) := by decide +kernel
theorem dX11_canBe_9 : decode cX11_canBe 9 = .ok (.ireturn, 1) := by decide +kernel
theorem dX11_listen_0 : decode cX11_listen 0 = .ok (.aload_n 0, 1) := by decide +kernel
theorem dX11_listen_1 : decode cX11_listen 1 = .ok (.iconst 0, 1) := by decide +kernel
theorem dX11_listen_2 : decode cX11_listen 2 = .ok (.putfield 152, 3) := by decide +kernel
theorem dX11_listen_5 : decode cX11_listen 5 = .ok (.aload_n 0, 1) := by decide +kernel
theorem dX11_listen_6 : decode cX11_listen 6 = .ok (.invokevirtual 497, 3) := by decide +kernel
theorem dX11_listen_9 : decode cX11_listen 9 = .ok (.istore_n 2, 1) := by decide +kernel
theorem dX11_listen_10 : decode cX11_listen 10 = .ok (.iload_n 1, 1) := by decide +kernel
theorem dX11_listen_11 : decode cX11_listen 11 = .ok (.i2l, 1) := by decide +kernel
theorem dX11_listen_12 : decode cX11_listen 12 = .ok (.lconst 0, 1) := by decide +kernel
theorem dX11_listen_13 : decode cX11_listen 13 = .ok (.lconst 1, 1) := by decide +kernel
theorem dX11_listen_14 : decode cX11_listen 14 = .ok (.invokestatic 172, 3) := by decide +kernel
theorem dX11_listen_17 : decode cX11_listen 17 = .ok (.ifCond .eq 7, 3) := by decide +kernel
theorem dX11_listen_20 : decode cX11_listen 20 = .ok (.iload_n 2, 1) := by decide +kernel
theorem dX11_listen_21 : decode cX11_listen 21 = .ok (.ifCond .ne 5, 3) := by decide +kernel
theorem dX11_listen_24 : decode cX11_listen 24 = .ok (.iconst (-1), 1) := by decide +kernel
theorem dX11_listen_25 : decode cX11_listen 25 = .ok (.ireturn, 1) := by decide +kernel
theorem dX11_listen_26 : decode cX11_listen 26 = .ok (.ldc_w 481, 3) := by decide +kernel
theorem dX11_listen_29 : decode cX11_listen 29 = .ok (.istore_n 3, 1) := by decide +kernel
theorem dX11_listen_30 : decode cX11_listen 30 = .ok (.iconst (-1), 1) := by decide +kernel
theorem dX11_listen_31 : decode cX11_listen 31 = .ok (.istore 4, 2) := by decide +kernel
theorem dX11_listen_33 : decode cX11_listen 33 = .ok (.iconst 0, 1) := by decide +kernel
