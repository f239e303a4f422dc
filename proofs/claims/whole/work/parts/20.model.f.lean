abbrev yM_makeSides : MethodName := ⟨"FootprintRulesModel", "makeSides", "(IJ)Z"⟩
abbrev cM_makeSides : ByteArray := prog_14_method_26_code
abbrev wsM_makeSides : List Cond := .code yM_makeSides cM_makeSides 18 (some .boolean) :: zT
set_option maxRecDepth 100000 in
theorem zc_M_makeSides : Cond.code yM_makeSides cM_makeSides 18 (some .boolean) ∈ zT := zm 1240 (by rfl) (by rfl)
theorem dM_makeSides_0 : decode cM_makeSides 0 = .ok (.aload_n 0, 1) := by decide +kernel
theorem dM_makeSides_1 : decode cM_makeSides 1 = .ok (.getfield 29, 3) := by decide +kernel
theorem dM_makeSides_4 : decode cM_makeSides 4 = .ok (.iconst 0, 1) := by decide +kernel
theorem dM_makeSides_5 : decode cM_makeSides 5 = .ok (.baload, 1) := by decide +kernel
theorem dM_makeSides_6 : decode cM_makeSides 6 = .ok (.ifCond .eq 21, 3) := by decide +kernel
theorem dM_makeSides_9 : decode cM_makeSides 9 = .ok (.aload_n 0, 1) := by decide +kernel
theorem dM_makeSides_10 : decode cM_makeSides 10 = .ok (.getfield 29, 3) := by decide +kernel
theorem dM_makeSides_13 : decode cM_makeSides 13 = .ok (.iconst 1, 1) := by decide +kernel
theorem dM_makeSides_14 : decode cM_makeSides 14 = .ok (.baload, 1) := by decide +kernel
theorem dM_makeSides_15 : decode cM_makeSides 15 = .ok (.ifCond .eq 12, 3) := by decide +kernel
theorem dM_makeSides_18 : decode cM_makeSides 18 = .ok (.aload_n 0, 1) := by decide +kernel
theorem dM_makeSides_19 : decode cM_makeSides 19 = .ok (.getfield 29, 3) := by decide +kernel
theorem dM_makeSides_22 : decode cM_makeSides 22 = .ok (.iconst 2, 1) := by decide +kernel
theorem dM_makeSides_23 : decode cM_makeSides 23 = .ok (.baload, 1) := by decide +kernel
theorem dM_makeSides_24 : decode cM_makeSides 24 = .ok (.ifCond .ne 5, 3) := by decide +kernel
theorem dM_makeSides_27 : decode cM_makeSides 27 = .ok (.iconst 0, 1) := by decide +kernel
theorem dM_makeSides_28 : decode cM_makeSides 28 = .ok (.ireturn, 1) := by decide +kernel
theorem dM_makeSides_29 : decode cM_makeSides 29 = .ok (.aload_n 0, 1) := by decide +kernel
theorem dM_makeSides_30 : decode cM_makeSides 30 = .ok (.getfield 26, 3) := by decide +kernel
theorem dM_makeSides_33 : decode cM_makeSides 33 = .ok (.iconst 0, 1) := by decide +kernel
theorem dM_makeSides_34 : decode cM_makeSides 34 = .ok (.laload, 1) := by decide +kernel
theorem dM_makeSides_35 : decode cM_makeSides 35 = .ok (.ldc2_w 90, 3) := by decide +kernel
theorem dM_makeSides_38 : decode cM_makeSides 38 = .ok (.aload_n 0, 1) := by decide +kernel
theorem dM_makeSides_39 : decode cM_makeSides 39 = .ok (.iconst 0, 1) := by decide +kernel
theorem dM_makeSides_40 : decode cM_makeSides 40 = .ok (.invokevirtual 142, 3) := by decide +kernel
theorem dM_makeSides_43 : decode cM_makeSides 43 = .ok (.lmul, 1) := by decide +kernel
theorem dM_makeSides_44 : decode cM_makeSides 44 = .ok (.ladd, 1) := by decide +kernel
theorem dM_makeSides_45 : decode cM_makeSides 45 = .ok (.ldc2_w 90, 3) := by decide +kernel
theorem dM_makeSides_48 : decode cM_makeSides 48 = .ok (.lload_n 2, 1) := by decide +kernel
theorem dM_makeSides_49 : decode cM_makeSides 49 = .ok (.lmul, 1) := by decide +kernel
theorem dM_makeSides_50 : decode cM_makeSides 50 = .ok (.invokestatic 145, 3) := by decide +kernel
theorem dM_makeSides_53 : decode cM_makeSides 53 = .ok (.lstore 4, 2) := by decide +kernel
theorem dM_makeSides_55 : decode cM_makeSides 55 = .ok (.aload_n 0, 1) := by decide +kernel
theorem dM_makeSides_56 : decode cM_makeSides 56 = .ok (.getfield 23, 3) := by decide +kernel
theorem dM_makeSides_59 : decode cM_makeSides 59 = .ok (.iconst 1, 1) := by decide +kernel
theorem dM_makeSides_60 : decode cM_makeSides 60 = .ok (.laload, 1) := by decide +kernel
theorem dM_makeSides_61 : decode cM_makeSides 61 = .ok (.ldc2_w 90, 3) := by decide +kernel
theorem dM_makeSides_64 : decode cM_makeSides 64 = .ok (.aload_n 0, 1) := by decide +kernel
theorem dM_makeSides_65 : decode cM_makeSides 65 = .ok (.iconst 1, 1) := by decide +kernel
theorem dM_makeSides_66 : decode cM_makeSides 66 = .ok (.invokevirtual 142, 3) := by decide +kernel
theorem dM_makeSides_69 : decode cM_makeSides 69 = .ok (.lmul, 1) := by decide +kernel
theorem dM_makeSides_70 : decode cM_makeSides 70 = .ok (.lsub, 1) := by decide +kernel
theorem dM_makeSides_71 : decode cM_makeSides 71 = .ok (.ldc2_w 90, 3) := by decide +kernel
theorem dM_makeSides_74 : decode cM_makeSides 74 = .ok (.lload_n 2, 1) := by decide +kernel
theorem dM_makeSides_75 : decode cM_makeSides 75 = .ok (.lmul, 1) := by decide +kernel
theorem dM_makeSides_76 : decode cM_makeSides 76 = .ok (.invokestatic 149, 3) := by decide +kernel
theorem dM_makeSides_79 : decode cM_makeSides 79 = .ok (.lstore 6, 2) := by decide +kernel
theorem dM_makeSides_81 : decode cM_makeSides 81 = .ok (.aload_n 0, 1) := by decide +kernel
theorem dM_makeSides_82 : decode cM_makeSides 82 = .ok (.getfield 26, 3) := by decide +kernel
theorem dM_makeSides_85 : decode cM_makeSides 85 = .ok (.iconst 2, 1) := by decide +kernel
theorem dM_makeSides_86 : decode cM_makeSides 86 = .ok (.laload, 1) := by decide +kernel
theorem dM_makeSides_87 : decode cM_makeSides 87 = .ok (.ldc2_w 90, 3) := by decide +kernel
theorem dM_makeSides_90 : decode cM_makeSides 90 = .ok (.aload_n 0, 1) := by decide +kernel
theorem dM_makeSides_91 : decode cM_makeSides 91 = .ok (.iconst 2, 1) := by decide +kernel
theorem dM_makeSides_92 : decode cM_makeSides 92 = .ok (.invokevirtual 142, 3) := by decide +kernel
theorem dM_makeSides_95 : decode cM_makeSides 95 = .ok (.lmul, 1) := by decide +kernel
theorem dM_makeSides_96 : decode cM_makeSides 96 = .ok (.ladd, 1) := by decide +kernel
theorem dM_makeSides_97 : decode cM_makeSides 97 = .ok (.ldc2_w 90, 3) := by decide +kernel
theorem dM_makeSides_100 : decode cM_makeSides 100 = .ok (.lload_n 2, 1) := by decide +kernel
theorem dM_makeSides_101 : decode cM_makeSides 101 = .ok (.lmul, 1) := by decide +kernel
theorem dM_makeSides_102 : decode cM_makeSides 102 = .ok (.invokestatic 145, 3) := by decide +kernel
theorem dM_makeSides_105 : decode cM_makeSides 105 = .ok (.lstore 8, 2) := by decide +kernel
theorem dM_makeSides_107 : decode cM_makeSides 107 = .ok (.lload 6, 2) := by decide +kernel
theorem dM_makeSides_109 : decode cM_makeSides 109 = .ok (.lconst 0, 1) := by decide +kernel
theorem dM_makeSides_110 : decode cM_makeSides 110 = .ok (.lcmp, 1) := by decide +kernel
theorem dM_makeSides_111 : decode cM_makeSides 111 = .ok (.ifCond .le 18, 3) := by decide +kernel
theorem dM_makeSides_114 : decode cM_makeSides 114 = .ok (.lload 4, 2) := by decide +kernel
theorem dM_makeSides_116 : decode cM_makeSides 116 = .ok (.lload 6, 2) := by decide +kernel
theorem dM_makeSides_118 : decode cM_makeSides 118 = .ok (.lcmp, 1) := by decide +kernel
theorem dM_makeSides_119 : decode cM_makeSides 119 = .ok (.ifCond .le 10, 3) := by decide +kernel
theorem dM_makeSides_122 : decode cM_makeSides 122 = .ok (.lload 8, 2) := by decide +kernel
theorem dM_makeSides_124 : decode cM_makeSides 124 = .ok (.lconst 0, 1) := by decide +kernel
theorem dM_makeSides_125 : decode cM_makeSides 125 = .ok (.lcmp, 1) := by decide +kernel
theorem dM_makeSides_126 : decode cM_makeSides 126 = .ok (.ifCond .gt 5, 3) := by decide +kernel
theorem dM_makeSides_129 : decode cM_makeSides 129 = .ok (.iconst 0, 1) := by decide +kernel
theorem dM_makeSides_130 : decode cM_makeSides 130 = .ok (.ireturn, 1) := by decide +kernel
theorem dM_makeSides_131 : decode cM_makeSides 131 = .ok (.iload_n 1, 1) := by decide +kernel
theorem dM_makeSides_132 : decode cM_makeSides 132 = .ok (.ifCond .ne 7, 3) := by decide +kernel
theorem dM_makeSides_135 : decode cM_makeSides 135 = .ok (.lconst 0, 1) := by decide +kernel
theorem dM_makeSides_136 : decode cM_makeSides 136 = .ok (.goto 9, 3) := by decide +kernel
theorem dM_makeSides_139 : decode cM_makeSides 139 = .ok (.aload_n 0, 1) := by decide +kernel
theorem dM_makeSides_140 : decode cM_makeSides 140 = .ok (.getfield 26, 3) := by decide +kernel
theorem dM_makeSides_143 : decode cM_makeSides 143 = .ok (.iconst 3, 1) := by decide +kernel
theorem dM_makeSides_144 : decode cM_makeSides 144 = .ok (.laload, 1) := by decide +kernel
theorem dM_makeSides_145 : decode cM_makeSides 145 = .ok (.lstore 10, 2) := by decide +kernel
theorem dM_makeSides_147 : decode cM_makeSides 147 = .ok (.iload_n 1, 1) := by decide +kernel
theorem dM_makeSides_148 : decode cM_makeSides 148 = .ok (.ifCond .eq 20, 3) := by decide +kernel
theorem dM_makeSides_151 : decode cM_makeSides 151 = .ok (.aload_n 0, 1) := by decide +kernel
theorem dM_makeSides_152 : decode cM_makeSides 152 = .ok (.invokevirtual 152, 3) := by decide +kernel
theorem dM_makeSides_155 : decode cM_makeSides 155 = .ok (.ifCond .eq 11, 3) := by decide +kernel
theorem dM_makeSides_158 : decode cM_makeSides 158 = .ok (.lload 8, 2) := by decide +kernel
theorem dM_makeSides_160 : decode cM_makeSides 160 = .ok (.lload 10, 2) := by decide +kernel
theorem dM_makeSides_162 : decode cM_makeSides 162 = .ok (.lcmp, 1) := by decide +kernel
theorem dM_makeSides_163 : decode cM_makeSides 163 = .ok (.ifCond .lt 5, 3) := by decide +kernel
theorem dM_makeSides_166 : decode cM_makeSides 166 = .ok (.iconst 0, 1) := by decide +kernel
theorem dM_makeSides_167 : decode cM_makeSides 167 = .ok (.ireturn, 1) := by decide +kernel
theorem dM_makeSides_168 : decode cM_makeSides 168 = .ok (.iload_n 1, 1) := by decide +kernel
theorem dM_makeSides_169 : decode cM_makeSides 169 = .ok (.iconst 1, 1) := by decide +kernel
theorem dM_makeSides_170 : decode cM_makeSides 170 = .ok (.if_icmp .ne 16, 3) := by decide +kernel
theorem dM_makeSides_173 : decode cM_makeSides 173 = .ok (.aload_n 0, 1) := by decide +kernel
theorem dM_makeSides_174 : decode cM_makeSides 174 = .ok (.ldc2_w 90, 3) := by decide +kernel
theorem dM_makeSides_177 : decode cM_makeSides 177 = .ok (.ldc2_w 90, 3) := by decide +kernel
theorem dM_makeSides_180 : decode cM_makeSides 180 = .ok (.invokevirtual 155, 3) := by decide +kernel
theorem dM_makeSides_183 : decode cM_makeSides 183 = .ok (.ifCond .eq 21, 3) := by decide +kernel
theorem dM_makeSides_186 : decode cM_makeSides 186 = .ok (.iload_n 1, 1) := by decide +kernel
theorem dM_makeSides_187 : decode cM_makeSides 187 = .ok (.iconst 2, 1) := by decide +kernel
theorem dM_makeSides_188 : decode cM_makeSides 188 = .ok (.if_icmp .ne 18, 3) := by decide +kernel
theorem dM_makeSides_191 : decode cM_makeSides 191 = .ok (.aload_n 0, 1) := by decide +kernel
theorem dM_makeSides_192 : decode cM_makeSides 192 = .ok (.ldc2_w 159, 3) := by decide +kernel
theorem dM_makeSides_195 : decode cM_makeSides 195 = .ok (.ldc2_w 159, 3) := by decide +kernel
theorem dM_makeSides_198 : decode cM_makeSides 198 = .ok (.invokevirtual 155, 3) := by decide +kernel
theorem dM_makeSides_201 : decode cM_makeSides 201 = .ok (.ifCond .ne 5, 3) := by decide +kernel
theorem dM_makeSides_204 : decode cM_makeSides 204 = .ok (.iconst 0, 1) := by decide +kernel
theorem dM_makeSides_205 : decode cM_makeSides 205 = .ok (.ireturn, 1) := by decide +kernel
theorem dM_makeSides_206 : decode cM_makeSides 206 = .ok (.iload_n 1, 1) := by decide +kernel
theorem dM_makeSides_207 : decode cM_makeSides 207 = .ok (.ifCond .ne 7, 3) := by decide +kernel
theorem dM_makeSides_210 : decode cM_makeSides 210 = .ok (.lconst 1, 1) := by decide +kernel
theorem dM_makeSides_211 : decode cM_makeSides 211 = .ok (.goto 31, 3) := by decide +kernel
theorem dM_makeSides_214 : decode cM_makeSides 214 = .ok (.iload_n 1, 1) := by decide +kernel
theorem dM_makeSides_215 : decode cM_makeSides 215 = .ok (.iconst 1, 1) := by decide +kernel
theorem dM_makeSides_216 : decode cM_makeSides 216 = .ok (.if_icmp .ne 16, 3) := by decide +kernel
theorem dM_makeSides_219 : decode cM_makeSides 219 = .ok (.aload_n 0, 1) := by decide +kernel
theorem dM_makeSides_220 : decode cM_makeSides 220 = .ok (.getfield 26, 3) := by decide +kernel
theorem dM_makeSides_223 : decode cM_makeSides 223 = .ok (.iconst 4, 1) := by decide +kernel
theorem dM_makeSides_224 : decode cM_makeSides 224 = .ok (.laload, 1) := by decide +kernel
theorem dM_makeSides_225 : decode cM_makeSides 225 = .ok (.ldc2_w 90, 3) := by decide +kernel
theorem dM_makeSides_228 : decode cM_makeSides 228 = .ok (.ldiv, 1) := by decide +kernel
theorem dM_makeSides_229 : decode cM_makeSides 229 = .ok (.goto 13, 3) := by decide +kernel
theorem dM_makeSides_232 : decode cM_makeSides 232 = .ok (.aload_n 0, 1) := by decide +kernel
theorem dM_makeSides_233 : decode cM_makeSides 233 = .ok (.getfield 26, 3) := by decide +kernel
theorem dM_makeSides_236 : decode cM_makeSides 236 = .ok (.iconst 4, 1) := by decide +kernel
theorem dM_makeSides_237 : decode cM_makeSides 237 = .ok (.laload, 1) := by decide +kernel
theorem dM_makeSides_238 : decode cM_makeSides 238 = .ok (.ldc2_w 159, 3) := by decide +kernel
theorem dM_makeSides_241 : decode cM_makeSides 241 = .ok (.ldiv, 1) := by decide +kernel
theorem dM_makeSides_242 : decode cM_makeSides 242 = .ok (.lstore 12, 2) := by decide +kernel
theorem dM_makeSides_244 : decode cM_makeSides 244 = .ok (.iload_n 1, 1) := by decide +kernel
theorem dM_makeSides_245 : decode cM_makeSides 245 = .ok (.iconst 2, 1) := by decide +kernel
theorem dM_makeSides_246 : decode cM_makeSides 246 = .ok (.if_icmp .ne 21, 3) := by decide +kernel
theorem dM_makeSides_249 : decode cM_makeSides 249 = .ok (.lload 12, 2) := by decide +kernel
theorem dM_makeSides_251 : decode cM_makeSides 251 = .ok (.lconst 1, 1) := by decide +kernel
theorem dM_makeSides_252 : decode cM_makeSides 252 = .ok (.lsub, 1) := by decide +kernel
theorem dM_makeSides_253 : decode cM_makeSides 253 = .ok (.lload 10, 2) := by decide +kernel
theorem dM_makeSides_255 : decode cM_makeSides 255 = .ok (.lmul, 1) := by decide +kernel
theorem dM_makeSides_256 : decode cM_makeSides 256 = .ok (.lload 8, 2) := by decide +kernel
theorem dM_makeSides_258 : decode cM_makeSides 258 = .ok (.ladd, 1) := by decide +kernel
theorem dM_makeSides_259 : decode cM_makeSides 259 = .ok (.lload 6, 2) := by decide +kernel
theorem dM_makeSides_261 : decode cM_makeSides 261 = .ok (.lcmp, 1) := by decide +kernel
theorem dM_makeSides_262 : decode cM_makeSides 262 = .ok (.ifCond .le 5, 3) := by decide +kernel
theorem dM_makeSides_265 : decode cM_makeSides 265 = .ok (.iconst 0, 1) := by decide +kernel
theorem dM_makeSides_266 : decode cM_makeSides 266 = .ok (.ireturn, 1) := by decide +kernel
theorem dM_makeSides_267 : decode cM_makeSides 267 = .ok (.lload 4, 2) := by decide +kernel
theorem dM_makeSides_269 : decode cM_makeSides 269 = .ok (.lload 6, 2) := by decide +kernel
theorem dM_makeSides_271 : decode cM_makeSides 271 = .ok (.lsub, 1) := by decide +kernel
theorem dM_makeSides_272 : decode cM_makeSides 272 = .ok (.ldc2_w 90, 3) := by decide +kernel
theorem dM_makeSides_275 : decode cM_makeSides 275 = .ok (.ldiv, 1) := by decide +kernel
theorem dM_makeSides_276 : decode cM_makeSides 276 = .ok (.lstore 14, 2) := by decide +kernel
theorem dM_makeSides_278 : decode cM_makeSides 278 = .ok (.lconst 0, 1) := by decide +kernel
theorem dM_makeSides_279 : decode cM_makeSides 279 = .ok (.lstore 16, 2) := by decide +kernel
theorem dM_makeSides_281 : decode cM_makeSides 281 = .ok (.lload 16, 2) := by decide +kernel
theorem dM_makeSides_283 : decode cM_makeSides 283 = .ok (.lload 12, 2) := by decide +kernel
theorem dM_makeSides_285 : decode cM_makeSides 285 = .ok (.lcmp, 1) := by decide +kernel
theorem dM_makeSides_286 : decode cM_makeSides 286 = .ok (.ifCond .ge 56, 3) := by decide +kernel
theorem dM_makeSides_289 : decode cM_makeSides 289 = .ok (.aload_n 0, 1) := by decide +kernel
theorem dM_makeSides_290 : decode cM_makeSides 290 = .ok (.aload_n 0, 1) := by decide +kernel
theorem dM_makeSides_291 : decode cM_makeSides 291 = .ok (.getfield 134, 3) := by decide +kernel
theorem dM_makeSides_294 : decode cM_makeSides 294 = .ok (.iconst 1, 1) := by decide +kernel
theorem dM_makeSides_295 : decode cM_makeSides 295 = .ok (.iadd, 1) := by decide +kernel
theorem dM_makeSides_296 : decode cM_makeSides 296 = .ok (.lload 4, 2) := by decide +kernel
theorem dM_makeSides_298 : decode cM_makeSides 298 = .ok (.lneg, 1) := by decide +kernel
theorem dM_makeSides_299 : decode cM_makeSides 299 = .ok (.ldc2_w 90, 3) := by decide +kernel
theorem dM_makeSides_302 : decode cM_makeSides 302 = .ok (.ldiv, 1) := by decide +kernel
theorem dM_makeSides_303 : decode cM_makeSides 303 = .ok (.lload 12, 2) := by decide +kernel
theorem dM_makeSides_305 : decode cM_makeSides 305 = .ok (.lload 12, 2) := by decide +kernel
theorem dM_makeSides_307 : decode cM_makeSides 307 = .ok (.lconst 1, 1) := by decide +kernel
theorem dM_makeSides_308 : decode cM_makeSides 308 = .ok (.lsub, 1) := by decide +kernel
theorem dM_makeSides_309 : decode cM_makeSides 309 = .ok (.lload 16, 2) := by decide +kernel
theorem dM_makeSides_311 : decode cM_makeSides 311 = .ok (.lsub, 1) := by decide +kernel
theorem dM_makeSides_312 : decode cM_makeSides 312 = .ok (.lload 10, 2) := by decide +kernel
theorem dM_makeSides_314 : decode cM_makeSides 314 = .ok (.invokestatic 161, 3) := by decide +kernel
theorem dM_makeSides_317 : decode cM_makeSides 317 = .ok (.lload 8, 2) := by decide +kernel
theorem dM_makeSides_319 : decode cM_makeSides 319 = .ok (.ldc2_w 90, 3) := by decide +kernel
theorem dM_makeSides_322 : decode cM_makeSides 322 = .ok (.ldiv, 1) := by decide +kernel
theorem dM_makeSides_323 : decode cM_makeSides 323 = .ok (.lsub, 1) := by decide +kernel
theorem dM_makeSides_324 : decode cM_makeSides 324 = .ok (.lload 14, 2) := by decide +kernel
theorem dM_makeSides_326 : decode cM_makeSides 326 = .ok (.lload 8, 2) := by decide +kernel
theorem dM_makeSides_328 : decode cM_makeSides 328 = .ok (.iconst 0, 1) := by decide +kernel
theorem dM_makeSides_329 : decode cM_makeSides 329 = .ok (.lconst 0, 1) := by decide +kernel
theorem dM_makeSides_330 : decode cM_makeSides 330 = .ok (.invokevirtual 165, 3) := by decide +kernel
theorem dM_makeSides_333 : decode cM_makeSides 333 = .ok (.lload 16, 2) := by decide +kernel
theorem dM_makeSides_335 : decode cM_makeSides 335 = .ok (.lconst 1, 1) := by decide +kernel
theorem dM_makeSides_336 : decode cM_makeSides 336 = .ok (.ladd, 1) := by decide +kernel
theorem dM_makeSides_337 : decode cM_makeSides 337 = .ok (.lstore 16, 2) := by decide +kernel
theorem dM_makeSides_339 : decode cM_makeSides 339 = .ok (.goto (-58), 3) := by decide +kernel
theorem dM_makeSides_342 : decode cM_makeSides 342 = .ok (.lconst 0, 1) := by decide +kernel
theorem dM_makeSides_343 : decode cM_makeSides 343 = .ok (.lstore 16, 2) := by decide +kernel
theorem dM_makeSides_345 : decode cM_makeSides 345 = .ok (.lload 16, 2) := by decide +kernel
theorem dM_makeSides_347 : decode cM_makeSides 347 = .ok (.lload 12, 2) := by decide +kernel
theorem dM_makeSides_349 : decode cM_makeSides 349 = .ok (.lcmp, 1) := by decide +kernel
theorem dM_makeSides_350 : decode cM_makeSides 350 = .ok (.ifCond .ge 56, 3) := by decide +kernel
theorem dM_makeSides_353 : decode cM_makeSides 353 = .ok (.iload_n 1, 1) := by decide +kernel
theorem dM_makeSides_354 : decode cM_makeSides 354 = .ok (.iconst 2, 1) := by decide +kernel
theorem dM_makeSides_355 : decode cM_makeSides 355 = .ok (.if_icmp .ne 51, 3) := by decide +kernel
theorem dM_makeSides_358 : decode cM_makeSides 358 = .ok (.aload_n 0, 1) := by decide +kernel
theorem dM_makeSides_359 : decode cM_makeSides 359 = .ok (.aload_n 0, 1) := by decide +kernel
theorem dM_makeSides_360 : decode cM_makeSides 360 = .ok (.getfield 134, 3) := by decide +kernel
theorem dM_makeSides_363 : decode cM_makeSides 363 = .ok (.iconst 1, 1) := by decide +kernel
theorem dM_makeSides_364 : decode cM_makeSides 364 = .ok (.iadd, 1) := by decide +kernel
theorem dM_makeSides_365 : decode cM_makeSides 365 = .ok (.lload 12, 2) := by decide +kernel
theorem dM_makeSides_367 : decode cM_makeSides 367 = .ok (.lload 16, 2) := by decide +kernel
theorem dM_makeSides_369 : decode cM_makeSides 369 = .ok (.lload 10, 2) := by decide +kernel
theorem dM_makeSides_371 : decode cM_makeSides 371 = .ok (.invokestatic 161, 3) := by decide +kernel
theorem dM_makeSides_374 : decode cM_makeSides 374 = .ok (.lload 8, 2) := by decide +kernel
theorem dM_makeSides_376 : decode cM_makeSides 376 = .ok (.ldc2_w 90, 3) := by decide +kernel
theorem dM_makeSides_379 : decode cM_makeSides 379 = .ok (.ldiv, 1) := by decide +kernel
theorem dM_makeSides_380 : decode cM_makeSides 380 = .ok (.lsub, 1) := by decide +kernel
theorem dM_makeSides_381 : decode cM_makeSides 381 = .ok (.lload 4, 2) := by decide +kernel
theorem dM_makeSides_383 : decode cM_makeSides 383 = .ok (.lneg, 1) := by decide +kernel
theorem dM_makeSides_384 : decode cM_makeSides 384 = .ok (.ldc2_w 90, 3) := by decide +kernel
theorem dM_makeSides_387 : decode cM_makeSides 387 = .ok (.ldiv, 1) := by decide +kernel
theorem dM_makeSides_388 : decode cM_makeSides 388 = .ok (.lload 8, 2) := by decide +kernel
theorem dM_makeSides_390 : decode cM_makeSides 390 = .ok (.lload 14, 2) := by decide +kernel
theorem dM_makeSides_392 : decode cM_makeSides 392 = .ok (.iconst 0, 1) := by decide +kernel
theorem dM_makeSides_393 : decode cM_makeSides 393 = .ok (.lconst 0, 1) := by decide +kernel
theorem dM_makeSides_394 : decode cM_makeSides 394 = .ok (.invokevirtual 165, 3) := by decide +kernel
theorem dM_makeSides_397 : decode cM_makeSides 397 = .ok (.lload 16, 2) := by decide +kernel
theorem dM_makeSides_399 : decode cM_makeSides 399 = .ok (.lconst 1, 1) := by decide +kernel
theorem dM_makeSides_400 : decode cM_makeSides 400 = .ok (.ladd, 1) := by decide +kernel
theorem dM_makeSides_401 : decode cM_makeSides 401 = .ok (.lstore 16, 2) := by decide +kernel
theorem dM_makeSides_403 : decode cM_makeSides 403 = .ok (.goto (-58), 3) := by decide +kernel
theorem dM_makeSides_406 : decode cM_makeSides 406 = .ok (.lconst 0, 1) := by decide +kernel
theorem dM_makeSides_407 : decode cM_makeSides 407 = .ok (.lstore 16, 2) := by decide +kernel
theorem dM_makeSides_409 : decode cM_makeSides 409 = .ok (.lload 16, 2) := by decide +kernel
theorem dM_makeSides_411 : decode cM_makeSides 411 = .ok (.lload 12, 2) := by decide +kernel
theorem dM_makeSides_413 : decode cM_makeSides 413 = .ok (.lcmp, 1) := by decide +kernel
theorem dM_makeSides_414 : decode cM_makeSides 414 = .ok (.ifCond .ge 50, 3) := by decide +kernel
theorem dM_makeSides_417 : decode cM_makeSides 417 = .ok (.aload_n 0, 1) := by decide +kernel
theorem dM_makeSides_418 : decode cM_makeSides 418 = .ok (.aload_n 0, 1) := by decide +kernel
theorem dM_makeSides_419 : decode cM_makeSides 419 = .ok (.getfield 134, 3) := by decide +kernel
theorem dM_makeSides_422 : decode cM_makeSides 422 = .ok (.iconst 1, 1) := by decide +kernel
theorem dM_makeSides_423 : decode cM_makeSides 423 = .ok (.iadd, 1) := by decide +kernel
theorem dM_makeSides_424 : decode cM_makeSides 424 = .ok (.lload 6, 2) := by decide +kernel
theorem dM_makeSides_426 : decode cM_makeSides 426 = .ok (.ldc2_w 90, 3) := by decide +kernel
theorem dM_makeSides_429 : decode cM_makeSides 429 = .ok (.ldiv, 1) := by decide +kernel
theorem dM_makeSides_430 : decode cM_makeSides 430 = .ok (.lload 12, 2) := by decide +kernel
theorem dM_makeSides_432 : decode cM_makeSides 432 = .ok (.lload 16, 2) := by decide +kernel
theorem dM_makeSides_434 : decode cM_makeSides 434 = .ok (.lload 10, 2) := by decide +kernel
theorem dM_makeSides_436 : decode cM_makeSides 436 = .ok (.invokestatic 161, 3) := by decide +kernel
theorem dM_makeSides_439 : decode cM_makeSides 439 = .ok (.lload 8, 2) := by decide +kernel
theorem dM_makeSides_441 : decode cM_makeSides 441 = .ok (.ldc2_w 90, 3) := by decide +kernel
theorem dM_makeSides_444 : decode cM_makeSides 444 = .ok (.ldiv, 1) := by decide +kernel
theorem dM_makeSides_445 : decode cM_makeSides 445 = .ok (.lsub, 1) := by decide +kernel
theorem dM_makeSides_446 : decode cM_makeSides 446 = .ok (.lload 14, 2) := by decide +kernel
theorem dM_makeSides_448 : decode cM_makeSides 448 = .ok (.lload 8, 2) := by decide +kernel
theorem dM_makeSides_450 : decode cM_makeSides 450 = .ok (.iconst 0, 1) := by decide +kernel
theorem dM_makeSides_451 : decode cM_makeSides 451 = .ok (.lconst 0, 1) := by decide +kernel
theorem dM_makeSides_452 : decode cM_makeSides 452 = .ok (.invokevirtual 165, 3) := by decide +kernel
theorem dM_makeSides_455 : decode cM_makeSides 455 = .ok (.lload 16, 2) := by decide +kernel
theorem dM_makeSides_457 : decode cM_makeSides 457 = .ok (.lconst 1, 1) := by decide +kernel
theorem dM_makeSides_458 : decode cM_makeSides 458 = .ok (.ladd, 1) := by decide +kernel
theorem dM_makeSides_459 : decode cM_makeSides 459 = .ok (.lstore 16, 2) := by decide +kernel
theorem dM_makeSides_461 : decode cM_makeSides 461 = .ok (.goto (-52), 3) := by decide +kernel
theorem dM_makeSides_464 : decode cM_makeSides 464 = .ok (.lconst 0, 1) := by decide +kernel
theorem dM_makeSides_465 : decode cM_makeSides 465 = .ok (.lstore 16, 2) := by decide +kernel
theorem dM_makeSides_467 : decode cM_makeSides 467 = .ok (.lload 16, 2) := by decide +kernel
theorem dM_makeSides_469 : decode cM_makeSides 469 = .ok (.lload 12, 2) := by decide +kernel
theorem dM_makeSides_471 : decode cM_makeSides 471 = .ok (.lcmp, 1) := by decide +kernel
theorem dM_makeSides_472 : decode cM_makeSides 472 = .ok (.ifCond .ge 60, 3) := by decide +kernel
theorem dM_makeSides_475 : decode cM_makeSides 475 = .ok (.iload_n 1, 1) := by decide +kernel
theorem dM_makeSides_476 : decode cM_makeSides 476 = .ok (.iconst 2, 1) := by decide +kernel
theorem dM_makeSides_477 : decode cM_makeSides 477 = .ok (.if_icmp .ne 55, 3) := by decide +kernel
theorem dM_makeSides_480 : decode cM_makeSides 480 = .ok (.aload_n 0, 1) := by decide +kernel
theorem dM_makeSides_481 : decode cM_makeSides 481 = .ok (.aload_n 0, 1) := by decide +kernel
theorem dM_makeSides_482 : decode cM_makeSides 482 = .ok (.getfield 134, 3) := by decide +kernel
theorem dM_makeSides_485 : decode cM_makeSides 485 = .ok (.iconst 1, 1) := by decide +kernel
theorem dM_makeSides_486 : decode cM_makeSides 486 = .ok (.iadd, 1) := by decide +kernel
theorem dM_makeSides_487 : decode cM_makeSides 487 = .ok (.lload 12, 2) := by decide +kernel
theorem dM_makeSides_489 : decode cM_makeSides 489 = .ok (.lload 12, 2) := by decide +kernel
theorem dM_makeSides_491 : decode cM_makeSides 491 = .ok (.lconst 1, 1) := by decide +kernel
theorem dM_makeSides_492 : decode cM_makeSides 492 = .ok (.lsub, 1) := by decide +kernel
theorem dM_makeSides_493 : decode cM_makeSides 493 = .ok (.lload 16, 2) := by decide +kernel
theorem dM_makeSides_495 : decode cM_makeSides 495 = .ok (.lsub, 1) := by decide +kernel
theorem dM_makeSides_496 : decode cM_makeSides 496 = .ok (.lload 10, 2) := by decide +kernel
theorem dM_makeSides_498 : decode cM_makeSides 498 = .ok (.invokestatic 161, 3) := by decide +kernel
theorem dM_makeSides_501 : decode cM_makeSides 501 = .ok (.lload 8, 2) := by decide +kernel
theorem dM_makeSides_503 : decode cM_makeSides 503 = .ok (.ldc2_w 90, 3) := by decide +kernel
theorem dM_makeSides_506 : decode cM_makeSides 506 = .ok (.ldiv, 1) := by decide +kernel
theorem dM_makeSides_507 : decode cM_makeSides 507 = .ok (.lsub, 1) := by decide +kernel
theorem dM_makeSides_508 : decode cM_makeSides 508 = .ok (.lload 6, 2) := by decide +kernel
theorem dM_makeSides_510 : decode cM_makeSides 510 = .ok (.ldc2_w 90, 3) := by decide +kernel
theorem dM_makeSides_513 : decode cM_makeSides 513 = .ok (.ldiv, 1) := by decide +kernel
theorem dM_makeSides_514 : decode cM_makeSides 514 = .ok (.lload 8, 2) := by decide +kernel
theorem dM_makeSides_516 : decode cM_makeSides 516 = .ok (.lload 14, 2) := by decide +kernel
theorem dM_makeSides_518 : decode cM_makeSides 518 = .ok (.iconst 0, 1) := by decide +kernel
theorem dM_makeSides_519 : decode cM_makeSides 519 = .ok (.lconst 0, 1) := by decide +kernel
theorem dM_makeSides_520 : decode cM_makeSides 520 = .ok (.invokevirtual 165, 3) := by decide +kernel
theorem dM_makeSides_523 : decode cM_makeSides 523 = .ok (.lload 16, 2) := by decide +kernel
theorem dM_makeSides_525 : decode cM_makeSides 525 = .ok (.lconst 1, 1) := by decide +kernel
theorem dM_makeSides_526 : decode cM_makeSides 526 = .ok (.ladd, 1) := by decide +kernel
theorem dM_makeSides_527 : decode cM_makeSides 527 = .ok (.lstore 16, 2) := by decide +kernel
theorem dM_makeSides_529 : decode cM_makeSides 529 = .ok (.goto (-62), 3) := by decide +kernel
theorem dM_makeSides_532 : decode cM_makeSides 532 = .ok (.iload_n 1, 1) := by decide +kernel
theorem dM_makeSides_533 : decode cM_makeSides 533 = .ok (.iconst 2, 1) := by decide +kernel
theorem dM_makeSides_534 : decode cM_makeSides 534 = .ok (.if_icmp .ne 13, 3) := by decide +kernel
theorem dM_makeSides_537 : decode cM_makeSides 537 = .ok (.aload_n 0, 1) := by decide +kernel
theorem dM_makeSides_538 : decode cM_makeSides 538 = .ok (.lload_n 2, 1) := by decide +kernel
theorem dM_makeSides_539 : decode cM_makeSides 539 = .ok (.lload 6, 2) := by decide +kernel
theorem dM_makeSides_541 : decode cM_makeSides 541 = .ok (.invokevirtual 169, 3) := by decide +kernel
theorem dM_makeSides_544 : decode cM_makeSides 544 = .ok (.ifCond .eq 7, 3) := by decide +kernel
theorem dM_makeSides_547 : decode cM_makeSides 547 = .ok (.iconst 1, 1) := by decide +kernel
theorem dM_makeSides_548 : decode cM_makeSides 548 = .ok (.goto 4, 3) := by decide +kernel
theorem dM_makeSides_551 : decode cM_makeSides 551 = .ok (.iconst 0, 1) := by decide +kernel
theorem dM_makeSides_552 : decode cM_makeSides 552 = .ok (.ireturn, 1) := by decide +kernel
-- FootprintRulesModel.makeSides(IJ)Z
abbrev w_M_makeSides (ad : Nat → Nat → Nat) (a_this : Nat) (a_units : Nat) (a_kinds : Nat) (a_values : Nat) (a_names : Nat) (a_low : Nat) (a_high : Nat) (a_told : Nat) (a_leftOut : Nat) (a_isMade : Nat) (a_hands : Nat) (a_pad : Nat) (a_court : Nat) (a_title : Nat) (a_out : Nat) (k_told : ClassId) (k_high : ClassId) (k_values : ClassId) (k_low : ClassId) (k_pad : ClassId) (v_this_thrown : Int32) (v_this_size : Int32) (v_this_families : Int32) (v_this_atHand : Int32) (v_this_family : Int32) (v_this_density : Int32) (v_this_pads : Int32) (v_this_hasThermal : Int32) (v_this_titleSize : Int32) (v_this_written : Int32) (v_this_at : Int32) (v_this_begin : Int32) (v_this_words : Int32) (v_this_paste0 : Int64) (v_told : Nat → Int32) (v_high : Nat → Int64) (v_values : Nat → Int64) (v_low : Nat → Int64) (v_pad : Nat → Int64) : va_W := [(a_this, .inr (10, [.int v_this_thrown, .ref a_units, .int v_this_size, .int v_this_families, .ref a_kinds, .ref a_values, .ref a_names, .ref a_low, .ref a_high, .ref a_told, .ref a_leftOut, .ref a_isMade, .ref a_hands, .int v_this_atHand, .int v_this_family, .int v_this_density, .int v_this_pads, .ref a_pad, .ref a_court, .int v_this_hasThermal, .ref a_title, .int v_this_titleSize, .ref a_out, .int v_this_written, .int v_this_at, .int v_this_begin, .int v_this_words, .long v_this_paste0])), (a_told, .inl (k_told, 12, .inl v_told)), (a_high, .inl (k_high, 12, .inr (.inl v_high))), (a_values, .inl (k_values, 240, .inr (.inl v_values))), (a_low, .inl (k_low, 12, .inr (.inl v_low))), (a_pad, .inl (k_pad, 455, .inr (.inl v_pad)))]
def P_M_makeSides_547  (post : Int32 → Int32 → Int32 → (Nat → Int64) → Prop) (u_this_pads : Int32) (u_this_hasThermal : Int32) (u_pad : Nat → Int64) : Prop := post 1 u_this_pads u_this_hasThermal u_pad
set_option maxHeartbeats 4000000 in
set_option maxRecDepth 100000 in
theorem w_M_makeSides_547 (l : Launch) {p : Program} {e : Env} {s : State} {m : MethodId} {args : Array Value} {below : List Frame} {meth : Method} {c : Code} {dC : Nat → ClassId} {dI : Nat → Nat → Nat} {ad : Nat → Nat → Nat} {A : Nat → Prop} (C0 : zC p s m args meth c cM_makeSides 18 RM zT (some .boolean) A) (hE : zE ad A s) (a_this : Nat) (a_units : Nat) (a_kinds : Nat) (a_values : Nat) (a_names : Nat) (a_low : Nat) (a_high : Nat) (a_told : Nat) (a_leftOut : Nat) (a_isMade : Nat) (a_hands : Nat) (a_pad : Nat) (a_court : Nat) (a_title : Nat) (a_out : Nat) (k_told : ClassId) (k_high : ClassId) (k_values : ClassId) (k_low : ClassId) (k_pad : ClassId) (p1 : Int32) (p2 : Int64) (v_this_thrown : Int32) (v_this_size : Int32) (v_this_families : Int32) (v_this_atHand : Int32) (v_this_family : Int32) (v_this_density : Int32) (v_this_pads : Int32) (v_this_hasThermal : Int32) (v_this_titleSize : Int32) (v_this_written : Int32) (v_this_at : Int32) (v_this_begin : Int32) (v_this_words : Int32) (v_this_paste0 : Int64) (v_told : Nat → Int32) (v_high : Nat → Int64) (v_values : Nat → Int64) (v_low : Nat → Int64) (v_pad : Nat → Int64) (post : Int32 → Int32 → Int32 → (Nat → Int64) → Prop) (hK : va_K (dC, dI) vwCl [(k_told, .boolean), (k_high, .long), (k_values, .long), (k_low, .long), (k_pad, .long)] s) : ∀ (u_this_pads : Int32) (u_this_hasThermal : Int32) (u_pad : Nat → Int64) (H : Heap) (locs : List Loc), P_M_makeSides_547 post u_this_pads u_this_hasThermal u_pad → va_P (dC, dI) vwCl (w_M_makeSides ad a_this a_units a_kinds a_values a_names a_low a_high a_told a_leftOut a_isMade a_hands a_pad a_court a_title a_out k_told k_high k_values k_low k_pad v_this_thrown v_this_size v_this_families v_this_atHand v_this_family v_this_density u_this_pads u_this_hasThermal v_this_titleSize v_this_written v_this_at v_this_begin v_this_words v_this_paste0 v_told v_high v_values v_low u_pad) H → va_D A (w_M_makeSides ad a_this a_units a_kinds a_values a_names a_low a_high a_told a_leftOut a_isMade a_hands a_pad a_court a_title a_out k_told k_high k_values k_low k_pad v_this_thrown v_this_size v_this_families v_this_atHand v_this_family v_this_density u_this_pads u_this_hasThermal v_this_titleSize v_this_written v_this_at v_this_begin v_this_words v_this_paste0 v_told v_high v_values v_low u_pad) → va_S A s.heap H locs → ∀ ls : Array Slot, lv_has ls 18 [] → W p l e (headSpec wsM_makeSides { frames := 2, cells := 0, slots := 0, locals := 61 }).room s m args below meth c H locs 0 0 (MQ below (va_Qi (fun (r : Int32) (u : Int32 × Int32 × (Nat → Int64)) => post r u.1 u.2.1 u.2.2) (zB (dC, dI) A (fun (u : Int32 × Int32 × (Nat → Int64)) => (w_M_makeSides ad a_this a_units a_kinds a_values a_names a_low a_high a_told a_leftOut a_isMade a_hands a_pad a_court a_title a_out k_told k_high k_values k_low k_pad v_this_thrown v_this_size v_this_families v_this_atHand v_this_family v_this_density u.1 u.2.1 v_this_titleSize v_this_written v_this_at v_this_begin v_this_words v_this_paste0 v_told v_high v_values v_low u.2.2))) A) args s 0 0 A) (F0 m 547 ls []) := by
  obtain ⟨hx, hb, hr, hml, hown, hts, hlocks, hA⟩ := id C0
  intro u_this_pads u_this_hasThermal u_pad H locs h hP hD hS ls hl
  unfold P_M_makeSides_547 at h
  refine lv_iconst (v := 1) hx hb dM_makeSides_547 (by decide) ?_
  refine lv_goto (tgt := 552) hx hb dM_makeSides_548 (by decide) ?_
  exact W.zret (v := 1) hx hb hr rfl (fun t ht hW => ⟨⟨1, (u_this_pads, u_this_hasThermal, u_pad), rfl, h, by rw [ht]; exact hP, hD⟩, hS.F ht⟩) hS.2.2 dM_makeSides_552
def P_M_makeSides_532 (p1 : Int32) (p2 : Int64) (v_this_hasThermal : Int32) (v_told : Nat → Int32) (v_high : Nat → Int64) (post : Int32 → Int32 → Int32 → (Nat → Int64) → Prop) (y6 : Int64) (u_this_pads : Int32) (u_pad : Nat → Int64) : Prop := ((¬ p1 = 2 → P_M_makeSides_547 post u_this_pads v_this_hasThermal u_pad) ∧ (p1 = 2 → P_M_makeThermal p2 y6 u_this_pads v_this_hasThermal v_told v_high u_pad (fun (r5 : Int32) (u2 : Int32) (u3 : Int32) (u4 : Nat → Int64) => ((r5 = 0 → post 0 u2 u3 u4) ∧ (¬ r5 = 0 → P_M_makeSides_547 post u2 u3 u4)))))
set_option maxHeartbeats 4000000 in
set_option maxRecDepth 100000 in
theorem w_M_makeSides_532 (l : Launch) {p : Program} {e : Env} {s : State} {m : MethodId} {args : Array Value} {below : List Frame} {meth : Method} {c : Code} {dC : Nat → ClassId} {dI : Nat → Nat → Nat} {ad : Nat → Nat → Nat} {A : Nat → Prop} (C0 : zC p s m args meth c cM_makeSides 18 RM zT (some .boolean) A) (hE : zE ad A s) (a_this : Nat) (a_units : Nat) (a_kinds : Nat) (a_values : Nat) (a_names : Nat) (a_low : Nat) (a_high : Nat) (a_told : Nat) (a_leftOut : Nat) (a_isMade : Nat) (a_hands : Nat) (a_pad : Nat) (a_court : Nat) (a_title : Nat) (a_out : Nat) (k_told : ClassId) (k_high : ClassId) (k_values : ClassId) (k_low : ClassId) (k_pad : ClassId) (p1 : Int32) (p2 : Int64) (v_this_thrown : Int32) (v_this_size : Int32) (v_this_families : Int32) (v_this_atHand : Int32) (v_this_family : Int32) (v_this_density : Int32) (v_this_pads : Int32) (v_this_hasThermal : Int32) (v_this_titleSize : Int32) (v_this_written : Int32) (v_this_at : Int32) (v_this_begin : Int32) (v_this_words : Int32) (v_this_paste0 : Int64) (v_told : Nat → Int32) (v_high : Nat → Int64) (v_values : Nat → Int64) (v_low : Nat → Int64) (v_pad : Nat → Int64) (post : Int32 → Int32 → Int32 → (Nat → Int64) → Prop) (hK : va_K (dC, dI) vwCl [(k_told, .boolean), (k_high, .long), (k_values, .long), (k_low, .long), (k_pad, .long)] s) : ∀ (y6 : Int64) (u_this_pads : Int32) (u_pad : Nat → Int64) (H : Heap) (locs : List Loc), P_M_makeSides_532 p1 p2 v_this_hasThermal v_told v_high post y6 u_this_pads u_pad → va_P (dC, dI) vwCl (w_M_makeSides ad a_this a_units a_kinds a_values a_names a_low a_high a_told a_leftOut a_isMade a_hands a_pad a_court a_title a_out k_told k_high k_values k_low k_pad v_this_thrown v_this_size v_this_families v_this_atHand v_this_family v_this_density u_this_pads v_this_hasThermal v_this_titleSize v_this_written v_this_at v_this_begin v_this_words v_this_paste0 v_told v_high v_values v_low u_pad) H → va_D A (w_M_makeSides ad a_this a_units a_kinds a_values a_names a_low a_high a_told a_leftOut a_isMade a_hands a_pad a_court a_title a_out k_told k_high k_values k_low k_pad v_this_thrown v_this_size v_this_families v_this_atHand v_this_family v_this_density u_this_pads v_this_hasThermal v_this_titleSize v_this_written v_this_at v_this_begin v_this_words v_this_paste0 v_told v_high v_values v_low u_pad) → va_S A s.heap H locs → ∀ ls : Array Slot, lv_has ls 18 [(0, .ref a_this), (1, .int p1), (2, .long p2), (6, .long y6)] → W p l e (headSpec wsM_makeSides { frames := 2, cells := 0, slots := 0, locals := 61 }).room s m args below meth c H locs 0 0 (MQ below (va_Qi (fun (r : Int32) (u : Int32 × Int32 × (Nat → Int64)) => post r u.1 u.2.1 u.2.2) (zB (dC, dI) A (fun (u : Int32 × Int32 × (Nat → Int64)) => (w_M_makeSides ad a_this a_units a_kinds a_values a_names a_low a_high a_told a_leftOut a_isMade a_hands a_pad a_court a_title a_out k_told k_high k_values k_low k_pad v_this_thrown v_this_size v_this_families v_this_atHand v_this_family v_this_density u.1 u.2.1 v_this_titleSize v_this_written v_this_at v_this_begin v_this_words v_this_paste0 v_told v_high v_values v_low u.2.2))) A) args s 0 0 A) (F0 m 532 ls []) := by
  obtain ⟨hx, hb, hr, hml, hown, hts, hlocks, hA⟩ := id C0
  intro y6 u_this_pads u_pad H locs h hP hD hS ls hl
  unfold P_M_makeSides_532 at h
  refine lv_iload_n hx hb dM_makeSides_532 rfl (lv_at hl 1 rfl) ?_
  refine lv_iconst (v := 2) hx hb dM_makeSides_533 (by decide) ?_
  refine lv_icmp_ne (tgt := 547) hx hb dM_makeSides_534 (by decide) ?_ ?_
  · intro c1
    replace h := h.1 c1
    exact w_M_makeSides_547 l C0 hE a_this a_units a_kinds a_values a_names a_low a_high a_told a_leftOut a_isMade a_hands a_pad a_court a_title a_out k_told k_high k_values k_low k_pad p1 p2 v_this_thrown v_this_size v_this_families v_this_atHand v_this_family v_this_density v_this_pads v_this_hasThermal v_this_titleSize v_this_written v_this_at v_this_begin v_this_words v_this_paste0 v_told v_high v_values v_low v_pad post hK u_this_pads v_this_hasThermal u_pad _ _ h hP hD hS ls (lv_sub hl [] rfl)
  · intro c1
    replace h := h.2 c1
    refine lv_aload_n hx hb dM_makeSides_537 rfl (lv_at hl 0 rfl) ?_
    refine lv_lload_n hx hb dM_makeSides_538 rfl (lv_at hl 2 rfl) ?_
    refine lv_lload hx hb dM_makeSides_539 (lv_at hl 3 rfl) ?_
    refine zcall_i hP hD hS hA [0, 1, 2, 5] [3, 4] (va_runV (As := [.long p2, .long y6]) (rest := []) ⟨hx, hb, hml, hown, hts⟩ (c_M_makeThermal l dC dI ad a_this a_units a_kinds a_values a_names a_low a_high a_told a_leftOut a_isMade a_hands a_pad a_court a_title a_out k_told k_high k_pad _ p2 y6 v_this_thrown v_this_size v_this_families v_this_atHand v_this_family v_this_density u_this_pads v_this_hasThermal v_this_titleSize v_this_written v_this_at v_this_begin v_this_words v_this_paste0 v_told v_high u_pad _ h) ⟨callB_of 2 hts (zgood zc_M_makeThermal) rfl rfl rfl (hts _ zw_107) (hts _ zw_1245) (by decide +kernel) ⟨Nat.le_of_ble_eq_true rfl, Nat.le_of_ble_eq_true rfl⟩, (hts _ zw_1247), (hts _ zw_82)⟩ (zpreV hE hK hP hD hS hA [0, 1, 2, 5] [0, 1, 4] (by rfl) (by rfl) (by decide) (ci := 10) (q0 := 0) rfl (by rfl)) rfl rfl hl.1 rfl (lv_room (Nat.le_of_ble_eq_true rfl)) dM_makeSides_541 ⟨Nat.le_of_ble_eq_true rfl, Nat.le_of_ble_eq_true rfl⟩) (by rfl) (by rfl) (by decide) (by decide) (fun r5 u H locs h hP hD hS => ?_)
    obtain ⟨u2, u3, u4⟩ := u
    try dsimp only at h
    have hP := hP.sub (ws' := (w_M_makeSides ad a_this a_units a_kinds a_values a_names a_low a_high a_told a_leftOut a_isMade a_hands a_pad a_court a_title a_out k_told k_high k_values k_low k_pad v_this_thrown v_this_size v_this_families v_this_atHand v_this_family v_this_density u2 u3 v_this_titleSize v_this_written v_this_at v_this_begin v_this_words v_this_paste0 v_told v_high v_values v_low u4)) [2, 3, 4, 0, 1, 5] rfl
    have hD := hD.sub (ws' := (w_M_makeSides ad a_this a_units a_kinds a_values a_names a_low a_high a_told a_leftOut a_isMade a_hands a_pad a_court a_title a_out k_told k_high k_values k_low k_pad v_this_thrown v_this_size v_this_families v_this_atHand v_this_family v_this_density u2 u3 v_this_titleSize v_this_written v_this_at v_this_begin v_this_words v_this_paste0 v_told v_high v_values v_low u4)) [2, 3, 4, 0, 1, 5] (by decide) rfl
    refine lv_if_eq (tgt := 551) hx hb dM_makeSides_544 (by decide) ?_ ?_
    · intro c6
      replace h := h.1 c6
      refine lv_iconst (v := 0) hx hb dM_makeSides_551 (by decide) ?_
      exact W.zret (v := 0) hx hb hr rfl (fun t ht hW => ⟨⟨0, (u2, u3, u4), rfl, h, by rw [ht]; exact hP, hD⟩, hS.F ht⟩) hS.2.2 dM_makeSides_552
    · intro c6
      replace h := h.2 c6
      exact w_M_makeSides_547 l C0 hE a_this a_units a_kinds a_values a_names a_low a_high a_told a_leftOut a_isMade a_hands a_pad a_court a_title a_out k_told k_high k_values k_low k_pad p1 p2 v_this_thrown v_this_size v_this_families v_this_atHand v_this_family v_this_density v_this_pads v_this_hasThermal v_this_titleSize v_this_written v_this_at v_this_begin v_this_words v_this_paste0 v_told v_high v_values v_low v_pad post hK u2 u3 u4 _ _ h hP hD hS ls (lv_sub hl [] rfl)
def P_M_makeSides_467 (p1 : Int32) (p2 : Int64) (v_this_hasThermal : Int32) (v_told : Nat → Int32) (v_high : Nat → Int64) (post : Int32 → Int32 → Int32 → (Nat → Int64) → Prop) : Nat → Int64 → Int64 → Int64 → Int64 → Int64 → Int64 → Int32 → (Nat → Int64) → Prop
  | 0, _, _, _, _, _, _, _, _ => False
  | n + 1, y6, y8, y10, y12, y14, y16, u_this_pads, u_pad => ((y12 ≤ y16 → P_M_makeSides_532 p1 p2 v_this_hasThermal v_told v_high post y6 u_this_pads u_pad) ∧ (¬ y12 ≤ y16 → ((¬ p1 = 2 → P_M_makeSides_532 p1 p2 v_this_hasThermal v_told v_high post y6 u_this_pads u_pad) ∧ (p1 = 2 → P_M_middle y12 ((y12 - 1) - y16) y10 (fun (r3 : Int64) => P_M_addPad (u_this_pads + 1) (r3 - (y8 / 2)) (y6 / 2) y8 y14 0 0 u_this_pads u_pad (fun (u4 : Int32) (u5 : Nat → Int64) => ∀ x6 : Int64, x6 = y16 + 1 → P_M_makeSides_467 p1 p2 v_this_hasThermal v_told v_high post n y6 y8 y10 y12 y14 x6 u4 u5))))))
set_option maxHeartbeats 4000000 in
set_option maxRecDepth 100000 in
theorem w_M_makeSides_467 (l : Launch) {p : Program} {e : Env} {s : State} {m : MethodId} {args : Array Value} {below : List Frame} {meth : Method} {c : Code} {dC : Nat → ClassId} {dI : Nat → Nat → Nat} {ad : Nat → Nat → Nat} {A : Nat → Prop} (C0 : zC p s m args meth c cM_makeSides 18 RM zT (some .boolean) A) (hE : zE ad A s) (a_this : Nat) (a_units : Nat) (a_kinds : Nat) (a_values : Nat) (a_names : Nat) (a_low : Nat) (a_high : Nat) (a_told : Nat) (a_leftOut : Nat) (a_isMade : Nat) (a_hands : Nat) (a_pad : Nat) (a_court : Nat) (a_title : Nat) (a_out : Nat) (k_told : ClassId) (k_high : ClassId) (k_values : ClassId) (k_low : ClassId) (k_pad : ClassId) (p1 : Int32) (p2 : Int64) (v_this_thrown : Int32) (v_this_size : Int32) (v_this_families : Int32) (v_this_atHand : Int32) (v_this_family : Int32) (v_this_density : Int32) (v_this_pads : Int32) (v_this_hasThermal : Int32) (v_this_titleSize : Int32) (v_this_written : Int32) (v_this_at : Int32) (v_this_begin : Int32) (v_this_words : Int32) (v_this_paste0 : Int64) (v_told : Nat → Int32) (v_high : Nat → Int64) (v_values : Nat → Int64) (v_low : Nat → Int64) (v_pad : Nat → Int64) (post : Int32 → Int32 → Int32 → (Nat → Int64) → Prop) (hK : va_K (dC, dI) vwCl [(k_told, .boolean), (k_high, .long), (k_values, .long), (k_low, .long), (k_pad, .long)] s) : ∀ (n : Nat), ∀ (y6 : Int64) (y8 : Int64) (y10 : Int64) (y12 : Int64) (y14 : Int64) (y16 : Int64) (u_this_pads : Int32) (u_pad : Nat → Int64) (H : Heap) (locs : List Loc), P_M_makeSides_467 p1 p2 v_this_hasThermal v_told v_high post n y6 y8 y10 y12 y14 y16 u_this_pads u_pad → va_P (dC, dI) vwCl (w_M_makeSides ad a_this a_units a_kinds a_values a_names a_low a_high a_told a_leftOut a_isMade a_hands a_pad a_court a_title a_out k_told k_high k_values k_low k_pad v_this_thrown v_this_size v_this_families v_this_atHand v_this_family v_this_density u_this_pads v_this_hasThermal v_this_titleSize v_this_written v_this_at v_this_begin v_this_words v_this_paste0 v_told v_high v_values v_low u_pad) H → va_D A (w_M_makeSides ad a_this a_units a_kinds a_values a_names a_low a_high a_told a_leftOut a_isMade a_hands a_pad a_court a_title a_out k_told k_high k_values k_low k_pad v_this_thrown v_this_size v_this_families v_this_atHand v_this_family v_this_density u_this_pads v_this_hasThermal v_this_titleSize v_this_written v_this_at v_this_begin v_this_words v_this_paste0 v_told v_high v_values v_low u_pad) → va_S A s.heap H locs → ∀ ls : Array Slot, lv_has ls 18 [(0, .ref a_this), (1, .int p1), (2, .long p2), (6, .long y6), (8, .long y8), (10, .long y10), (12, .long y12), (14, .long y14), (16, .long y16)] → W p l e (headSpec wsM_makeSides { frames := 2, cells := 0, slots := 0, locals := 61 }).room s m args below meth c H locs 0 0 (MQ below (va_Qi (fun (r : Int32) (u : Int32 × Int32 × (Nat → Int64)) => post r u.1 u.2.1 u.2.2) (zB (dC, dI) A (fun (u : Int32 × Int32 × (Nat → Int64)) => (w_M_makeSides ad a_this a_units a_kinds a_values a_names a_low a_high a_told a_leftOut a_isMade a_hands a_pad a_court a_title a_out k_told k_high k_values k_low k_pad v_this_thrown v_this_size v_this_families v_this_atHand v_this_family v_this_density u.1 u.2.1 v_this_titleSize v_this_written v_this_at v_this_begin v_this_words v_this_paste0 v_told v_high v_values v_low u.2.2))) A) args s 0 0 A) (F0 m 467 ls []) := by
  obtain ⟨hx, hb, hr, hml, hown, hts, hlocks, hA⟩ := id C0
  intro n
  induction n with
  | zero =>
    intro y6 y8 y10 y12 y14 y16 u_this_pads u_pad H locs h
    exact False.elim h
  | succ n ih =>
    intro y6 y8 y10 y12 y14 y16 u_this_pads u_pad H locs h hP hD hS ls hl
    rw [P_M_makeSides_467] at h
    refine lv_lload hx hb dM_makeSides_467 (lv_at hl 8 rfl) ?_
    refine lv_lload hx hb dM_makeSides_469 (lv_at hl 6 rfl) ?_
    refine zz_lcmp_ge (tgt := 532) hx hb dM_makeSides_471 dM_makeSides_472 (by decide) ?_ ?_
    · intro c1
      replace h := h.1 c1
      exact w_M_makeSides_532 l C0 hE a_this a_units a_kinds a_values a_names a_low a_high a_told a_leftOut a_isMade a_hands a_pad a_court a_title a_out k_told k_high k_values k_low k_pad p1 p2 v_this_thrown v_this_size v_this_families v_this_atHand v_this_family v_this_density v_this_pads v_this_hasThermal v_this_titleSize v_this_written v_this_at v_this_begin v_this_words v_this_paste0 v_told v_high v_values v_low v_pad post hK y6 u_this_pads u_pad _ _ h hP hD hS ls (lv_sub hl [0, 1, 2, 3] rfl)
    · intro c1
      replace h := h.2 c1
      refine lv_iload_n hx hb dM_makeSides_475 rfl (lv_at hl 1 rfl) ?_
      refine lv_iconst (v := 2) hx hb dM_makeSides_476 (by decide) ?_
      refine lv_icmp_ne (tgt := 532) hx hb dM_makeSides_477 (by decide) ?_ ?_
      · intro c2
        replace h := h.1 c2
        exact w_M_makeSides_532 l C0 hE a_this a_units a_kinds a_values a_names a_low a_high a_told a_leftOut a_isMade a_hands a_pad a_court a_title a_out k_told k_high k_values k_low k_pad p1 p2 v_this_thrown v_this_size v_this_families v_this_atHand v_this_family v_this_density v_this_pads v_this_hasThermal v_this_titleSize v_this_written v_this_at v_this_begin v_this_words v_this_paste0 v_told v_high v_values v_low v_pad post hK y6 u_this_pads u_pad _ _ h hP hD hS ls (lv_sub hl [0, 1, 2, 3] rfl)
      · intro c2
        replace h := h.2 c2
        refine lv_aload_n hx hb dM_makeSides_480 rfl (lv_at hl 0 rfl) ?_
        refine lv_aload_n hx hb dM_makeSides_481 rfl (lv_at hl 0 rfl) ?_
        refine va_get (D := (dC, dI)) (ci := 10) (v := .int u_this_pads) (C := RM) (T := TM) (N := 28) hx hb hts inZ_M hown hK hP 0 rfl rfl 16 (by decide) (hts _ zw_1060) (fun _ h9 => h9) rfl dM_makeSides_482 ?_
        refine lv_iconst (v := 1) hx hb dM_makeSides_485 (by decide) ?_
        refine lv_iadd hx hb dM_makeSides_486 ?_
        refine lv_lload hx hb dM_makeSides_487 (lv_at hl 6 rfl) ?_
        refine lv_lload hx hb dM_makeSides_489 (lv_at hl 6 rfl) ?_
        refine lv_lconst (v := 1) hx hb dM_makeSides_491 (by decide) ?_
        refine lv_lsub hx hb dM_makeSides_492 ?_
        refine lv_lload hx hb dM_makeSides_493 (lv_at hl 8 rfl) ?_
        refine lv_lsub hx hb dM_makeSides_495 ?_
        refine lv_lload hx hb dM_makeSides_496 (lv_at hl 5 rfl) ?_
        refine zcall_l hP hD hS hA [] [0, 1, 2, 3, 4, 5] (va_runS (As := [.long y12, .long ((y12 - 1) - y16), .long y10]) (rest := [.int (u_this_pads + 1), .ref a_this]) ⟨hx, hb, hml, hown, hts⟩ (c_M_middle l dC dI ad _ y12 ((y12 - 1) - y16) y10 _ h) ⟨callB_of 3 hts (zgood zc_M_middle) rfl rfl rfl (hts _ zw_107) (hts _ zw_1221) (by decide +kernel) ⟨Nat.le_of_ble_eq_true rfl, Nat.le_of_ble_eq_true rfl⟩, (hts _ zw_1222)⟩ (zpreS hE hK hP hD hS hA [] [] (by rfl) (by rfl) (by decide)) rfl rfl hl.1 rfl (lv_room (Nat.le_of_ble_eq_true rfl)) dM_makeSides_498 ⟨Nat.le_of_ble_eq_true rfl, Nat.le_of_ble_eq_true rfl⟩) (by rfl) (by rfl) (by decide) (by decide) (fun r3 u H locs h hP hD hS => ?_)
        try dsimp only at h
        have hP := hP.sub (ws' := (w_M_makeSides ad a_this a_units a_kinds a_values a_names a_low a_high a_told a_leftOut a_isMade a_hands a_pad a_court a_title a_out k_told k_high k_values k_low k_pad v_this_thrown v_this_size v_this_families v_this_atHand v_this_family v_this_density u_this_pads v_this_hasThermal v_this_titleSize v_this_written v_this_at v_this_begin v_this_words v_this_paste0 v_told v_high v_values v_low u_pad)) [0, 1, 2, 3, 4, 5] rfl
        have hD := hD.sub (ws' := (w_M_makeSides ad a_this a_units a_kinds a_values a_names a_low a_high a_told a_leftOut a_isMade a_hands a_pad a_court a_title a_out k_told k_high k_values k_low k_pad v_this_thrown v_this_size v_this_families v_this_atHand v_this_family v_this_density u_this_pads v_this_hasThermal v_this_titleSize v_this_written v_this_at v_this_begin v_this_words v_this_paste0 v_told v_high v_values v_low u_pad)) [0, 1, 2, 3, 4, 5] (by decide) rfl
        refine lv_lload hx hb dM_makeSides_501 (lv_at hl 4 rfl) ?_
        refine lv_ldc2 (own := RM) (index := 90) (v := 2) hx hb hown (hts _ zw_1179) dM_makeSides_503 ?_
        refine lv_ldiv hx hb dM_makeSides_506 (by decide) ?_
        refine lv_lsub hx hb dM_makeSides_507 ?_
        refine lv_lload hx hb dM_makeSides_508 (lv_at hl 3 rfl) ?_
        refine lv_ldc2 (own := RM) (index := 90) (v := 2) hx hb hown (hts _ zw_1179) dM_makeSides_510 ?_
        refine lv_ldiv hx hb dM_makeSides_513 (by decide) ?_
        refine lv_lload hx hb dM_makeSides_514 (lv_at hl 4 rfl) ?_
        refine lv_lload hx hb dM_makeSides_516 (lv_at hl 7 rfl) ?_
        refine lv_iconst (v := 0) hx hb dM_makeSides_518 (by decide) ?_
        refine lv_lconst (v := 0) hx hb dM_makeSides_519 (by decide) ?_
        refine zcall_v hP hD hS hA [0, 5] [1, 2, 3, 4] (va_runV (As := [.int (u_this_pads + 1), .long (r3 - (y8 / 2)), .long (y6 / 2), .long y8, .long y14, .int 0, .long 0]) (rest := []) ⟨hx, hb, hml, hown, hts⟩ (c_M_addPad l dC dI ad a_this a_units a_kinds a_values a_names a_low a_high a_told a_leftOut a_isMade a_hands a_pad a_court a_title a_out k_pad _ (u_this_pads + 1) (r3 - (y8 / 2)) (y6 / 2) y8 y14 0 0 v_this_thrown v_this_size v_this_families v_this_atHand v_this_family v_this_density u_this_pads v_this_hasThermal v_this_titleSize v_this_written v_this_at v_this_begin v_this_words v_this_paste0 u_pad _ h) ⟨callB_of 7 hts (zgood zc_M_addPad) rfl rfl rfl (hts _ zw_107) (hts _ zw_1224) (by decide +kernel) ⟨Nat.le_of_ble_eq_true rfl, Nat.le_of_ble_eq_true rfl⟩, (hts _ zw_1226), (hts _ zw_78)⟩ (zpreV hE hK hP hD hS hA [0, 5] [4] (by rfl) (by rfl) (by decide) (ci := 10) (q0 := 0) rfl (by rfl)) rfl rfl hl.1 rfl (lv_room (Nat.le_of_ble_eq_true rfl)) dM_makeSides_520 ⟨Nat.le_of_ble_eq_true rfl, Nat.le_of_ble_eq_true rfl⟩) (by rfl) (by rfl) (by decide) (by decide) (fun u H locs h hP hD hS => ?_)
        obtain ⟨u4, u5⟩ := u
        try dsimp only at h
        have hP := hP.sub (ws' := (w_M_makeSides ad a_this a_units a_kinds a_values a_names a_low a_high a_told a_leftOut a_isMade a_hands a_pad a_court a_title a_out k_told k_high k_values k_low k_pad v_this_thrown v_this_size v_this_families v_this_atHand v_this_family v_this_density u4 v_this_hasThermal v_this_titleSize v_this_written v_this_at v_this_begin v_this_words v_this_paste0 v_told v_high v_values v_low u5)) [4, 0, 1, 2, 3, 5] rfl
        have hD := hD.sub (ws' := (w_M_makeSides ad a_this a_units a_kinds a_values a_names a_low a_high a_told a_leftOut a_isMade a_hands a_pad a_court a_title a_out k_told k_high k_values k_low k_pad v_this_thrown v_this_size v_this_families v_this_atHand v_this_family v_this_density u4 v_this_hasThermal v_this_titleSize v_this_written v_this_at v_this_begin v_this_words v_this_paste0 v_told v_high v_values v_low u5)) [4, 0, 1, 2, 3, 5] (by decide) rfl
        refine lv_lload hx hb dM_makeSides_523 (lv_at hl 8 rfl) ?_
        refine lv_lconst (v := 1) hx hb dM_makeSides_525 (by decide) ?_
        refine lv_ladd hx hb dM_makeSides_526 ?_
        refine lv_topl (fun x6 ex6 => ?_)
        replace h := h x6 ex6
        refine lv_lstore (lv' := [(16, .long x6), (0, .ref a_this), (1, .int p1), (2, .long p2), (6, .long y6), (8, .long y8), (10, .long y10), (12, .long y12), (14, .long y14)]) hx hb dM_makeSides_527 hl (by decide) rfl (fun ls hl => ?_)
        refine lv_goto (tgt := 467) hx hb dM_makeSides_529 (by decide) ?_
        exact ih y6 y8 y10 y12 y14 x6 u4 u5 _ _ h hP hD hS ls (lv_sub hl [1, 2, 3, 4, 5, 6, 7, 8, 0] rfl)
def P_M_makeSides_409 (p1 : Int32) (p2 : Int64) (v_this_hasThermal : Int32) (v_told : Nat → Int32) (v_high : Nat → Int64) (post : Int32 → Int32 → Int32 → (Nat → Int64) → Prop) : Nat → Int64 → Int64 → Int64 → Int64 → Int64 → Int64 → Int32 → (Nat → Int64) → Prop
  | 0, _, _, _, _, _, _, _, _ => False
  | n + 1, y6, y8, y10, y12, y14, y16, u_this_pads, u_pad => ((y12 ≤ y16 → ∃ n2, P_M_makeSides_467 p1 p2 v_this_hasThermal v_told v_high post n2 y6 y8 y10 y12 y14 0 u_this_pads u_pad) ∧ (¬ y12 ≤ y16 → P_M_middle y12 y16 y10 (fun (r3 : Int64) => P_M_addPad (u_this_pads + 1) (y6 / 2) (r3 - (y8 / 2)) y14 y8 0 0 u_this_pads u_pad (fun (u4 : Int32) (u5 : Nat → Int64) => ∀ x6 : Int64, x6 = y16 + 1 → P_M_makeSides_409 p1 p2 v_this_hasThermal v_told v_high post n y6 y8 y10 y12 y14 x6 u4 u5))))
set_option maxHeartbeats 4000000 in
set_option maxRecDepth 100000 in
theorem w_M_makeSides_409 (l : Launch) {p : Program} {e : Env} {s : State} {m : MethodId} {args : Array Value} {below : List Frame} {meth : Method} {c : Code} {dC : Nat → ClassId} {dI : Nat → Nat → Nat} {ad : Nat → Nat → Nat} {A : Nat → Prop} (C0 : zC p s m args meth c cM_makeSides 18 RM zT (some .boolean) A) (hE : zE ad A s) (a_this : Nat) (a_units : Nat) (a_kinds : Nat) (a_values : Nat) (a_names : Nat) (a_low : Nat) (a_high : Nat) (a_told : Nat) (a_leftOut : Nat) (a_isMade : Nat) (a_hands : Nat) (a_pad : Nat) (a_court : Nat) (a_title : Nat) (a_out : Nat) (k_told : ClassId) (k_high : ClassId) (k_values : ClassId) (k_low : ClassId) (k_pad : ClassId) (p1 : Int32) (p2 : Int64) (v_this_thrown : Int32) (v_this_size : Int32) (v_this_families : Int32) (v_this_atHand : Int32) (v_this_family : Int32) (v_this_density : Int32) (v_this_pads : Int32) (v_this_hasThermal : Int32) (v_this_titleSize : Int32) (v_this_written : Int32) (v_this_at : Int32) (v_this_begin : Int32) (v_this_words : Int32) (v_this_paste0 : Int64) (v_told : Nat → Int32) (v_high : Nat → Int64) (v_values : Nat → Int64) (v_low : Nat → Int64) (v_pad : Nat → Int64) (post : Int32 → Int32 → Int32 → (Nat → Int64) → Prop) (hK : va_K (dC, dI) vwCl [(k_told, .boolean), (k_high, .long), (k_values, .long), (k_low, .long), (k_pad, .long)] s) : ∀ (n : Nat), ∀ (y6 : Int64) (y8 : Int64) (y10 : Int64) (y12 : Int64) (y14 : Int64) (y16 : Int64) (u_this_pads : Int32) (u_pad : Nat → Int64) (H : Heap) (locs : List Loc), P_M_makeSides_409 p1 p2 v_this_hasThermal v_told v_high post n y6 y8 y10 y12 y14 y16 u_this_pads u_pad → va_P (dC, dI) vwCl (w_M_makeSides ad a_this a_units a_kinds a_values a_names a_low a_high a_told a_leftOut a_isMade a_hands a_pad a_court a_title a_out k_told k_high k_values k_low k_pad v_this_thrown v_this_size v_this_families v_this_atHand v_this_family v_this_density u_this_pads v_this_hasThermal v_this_titleSize v_this_written v_this_at v_this_begin v_this_words v_this_paste0 v_told v_high v_values v_low u_pad) H → va_D A (w_M_makeSides ad a_this a_units a_kinds a_values a_names a_low a_high a_told a_leftOut a_isMade a_hands a_pad a_court a_title a_out k_told k_high k_values k_low k_pad v_this_thrown v_this_size v_this_families v_this_atHand v_this_family v_this_density u_this_pads v_this_hasThermal v_this_titleSize v_this_written v_this_at v_this_begin v_this_words v_this_paste0 v_told v_high v_values v_low u_pad) → va_S A s.heap H locs → ∀ ls : Array Slot, lv_has ls 18 [(0, .ref a_this), (1, .int p1), (2, .long p2), (6, .long y6), (8, .long y8), (10, .long y10), (12, .long y12), (14, .long y14), (16, .long y16)] → W p l e (headSpec wsM_makeSides { frames := 2, cells := 0, slots := 0, locals := 61 }).room s m args below meth c H locs 0 0 (MQ below (va_Qi (fun (r : Int32) (u : Int32 × Int32 × (Nat → Int64)) => post r u.1 u.2.1 u.2.2) (zB (dC, dI) A (fun (u : Int32 × Int32 × (Nat → Int64)) => (w_M_makeSides ad a_this a_units a_kinds a_values a_names a_low a_high a_told a_leftOut a_isMade a_hands a_pad a_court a_title a_out k_told k_high k_values k_low k_pad v_this_thrown v_this_size v_this_families v_this_atHand v_this_family v_this_density u.1 u.2.1 v_this_titleSize v_this_written v_this_at v_this_begin v_this_words v_this_paste0 v_told v_high v_values v_low u.2.2))) A) args s 0 0 A) (F0 m 409 ls []) := by
  obtain ⟨hx, hb, hr, hml, hown, hts, hlocks, hA⟩ := id C0
  intro n
  induction n with
  | zero =>
    intro y6 y8 y10 y12 y14 y16 u_this_pads u_pad H locs h
    exact False.elim h
  | succ n ih =>
    intro y6 y8 y10 y12 y14 y16 u_this_pads u_pad H locs h hP hD hS ls hl
    rw [P_M_makeSides_409] at h
    refine lv_lload hx hb dM_makeSides_409 (lv_at hl 8 rfl) ?_
    refine lv_lload hx hb dM_makeSides_411 (lv_at hl 6 rfl) ?_
    refine zz_lcmp_ge (tgt := 464) hx hb dM_makeSides_413 dM_makeSides_414 (by decide) ?_ ?_
    · intro c1
      replace h := h.1 c1
      refine lv_lconst (v := 0) hx hb dM_makeSides_464 (by decide) ?_
      refine lv_lstore (lv' := [(16, .long 0), (0, .ref a_this), (1, .int p1), (2, .long p2), (6, .long y6), (8, .long y8), (10, .long y10), (12, .long y12), (14, .long y14)]) hx hb dM_makeSides_465 hl (by decide) rfl (fun ls hl => ?_)
      obtain ⟨n2, h⟩ := h
      exact w_M_makeSides_467 l C0 hE a_this a_units a_kinds a_values a_names a_low a_high a_told a_leftOut a_isMade a_hands a_pad a_court a_title a_out k_told k_high k_values k_low k_pad p1 p2 v_this_thrown v_this_size v_this_families v_this_atHand v_this_family v_this_density v_this_pads v_this_hasThermal v_this_titleSize v_this_written v_this_at v_this_begin v_this_words v_this_paste0 v_told v_high v_values v_low v_pad post hK n2 y6 y8 y10 y12 y14 0 u_this_pads u_pad _ _ h hP hD hS ls (lv_sub hl [1, 2, 3, 4, 5, 6, 7, 8, 0] rfl)
    · intro c1
      replace h := h.2 c1
      refine lv_aload_n hx hb dM_makeSides_417 rfl (lv_at hl 0 rfl) ?_
      refine lv_aload_n hx hb dM_makeSides_418 rfl (lv_at hl 0 rfl) ?_
      refine va_get (D := (dC, dI)) (ci := 10) (v := .int u_this_pads) (C := RM) (T := TM) (N := 28) hx hb hts inZ_M hown hK hP 0 rfl rfl 16 (by decide) (hts _ zw_1060) (fun _ h9 => h9) rfl dM_makeSides_419 ?_
      refine lv_iconst (v := 1) hx hb dM_makeSides_422 (by decide) ?_
      refine lv_iadd hx hb dM_makeSides_423 ?_
      refine lv_lload hx hb dM_makeSides_424 (lv_at hl 3 rfl) ?_
      refine lv_ldc2 (own := RM) (index := 90) (v := 2) hx hb hown (hts _ zw_1179) dM_makeSides_426 ?_
      refine lv_ldiv hx hb dM_makeSides_429 (by decide) ?_
      refine lv_lload hx hb dM_makeSides_430 (lv_at hl 6 rfl) ?_
      refine lv_lload hx hb dM_makeSides_432 (lv_at hl 8 rfl) ?_
      refine lv_lload hx hb dM_makeSides_434 (lv_at hl 5 rfl) ?_
      refine zcall_l hP hD hS hA [] [0, 1, 2, 3, 4, 5] (va_runS (As := [.long y12, .long y16, .long y10]) (rest := [.long (y6 / 2), .int (u_this_pads + 1), .ref a_this]) ⟨hx, hb, hml, hown, hts⟩ (c_M_middle l dC dI ad _ y12 y16 y10 _ h) ⟨callB_of 3 hts (zgood zc_M_middle) rfl rfl rfl (hts _ zw_107) (hts _ zw_1221) (by decide +kernel) ⟨Nat.le_of_ble_eq_true rfl, Nat.le_of_ble_eq_true rfl⟩, (hts _ zw_1222)⟩ (zpreS hE hK hP hD hS hA [] [] (by rfl) (by rfl) (by decide)) rfl rfl hl.1 rfl (lv_room (Nat.le_of_ble_eq_true rfl)) dM_makeSides_436 ⟨Nat.le_of_ble_eq_true rfl, Nat.le_of_ble_eq_true rfl⟩) (by rfl) (by rfl) (by decide) (by decide) (fun r3 u H locs h hP hD hS => ?_)
      try dsimp only at h
      have hP := hP.sub (ws' := (w_M_makeSides ad a_this a_units a_kinds a_values a_names a_low a_high a_told a_leftOut a_isMade a_hands a_pad a_court a_title a_out k_told k_high k_values k_low k_pad v_this_thrown v_this_size v_this_families v_this_atHand v_this_family v_this_density u_this_pads v_this_hasThermal v_this_titleSize v_this_written v_this_at v_this_begin v_this_words v_this_paste0 v_told v_high v_values v_low u_pad)) [0, 1, 2, 3, 4, 5] rfl
      have hD := hD.sub (ws' := (w_M_makeSides ad a_this a_units a_kinds a_values a_names a_low a_high a_told a_leftOut a_isMade a_hands a_pad a_court a_title a_out k_told k_high k_values k_low k_pad v_this_thrown v_this_size v_this_families v_this_atHand v_this_family v_this_density u_this_pads v_this_hasThermal v_this_titleSize v_this_written v_this_at v_this_begin v_this_words v_this_paste0 v_told v_high v_values v_low u_pad)) [0, 1, 2, 3, 4, 5] (by decide) rfl
      refine lv_lload hx hb dM_makeSides_439 (lv_at hl 4 rfl) ?_
      refine lv_ldc2 (own := RM) (index := 90) (v := 2) hx hb hown (hts _ zw_1179) dM_makeSides_441 ?_
      refine lv_ldiv hx hb dM_makeSides_444 (by decide) ?_
      refine lv_lsub hx hb dM_makeSides_445 ?_
      refine lv_lload hx hb dM_makeSides_446 (lv_at hl 7 rfl) ?_
      refine lv_lload hx hb dM_makeSides_448 (lv_at hl 4 rfl) ?_
      refine lv_iconst (v := 0) hx hb dM_makeSides_450 (by decide) ?_
      refine lv_lconst (v := 0) hx hb dM_makeSides_451 (by decide) ?_
      refine zcall_v hP hD hS hA [0, 5] [1, 2, 3, 4] (va_runV (As := [.int (u_this_pads + 1), .long (y6 / 2), .long (r3 - (y8 / 2)), .long y14, .long y8, .int 0, .long 0]) (rest := []) ⟨hx, hb, hml, hown, hts⟩ (c_M_addPad l dC dI ad a_this a_units a_kinds a_values a_names a_low a_high a_told a_leftOut a_isMade a_hands a_pad a_court a_title a_out k_pad _ (u_this_pads + 1) (y6 / 2) (r3 - (y8 / 2)) y14 y8 0 0 v_this_thrown v_this_size v_this_families v_this_atHand v_this_family v_this_density u_this_pads v_this_hasThermal v_this_titleSize v_this_written v_this_at v_this_begin v_this_words v_this_paste0 u_pad _ h) ⟨callB_of 7 hts (zgood zc_M_addPad) rfl rfl rfl (hts _ zw_107) (hts _ zw_1224) (by decide +kernel) ⟨Nat.le_of_ble_eq_true rfl, Nat.le_of_ble_eq_true rfl⟩, (hts _ zw_1226), (hts _ zw_78)⟩ (zpreV hE hK hP hD hS hA [0, 5] [4] (by rfl) (by rfl) (by decide) (ci := 10) (q0 := 0) rfl (by rfl)) rfl rfl hl.1 rfl (lv_room (Nat.le_of_ble_eq_true rfl)) dM_makeSides_452 ⟨Nat.le_of_ble_eq_true rfl, Nat.le_of_ble_eq_true rfl⟩) (by rfl) (by rfl) (by decide) (by decide) (fun u H locs h hP hD hS => ?_)
      obtain ⟨u4, u5⟩ := u
      try dsimp only at h
      have hP := hP.sub (ws' := (w_M_makeSides ad a_this a_units a_kinds a_values a_names a_low a_high a_told a_leftOut a_isMade a_hands a_pad a_court a_title a_out k_told k_high k_values k_low k_pad v_this_thrown v_this_size v_this_families v_this_atHand v_this_family v_this_density u4 v_this_hasThermal v_this_titleSize v_this_written v_this_at v_this_begin v_this_words v_this_paste0 v_told v_high v_values v_low u5)) [4, 0, 1, 2, 3, 5] rfl
      have hD := hD.sub (ws' := (w_M_makeSides ad a_this a_units a_kinds a_values a_names a_low a_high a_told a_leftOut a_isMade a_hands a_pad a_court a_title a_out k_told k_high k_values k_low k_pad v_this_thrown v_this_size v_this_families v_this_atHand v_this_family v_this_density u4 v_this_hasThermal v_this_titleSize v_this_written v_this_at v_this_begin v_this_words v_this_paste0 v_told v_high v_values v_low u5)) [4, 0, 1, 2, 3, 5] (by decide) rfl
      refine lv_lload hx hb dM_makeSides_455 (lv_at hl 8 rfl) ?_
      refine lv_lconst (v := 1) hx hb dM_makeSides_457 (by decide) ?_
      refine lv_ladd hx hb dM_makeSides_458 ?_
      refine lv_topl (fun x6 ex6 => ?_)
      replace h := h x6 ex6
      refine lv_lstore (lv' := [(16, .long x6), (0, .ref a_this), (1, .int p1), (2, .long p2), (6, .long y6), (8, .long y8), (10, .long y10), (12, .long y12), (14, .long y14)]) hx hb dM_makeSides_459 hl (by decide) rfl (fun ls hl => ?_)
      refine lv_goto (tgt := 409) hx hb dM_makeSides_461 (by decide) ?_
      exact ih y6 y8 y10 y12 y14 x6 u4 u5 _ _ h hP hD hS ls (lv_sub hl [1, 2, 3, 4, 5, 6, 7, 8, 0] rfl)
def P_M_makeSides_406 (p1 : Int32) (p2 : Int64) (v_this_hasThermal : Int32) (v_told : Nat → Int32) (v_high : Nat → Int64) (post : Int32 → Int32 → Int32 → (Nat → Int64) → Prop) (y6 : Int64) (y8 : Int64) (y10 : Int64) (y12 : Int64) (y14 : Int64) (u_this_pads : Int32) (u_pad : Nat → Int64) : Prop := ∃ n1, P_M_makeSides_409 p1 p2 v_this_hasThermal v_told v_high post n1 y6 y8 y10 y12 y14 0 u_this_pads u_pad
set_option maxHeartbeats 4000000 in
set_option maxRecDepth 100000 in
theorem w_M_makeSides_406 (l : Launch) {p : Program} {e : Env} {s : State} {m : MethodId} {args : Array Value} {below : List Frame} {meth : Method} {c : Code} {dC : Nat → ClassId} {dI : Nat → Nat → Nat} {ad : Nat → Nat → Nat} {A : Nat → Prop} (C0 : zC p s m args meth c cM_makeSides 18 RM zT (some .boolean) A) (hE : zE ad A s) (a_this : Nat) (a_units : Nat) (a_kinds : Nat) (a_values : Nat) (a_names : Nat) (a_low : Nat) (a_high : Nat) (a_told : Nat) (a_leftOut : Nat) (a_isMade : Nat) (a_hands : Nat) (a_pad : Nat) (a_court : Nat) (a_title : Nat) (a_out : Nat) (k_told : ClassId) (k_high : ClassId) (k_values : ClassId) (k_low : ClassId) (k_pad : ClassId) (p1 : Int32) (p2 : Int64) (v_this_thrown : Int32) (v_this_size : Int32) (v_this_families : Int32) (v_this_atHand : Int32) (v_this_family : Int32) (v_this_density : Int32) (v_this_pads : Int32) (v_this_hasThermal : Int32) (v_this_titleSize : Int32) (v_this_written : Int32) (v_this_at : Int32) (v_this_begin : Int32) (v_this_words : Int32) (v_this_paste0 : Int64) (v_told : Nat → Int32) (v_high : Nat → Int64) (v_values : Nat → Int64) (v_low : Nat → Int64) (v_pad : Nat → Int64) (post : Int32 → Int32 → Int32 → (Nat → Int64) → Prop) (hK : va_K (dC, dI) vwCl [(k_told, .boolean), (k_high, .long), (k_values, .long), (k_low, .long), (k_pad, .long)] s) : ∀ (y6 : Int64) (y8 : Int64) (y10 : Int64) (y12 : Int64) (y14 : Int64) (u_this_pads : Int32) (u_pad : Nat → Int64) (H : Heap) (locs : List Loc), P_M_makeSides_406 p1 p2 v_this_hasThermal v_told v_high post y6 y8 y10 y12 y14 u_this_pads u_pad → va_P (dC, dI) vwCl (w_M_makeSides ad a_this a_units a_kinds a_values a_names a_low a_high a_told a_leftOut a_isMade a_hands a_pad a_court a_title a_out k_told k_high k_values k_low k_pad v_this_thrown v_this_size v_this_families v_this_atHand v_this_family v_this_density u_this_pads v_this_hasThermal v_this_titleSize v_this_written v_this_at v_this_begin v_this_words v_this_paste0 v_told v_high v_values v_low u_pad) H → va_D A (w_M_makeSides ad a_this a_units a_kinds a_values a_names a_low a_high a_told a_leftOut a_isMade a_hands a_pad a_court a_title a_out k_told k_high k_values k_low k_pad v_this_thrown v_this_size v_this_families v_this_atHand v_this_family v_this_density u_this_pads v_this_hasThermal v_this_titleSize v_this_written v_this_at v_this_begin v_this_words v_this_paste0 v_told v_high v_values v_low u_pad) → va_S A s.heap H locs → ∀ ls : Array Slot, lv_has ls 18 [(0, .ref a_this), (1, .int p1), (2, .long p2), (6, .long y6), (8, .long y8), (10, .long y10), (12, .long y12), (14, .long y14)] → W p l e (headSpec wsM_makeSides { frames := 2, cells := 0, slots := 0, locals := 61 }).room s m args below meth c H locs 0 0 (MQ below (va_Qi (fun (r : Int32) (u : Int32 × Int32 × (Nat → Int64)) => post r u.1 u.2.1 u.2.2) (zB (dC, dI) A (fun (u : Int32 × Int32 × (Nat → Int64)) => (w_M_makeSides ad a_this a_units a_kinds a_values a_names a_low a_high a_told a_leftOut a_isMade a_hands a_pad a_court a_title a_out k_told k_high k_values k_low k_pad v_this_thrown v_this_size v_this_families v_this_atHand v_this_family v_this_density u.1 u.2.1 v_this_titleSize v_this_written v_this_at v_this_begin v_this_words v_this_paste0 v_told v_high v_values v_low u.2.2))) A) args s 0 0 A) (F0 m 406 ls []) := by
  obtain ⟨hx, hb, hr, hml, hown, hts, hlocks, hA⟩ := id C0
  intro y6 y8 y10 y12 y14 u_this_pads u_pad H locs h hP hD hS ls hl
  unfold P_M_makeSides_406 at h
  refine lv_lconst (v := 0) hx hb dM_makeSides_406 (by decide) ?_
  refine lv_lstore (lv' := [(16, .long 0), (0, .ref a_this), (1, .int p1), (2, .long p2), (6, .long y6), (8, .long y8), (10, .long y10), (12, .long y12), (14, .long y14)]) hx hb dM_makeSides_407 hl (by decide) rfl (fun ls hl => ?_)
  obtain ⟨n1, h⟩ := h
  exact w_M_makeSides_409 l C0 hE a_this a_units a_kinds a_values a_names a_low a_high a_told a_leftOut a_isMade a_hands a_pad a_court a_title a_out k_told k_high k_values k_low k_pad p1 p2 v_this_thrown v_this_size v_this_families v_this_atHand v_this_family v_this_density v_this_pads v_this_hasThermal v_this_titleSize v_this_written v_this_at v_this_begin v_this_words v_this_paste0 v_told v_high v_values v_low v_pad post hK n1 y6 y8 y10 y12 y14 0 u_this_pads u_pad _ _ h hP hD hS ls (lv_sub hl [1, 2, 3, 4, 5, 6, 7, 8, 0] rfl)
def P_M_makeSides_345 (p1 : Int32) (p2 : Int64) (v_this_hasThermal : Int32) (v_told : Nat → Int32) (v_high : Nat → Int64) (post : Int32 → Int32 → Int32 → (Nat → Int64) → Prop) : Nat → Int64 → Int64 → Int64 → Int64 → Int64 → Int64 → Int64 → Int32 → (Nat → Int64) → Prop
  | 0, _, _, _, _, _, _, _, _, _ => False
  | n + 1, y4, y6, y8, y10, y12, y14, y16, u_this_pads, u_pad => ((y12 ≤ y16 → P_M_makeSides_406 p1 p2 v_this_hasThermal v_told v_high post y6 y8 y10 y12 y14 u_this_pads u_pad) ∧ (¬ y12 ≤ y16 → ((¬ p1 = 2 → P_M_makeSides_406 p1 p2 v_this_hasThermal v_told v_high post y6 y8 y10 y12 y14 u_this_pads u_pad) ∧ (p1 = 2 → P_M_middle y12 y16 y10 (fun (r3 : Int64) => P_M_addPad (u_this_pads + 1) (r3 - (y8 / 2)) ((-y4) / 2) y8 y14 0 0 u_this_pads u_pad (fun (u4 : Int32) (u5 : Nat → Int64) => ∀ x6 : Int64, x6 = y16 + 1 → P_M_makeSides_345 p1 p2 v_this_hasThermal v_told v_high post n y4 y6 y8 y10 y12 y14 x6 u4 u5))))))
set_option maxHeartbeats 4000000 in
set_option maxRecDepth 100000 in
theorem w_M_makeSides_345 (l : Launch) {p : Program} {e : Env} {s : State} {m : MethodId} {args : Array Value} {below : List Frame} {meth : Method} {c : Code} {dC : Nat → ClassId} {dI : Nat → Nat → Nat} {ad : Nat → Nat → Nat} {A : Nat → Prop} (C0 : zC p s m args meth c cM_makeSides 18 RM zT (some .boolean) A) (hE : zE ad A s) (a_this : Nat) (a_units : Nat) (a_kinds : Nat) (a_values : Nat) (a_names : Nat) (a_low : Nat) (a_high : Nat) (a_told : Nat) (a_leftOut : Nat) (a_isMade : Nat) (a_hands : Nat) (a_pad : Nat) (a_court : Nat) (a_title : Nat) (a_out : Nat) (k_told : ClassId) (k_high : ClassId) (k_values : ClassId) (k_low : ClassId) (k_pad : ClassId) (p1 : Int32) (p2 : Int64) (v_this_thrown : Int32) (v_this_size : Int32) (v_this_families : Int32) (v_this_atHand : Int32) (v_this_family : Int32) (v_this_density : Int32) (v_this_pads : Int32) (v_this_hasThermal : Int32) (v_this_titleSize : Int32) (v_this_written : Int32) (v_this_at : Int32) (v_this_begin : Int32) (v_this_words : Int32) (v_this_paste0 : Int64) (v_told : Nat → Int32) (v_high : Nat → Int64) (v_values : Nat → Int64) (v_low : Nat → Int64) (v_pad : Nat → Int64) (post : Int32 → Int32 → Int32 → (Nat → Int64) → Prop) (hK : va_K (dC, dI) vwCl [(k_told, .boolean), (k_high, .long), (k_values, .long), (k_low, .long), (k_pad, .long)] s) : ∀ (n : Nat), ∀ (y4 : Int64) (y6 : Int64) (y8 : Int64) (y10 : Int64) (y12 : Int64) (y14 : Int64) (y16 : Int64) (u_this_pads : Int32) (u_pad : Nat → Int64) (H : Heap) (locs : List Loc), P_M_makeSides_345 p1 p2 v_this_hasThermal v_told v_high post n y4 y6 y8 y10 y12 y14 y16 u_this_pads u_pad → va_P (dC, dI) vwCl (w_M_makeSides ad a_this a_units a_kinds a_values a_names a_low a_high a_told a_leftOut a_isMade a_hands a_pad a_court a_title a_out k_told k_high k_values k_low k_pad v_this_thrown v_this_size v_this_families v_this_atHand v_this_family v_this_density u_this_pads v_this_hasThermal v_this_titleSize v_this_written v_this_at v_this_begin v_this_words v_this_paste0 v_told v_high v_values v_low u_pad) H → va_D A (w_M_makeSides ad a_this a_units a_kinds a_values a_names a_low a_high a_told a_leftOut a_isMade a_hands a_pad a_court a_title a_out k_told k_high k_values k_low k_pad v_this_thrown v_this_size v_this_families v_this_atHand v_this_family v_this_density u_this_pads v_this_hasThermal v_this_titleSize v_this_written v_this_at v_this_begin v_this_words v_this_paste0 v_told v_high v_values v_low u_pad) → va_S A s.heap H locs → ∀ ls : Array Slot, lv_has ls 18 [(0, .ref a_this), (1, .int p1), (2, .long p2), (4, .long y4), (6, .long y6), (8, .long y8), (10, .long y10), (12, .long y12), (14, .long y14), (16, .long y16)] → W p l e (headSpec wsM_makeSides { frames := 2, cells := 0, slots := 0, locals := 61 }).room s m args below meth c H locs 0 0 (MQ below (va_Qi (fun (r : Int32) (u : Int32 × Int32 × (Nat → Int64)) => post r u.1 u.2.1 u.2.2) (zB (dC, dI) A (fun (u : Int32 × Int32 × (Nat → Int64)) => (w_M_makeSides ad a_this a_units a_kinds a_values a_names a_low a_high a_told a_leftOut a_isMade a_hands a_pad a_court a_title a_out k_told k_high k_values k_low k_pad v_this_thrown v_this_size v_this_families v_this_atHand v_this_family v_this_density u.1 u.2.1 v_this_titleSize v_this_written v_this_at v_this_begin v_this_words v_this_paste0 v_told v_high v_values v_low u.2.2))) A) args s 0 0 A) (F0 m 345 ls []) := by
  obtain ⟨hx, hb, hr, hml, hown, hts, hlocks, hA⟩ := id C0
  intro n
  induction n with
  | zero =>
    intro y4 y6 y8 y10 y12 y14 y16 u_this_pads u_pad H locs h
    exact False.elim h
  | succ n ih =>
    intro y4 y6 y8 y10 y12 y14 y16 u_this_pads u_pad H locs h hP hD hS ls hl
    rw [P_M_makeSides_345] at h
    refine lv_lload hx hb dM_makeSides_345 (lv_at hl 9 rfl) ?_
    refine lv_lload hx hb dM_makeSides_347 (lv_at hl 7 rfl) ?_
    refine zz_lcmp_ge (tgt := 406) hx hb dM_makeSides_349 dM_makeSides_350 (by decide) ?_ ?_
    · intro c1
      replace h := h.1 c1
      exact w_M_makeSides_406 l C0 hE a_this a_units a_kinds a_values a_names a_low a_high a_told a_leftOut a_isMade a_hands a_pad a_court a_title a_out k_told k_high k_values k_low k_pad p1 p2 v_this_thrown v_this_size v_this_families v_this_atHand v_this_family v_this_density v_this_pads v_this_hasThermal v_this_titleSize v_this_written v_this_at v_this_begin v_this_words v_this_paste0 v_told v_high v_values v_low v_pad post hK y6 y8 y10 y12 y14 u_this_pads u_pad _ _ h hP hD hS ls (lv_sub hl [0, 1, 2, 4, 5, 6, 7, 8] rfl)
    · intro c1
      replace h := h.2 c1
      refine lv_iload_n hx hb dM_makeSides_353 rfl (lv_at hl 1 rfl) ?_
      refine lv_iconst (v := 2) hx hb dM_makeSides_354 (by decide) ?_
      refine lv_icmp_ne (tgt := 406) hx hb dM_makeSides_355 (by decide) ?_ ?_
      · intro c2
        replace h := h.1 c2
        exact w_M_makeSides_406 l C0 hE a_this a_units a_kinds a_values a_names a_low a_high a_told a_leftOut a_isMade a_hands a_pad a_court a_title a_out k_told k_high k_values k_low k_pad p1 p2 v_this_thrown v_this_size v_this_families v_this_atHand v_this_family v_this_density v_this_pads v_this_hasThermal v_this_titleSize v_this_written v_this_at v_this_begin v_this_words v_this_paste0 v_told v_high v_values v_low v_pad post hK y6 y8 y10 y12 y14 u_this_pads u_pad _ _ h hP hD hS ls (lv_sub hl [0, 1, 2, 4, 5, 6, 7, 8] rfl)
      · intro c2
        replace h := h.2 c2
        refine lv_aload_n hx hb dM_makeSides_358 rfl (lv_at hl 0 rfl) ?_
        refine lv_aload_n hx hb dM_makeSides_359 rfl (lv_at hl 0 rfl) ?_
        refine va_get (D := (dC, dI)) (ci := 10) (v := .int u_this_pads) (C := RM) (T := TM) (N := 28) hx hb hts inZ_M hown hK hP 0 rfl rfl 16 (by decide) (hts _ zw_1060) (fun _ h9 => h9) rfl dM_makeSides_360 ?_
        refine lv_iconst (v := 1) hx hb dM_makeSides_363 (by decide) ?_
        refine lv_iadd hx hb dM_makeSides_364 ?_
        refine lv_lload hx hb dM_makeSides_365 (lv_at hl 7 rfl) ?_
        refine lv_lload hx hb dM_makeSides_367 (lv_at hl 9 rfl) ?_
        refine lv_lload hx hb dM_makeSides_369 (lv_at hl 6 rfl) ?_
        refine zcall_l hP hD hS hA [] [0, 1, 2, 3, 4, 5] (va_runS (As := [.long y12, .long y16, .long y10]) (rest := [.int (u_this_pads + 1), .ref a_this]) ⟨hx, hb, hml, hown, hts⟩ (c_M_middle l dC dI ad _ y12 y16 y10 _ h) ⟨callB_of 3 hts (zgood zc_M_middle) rfl rfl rfl (hts _ zw_107) (hts _ zw_1221) (by decide +kernel) ⟨Nat.le_of_ble_eq_true rfl, Nat.le_of_ble_eq_true rfl⟩, (hts _ zw_1222)⟩ (zpreS hE hK hP hD hS hA [] [] (by rfl) (by rfl) (by decide)) rfl rfl hl.1 rfl (lv_room (Nat.le_of_ble_eq_true rfl)) dM_makeSides_371 ⟨Nat.le_of_ble_eq_true rfl, Nat.le_of_ble_eq_true rfl⟩) (by rfl) (by rfl) (by decide) (by decide) (fun r3 u H locs h hP hD hS => ?_)
        try dsimp only at h
        have hP := hP.sub (ws' := (w_M_makeSides ad a_this a_units a_kinds a_values a_names a_low a_high a_told a_leftOut a_isMade a_hands a_pad a_court a_title a_out k_told k_high k_values k_low k_pad v_this_thrown v_this_size v_this_families v_this_atHand v_this_family v_this_density u_this_pads v_this_hasThermal v_this_titleSize v_this_written v_this_at v_this_begin v_this_words v_this_paste0 v_told v_high v_values v_low u_pad)) [0, 1, 2, 3, 4, 5] rfl
        have hD := hD.sub (ws' := (w_M_makeSides ad a_this a_units a_kinds a_values a_names a_low a_high a_told a_leftOut a_isMade a_hands a_pad a_court a_title a_out k_told k_high k_values k_low k_pad v_this_thrown v_this_size v_this_families v_this_atHand v_this_family v_this_density u_this_pads v_this_hasThermal v_this_titleSize v_this_written v_this_at v_this_begin v_this_words v_this_paste0 v_told v_high v_values v_low u_pad)) [0, 1, 2, 3, 4, 5] (by decide) rfl
        refine lv_lload hx hb dM_makeSides_374 (lv_at hl 5 rfl) ?_
        refine lv_ldc2 (own := RM) (index := 90) (v := 2) hx hb hown (hts _ zw_1179) dM_makeSides_376 ?_
        refine lv_ldiv hx hb dM_makeSides_379 (by decide) ?_
        refine lv_lsub hx hb dM_makeSides_380 ?_
        refine lv_lload hx hb dM_makeSides_381 (lv_at hl 3 rfl) ?_
        refine lv_lneg hx hb dM_makeSides_383 ?_
        refine lv_ldc2 (own := RM) (index := 90) (v := 2) hx hb hown (hts _ zw_1179) dM_makeSides_384 ?_
        refine lv_ldiv hx hb dM_makeSides_387 (by decide) ?_
        refine lv_lload hx hb dM_makeSides_388 (lv_at hl 5 rfl) ?_
        refine lv_lload hx hb dM_makeSides_390 (lv_at hl 8 rfl) ?_
        refine lv_iconst (v := 0) hx hb dM_makeSides_392 (by decide) ?_
        refine lv_lconst (v := 0) hx hb dM_makeSides_393 (by decide) ?_
        refine zcall_v hP hD hS hA [0, 5] [1, 2, 3, 4] (va_runV (As := [.int (u_this_pads + 1), .long (r3 - (y8 / 2)), .long ((-y4) / 2), .long y8, .long y14, .int 0, .long 0]) (rest := []) ⟨hx, hb, hml, hown, hts⟩ (c_M_addPad l dC dI ad a_this a_units a_kinds a_values a_names a_low a_high a_told a_leftOut a_isMade a_hands a_pad a_court a_title a_out k_pad _ (u_this_pads + 1) (r3 - (y8 / 2)) ((-y4) / 2) y8 y14 0 0 v_this_thrown v_this_size v_this_families v_this_atHand v_this_family v_this_density u_this_pads v_this_hasThermal v_this_titleSize v_this_written v_this_at v_this_begin v_this_words v_this_paste0 u_pad _ h) ⟨callB_of 7 hts (zgood zc_M_addPad) rfl rfl rfl (hts _ zw_107) (hts _ zw_1224) (by decide +kernel) ⟨Nat.le_of_ble_eq_true rfl, Nat.le_of_ble_eq_true rfl⟩, (hts _ zw_1226), (hts _ zw_78)⟩ (zpreV hE hK hP hD hS hA [0, 5] [4] (by rfl) (by rfl) (by decide) (ci := 10) (q0 := 0) rfl (by rfl)) rfl rfl hl.1 rfl (lv_room (Nat.le_of_ble_eq_true rfl)) dM_makeSides_394 ⟨Nat.le_of_ble_eq_true rfl, Nat.le_of_ble_eq_true rfl⟩) (by rfl) (by rfl) (by decide) (by decide) (fun u H locs h hP hD hS => ?_)
        obtain ⟨u4, u5⟩ := u
        try dsimp only at h
        have hP := hP.sub (ws' := (w_M_makeSides ad a_this a_units a_kinds a_values a_names a_low a_high a_told a_leftOut a_isMade a_hands a_pad a_court a_title a_out k_told k_high k_values k_low k_pad v_this_thrown v_this_size v_this_families v_this_atHand v_this_family v_this_density u4 v_this_hasThermal v_this_titleSize v_this_written v_this_at v_this_begin v_this_words v_this_paste0 v_told v_high v_values v_low u5)) [4, 0, 1, 2, 3, 5] rfl
        have hD := hD.sub (ws' := (w_M_makeSides ad a_this a_units a_kinds a_values a_names a_low a_high a_told a_leftOut a_isMade a_hands a_pad a_court a_title a_out k_told k_high k_values k_low k_pad v_this_thrown v_this_size v_this_families v_this_atHand v_this_family v_this_density u4 v_this_hasThermal v_this_titleSize v_this_written v_this_at v_this_begin v_this_words v_this_paste0 v_told v_high v_values v_low u5)) [4, 0, 1, 2, 3, 5] (by decide) rfl
        refine lv_lload hx hb dM_makeSides_397 (lv_at hl 9 rfl) ?_
        refine lv_lconst (v := 1) hx hb dM_makeSides_399 (by decide) ?_
        refine lv_ladd hx hb dM_makeSides_400 ?_
        refine lv_topl (fun x6 ex6 => ?_)
        replace h := h x6 ex6
        refine lv_lstore (lv' := [(16, .long x6), (0, .ref a_this), (1, .int p1), (2, .long p2), (4, .long y4), (6, .long y6), (8, .long y8), (10, .long y10), (12, .long y12), (14, .long y14)]) hx hb dM_makeSides_401 hl (by decide) rfl (fun ls hl => ?_)
        refine lv_goto (tgt := 345) hx hb dM_makeSides_403 (by decide) ?_
        exact ih y4 y6 y8 y10 y12 y14 x6 u4 u5 _ _ h hP hD hS ls (lv_sub hl [1, 2, 3, 4, 5, 6, 7, 8, 9, 0] rfl)
def P_M_makeSides_281 (p1 : Int32) (p2 : Int64) (v_this_hasThermal : Int32) (v_told : Nat → Int32) (v_high : Nat → Int64) (post : Int32 → Int32 → Int32 → (Nat → Int64) → Prop) : Nat → Int64 → Int64 → Int64 → Int64 → Int64 → Int64 → Int64 → Int32 → (Nat → Int64) → Prop
  | 0, _, _, _, _, _, _, _, _, _ => False
  | n + 1, y4, y6, y8, y10, y12, y14, y16, u_this_pads, u_pad => ((y12 ≤ y16 → ∃ n2, P_M_makeSides_345 p1 p2 v_this_hasThermal v_told v_high post n2 y4 y6 y8 y10 y12 y14 0 u_this_pads u_pad) ∧ (¬ y12 ≤ y16 → P_M_middle y12 ((y12 - 1) - y16) y10 (fun (r3 : Int64) => P_M_addPad (u_this_pads + 1) ((-y4) / 2) (r3 - (y8 / 2)) y14 y8 0 0 u_this_pads u_pad (fun (u4 : Int32) (u5 : Nat → Int64) => ∀ x6 : Int64, x6 = y16 + 1 → P_M_makeSides_281 p1 p2 v_this_hasThermal v_told v_high post n y4 y6 y8 y10 y12 y14 x6 u4 u5))))
set_option maxHeartbeats 4000000 in
set_option maxRecDepth 100000 in
theorem w_M_makeSides_281 (l : Launch) {p : Program} {e : Env} {s : State} {m : MethodId} {args : Array Value} {below : List Frame} {meth : Method} {c : Code} {dC : Nat → ClassId} {dI : Nat → Nat → Nat} {ad : Nat → Nat → Nat} {A : Nat → Prop} (C0 : zC p s m args meth c cM_makeSides 18 RM zT (some .boolean) A) (hE : zE ad A s) (a_this : Nat) (a_units : Nat) (a_kinds : Nat) (a_values : Nat) (a_names : Nat) (a_low : Nat) (a_high : Nat) (a_told : Nat) (a_leftOut : Nat) (a_isMade : Nat) (a_hands : Nat) (a_pad : Nat) (a_court : Nat) (a_title : Nat) (a_out : Nat) (k_told : ClassId) (k_high : ClassId) (k_values : ClassId) (k_low : ClassId) (k_pad : ClassId) (p1 : Int32) (p2 : Int64) (v_this_thrown : Int32) (v_this_size : Int32) (v_this_families : Int32) (v_this_atHand : Int32) (v_this_family : Int32) (v_this_density : Int32) (v_this_pads : Int32) (v_this_hasThermal : Int32) (v_this_titleSize : Int32) (v_this_written : Int32) (v_this_at : Int32) (v_this_begin : Int32) (v_this_words : Int32) (v_this_paste0 : Int64) (v_told : Nat → Int32) (v_high : Nat → Int64) (v_values : Nat → Int64) (v_low : Nat → Int64) (v_pad : Nat → Int64) (post : Int32 → Int32 → Int32 → (Nat → Int64) → Prop) (hK : va_K (dC, dI) vwCl [(k_told, .boolean), (k_high, .long), (k_values, .long), (k_low, .long), (k_pad, .long)] s) : ∀ (n : Nat), ∀ (y4 : Int64) (y6 : Int64) (y8 : Int64) (y10 : Int64) (y12 : Int64) (y14 : Int64) (y16 : Int64) (u_this_pads : Int32) (u_pad : Nat → Int64) (H : Heap) (locs : List Loc), P_M_makeSides_281 p1 p2 v_this_hasThermal v_told v_high post n y4 y6 y8 y10 y12 y14 y16 u_this_pads u_pad → va_P (dC, dI) vwCl (w_M_makeSides ad a_this a_units a_kinds a_values a_names a_low a_high a_told a_leftOut a_isMade a_hands a_pad a_court a_title a_out k_told k_high k_values k_low k_pad v_this_thrown v_this_size v_this_families v_this_atHand v_this_family v_this_density u_this_pads v_this_hasThermal v_this_titleSize v_this_written v_this_at v_this_begin v_this_words v_this_paste0 v_told v_high v_values v_low u_pad) H → va_D A (w_M_makeSides ad a_this a_units a_kinds a_values a_names a_low a_high a_told a_leftOut a_isMade a_hands a_pad a_court a_title a_out k_told k_high k_values k_low k_pad v_this_thrown v_this_size v_this_families v_this_atHand v_this_family v_this_density u_this_pads v_this_hasThermal v_this_titleSize v_this_written v_this_at v_this_begin v_this_words v_this_paste0 v_told v_high v_values v_low u_pad) → va_S A s.heap H locs → ∀ ls : Array Slot, lv_has ls 18 [(0, .ref a_this), (1, .int p1), (2, .long p2), (4, .long y4), (6, .long y6), (8, .long y8), (10, .long y10), (12, .long y12), (14, .long y14), (16, .long y16)] → W p l e (headSpec wsM_makeSides { frames := 2, cells := 0, slots := 0, locals := 61 }).room s m args below meth c H locs 0 0 (MQ below (va_Qi (fun (r : Int32) (u : Int32 × Int32 × (Nat → Int64)) => post r u.1 u.2.1 u.2.2) (zB (dC, dI) A (fun (u : Int32 × Int32 × (Nat → Int64)) => (w_M_makeSides ad a_this a_units a_kinds a_values a_names a_low a_high a_told a_leftOut a_isMade a_hands a_pad a_court a_title a_out k_told k_high k_values k_low k_pad v_this_thrown v_this_size v_this_families v_this_atHand v_this_family v_this_density u.1 u.2.1 v_this_titleSize v_this_written v_this_at v_this_begin v_this_words v_this_paste0 v_told v_high v_values v_low u.2.2))) A) args s 0 0 A) (F0 m 281 ls []) := by
  obtain ⟨hx, hb, hr, hml, hown, hts, hlocks, hA⟩ := id C0
  intro n
  induction n with
  | zero =>
    intro y4 y6 y8 y10 y12 y14 y16 u_this_pads u_pad H locs h
    exact False.elim h
  | succ n ih =>
    intro y4 y6 y8 y10 y12 y14 y16 u_this_pads u_pad H locs h hP hD hS ls hl
    rw [P_M_makeSides_281] at h
    refine lv_lload hx hb dM_makeSides_281 (lv_at hl 9 rfl) ?_
    refine lv_lload hx hb dM_makeSides_283 (lv_at hl 7 rfl) ?_
    refine zz_lcmp_ge (tgt := 342) hx hb dM_makeSides_285 dM_makeSides_286 (by decide) ?_ ?_
    · intro c1
      replace h := h.1 c1
      refine lv_lconst (v := 0) hx hb dM_makeSides_342 (by decide) ?_
      refine lv_lstore (lv' := [(16, .long 0), (0, .ref a_this), (1, .int p1), (2, .long p2), (4, .long y4), (6, .long y6), (8, .long y8), (10, .long y10), (12, .long y12), (14, .long y14)]) hx hb dM_makeSides_343 hl (by decide) rfl (fun ls hl => ?_)
      obtain ⟨n2, h⟩ := h
      exact w_M_makeSides_345 l C0 hE a_this a_units a_kinds a_values a_names a_low a_high a_told a_leftOut a_isMade a_hands a_pad a_court a_title a_out k_told k_high k_values k_low k_pad p1 p2 v_this_thrown v_this_size v_this_families v_this_atHand v_this_family v_this_density v_this_pads v_this_hasThermal v_this_titleSize v_this_written v_this_at v_this_begin v_this_words v_this_paste0 v_told v_high v_values v_low v_pad post hK n2 y4 y6 y8 y10 y12 y14 0 u_this_pads u_pad _ _ h hP hD hS ls (lv_sub hl [1, 2, 3, 4, 5, 6, 7, 8, 9, 0] rfl)
    · intro c1
      replace h := h.2 c1
      refine lv_aload_n hx hb dM_makeSides_289 rfl (lv_at hl 0 rfl) ?_
      refine lv_aload_n hx hb dM_makeSides_290 rfl (lv_at hl 0 rfl) ?_
      refine va_get (D := (dC, dI)) (ci := 10) (v := .int u_this_pads) (C := RM) (T := TM) (N := 28) hx hb hts inZ_M hown hK hP 0 rfl rfl 16 (by decide) (hts _ zw_1060) (fun _ h9 => h9) rfl dM_makeSides_291 ?_
      refine lv_iconst (v := 1) hx hb dM_makeSides_294 (by decide) ?_
      refine lv_iadd hx hb dM_makeSides_295 ?_
      refine lv_lload hx hb dM_makeSides_296 (lv_at hl 3 rfl) ?_
      refine lv_lneg hx hb dM_makeSides_298 ?_
      refine lv_ldc2 (own := RM) (index := 90) (v := 2) hx hb hown (hts _ zw_1179) dM_makeSides_299 ?_
      refine lv_ldiv hx hb dM_makeSides_302 (by decide) ?_
      refine lv_lload hx hb dM_makeSides_303 (lv_at hl 7 rfl) ?_
      refine lv_lload hx hb dM_makeSides_305 (lv_at hl 7 rfl) ?_
      refine lv_lconst (v := 1) hx hb dM_makeSides_307 (by decide) ?_
      refine lv_lsub hx hb dM_makeSides_308 ?_
      refine lv_lload hx hb dM_makeSides_309 (lv_at hl 9 rfl) ?_
      refine lv_lsub hx hb dM_makeSides_311 ?_
      refine lv_lload hx hb dM_makeSides_312 (lv_at hl 6 rfl) ?_
      refine zcall_l hP hD hS hA [] [0, 1, 2, 3, 4, 5] (va_runS (As := [.long y12, .long ((y12 - 1) - y16), .long y10]) (rest := [.long ((-y4) / 2), .int (u_this_pads + 1), .ref a_this]) ⟨hx, hb, hml, hown, hts⟩ (c_M_middle l dC dI ad _ y12 ((y12 - 1) - y16) y10 _ h) ⟨callB_of 3 hts (zgood zc_M_middle) rfl rfl rfl (hts _ zw_107) (hts _ zw_1221) (by decide +kernel) ⟨Nat.le_of_ble_eq_true rfl, Nat.le_of_ble_eq_true rfl⟩, (hts _ zw_1222)⟩ (zpreS hE hK hP hD hS hA [] [] (by rfl) (by rfl) (by decide)) rfl rfl hl.1 rfl (lv_room (Nat.le_of_ble_eq_true rfl)) dM_makeSides_314 ⟨Nat.le_of_ble_eq_true rfl, Nat.le_of_ble_eq_true rfl⟩) (by rfl) (by rfl) (by decide) (by decide) (fun r3 u H locs h hP hD hS => ?_)
      try dsimp only at h
      have hP := hP.sub (ws' := (w_M_makeSides ad a_this a_units a_kinds a_values a_names a_low a_high a_told a_leftOut a_isMade a_hands a_pad a_court a_title a_out k_told k_high k_values k_low k_pad v_this_thrown v_this_size v_this_families v_this_atHand v_this_family v_this_density u_this_pads v_this_hasThermal v_this_titleSize v_this_written v_this_at v_this_begin v_this_words v_this_paste0 v_told v_high v_values v_low u_pad)) [0, 1, 2, 3, 4, 5] rfl
      have hD := hD.sub (ws' := (w_M_makeSides ad a_this a_units a_kinds a_values a_names a_low a_high a_told a_leftOut a_isMade a_hands a_pad a_court a_title a_out k_told k_high k_values k_low k_pad v_this_thrown v_this_size v_this_families v_this_atHand v_this_family v_this_density u_this_pads v_this_hasThermal v_this_titleSize v_this_written v_this_at v_this_begin v_this_words v_this_paste0 v_told v_high v_values v_low u_pad)) [0, 1, 2, 3, 4, 5] (by decide) rfl
      refine lv_lload hx hb dM_makeSides_317 (lv_at hl 5 rfl) ?_
      refine lv_ldc2 (own := RM) (index := 90) (v := 2) hx hb hown (hts _ zw_1179) dM_makeSides_319 ?_
      refine lv_ldiv hx hb dM_makeSides_322 (by decide) ?_
      refine lv_lsub hx hb dM_makeSides_323 ?_
      refine lv_lload hx hb dM_makeSides_324 (lv_at hl 8 rfl) ?_
      refine lv_lload hx hb dM_makeSides_326 (lv_at hl 5 rfl) ?_
      refine lv_iconst (v := 0) hx hb dM_makeSides_328 (by decide) ?_
      refine lv_lconst (v := 0) hx hb dM_makeSides_329 (by decide) ?_
      refine zcall_v hP hD hS hA [0, 5] [1, 2, 3, 4] (va_runV (As := [.int (u_this_pads + 1), .long ((-y4) / 2), .long (r3 - (y8 / 2)), .long y14, .long y8, .int 0, .long 0]) (rest := []) ⟨hx, hb, hml, hown, hts⟩ (c_M_addPad l dC dI ad a_this a_units a_kinds a_values a_names a_low a_high a_told a_leftOut a_isMade a_hands a_pad a_court a_title a_out k_pad _ (u_this_pads + 1) ((-y4) / 2) (r3 - (y8 / 2)) y14 y8 0 0 v_this_thrown v_this_size v_this_families v_this_atHand v_this_family v_this_density u_this_pads v_this_hasThermal v_this_titleSize v_this_written v_this_at v_this_begin v_this_words v_this_paste0 u_pad _ h) ⟨callB_of 7 hts (zgood zc_M_addPad) rfl rfl rfl (hts _ zw_107) (hts _ zw_1224) (by decide +kernel) ⟨Nat.le_of_ble_eq_true rfl, Nat.le_of_ble_eq_true rfl⟩, (hts _ zw_1226), (hts _ zw_78)⟩ (zpreV hE hK hP hD hS hA [0, 5] [4] (by rfl) (by rfl) (by decide) (ci := 10) (q0 := 0) rfl (by rfl)) rfl rfl hl.1 rfl (lv_room (Nat.le_of_ble_eq_true rfl)) dM_makeSides_330 ⟨Nat.le_of_ble_eq_true rfl, Nat.le_of_ble_eq_true rfl⟩) (by rfl) (by rfl) (by decide) (by decide) (fun u H locs h hP hD hS => ?_)
      obtain ⟨u4, u5⟩ := u
      try dsimp only at h
      have hP := hP.sub (ws' := (w_M_makeSides ad a_this a_units a_kinds a_values a_names a_low a_high a_told a_leftOut a_isMade a_hands a_pad a_court a_title a_out k_told k_high k_values k_low k_pad v_this_thrown v_this_size v_this_families v_this_atHand v_this_family v_this_density u4 v_this_hasThermal v_this_titleSize v_this_written v_this_at v_this_begin v_this_words v_this_paste0 v_told v_high v_values v_low u5)) [4, 0, 1, 2, 3, 5] rfl
      have hD := hD.sub (ws' := (w_M_makeSides ad a_this a_units a_kinds a_values a_names a_low a_high a_told a_leftOut a_isMade a_hands a_pad a_court a_title a_out k_told k_high k_values k_low k_pad v_this_thrown v_this_size v_this_families v_this_atHand v_this_family v_this_density u4 v_this_hasThermal v_this_titleSize v_this_written v_this_at v_this_begin v_this_words v_this_paste0 v_told v_high v_values v_low u5)) [4, 0, 1, 2, 3, 5] (by decide) rfl
      refine lv_lload hx hb dM_makeSides_333 (lv_at hl 9 rfl) ?_
      refine lv_lconst (v := 1) hx hb dM_makeSides_335 (by decide) ?_
      refine lv_ladd hx hb dM_makeSides_336 ?_
      refine lv_topl (fun x6 ex6 => ?_)
      replace h := h x6 ex6
      refine lv_lstore (lv' := [(16, .long x6), (0, .ref a_this), (1, .int p1), (2, .long p2), (4, .long y4), (6, .long y6), (8, .long y8), (10, .long y10), (12, .long y12), (14, .long y14)]) hx hb dM_makeSides_337 hl (by decide) rfl (fun ls hl => ?_)
      refine lv_goto (tgt := 281) hx hb dM_makeSides_339 (by decide) ?_
      exact ih y4 y6 y8 y10 y12 y14 x6 u4 u5 _ _ h hP hD hS ls (lv_sub hl [1, 2, 3, 4, 5, 6, 7, 8, 9, 0] rfl)
def P_M_makeSides_267 (p1 : Int32) (p2 : Int64) (v_this_pads : Int32) (v_this_hasThermal : Int32) (v_told : Nat → Int32) (v_high : Nat → Int64) (v_pad : Nat → Int64) (post : Int32 → Int32 → Int32 → (Nat → Int64) → Prop) (y4 : Int64) (y6 : Int64) (y8 : Int64) (y10 : Int64) (y12 : Int64) : Prop := ∀ x1 : Int64, x1 = (y4 - y6) / 2 → ∃ n2, P_M_makeSides_281 p1 p2 v_this_hasThermal v_told v_high post n2 y4 y6 y8 y10 y12 x1 0 v_this_pads v_pad
set_option maxHeartbeats 4000000 in
set_option maxRecDepth 100000 in
theorem w_M_makeSides_267 (l : Launch) {p : Program} {e : Env} {s : State} {m : MethodId} {args : Array Value} {below : List Frame} {meth : Method} {c : Code} {dC : Nat → ClassId} {dI : Nat → Nat → Nat} {ad : Nat → Nat → Nat} {A : Nat → Prop} (C0 : zC p s m args meth c cM_makeSides 18 RM zT (some .boolean) A) (hE : zE ad A s) (a_this : Nat) (a_units : Nat) (a_kinds : Nat) (a_values : Nat) (a_names : Nat) (a_low : Nat) (a_high : Nat) (a_told : Nat) (a_leftOut : Nat) (a_isMade : Nat) (a_hands : Nat) (a_pad : Nat) (a_court : Nat) (a_title : Nat) (a_out : Nat) (k_told : ClassId) (k_high : ClassId) (k_values : ClassId) (k_low : ClassId) (k_pad : ClassId) (p1 : Int32) (p2 : Int64) (v_this_thrown : Int32) (v_this_size : Int32) (v_this_families : Int32) (v_this_atHand : Int32) (v_this_family : Int32) (v_this_density : Int32) (v_this_pads : Int32) (v_this_hasThermal : Int32) (v_this_titleSize : Int32) (v_this_written : Int32) (v_this_at : Int32) (v_this_begin : Int32) (v_this_words : Int32) (v_this_paste0 : Int64) (v_told : Nat → Int32) (v_high : Nat → Int64) (v_values : Nat → Int64) (v_low : Nat → Int64) (v_pad : Nat → Int64) (post : Int32 → Int32 → Int32 → (Nat → Int64) → Prop) (hK : va_K (dC, dI) vwCl [(k_told, .boolean), (k_high, .long), (k_values, .long), (k_low, .long), (k_pad, .long)] s) : ∀ (y4 : Int64) (y6 : Int64) (y8 : Int64) (y10 : Int64) (y12 : Int64) (H : Heap) (locs : List Loc), P_M_makeSides_267 p1 p2 v_this_pads v_this_hasThermal v_told v_high v_pad post y4 y6 y8 y10 y12 → va_P (dC, dI) vwCl (w_M_makeSides ad a_this a_units a_kinds a_values a_names a_low a_high a_told a_leftOut a_isMade a_hands a_pad a_court a_title a_out k_told k_high k_values k_low k_pad v_this_thrown v_this_size v_this_families v_this_atHand v_this_family v_this_density v_this_pads v_this_hasThermal v_this_titleSize v_this_written v_this_at v_this_begin v_this_words v_this_paste0 v_told v_high v_values v_low v_pad) H → va_D A (w_M_makeSides ad a_this a_units a_kinds a_values a_names a_low a_high a_told a_leftOut a_isMade a_hands a_pad a_court a_title a_out k_told k_high k_values k_low k_pad v_this_thrown v_this_size v_this_families v_this_atHand v_this_family v_this_density v_this_pads v_this_hasThermal v_this_titleSize v_this_written v_this_at v_this_begin v_this_words v_this_paste0 v_told v_high v_values v_low v_pad) → va_S A s.heap H locs → ∀ ls : Array Slot, lv_has ls 18 [(0, .ref a_this), (1, .int p1), (2, .long p2), (4, .long y4), (6, .long y6), (8, .long y8), (10, .long y10), (12, .long y12)] → W p l e (headSpec wsM_makeSides { frames := 2, cells := 0, slots := 0, locals := 61 }).room s m args below meth c H locs 0 0 (MQ below (va_Qi (fun (r : Int32) (u : Int32 × Int32 × (Nat → Int64)) => post r u.1 u.2.1 u.2.2) (zB (dC, dI) A (fun (u : Int32 × Int32 × (Nat → Int64)) => (w_M_makeSides ad a_this a_units a_kinds a_values a_names a_low a_high a_told a_leftOut a_isMade a_hands a_pad a_court a_title a_out k_told k_high k_values k_low k_pad v_this_thrown v_this_size v_this_families v_this_atHand v_this_family v_this_density u.1 u.2.1 v_this_titleSize v_this_written v_this_at v_this_begin v_this_words v_this_paste0 v_told v_high v_values v_low u.2.2))) A) args s 0 0 A) (F0 m 267 ls []) := by
  obtain ⟨hx, hb, hr, hml, hown, hts, hlocks, hA⟩ := id C0
  intro y4 y6 y8 y10 y12 H locs h hP hD hS ls hl
  unfold P_M_makeSides_267 at h
  refine lv_lload hx hb dM_makeSides_267 (lv_at hl 3 rfl) ?_
  refine lv_lload hx hb dM_makeSides_269 (lv_at hl 4 rfl) ?_
  refine lv_lsub hx hb dM_makeSides_271 ?_
  refine lv_ldc2 (own := RM) (index := 90) (v := 2) hx hb hown (hts _ zw_1179) dM_makeSides_272 ?_
  refine lv_ldiv hx hb dM_makeSides_275 (by decide) ?_
  refine lv_topl (fun x1 ex1 => ?_)
  replace h := h x1 ex1
  refine lv_lstore (lv' := [(14, .long x1), (0, .ref a_this), (1, .int p1), (2, .long p2), (4, .long y4), (6, .long y6), (8, .long y8), (10, .long y10), (12, .long y12)]) hx hb dM_makeSides_276 hl (by decide) rfl (fun ls hl => ?_)
  refine lv_lconst (v := 0) hx hb dM_makeSides_278 (by decide) ?_
  refine lv_lstore (lv' := [(16, .long 0), (14, .long x1), (0, .ref a_this), (1, .int p1), (2, .long p2), (4, .long y4), (6, .long y6), (8, .long y8), (10, .long y10), (12, .long y12)]) hx hb dM_makeSides_279 hl (by decide) rfl (fun ls hl => ?_)
  obtain ⟨n2, h⟩ := h
  exact w_M_makeSides_281 l C0 hE a_this a_units a_kinds a_values a_names a_low a_high a_told a_leftOut a_isMade a_hands a_pad a_court a_title a_out k_told k_high k_values k_low k_pad p1 p2 v_this_thrown v_this_size v_this_families v_this_atHand v_this_family v_this_density v_this_pads v_this_hasThermal v_this_titleSize v_this_written v_this_at v_this_begin v_this_words v_this_paste0 v_told v_high v_values v_low v_pad post hK n2 y4 y6 y8 y10 y12 x1 0 v_this_pads v_pad _ _ h hP hD hS ls (lv_sub hl [2, 3, 4, 5, 6, 7, 8, 9, 1, 0] rfl)
def P_M_makeSides_242 (p1 : Int32) (p2 : Int64) (v_this_pads : Int32) (v_this_hasThermal : Int32) (v_told : Nat → Int32) (v_high : Nat → Int64) (v_pad : Nat → Int64) (post : Int32 → Int32 → Int32 → (Nat → Int64) → Prop) (y4 : Int64) (y6 : Int64) (y8 : Int64) (y10 : Int64) (t0 : Int64) : Prop := ((¬ p1 = 2 → P_M_makeSides_267 p1 p2 v_this_pads v_this_hasThermal v_told v_high v_pad post y4 y6 y8 y10 t0) ∧ (p1 = 2 → (((((t0 - 1) * y10) + y8) ≤ y6 → P_M_makeSides_267 p1 p2 v_this_pads v_this_hasThermal v_told v_high v_pad post y4 y6 y8 y10 t0) ∧ (¬ (((t0 - 1) * y10) + y8) ≤ y6 → post 0 v_this_pads v_this_hasThermal v_pad))))
set_option maxHeartbeats 4000000 in
set_option maxRecDepth 100000 in
theorem w_M_makeSides_242 (l : Launch) {p : Program} {e : Env} {s : State} {m : MethodId} {args : Array Value} {below : List Frame} {meth : Method} {c : Code} {dC : Nat → ClassId} {dI : Nat → Nat → Nat} {ad : Nat → Nat → Nat} {A : Nat → Prop} (C0 : zC p s m args meth c cM_makeSides 18 RM zT (some .boolean) A) (hE : zE ad A s) (a_this : Nat) (a_units : Nat) (a_kinds : Nat) (a_values : Nat) (a_names : Nat) (a_low : Nat) (a_high : Nat) (a_told : Nat) (a_leftOut : Nat) (a_isMade : Nat) (a_hands : Nat) (a_pad : Nat) (a_court : Nat) (a_title : Nat) (a_out : Nat) (k_told : ClassId) (k_high : ClassId) (k_values : ClassId) (k_low : ClassId) (k_pad : ClassId) (p1 : Int32) (p2 : Int64) (v_this_thrown : Int32) (v_this_size : Int32) (v_this_families : Int32) (v_this_atHand : Int32) (v_this_family : Int32) (v_this_density : Int32) (v_this_pads : Int32) (v_this_hasThermal : Int32) (v_this_titleSize : Int32) (v_this_written : Int32) (v_this_at : Int32) (v_this_begin : Int32) (v_this_words : Int32) (v_this_paste0 : Int64) (v_told : Nat → Int32) (v_high : Nat → Int64) (v_values : Nat → Int64) (v_low : Nat → Int64) (v_pad : Nat → Int64) (post : Int32 → Int32 → Int32 → (Nat → Int64) → Prop) (hK : va_K (dC, dI) vwCl [(k_told, .boolean), (k_high, .long), (k_values, .long), (k_low, .long), (k_pad, .long)] s) : ∀ (y4 : Int64) (y6 : Int64) (y8 : Int64) (y10 : Int64) (t0 : Int64) (H : Heap) (locs : List Loc), P_M_makeSides_242 p1 p2 v_this_pads v_this_hasThermal v_told v_high v_pad post y4 y6 y8 y10 t0 → va_P (dC, dI) vwCl (w_M_makeSides ad a_this a_units a_kinds a_values a_names a_low a_high a_told a_leftOut a_isMade a_hands a_pad a_court a_title a_out k_told k_high k_values k_low k_pad v_this_thrown v_this_size v_this_families v_this_atHand v_this_family v_this_density v_this_pads v_this_hasThermal v_this_titleSize v_this_written v_this_at v_this_begin v_this_words v_this_paste0 v_told v_high v_values v_low v_pad) H → va_D A (w_M_makeSides ad a_this a_units a_kinds a_values a_names a_low a_high a_told a_leftOut a_isMade a_hands a_pad a_court a_title a_out k_told k_high k_values k_low k_pad v_this_thrown v_this_size v_this_families v_this_atHand v_this_family v_this_density v_this_pads v_this_hasThermal v_this_titleSize v_this_written v_this_at v_this_begin v_this_words v_this_paste0 v_told v_high v_values v_low v_pad) → va_S A s.heap H locs → ∀ ls : Array Slot, lv_has ls 18 [(0, .ref a_this), (1, .int p1), (2, .long p2), (4, .long y4), (6, .long y6), (8, .long y8), (10, .long y10)] → W p l e (headSpec wsM_makeSides { frames := 2, cells := 0, slots := 0, locals := 61 }).room s m args below meth c H locs 0 0 (MQ below (va_Qi (fun (r : Int32) (u : Int32 × Int32 × (Nat → Int64)) => post r u.1 u.2.1 u.2.2) (zB (dC, dI) A (fun (u : Int32 × Int32 × (Nat → Int64)) => (w_M_makeSides ad a_this a_units a_kinds a_values a_names a_low a_high a_told a_leftOut a_isMade a_hands a_pad a_court a_title a_out k_told k_high k_values k_low k_pad v_this_thrown v_this_size v_this_families v_this_atHand v_this_family v_this_density u.1 u.2.1 v_this_titleSize v_this_written v_this_at v_this_begin v_this_words v_this_paste0 v_told v_high v_values v_low u.2.2))) A) args s 0 0 A) (F0 m 242 ls [.long t0]) := by
  obtain ⟨hx, hb, hr, hml, hown, hts, hlocks, hA⟩ := id C0
  intro y4 y6 y8 y10 t0 H locs h hP hD hS ls hl
  unfold P_M_makeSides_242 at h
  refine lv_lstore (lv' := [(12, .long t0), (0, .ref a_this), (1, .int p1), (2, .long p2), (4, .long y4), (6, .long y6), (8, .long y8), (10, .long y10)]) hx hb dM_makeSides_242 hl (by decide) rfl (fun ls hl => ?_)
  refine lv_iload_n hx hb dM_makeSides_244 rfl (lv_at hl 2 rfl) ?_
  refine lv_iconst (v := 2) hx hb dM_makeSides_245 (by decide) ?_
  refine lv_icmp_ne (tgt := 267) hx hb dM_makeSides_246 (by decide) ?_ ?_
  · intro c1
    replace h := h.1 c1
    exact w_M_makeSides_267 l C0 hE a_this a_units a_kinds a_values a_names a_low a_high a_told a_leftOut a_isMade a_hands a_pad a_court a_title a_out k_told k_high k_values k_low k_pad p1 p2 v_this_thrown v_this_size v_this_families v_this_atHand v_this_family v_this_density v_this_pads v_this_hasThermal v_this_titleSize v_this_written v_this_at v_this_begin v_this_words v_this_paste0 v_told v_high v_values v_low v_pad post hK y4 y6 y8 y10 t0 _ _ h hP hD hS ls (lv_sub hl [1, 2, 3, 4, 5, 6, 7, 0] rfl)
  · intro c1
    replace h := h.2 c1
    refine lv_lload hx hb dM_makeSides_249 (lv_at hl 0 rfl) ?_
    refine lv_lconst (v := 1) hx hb dM_makeSides_251 (by decide) ?_
    refine lv_lsub hx hb dM_makeSides_252 ?_
    refine lv_lload hx hb dM_makeSides_253 (lv_at hl 7 rfl) ?_
    refine lv_lmul hx hb dM_makeSides_255 ?_
    refine lv_lload hx hb dM_makeSides_256 (lv_at hl 6 rfl) ?_
    refine lv_ladd hx hb dM_makeSides_258 ?_
    refine lv_lload hx hb dM_makeSides_259 (lv_at hl 5 rfl) ?_
    refine zz_lcmp_le (tgt := 267) hx hb dM_makeSides_261 dM_makeSides_262 (by decide) ?_ ?_
    · intro c2
      replace h := h.1 c2
      exact w_M_makeSides_267 l C0 hE a_this a_units a_kinds a_values a_names a_low a_high a_told a_leftOut a_isMade a_hands a_pad a_court a_title a_out k_told k_high k_values k_low k_pad p1 p2 v_this_thrown v_this_size v_this_families v_this_atHand v_this_family v_this_density v_this_pads v_this_hasThermal v_this_titleSize v_this_written v_this_at v_this_begin v_this_words v_this_paste0 v_told v_high v_values v_low v_pad post hK y4 y6 y8 y10 t0 _ _ h hP hD hS ls (lv_sub hl [1, 2, 3, 4, 5, 6, 7, 0] rfl)
    · intro c2
      replace h := h.2 c2
      refine lv_iconst (v := 0) hx hb dM_makeSides_265 (by decide) ?_
      exact W.zret (v := 0) hx hb hr rfl (fun t ht hW => ⟨⟨0, (v_this_pads, v_this_hasThermal, v_pad), rfl, h, by rw [ht]; exact hP, hD⟩, hS.F ht⟩) hS.2.2 dM_makeSides_266
def P_M_makeSides_206 (p1 : Int32) (p2 : Int64) (v_this_pads : Int32) (v_this_hasThermal : Int32) (v_told : Nat → Int32) (v_high : Nat → Int64) (v_pad : Nat → Int64) (post : Int32 → Int32 → Int32 → (Nat → Int64) → Prop) (y4 : Int64) (y6 : Int64) (y8 : Int64) (y10 : Int64) : Prop := ((¬ p1 = 0 → ((¬ p1 = 1 → vp_in 4 12 ∧ P_M_makeSides_242 p1 p2 v_this_pads v_this_hasThermal v_told v_high v_pad post y4 y6 y8 y10 ((v_high (4 : Int32).toNatClampNeg) / 4)) ∧ (p1 = 1 → vp_in 4 12 ∧ P_M_makeSides_242 p1 p2 v_this_pads v_this_hasThermal v_told v_high v_pad post y4 y6 y8 y10 ((v_high (4 : Int32).toNatClampNeg) / 2)))) ∧ (p1 = 0 → P_M_makeSides_242 p1 p2 v_this_pads v_this_hasThermal v_told v_high v_pad post y4 y6 y8 y10 1))
set_option maxHeartbeats 4000000 in
set_option maxRecDepth 100000 in
theorem w_M_makeSides_206 (l : Launch) {p : Program} {e : Env} {s : State} {m : MethodId} {args : Array Value} {below : List Frame} {meth : Method} {c : Code} {dC : Nat → ClassId} {dI : Nat → Nat → Nat} {ad : Nat → Nat → Nat} {A : Nat → Prop} (C0 : zC p s m args meth c cM_makeSides 18 RM zT (some .boolean) A) (hE : zE ad A s) (a_this : Nat) (a_units : Nat) (a_kinds : Nat) (a_values : Nat) (a_names : Nat) (a_low : Nat) (a_high : Nat) (a_told : Nat) (a_leftOut : Nat) (a_isMade : Nat) (a_hands : Nat) (a_pad : Nat) (a_court : Nat) (a_title : Nat) (a_out : Nat) (k_told : ClassId) (k_high : ClassId) (k_values : ClassId) (k_low : ClassId) (k_pad : ClassId) (p1 : Int32) (p2 : Int64) (v_this_thrown : Int32) (v_this_size : Int32) (v_this_families : Int32) (v_this_atHand : Int32) (v_this_family : Int32) (v_this_density : Int32) (v_this_pads : Int32) (v_this_hasThermal : Int32) (v_this_titleSize : Int32) (v_this_written : Int32) (v_this_at : Int32) (v_this_begin : Int32) (v_this_words : Int32) (v_this_paste0 : Int64) (v_told : Nat → Int32) (v_high : Nat → Int64) (v_values : Nat → Int64) (v_low : Nat → Int64) (v_pad : Nat → Int64) (post : Int32 → Int32 → Int32 → (Nat → Int64) → Prop) (hK : va_K (dC, dI) vwCl [(k_told, .boolean), (k_high, .long), (k_values, .long), (k_low, .long), (k_pad, .long)] s) : ∀ (y4 : Int64) (y6 : Int64) (y8 : Int64) (y10 : Int64) (H : Heap) (locs : List Loc), P_M_makeSides_206 p1 p2 v_this_pads v_this_hasThermal v_told v_high v_pad post y4 y6 y8 y10 → va_P (dC, dI) vwCl (w_M_makeSides ad a_this a_units a_kinds a_values a_names a_low a_high a_told a_leftOut a_isMade a_hands a_pad a_court a_title a_out k_told k_high k_values k_low k_pad v_this_thrown v_this_size v_this_families v_this_atHand v_this_family v_this_density v_this_pads v_this_hasThermal v_this_titleSize v_this_written v_this_at v_this_begin v_this_words v_this_paste0 v_told v_high v_values v_low v_pad) H → va_D A (w_M_makeSides ad a_this a_units a_kinds a_values a_names a_low a_high a_told a_leftOut a_isMade a_hands a_pad a_court a_title a_out k_told k_high k_values k_low k_pad v_this_thrown v_this_size v_this_families v_this_atHand v_this_family v_this_density v_this_pads v_this_hasThermal v_this_titleSize v_this_written v_this_at v_this_begin v_this_words v_this_paste0 v_told v_high v_values v_low v_pad) → va_S A s.heap H locs → ∀ ls : Array Slot, lv_has ls 18 [(0, .ref a_this), (1, .int p1), (2, .long p2), (4, .long y4), (6, .long y6), (8, .long y8), (10, .long y10)] → W p l e (headSpec wsM_makeSides { frames := 2, cells := 0, slots := 0, locals := 61 }).room s m args below meth c H locs 0 0 (MQ below (va_Qi (fun (r : Int32) (u : Int32 × Int32 × (Nat → Int64)) => post r u.1 u.2.1 u.2.2) (zB (dC, dI) A (fun (u : Int32 × Int32 × (Nat → Int64)) => (w_M_makeSides ad a_this a_units a_kinds a_values a_names a_low a_high a_told a_leftOut a_isMade a_hands a_pad a_court a_title a_out k_told k_high k_values k_low k_pad v_this_thrown v_this_size v_this_families v_this_atHand v_this_family v_this_density u.1 u.2.1 v_this_titleSize v_this_written v_this_at v_this_begin v_this_words v_this_paste0 v_told v_high v_values v_low u.2.2))) A) args s 0 0 A) (F0 m 206 ls []) := by
  obtain ⟨hx, hb, hr, hml, hown, hts, hlocks, hA⟩ := id C0
  intro y4 y6 y8 y10 H locs h hP hD hS ls hl
  unfold P_M_makeSides_206 at h
  refine lv_iload_n hx hb dM_makeSides_206 rfl (lv_at hl 1 rfl) ?_
  refine lv_if_ne (tgt := 214) hx hb dM_makeSides_207 (by decide) ?_ ?_
  · intro c1
    replace h := h.1 c1
    refine lv_iload_n hx hb dM_makeSides_214 rfl (lv_at hl 1 rfl) ?_
    refine lv_iconst (v := 1) hx hb dM_makeSides_215 (by decide) ?_
    refine lv_icmp_ne (tgt := 232) hx hb dM_makeSides_216 (by decide) ?_ ?_
    · intro c2
      replace h := h.1 c2
      refine lv_aload_n hx hb dM_makeSides_232 rfl (lv_at hl 0 rfl) ?_
      refine va_get (D := (dC, dI)) (ci := 10) (v := .ref a_high) (C := RM) (T := TM) (N := 28) hx hb hts inZ_M hown hK hP 0 rfl rfl 8 (by decide) (hts _ zw_1052) (fun _ h9 => h9) rfl dM_makeSides_233 ?_
      refine lv_iconst (v := 4) hx hb dM_makeSides_236 (by decide) ?_
      obtain ⟨hn3, h⟩ := h
      refine va_lald hx hb hK hP 2 1 rfl rfl hn3 dM_makeSides_237 ?_
      refine lv_ldc2 (own := RM) (index := 159) (v := 4) hx hb hown (hts _ zw_1244) dM_makeSides_238 ?_
      refine lv_ldiv hx hb dM_makeSides_241 (by decide) ?_
      exact w_M_makeSides_242 l C0 hE a_this a_units a_kinds a_values a_names a_low a_high a_told a_leftOut a_isMade a_hands a_pad a_court a_title a_out k_told k_high k_values k_low k_pad p1 p2 v_this_thrown v_this_size v_this_families v_this_atHand v_this_family v_this_density v_this_pads v_this_hasThermal v_this_titleSize v_this_written v_this_at v_this_begin v_this_words v_this_paste0 v_told v_high v_values v_low v_pad post hK y4 y6 y8 y10 ((v_high (4 : Int32).toNatClampNeg) / 4) _ _ h hP hD hS ls (lv_sub hl [0, 1, 2, 3, 4, 5, 6] rfl)
    · intro c2
      replace h := h.2 c2
      refine lv_aload_n hx hb dM_makeSides_219 rfl (lv_at hl 0 rfl) ?_
      refine va_get (D := (dC, dI)) (ci := 10) (v := .ref a_high) (C := RM) (T := TM) (N := 28) hx hb hts inZ_M hown hK hP 0 rfl rfl 8 (by decide) (hts _ zw_1052) (fun _ h9 => h9) rfl dM_makeSides_220 ?_
      refine lv_iconst (v := 4) hx hb dM_makeSides_223 (by decide) ?_
      obtain ⟨hn4, h⟩ := h
      refine va_lald hx hb hK hP 2 1 rfl rfl hn4 dM_makeSides_224 ?_
      refine lv_ldc2 (own := RM) (index := 90) (v := 2) hx hb hown (hts _ zw_1179) dM_makeSides_225 ?_
      refine lv_ldiv hx hb dM_makeSides_228 (by decide) ?_
      refine lv_goto (tgt := 242) hx hb dM_makeSides_229 (by decide) ?_
      exact w_M_makeSides_242 l C0 hE a_this a_units a_kinds a_values a_names a_low a_high a_told a_leftOut a_isMade a_hands a_pad a_court a_title a_out k_told k_high k_values k_low k_pad p1 p2 v_this_thrown v_this_size v_this_families v_this_atHand v_this_family v_this_density v_this_pads v_this_hasThermal v_this_titleSize v_this_written v_this_at v_this_begin v_this_words v_this_paste0 v_told v_high v_values v_low v_pad post hK y4 y6 y8 y10 ((v_high (4 : Int32).toNatClampNeg) / 2) _ _ h hP hD hS ls (lv_sub hl [0, 1, 2, 3, 4, 5, 6] rfl)
  · intro c1
    replace h := h.2 c1
    refine lv_lconst (v := 1) hx hb dM_makeSides_210 (by decide) ?_
    refine lv_goto (tgt := 242) hx hb dM_makeSides_211 (by decide) ?_
    exact w_M_makeSides_242 l C0 hE a_this a_units a_kinds a_values a_names a_low a_high a_told a_leftOut a_isMade a_hands a_pad a_court a_title a_out k_told k_high k_values k_low k_pad p1 p2 v_this_thrown v_this_size v_this_families v_this_atHand v_this_family v_this_density v_this_pads v_this_hasThermal v_this_titleSize v_this_written v_this_at v_this_begin v_this_words v_this_paste0 v_told v_high v_values v_low v_pad post hK y4 y6 y8 y10 1 _ _ h hP hD hS ls (lv_sub hl [0, 1, 2, 3, 4, 5, 6] rfl)
def P_M_makeSides_186 (p1 : Int32) (p2 : Int64) (v_this_pads : Int32) (v_this_hasThermal : Int32) (v_told : Nat → Int32) (v_high : Nat → Int64) (v_low : Nat → Int64) (v_pad : Nat → Int64) (post : Int32 → Int32 → Int32 → (Nat → Int64) → Prop) (y4 : Int64) (y6 : Int64) (y8 : Int64) (y10 : Int64) : Prop := ((¬ p1 = 2 → P_M_makeSides_206 p1 p2 v_this_pads v_this_hasThermal v_told v_high v_pad post y4 y6 y8 y10) ∧ (p1 = 2 → P_M_hasCount 4 4 v_told v_low v_high (fun (r2 : Int32) => ((¬ r2 = 0 → P_M_makeSides_206 p1 p2 v_this_pads v_this_hasThermal v_told v_high v_pad post y4 y6 y8 y10) ∧ (r2 = 0 → post 0 v_this_pads v_this_hasThermal v_pad)))))
set_option maxHeartbeats 4000000 in
set_option maxRecDepth 100000 in
theorem w_M_makeSides_186 (l : Launch) {p : Program} {e : Env} {s : State} {m : MethodId} {args : Array Value} {below : List Frame} {meth : Method} {c : Code} {dC : Nat → ClassId} {dI : Nat → Nat → Nat} {ad : Nat → Nat → Nat} {A : Nat → Prop} (C0 : zC p s m args meth c cM_makeSides 18 RM zT (some .boolean) A) (hE : zE ad A s) (a_this : Nat) (a_units : Nat) (a_kinds : Nat) (a_values : Nat) (a_names : Nat) (a_low : Nat) (a_high : Nat) (a_told : Nat) (a_leftOut : Nat) (a_isMade : Nat) (a_hands : Nat) (a_pad : Nat) (a_court : Nat) (a_title : Nat) (a_out : Nat) (k_told : ClassId) (k_high : ClassId) (k_values : ClassId) (k_low : ClassId) (k_pad : ClassId) (p1 : Int32) (p2 : Int64) (v_this_thrown : Int32) (v_this_size : Int32) (v_this_families : Int32) (v_this_atHand : Int32) (v_this_family : Int32) (v_this_density : Int32) (v_this_pads : Int32) (v_this_hasThermal : Int32) (v_this_titleSize : Int32) (v_this_written : Int32) (v_this_at : Int32) (v_this_begin : Int32) (v_this_words : Int32) (v_this_paste0 : Int64) (v_told : Nat → Int32) (v_high : Nat → Int64) (v_values : Nat → Int64) (v_low : Nat → Int64) (v_pad : Nat → Int64) (post : Int32 → Int32 → Int32 → (Nat → Int64) → Prop) (hK : va_K (dC, dI) vwCl [(k_told, .boolean), (k_high, .long), (k_values, .long), (k_low, .long), (k_pad, .long)] s) : ∀ (y4 : Int64) (y6 : Int64) (y8 : Int64) (y10 : Int64) (H : Heap) (locs : List Loc), P_M_makeSides_186 p1 p2 v_this_pads v_this_hasThermal v_told v_high v_low v_pad post y4 y6 y8 y10 → va_P (dC, dI) vwCl (w_M_makeSides ad a_this a_units a_kinds a_values a_names a_low a_high a_told a_leftOut a_isMade a_hands a_pad a_court a_title a_out k_told k_high k_values k_low k_pad v_this_thrown v_this_size v_this_families v_this_atHand v_this_family v_this_density v_this_pads v_this_hasThermal v_this_titleSize v_this_written v_this_at v_this_begin v_this_words v_this_paste0 v_told v_high v_values v_low v_pad) H → va_D A (w_M_makeSides ad a_this a_units a_kinds a_values a_names a_low a_high a_told a_leftOut a_isMade a_hands a_pad a_court a_title a_out k_told k_high k_values k_low k_pad v_this_thrown v_this_size v_this_families v_this_atHand v_this_family v_this_density v_this_pads v_this_hasThermal v_this_titleSize v_this_written v_this_at v_this_begin v_this_words v_this_paste0 v_told v_high v_values v_low v_pad) → va_S A s.heap H locs → ∀ ls : Array Slot, lv_has ls 18 [(0, .ref a_this), (1, .int p1), (2, .long p2), (4, .long y4), (6, .long y6), (8, .long y8), (10, .long y10)] → W p l e (headSpec wsM_makeSides { frames := 2, cells := 0, slots := 0, locals := 61 }).room s m args below meth c H locs 0 0 (MQ below (va_Qi (fun (r : Int32) (u : Int32 × Int32 × (Nat → Int64)) => post r u.1 u.2.1 u.2.2) (zB (dC, dI) A (fun (u : Int32 × Int32 × (Nat → Int64)) => (w_M_makeSides ad a_this a_units a_kinds a_values a_names a_low a_high a_told a_leftOut a_isMade a_hands a_pad a_court a_title a_out k_told k_high k_values k_low k_pad v_this_thrown v_this_size v_this_families v_this_atHand v_this_family v_this_density u.1 u.2.1 v_this_titleSize v_this_written v_this_at v_this_begin v_this_words v_this_paste0 v_told v_high v_values v_low u.2.2))) A) args s 0 0 A) (F0 m 186 ls []) := by
  obtain ⟨hx, hb, hr, hml, hown, hts, hlocks, hA⟩ := id C0
  intro y4 y6 y8 y10 H locs h hP hD hS ls hl
  unfold P_M_makeSides_186 at h
  refine lv_iload_n hx hb dM_makeSides_186 rfl (lv_at hl 1 rfl) ?_
  refine lv_iconst (v := 2) hx hb dM_makeSides_187 (by decide) ?_
  refine lv_icmp_ne (tgt := 206) hx hb dM_makeSides_188 (by decide) ?_ ?_
  · intro c1
    replace h := h.1 c1
    exact w_M_makeSides_206 l C0 hE a_this a_units a_kinds a_values a_names a_low a_high a_told a_leftOut a_isMade a_hands a_pad a_court a_title a_out k_told k_high k_values k_low k_pad p1 p2 v_this_thrown v_this_size v_this_families v_this_atHand v_this_family v_this_density v_this_pads v_this_hasThermal v_this_titleSize v_this_written v_this_at v_this_begin v_this_words v_this_paste0 v_told v_high v_values v_low v_pad post hK y4 y6 y8 y10 _ _ h hP hD hS ls (lv_sub hl [0, 1, 2, 3, 4, 5, 6] rfl)
  · intro c1
    replace h := h.2 c1
    refine lv_aload_n hx hb dM_makeSides_191 rfl (lv_at hl 0 rfl) ?_
    refine lv_ldc2 (own := RM) (index := 159) (v := 4) hx hb hown (hts _ zw_1244) dM_makeSides_192 ?_
    refine lv_ldc2 (own := RM) (index := 159) (v := 4) hx hb hown (hts _ zw_1244) dM_makeSides_195 ?_
    refine zcall_i hP hD hS hA [0, 1, 4, 2] [3, 5] (va_runV (As := [.long 4, .long 4]) (rest := []) ⟨hx, hb, hml, hown, hts⟩ (c_M_hasCount l dC dI ad a_this a_units a_kinds a_values a_names a_low a_high a_told a_leftOut a_isMade a_hands a_pad a_court a_title a_out k_told k_low k_high _ 4 4 v_this_thrown v_this_size v_this_families v_this_atHand v_this_family v_this_density v_this_pads v_this_hasThermal v_this_titleSize v_this_written v_this_at v_this_begin v_this_words v_this_paste0 v_told v_low v_high _ h) ⟨callB_of 2 hts (zgood zc_M_hasCount) rfl rfl rfl (hts _ zw_107) (hts _ zw_1232) (by decide +kernel) ⟨Nat.le_of_ble_eq_true rfl, Nat.le_of_ble_eq_true rfl⟩, (hts _ zw_1234), (hts _ zw_80)⟩ (zpreV hE hK hP hD hS hA [0, 1, 4, 2] [0, 3, 1] (by rfl) (by rfl) (by decide) (ci := 10) (q0 := 0) rfl (by rfl)) rfl rfl hl.1 rfl (lv_room (Nat.le_of_ble_eq_true rfl)) dM_makeSides_198 ⟨Nat.le_of_ble_eq_true rfl, Nat.le_of_ble_eq_true rfl⟩) (by rfl) (by rfl) (by decide) (by decide) (fun r2 u H locs h hP hD hS => ?_)
    try dsimp only at h
    have hP := hP.sub (ws' := (w_M_makeSides ad a_this a_units a_kinds a_values a_names a_low a_high a_told a_leftOut a_isMade a_hands a_pad a_court a_title a_out k_told k_high k_values k_low k_pad v_this_thrown v_this_size v_this_families v_this_atHand v_this_family v_this_density v_this_pads v_this_hasThermal v_this_titleSize v_this_written v_this_at v_this_begin v_this_words v_this_paste0 v_told v_high v_values v_low v_pad)) [2, 3, 5, 0, 4, 1] rfl
    have hD := hD.sub (ws' := (w_M_makeSides ad a_this a_units a_kinds a_values a_names a_low a_high a_told a_leftOut a_isMade a_hands a_pad a_court a_title a_out k_told k_high k_values k_low k_pad v_this_thrown v_this_size v_this_families v_this_atHand v_this_family v_this_density v_this_pads v_this_hasThermal v_this_titleSize v_this_written v_this_at v_this_begin v_this_words v_this_paste0 v_told v_high v_values v_low v_pad)) [2, 3, 5, 0, 4, 1] (by decide) rfl
    refine lv_if_ne (tgt := 206) hx hb dM_makeSides_201 (by decide) ?_ ?_
    · intro c3
      replace h := h.1 c3
      exact w_M_makeSides_206 l C0 hE a_this a_units a_kinds a_values a_names a_low a_high a_told a_leftOut a_isMade a_hands a_pad a_court a_title a_out k_told k_high k_values k_low k_pad p1 p2 v_this_thrown v_this_size v_this_families v_this_atHand v_this_family v_this_density v_this_pads v_this_hasThermal v_this_titleSize v_this_written v_this_at v_this_begin v_this_words v_this_paste0 v_told v_high v_values v_low v_pad post hK y4 y6 y8 y10 _ _ h hP hD hS ls (lv_sub hl [0, 1, 2, 3, 4, 5, 6] rfl)
    · intro c3
      replace h := h.2 c3
      refine lv_iconst (v := 0) hx hb dM_makeSides_204 (by decide) ?_
      exact W.zret (v := 0) hx hb hr rfl (fun t ht hW => ⟨⟨0, (v_this_pads, v_this_hasThermal, v_pad), rfl, h, by rw [ht]; exact hP, hD⟩, hS.F ht⟩) hS.2.2 dM_makeSides_205
def P_M_makeSides_168 (p1 : Int32) (p2 : Int64) (v_this_pads : Int32) (v_this_hasThermal : Int32) (v_told : Nat → Int32) (v_high : Nat → Int64) (v_low : Nat → Int64) (v_pad : Nat → Int64) (post : Int32 → Int32 → Int32 → (Nat → Int64) → Prop) (y4 : Int64) (y6 : Int64) (y8 : Int64) (y10 : Int64) : Prop := ((¬ p1 = 1 → P_M_makeSides_186 p1 p2 v_this_pads v_this_hasThermal v_told v_high v_low v_pad post y4 y6 y8 y10) ∧ (p1 = 1 → P_M_hasCount 2 2 v_told v_low v_high (fun (r2 : Int32) => ((r2 = 0 → post 0 v_this_pads v_this_hasThermal v_pad) ∧ (¬ r2 = 0 → P_M_makeSides_186 p1 p2 v_this_pads v_this_hasThermal v_told v_high v_low v_pad post y4 y6 y8 y10)))))
set_option maxHeartbeats 4000000 in
set_option maxRecDepth 100000 in
theorem w_M_makeSides_168 (l : Launch) {p : Program} {e : Env} {s : State} {m : MethodId} {args : Array Value} {below : List Frame} {meth : Method} {c : Code} {dC : Nat → ClassId} {dI : Nat → Nat → Nat} {ad : Nat → Nat → Nat} {A : Nat → Prop} (C0 : zC p s m args meth c cM_makeSides 18 RM zT (some .boolean) A) (hE : zE ad A s) (a_this : Nat) (a_units : Nat) (a_kinds : Nat) (a_values : Nat) (a_names : Nat) (a_low : Nat) (a_high : Nat) (a_told : Nat) (a_leftOut : Nat) (a_isMade : Nat) (a_hands : Nat) (a_pad : Nat) (a_court : Nat) (a_title : Nat) (a_out : Nat) (k_told : ClassId) (k_high : ClassId) (k_values : ClassId) (k_low : ClassId) (k_pad : ClassId) (p1 : Int32) (p2 : Int64) (v_this_thrown : Int32) (v_this_size : Int32) (v_this_families : Int32) (v_this_atHand : Int32) (v_this_family : Int32) (v_this_density : Int32) (v_this_pads : Int32) (v_this_hasThermal : Int32) (v_this_titleSize : Int32) (v_this_written : Int32) (v_this_at : Int32) (v_this_begin : Int32) (v_this_words : Int32) (v_this_paste0 : Int64) (v_told : Nat → Int32) (v_high : Nat → Int64) (v_values : Nat → Int64) (v_low : Nat → Int64) (v_pad : Nat → Int64) (post : Int32 → Int32 → Int32 → (Nat → Int64) → Prop) (hK : va_K (dC, dI) vwCl [(k_told, .boolean), (k_high, .long), (k_values, .long), (k_low, .long), (k_pad, .long)] s) : ∀ (y4 : Int64) (y6 : Int64) (y8 : Int64) (y10 : Int64) (H : Heap) (locs : List Loc), P_M_makeSides_168 p1 p2 v_this_pads v_this_hasThermal v_told v_high v_low v_pad post y4 y6 y8 y10 → va_P (dC, dI) vwCl (w_M_makeSides ad a_this a_units a_kinds a_values a_names a_low a_high a_told a_leftOut a_isMade a_hands a_pad a_court a_title a_out k_told k_high k_values k_low k_pad v_this_thrown v_this_size v_this_families v_this_atHand v_this_family v_this_density v_this_pads v_this_hasThermal v_this_titleSize v_this_written v_this_at v_this_begin v_this_words v_this_paste0 v_told v_high v_values v_low v_pad) H → va_D A (w_M_makeSides ad a_this a_units a_kinds a_values a_names a_low a_high a_told a_leftOut a_isMade a_hands a_pad a_court a_title a_out k_told k_high k_values k_low k_pad v_this_thrown v_this_size v_this_families v_this_atHand v_this_family v_this_density v_this_pads v_this_hasThermal v_this_titleSize v_this_written v_this_at v_this_begin v_this_words v_this_paste0 v_told v_high v_values v_low v_pad) → va_S A s.heap H locs → ∀ ls : Array Slot, lv_has ls 18 [(0, .ref a_this), (1, .int p1), (2, .long p2), (4, .long y4), (6, .long y6), (8, .long y8), (10, .long y10)] → W p l e (headSpec wsM_makeSides { frames := 2, cells := 0, slots := 0, locals := 61 }).room s m args below meth c H locs 0 0 (MQ below (va_Qi (fun (r : Int32) (u : Int32 × Int32 × (Nat → Int64)) => post r u.1 u.2.1 u.2.2) (zB (dC, dI) A (fun (u : Int32 × Int32 × (Nat → Int64)) => (w_M_makeSides ad a_this a_units a_kinds a_values a_names a_low a_high a_told a_leftOut a_isMade a_hands a_pad a_court a_title a_out k_told k_high k_values k_low k_pad v_this_thrown v_this_size v_this_families v_this_atHand v_this_family v_this_density u.1 u.2.1 v_this_titleSize v_this_written v_this_at v_this_begin v_this_words v_this_paste0 v_told v_high v_values v_low u.2.2))) A) args s 0 0 A) (F0 m 168 ls []) := by
  obtain ⟨hx, hb, hr, hml, hown, hts, hlocks, hA⟩ := id C0
  intro y4 y6 y8 y10 H locs h hP hD hS ls hl
  unfold P_M_makeSides_168 at h
  refine lv_iload_n hx hb dM_makeSides_168 rfl (lv_at hl 1 rfl) ?_
  refine lv_iconst (v := 1) hx hb dM_makeSides_169 (by decide) ?_
  refine lv_icmp_ne (tgt := 186) hx hb dM_makeSides_170 (by decide) ?_ ?_
  · intro c1
    replace h := h.1 c1
    exact w_M_makeSides_186 l C0 hE a_this a_units a_kinds a_values a_names a_low a_high a_told a_leftOut a_isMade a_hands a_pad a_court a_title a_out k_told k_high k_values k_low k_pad p1 p2 v_this_thrown v_this_size v_this_families v_this_atHand v_this_family v_this_density v_this_pads v_this_hasThermal v_this_titleSize v_this_written v_this_at v_this_begin v_this_words v_this_paste0 v_told v_high v_values v_low v_pad post hK y4 y6 y8 y10 _ _ h hP hD hS ls (lv_sub hl [0, 1, 2, 3, 4, 5, 6] rfl)
  · intro c1
    replace h := h.2 c1
    refine lv_aload_n hx hb dM_makeSides_173 rfl (lv_at hl 0 rfl) ?_
    refine lv_ldc2 (own := RM) (index := 90) (v := 2) hx hb hown (hts _ zw_1179) dM_makeSides_174 ?_
    refine lv_ldc2 (own := RM) (index := 90) (v := 2) hx hb hown (hts _ zw_1179) dM_makeSides_177 ?_
    refine zcall_i hP hD hS hA [0, 1, 4, 2] [3, 5] (va_runV (As := [.long 2, .long 2]) (rest := []) ⟨hx, hb, hml, hown, hts⟩ (c_M_hasCount l dC dI ad a_this a_units a_kinds a_values a_names a_low a_high a_told a_leftOut a_isMade a_hands a_pad a_court a_title a_out k_told k_low k_high _ 2 2 v_this_thrown v_this_size v_this_families v_this_atHand v_this_family v_this_density v_this_pads v_this_hasThermal v_this_titleSize v_this_written v_this_at v_this_begin v_this_words v_this_paste0 v_told v_low v_high _ h) ⟨callB_of 2 hts (zgood zc_M_hasCount) rfl rfl rfl (hts _ zw_107) (hts _ zw_1232) (by decide +kernel) ⟨Nat.le_of_ble_eq_true rfl, Nat.le_of_ble_eq_true rfl⟩, (hts _ zw_1234), (hts _ zw_80)⟩ (zpreV hE hK hP hD hS hA [0, 1, 4, 2] [0, 3, 1] (by rfl) (by rfl) (by decide) (ci := 10) (q0 := 0) rfl (by rfl)) rfl rfl hl.1 rfl (lv_room (Nat.le_of_ble_eq_true rfl)) dM_makeSides_180 ⟨Nat.le_of_ble_eq_true rfl, Nat.le_of_ble_eq_true rfl⟩) (by rfl) (by rfl) (by decide) (by decide) (fun r2 u H locs h hP hD hS => ?_)
    try dsimp only at h
    have hP := hP.sub (ws' := (w_M_makeSides ad a_this a_units a_kinds a_values a_names a_low a_high a_told a_leftOut a_isMade a_hands a_pad a_court a_title a_out k_told k_high k_values k_low k_pad v_this_thrown v_this_size v_this_families v_this_atHand v_this_family v_this_density v_this_pads v_this_hasThermal v_this_titleSize v_this_written v_this_at v_this_begin v_this_words v_this_paste0 v_told v_high v_values v_low v_pad)) [2, 3, 5, 0, 4, 1] rfl
    have hD := hD.sub (ws' := (w_M_makeSides ad a_this a_units a_kinds a_values a_names a_low a_high a_told a_leftOut a_isMade a_hands a_pad a_court a_title a_out k_told k_high k_values k_low k_pad v_this_thrown v_this_size v_this_families v_this_atHand v_this_family v_this_density v_this_pads v_this_hasThermal v_this_titleSize v_this_written v_this_at v_this_begin v_this_words v_this_paste0 v_told v_high v_values v_low v_pad)) [2, 3, 5, 0, 4, 1] (by decide) rfl
    refine lv_if_eq (tgt := 204) hx hb dM_makeSides_183 (by decide) ?_ ?_
    · intro c3
      replace h := h.1 c3
      refine lv_iconst (v := 0) hx hb dM_makeSides_204 (by decide) ?_
      exact W.zret (v := 0) hx hb hr rfl (fun t ht hW => ⟨⟨0, (v_this_pads, v_this_hasThermal, v_pad), rfl, h, by rw [ht]; exact hP, hD⟩, hS.F ht⟩) hS.2.2 dM_makeSides_205
    · intro c3
      replace h := h.2 c3
      exact w_M_makeSides_186 l C0 hE a_this a_units a_kinds a_values a_names a_low a_high a_told a_leftOut a_isMade a_hands a_pad a_court a_title a_out k_told k_high k_values k_low k_pad p1 p2 v_this_thrown v_this_size v_this_families v_this_atHand v_this_family v_this_density v_this_pads v_this_hasThermal v_this_titleSize v_this_written v_this_at v_this_begin v_this_words v_this_paste0 v_told v_high v_values v_low v_pad post hK y4 y6 y8 y10 _ _ h hP hD hS ls (lv_sub hl [0, 1, 2, 3, 4, 5, 6] rfl)
def P_M_makeSides_145 (p1 : Int32) (p2 : Int64) (v_this_pads : Int32) (v_this_hasThermal : Int32) (v_told : Nat → Int32) (v_high : Nat → Int64) (v_low : Nat → Int64) (v_pad : Nat → Int64) (post : Int32 → Int32 → Int32 → (Nat → Int64) → Prop) (y4 : Int64) (y6 : Int64) (y8 : Int64) (t0 : Int64) : Prop := ((p1 = 0 → P_M_makeSides_168 p1 p2 v_this_pads v_this_hasThermal v_told v_high v_low v_pad post y4 y6 y8 t0) ∧ (¬ p1 = 0 → P_M_hasPitch v_told v_low v_high (fun (r2 : Int32) => ((r2 = 0 → post 0 v_this_pads v_this_hasThermal v_pad) ∧ (¬ r2 = 0 → ((y8 < t0 → P_M_makeSides_168 p1 p2 v_this_pads v_this_hasThermal v_told v_high v_low v_pad post y4 y6 y8 t0) ∧ (¬ y8 < t0 → post 0 v_this_pads v_this_hasThermal v_pad)))))))
set_option maxHeartbeats 4000000 in
set_option maxRecDepth 100000 in
theorem w_M_makeSides_145 (l : Launch) {p : Program} {e : Env} {s : State} {m : MethodId} {args : Array Value} {below : List Frame} {meth : Method} {c : Code} {dC : Nat → ClassId} {dI : Nat → Nat → Nat} {ad : Nat → Nat → Nat} {A : Nat → Prop} (C0 : zC p s m args meth c cM_makeSides 18 RM zT (some .boolean) A) (hE : zE ad A s) (a_this : Nat) (a_units : Nat) (a_kinds : Nat) (a_values : Nat) (a_names : Nat) (a_low : Nat) (a_high : Nat) (a_told : Nat) (a_leftOut : Nat) (a_isMade : Nat) (a_hands : Nat) (a_pad : Nat) (a_court : Nat) (a_title : Nat) (a_out : Nat) (k_told : ClassId) (k_high : ClassId) (k_values : ClassId) (k_low : ClassId) (k_pad : ClassId) (p1 : Int32) (p2 : Int64) (v_this_thrown : Int32) (v_this_size : Int32) (v_this_families : Int32) (v_this_atHand : Int32) (v_this_family : Int32) (v_this_density : Int32) (v_this_pads : Int32) (v_this_hasThermal : Int32) (v_this_titleSize : Int32) (v_this_written : Int32) (v_this_at : Int32) (v_this_begin : Int32) (v_this_words : Int32) (v_this_paste0 : Int64) (v_told : Nat → Int32) (v_high : Nat → Int64) (v_values : Nat → Int64) (v_low : Nat → Int64) (v_pad : Nat → Int64) (post : Int32 → Int32 → Int32 → (Nat → Int64) → Prop) (hK : va_K (dC, dI) vwCl [(k_told, .boolean), (k_high, .long), (k_values, .long), (k_low, .long), (k_pad, .long)] s) : ∀ (y4 : Int64) (y6 : Int64) (y8 : Int64) (t0 : Int64) (H : Heap) (locs : List Loc), P_M_makeSides_145 p1 p2 v_this_pads v_this_hasThermal v_told v_high v_low v_pad post y4 y6 y8 t0 → va_P (dC, dI) vwCl (w_M_makeSides ad a_this a_units a_kinds a_values a_names a_low a_high a_told a_leftOut a_isMade a_hands a_pad a_court a_title a_out k_told k_high k_values k_low k_pad v_this_thrown v_this_size v_this_families v_this_atHand v_this_family v_this_density v_this_pads v_this_hasThermal v_this_titleSize v_this_written v_this_at v_this_begin v_this_words v_this_paste0 v_told v_high v_values v_low v_pad) H → va_D A (w_M_makeSides ad a_this a_units a_kinds a_values a_names a_low a_high a_told a_leftOut a_isMade a_hands a_pad a_court a_title a_out k_told k_high k_values k_low k_pad v_this_thrown v_this_size v_this_families v_this_atHand v_this_family v_this_density v_this_pads v_this_hasThermal v_this_titleSize v_this_written v_this_at v_this_begin v_this_words v_this_paste0 v_told v_high v_values v_low v_pad) → va_S A s.heap H locs → ∀ ls : Array Slot, lv_has ls 18 [(0, .ref a_this), (1, .int p1), (2, .long p2), (4, .long y4), (6, .long y6), (8, .long y8)] → W p l e (headSpec wsM_makeSides { frames := 2, cells := 0, slots := 0, locals := 61 }).room s m args below meth c H locs 0 0 (MQ below (va_Qi (fun (r : Int32) (u : Int32 × Int32 × (Nat → Int64)) => post r u.1 u.2.1 u.2.2) (zB (dC, dI) A (fun (u : Int32 × Int32 × (Nat → Int64)) => (w_M_makeSides ad a_this a_units a_kinds a_values a_names a_low a_high a_told a_leftOut a_isMade a_hands a_pad a_court a_title a_out k_told k_high k_values k_low k_pad v_this_thrown v_this_size v_this_families v_this_atHand v_this_family v_this_density u.1 u.2.1 v_this_titleSize v_this_written v_this_at v_this_begin v_this_words v_this_paste0 v_told v_high v_values v_low u.2.2))) A) args s 0 0 A) (F0 m 145 ls [.long t0]) := by
  obtain ⟨hx, hb, hr, hml, hown, hts, hlocks, hA⟩ := id C0
  intro y4 y6 y8 t0 H locs h hP hD hS ls hl
  unfold P_M_makeSides_145 at h
  refine lv_lstore (lv' := [(10, .long t0), (0, .ref a_this), (1, .int p1), (2, .long p2), (4, .long y4), (6, .long y6), (8, .long y8)]) hx hb dM_makeSides_145 hl (by decide) rfl (fun ls hl => ?_)
  refine lv_iload_n hx hb dM_makeSides_147 rfl (lv_at hl 2 rfl) ?_
  refine lv_if_eq (tgt := 168) hx hb dM_makeSides_148 (by decide) ?_ ?_
  · intro c1
    replace h := h.1 c1
    exact w_M_makeSides_168 l C0 hE a_this a_units a_kinds a_values a_names a_low a_high a_told a_leftOut a_isMade a_hands a_pad a_court a_title a_out k_told k_high k_values k_low k_pad p1 p2 v_this_thrown v_this_size v_this_families v_this_atHand v_this_family v_this_density v_this_pads v_this_hasThermal v_this_titleSize v_this_written v_this_at v_this_begin v_this_words v_this_paste0 v_told v_high v_values v_low v_pad post hK y4 y6 y8 t0 _ _ h hP hD hS ls (lv_sub hl [1, 2, 3, 4, 5, 6, 0] rfl)
  · intro c1
    replace h := h.2 c1
    refine lv_aload_n hx hb dM_makeSides_151 rfl (lv_at hl 1 rfl) ?_
    refine zcall_i hP hD hS hA [0, 1, 4, 2] [3, 5] (va_runV (As := []) (rest := []) ⟨hx, hb, hml, hown, hts⟩ (c_M_hasPitch l dC dI ad a_this a_units a_kinds a_values a_names a_low a_high a_told a_leftOut a_isMade a_hands a_pad a_court a_title a_out k_told k_low k_high _ v_this_thrown v_this_size v_this_families v_this_atHand v_this_family v_this_density v_this_pads v_this_hasThermal v_this_titleSize v_this_written v_this_at v_this_begin v_this_words v_this_paste0 v_told v_low v_high _ h) ⟨callB_of 0 hts (zgood zc_M_hasPitch) rfl rfl rfl (hts _ zw_107) (hts _ zw_1209) (by decide +kernel) ⟨Nat.le_of_ble_eq_true rfl, Nat.le_of_ble_eq_true rfl⟩, (hts _ zw_1211), (hts _ zw_76)⟩ (zpreV hE hK hP hD hS hA [0, 1, 4, 2] [0, 3, 1] (by rfl) (by rfl) (by decide) (ci := 10) (q0 := 0) rfl (by rfl)) rfl rfl hl.1 rfl (lv_room (Nat.le_of_ble_eq_true rfl)) dM_makeSides_152 ⟨Nat.le_of_ble_eq_true rfl, Nat.le_of_ble_eq_true rfl⟩) (by rfl) (by rfl) (by decide) (by decide) (fun r2 u H locs h hP hD hS => ?_)
    try dsimp only at h
    have hP := hP.sub (ws' := (w_M_makeSides ad a_this a_units a_kinds a_values a_names a_low a_high a_told a_leftOut a_isMade a_hands a_pad a_court a_title a_out k_told k_high k_values k_low k_pad v_this_thrown v_this_size v_this_families v_this_atHand v_this_family v_this_density v_this_pads v_this_hasThermal v_this_titleSize v_this_written v_this_at v_this_begin v_this_words v_this_paste0 v_told v_high v_values v_low v_pad)) [2, 3, 5, 0, 4, 1] rfl
    have hD := hD.sub (ws' := (w_M_makeSides ad a_this a_units a_kinds a_values a_names a_low a_high a_told a_leftOut a_isMade a_hands a_pad a_court a_title a_out k_told k_high k_values k_low k_pad v_this_thrown v_this_size v_this_families v_this_atHand v_this_family v_this_density v_this_pads v_this_hasThermal v_this_titleSize v_this_written v_this_at v_this_begin v_this_words v_this_paste0 v_told v_high v_values v_low v_pad)) [2, 3, 5, 0, 4, 1] (by decide) rfl
    refine lv_if_eq (tgt := 166) hx hb dM_makeSides_155 (by decide) ?_ ?_
    · intro c3
      replace h := h.1 c3
      refine lv_iconst (v := 0) hx hb dM_makeSides_166 (by decide) ?_
      exact W.zret (v := 0) hx hb hr rfl (fun t ht hW => ⟨⟨0, (v_this_pads, v_this_hasThermal, v_pad), rfl, h, by rw [ht]; exact hP, hD⟩, hS.F ht⟩) hS.2.2 dM_makeSides_167
    · intro c3
      replace h := h.2 c3
      refine lv_lload hx hb dM_makeSides_158 (lv_at hl 6 rfl) ?_
      refine lv_lload hx hb dM_makeSides_160 (lv_at hl 0 rfl) ?_
      refine zz_lcmp_lt (tgt := 168) hx hb dM_makeSides_162 dM_makeSides_163 (by decide) ?_ ?_
      · intro c4
        replace h := h.1 c4
        exact w_M_makeSides_168 l C0 hE a_this a_units a_kinds a_values a_names a_low a_high a_told a_leftOut a_isMade a_hands a_pad a_court a_title a_out k_told k_high k_values k_low k_pad p1 p2 v_this_thrown v_this_size v_this_families v_this_atHand v_this_family v_this_density v_this_pads v_this_hasThermal v_this_titleSize v_this_written v_this_at v_this_begin v_this_words v_this_paste0 v_told v_high v_values v_low v_pad post hK y4 y6 y8 t0 _ _ h hP hD hS ls (lv_sub hl [1, 2, 3, 4, 5, 6, 0] rfl)
      · intro c4
        replace h := h.2 c4
        refine lv_iconst (v := 0) hx hb dM_makeSides_166 (by decide) ?_
        exact W.zret (v := 0) hx hb hr rfl (fun t ht hW => ⟨⟨0, (v_this_pads, v_this_hasThermal, v_pad), rfl, h, by rw [ht]; exact hP, hD⟩, hS.F ht⟩) hS.2.2 dM_makeSides_167
def P_M_makeSides (p1 : Int32) (p2 : Int64) (v_this_family : Int32) (v_this_density : Int32) (v_this_pads : Int32) (v_this_hasThermal : Int32) (v_told : Nat → Int32) (v_high : Nat → Int64) (v_values : Nat → Int64) (v_low : Nat → Int64) (v_pad : Nat → Int64) (post : Int32 → Int32 → Int32 → (Nat → Int64) → Prop) : Prop := vp_in 0 12 ∧ (((v_told (0 : Int32).toNatClampNeg) = 0 → post 0 v_this_pads v_this_hasThermal v_pad) ∧ (¬ (v_told (0 : Int32).toNatClampNeg) = 0 → vp_in 1 12 ∧ (((v_told (1 : Int32).toNatClampNeg) = 0 → post 0 v_this_pads v_this_hasThermal v_pad) ∧ (¬ (v_told (1 : Int32).toNatClampNeg) = 0 → vp_in 2 12 ∧ ((¬ (v_told (2 : Int32).toNatClampNeg) = 0 → vp_in 0 12 ∧ P_M_of 0 v_this_family v_this_density v_values (fun (r8 : Int64) => P_M_up ((v_high (0 : Int32).toNatClampNeg) + (2 * r8)) (2 * p2) (fun (r9 : Int64) => vp_in 1 12 ∧ P_M_of 1 v_this_family v_this_density v_values (fun (r11 : Int64) => P_M_down ((v_low (1 : Int32).toNatClampNeg) - (2 * r11)) (2 * p2) (fun (r12 : Int64) => vp_in 2 12 ∧ P_M_of 2 v_this_family v_this_density v_values (fun (r14 : Int64) => P_M_up ((v_high (2 : Int32).toNatClampNeg) + (2 * r14)) (2 * p2) (fun (r15 : Int64) => ((r12 ≤ 0 → post 0 v_this_pads v_this_hasThermal v_pad) ∧ (¬ r12 ≤ 0 → ((r9 ≤ r12 → post 0 v_this_pads v_this_hasThermal v_pad) ∧ (¬ r9 ≤ r12 → ((0 < r15 → ((¬ p1 = 0 → vp_in 3 12 ∧ P_M_makeSides_145 p1 p2 v_this_pads v_this_hasThermal v_told v_high v_low v_pad post r9 r12 r15 (v_high (3 : Int32).toNatClampNeg)) ∧ (p1 = 0 → P_M_makeSides_145 p1 p2 v_this_pads v_this_hasThermal v_told v_high v_low v_pad post r9 r12 r15 0))) ∧ (¬ 0 < r15 → post 0 v_this_pads v_this_hasThermal v_pad))))))))))))) ∧ ((v_told (2 : Int32).toNatClampNeg) = 0 → post 0 v_this_pads v_this_hasThermal v_pad))))))
set_option maxHeartbeats 4000000 in
set_option maxRecDepth 100000 in
theorem c_M_makeSides (l : Launch) (dC : Nat → ClassId) (dI : Nat → Nat → Nat) (ad : Nat → Nat → Nat) (a_this : Nat) (a_units : Nat) (a_kinds : Nat) (a_values : Nat) (a_names : Nat) (a_low : Nat) (a_high : Nat) (a_told : Nat) (a_leftOut : Nat) (a_isMade : Nat) (a_hands : Nat) (a_pad : Nat) (a_court : Nat) (a_title : Nat) (a_out : Nat) (k_told : ClassId) (k_high : ClassId) (k_values : ClassId) (k_low : ClassId) (k_pad : ClassId) (sz : Nat) (p1 : Int32) (p2 : Int64) (v_this_thrown : Int32) (v_this_size : Int32) (v_this_families : Int32) (v_this_atHand : Int32) (v_this_family : Int32) (v_this_density : Int32) (v_this_pads : Int32) (v_this_hasThermal : Int32) (v_this_titleSize : Int32) (v_this_written : Int32) (v_this_at : Int32) (v_this_begin : Int32) (v_this_words : Int32) (v_this_paste0 : Int64) (v_told : Nat → Int32) (v_high : Nat → Int64) (v_values : Nat → Int64) (v_low : Nat → Int64) (v_pad : Nat → Int64) (post : Int32 → Int32 → Int32 → (Nat → Int64) → Prop) (h : P_M_makeSides p1 p2 v_this_family v_this_density v_this_pads v_this_hasThermal v_told v_high v_values v_low v_pad post) : zMi l yM_makeSides wsM_makeSides { frames := 2, cells := 0, slots := 0, locals := 61 } (dC, dI) ad [.ref a_this, .int p1, .long p2] (w_M_makeSides ad a_this a_units a_kinds a_values a_names a_low a_high a_told a_leftOut a_isMade a_hands a_pad a_court a_title a_out k_told k_high k_values k_low k_pad v_this_thrown v_this_size v_this_families v_this_atHand v_this_family v_this_density v_this_pads v_this_hasThermal v_this_titleSize v_this_written v_this_at v_this_begin v_this_words v_this_paste0 v_told v_high v_values v_low v_pad) [(k_told, .boolean), (k_high, .long), (k_values, .long), (k_low, .long), (k_pad, .long)] sz (fun (r : Int32) (u : Int32 × Int32 × (Nat → Int64)) => post r u.1 u.2.1 u.2.2) (fun (u : Int32 × Int32 × (Nat → Int64)) => (w_M_makeSides ad a_this a_units a_kinds a_values a_names a_low a_high a_told a_leftOut a_isMade a_hands a_pad a_court a_title a_out k_told k_high k_values k_low k_pad v_this_thrown v_this_size v_this_families v_this_atHand v_this_family v_this_density u.1 u.2.1 v_this_titleSize v_this_written v_this_at v_this_begin v_this_words v_this_paste0 v_told v_high v_values v_low u.2.2)) 0 0 := by
  refine Met.ofW (cc := cM_makeSides) (maxL := 18) (ret := (some .boolean)) (by decide +kernel) rfl ?_
  intro p e s m args below meth c s₁ B hml hv
  obtain ⟨rfl, hsz, hP, hK, hD0, hE⟩ := hv
  have hx := B.exec
  have hb := B.bytes
  have hr := B.returns
  have hts0 := atoms_spec (ws := wsM_makeSides) B.pre
  have hts := fun w h => hts0 w (List.mem_cons_of_mem _ h)
  have hown : s.vm.findClass RM = some m.cls := findClass_of_methodNamed B.named
  have hlocks := B.notSynchronized
  subst hsz
  have hD := hD0.self (sz := s.heap.size)
  generalize hAe : va_A (w_M_makeSides ad a_this a_units a_kinds a_values a_names a_low a_high a_told a_leftOut a_isMade a_hands a_pad a_court a_title a_out k_told k_high k_values k_low k_pad v_this_thrown v_this_size v_this_families v_this_atHand v_this_family v_this_density v_this_pads v_this_hasThermal v_this_titleSize v_this_written v_this_at v_this_begin v_this_words v_this_paste0 v_told v_high v_values v_low v_pad) s.heap.size = A at hD hE ⊢
  have hA : ∀ q : Nat, s.heap.size ≤ q → A q := fun q h => by rw [← hAe]; exact Or.inr h
  have C0 := zC.mk hx hb hr hml hown hts hlocks hA
  have hS : va_S A s.heap s.heap [] := va_S.rf
  have hl := lv_entry ([.ref a_this, .int p1, .long p2]) (n := 18) (Nat.le_of_ble_eq_true rfl)
  rw [lg_entry_eq]
  generalize (lg_sl ([.ref a_this, .int p1, .long p2]) ++ List.replicate (18 - (lg_sl ([.ref a_this, .int p1, .long p2])).length) Slot.unset).toArray = ls at hl ⊢
  have hl : lv_has ls 18 [(0, .ref a_this), (1, .int p1), (2, .long p2)] := hl
  unfold P_M_makeSides at h
  refine lv_aload_n hx hb dM_makeSides_0 rfl (lv_at hl 0 rfl) ?_
  refine va_get (D := (dC, dI)) (ci := 10) (v := .ref a_told) (C := RM) (T := TM) (N := 28) hx hb hts inZ_M hown hK hP 0 rfl rfl 9 (by decide) (hts _ zw_1053) (fun _ h9 => h9) rfl dM_makeSides_1 ?_
  refine lv_iconst (v := 0) hx hb dM_makeSides_4 (by decide) ?_
  obtain ⟨hn1, h⟩ := h
  refine va_zald hx hb hK hP 1 0 rfl rfl hn1 dM_makeSides_5 ?_
  refine lv_if_eq (tgt := 27) hx hb dM_makeSides_6 (by decide) ?_ ?_
  · intro c2
    replace h := h.1 c2
    refine lv_iconst (v := 0) hx hb dM_makeSides_27 (by decide) ?_
    exact W.zret (v := 0) hx hb hr rfl (fun t ht hW => ⟨⟨0, (v_this_pads, v_this_hasThermal, v_pad), rfl, h, by rw [ht]; exact hP, hD⟩, hS.F ht⟩) hS.2.2 dM_makeSides_28
  · intro c2
    replace h := h.2 c2
    refine lv_aload_n hx hb dM_makeSides_9 rfl (lv_at hl 0 rfl) ?_
    refine va_get (D := (dC, dI)) (ci := 10) (v := .ref a_told) (C := RM) (T := TM) (N := 28) hx hb hts inZ_M hown hK hP 0 rfl rfl 9 (by decide) (hts _ zw_1053) (fun _ h9 => h9) rfl dM_makeSides_10 ?_
    refine lv_iconst (v := 1) hx hb dM_makeSides_13 (by decide) ?_
    obtain ⟨hn3, h⟩ := h
    refine va_zald hx hb hK hP 1 0 rfl rfl hn3 dM_makeSides_14 ?_
    refine lv_if_eq (tgt := 27) hx hb dM_makeSides_15 (by decide) ?_ ?_
    · intro c4
      replace h := h.1 c4
      refine lv_iconst (v := 0) hx hb dM_makeSides_27 (by decide) ?_
      exact W.zret (v := 0) hx hb hr rfl (fun t ht hW => ⟨⟨0, (v_this_pads, v_this_hasThermal, v_pad), rfl, h, by rw [ht]; exact hP, hD⟩, hS.F ht⟩) hS.2.2 dM_makeSides_28
    · intro c4
      replace h := h.2 c4
      refine lv_aload_n hx hb dM_makeSides_18 rfl (lv_at hl 0 rfl) ?_
      refine va_get (D := (dC, dI)) (ci := 10) (v := .ref a_told) (C := RM) (T := TM) (N := 28) hx hb hts inZ_M hown hK hP 0 rfl rfl 9 (by decide) (hts _ zw_1053) (fun _ h9 => h9) rfl dM_makeSides_19 ?_
      refine lv_iconst (v := 2) hx hb dM_makeSides_22 (by decide) ?_
      obtain ⟨hn5, h⟩ := h
      refine va_zald hx hb hK hP 1 0 rfl rfl hn5 dM_makeSides_23 ?_
      refine lv_if_ne (tgt := 29) hx hb dM_makeSides_24 (by decide) ?_ ?_
      · intro c6
        replace h := h.1 c6
        refine lv_aload_n hx hb dM_makeSides_29 rfl (lv_at hl 0 rfl) ?_
        refine va_get (D := (dC, dI)) (ci := 10) (v := .ref a_high) (C := RM) (T := TM) (N := 28) hx hb hts inZ_M hown hK hP 0 rfl rfl 8 (by decide) (hts _ zw_1052) (fun _ h9 => h9) rfl dM_makeSides_30 ?_
        refine lv_iconst (v := 0) hx hb dM_makeSides_33 (by decide) ?_
        obtain ⟨hn7, h⟩ := h
        refine va_lald hx hb hK hP 2 1 rfl rfl hn7 dM_makeSides_34 ?_
        refine lv_ldc2 (own := RM) (index := 90) (v := 2) hx hb hown (hts _ zw_1179) dM_makeSides_35 ?_
        refine lv_aload_n hx hb dM_makeSides_38 rfl (lv_at hl 0 rfl) ?_
        refine lv_iconst (v := 0) hx hb dM_makeSides_39 (by decide) ?_
        refine zcall_l hP hD hS hA [0, 3] [1, 2, 4, 5] (va_runV (As := [.int 0]) (rest := [.long 2, .long (v_high (0 : Int32).toNatClampNeg)]) ⟨hx, hb, hml, hown, hts⟩ (c_M_of l dC dI ad a_this a_units a_kinds a_values a_names a_low a_high a_told a_leftOut a_isMade a_hands a_pad a_court a_title a_out k_values _ 0 v_this_thrown v_this_size v_this_families v_this_atHand v_this_family v_this_density v_this_pads v_this_hasThermal v_this_titleSize v_this_written v_this_at v_this_begin v_this_words v_this_paste0 v_values _ h) ⟨callB_of 1 hts (zgood zc_M_of) rfl rfl rfl (hts _ zw_107) (hts _ zw_1201) (by decide +kernel) ⟨Nat.le_of_ble_eq_true rfl, Nat.le_of_ble_eq_true rfl⟩, (hts _ zw_1203), (hts _ zw_74)⟩ (zpreV hE hK hP hD hS hA [0, 3] [2] (by rfl) (by rfl) (by decide) (ci := 10) (q0 := 0) rfl (by rfl)) rfl rfl hl.1 rfl (lv_room (Nat.le_of_ble_eq_true rfl)) dM_makeSides_40 ⟨Nat.le_of_ble_eq_true rfl, Nat.le_of_ble_eq_true rfl⟩) (by rfl) (by rfl) (by decide) (by decide) (fun r8 u H locs h hP hD hS => ?_)
        try dsimp only at h
        have hP := hP.sub (ws' := (w_M_makeSides ad a_this a_units a_kinds a_values a_names a_low a_high a_told a_leftOut a_isMade a_hands a_pad a_court a_title a_out k_told k_high k_values k_low k_pad v_this_thrown v_this_size v_this_families v_this_atHand v_this_family v_this_density v_this_pads v_this_hasThermal v_this_titleSize v_this_written v_this_at v_this_begin v_this_words v_this_paste0 v_told v_high v_values v_low v_pad)) [4, 0, 1, 5, 2, 3] rfl
        have hD := hD.sub (ws' := (w_M_makeSides ad a_this a_units a_kinds a_values a_names a_low a_high a_told a_leftOut a_isMade a_hands a_pad a_court a_title a_out k_told k_high k_values k_low k_pad v_this_thrown v_this_size v_this_families v_this_atHand v_this_family v_this_density v_this_pads v_this_hasThermal v_this_titleSize v_this_written v_this_at v_this_begin v_this_words v_this_paste0 v_told v_high v_values v_low v_pad)) [4, 0, 1, 5, 2, 3] (by decide) rfl
        refine lv_lmul hx hb dM_makeSides_43 ?_
        refine lv_ladd hx hb dM_makeSides_44 ?_
        refine lv_ldc2 (own := RM) (index := 90) (v := 2) hx hb hown (hts _ zw_1179) dM_makeSides_45 ?_
        refine lv_lload_n hx hb dM_makeSides_48 rfl (lv_at hl 2 rfl) ?_
        refine lv_lmul hx hb dM_makeSides_49 ?_
        refine zcall_l hP hD hS hA [] [0, 1, 2, 3, 4, 5] (va_runS (As := [.long ((v_high (0 : Int32).toNatClampNeg) + (2 * r8)), .long (2 * p2)]) (rest := []) ⟨hx, hb, hml, hown, hts⟩ (c_M_up l dC dI ad _ ((v_high (0 : Int32).toNatClampNeg) + (2 * r8)) (2 * p2) _ h) ⟨callB_of 2 hts (zgood zc_M_up) rfl rfl rfl (hts _ zw_107) (hts _ zw_1218) (by decide +kernel) ⟨Nat.le_of_ble_eq_true rfl, Nat.le_of_ble_eq_true rfl⟩, (hts _ zw_1219)⟩ (zpreS hE hK hP hD hS hA [] [] (by rfl) (by rfl) (by decide)) rfl rfl hl.1 rfl (lv_room (Nat.le_of_ble_eq_true rfl)) dM_makeSides_50 ⟨Nat.le_of_ble_eq_true rfl, Nat.le_of_ble_eq_true rfl⟩) (by rfl) (by rfl) (by decide) (by decide) (fun r9 u H locs h hP hD hS => ?_)
        try dsimp only at h
        have hP := hP.sub (ws' := (w_M_makeSides ad a_this a_units a_kinds a_values a_names a_low a_high a_told a_leftOut a_isMade a_hands a_pad a_court a_title a_out k_told k_high k_values k_low k_pad v_this_thrown v_this_size v_this_families v_this_atHand v_this_family v_this_density v_this_pads v_this_hasThermal v_this_titleSize v_this_written v_this_at v_this_begin v_this_words v_this_paste0 v_told v_high v_values v_low v_pad)) [0, 1, 2, 3, 4, 5] rfl
        have hD := hD.sub (ws' := (w_M_makeSides ad a_this a_units a_kinds a_values a_names a_low a_high a_told a_leftOut a_isMade a_hands a_pad a_court a_title a_out k_told k_high k_values k_low k_pad v_this_thrown v_this_size v_this_families v_this_atHand v_this_family v_this_density v_this_pads v_this_hasThermal v_this_titleSize v_this_written v_this_at v_this_begin v_this_words v_this_paste0 v_told v_high v_values v_low v_pad)) [0, 1, 2, 3, 4, 5] (by decide) rfl
        refine lv_lstore (lv' := [(4, .long r9), (0, .ref a_this), (1, .int p1), (2, .long p2)]) hx hb dM_makeSides_53 hl (by decide) rfl (fun ls hl => ?_)
        refine lv_aload_n hx hb dM_makeSides_55 rfl (lv_at hl 1 rfl) ?_
        refine va_get (D := (dC, dI)) (ci := 10) (v := .ref a_low) (C := RM) (T := TM) (N := 28) hx hb hts inZ_M hown hK hP 0 rfl rfl 7 (by decide) (hts _ zw_1051) (fun _ h9 => h9) rfl dM_makeSides_56 ?_
        refine lv_iconst (v := 1) hx hb dM_makeSides_59 (by decide) ?_
        obtain ⟨hn10, h⟩ := h
        refine va_lald hx hb hK hP 4 3 rfl rfl hn10 dM_makeSides_60 ?_
        refine lv_ldc2 (own := RM) (index := 90) (v := 2) hx hb hown (hts _ zw_1179) dM_makeSides_61 ?_
        refine lv_aload_n hx hb dM_makeSides_64 rfl (lv_at hl 1 rfl) ?_
        refine lv_iconst (v := 1) hx hb dM_makeSides_65 (by decide) ?_
        refine zcall_l hP hD hS hA [0, 3] [1, 2, 4, 5] (va_runV (As := [.int 1]) (rest := [.long 2, .long (v_low (1 : Int32).toNatClampNeg)]) ⟨hx, hb, hml, hown, hts⟩ (c_M_of l dC dI ad a_this a_units a_kinds a_values a_names a_low a_high a_told a_leftOut a_isMade a_hands a_pad a_court a_title a_out k_values _ 1 v_this_thrown v_this_size v_this_families v_this_atHand v_this_family v_this_density v_this_pads v_this_hasThermal v_this_titleSize v_this_written v_this_at v_this_begin v_this_words v_this_paste0 v_values _ h) ⟨callB_of 1 hts (zgood zc_M_of) rfl rfl rfl (hts _ zw_107) (hts _ zw_1201) (by decide +kernel) ⟨Nat.le_of_ble_eq_true rfl, Nat.le_of_ble_eq_true rfl⟩, (hts _ zw_1203), (hts _ zw_74)⟩ (zpreV hE hK hP hD hS hA [0, 3] [2] (by rfl) (by rfl) (by decide) (ci := 10) (q0 := 0) rfl (by rfl)) rfl rfl hl.1 rfl (lv_room (Nat.le_of_ble_eq_true rfl)) dM_makeSides_66 ⟨Nat.le_of_ble_eq_true rfl, Nat.le_of_ble_eq_true rfl⟩) (by rfl) (by rfl) (by decide) (by decide) (fun r11 u H locs h hP hD hS => ?_)
        try dsimp only at h
        have hP := hP.sub (ws' := (w_M_makeSides ad a_this a_units a_kinds a_values a_names a_low a_high a_told a_leftOut a_isMade a_hands a_pad a_court a_title a_out k_told k_high k_values k_low k_pad v_this_thrown v_this_size v_this_families v_this_atHand v_this_family v_this_density v_this_pads v_this_hasThermal v_this_titleSize v_this_written v_this_at v_this_begin v_this_words v_this_paste0 v_told v_high v_values v_low v_pad)) [4, 0, 1, 5, 2, 3] rfl
        have hD := hD.sub (ws' := (w_M_makeSides ad a_this a_units a_kinds a_values a_names a_low a_high a_told a_leftOut a_isMade a_hands a_pad a_court a_title a_out k_told k_high k_values k_low k_pad v_this_thrown v_this_size v_this_families v_this_atHand v_this_family v_this_density v_this_pads v_this_hasThermal v_this_titleSize v_this_written v_this_at v_this_begin v_this_words v_this_paste0 v_told v_high v_values v_low v_pad)) [4, 0, 1, 5, 2, 3] (by decide) rfl
        refine lv_lmul hx hb dM_makeSides_69 ?_
        refine lv_lsub hx hb dM_makeSides_70 ?_
        refine lv_ldc2 (own := RM) (index := 90) (v := 2) hx hb hown (hts _ zw_1179) dM_makeSides_71 ?_
        refine lv_lload_n hx hb dM_makeSides_74 rfl (lv_at hl 3 rfl) ?_
        refine lv_lmul hx hb dM_makeSides_75 ?_
        refine zcall_l hP hD hS hA [] [0, 1, 2, 3, 4, 5] (va_runS (As := [.long ((v_low (1 : Int32).toNatClampNeg) - (2 * r11)), .long (2 * p2)]) (rest := []) ⟨hx, hb, hml, hown, hts⟩ (c_M_down l dC dI ad _ ((v_low (1 : Int32).toNatClampNeg) - (2 * r11)) (2 * p2) _ h) ⟨callB_of 2 hts (zgood zc_M_down) rfl rfl rfl (hts _ zw_107) (hts _ zw_1241) (by decide +kernel) ⟨Nat.le_of_ble_eq_true rfl, Nat.le_of_ble_eq_true rfl⟩, (hts _ zw_1242)⟩ (zpreS hE hK hP hD hS hA [] [] (by rfl) (by rfl) (by decide)) rfl rfl hl.1 rfl (lv_room (Nat.le_of_ble_eq_true rfl)) dM_makeSides_76 ⟨Nat.le_of_ble_eq_true rfl, Nat.le_of_ble_eq_true rfl⟩) (by rfl) (by rfl) (by decide) (by decide) (fun r12 u H locs h hP hD hS => ?_)
        try dsimp only at h
        have hP := hP.sub (ws' := (w_M_makeSides ad a_this a_units a_kinds a_values a_names a_low a_high a_told a_leftOut a_isMade a_hands a_pad a_court a_title a_out k_told k_high k_values k_low k_pad v_this_thrown v_this_size v_this_families v_this_atHand v_this_family v_this_density v_this_pads v_this_hasThermal v_this_titleSize v_this_written v_this_at v_this_begin v_this_words v_this_paste0 v_told v_high v_values v_low v_pad)) [0, 1, 2, 3, 4, 5] rfl
        have hD := hD.sub (ws' := (w_M_makeSides ad a_this a_units a_kinds a_values a_names a_low a_high a_told a_leftOut a_isMade a_hands a_pad a_court a_title a_out k_told k_high k_values k_low k_pad v_this_thrown v_this_size v_this_families v_this_atHand v_this_family v_this_density v_this_pads v_this_hasThermal v_this_titleSize v_this_written v_this_at v_this_begin v_this_words v_this_paste0 v_told v_high v_values v_low v_pad)) [0, 1, 2, 3, 4, 5] (by decide) rfl
        refine lv_lstore (lv' := [(6, .long r12), (4, .long r9), (0, .ref a_this), (1, .int p1), (2, .long p2)]) hx hb dM_makeSides_79 hl (by decide) rfl (fun ls hl => ?_)
        refine lv_aload_n hx hb dM_makeSides_81 rfl (lv_at hl 2 rfl) ?_
        refine va_get (D := (dC, dI)) (ci := 10) (v := .ref a_high) (C := RM) (T := TM) (N := 28) hx hb hts inZ_M hown hK hP 0 rfl rfl 8 (by decide) (hts _ zw_1052) (fun _ h9 => h9) rfl dM_makeSides_82 ?_
        refine lv_iconst (v := 2) hx hb dM_makeSides_85 (by decide) ?_
        obtain ⟨hn13, h⟩ := h
        refine va_lald hx hb hK hP 2 1 rfl rfl hn13 dM_makeSides_86 ?_
        refine lv_ldc2 (own := RM) (index := 90) (v := 2) hx hb hown (hts _ zw_1179) dM_makeSides_87 ?_
        refine lv_aload_n hx hb dM_makeSides_90 rfl (lv_at hl 2 rfl) ?_
        refine lv_iconst (v := 2) hx hb dM_makeSides_91 (by decide) ?_
        refine zcall_l hP hD hS hA [0, 3] [1, 2, 4, 5] (va_runV (As := [.int 2]) (rest := [.long 2, .long (v_high (2 : Int32).toNatClampNeg)]) ⟨hx, hb, hml, hown, hts⟩ (c_M_of l dC dI ad a_this a_units a_kinds a_values a_names a_low a_high a_told a_leftOut a_isMade a_hands a_pad a_court a_title a_out k_values _ 2 v_this_thrown v_this_size v_this_families v_this_atHand v_this_family v_this_density v_this_pads v_this_hasThermal v_this_titleSize v_this_written v_this_at v_this_begin v_this_words v_this_paste0 v_values _ h) ⟨callB_of 1 hts (zgood zc_M_of) rfl rfl rfl (hts _ zw_107) (hts _ zw_1201) (by decide +kernel) ⟨Nat.le_of_ble_eq_true rfl, Nat.le_of_ble_eq_true rfl⟩, (hts _ zw_1203), (hts _ zw_74)⟩ (zpreV hE hK hP hD hS hA [0, 3] [2] (by rfl) (by rfl) (by decide) (ci := 10) (q0 := 0) rfl (by rfl)) rfl rfl hl.1 rfl (lv_room (Nat.le_of_ble_eq_true rfl)) dM_makeSides_92 ⟨Nat.le_of_ble_eq_true rfl, Nat.le_of_ble_eq_true rfl⟩) (by rfl) (by rfl) (by decide) (by decide) (fun r14 u H locs h hP hD hS => ?_)
        try dsimp only at h
        have hP := hP.sub (ws' := (w_M_makeSides ad a_this a_units a_kinds a_values a_names a_low a_high a_told a_leftOut a_isMade a_hands a_pad a_court a_title a_out k_told k_high k_values k_low k_pad v_this_thrown v_this_size v_this_families v_this_atHand v_this_family v_this_density v_this_pads v_this_hasThermal v_this_titleSize v_this_written v_this_at v_this_begin v_this_words v_this_paste0 v_told v_high v_values v_low v_pad)) [4, 0, 1, 5, 2, 3] rfl
        have hD := hD.sub (ws' := (w_M_makeSides ad a_this a_units a_kinds a_values a_names a_low a_high a_told a_leftOut a_isMade a_hands a_pad a_court a_title a_out k_told k_high k_values k_low k_pad v_this_thrown v_this_size v_this_families v_this_atHand v_this_family v_this_density v_this_pads v_this_hasThermal v_this_titleSize v_this_written v_this_at v_this_begin v_this_words v_this_paste0 v_told v_high v_values v_low v_pad)) [4, 0, 1, 5, 2, 3] (by decide) rfl
        refine lv_lmul hx hb dM_makeSides_95 ?_
        refine lv_ladd hx hb dM_makeSides_96 ?_
        refine lv_ldc2 (own := RM) (index := 90) (v := 2) hx hb hown (hts _ zw_1179) dM_makeSides_97 ?_
        refine lv_lload_n hx hb dM_makeSides_100 rfl (lv_at hl 4 rfl) ?_
        refine lv_lmul hx hb dM_makeSides_101 ?_
        refine zcall_l hP hD hS hA [] [0, 1, 2, 3, 4, 5] (va_runS (As := [.long ((v_high (2 : Int32).toNatClampNeg) + (2 * r14)), .long (2 * p2)]) (rest := []) ⟨hx, hb, hml, hown, hts⟩ (c_M_up l dC dI ad _ ((v_high (2 : Int32).toNatClampNeg) + (2 * r14)) (2 * p2) _ h) ⟨callB_of 2 hts (zgood zc_M_up) rfl rfl rfl (hts _ zw_107) (hts _ zw_1218) (by decide +kernel) ⟨Nat.le_of_ble_eq_true rfl, Nat.le_of_ble_eq_true rfl⟩, (hts _ zw_1219)⟩ (zpreS hE hK hP hD hS hA [] [] (by rfl) (by rfl) (by decide)) rfl rfl hl.1 rfl (lv_room (Nat.le_of_ble_eq_true rfl)) dM_makeSides_102 ⟨Nat.le_of_ble_eq_true rfl, Nat.le_of_ble_eq_true rfl⟩) (by rfl) (by rfl) (by decide) (by decide) (fun r15 u H locs h hP hD hS => ?_)
        try dsimp only at h
        have hP := hP.sub (ws' := (w_M_makeSides ad a_this a_units a_kinds a_values a_names a_low a_high a_told a_leftOut a_isMade a_hands a_pad a_court a_title a_out k_told k_high k_values k_low k_pad v_this_thrown v_this_size v_this_families v_this_atHand v_this_family v_this_density v_this_pads v_this_hasThermal v_this_titleSize v_this_written v_this_at v_this_begin v_this_words v_this_paste0 v_told v_high v_values v_low v_pad)) [0, 1, 2, 3, 4, 5] rfl
        have hD := hD.sub (ws' := (w_M_makeSides ad a_this a_units a_kinds a_values a_names a_low a_high a_told a_leftOut a_isMade a_hands a_pad a_court a_title a_out k_told k_high k_values k_low k_pad v_this_thrown v_this_size v_this_families v_this_atHand v_this_family v_this_density v_this_pads v_this_hasThermal v_this_titleSize v_this_written v_this_at v_this_begin v_this_words v_this_paste0 v_told v_high v_values v_low v_pad)) [0, 1, 2, 3, 4, 5] (by decide) rfl
        refine lv_lstore (lv' := [(8, .long r15), (6, .long r12), (4, .long r9), (0, .ref a_this), (1, .int p1), (2, .long p2)]) hx hb dM_makeSides_105 hl (by decide) rfl (fun ls hl => ?_)
        refine lv_lload hx hb dM_makeSides_107 (lv_at hl 1 rfl) ?_
        refine lv_lconst (v := 0) hx hb dM_makeSides_109 (by decide) ?_
        refine zz_lcmp_le (tgt := 129) hx hb dM_makeSides_110 dM_makeSides_111 (by decide) ?_ ?_
        · intro c16
          replace h := h.1 c16
          refine lv_iconst (v := 0) hx hb dM_makeSides_129 (by decide) ?_
          exact W.zret (v := 0) hx hb hr rfl (fun t ht hW => ⟨⟨0, (v_this_pads, v_this_hasThermal, v_pad), rfl, h, by rw [ht]; exact hP, hD⟩, hS.F ht⟩) hS.2.2 dM_makeSides_130
        · intro c16
          replace h := h.2 c16
          refine lv_lload hx hb dM_makeSides_114 (lv_at hl 2 rfl) ?_
          refine lv_lload hx hb dM_makeSides_116 (lv_at hl 1 rfl) ?_
          refine zz_lcmp_le (tgt := 129) hx hb dM_makeSides_118 dM_makeSides_119 (by decide) ?_ ?_
          · intro c17
            replace h := h.1 c17
            refine lv_iconst (v := 0) hx hb dM_makeSides_129 (by decide) ?_
            exact W.zret (v := 0) hx hb hr rfl (fun t ht hW => ⟨⟨0, (v_this_pads, v_this_hasThermal, v_pad), rfl, h, by rw [ht]; exact hP, hD⟩, hS.F ht⟩) hS.2.2 dM_makeSides_130
          · intro c17
            replace h := h.2 c17
            refine lv_lload hx hb dM_makeSides_122 (lv_at hl 0 rfl) ?_
            refine lv_lconst (v := 0) hx hb dM_makeSides_124 (by decide) ?_
            refine zz_lcmp_gt (tgt := 131) hx hb dM_makeSides_125 dM_makeSides_126 (by decide) ?_ ?_
            · intro c18
              replace h := h.1 c18
              refine lv_iload_n hx hb dM_makeSides_131 rfl (lv_at hl 4 rfl) ?_
              refine lv_if_ne (tgt := 139) hx hb dM_makeSides_132 (by decide) ?_ ?_
              · intro c19
                replace h := h.1 c19
                refine lv_aload_n hx hb dM_makeSides_139 rfl (lv_at hl 3 rfl) ?_
                refine va_get (D := (dC, dI)) (ci := 10) (v := .ref a_high) (C := RM) (T := TM) (N := 28) hx hb hts inZ_M hown hK hP 0 rfl rfl 8 (by decide) (hts _ zw_1052) (fun _ h9 => h9) rfl dM_makeSides_140 ?_
                refine lv_iconst (v := 3) hx hb dM_makeSides_143 (by decide) ?_
                obtain ⟨hn20, h⟩ := h
                refine va_lald hx hb hK hP 2 1 rfl rfl hn20 dM_makeSides_144 ?_
                exact w_M_makeSides_145 l C0 hE a_this a_units a_kinds a_values a_names a_low a_high a_told a_leftOut a_isMade a_hands a_pad a_court a_title a_out k_told k_high k_values k_low k_pad p1 p2 v_this_thrown v_this_size v_this_families v_this_atHand v_this_family v_this_density v_this_pads v_this_hasThermal v_this_titleSize v_this_written v_this_at v_this_begin v_this_words v_this_paste0 v_told v_high v_values v_low v_pad post hK r9 r12 r15 (v_high (3 : Int32).toNatClampNeg) _ _ h hP hD hS ls (lv_sub hl [3, 4, 5, 2, 1, 0] rfl)
              · intro c19
                replace h := h.2 c19
                refine lv_lconst (v := 0) hx hb dM_makeSides_135 (by decide) ?_
                refine lv_goto (tgt := 145) hx hb dM_makeSides_136 (by decide) ?_
                exact w_M_makeSides_145 l C0 hE a_this a_units a_kinds a_values a_names a_low a_high a_told a_leftOut a_isMade a_hands a_pad a_court a_title a_out k_told k_high k_values k_low k_pad p1 p2 v_this_thrown v_this_size v_this_families v_this_atHand v_this_family v_this_density v_this_pads v_this_hasThermal v_this_titleSize v_this_written v_this_at v_this_begin v_this_words v_this_paste0 v_told v_high v_values v_low v_pad post hK r9 r12 r15 0 _ _ h hP hD hS ls (lv_sub hl [3, 4, 5, 2, 1, 0] rfl)
            · intro c18
              replace h := h.2 c18
              refine lv_iconst (v := 0) hx hb dM_makeSides_129 (by decide) ?_
              exact W.zret (v := 0) hx hb hr rfl (fun t ht hW => ⟨⟨0, (v_this_pads, v_this_hasThermal, v_pad), rfl, h, by rw [ht]; exact hP, hD⟩, hS.F ht⟩) hS.2.2 dM_makeSides_130
      · intro c6
        replace h := h.2 c6
        refine lv_iconst (v := 0) hx hb dM_makeSides_27 (by decide) ?_
        exact W.zret (v := 0) hx hb hr rfl (fun t ht hW => ⟨⟨0, (v_this_pads, v_this_hasThermal, v_pad), rfl, h, by rw [ht]; exact hP, hD⟩, hS.F ht⟩) hS.2.2 dM_makeSides_28
