abbrev yM_makeBalls : MethodName := ⟨"FootprintRulesModel", "makeBalls", "(J)Z"⟩
abbrev cM_makeBalls : ByteArray := prog_14_method_28_code
abbrev wsM_makeBalls : List Cond := .code yM_makeBalls cM_makeBalls 11 (some .boolean) :: zT
set_option maxRecDepth 100000 in
theorem zc_M_makeBalls : Cond.code yM_makeBalls cM_makeBalls 11 (some .boolean) ∈ zT := zm 1208 (by rfl) (by rfl)
theorem dM_makeBalls_0 : decode cM_makeBalls 0 = .ok (.aload_n 0, 1) := by decide +kernel
theorem dM_makeBalls_1 : decode cM_makeBalls 1 = .ok (.invokevirtual 152, 3) := by decide +kernel
theorem dM_makeBalls_4 : decode cM_makeBalls 4 = .ok (.ifCond .eq 34, 3) := by decide +kernel
theorem dM_makeBalls_7 : decode cM_makeBalls 7 = .ok (.aload_n 0, 1) := by decide +kernel
theorem dM_makeBalls_8 : decode cM_makeBalls 8 = .ok (.iconst 5, 1) := by decide +kernel
theorem dM_makeBalls_9 : decode cM_makeBalls 9 = .ok (.invokevirtual 137, 3) := by decide +kernel
theorem dM_makeBalls_12 : decode cM_makeBalls 12 = .ok (.ifCond .eq 26, 3) := by decide +kernel
theorem dM_makeBalls_15 : decode cM_makeBalls 15 = .ok (.aload_n 0, 1) := by decide +kernel
theorem dM_makeBalls_16 : decode cM_makeBalls 16 = .ok (.bipush 6, 2) := by decide +kernel
theorem dM_makeBalls_18 : decode cM_makeBalls 18 = .ok (.invokevirtual 137, 3) := by decide +kernel
theorem dM_makeBalls_21 : decode cM_makeBalls 21 = .ok (.ifCond .eq 17, 3) := by decide +kernel
theorem dM_makeBalls_24 : decode cM_makeBalls 24 = .ok (.aload_n 0, 1) := by decide +kernel
theorem dM_makeBalls_25 : decode cM_makeBalls 25 = .ok (.getfield 29, 3) := by decide +kernel
theorem dM_makeBalls_28 : decode cM_makeBalls 28 = .ok (.bipush 7, 2) := by decide +kernel
theorem dM_makeBalls_30 : decode cM_makeBalls 30 = .ok (.baload, 1) := by decide +kernel
theorem dM_makeBalls_31 : decode cM_makeBalls 31 = .ok (.ifCond .eq 7, 3) := by decide +kernel
theorem dM_makeBalls_34 : decode cM_makeBalls 34 = .ok (.iconst 1, 1) := by decide +kernel
theorem dM_makeBalls_35 : decode cM_makeBalls 35 = .ok (.goto 4, 3) := by decide +kernel
theorem dM_makeBalls_38 : decode cM_makeBalls 38 = .ok (.iconst 0, 1) := by decide +kernel
theorem dM_makeBalls_39 : decode cM_makeBalls 39 = .ok (.istore_n 3, 1) := by decide +kernel
theorem dM_makeBalls_40 : decode cM_makeBalls 40 = .ok (.iload_n 3, 1) := by decide +kernel
theorem dM_makeBalls_41 : decode cM_makeBalls 41 = .ok (.ifCond .eq 57, 3) := by decide +kernel
theorem dM_makeBalls_44 : decode cM_makeBalls 44 = .ok (.aload_n 0, 1) := by decide +kernel
theorem dM_makeBalls_45 : decode cM_makeBalls 45 = .ok (.getfield 26, 3) := by decide +kernel
theorem dM_makeBalls_48 : decode cM_makeBalls 48 = .ok (.iconst 5, 1) := by decide +kernel
theorem dM_makeBalls_49 : decode cM_makeBalls 49 = .ok (.laload, 1) := by decide +kernel
theorem dM_makeBalls_50 : decode cM_makeBalls 50 = .ok (.lconst 1, 1) := by decide +kernel
theorem dM_makeBalls_51 : decode cM_makeBalls 51 = .ok (.lcmp, 1) := by decide +kernel
theorem dM_makeBalls_52 : decode cM_makeBalls 52 = .ok (.ifCond .lt 46, 3) := by decide +kernel
theorem dM_makeBalls_55 : decode cM_makeBalls 55 = .ok (.aload_n 0, 1) := by decide +kernel
theorem dM_makeBalls_56 : decode cM_makeBalls 56 = .ok (.getfield 26, 3) := by decide +kernel
theorem dM_makeBalls_59 : decode cM_makeBalls 59 = .ok (.iconst 5, 1) := by decide +kernel
theorem dM_makeBalls_60 : decode cM_makeBalls 60 = .ok (.laload, 1) := by decide +kernel
theorem dM_makeBalls_61 : decode cM_makeBalls 61 = .ok (.ldc2_w 175, 3) := by decide +kernel
theorem dM_makeBalls_64 : decode cM_makeBalls 64 = .ok (.lcmp, 1) := by decide +kernel
theorem dM_makeBalls_65 : decode cM_makeBalls 65 = .ok (.ifCond .gt 33, 3) := by decide +kernel
theorem dM_makeBalls_68 : decode cM_makeBalls 68 = .ok (.aload_n 0, 1) := by decide +kernel
theorem dM_makeBalls_69 : decode cM_makeBalls 69 = .ok (.getfield 26, 3) := by decide +kernel
theorem dM_makeBalls_72 : decode cM_makeBalls 72 = .ok (.bipush 6, 2) := by decide +kernel
theorem dM_makeBalls_74 : decode cM_makeBalls 74 = .ok (.laload, 1) := by decide +kernel
theorem dM_makeBalls_75 : decode cM_makeBalls 75 = .ok (.lconst 1, 1) := by decide +kernel
theorem dM_makeBalls_76 : decode cM_makeBalls 76 = .ok (.lcmp, 1) := by decide +kernel
theorem dM_makeBalls_77 : decode cM_makeBalls 77 = .ok (.ifCond .lt 21, 3) := by decide +kernel
theorem dM_makeBalls_80 : decode cM_makeBalls 80 = .ok (.aload_n 0, 1) := by decide +kernel
theorem dM_makeBalls_81 : decode cM_makeBalls 81 = .ok (.getfield 26, 3) := by decide +kernel
theorem dM_makeBalls_84 : decode cM_makeBalls 84 = .ok (.bipush 6, 2) := by decide +kernel
theorem dM_makeBalls_86 : decode cM_makeBalls 86 = .ok (.laload, 1) := by decide +kernel
theorem dM_makeBalls_87 : decode cM_makeBalls 87 = .ok (.ldc2_w 175, 3) := by decide +kernel
theorem dM_makeBalls_90 : decode cM_makeBalls 90 = .ok (.lcmp, 1) := by decide +kernel
theorem dM_makeBalls_91 : decode cM_makeBalls 91 = .ok (.ifCond .gt 7, 3) := by decide +kernel
theorem dM_makeBalls_94 : decode cM_makeBalls 94 = .ok (.iconst 1, 1) := by decide +kernel
theorem dM_makeBalls_95 : decode cM_makeBalls 95 = .ok (.goto 4, 3) := by decide +kernel
theorem dM_makeBalls_98 : decode cM_makeBalls 98 = .ok (.iconst 0, 1) := by decide +kernel
theorem dM_makeBalls_99 : decode cM_makeBalls 99 = .ok (.istore_n 3, 1) := by decide +kernel
theorem dM_makeBalls_100 : decode cM_makeBalls 100 = .ok (.iload_n 3, 1) := by decide +kernel
theorem dM_makeBalls_101 : decode cM_makeBalls 101 = .ok (.ifCond .ne 5, 3) := by decide +kernel
theorem dM_makeBalls_104 : decode cM_makeBalls 104 = .ok (.iconst 0, 1) := by decide +kernel
theorem dM_makeBalls_105 : decode cM_makeBalls 105 = .ok (.ireturn, 1) := by decide +kernel
theorem dM_makeBalls_106 : decode cM_makeBalls 106 = .ok (.aload_n 0, 1) := by decide +kernel
theorem dM_makeBalls_107 : decode cM_makeBalls 107 = .ok (.getfield 26, 3) := by decide +kernel
theorem dM_makeBalls_110 : decode cM_makeBalls 110 = .ok (.bipush 7, 2) := by decide +kernel
theorem dM_makeBalls_112 : decode cM_makeBalls 112 = .ok (.laload, 1) := by decide +kernel
theorem dM_makeBalls_113 : decode cM_makeBalls 113 = .ok (.ldc2_w 90, 3) := by decide +kernel
theorem dM_makeBalls_116 : decode cM_makeBalls 116 = .ok (.aload_n 0, 1) := by decide +kernel
theorem dM_makeBalls_117 : decode cM_makeBalls 117 = .ok (.iconst 2, 1) := by decide +kernel
theorem dM_makeBalls_118 : decode cM_makeBalls 118 = .ok (.invokevirtual 142, 3) := by decide +kernel
theorem dM_makeBalls_121 : decode cM_makeBalls 121 = .ok (.lmul, 1) := by decide +kernel
theorem dM_makeBalls_122 : decode cM_makeBalls 122 = .ok (.ladd, 1) := by decide +kernel
theorem dM_makeBalls_123 : decode cM_makeBalls 123 = .ok (.ldc2_w 90, 3) := by decide +kernel
theorem dM_makeBalls_126 : decode cM_makeBalls 126 = .ok (.lload_n 1, 1) := by decide +kernel
theorem dM_makeBalls_127 : decode cM_makeBalls 127 = .ok (.lmul, 1) := by decide +kernel
theorem dM_makeBalls_128 : decode cM_makeBalls 128 = .ok (.invokestatic 145, 3) := by decide +kernel
theorem dM_makeBalls_131 : decode cM_makeBalls 131 = .ok (.lstore 4, 2) := by decide +kernel
theorem dM_makeBalls_133 : decode cM_makeBalls 133 = .ok (.lload 4, 2) := by decide +kernel
theorem dM_makeBalls_135 : decode cM_makeBalls 135 = .ok (.lconst 0, 1) := by decide +kernel
theorem dM_makeBalls_136 : decode cM_makeBalls 136 = .ok (.lcmp, 1) := by decide +kernel
theorem dM_makeBalls_137 : decode cM_makeBalls 137 = .ok (.ifCond .le 15, 3) := by decide +kernel
theorem dM_makeBalls_140 : decode cM_makeBalls 140 = .ok (.lload 4, 2) := by decide +kernel
theorem dM_makeBalls_142 : decode cM_makeBalls 142 = .ok (.aload_n 0, 1) := by decide +kernel
theorem dM_makeBalls_143 : decode cM_makeBalls 143 = .ok (.getfield 26, 3) := by decide +kernel
theorem dM_makeBalls_146 : decode cM_makeBalls 146 = .ok (.iconst 3, 1) := by decide +kernel
theorem dM_makeBalls_147 : decode cM_makeBalls 147 = .ok (.laload, 1) := by decide +kernel
theorem dM_makeBalls_148 : decode cM_makeBalls 148 = .ok (.lcmp, 1) := by decide +kernel
theorem dM_makeBalls_149 : decode cM_makeBalls 149 = .ok (.ifCond .lt 5, 3) := by decide +kernel
theorem dM_makeBalls_152 : decode cM_makeBalls 152 = .ok (.iconst 0, 1) := by decide +kernel
theorem dM_makeBalls_153 : decode cM_makeBalls 153 = .ok (.ireturn, 1) := by decide +kernel
theorem dM_makeBalls_154 : decode cM_makeBalls 154 = .ok (.lconst 0, 1) := by decide +kernel
theorem dM_makeBalls_155 : decode cM_makeBalls 155 = .ok (.lstore 6, 2) := by decide +kernel
theorem dM_makeBalls_157 : decode cM_makeBalls 157 = .ok (.lload 6, 2) := by decide +kernel
theorem dM_makeBalls_159 : decode cM_makeBalls 159 = .ok (.aload_n 0, 1) := by decide +kernel
theorem dM_makeBalls_160 : decode cM_makeBalls 160 = .ok (.getfield 26, 3) := by decide +kernel
theorem dM_makeBalls_163 : decode cM_makeBalls 163 = .ok (.iconst 5, 1) := by decide +kernel
theorem dM_makeBalls_164 : decode cM_makeBalls 164 = .ok (.laload, 1) := by decide +kernel
theorem dM_makeBalls_165 : decode cM_makeBalls 165 = .ok (.lcmp, 1) := by decide +kernel
theorem dM_makeBalls_166 : decode cM_makeBalls 166 = .ok (.ifCond .ge 135, 3) := by decide +kernel
theorem dM_makeBalls_169 : decode cM_makeBalls 169 = .ok (.lconst 0, 1) := by decide +kernel
theorem dM_makeBalls_170 : decode cM_makeBalls 170 = .ok (.lstore 8, 2) := by decide +kernel
theorem dM_makeBalls_172 : decode cM_makeBalls 172 = .ok (.lload 8, 2) := by decide +kernel
theorem dM_makeBalls_174 : decode cM_makeBalls 174 = .ok (.aload_n 0, 1) := by decide +kernel
theorem dM_makeBalls_175 : decode cM_makeBalls 175 = .ok (.getfield 26, 3) := by decide +kernel
theorem dM_makeBalls_178 : decode cM_makeBalls 178 = .ok (.bipush 6, 2) := by decide +kernel
theorem dM_makeBalls_180 : decode cM_makeBalls 180 = .ok (.laload, 1) := by decide +kernel
theorem dM_makeBalls_181 : decode cM_makeBalls 181 = .ok (.lcmp, 1) := by decide +kernel
theorem dM_makeBalls_182 : decode cM_makeBalls 182 = .ok (.ifCond .ge 110, 3) := by decide +kernel
theorem dM_makeBalls_185 : decode cM_makeBalls 185 = .ok (.lload 6, 2) := by decide +kernel
theorem dM_makeBalls_187 : decode cM_makeBalls 187 = .ok (.aload_n 0, 1) := by decide +kernel
theorem dM_makeBalls_188 : decode cM_makeBalls 188 = .ok (.getfield 26, 3) := by decide +kernel
theorem dM_makeBalls_191 : decode cM_makeBalls 191 = .ok (.bipush 6, 2) := by decide +kernel
theorem dM_makeBalls_193 : decode cM_makeBalls 193 = .ok (.laload, 1) := by decide +kernel
theorem dM_makeBalls_194 : decode cM_makeBalls 194 = .ok (.lmul, 1) := by decide +kernel
theorem dM_makeBalls_195 : decode cM_makeBalls 195 = .ok (.lload 8, 2) := by decide +kernel
theorem dM_makeBalls_197 : decode cM_makeBalls 197 = .ok (.ladd, 1) := by decide +kernel
theorem dM_makeBalls_198 : decode cM_makeBalls 198 = .ok (.l2i, 1) := by decide +kernel
theorem dM_makeBalls_199 : decode cM_makeBalls 199 = .ok (.iconst 1, 1) := by decide +kernel
theorem dM_makeBalls_200 : decode cM_makeBalls 200 = .ok (.iadd, 1) := by decide +kernel
theorem dM_makeBalls_201 : decode cM_makeBalls 201 = .ok (.istore 10, 2) := by decide +kernel
theorem dM_makeBalls_203 : decode cM_makeBalls 203 = .ok (.aload_n 0, 1) := by decide +kernel
theorem dM_makeBalls_204 : decode cM_makeBalls 204 = .ok (.getfield 33, 3) := by decide +kernel
theorem dM_makeBalls_207 : decode cM_makeBalls 207 = .ok (.iload 10, 2) := by decide +kernel
theorem dM_makeBalls_209 : decode cM_makeBalls 209 = .ok (.baload, 1) := by decide +kernel
theorem dM_makeBalls_210 : decode cM_makeBalls 210 = .ok (.ifCond .ne 73, 3) := by decide +kernel
theorem dM_makeBalls_213 : decode cM_makeBalls 213 = .ok (.aload_n 0, 1) := by decide +kernel
theorem dM_makeBalls_214 : decode cM_makeBalls 214 = .ok (.iload 10, 2) := by decide +kernel
theorem dM_makeBalls_216 : decode cM_makeBalls 216 = .ok (.aload_n 0, 1) := by decide +kernel
theorem dM_makeBalls_217 : decode cM_makeBalls 217 = .ok (.getfield 26, 3) := by decide +kernel
theorem dM_makeBalls_220 : decode cM_makeBalls 220 = .ok (.bipush 6, 2) := by decide +kernel
theorem dM_makeBalls_222 : decode cM_makeBalls 222 = .ok (.laload, 1) := by decide +kernel
theorem dM_makeBalls_223 : decode cM_makeBalls 223 = .ok (.lload 8, 2) := by decide +kernel
theorem dM_makeBalls_225 : decode cM_makeBalls 225 = .ok (.aload_n 0, 1) := by decide +kernel
theorem dM_makeBalls_226 : decode cM_makeBalls 226 = .ok (.getfield 26, 3) := by decide +kernel
theorem dM_makeBalls_229 : decode cM_makeBalls 229 = .ok (.iconst 3, 1) := by decide +kernel
theorem dM_makeBalls_230 : decode cM_makeBalls 230 = .ok (.laload, 1) := by decide +kernel
theorem dM_makeBalls_231 : decode cM_makeBalls 231 = .ok (.invokestatic 161, 3) := by decide +kernel
theorem dM_makeBalls_234 : decode cM_makeBalls 234 = .ok (.lload 4, 2) := by decide +kernel
theorem dM_makeBalls_236 : decode cM_makeBalls 236 = .ok (.ldc2_w 90, 3) := by decide +kernel
theorem dM_makeBalls_239 : decode cM_makeBalls 239 = .ok (.ldiv, 1) := by decide +kernel
theorem dM_makeBalls_240 : decode cM_makeBalls 240 = .ok (.lsub, 1) := by decide +kernel
theorem dM_makeBalls_241 : decode cM_makeBalls 241 = .ok (.aload_n 0, 1) := by decide +kernel
theorem dM_makeBalls_242 : decode cM_makeBalls 242 = .ok (.getfield 26, 3) := by decide +kernel
theorem dM_makeBalls_245 : decode cM_makeBalls 245 = .ok (.iconst 5, 1) := by decide +kernel
theorem dM_makeBalls_246 : decode cM_makeBalls 246 = .ok (.laload, 1) := by decide +kernel
theorem dM_makeBalls_247 : decode cM_makeBalls 247 = .ok (.aload_n 0, 1) := by decide +kernel
theorem dM_makeBalls_248 : decode cM_makeBalls 248 = .ok (.getfield 26, 3) := by decide +kernel
theorem dM_makeBalls_251 : decode cM_makeBalls 251 = .ok (.iconst 5, 1) := by decide +kernel
theorem dM_makeBalls_252 : decode cM_makeBalls 252 = .ok (.laload, 1) := by decide +kernel
theorem dM_makeBalls_253 : decode cM_makeBalls 253 = .ok (.lconst 1, 1) := by decide +kernel
theorem dM_makeBalls_254 : decode cM_makeBalls 254 = .ok (.lsub, 1) := by decide +kernel
theorem dM_makeBalls_255 : decode cM_makeBalls 255 = .ok (.lload 6, 2) := by decide +kernel
theorem dM_makeBalls_257 : decode cM_makeBalls 257 = .ok (.lsub, 1) := by decide +kernel
theorem dM_makeBalls_258 : decode cM_makeBalls 258 = .ok (.aload_n 0, 1) := by decide +kernel
theorem dM_makeBalls_259 : decode cM_makeBalls 259 = .ok (.getfield 26, 3) := by decide +kernel
theorem dM_makeBalls_262 : decode cM_makeBalls 262 = .ok (.iconst 3, 1) := by decide +kernel
theorem dM_makeBalls_263 : decode cM_makeBalls 263 = .ok (.laload, 1) := by decide +kernel
theorem dM_makeBalls_264 : decode cM_makeBalls 264 = .ok (.invokestatic 161, 3) := by decide +kernel
theorem dM_makeBalls_267 : decode cM_makeBalls 267 = .ok (.lload 4, 2) := by decide +kernel
theorem dM_makeBalls_269 : decode cM_makeBalls 269 = .ok (.ldc2_w 90, 3) := by decide +kernel
theorem dM_makeBalls_272 : decode cM_makeBalls 272 = .ok (.ldiv, 1) := by decide +kernel
theorem dM_makeBalls_273 : decode cM_makeBalls 273 = .ok (.lsub, 1) := by decide +kernel
theorem dM_makeBalls_274 : decode cM_makeBalls 274 = .ok (.lload 4, 2) := by decide +kernel
theorem dM_makeBalls_276 : decode cM_makeBalls 276 = .ok (.lload 4, 2) := by decide +kernel
theorem dM_makeBalls_278 : decode cM_makeBalls 278 = .ok (.iconst 1, 1) := by decide +kernel
theorem dM_makeBalls_279 : decode cM_makeBalls 279 = .ok (.lconst 0, 1) := by decide +kernel
theorem dM_makeBalls_280 : decode cM_makeBalls 280 = .ok (.invokevirtual 165, 3) := by decide +kernel
theorem dM_makeBalls_283 : decode cM_makeBalls 283 = .ok (.lload 8, 2) := by decide +kernel
theorem dM_makeBalls_285 : decode cM_makeBalls 285 = .ok (.lconst 1, 1) := by decide +kernel
theorem dM_makeBalls_286 : decode cM_makeBalls 286 = .ok (.ladd, 1) := by decide +kernel
theorem dM_makeBalls_287 : decode cM_makeBalls 287 = .ok (.lstore 8, 2) := by decide +kernel
theorem dM_makeBalls_289 : decode cM_makeBalls 289 = .ok (.goto (-117), 3) := by decide +kernel
theorem dM_makeBalls_292 : decode cM_makeBalls 292 = .ok (.lload 6, 2) := by decide +kernel
theorem dM_makeBalls_294 : decode cM_makeBalls 294 = .ok (.lconst 1, 1) := by decide +kernel
theorem dM_makeBalls_295 : decode cM_makeBalls 295 = .ok (.ladd, 1) := by decide +kernel
theorem dM_makeBalls_296 : decode cM_makeBalls 296 = .ok (.lstore 6, 2) := by decide +kernel
theorem dM_makeBalls_298 : decode cM_makeBalls 298 = .ok (.goto (-141), 3) := by decide +kernel
theorem dM_makeBalls_301 : decode cM_makeBalls 301 = .ok (.aload_n 0, 1) := by decide +kernel
theorem dM_makeBalls_302 : decode cM_makeBalls 302 = .ok (.getfield 134, 3) := by decide +kernel
theorem dM_makeBalls_305 : decode cM_makeBalls 305 = .ok (.ifCond .le 7, 3) := by decide +kernel
theorem dM_makeBalls_308 : decode cM_makeBalls 308 = .ok (.iconst 1, 1) := by decide +kernel
theorem dM_makeBalls_309 : decode cM_makeBalls 309 = .ok (.goto 4, 3) := by decide +kernel
theorem dM_makeBalls_312 : decode cM_makeBalls 312 = .ok (.iconst 0, 1) := by decide +kernel
theorem dM_makeBalls_313 : decode cM_makeBalls 313 = .ok (.ireturn, 1) := by decide +kernel
-- FootprintRulesModel.makeBalls(J)Z
abbrev w_M_makeBalls (ad : Nat → Nat → Nat) (a_this : Nat) (a_units : Nat) (a_kinds : Nat) (a_values : Nat) (a_names : Nat) (a_low : Nat) (a_high : Nat) (a_told : Nat) (a_leftOut : Nat) (a_isMade : Nat) (a_hands : Nat) (a_pad : Nat) (a_court : Nat) (a_title : Nat) (a_out : Nat) (k_told : ClassId) (k_low : ClassId) (k_high : ClassId) (k_values : ClassId) (k_leftOut : ClassId) (k_pad : ClassId) (v_this_thrown : Int32) (v_this_size : Int32) (v_this_families : Int32) (v_this_atHand : Int32) (v_this_family : Int32) (v_this_density : Int32) (v_this_pads : Int32) (v_this_hasThermal : Int32) (v_this_titleSize : Int32) (v_this_written : Int32) (v_this_at : Int32) (v_this_begin : Int32) (v_this_words : Int32) (v_this_paste0 : Int64) (v_told : Nat → Int32) (v_low : Nat → Int64) (v_high : Nat → Int64) (v_values : Nat → Int64) (v_leftOut : Nat → Int32) (v_pad : Nat → Int64) : va_W := [(a_this, .inr (10, [.int v_this_thrown, .ref a_units, .int v_this_size, .int v_this_families, .ref a_kinds, .ref a_values, .ref a_names, .ref a_low, .ref a_high, .ref a_told, .ref a_leftOut, .ref a_isMade, .ref a_hands, .int v_this_atHand, .int v_this_family, .int v_this_density, .int v_this_pads, .ref a_pad, .ref a_court, .int v_this_hasThermal, .ref a_title, .int v_this_titleSize, .ref a_out, .int v_this_written, .int v_this_at, .int v_this_begin, .int v_this_words, .long v_this_paste0])), (a_told, .inl (k_told, 12, .inl v_told)), (a_low, .inl (k_low, 12, .inr (.inl v_low))), (a_high, .inl (k_high, 12, .inr (.inl v_high))), (a_values, .inl (k_values, 240, .inr (.inl v_values))), (a_leftOut, .inl (k_leftOut, 65, .inl v_leftOut)), (a_pad, .inl (k_pad, 455, .inr (.inl v_pad)))]
def P_M_makeBalls_283  (post : Int32 → Int32 → (Nat → Int64) → Prop) (K172 : Int64 → Int64 → Int64 → Int32 → (Nat → Int64) → Prop) (y4 : Int64) (y6 : Int64) (y8 : Int64) (u_this_pads : Int32) (u_pad : Nat → Int64) : Prop := ∀ x1 : Int64, x1 = y8 + 1 → K172 y4 y6 x1 u_this_pads u_pad
set_option maxHeartbeats 4000000 in
set_option maxRecDepth 100000 in
theorem w_M_makeBalls_283 (l : Launch) {p : Program} {e : Env} {s : State} {m : MethodId} {args : Array Value} {below : List Frame} {meth : Method} {c : Code} {dC : Nat → ClassId} {dI : Nat → Nat → Nat} {ad : Nat → Nat → Nat} {A : Nat → Prop} (C0 : zC p s m args meth c cM_makeBalls 11 RM zT (some .boolean) A) (hE : zE ad A s) (a_this : Nat) (a_units : Nat) (a_kinds : Nat) (a_values : Nat) (a_names : Nat) (a_low : Nat) (a_high : Nat) (a_told : Nat) (a_leftOut : Nat) (a_isMade : Nat) (a_hands : Nat) (a_pad : Nat) (a_court : Nat) (a_title : Nat) (a_out : Nat) (k_told : ClassId) (k_low : ClassId) (k_high : ClassId) (k_values : ClassId) (k_leftOut : ClassId) (k_pad : ClassId) (p1 : Int64) (v_this_thrown : Int32) (v_this_size : Int32) (v_this_families : Int32) (v_this_atHand : Int32) (v_this_family : Int32) (v_this_density : Int32) (v_this_pads : Int32) (v_this_hasThermal : Int32) (v_this_titleSize : Int32) (v_this_written : Int32) (v_this_at : Int32) (v_this_begin : Int32) (v_this_words : Int32) (v_this_paste0 : Int64) (v_told : Nat → Int32) (v_low : Nat → Int64) (v_high : Nat → Int64) (v_values : Nat → Int64) (v_leftOut : Nat → Int32) (v_pad : Nat → Int64) (post : Int32 → Int32 → (Nat → Int64) → Prop) (K172 : Int64 → Int64 → Int64 → Int32 → (Nat → Int64) → Prop) (hK172 : ∀ (y4 : Int64) (y6 : Int64) (y8 : Int64) (u_this_pads : Int32) (u_pad : Nat → Int64) (H : Heap) (locs : List Loc), K172 y4 y6 y8 u_this_pads u_pad → va_P (dC, dI) vwCl (w_M_makeBalls ad a_this a_units a_kinds a_values a_names a_low a_high a_told a_leftOut a_isMade a_hands a_pad a_court a_title a_out k_told k_low k_high k_values k_leftOut k_pad v_this_thrown v_this_size v_this_families v_this_atHand v_this_family v_this_density u_this_pads v_this_hasThermal v_this_titleSize v_this_written v_this_at v_this_begin v_this_words v_this_paste0 v_told v_low v_high v_values v_leftOut u_pad) H → va_D A (w_M_makeBalls ad a_this a_units a_kinds a_values a_names a_low a_high a_told a_leftOut a_isMade a_hands a_pad a_court a_title a_out k_told k_low k_high k_values k_leftOut k_pad v_this_thrown v_this_size v_this_families v_this_atHand v_this_family v_this_density u_this_pads v_this_hasThermal v_this_titleSize v_this_written v_this_at v_this_begin v_this_words v_this_paste0 v_told v_low v_high v_values v_leftOut u_pad) → va_S A s.heap H locs → ∀ ls : Array Slot, lv_has ls 11 [(0, .ref a_this), (4, .long y4), (6, .long y6), (8, .long y8)] → W p l e (headSpec wsM_makeBalls { frames := 2, cells := 0, slots := 0, locals := 41 }).room s m args below meth c H locs 0 0 (MQ below (va_Qi (fun (r : Int32) (u : Int32 × (Nat → Int64)) => post r u.1 u.2) (zB (dC, dI) A (fun (u : Int32 × (Nat → Int64)) => (w_M_makeBalls ad a_this a_units a_kinds a_values a_names a_low a_high a_told a_leftOut a_isMade a_hands a_pad a_court a_title a_out k_told k_low k_high k_values k_leftOut k_pad v_this_thrown v_this_size v_this_families v_this_atHand v_this_family v_this_density u.1 v_this_hasThermal v_this_titleSize v_this_written v_this_at v_this_begin v_this_words v_this_paste0 v_told v_low v_high v_values v_leftOut u.2))) A) args s 0 0 A) (F0 m 172 ls [])) (hK : va_K (dC, dI) vwCl [(k_told, .boolean), (k_low, .long), (k_high, .long), (k_values, .long), (k_leftOut, .boolean), (k_pad, .long)] s) : ∀ (y4 : Int64) (y6 : Int64) (y8 : Int64) (u_this_pads : Int32) (u_pad : Nat → Int64) (H : Heap) (locs : List Loc), P_M_makeBalls_283 post K172 y4 y6 y8 u_this_pads u_pad → va_P (dC, dI) vwCl (w_M_makeBalls ad a_this a_units a_kinds a_values a_names a_low a_high a_told a_leftOut a_isMade a_hands a_pad a_court a_title a_out k_told k_low k_high k_values k_leftOut k_pad v_this_thrown v_this_size v_this_families v_this_atHand v_this_family v_this_density u_this_pads v_this_hasThermal v_this_titleSize v_this_written v_this_at v_this_begin v_this_words v_this_paste0 v_told v_low v_high v_values v_leftOut u_pad) H → va_D A (w_M_makeBalls ad a_this a_units a_kinds a_values a_names a_low a_high a_told a_leftOut a_isMade a_hands a_pad a_court a_title a_out k_told k_low k_high k_values k_leftOut k_pad v_this_thrown v_this_size v_this_families v_this_atHand v_this_family v_this_density u_this_pads v_this_hasThermal v_this_titleSize v_this_written v_this_at v_this_begin v_this_words v_this_paste0 v_told v_low v_high v_values v_leftOut u_pad) → va_S A s.heap H locs → ∀ ls : Array Slot, lv_has ls 11 [(0, .ref a_this), (4, .long y4), (6, .long y6), (8, .long y8)] → W p l e (headSpec wsM_makeBalls { frames := 2, cells := 0, slots := 0, locals := 41 }).room s m args below meth c H locs 0 0 (MQ below (va_Qi (fun (r : Int32) (u : Int32 × (Nat → Int64)) => post r u.1 u.2) (zB (dC, dI) A (fun (u : Int32 × (Nat → Int64)) => (w_M_makeBalls ad a_this a_units a_kinds a_values a_names a_low a_high a_told a_leftOut a_isMade a_hands a_pad a_court a_title a_out k_told k_low k_high k_values k_leftOut k_pad v_this_thrown v_this_size v_this_families v_this_atHand v_this_family v_this_density u.1 v_this_hasThermal v_this_titleSize v_this_written v_this_at v_this_begin v_this_words v_this_paste0 v_told v_low v_high v_values v_leftOut u.2))) A) args s 0 0 A) (F0 m 283 ls []) := by
  obtain ⟨hx, hb, hr, hml, hown, hts, hlocks, hA⟩ := id C0
  intro y4 y6 y8 u_this_pads u_pad H locs h hP hD hS ls hl
  unfold P_M_makeBalls_283 at h
  refine lv_lload hx hb dM_makeBalls_283 (lv_at hl 3 rfl) ?_
  refine lv_lconst (v := 1) hx hb dM_makeBalls_285 (by decide) ?_
  refine lv_ladd hx hb dM_makeBalls_286 ?_
  refine lv_topl (fun x1 ex1 => ?_)
  replace h := h x1 ex1
  refine lv_lstore (lv' := [(8, .long x1), (0, .ref a_this), (4, .long y4), (6, .long y6)]) hx hb dM_makeBalls_287 hl (by decide) rfl (fun ls hl => ?_)
  refine lv_goto (tgt := 172) hx hb dM_makeBalls_289 (by decide) ?_
  exact hK172 y4 y6 x1 u_this_pads u_pad _ _ h hP hD hS ls (lv_sub hl [1, 2, 3, 0] rfl)
def P_M_makeBalls_172 (v_high : Nat → Int64) (v_leftOut : Nat → Int32) (post : Int32 → Int32 → (Nat → Int64) → Prop) (K157 : Int64 → Int64 → Int32 → (Nat → Int64) → Prop) : Nat → Int64 → Int64 → Int64 → Int32 → (Nat → Int64) → Prop
  | 0, _, _, _, _, _ => False
  | n + 1, y4, y6, y8, u_this_pads, u_pad => vp_in 6 12 ∧ (((v_high (6 : Int32).toNatClampNeg) ≤ y8 → ∀ x3 : Int64, x3 = y6 + 1 → K157 y4 x3 u_this_pads u_pad) ∧ (¬ (v_high (6 : Int32).toNatClampNeg) ≤ y8 → vp_in 6 12 ∧ ∀ x5 : Int32, x5 = (((y6 * (v_high (6 : Int32).toNatClampNeg)) + y8).toInt32) + 1 → vp_in x5 65 ∧ ((¬ (v_leftOut x5.toNatClampNeg) = 0 → P_M_makeBalls_283 post (P_M_makeBalls_172 v_high v_leftOut post K157 n) y4 y6 y8 u_this_pads u_pad) ∧ ((v_leftOut x5.toNatClampNeg) = 0 → vp_in 6 12 ∧ vp_in 3 12 ∧ P_M_middle (v_high (6 : Int32).toNatClampNeg) y8 (v_high (3 : Int32).toNatClampNeg) (fun (r10 : Int64) => vp_in 5 12 ∧ vp_in 5 12 ∧ vp_in 3 12 ∧ P_M_middle (v_high (5 : Int32).toNatClampNeg) (((v_high (5 : Int32).toNatClampNeg) - 1) - y6) (v_high (3 : Int32).toNatClampNeg) (fun (r14 : Int64) => P_M_addPad x5 (r10 - (y4 / 2)) (r14 - (y4 / 2)) y4 y4 1 0 u_this_pads u_pad (fun (u15 : Int32) (u16 : Nat → Int64) => P_M_makeBalls_283 post (P_M_makeBalls_172 v_high v_leftOut post K157 n) y4 y6 y8 u15 u16)))))))
set_option maxHeartbeats 4000000 in
set_option maxRecDepth 100000 in
theorem w_M_makeBalls_172 (l : Launch) {p : Program} {e : Env} {s : State} {m : MethodId} {args : Array Value} {below : List Frame} {meth : Method} {c : Code} {dC : Nat → ClassId} {dI : Nat → Nat → Nat} {ad : Nat → Nat → Nat} {A : Nat → Prop} (C0 : zC p s m args meth c cM_makeBalls 11 RM zT (some .boolean) A) (hE : zE ad A s) (a_this : Nat) (a_units : Nat) (a_kinds : Nat) (a_values : Nat) (a_names : Nat) (a_low : Nat) (a_high : Nat) (a_told : Nat) (a_leftOut : Nat) (a_isMade : Nat) (a_hands : Nat) (a_pad : Nat) (a_court : Nat) (a_title : Nat) (a_out : Nat) (k_told : ClassId) (k_low : ClassId) (k_high : ClassId) (k_values : ClassId) (k_leftOut : ClassId) (k_pad : ClassId) (p1 : Int64) (v_this_thrown : Int32) (v_this_size : Int32) (v_this_families : Int32) (v_this_atHand : Int32) (v_this_family : Int32) (v_this_density : Int32) (v_this_pads : Int32) (v_this_hasThermal : Int32) (v_this_titleSize : Int32) (v_this_written : Int32) (v_this_at : Int32) (v_this_begin : Int32) (v_this_words : Int32) (v_this_paste0 : Int64) (v_told : Nat → Int32) (v_low : Nat → Int64) (v_high : Nat → Int64) (v_values : Nat → Int64) (v_leftOut : Nat → Int32) (v_pad : Nat → Int64) (post : Int32 → Int32 → (Nat → Int64) → Prop) (K157 : Int64 → Int64 → Int32 → (Nat → Int64) → Prop) (hK157 : ∀ (y4 : Int64) (y6 : Int64) (u_this_pads : Int32) (u_pad : Nat → Int64) (H : Heap) (locs : List Loc), K157 y4 y6 u_this_pads u_pad → va_P (dC, dI) vwCl (w_M_makeBalls ad a_this a_units a_kinds a_values a_names a_low a_high a_told a_leftOut a_isMade a_hands a_pad a_court a_title a_out k_told k_low k_high k_values k_leftOut k_pad v_this_thrown v_this_size v_this_families v_this_atHand v_this_family v_this_density u_this_pads v_this_hasThermal v_this_titleSize v_this_written v_this_at v_this_begin v_this_words v_this_paste0 v_told v_low v_high v_values v_leftOut u_pad) H → va_D A (w_M_makeBalls ad a_this a_units a_kinds a_values a_names a_low a_high a_told a_leftOut a_isMade a_hands a_pad a_court a_title a_out k_told k_low k_high k_values k_leftOut k_pad v_this_thrown v_this_size v_this_families v_this_atHand v_this_family v_this_density u_this_pads v_this_hasThermal v_this_titleSize v_this_written v_this_at v_this_begin v_this_words v_this_paste0 v_told v_low v_high v_values v_leftOut u_pad) → va_S A s.heap H locs → ∀ ls : Array Slot, lv_has ls 11 [(0, .ref a_this), (4, .long y4), (6, .long y6)] → W p l e (headSpec wsM_makeBalls { frames := 2, cells := 0, slots := 0, locals := 41 }).room s m args below meth c H locs 0 0 (MQ below (va_Qi (fun (r : Int32) (u : Int32 × (Nat → Int64)) => post r u.1 u.2) (zB (dC, dI) A (fun (u : Int32 × (Nat → Int64)) => (w_M_makeBalls ad a_this a_units a_kinds a_values a_names a_low a_high a_told a_leftOut a_isMade a_hands a_pad a_court a_title a_out k_told k_low k_high k_values k_leftOut k_pad v_this_thrown v_this_size v_this_families v_this_atHand v_this_family v_this_density u.1 v_this_hasThermal v_this_titleSize v_this_written v_this_at v_this_begin v_this_words v_this_paste0 v_told v_low v_high v_values v_leftOut u.2))) A) args s 0 0 A) (F0 m 157 ls [])) (hK : va_K (dC, dI) vwCl [(k_told, .boolean), (k_low, .long), (k_high, .long), (k_values, .long), (k_leftOut, .boolean), (k_pad, .long)] s) : ∀ (n : Nat), ∀ (y4 : Int64) (y6 : Int64) (y8 : Int64) (u_this_pads : Int32) (u_pad : Nat → Int64) (H : Heap) (locs : List Loc), P_M_makeBalls_172 v_high v_leftOut post K157 n y4 y6 y8 u_this_pads u_pad → va_P (dC, dI) vwCl (w_M_makeBalls ad a_this a_units a_kinds a_values a_names a_low a_high a_told a_leftOut a_isMade a_hands a_pad a_court a_title a_out k_told k_low k_high k_values k_leftOut k_pad v_this_thrown v_this_size v_this_families v_this_atHand v_this_family v_this_density u_this_pads v_this_hasThermal v_this_titleSize v_this_written v_this_at v_this_begin v_this_words v_this_paste0 v_told v_low v_high v_values v_leftOut u_pad) H → va_D A (w_M_makeBalls ad a_this a_units a_kinds a_values a_names a_low a_high a_told a_leftOut a_isMade a_hands a_pad a_court a_title a_out k_told k_low k_high k_values k_leftOut k_pad v_this_thrown v_this_size v_this_families v_this_atHand v_this_family v_this_density u_this_pads v_this_hasThermal v_this_titleSize v_this_written v_this_at v_this_begin v_this_words v_this_paste0 v_told v_low v_high v_values v_leftOut u_pad) → va_S A s.heap H locs → ∀ ls : Array Slot, lv_has ls 11 [(0, .ref a_this), (4, .long y4), (6, .long y6), (8, .long y8)] → W p l e (headSpec wsM_makeBalls { frames := 2, cells := 0, slots := 0, locals := 41 }).room s m args below meth c H locs 0 0 (MQ below (va_Qi (fun (r : Int32) (u : Int32 × (Nat → Int64)) => post r u.1 u.2) (zB (dC, dI) A (fun (u : Int32 × (Nat → Int64)) => (w_M_makeBalls ad a_this a_units a_kinds a_values a_names a_low a_high a_told a_leftOut a_isMade a_hands a_pad a_court a_title a_out k_told k_low k_high k_values k_leftOut k_pad v_this_thrown v_this_size v_this_families v_this_atHand v_this_family v_this_density u.1 v_this_hasThermal v_this_titleSize v_this_written v_this_at v_this_begin v_this_words v_this_paste0 v_told v_low v_high v_values v_leftOut u.2))) A) args s 0 0 A) (F0 m 172 ls []) := by
  obtain ⟨hx, hb, hr, hml, hown, hts, hlocks, hA⟩ := id C0
  intro n
  induction n with
  | zero =>
    intro y4 y6 y8 u_this_pads u_pad H locs h
    exact False.elim h
  | succ n ih =>
    intro y4 y6 y8 u_this_pads u_pad H locs h hP hD hS ls hl
    rw [P_M_makeBalls_172] at h
    refine lv_lload hx hb dM_makeBalls_172 (lv_at hl 3 rfl) ?_
    refine lv_aload_n hx hb dM_makeBalls_174 rfl (lv_at hl 0 rfl) ?_
    refine va_get (D := (dC, dI)) (ci := 10) (v := .ref a_high) (C := RM) (T := TM) (N := 28) hx hb hts inZ_M hown hK hP 0 rfl rfl 8 (by decide) (hts _ zw_1052) (fun _ h9 => h9) rfl dM_makeBalls_175 ?_
    refine lv_bipush (v := 6) hx hb dM_makeBalls_178 (by decide) ?_
    obtain ⟨hn1, h⟩ := h
    refine va_lald hx hb hK hP 3 2 rfl rfl hn1 dM_makeBalls_180 ?_
    refine zz_lcmp_ge (tgt := 292) hx hb dM_makeBalls_181 dM_makeBalls_182 (by decide) ?_ ?_
    · intro c2
      replace h := h.1 c2
      refine lv_lload hx hb dM_makeBalls_292 (lv_at hl 2 rfl) ?_
      refine lv_lconst (v := 1) hx hb dM_makeBalls_294 (by decide) ?_
      refine lv_ladd hx hb dM_makeBalls_295 ?_
      refine lv_topl (fun x3 ex3 => ?_)
      replace h := h x3 ex3
      refine lv_lstore (lv' := [(6, .long x3), (0, .ref a_this), (4, .long y4), (8, .long y8)]) hx hb dM_makeBalls_296 hl (by decide) rfl (fun ls hl => ?_)
      refine lv_goto (tgt := 157) hx hb dM_makeBalls_298 (by decide) ?_
      exact hK157 y4 x3 u_this_pads u_pad _ _ h hP hD hS ls (lv_sub hl [1, 2, 0] rfl)
    · intro c2
      replace h := h.2 c2
      refine lv_lload hx hb dM_makeBalls_185 (lv_at hl 2 rfl) ?_
      refine lv_aload_n hx hb dM_makeBalls_187 rfl (lv_at hl 0 rfl) ?_
      refine va_get (D := (dC, dI)) (ci := 10) (v := .ref a_high) (C := RM) (T := TM) (N := 28) hx hb hts inZ_M hown hK hP 0 rfl rfl 8 (by decide) (hts _ zw_1052) (fun _ h9 => h9) rfl dM_makeBalls_188 ?_
      refine lv_bipush (v := 6) hx hb dM_makeBalls_191 (by decide) ?_
      obtain ⟨hn4, h⟩ := h
      refine va_lald hx hb hK hP 3 2 rfl rfl hn4 dM_makeBalls_193 ?_
      refine lv_lmul hx hb dM_makeBalls_194 ?_
      refine lv_lload hx hb dM_makeBalls_195 (lv_at hl 3 rfl) ?_
      refine lv_ladd hx hb dM_makeBalls_197 ?_
      refine lv_l2i hx hb dM_makeBalls_198 rfl ?_
      refine lv_iconst (v := 1) hx hb dM_makeBalls_199 (by decide) ?_
      refine lv_iadd hx hb dM_makeBalls_200 ?_
      refine lv_topi (fun x5 ex5 => ?_)
      replace h := h x5 ex5
      refine lv_istore (lv' := [(10, .int x5), (0, .ref a_this), (4, .long y4), (6, .long y6), (8, .long y8)]) hx hb dM_makeBalls_201 hl (by decide) rfl (fun ls hl => ?_)
      refine lv_aload_n hx hb dM_makeBalls_203 rfl (lv_at hl 1 rfl) ?_
      refine va_get (D := (dC, dI)) (ci := 10) (v := .ref a_leftOut) (C := RM) (T := TM) (N := 28) hx hb hts inZ_M hown hK hP 0 rfl rfl 10 (by decide) (hts _ zw_1054) (fun _ h9 => h9) rfl dM_makeBalls_204 ?_
      refine lv_iload hx hb dM_makeBalls_207 (lv_at hl 0 rfl) ?_
      obtain ⟨hn6, h⟩ := h
      refine va_zald hx hb hK hP 5 4 rfl rfl hn6 dM_makeBalls_209 ?_
      refine lv_if_ne (tgt := 283) hx hb dM_makeBalls_210 (by decide) ?_ ?_
      · intro c7
        replace h := h.1 c7
        exact w_M_makeBalls_283 l C0 hE a_this a_units a_kinds a_values a_names a_low a_high a_told a_leftOut a_isMade a_hands a_pad a_court a_title a_out k_told k_low k_high k_values k_leftOut k_pad p1 v_this_thrown v_this_size v_this_families v_this_atHand v_this_family v_this_density v_this_pads v_this_hasThermal v_this_titleSize v_this_written v_this_at v_this_begin v_this_words v_this_paste0 v_told v_low v_high v_values v_leftOut v_pad post (P_M_makeBalls_172 v_high v_leftOut post K157 n) ih hK y4 y6 y8 u_this_pads u_pad _ _ h hP hD hS ls (lv_sub hl [1, 2, 3, 4] rfl)
      · intro c7
        replace h := h.2 c7
        refine lv_aload_n hx hb dM_makeBalls_213 rfl (lv_at hl 1 rfl) ?_
        refine lv_iload hx hb dM_makeBalls_214 (lv_at hl 0 rfl) ?_
        refine lv_aload_n hx hb dM_makeBalls_216 rfl (lv_at hl 1 rfl) ?_
        refine va_get (D := (dC, dI)) (ci := 10) (v := .ref a_high) (C := RM) (T := TM) (N := 28) hx hb hts inZ_M hown hK hP 0 rfl rfl 8 (by decide) (hts _ zw_1052) (fun _ h9 => h9) rfl dM_makeBalls_217 ?_
        refine lv_bipush (v := 6) hx hb dM_makeBalls_220 (by decide) ?_
        obtain ⟨hn8, h⟩ := h
        refine va_lald hx hb hK hP 3 2 rfl rfl hn8 dM_makeBalls_222 ?_
        refine lv_lload hx hb dM_makeBalls_223 (lv_at hl 4 rfl) ?_
        refine lv_aload_n hx hb dM_makeBalls_225 rfl (lv_at hl 1 rfl) ?_
        refine va_get (D := (dC, dI)) (ci := 10) (v := .ref a_high) (C := RM) (T := TM) (N := 28) hx hb hts inZ_M hown hK hP 0 rfl rfl 8 (by decide) (hts _ zw_1052) (fun _ h9 => h9) rfl dM_makeBalls_226 ?_
        refine lv_iconst (v := 3) hx hb dM_makeBalls_229 (by decide) ?_
        obtain ⟨hn9, h⟩ := h
        refine va_lald hx hb hK hP 3 2 rfl rfl hn9 dM_makeBalls_230 ?_
        refine zcall_l hP hD hS hA [] [0, 1, 2, 3, 4, 5, 6] (va_runS (As := [.long (v_high (6 : Int32).toNatClampNeg), .long y8, .long (v_high (3 : Int32).toNatClampNeg)]) (rest := [.int x5, .ref a_this]) ⟨hx, hb, hml, hown, hts⟩ (c_M_middle l dC dI ad _ (v_high (6 : Int32).toNatClampNeg) y8 (v_high (3 : Int32).toNatClampNeg) _ h) ⟨callB_of 3 hts (zgood zc_M_middle) rfl rfl rfl (hts _ zw_107) (hts _ zw_1221) (by decide +kernel) ⟨Nat.le_of_ble_eq_true rfl, Nat.le_of_ble_eq_true rfl⟩, (hts _ zw_1222)⟩ (zpreS hE hK hP hD hS hA [] [] (by rfl) (by rfl) (by decide)) rfl rfl hl.1 rfl (lv_room (Nat.le_of_ble_eq_true rfl)) dM_makeBalls_231 ⟨Nat.le_of_ble_eq_true rfl, Nat.le_of_ble_eq_true rfl⟩) (by rfl) (by rfl) (by decide) (by decide) (fun r10 u H locs h hP hD hS => ?_)
        try dsimp only at h
        have hP := hP.sub (ws' := (w_M_makeBalls ad a_this a_units a_kinds a_values a_names a_low a_high a_told a_leftOut a_isMade a_hands a_pad a_court a_title a_out k_told k_low k_high k_values k_leftOut k_pad v_this_thrown v_this_size v_this_families v_this_atHand v_this_family v_this_density u_this_pads v_this_hasThermal v_this_titleSize v_this_written v_this_at v_this_begin v_this_words v_this_paste0 v_told v_low v_high v_values v_leftOut u_pad)) [0, 1, 2, 3, 4, 5, 6] rfl
        have hD := hD.sub (ws' := (w_M_makeBalls ad a_this a_units a_kinds a_values a_names a_low a_high a_told a_leftOut a_isMade a_hands a_pad a_court a_title a_out k_told k_low k_high k_values k_leftOut k_pad v_this_thrown v_this_size v_this_families v_this_atHand v_this_family v_this_density u_this_pads v_this_hasThermal v_this_titleSize v_this_written v_this_at v_this_begin v_this_words v_this_paste0 v_told v_low v_high v_values v_leftOut u_pad)) [0, 1, 2, 3, 4, 5, 6] (by decide) rfl
        refine lv_lload hx hb dM_makeBalls_234 (lv_at hl 2 rfl) ?_
        refine lv_ldc2 (own := RM) (index := 90) (v := 2) hx hb hown (hts _ zw_1179) dM_makeBalls_236 ?_
        refine lv_ldiv hx hb dM_makeBalls_239 (by decide) ?_
        refine lv_lsub hx hb dM_makeBalls_240 ?_
        refine lv_aload_n hx hb dM_makeBalls_241 rfl (lv_at hl 1 rfl) ?_
        refine va_get (D := (dC, dI)) (ci := 10) (v := .ref a_high) (C := RM) (T := TM) (N := 28) hx hb hts inZ_M hown hK hP 0 rfl rfl 8 (by decide) (hts _ zw_1052) (fun _ h9 => h9) rfl dM_makeBalls_242 ?_
        refine lv_iconst (v := 5) hx hb dM_makeBalls_245 (by decide) ?_
        obtain ⟨hn11, h⟩ := h
        refine va_lald hx hb hK hP 3 2 rfl rfl hn11 dM_makeBalls_246 ?_
        refine lv_aload_n hx hb dM_makeBalls_247 rfl (lv_at hl 1 rfl) ?_
        refine va_get (D := (dC, dI)) (ci := 10) (v := .ref a_high) (C := RM) (T := TM) (N := 28) hx hb hts inZ_M hown hK hP 0 rfl rfl 8 (by decide) (hts _ zw_1052) (fun _ h9 => h9) rfl dM_makeBalls_248 ?_
        refine lv_iconst (v := 5) hx hb dM_makeBalls_251 (by decide) ?_
        obtain ⟨hn12, h⟩ := h
        refine va_lald hx hb hK hP 3 2 rfl rfl hn12 dM_makeBalls_252 ?_
        refine lv_lconst (v := 1) hx hb dM_makeBalls_253 (by decide) ?_
        refine lv_lsub hx hb dM_makeBalls_254 ?_
        refine lv_lload hx hb dM_makeBalls_255 (lv_at hl 3 rfl) ?_
        refine lv_lsub hx hb dM_makeBalls_257 ?_
        refine lv_aload_n hx hb dM_makeBalls_258 rfl (lv_at hl 1 rfl) ?_
        refine va_get (D := (dC, dI)) (ci := 10) (v := .ref a_high) (C := RM) (T := TM) (N := 28) hx hb hts inZ_M hown hK hP 0 rfl rfl 8 (by decide) (hts _ zw_1052) (fun _ h9 => h9) rfl dM_makeBalls_259 ?_
        refine lv_iconst (v := 3) hx hb dM_makeBalls_262 (by decide) ?_
        obtain ⟨hn13, h⟩ := h
        refine va_lald hx hb hK hP 3 2 rfl rfl hn13 dM_makeBalls_263 ?_
        refine zcall_l hP hD hS hA [] [0, 1, 2, 3, 4, 5, 6] (va_runS (As := [.long (v_high (5 : Int32).toNatClampNeg), .long (((v_high (5 : Int32).toNatClampNeg) - 1) - y6), .long (v_high (3 : Int32).toNatClampNeg)]) (rest := [.long (r10 - (y4 / 2)), .int x5, .ref a_this]) ⟨hx, hb, hml, hown, hts⟩ (c_M_middle l dC dI ad _ (v_high (5 : Int32).toNatClampNeg) (((v_high (5 : Int32).toNatClampNeg) - 1) - y6) (v_high (3 : Int32).toNatClampNeg) _ h) ⟨callB_of 3 hts (zgood zc_M_middle) rfl rfl rfl (hts _ zw_107) (hts _ zw_1221) (by decide +kernel) ⟨Nat.le_of_ble_eq_true rfl, Nat.le_of_ble_eq_true rfl⟩, (hts _ zw_1222)⟩ (zpreS hE hK hP hD hS hA [] [] (by rfl) (by rfl) (by decide)) rfl rfl hl.1 rfl (lv_room (Nat.le_of_ble_eq_true rfl)) dM_makeBalls_264 ⟨Nat.le_of_ble_eq_true rfl, Nat.le_of_ble_eq_true rfl⟩) (by rfl) (by rfl) (by decide) (by decide) (fun r14 u H locs h hP hD hS => ?_)
        try dsimp only at h
        have hP := hP.sub (ws' := (w_M_makeBalls ad a_this a_units a_kinds a_values a_names a_low a_high a_told a_leftOut a_isMade a_hands a_pad a_court a_title a_out k_told k_low k_high k_values k_leftOut k_pad v_this_thrown v_this_size v_this_families v_this_atHand v_this_family v_this_density u_this_pads v_this_hasThermal v_this_titleSize v_this_written v_this_at v_this_begin v_this_words v_this_paste0 v_told v_low v_high v_values v_leftOut u_pad)) [0, 1, 2, 3, 4, 5, 6] rfl
        have hD := hD.sub (ws' := (w_M_makeBalls ad a_this a_units a_kinds a_values a_names a_low a_high a_told a_leftOut a_isMade a_hands a_pad a_court a_title a_out k_told k_low k_high k_values k_leftOut k_pad v_this_thrown v_this_size v_this_families v_this_atHand v_this_family v_this_density u_this_pads v_this_hasThermal v_this_titleSize v_this_written v_this_at v_this_begin v_this_words v_this_paste0 v_told v_low v_high v_values v_leftOut u_pad)) [0, 1, 2, 3, 4, 5, 6] (by decide) rfl
        refine lv_lload hx hb dM_makeBalls_267 (lv_at hl 2 rfl) ?_
        refine lv_ldc2 (own := RM) (index := 90) (v := 2) hx hb hown (hts _ zw_1179) dM_makeBalls_269 ?_
        refine lv_ldiv hx hb dM_makeBalls_272 (by decide) ?_
        refine lv_lsub hx hb dM_makeBalls_273 ?_
        refine lv_lload hx hb dM_makeBalls_274 (lv_at hl 2 rfl) ?_
        refine lv_lload hx hb dM_makeBalls_276 (lv_at hl 2 rfl) ?_
        refine lv_iconst (v := 1) hx hb dM_makeBalls_278 (by decide) ?_
        refine lv_lconst (v := 0) hx hb dM_makeBalls_279 (by decide) ?_
        refine zcall_v hP hD hS hA [0, 6] [1, 2, 3, 4, 5] (va_runV (As := [.int x5, .long (r10 - (y4 / 2)), .long (r14 - (y4 / 2)), .long y4, .long y4, .int 1, .long 0]) (rest := []) ⟨hx, hb, hml, hown, hts⟩ (c_M_addPad l dC dI ad a_this a_units a_kinds a_values a_names a_low a_high a_told a_leftOut a_isMade a_hands a_pad a_court a_title a_out k_pad _ x5 (r10 - (y4 / 2)) (r14 - (y4 / 2)) y4 y4 1 0 v_this_thrown v_this_size v_this_families v_this_atHand v_this_family v_this_density u_this_pads v_this_hasThermal v_this_titleSize v_this_written v_this_at v_this_begin v_this_words v_this_paste0 u_pad _ h) ⟨callB_of 7 hts (zgood zc_M_addPad) rfl rfl rfl (hts _ zw_107) (hts _ zw_1224) (by decide +kernel) ⟨Nat.le_of_ble_eq_true rfl, Nat.le_of_ble_eq_true rfl⟩, (hts _ zw_1226), (hts _ zw_78)⟩ (zpreV hE hK hP hD hS hA [0, 6] [5] (by rfl) (by rfl) (by decide) (ci := 10) (q0 := 0) rfl (by rfl)) rfl rfl hl.1 rfl (lv_room (Nat.le_of_ble_eq_true rfl)) dM_makeBalls_280 ⟨Nat.le_of_ble_eq_true rfl, Nat.le_of_ble_eq_true rfl⟩) (by rfl) (by rfl) (by decide) (by decide) (fun u H locs h hP hD hS => ?_)
        obtain ⟨u15, u16⟩ := u
        try dsimp only at h
        have hP := hP.sub (ws' := (w_M_makeBalls ad a_this a_units a_kinds a_values a_names a_low a_high a_told a_leftOut a_isMade a_hands a_pad a_court a_title a_out k_told k_low k_high k_values k_leftOut k_pad v_this_thrown v_this_size v_this_families v_this_atHand v_this_family v_this_density u15 v_this_hasThermal v_this_titleSize v_this_written v_this_at v_this_begin v_this_words v_this_paste0 v_told v_low v_high v_values v_leftOut u16)) [5, 0, 1, 2, 3, 4, 6] rfl
        have hD := hD.sub (ws' := (w_M_makeBalls ad a_this a_units a_kinds a_values a_names a_low a_high a_told a_leftOut a_isMade a_hands a_pad a_court a_title a_out k_told k_low k_high k_values k_leftOut k_pad v_this_thrown v_this_size v_this_families v_this_atHand v_this_family v_this_density u15 v_this_hasThermal v_this_titleSize v_this_written v_this_at v_this_begin v_this_words v_this_paste0 v_told v_low v_high v_values v_leftOut u16)) [5, 0, 1, 2, 3, 4, 6] (by decide) rfl
        exact w_M_makeBalls_283 l C0 hE a_this a_units a_kinds a_values a_names a_low a_high a_told a_leftOut a_isMade a_hands a_pad a_court a_title a_out k_told k_low k_high k_values k_leftOut k_pad p1 v_this_thrown v_this_size v_this_families v_this_atHand v_this_family v_this_density v_this_pads v_this_hasThermal v_this_titleSize v_this_written v_this_at v_this_begin v_this_words v_this_paste0 v_told v_low v_high v_values v_leftOut v_pad post (P_M_makeBalls_172 v_high v_leftOut post K157 n) ih hK y4 y6 y8 u15 u16 _ _ h hP hD hS ls (lv_sub hl [1, 2, 3, 4] rfl)
def P_M_makeBalls_157 (v_high : Nat → Int64) (v_leftOut : Nat → Int32) (post : Int32 → Int32 → (Nat → Int64) → Prop) : Nat → Int64 → Int64 → Int32 → (Nat → Int64) → Prop
  | 0, _, _, _, _ => False
  | n + 1, y4, y6, u_this_pads, u_pad => vp_in 5 12 ∧ (((v_high (5 : Int32).toNatClampNeg) ≤ y6 → ((u_this_pads ≤ 0 → post 0 u_this_pads u_pad) ∧ (¬ u_this_pads ≤ 0 → post 1 u_this_pads u_pad))) ∧ (¬ (v_high (5 : Int32).toNatClampNeg) ≤ y6 → ∃ n4, P_M_makeBalls_172 v_high v_leftOut post (P_M_makeBalls_157 v_high v_leftOut post n) n4 y4 y6 0 u_this_pads u_pad))
set_option maxHeartbeats 4000000 in
set_option maxRecDepth 100000 in
theorem w_M_makeBalls_157 (l : Launch) {p : Program} {e : Env} {s : State} {m : MethodId} {args : Array Value} {below : List Frame} {meth : Method} {c : Code} {dC : Nat → ClassId} {dI : Nat → Nat → Nat} {ad : Nat → Nat → Nat} {A : Nat → Prop} (C0 : zC p s m args meth c cM_makeBalls 11 RM zT (some .boolean) A) (hE : zE ad A s) (a_this : Nat) (a_units : Nat) (a_kinds : Nat) (a_values : Nat) (a_names : Nat) (a_low : Nat) (a_high : Nat) (a_told : Nat) (a_leftOut : Nat) (a_isMade : Nat) (a_hands : Nat) (a_pad : Nat) (a_court : Nat) (a_title : Nat) (a_out : Nat) (k_told : ClassId) (k_low : ClassId) (k_high : ClassId) (k_values : ClassId) (k_leftOut : ClassId) (k_pad : ClassId) (p1 : Int64) (v_this_thrown : Int32) (v_this_size : Int32) (v_this_families : Int32) (v_this_atHand : Int32) (v_this_family : Int32) (v_this_density : Int32) (v_this_pads : Int32) (v_this_hasThermal : Int32) (v_this_titleSize : Int32) (v_this_written : Int32) (v_this_at : Int32) (v_this_begin : Int32) (v_this_words : Int32) (v_this_paste0 : Int64) (v_told : Nat → Int32) (v_low : Nat → Int64) (v_high : Nat → Int64) (v_values : Nat → Int64) (v_leftOut : Nat → Int32) (v_pad : Nat → Int64) (post : Int32 → Int32 → (Nat → Int64) → Prop) (hK : va_K (dC, dI) vwCl [(k_told, .boolean), (k_low, .long), (k_high, .long), (k_values, .long), (k_leftOut, .boolean), (k_pad, .long)] s) : ∀ (n : Nat), ∀ (y4 : Int64) (y6 : Int64) (u_this_pads : Int32) (u_pad : Nat → Int64) (H : Heap) (locs : List Loc), P_M_makeBalls_157 v_high v_leftOut post n y4 y6 u_this_pads u_pad → va_P (dC, dI) vwCl (w_M_makeBalls ad a_this a_units a_kinds a_values a_names a_low a_high a_told a_leftOut a_isMade a_hands a_pad a_court a_title a_out k_told k_low k_high k_values k_leftOut k_pad v_this_thrown v_this_size v_this_families v_this_atHand v_this_family v_this_density u_this_pads v_this_hasThermal v_this_titleSize v_this_written v_this_at v_this_begin v_this_words v_this_paste0 v_told v_low v_high v_values v_leftOut u_pad) H → va_D A (w_M_makeBalls ad a_this a_units a_kinds a_values a_names a_low a_high a_told a_leftOut a_isMade a_hands a_pad a_court a_title a_out k_told k_low k_high k_values k_leftOut k_pad v_this_thrown v_this_size v_this_families v_this_atHand v_this_family v_this_density u_this_pads v_this_hasThermal v_this_titleSize v_this_written v_this_at v_this_begin v_this_words v_this_paste0 v_told v_low v_high v_values v_leftOut u_pad) → va_S A s.heap H locs → ∀ ls : Array Slot, lv_has ls 11 [(0, .ref a_this), (4, .long y4), (6, .long y6)] → W p l e (headSpec wsM_makeBalls { frames := 2, cells := 0, slots := 0, locals := 41 }).room s m args below meth c H locs 0 0 (MQ below (va_Qi (fun (r : Int32) (u : Int32 × (Nat → Int64)) => post r u.1 u.2) (zB (dC, dI) A (fun (u : Int32 × (Nat → Int64)) => (w_M_makeBalls ad a_this a_units a_kinds a_values a_names a_low a_high a_told a_leftOut a_isMade a_hands a_pad a_court a_title a_out k_told k_low k_high k_values k_leftOut k_pad v_this_thrown v_this_size v_this_families v_this_atHand v_this_family v_this_density u.1 v_this_hasThermal v_this_titleSize v_this_written v_this_at v_this_begin v_this_words v_this_paste0 v_told v_low v_high v_values v_leftOut u.2))) A) args s 0 0 A) (F0 m 157 ls []) := by
  obtain ⟨hx, hb, hr, hml, hown, hts, hlocks, hA⟩ := id C0
  intro n
  induction n with
  | zero =>
    intro y4 y6 u_this_pads u_pad H locs h
    exact False.elim h
  | succ n ih =>
    intro y4 y6 u_this_pads u_pad H locs h hP hD hS ls hl
    rw [P_M_makeBalls_157] at h
    refine lv_lload hx hb dM_makeBalls_157 (lv_at hl 2 rfl) ?_
    refine lv_aload_n hx hb dM_makeBalls_159 rfl (lv_at hl 0 rfl) ?_
    refine va_get (D := (dC, dI)) (ci := 10) (v := .ref a_high) (C := RM) (T := TM) (N := 28) hx hb hts inZ_M hown hK hP 0 rfl rfl 8 (by decide) (hts _ zw_1052) (fun _ h9 => h9) rfl dM_makeBalls_160 ?_
    refine lv_iconst (v := 5) hx hb dM_makeBalls_163 (by decide) ?_
    obtain ⟨hn1, h⟩ := h
    refine va_lald hx hb hK hP 3 2 rfl rfl hn1 dM_makeBalls_164 ?_
    refine zz_lcmp_ge (tgt := 301) hx hb dM_makeBalls_165 dM_makeBalls_166 (by decide) ?_ ?_
    · intro c2
      replace h := h.1 c2
      refine lv_aload_n hx hb dM_makeBalls_301 rfl (lv_at hl 0 rfl) ?_
      refine va_get (D := (dC, dI)) (ci := 10) (v := .int u_this_pads) (C := RM) (T := TM) (N := 28) hx hb hts inZ_M hown hK hP 0 rfl rfl 16 (by decide) (hts _ zw_1060) (fun _ h9 => h9) rfl dM_makeBalls_302 ?_
      refine lv_if_le (tgt := 312) hx hb dM_makeBalls_305 (by decide) ?_ ?_
      · intro c3
        replace h := h.1 c3
        refine lv_iconst (v := 0) hx hb dM_makeBalls_312 (by decide) ?_
        exact W.zret (v := 0) hx hb hr rfl (fun t ht hW => ⟨⟨0, (u_this_pads, u_pad), rfl, h, by rw [ht]; exact hP, hD⟩, hS.F ht⟩) hS.2.2 dM_makeBalls_313
      · intro c3
        replace h := h.2 c3
        refine lv_iconst (v := 1) hx hb dM_makeBalls_308 (by decide) ?_
        refine lv_goto (tgt := 313) hx hb dM_makeBalls_309 (by decide) ?_
        exact W.zret (v := 1) hx hb hr rfl (fun t ht hW => ⟨⟨1, (u_this_pads, u_pad), rfl, h, by rw [ht]; exact hP, hD⟩, hS.F ht⟩) hS.2.2 dM_makeBalls_313
    · intro c2
      replace h := h.2 c2
      refine lv_lconst (v := 0) hx hb dM_makeBalls_169 (by decide) ?_
      refine lv_lstore (lv' := [(8, .long 0), (0, .ref a_this), (4, .long y4), (6, .long y6)]) hx hb dM_makeBalls_170 hl (by decide) rfl (fun ls hl => ?_)
      obtain ⟨n4, h⟩ := h
      exact w_M_makeBalls_172 l C0 hE a_this a_units a_kinds a_values a_names a_low a_high a_told a_leftOut a_isMade a_hands a_pad a_court a_title a_out k_told k_low k_high k_values k_leftOut k_pad p1 v_this_thrown v_this_size v_this_families v_this_atHand v_this_family v_this_density v_this_pads v_this_hasThermal v_this_titleSize v_this_written v_this_at v_this_begin v_this_words v_this_paste0 v_told v_low v_high v_values v_leftOut v_pad post (P_M_makeBalls_157 v_high v_leftOut post n) ih hK n4 y4 y6 0 u_this_pads u_pad _ _ h hP hD hS ls (lv_sub hl [1, 2, 3, 0] rfl)
def P_M_makeBalls_99 (p1 : Int64) (v_this_family : Int32) (v_this_density : Int32) (v_this_pads : Int32) (v_high : Nat → Int64) (v_values : Nat → Int64) (v_leftOut : Nat → Int32) (v_pad : Nat → Int64) (post : Int32 → Int32 → (Nat → Int64) → Prop) (t0 : Int32) : Prop := ((¬ t0 = 0 → vp_in 7 12 ∧ P_M_of 2 v_this_family v_this_density v_values (fun (r3 : Int64) => P_M_up ((v_high (7 : Int32).toNatClampNeg) + (2 * r3)) (2 * p1) (fun (r4 : Int64) => ((r4 ≤ 0 → post 0 v_this_pads v_pad) ∧ (¬ r4 ≤ 0 → vp_in 3 12 ∧ ((r4 < (v_high (3 : Int32).toNatClampNeg) → ∃ n8, P_M_makeBalls_157 v_high v_leftOut post n8 r4 0 v_this_pads v_pad) ∧ (¬ r4 < (v_high (3 : Int32).toNatClampNeg) → post 0 v_this_pads v_pad))))))) ∧ (t0 = 0 → post 0 v_this_pads v_pad))
set_option maxHeartbeats 4000000 in
set_option maxRecDepth 100000 in
theorem w_M_makeBalls_99 (l : Launch) {p : Program} {e : Env} {s : State} {m : MethodId} {args : Array Value} {below : List Frame} {meth : Method} {c : Code} {dC : Nat → ClassId} {dI : Nat → Nat → Nat} {ad : Nat → Nat → Nat} {A : Nat → Prop} (C0 : zC p s m args meth c cM_makeBalls 11 RM zT (some .boolean) A) (hE : zE ad A s) (a_this : Nat) (a_units : Nat) (a_kinds : Nat) (a_values : Nat) (a_names : Nat) (a_low : Nat) (a_high : Nat) (a_told : Nat) (a_leftOut : Nat) (a_isMade : Nat) (a_hands : Nat) (a_pad : Nat) (a_court : Nat) (a_title : Nat) (a_out : Nat) (k_told : ClassId) (k_low : ClassId) (k_high : ClassId) (k_values : ClassId) (k_leftOut : ClassId) (k_pad : ClassId) (p1 : Int64) (v_this_thrown : Int32) (v_this_size : Int32) (v_this_families : Int32) (v_this_atHand : Int32) (v_this_family : Int32) (v_this_density : Int32) (v_this_pads : Int32) (v_this_hasThermal : Int32) (v_this_titleSize : Int32) (v_this_written : Int32) (v_this_at : Int32) (v_this_begin : Int32) (v_this_words : Int32) (v_this_paste0 : Int64) (v_told : Nat → Int32) (v_low : Nat → Int64) (v_high : Nat → Int64) (v_values : Nat → Int64) (v_leftOut : Nat → Int32) (v_pad : Nat → Int64) (post : Int32 → Int32 → (Nat → Int64) → Prop) (hK : va_K (dC, dI) vwCl [(k_told, .boolean), (k_low, .long), (k_high, .long), (k_values, .long), (k_leftOut, .boolean), (k_pad, .long)] s) : ∀ (t0 : Int32) (H : Heap) (locs : List Loc), P_M_makeBalls_99 p1 v_this_family v_this_density v_this_pads v_high v_values v_leftOut v_pad post t0 → va_P (dC, dI) vwCl (w_M_makeBalls ad a_this a_units a_kinds a_values a_names a_low a_high a_told a_leftOut a_isMade a_hands a_pad a_court a_title a_out k_told k_low k_high k_values k_leftOut k_pad v_this_thrown v_this_size v_this_families v_this_atHand v_this_family v_this_density v_this_pads v_this_hasThermal v_this_titleSize v_this_written v_this_at v_this_begin v_this_words v_this_paste0 v_told v_low v_high v_values v_leftOut v_pad) H → va_D A (w_M_makeBalls ad a_this a_units a_kinds a_values a_names a_low a_high a_told a_leftOut a_isMade a_hands a_pad a_court a_title a_out k_told k_low k_high k_values k_leftOut k_pad v_this_thrown v_this_size v_this_families v_this_atHand v_this_family v_this_density v_this_pads v_this_hasThermal v_this_titleSize v_this_written v_this_at v_this_begin v_this_words v_this_paste0 v_told v_low v_high v_values v_leftOut v_pad) → va_S A s.heap H locs → ∀ ls : Array Slot, lv_has ls 11 [(0, .ref a_this), (1, .long p1)] → W p l e (headSpec wsM_makeBalls { frames := 2, cells := 0, slots := 0, locals := 41 }).room s m args below meth c H locs 0 0 (MQ below (va_Qi (fun (r : Int32) (u : Int32 × (Nat → Int64)) => post r u.1 u.2) (zB (dC, dI) A (fun (u : Int32 × (Nat → Int64)) => (w_M_makeBalls ad a_this a_units a_kinds a_values a_names a_low a_high a_told a_leftOut a_isMade a_hands a_pad a_court a_title a_out k_told k_low k_high k_values k_leftOut k_pad v_this_thrown v_this_size v_this_families v_this_atHand v_this_family v_this_density u.1 v_this_hasThermal v_this_titleSize v_this_written v_this_at v_this_begin v_this_words v_this_paste0 v_told v_low v_high v_values v_leftOut u.2))) A) args s 0 0 A) (F0 m 99 ls [.int t0]) := by
  obtain ⟨hx, hb, hr, hml, hown, hts, hlocks, hA⟩ := id C0
  intro t0 H locs h hP hD hS ls hl
  unfold P_M_makeBalls_99 at h
  refine lv_istore_n (lv' := [(3, .int t0), (0, .ref a_this), (1, .long p1)]) hx hb dM_makeBalls_99 rfl hl (by decide) rfl (fun ls hl => ?_)
  refine lv_iload_n hx hb dM_makeBalls_100 rfl (lv_at hl 0 rfl) ?_
  refine lv_if_ne (tgt := 106) hx hb dM_makeBalls_101 (by decide) ?_ ?_
  · intro c1
    replace h := h.1 c1
    refine lv_aload_n hx hb dM_makeBalls_106 rfl (lv_at hl 1 rfl) ?_
    refine va_get (D := (dC, dI)) (ci := 10) (v := .ref a_high) (C := RM) (T := TM) (N := 28) hx hb hts inZ_M hown hK hP 0 rfl rfl 8 (by decide) (hts _ zw_1052) (fun _ h9 => h9) rfl dM_makeBalls_107 ?_
    refine lv_bipush (v := 7) hx hb dM_makeBalls_110 (by decide) ?_
    obtain ⟨hn2, h⟩ := h
    refine va_lald hx hb hK hP 3 2 rfl rfl hn2 dM_makeBalls_112 ?_
    refine lv_ldc2 (own := RM) (index := 90) (v := 2) hx hb hown (hts _ zw_1179) dM_makeBalls_113 ?_
    refine lv_aload_n hx hb dM_makeBalls_116 rfl (lv_at hl 1 rfl) ?_
    refine lv_iconst (v := 2) hx hb dM_makeBalls_117 (by decide) ?_
    refine zcall_l hP hD hS hA [0, 4] [1, 2, 3, 5, 6] (va_runV (As := [.int 2]) (rest := [.long 2, .long (v_high (7 : Int32).toNatClampNeg)]) ⟨hx, hb, hml, hown, hts⟩ (c_M_of l dC dI ad a_this a_units a_kinds a_values a_names a_low a_high a_told a_leftOut a_isMade a_hands a_pad a_court a_title a_out k_values _ 2 v_this_thrown v_this_size v_this_families v_this_atHand v_this_family v_this_density v_this_pads v_this_hasThermal v_this_titleSize v_this_written v_this_at v_this_begin v_this_words v_this_paste0 v_values _ h) ⟨callB_of 1 hts (zgood zc_M_of) rfl rfl rfl (hts _ zw_107) (hts _ zw_1201) (by decide +kernel) ⟨Nat.le_of_ble_eq_true rfl, Nat.le_of_ble_eq_true rfl⟩, (hts _ zw_1203), (hts _ zw_74)⟩ (zpreV hE hK hP hD hS hA [0, 4] [3] (by rfl) (by rfl) (by decide) (ci := 10) (q0 := 0) rfl (by rfl)) rfl rfl hl.1 rfl (lv_room (Nat.le_of_ble_eq_true rfl)) dM_makeBalls_118 ⟨Nat.le_of_ble_eq_true rfl, Nat.le_of_ble_eq_true rfl⟩) (by rfl) (by rfl) (by decide) (by decide) (fun r3 u H locs h hP hD hS => ?_)
    try dsimp only at h
    have hP := hP.sub (ws' := (w_M_makeBalls ad a_this a_units a_kinds a_values a_names a_low a_high a_told a_leftOut a_isMade a_hands a_pad a_court a_title a_out k_told k_low k_high k_values k_leftOut k_pad v_this_thrown v_this_size v_this_families v_this_atHand v_this_family v_this_density v_this_pads v_this_hasThermal v_this_titleSize v_this_written v_this_at v_this_begin v_this_words v_this_paste0 v_told v_low v_high v_values v_leftOut v_pad)) [5, 0, 1, 2, 6, 3, 4] rfl
    have hD := hD.sub (ws' := (w_M_makeBalls ad a_this a_units a_kinds a_values a_names a_low a_high a_told a_leftOut a_isMade a_hands a_pad a_court a_title a_out k_told k_low k_high k_values k_leftOut k_pad v_this_thrown v_this_size v_this_families v_this_atHand v_this_family v_this_density v_this_pads v_this_hasThermal v_this_titleSize v_this_written v_this_at v_this_begin v_this_words v_this_paste0 v_told v_low v_high v_values v_leftOut v_pad)) [5, 0, 1, 2, 6, 3, 4] (by decide) rfl
    refine lv_lmul hx hb dM_makeBalls_121 ?_
    refine lv_ladd hx hb dM_makeBalls_122 ?_
    refine lv_ldc2 (own := RM) (index := 90) (v := 2) hx hb hown (hts _ zw_1179) dM_makeBalls_123 ?_
    refine lv_lload_n hx hb dM_makeBalls_126 rfl (lv_at hl 2 rfl) ?_
    refine lv_lmul hx hb dM_makeBalls_127 ?_
    refine zcall_l hP hD hS hA [] [0, 1, 2, 3, 4, 5, 6] (va_runS (As := [.long ((v_high (7 : Int32).toNatClampNeg) + (2 * r3)), .long (2 * p1)]) (rest := []) ⟨hx, hb, hml, hown, hts⟩ (c_M_up l dC dI ad _ ((v_high (7 : Int32).toNatClampNeg) + (2 * r3)) (2 * p1) _ h) ⟨callB_of 2 hts (zgood zc_M_up) rfl rfl rfl (hts _ zw_107) (hts _ zw_1218) (by decide +kernel) ⟨Nat.le_of_ble_eq_true rfl, Nat.le_of_ble_eq_true rfl⟩, (hts _ zw_1219)⟩ (zpreS hE hK hP hD hS hA [] [] (by rfl) (by rfl) (by decide)) rfl rfl hl.1 rfl (lv_room (Nat.le_of_ble_eq_true rfl)) dM_makeBalls_128 ⟨Nat.le_of_ble_eq_true rfl, Nat.le_of_ble_eq_true rfl⟩) (by rfl) (by rfl) (by decide) (by decide) (fun r4 u H locs h hP hD hS => ?_)
    try dsimp only at h
    have hP := hP.sub (ws' := (w_M_makeBalls ad a_this a_units a_kinds a_values a_names a_low a_high a_told a_leftOut a_isMade a_hands a_pad a_court a_title a_out k_told k_low k_high k_values k_leftOut k_pad v_this_thrown v_this_size v_this_families v_this_atHand v_this_family v_this_density v_this_pads v_this_hasThermal v_this_titleSize v_this_written v_this_at v_this_begin v_this_words v_this_paste0 v_told v_low v_high v_values v_leftOut v_pad)) [0, 1, 2, 3, 4, 5, 6] rfl
    have hD := hD.sub (ws' := (w_M_makeBalls ad a_this a_units a_kinds a_values a_names a_low a_high a_told a_leftOut a_isMade a_hands a_pad a_court a_title a_out k_told k_low k_high k_values k_leftOut k_pad v_this_thrown v_this_size v_this_families v_this_atHand v_this_family v_this_density v_this_pads v_this_hasThermal v_this_titleSize v_this_written v_this_at v_this_begin v_this_words v_this_paste0 v_told v_low v_high v_values v_leftOut v_pad)) [0, 1, 2, 3, 4, 5, 6] (by decide) rfl
    refine lv_lstore (lv' := [(4, .long r4), (3, .int t0), (0, .ref a_this), (1, .long p1)]) hx hb dM_makeBalls_131 hl (by decide) rfl (fun ls hl => ?_)
    refine lv_lload hx hb dM_makeBalls_133 (lv_at hl 0 rfl) ?_
    refine lv_lconst (v := 0) hx hb dM_makeBalls_135 (by decide) ?_
    refine zz_lcmp_le (tgt := 152) hx hb dM_makeBalls_136 dM_makeBalls_137 (by decide) ?_ ?_
    · intro c5
      replace h := h.1 c5
      refine lv_iconst (v := 0) hx hb dM_makeBalls_152 (by decide) ?_
      exact W.zret (v := 0) hx hb hr rfl (fun t ht hW => ⟨⟨0, (v_this_pads, v_pad), rfl, h, by rw [ht]; exact hP, hD⟩, hS.F ht⟩) hS.2.2 dM_makeBalls_153
    · intro c5
      replace h := h.2 c5
      refine lv_lload hx hb dM_makeBalls_140 (lv_at hl 0 rfl) ?_
      refine lv_aload_n hx hb dM_makeBalls_142 rfl (lv_at hl 2 rfl) ?_
      refine va_get (D := (dC, dI)) (ci := 10) (v := .ref a_high) (C := RM) (T := TM) (N := 28) hx hb hts inZ_M hown hK hP 0 rfl rfl 8 (by decide) (hts _ zw_1052) (fun _ h9 => h9) rfl dM_makeBalls_143 ?_
      refine lv_iconst (v := 3) hx hb dM_makeBalls_146 (by decide) ?_
      obtain ⟨hn6, h⟩ := h
      refine va_lald hx hb hK hP 3 2 rfl rfl hn6 dM_makeBalls_147 ?_
      refine zz_lcmp_lt (tgt := 154) hx hb dM_makeBalls_148 dM_makeBalls_149 (by decide) ?_ ?_
      · intro c7
        replace h := h.1 c7
        refine lv_lconst (v := 0) hx hb dM_makeBalls_154 (by decide) ?_
        refine lv_lstore (lv' := [(6, .long 0), (4, .long r4), (3, .int t0), (0, .ref a_this), (1, .long p1)]) hx hb dM_makeBalls_155 hl (by decide) rfl (fun ls hl => ?_)
        obtain ⟨n8, h⟩ := h
        exact w_M_makeBalls_157 l C0 hE a_this a_units a_kinds a_values a_names a_low a_high a_told a_leftOut a_isMade a_hands a_pad a_court a_title a_out k_told k_low k_high k_values k_leftOut k_pad p1 v_this_thrown v_this_size v_this_families v_this_atHand v_this_family v_this_density v_this_pads v_this_hasThermal v_this_titleSize v_this_written v_this_at v_this_begin v_this_words v_this_paste0 v_told v_low v_high v_values v_leftOut v_pad post hK n8 r4 0 v_this_pads v_pad _ _ h hP hD hS ls (lv_sub hl [3, 1, 0] rfl)
      · intro c7
        replace h := h.2 c7
        refine lv_iconst (v := 0) hx hb dM_makeBalls_152 (by decide) ?_
        exact W.zret (v := 0) hx hb hr rfl (fun t ht hW => ⟨⟨0, (v_this_pads, v_pad), rfl, h, by rw [ht]; exact hP, hD⟩, hS.F ht⟩) hS.2.2 dM_makeBalls_153
  · intro c1
    replace h := h.2 c1
    refine lv_iconst (v := 0) hx hb dM_makeBalls_104 (by decide) ?_
    exact W.zret (v := 0) hx hb hr rfl (fun t ht hW => ⟨⟨0, (v_this_pads, v_pad), rfl, h, by rw [ht]; exact hP, hD⟩, hS.F ht⟩) hS.2.2 dM_makeBalls_105
def P_M_makeBalls_98 (p1 : Int64) (v_this_family : Int32) (v_this_density : Int32) (v_this_pads : Int32) (v_high : Nat → Int64) (v_values : Nat → Int64) (v_leftOut : Nat → Int32) (v_pad : Nat → Int64) (post : Int32 → Int32 → (Nat → Int64) → Prop)  : Prop := P_M_makeBalls_99 p1 v_this_family v_this_density v_this_pads v_high v_values v_leftOut v_pad post 0
set_option maxHeartbeats 4000000 in
set_option maxRecDepth 100000 in
theorem w_M_makeBalls_98 (l : Launch) {p : Program} {e : Env} {s : State} {m : MethodId} {args : Array Value} {below : List Frame} {meth : Method} {c : Code} {dC : Nat → ClassId} {dI : Nat → Nat → Nat} {ad : Nat → Nat → Nat} {A : Nat → Prop} (C0 : zC p s m args meth c cM_makeBalls 11 RM zT (some .boolean) A) (hE : zE ad A s) (a_this : Nat) (a_units : Nat) (a_kinds : Nat) (a_values : Nat) (a_names : Nat) (a_low : Nat) (a_high : Nat) (a_told : Nat) (a_leftOut : Nat) (a_isMade : Nat) (a_hands : Nat) (a_pad : Nat) (a_court : Nat) (a_title : Nat) (a_out : Nat) (k_told : ClassId) (k_low : ClassId) (k_high : ClassId) (k_values : ClassId) (k_leftOut : ClassId) (k_pad : ClassId) (p1 : Int64) (v_this_thrown : Int32) (v_this_size : Int32) (v_this_families : Int32) (v_this_atHand : Int32) (v_this_family : Int32) (v_this_density : Int32) (v_this_pads : Int32) (v_this_hasThermal : Int32) (v_this_titleSize : Int32) (v_this_written : Int32) (v_this_at : Int32) (v_this_begin : Int32) (v_this_words : Int32) (v_this_paste0 : Int64) (v_told : Nat → Int32) (v_low : Nat → Int64) (v_high : Nat → Int64) (v_values : Nat → Int64) (v_leftOut : Nat → Int32) (v_pad : Nat → Int64) (post : Int32 → Int32 → (Nat → Int64) → Prop) (hK : va_K (dC, dI) vwCl [(k_told, .boolean), (k_low, .long), (k_high, .long), (k_values, .long), (k_leftOut, .boolean), (k_pad, .long)] s) : ∀  (H : Heap) (locs : List Loc), P_M_makeBalls_98 p1 v_this_family v_this_density v_this_pads v_high v_values v_leftOut v_pad post → va_P (dC, dI) vwCl (w_M_makeBalls ad a_this a_units a_kinds a_values a_names a_low a_high a_told a_leftOut a_isMade a_hands a_pad a_court a_title a_out k_told k_low k_high k_values k_leftOut k_pad v_this_thrown v_this_size v_this_families v_this_atHand v_this_family v_this_density v_this_pads v_this_hasThermal v_this_titleSize v_this_written v_this_at v_this_begin v_this_words v_this_paste0 v_told v_low v_high v_values v_leftOut v_pad) H → va_D A (w_M_makeBalls ad a_this a_units a_kinds a_values a_names a_low a_high a_told a_leftOut a_isMade a_hands a_pad a_court a_title a_out k_told k_low k_high k_values k_leftOut k_pad v_this_thrown v_this_size v_this_families v_this_atHand v_this_family v_this_density v_this_pads v_this_hasThermal v_this_titleSize v_this_written v_this_at v_this_begin v_this_words v_this_paste0 v_told v_low v_high v_values v_leftOut v_pad) → va_S A s.heap H locs → ∀ ls : Array Slot, lv_has ls 11 [(0, .ref a_this), (1, .long p1)] → W p l e (headSpec wsM_makeBalls { frames := 2, cells := 0, slots := 0, locals := 41 }).room s m args below meth c H locs 0 0 (MQ below (va_Qi (fun (r : Int32) (u : Int32 × (Nat → Int64)) => post r u.1 u.2) (zB (dC, dI) A (fun (u : Int32 × (Nat → Int64)) => (w_M_makeBalls ad a_this a_units a_kinds a_values a_names a_low a_high a_told a_leftOut a_isMade a_hands a_pad a_court a_title a_out k_told k_low k_high k_values k_leftOut k_pad v_this_thrown v_this_size v_this_families v_this_atHand v_this_family v_this_density u.1 v_this_hasThermal v_this_titleSize v_this_written v_this_at v_this_begin v_this_words v_this_paste0 v_told v_low v_high v_values v_leftOut u.2))) A) args s 0 0 A) (F0 m 98 ls []) := by
  obtain ⟨hx, hb, hr, hml, hown, hts, hlocks, hA⟩ := id C0
  intro  H locs h hP hD hS ls hl
  unfold P_M_makeBalls_98 at h
  refine lv_iconst (v := 0) hx hb dM_makeBalls_98 (by decide) ?_
  exact w_M_makeBalls_99 l C0 hE a_this a_units a_kinds a_values a_names a_low a_high a_told a_leftOut a_isMade a_hands a_pad a_court a_title a_out k_told k_low k_high k_values k_leftOut k_pad p1 v_this_thrown v_this_size v_this_families v_this_atHand v_this_family v_this_density v_this_pads v_this_hasThermal v_this_titleSize v_this_written v_this_at v_this_begin v_this_words v_this_paste0 v_told v_low v_high v_values v_leftOut v_pad post hK 0 _ _ h hP hD hS ls (lv_sub hl [0, 1] rfl)
def P_M_makeBalls_39 (p1 : Int64) (v_this_family : Int32) (v_this_density : Int32) (v_this_pads : Int32) (v_high : Nat → Int64) (v_values : Nat → Int64) (v_leftOut : Nat → Int32) (v_pad : Nat → Int64) (post : Int32 → Int32 → (Nat → Int64) → Prop) (t0 : Int32) : Prop := ((t0 = 0 → P_M_makeBalls_98 p1 v_this_family v_this_density v_this_pads v_high v_values v_leftOut v_pad post) ∧ (¬ t0 = 0 → vp_in 5 12 ∧ (((v_high (5 : Int32).toNatClampNeg) < 1 → P_M_makeBalls_98 p1 v_this_family v_this_density v_this_pads v_high v_values v_leftOut v_pad post) ∧ (¬ (v_high (5 : Int32).toNatClampNeg) < 1 → vp_in 5 12 ∧ ((8 < (v_high (5 : Int32).toNatClampNeg) → P_M_makeBalls_98 p1 v_this_family v_this_density v_this_pads v_high v_values v_leftOut v_pad post) ∧ (¬ 8 < (v_high (5 : Int32).toNatClampNeg) → vp_in 6 12 ∧ (((v_high (6 : Int32).toNatClampNeg) < 1 → P_M_makeBalls_98 p1 v_this_family v_this_density v_this_pads v_high v_values v_leftOut v_pad post) ∧ (¬ (v_high (6 : Int32).toNatClampNeg) < 1 → vp_in 6 12 ∧ ((8 < (v_high (6 : Int32).toNatClampNeg) → P_M_makeBalls_98 p1 v_this_family v_this_density v_this_pads v_high v_values v_leftOut v_pad post) ∧ (¬ 8 < (v_high (6 : Int32).toNatClampNeg) → P_M_makeBalls_99 p1 v_this_family v_this_density v_this_pads v_high v_values v_leftOut v_pad post 1))))))))))
set_option maxHeartbeats 4000000 in
set_option maxRecDepth 100000 in
theorem w_M_makeBalls_39 (l : Launch) {p : Program} {e : Env} {s : State} {m : MethodId} {args : Array Value} {below : List Frame} {meth : Method} {c : Code} {dC : Nat → ClassId} {dI : Nat → Nat → Nat} {ad : Nat → Nat → Nat} {A : Nat → Prop} (C0 : zC p s m args meth c cM_makeBalls 11 RM zT (some .boolean) A) (hE : zE ad A s) (a_this : Nat) (a_units : Nat) (a_kinds : Nat) (a_values : Nat) (a_names : Nat) (a_low : Nat) (a_high : Nat) (a_told : Nat) (a_leftOut : Nat) (a_isMade : Nat) (a_hands : Nat) (a_pad : Nat) (a_court : Nat) (a_title : Nat) (a_out : Nat) (k_told : ClassId) (k_low : ClassId) (k_high : ClassId) (k_values : ClassId) (k_leftOut : ClassId) (k_pad : ClassId) (p1 : Int64) (v_this_thrown : Int32) (v_this_size : Int32) (v_this_families : Int32) (v_this_atHand : Int32) (v_this_family : Int32) (v_this_density : Int32) (v_this_pads : Int32) (v_this_hasThermal : Int32) (v_this_titleSize : Int32) (v_this_written : Int32) (v_this_at : Int32) (v_this_begin : Int32) (v_this_words : Int32) (v_this_paste0 : Int64) (v_told : Nat → Int32) (v_low : Nat → Int64) (v_high : Nat → Int64) (v_values : Nat → Int64) (v_leftOut : Nat → Int32) (v_pad : Nat → Int64) (post : Int32 → Int32 → (Nat → Int64) → Prop) (hK : va_K (dC, dI) vwCl [(k_told, .boolean), (k_low, .long), (k_high, .long), (k_values, .long), (k_leftOut, .boolean), (k_pad, .long)] s) : ∀ (t0 : Int32) (H : Heap) (locs : List Loc), P_M_makeBalls_39 p1 v_this_family v_this_density v_this_pads v_high v_values v_leftOut v_pad post t0 → va_P (dC, dI) vwCl (w_M_makeBalls ad a_this a_units a_kinds a_values a_names a_low a_high a_told a_leftOut a_isMade a_hands a_pad a_court a_title a_out k_told k_low k_high k_values k_leftOut k_pad v_this_thrown v_this_size v_this_families v_this_atHand v_this_family v_this_density v_this_pads v_this_hasThermal v_this_titleSize v_this_written v_this_at v_this_begin v_this_words v_this_paste0 v_told v_low v_high v_values v_leftOut v_pad) H → va_D A (w_M_makeBalls ad a_this a_units a_kinds a_values a_names a_low a_high a_told a_leftOut a_isMade a_hands a_pad a_court a_title a_out k_told k_low k_high k_values k_leftOut k_pad v_this_thrown v_this_size v_this_families v_this_atHand v_this_family v_this_density v_this_pads v_this_hasThermal v_this_titleSize v_this_written v_this_at v_this_begin v_this_words v_this_paste0 v_told v_low v_high v_values v_leftOut v_pad) → va_S A s.heap H locs → ∀ ls : Array Slot, lv_has ls 11 [(0, .ref a_this), (1, .long p1)] → W p l e (headSpec wsM_makeBalls { frames := 2, cells := 0, slots := 0, locals := 41 }).room s m args below meth c H locs 0 0 (MQ below (va_Qi (fun (r : Int32) (u : Int32 × (Nat → Int64)) => post r u.1 u.2) (zB (dC, dI) A (fun (u : Int32 × (Nat → Int64)) => (w_M_makeBalls ad a_this a_units a_kinds a_values a_names a_low a_high a_told a_leftOut a_isMade a_hands a_pad a_court a_title a_out k_told k_low k_high k_values k_leftOut k_pad v_this_thrown v_this_size v_this_families v_this_atHand v_this_family v_this_density u.1 v_this_hasThermal v_this_titleSize v_this_written v_this_at v_this_begin v_this_words v_this_paste0 v_told v_low v_high v_values v_leftOut u.2))) A) args s 0 0 A) (F0 m 39 ls [.int t0]) := by
  obtain ⟨hx, hb, hr, hml, hown, hts, hlocks, hA⟩ := id C0
  intro t0 H locs h hP hD hS ls hl
  unfold P_M_makeBalls_39 at h
  refine lv_istore_n (lv' := [(3, .int t0), (0, .ref a_this), (1, .long p1)]) hx hb dM_makeBalls_39 rfl hl (by decide) rfl (fun ls hl => ?_)
  refine lv_iload_n hx hb dM_makeBalls_40 rfl (lv_at hl 0 rfl) ?_
  refine lv_if_eq (tgt := 98) hx hb dM_makeBalls_41 (by decide) ?_ ?_
  · intro c1
    replace h := h.1 c1
    exact w_M_makeBalls_98 l C0 hE a_this a_units a_kinds a_values a_names a_low a_high a_told a_leftOut a_isMade a_hands a_pad a_court a_title a_out k_told k_low k_high k_values k_leftOut k_pad p1 v_this_thrown v_this_size v_this_families v_this_atHand v_this_family v_this_density v_this_pads v_this_hasThermal v_this_titleSize v_this_written v_this_at v_this_begin v_this_words v_this_paste0 v_told v_low v_high v_values v_leftOut v_pad post hK _ _ h hP hD hS ls (lv_sub hl [1, 2] rfl)
  · intro c1
    replace h := h.2 c1
    refine lv_aload_n hx hb dM_makeBalls_44 rfl (lv_at hl 1 rfl) ?_
    refine va_get (D := (dC, dI)) (ci := 10) (v := .ref a_high) (C := RM) (T := TM) (N := 28) hx hb hts inZ_M hown hK hP 0 rfl rfl 8 (by decide) (hts _ zw_1052) (fun _ h9 => h9) rfl dM_makeBalls_45 ?_
    refine lv_iconst (v := 5) hx hb dM_makeBalls_48 (by decide) ?_
    obtain ⟨hn2, h⟩ := h
    refine va_lald hx hb hK hP 3 2 rfl rfl hn2 dM_makeBalls_49 ?_
    refine lv_lconst (v := 1) hx hb dM_makeBalls_50 (by decide) ?_
    refine zz_lcmp_lt (tgt := 98) hx hb dM_makeBalls_51 dM_makeBalls_52 (by decide) ?_ ?_
    · intro c3
      replace h := h.1 c3
      exact w_M_makeBalls_98 l C0 hE a_this a_units a_kinds a_values a_names a_low a_high a_told a_leftOut a_isMade a_hands a_pad a_court a_title a_out k_told k_low k_high k_values k_leftOut k_pad p1 v_this_thrown v_this_size v_this_families v_this_atHand v_this_family v_this_density v_this_pads v_this_hasThermal v_this_titleSize v_this_written v_this_at v_this_begin v_this_words v_this_paste0 v_told v_low v_high v_values v_leftOut v_pad post hK _ _ h hP hD hS ls (lv_sub hl [1, 2] rfl)
    · intro c3
      replace h := h.2 c3
      refine lv_aload_n hx hb dM_makeBalls_55 rfl (lv_at hl 1 rfl) ?_
      refine va_get (D := (dC, dI)) (ci := 10) (v := .ref a_high) (C := RM) (T := TM) (N := 28) hx hb hts inZ_M hown hK hP 0 rfl rfl 8 (by decide) (hts _ zw_1052) (fun _ h9 => h9) rfl dM_makeBalls_56 ?_
      refine lv_iconst (v := 5) hx hb dM_makeBalls_59 (by decide) ?_
      obtain ⟨hn4, h⟩ := h
      refine va_lald hx hb hK hP 3 2 rfl rfl hn4 dM_makeBalls_60 ?_
      refine lv_ldc2 (own := RM) (index := 175) (v := 8) hx hb hown (hts _ zw_1217) dM_makeBalls_61 ?_
      refine zz_lcmp_gt (tgt := 98) hx hb dM_makeBalls_64 dM_makeBalls_65 (by decide) ?_ ?_
      · intro c5
        replace h := h.1 c5
        exact w_M_makeBalls_98 l C0 hE a_this a_units a_kinds a_values a_names a_low a_high a_told a_leftOut a_isMade a_hands a_pad a_court a_title a_out k_told k_low k_high k_values k_leftOut k_pad p1 v_this_thrown v_this_size v_this_families v_this_atHand v_this_family v_this_density v_this_pads v_this_hasThermal v_this_titleSize v_this_written v_this_at v_this_begin v_this_words v_this_paste0 v_told v_low v_high v_values v_leftOut v_pad post hK _ _ h hP hD hS ls (lv_sub hl [1, 2] rfl)
      · intro c5
        replace h := h.2 c5
        refine lv_aload_n hx hb dM_makeBalls_68 rfl (lv_at hl 1 rfl) ?_
        refine va_get (D := (dC, dI)) (ci := 10) (v := .ref a_high) (C := RM) (T := TM) (N := 28) hx hb hts inZ_M hown hK hP 0 rfl rfl 8 (by decide) (hts _ zw_1052) (fun _ h9 => h9) rfl dM_makeBalls_69 ?_
        refine lv_bipush (v := 6) hx hb dM_makeBalls_72 (by decide) ?_
        obtain ⟨hn6, h⟩ := h
        refine va_lald hx hb hK hP 3 2 rfl rfl hn6 dM_makeBalls_74 ?_
        refine lv_lconst (v := 1) hx hb dM_makeBalls_75 (by decide) ?_
        refine zz_lcmp_lt (tgt := 98) hx hb dM_makeBalls_76 dM_makeBalls_77 (by decide) ?_ ?_
        · intro c7
          replace h := h.1 c7
          exact w_M_makeBalls_98 l C0 hE a_this a_units a_kinds a_values a_names a_low a_high a_told a_leftOut a_isMade a_hands a_pad a_court a_title a_out k_told k_low k_high k_values k_leftOut k_pad p1 v_this_thrown v_this_size v_this_families v_this_atHand v_this_family v_this_density v_this_pads v_this_hasThermal v_this_titleSize v_this_written v_this_at v_this_begin v_this_words v_this_paste0 v_told v_low v_high v_values v_leftOut v_pad post hK _ _ h hP hD hS ls (lv_sub hl [1, 2] rfl)
        · intro c7
          replace h := h.2 c7
          refine lv_aload_n hx hb dM_makeBalls_80 rfl (lv_at hl 1 rfl) ?_
          refine va_get (D := (dC, dI)) (ci := 10) (v := .ref a_high) (C := RM) (T := TM) (N := 28) hx hb hts inZ_M hown hK hP 0 rfl rfl 8 (by decide) (hts _ zw_1052) (fun _ h9 => h9) rfl dM_makeBalls_81 ?_
          refine lv_bipush (v := 6) hx hb dM_makeBalls_84 (by decide) ?_
          obtain ⟨hn8, h⟩ := h
          refine va_lald hx hb hK hP 3 2 rfl rfl hn8 dM_makeBalls_86 ?_
          refine lv_ldc2 (own := RM) (index := 175) (v := 8) hx hb hown (hts _ zw_1217) dM_makeBalls_87 ?_
          refine zz_lcmp_gt (tgt := 98) hx hb dM_makeBalls_90 dM_makeBalls_91 (by decide) ?_ ?_
          · intro c9
            replace h := h.1 c9
            exact w_M_makeBalls_98 l C0 hE a_this a_units a_kinds a_values a_names a_low a_high a_told a_leftOut a_isMade a_hands a_pad a_court a_title a_out k_told k_low k_high k_values k_leftOut k_pad p1 v_this_thrown v_this_size v_this_families v_this_atHand v_this_family v_this_density v_this_pads v_this_hasThermal v_this_titleSize v_this_written v_this_at v_this_begin v_this_words v_this_paste0 v_told v_low v_high v_values v_leftOut v_pad post hK _ _ h hP hD hS ls (lv_sub hl [1, 2] rfl)
          · intro c9
            replace h := h.2 c9
            refine lv_iconst (v := 1) hx hb dM_makeBalls_94 (by decide) ?_
            refine lv_goto (tgt := 99) hx hb dM_makeBalls_95 (by decide) ?_
            exact w_M_makeBalls_99 l C0 hE a_this a_units a_kinds a_values a_names a_low a_high a_told a_leftOut a_isMade a_hands a_pad a_court a_title a_out k_told k_low k_high k_values k_leftOut k_pad p1 v_this_thrown v_this_size v_this_families v_this_atHand v_this_family v_this_density v_this_pads v_this_hasThermal v_this_titleSize v_this_written v_this_at v_this_begin v_this_words v_this_paste0 v_told v_low v_high v_values v_leftOut v_pad post hK 1 _ _ h hP hD hS ls (lv_sub hl [1, 2] rfl)
def P_M_makeBalls_38 (p1 : Int64) (v_this_family : Int32) (v_this_density : Int32) (v_this_pads : Int32) (v_high : Nat → Int64) (v_values : Nat → Int64) (v_leftOut : Nat → Int32) (v_pad : Nat → Int64) (post : Int32 → Int32 → (Nat → Int64) → Prop)  : Prop := P_M_makeBalls_39 p1 v_this_family v_this_density v_this_pads v_high v_values v_leftOut v_pad post 0
set_option maxHeartbeats 4000000 in
set_option maxRecDepth 100000 in
theorem w_M_makeBalls_38 (l : Launch) {p : Program} {e : Env} {s : State} {m : MethodId} {args : Array Value} {below : List Frame} {meth : Method} {c : Code} {dC : Nat → ClassId} {dI : Nat → Nat → Nat} {ad : Nat → Nat → Nat} {A : Nat → Prop} (C0 : zC p s m args meth c cM_makeBalls 11 RM zT (some .boolean) A) (hE : zE ad A s) (a_this : Nat) (a_units : Nat) (a_kinds : Nat) (a_values : Nat) (a_names : Nat) (a_low : Nat) (a_high : Nat) (a_told : Nat) (a_leftOut : Nat) (a_isMade : Nat) (a_hands : Nat) (a_pad : Nat) (a_court : Nat) (a_title : Nat) (a_out : Nat) (k_told : ClassId) (k_low : ClassId) (k_high : ClassId) (k_values : ClassId) (k_leftOut : ClassId) (k_pad : ClassId) (p1 : Int64) (v_this_thrown : Int32) (v_this_size : Int32) (v_this_families : Int32) (v_this_atHand : Int32) (v_this_family : Int32) (v_this_density : Int32) (v_this_pads : Int32) (v_this_hasThermal : Int32) (v_this_titleSize : Int32) (v_this_written : Int32) (v_this_at : Int32) (v_this_begin : Int32) (v_this_words : Int32) (v_this_paste0 : Int64) (v_told : Nat → Int32) (v_low : Nat → Int64) (v_high : Nat → Int64) (v_values : Nat → Int64) (v_leftOut : Nat → Int32) (v_pad : Nat → Int64) (post : Int32 → Int32 → (Nat → Int64) → Prop) (hK : va_K (dC, dI) vwCl [(k_told, .boolean), (k_low, .long), (k_high, .long), (k_values, .long), (k_leftOut, .boolean), (k_pad, .long)] s) : ∀  (H : Heap) (locs : List Loc), P_M_makeBalls_38 p1 v_this_family v_this_density v_this_pads v_high v_values v_leftOut v_pad post → va_P (dC, dI) vwCl (w_M_makeBalls ad a_this a_units a_kinds a_values a_names a_low a_high a_told a_leftOut a_isMade a_hands a_pad a_court a_title a_out k_told k_low k_high k_values k_leftOut k_pad v_this_thrown v_this_size v_this_families v_this_atHand v_this_family v_this_density v_this_pads v_this_hasThermal v_this_titleSize v_this_written v_this_at v_this_begin v_this_words v_this_paste0 v_told v_low v_high v_values v_leftOut v_pad) H → va_D A (w_M_makeBalls ad a_this a_units a_kinds a_values a_names a_low a_high a_told a_leftOut a_isMade a_hands a_pad a_court a_title a_out k_told k_low k_high k_values k_leftOut k_pad v_this_thrown v_this_size v_this_families v_this_atHand v_this_family v_this_density v_this_pads v_this_hasThermal v_this_titleSize v_this_written v_this_at v_this_begin v_this_words v_this_paste0 v_told v_low v_high v_values v_leftOut v_pad) → va_S A s.heap H locs → ∀ ls : Array Slot, lv_has ls 11 [(0, .ref a_this), (1, .long p1)] → W p l e (headSpec wsM_makeBalls { frames := 2, cells := 0, slots := 0, locals := 41 }).room s m args below meth c H locs 0 0 (MQ below (va_Qi (fun (r : Int32) (u : Int32 × (Nat → Int64)) => post r u.1 u.2) (zB (dC, dI) A (fun (u : Int32 × (Nat → Int64)) => (w_M_makeBalls ad a_this a_units a_kinds a_values a_names a_low a_high a_told a_leftOut a_isMade a_hands a_pad a_court a_title a_out k_told k_low k_high k_values k_leftOut k_pad v_this_thrown v_this_size v_this_families v_this_atHand v_this_family v_this_density u.1 v_this_hasThermal v_this_titleSize v_this_written v_this_at v_this_begin v_this_words v_this_paste0 v_told v_low v_high v_values v_leftOut u.2))) A) args s 0 0 A) (F0 m 38 ls []) := by
  obtain ⟨hx, hb, hr, hml, hown, hts, hlocks, hA⟩ := id C0
  intro  H locs h hP hD hS ls hl
  unfold P_M_makeBalls_38 at h
  refine lv_iconst (v := 0) hx hb dM_makeBalls_38 (by decide) ?_
  exact w_M_makeBalls_39 l C0 hE a_this a_units a_kinds a_values a_names a_low a_high a_told a_leftOut a_isMade a_hands a_pad a_court a_title a_out k_told k_low k_high k_values k_leftOut k_pad p1 v_this_thrown v_this_size v_this_families v_this_atHand v_this_family v_this_density v_this_pads v_this_hasThermal v_this_titleSize v_this_written v_this_at v_this_begin v_this_words v_this_paste0 v_told v_low v_high v_values v_leftOut v_pad post hK 0 _ _ h hP hD hS ls (lv_sub hl [0, 1] rfl)
def P_M_makeBalls (p1 : Int64) (v_this_family : Int32) (v_this_density : Int32) (v_this_pads : Int32) (v_told : Nat → Int32) (v_low : Nat → Int64) (v_high : Nat → Int64) (v_values : Nat → Int64) (v_leftOut : Nat → Int32) (v_pad : Nat → Int64) (post : Int32 → Int32 → (Nat → Int64) → Prop) : Prop := P_M_hasPitch v_told v_low v_high (fun (r1 : Int32) => ((r1 = 0 → P_M_makeBalls_38 p1 v_this_family v_this_density v_this_pads v_high v_values v_leftOut v_pad post) ∧ (¬ r1 = 0 → P_M_isExact 5 v_told v_low v_high (fun (r3 : Int32) => ((r3 = 0 → P_M_makeBalls_38 p1 v_this_family v_this_density v_this_pads v_high v_values v_leftOut v_pad post) ∧ (¬ r3 = 0 → P_M_isExact 6 v_told v_low v_high (fun (r5 : Int32) => ((r5 = 0 → P_M_makeBalls_38 p1 v_this_family v_this_density v_this_pads v_high v_values v_leftOut v_pad post) ∧ (¬ r5 = 0 → vp_in 7 12 ∧ (((v_told (7 : Int32).toNatClampNeg) = 0 → P_M_makeBalls_38 p1 v_this_family v_this_density v_this_pads v_high v_values v_leftOut v_pad post) ∧ (¬ (v_told (7 : Int32).toNatClampNeg) = 0 → P_M_makeBalls_39 p1 v_this_family v_this_density v_this_pads v_high v_values v_leftOut v_pad post 1)))))))))))
set_option maxHeartbeats 4000000 in
set_option maxRecDepth 100000 in
theorem c_M_makeBalls (l : Launch) (dC : Nat → ClassId) (dI : Nat → Nat → Nat) (ad : Nat → Nat → Nat) (a_this : Nat) (a_units : Nat) (a_kinds : Nat) (a_values : Nat) (a_names : Nat) (a_low : Nat) (a_high : Nat) (a_told : Nat) (a_leftOut : Nat) (a_isMade : Nat) (a_hands : Nat) (a_pad : Nat) (a_court : Nat) (a_title : Nat) (a_out : Nat) (k_told : ClassId) (k_low : ClassId) (k_high : ClassId) (k_values : ClassId) (k_leftOut : ClassId) (k_pad : ClassId) (sz : Nat) (p1 : Int64) (v_this_thrown : Int32) (v_this_size : Int32) (v_this_families : Int32) (v_this_atHand : Int32) (v_this_family : Int32) (v_this_density : Int32) (v_this_pads : Int32) (v_this_hasThermal : Int32) (v_this_titleSize : Int32) (v_this_written : Int32) (v_this_at : Int32) (v_this_begin : Int32) (v_this_words : Int32) (v_this_paste0 : Int64) (v_told : Nat → Int32) (v_low : Nat → Int64) (v_high : Nat → Int64) (v_values : Nat → Int64) (v_leftOut : Nat → Int32) (v_pad : Nat → Int64) (post : Int32 → Int32 → (Nat → Int64) → Prop) (h : P_M_makeBalls p1 v_this_family v_this_density v_this_pads v_told v_low v_high v_values v_leftOut v_pad post) : zMi l yM_makeBalls wsM_makeBalls { frames := 2, cells := 0, slots := 0, locals := 41 } (dC, dI) ad [.ref a_this, .long p1] (w_M_makeBalls ad a_this a_units a_kinds a_values a_names a_low a_high a_told a_leftOut a_isMade a_hands a_pad a_court a_title a_out k_told k_low k_high k_values k_leftOut k_pad v_this_thrown v_this_size v_this_families v_this_atHand v_this_family v_this_density v_this_pads v_this_hasThermal v_this_titleSize v_this_written v_this_at v_this_begin v_this_words v_this_paste0 v_told v_low v_high v_values v_leftOut v_pad) [(k_told, .boolean), (k_low, .long), (k_high, .long), (k_values, .long), (k_leftOut, .boolean), (k_pad, .long)] sz (fun (r : Int32) (u : Int32 × (Nat → Int64)) => post r u.1 u.2) (fun (u : Int32 × (Nat → Int64)) => (w_M_makeBalls ad a_this a_units a_kinds a_values a_names a_low a_high a_told a_leftOut a_isMade a_hands a_pad a_court a_title a_out k_told k_low k_high k_values k_leftOut k_pad v_this_thrown v_this_size v_this_families v_this_atHand v_this_family v_this_density u.1 v_this_hasThermal v_this_titleSize v_this_written v_this_at v_this_begin v_this_words v_this_paste0 v_told v_low v_high v_values v_leftOut u.2)) 0 0 := by
  refine Met.ofW (cc := cM_makeBalls) (maxL := 11) (ret := (some .boolean)) (by decide +kernel) rfl ?_
  intro p e s m args below meth c s₁ B hml hv
  obtain ⟨rfl, hsz, hP, hK, hD0, hE⟩ := hv
  have hx := B.exec
  have hb := B.bytes
  have hr := B.returns
  have hts0 := atoms_spec (ws := wsM_makeBalls) B.pre
  have hts := fun w h => hts0 w (List.mem_cons_of_mem _ h)
  have hown : s.vm.findClass RM = some m.cls := findClass_of_methodNamed B.named
  have hlocks := B.notSynchronized
  subst hsz
  have hD := hD0.self (sz := s.heap.size)
  generalize hAe : va_A (w_M_makeBalls ad a_this a_units a_kinds a_values a_names a_low a_high a_told a_leftOut a_isMade a_hands a_pad a_court a_title a_out k_told k_low k_high k_values k_leftOut k_pad v_this_thrown v_this_size v_this_families v_this_atHand v_this_family v_this_density v_this_pads v_this_hasThermal v_this_titleSize v_this_written v_this_at v_this_begin v_this_words v_this_paste0 v_told v_low v_high v_values v_leftOut v_pad) s.heap.size = A at hD hE ⊢
  have hA : ∀ q : Nat, s.heap.size ≤ q → A q := fun q h => by rw [← hAe]; exact Or.inr h
  have C0 := zC.mk hx hb hr hml hown hts hlocks hA
  have hS : va_S A s.heap s.heap [] := va_S.rf
  have hl := lv_entry ([.ref a_this, .long p1]) (n := 11) (Nat.le_of_ble_eq_true rfl)
  rw [lg_entry_eq]
  generalize (lg_sl ([.ref a_this, .long p1]) ++ List.replicate (11 - (lg_sl ([.ref a_this, .long p1])).length) Slot.unset).toArray = ls at hl ⊢
  have hl : lv_has ls 11 [(0, .ref a_this), (1, .long p1)] := hl
  unfold P_M_makeBalls at h
  refine lv_aload_n hx hb dM_makeBalls_0 rfl (lv_at hl 0 rfl) ?_
  refine zcall_i hP hD hS hA [0, 1, 2, 3] [4, 5, 6] (va_runV (As := []) (rest := []) ⟨hx, hb, hml, hown, hts⟩ (c_M_hasPitch l dC dI ad a_this a_units a_kinds a_values a_names a_low a_high a_told a_leftOut a_isMade a_hands a_pad a_court a_title a_out k_told k_low k_high _ v_this_thrown v_this_size v_this_families v_this_atHand v_this_family v_this_density v_this_pads v_this_hasThermal v_this_titleSize v_this_written v_this_at v_this_begin v_this_words v_this_paste0 v_told v_low v_high _ h) ⟨callB_of 0 hts (zgood zc_M_hasPitch) rfl rfl rfl (hts _ zw_107) (hts _ zw_1209) (by decide +kernel) ⟨Nat.le_of_ble_eq_true rfl, Nat.le_of_ble_eq_true rfl⟩, (hts _ zw_1211), (hts _ zw_76)⟩ (zpreV hE hK hP hD hS hA [0, 1, 2, 3] [0, 1, 2] (by rfl) (by rfl) (by decide) (ci := 10) (q0 := 0) rfl (by rfl)) rfl rfl hl.1 rfl (lv_room (Nat.le_of_ble_eq_true rfl)) dM_makeBalls_1 ⟨Nat.le_of_ble_eq_true rfl, Nat.le_of_ble_eq_true rfl⟩) (by rfl) (by rfl) (by decide) (by decide) (fun r1 u H locs h hP hD hS => ?_)
  try dsimp only at h
  have hP := hP.sub (ws' := (w_M_makeBalls ad a_this a_units a_kinds a_values a_names a_low a_high a_told a_leftOut a_isMade a_hands a_pad a_court a_title a_out k_told k_low k_high k_values k_leftOut k_pad v_this_thrown v_this_size v_this_families v_this_atHand v_this_family v_this_density v_this_pads v_this_hasThermal v_this_titleSize v_this_written v_this_at v_this_begin v_this_words v_this_paste0 v_told v_low v_high v_values v_leftOut v_pad)) [3, 4, 5, 6, 0, 1, 2] rfl
  have hD := hD.sub (ws' := (w_M_makeBalls ad a_this a_units a_kinds a_values a_names a_low a_high a_told a_leftOut a_isMade a_hands a_pad a_court a_title a_out k_told k_low k_high k_values k_leftOut k_pad v_this_thrown v_this_size v_this_families v_this_atHand v_this_family v_this_density v_this_pads v_this_hasThermal v_this_titleSize v_this_written v_this_at v_this_begin v_this_words v_this_paste0 v_told v_low v_high v_values v_leftOut v_pad)) [3, 4, 5, 6, 0, 1, 2] (by decide) rfl
  refine lv_if_eq (tgt := 38) hx hb dM_makeBalls_4 (by decide) ?_ ?_
  · intro c2
    replace h := h.1 c2
    exact w_M_makeBalls_38 l C0 hE a_this a_units a_kinds a_values a_names a_low a_high a_told a_leftOut a_isMade a_hands a_pad a_court a_title a_out k_told k_low k_high k_values k_leftOut k_pad p1 v_this_thrown v_this_size v_this_families v_this_atHand v_this_family v_this_density v_this_pads v_this_hasThermal v_this_titleSize v_this_written v_this_at v_this_begin v_this_words v_this_paste0 v_told v_low v_high v_values v_leftOut v_pad post hK _ _ h hP hD hS ls (lv_sub hl [0, 1] rfl)
  · intro c2
    replace h := h.2 c2
    refine lv_aload_n hx hb dM_makeBalls_7 rfl (lv_at hl 0 rfl) ?_
    refine lv_iconst (v := 5) hx hb dM_makeBalls_8 (by decide) ?_
    refine zcall_i hP hD hS hA [0, 1, 2, 3] [4, 5, 6] (va_runV (As := [.int 5]) (rest := []) ⟨hx, hb, hml, hown, hts⟩ (c_M_isExact l dC dI ad a_this a_units a_kinds a_values a_names a_low a_high a_told a_leftOut a_isMade a_hands a_pad a_court a_title a_out k_told k_low k_high _ 5 v_this_thrown v_this_size v_this_families v_this_atHand v_this_family v_this_density v_this_pads v_this_hasThermal v_this_titleSize v_this_written v_this_at v_this_begin v_this_words v_this_paste0 v_told v_low v_high _ h) ⟨callB_of 1 hts (zgood zc_M_isExact) rfl rfl rfl (hts _ zw_107) (hts _ zw_1213) (by decide +kernel) ⟨Nat.le_of_ble_eq_true rfl, Nat.le_of_ble_eq_true rfl⟩, (hts _ zw_1215), (hts _ zw_77)⟩ (zpreV hE hK hP hD hS hA [0, 1, 2, 3] [0, 1, 2] (by rfl) (by rfl) (by decide) (ci := 10) (q0 := 0) rfl (by rfl)) rfl rfl hl.1 rfl (lv_room (Nat.le_of_ble_eq_true rfl)) dM_makeBalls_9 ⟨Nat.le_of_ble_eq_true rfl, Nat.le_of_ble_eq_true rfl⟩) (by rfl) (by rfl) (by decide) (by decide) (fun r3 u H locs h hP hD hS => ?_)
    try dsimp only at h
    have hP := hP.sub (ws' := (w_M_makeBalls ad a_this a_units a_kinds a_values a_names a_low a_high a_told a_leftOut a_isMade a_hands a_pad a_court a_title a_out k_told k_low k_high k_values k_leftOut k_pad v_this_thrown v_this_size v_this_families v_this_atHand v_this_family v_this_density v_this_pads v_this_hasThermal v_this_titleSize v_this_written v_this_at v_this_begin v_this_words v_this_paste0 v_told v_low v_high v_values v_leftOut v_pad)) [3, 4, 5, 6, 0, 1, 2] rfl
    have hD := hD.sub (ws' := (w_M_makeBalls ad a_this a_units a_kinds a_values a_names a_low a_high a_told a_leftOut a_isMade a_hands a_pad a_court a_title a_out k_told k_low k_high k_values k_leftOut k_pad v_this_thrown v_this_size v_this_families v_this_atHand v_this_family v_this_density v_this_pads v_this_hasThermal v_this_titleSize v_this_written v_this_at v_this_begin v_this_words v_this_paste0 v_told v_low v_high v_values v_leftOut v_pad)) [3, 4, 5, 6, 0, 1, 2] (by decide) rfl
    refine lv_if_eq (tgt := 38) hx hb dM_makeBalls_12 (by decide) ?_ ?_
    · intro c4
      replace h := h.1 c4
      exact w_M_makeBalls_38 l C0 hE a_this a_units a_kinds a_values a_names a_low a_high a_told a_leftOut a_isMade a_hands a_pad a_court a_title a_out k_told k_low k_high k_values k_leftOut k_pad p1 v_this_thrown v_this_size v_this_families v_this_atHand v_this_family v_this_density v_this_pads v_this_hasThermal v_this_titleSize v_this_written v_this_at v_this_begin v_this_words v_this_paste0 v_told v_low v_high v_values v_leftOut v_pad post hK _ _ h hP hD hS ls (lv_sub hl [0, 1] rfl)
    · intro c4
      replace h := h.2 c4
      refine lv_aload_n hx hb dM_makeBalls_15 rfl (lv_at hl 0 rfl) ?_
      refine lv_bipush (v := 6) hx hb dM_makeBalls_16 (by decide) ?_
      refine zcall_i hP hD hS hA [0, 1, 2, 3] [4, 5, 6] (va_runV (As := [.int 6]) (rest := []) ⟨hx, hb, hml, hown, hts⟩ (c_M_isExact l dC dI ad a_this a_units a_kinds a_values a_names a_low a_high a_told a_leftOut a_isMade a_hands a_pad a_court a_title a_out k_told k_low k_high _ 6 v_this_thrown v_this_size v_this_families v_this_atHand v_this_family v_this_density v_this_pads v_this_hasThermal v_this_titleSize v_this_written v_this_at v_this_begin v_this_words v_this_paste0 v_told v_low v_high _ h) ⟨callB_of 1 hts (zgood zc_M_isExact) rfl rfl rfl (hts _ zw_107) (hts _ zw_1213) (by decide +kernel) ⟨Nat.le_of_ble_eq_true rfl, Nat.le_of_ble_eq_true rfl⟩, (hts _ zw_1215), (hts _ zw_77)⟩ (zpreV hE hK hP hD hS hA [0, 1, 2, 3] [0, 1, 2] (by rfl) (by rfl) (by decide) (ci := 10) (q0 := 0) rfl (by rfl)) rfl rfl hl.1 rfl (lv_room (Nat.le_of_ble_eq_true rfl)) dM_makeBalls_18 ⟨Nat.le_of_ble_eq_true rfl, Nat.le_of_ble_eq_true rfl⟩) (by rfl) (by rfl) (by decide) (by decide) (fun r5 u H locs h hP hD hS => ?_)
      try dsimp only at h
      have hP := hP.sub (ws' := (w_M_makeBalls ad a_this a_units a_kinds a_values a_names a_low a_high a_told a_leftOut a_isMade a_hands a_pad a_court a_title a_out k_told k_low k_high k_values k_leftOut k_pad v_this_thrown v_this_size v_this_families v_this_atHand v_this_family v_this_density v_this_pads v_this_hasThermal v_this_titleSize v_this_written v_this_at v_this_begin v_this_words v_this_paste0 v_told v_low v_high v_values v_leftOut v_pad)) [3, 4, 5, 6, 0, 1, 2] rfl
      have hD := hD.sub (ws' := (w_M_makeBalls ad a_this a_units a_kinds a_values a_names a_low a_high a_told a_leftOut a_isMade a_hands a_pad a_court a_title a_out k_told k_low k_high k_values k_leftOut k_pad v_this_thrown v_this_size v_this_families v_this_atHand v_this_family v_this_density v_this_pads v_this_hasThermal v_this_titleSize v_this_written v_this_at v_this_begin v_this_words v_this_paste0 v_told v_low v_high v_values v_leftOut v_pad)) [3, 4, 5, 6, 0, 1, 2] (by decide) rfl
      refine lv_if_eq (tgt := 38) hx hb dM_makeBalls_21 (by decide) ?_ ?_
      · intro c6
        replace h := h.1 c6
        exact w_M_makeBalls_38 l C0 hE a_this a_units a_kinds a_values a_names a_low a_high a_told a_leftOut a_isMade a_hands a_pad a_court a_title a_out k_told k_low k_high k_values k_leftOut k_pad p1 v_this_thrown v_this_size v_this_families v_this_atHand v_this_family v_this_density v_this_pads v_this_hasThermal v_this_titleSize v_this_written v_this_at v_this_begin v_this_words v_this_paste0 v_told v_low v_high v_values v_leftOut v_pad post hK _ _ h hP hD hS ls (lv_sub hl [0, 1] rfl)
      · intro c6
        replace h := h.2 c6
        refine lv_aload_n hx hb dM_makeBalls_24 rfl (lv_at hl 0 rfl) ?_
        refine va_get (D := (dC, dI)) (ci := 10) (v := .ref a_told) (C := RM) (T := TM) (N := 28) hx hb hts inZ_M hown hK hP 0 rfl rfl 9 (by decide) (hts _ zw_1053) (fun _ h9 => h9) rfl dM_makeBalls_25 ?_
        refine lv_bipush (v := 7) hx hb dM_makeBalls_28 (by decide) ?_
        obtain ⟨hn7, h⟩ := h
        refine va_zald hx hb hK hP 1 0 rfl rfl hn7 dM_makeBalls_30 ?_
        refine lv_if_eq (tgt := 38) hx hb dM_makeBalls_31 (by decide) ?_ ?_
        · intro c8
          replace h := h.1 c8
          exact w_M_makeBalls_38 l C0 hE a_this a_units a_kinds a_values a_names a_low a_high a_told a_leftOut a_isMade a_hands a_pad a_court a_title a_out k_told k_low k_high k_values k_leftOut k_pad p1 v_this_thrown v_this_size v_this_families v_this_atHand v_this_family v_this_density v_this_pads v_this_hasThermal v_this_titleSize v_this_written v_this_at v_this_begin v_this_words v_this_paste0 v_told v_low v_high v_values v_leftOut v_pad post hK _ _ h hP hD hS ls (lv_sub hl [0, 1] rfl)
        · intro c8
          replace h := h.2 c8
          refine lv_iconst (v := 1) hx hb dM_makeBalls_34 (by decide) ?_
          refine lv_goto (tgt := 39) hx hb dM_makeBalls_35 (by decide) ?_
          exact w_M_makeBalls_39 l C0 hE a_this a_units a_kinds a_values a_names a_low a_high a_told a_leftOut a_isMade a_hands a_pad a_court a_title a_out k_told k_low k_high k_values k_leftOut k_pad p1 v_this_thrown v_this_size v_this_families v_this_atHand v_this_family v_this_density v_this_pads v_this_hasThermal v_this_titleSize v_this_written v_this_at v_this_begin v_this_words v_this_paste0 v_told v_low v_high v_values v_leftOut v_pad post hK 1 _ _ h hP hD hS ls (lv_sub hl [0, 1] rfl)
abbrev yM_makeHoles : MethodName := ⟨"FootprintRulesModel", "makeHoles", "(J)Z"⟩
abbrev cM_makeHoles : ByteArray := prog_14_method_29_code
abbrev wsM_makeHoles : List Cond := .code yM_makeHoles cM_makeHoles 12 (some .boolean) :: zT
set_option maxRecDepth 100000 in
theorem zc_M_makeHoles : Cond.code yM_makeHoles cM_makeHoles 12 (some .boolean) ∈ zT := zm 1231 (by rfl) (by rfl)
theorem dM_makeHoles_0 : decode cM_makeHoles 0 = .ok (.aload_n 0, 1) := by decide +kernel
theorem dM_makeHoles_1 : decode cM_makeHoles 1 = .ok (.iconst 0, 1) := by decide +kernel
theorem dM_makeHoles_2 : decode cM_makeHoles 2 = .ok (.invokevirtual 137, 3) := by decide +kernel
theorem dM_makeHoles_5 : decode cM_makeHoles 5 = .ok (.ifCond .eq 62, 3) := by decide +kernel
theorem dM_makeHoles_8 : decode cM_makeHoles 8 = .ok (.aload_n 0, 1) := by decide +kernel
theorem dM_makeHoles_9 : decode cM_makeHoles 9 = .ok (.getfield 26, 3) := by decide +kernel
theorem dM_makeHoles_12 : decode cM_makeHoles 12 = .ok (.iconst 0, 1) := by decide +kernel
theorem dM_makeHoles_13 : decode cM_makeHoles 13 = .ok (.laload, 1) := by decide +kernel
theorem dM_makeHoles_14 : decode cM_makeHoles 14 = .ok (.lconst 0, 1) := by decide +kernel
theorem dM_makeHoles_15 : decode cM_makeHoles 15 = .ok (.lcmp, 1) := by decide +kernel
theorem dM_makeHoles_16 : decode cM_makeHoles 16 = .ok (.ifCond .le 51, 3) := by decide +kernel
theorem dM_makeHoles_19 : decode cM_makeHoles 19 = .ok (.aload_n 0, 1) := by decide +kernel
theorem dM_makeHoles_20 : decode cM_makeHoles 20 = .ok (.getfield 26, 3) := by decide +kernel
theorem dM_makeHoles_23 : decode cM_makeHoles 23 = .ok (.iconst 0, 1) := by decide +kernel
theorem dM_makeHoles_24 : decode cM_makeHoles 24 = .ok (.laload, 1) := by decide +kernel
theorem dM_makeHoles_25 : decode cM_makeHoles 25 = .ok (.ldc2_w 90, 3) := by decide +kernel
theorem dM_makeHoles_28 : decode cM_makeHoles 28 = .ok (.lrem, 1) := by decide +kernel
theorem dM_makeHoles_29 : decode cM_makeHoles 29 = .ok (.lconst 0, 1) := by decide +kernel
theorem dM_makeHoles_30 : decode cM_makeHoles 30 = .ok (.lcmp, 1) := by decide +kernel
theorem dM_makeHoles_31 : decode cM_makeHoles 31 = .ok (.ifCond .ne 36, 3) := by decide +kernel
theorem dM_makeHoles_34 : decode cM_makeHoles 34 = .ok (.aload_n 0, 1) := by decide +kernel
theorem dM_makeHoles_35 : decode cM_makeHoles 35 = .ok (.getfield 29, 3) := by decide +kernel
theorem dM_makeHoles_38 : decode cM_makeHoles 38 = .ok (.iconst 2, 1) := by decide +kernel
theorem dM_makeHoles_39 : decode cM_makeHoles 39 = .ok (.baload, 1) := by decide +kernel
theorem dM_makeHoles_40 : decode cM_makeHoles 40 = .ok (.ifCond .eq 27, 3) := by decide +kernel
theorem dM_makeHoles_43 : decode cM_makeHoles 43 = .ok (.aload_n 0, 1) := by decide +kernel
theorem dM_makeHoles_44 : decode cM_makeHoles 44 = .ok (.invokevirtual 152, 3) := by decide +kernel
theorem dM_makeHoles_47 : decode cM_makeHoles 47 = .ok (.ifCond .eq 20, 3) := by decide +kernel
theorem dM_makeHoles_50 : decode cM_makeHoles 50 = .ok (.aload_n 0, 1) := by decide +kernel
theorem dM_makeHoles_51 : decode cM_makeHoles 51 = .ok (.ldc2_w 90, 3) := by decide +kernel
theorem dM_makeHoles_54 : decode cM_makeHoles 54 = .ok (.ldc2_w 90, 3) := by decide +kernel
theorem dM_makeHoles_57 : decode cM_makeHoles 57 = .ok (.invokevirtual 155, 3) := by decide +kernel
theorem dM_makeHoles_60 : decode cM_makeHoles 60 = .ok (.ifCond .eq 7, 3) := by decide +kernel
theorem dM_makeHoles_63 : decode cM_makeHoles 63 = .ok (.iconst 1, 1) := by decide +kernel
theorem dM_makeHoles_64 : decode cM_makeHoles 64 = .ok (.goto 4, 3) := by decide +kernel
theorem dM_makeHoles_67 : decode cM_makeHoles 67 = .ok (.iconst 0, 1) := by decide +kernel
theorem dM_makeHoles_68 : decode cM_makeHoles 68 = .ok (.istore_n 3, 1) := by decide +kernel
theorem dM_makeHoles_69 : decode cM_makeHoles 69 = .ok (.iload_n 3, 1) := by decide +kernel
theorem dM_makeHoles_70 : decode cM_makeHoles 70 = .ok (.ifCond .ne 5, 3) := by decide +kernel
theorem dM_makeHoles_73 : decode cM_makeHoles 73 = .ok (.iconst 0, 1) := by decide +kernel
theorem dM_makeHoles_74 : decode cM_makeHoles 74 = .ok (.ireturn, 1) := by decide +kernel
theorem dM_makeHoles_75 : decode cM_makeHoles 75 = .ok (.aload_n 0, 1) := by decide +kernel
theorem dM_makeHoles_76 : decode cM_makeHoles 76 = .ok (.getfield 26, 3) := by decide +kernel
theorem dM_makeHoles_79 : decode cM_makeHoles 79 = .ok (.iconst 2, 1) := by decide +kernel
theorem dM_makeHoles_80 : decode cM_makeHoles 80 = .ok (.laload, 1) := by decide +kernel
theorem dM_makeHoles_81 : decode cM_makeHoles 81 = .ok (.ldc2_w 90, 3) := by decide +kernel
theorem dM_makeHoles_84 : decode cM_makeHoles 84 = .ok (.aload_n 0, 1) := by decide +kernel
theorem dM_makeHoles_85 : decode cM_makeHoles 85 = .ok (.iconst 1, 1) := by decide +kernel
theorem dM_makeHoles_86 : decode cM_makeHoles 86 = .ok (.invokevirtual 142, 3) := by decide +kernel
theorem dM_makeHoles_89 : decode cM_makeHoles 89 = .ok (.lmul, 1) := by decide +kernel
theorem dM_makeHoles_90 : decode cM_makeHoles 90 = .ok (.ladd, 1) := by decide +kernel
theorem dM_makeHoles_91 : decode cM_makeHoles 91 = .ok (.ldc2_w 90, 3) := by decide +kernel
theorem dM_makeHoles_94 : decode cM_makeHoles 94 = .ok (.lload_n 1, 1) := by decide +kernel
theorem dM_makeHoles_95 : decode cM_makeHoles 95 = .ok (.lmul, 1) := by decide +kernel
theorem dM_makeHoles_96 : decode cM_makeHoles 96 = .ok (.invokestatic 145, 3) := by decide +kernel
theorem dM_makeHoles_99 : decode cM_makeHoles 99 = .ok (.lstore 4, 2) := by decide +kernel
theorem dM_makeHoles_101 : decode cM_makeHoles 101 = .ok (.lload 4, 2) := by decide +kernel
theorem dM_makeHoles_103 : decode cM_makeHoles 103 = .ok (.ldc2_w 90, 3) := by decide +kernel
theorem dM_makeHoles_106 : decode cM_makeHoles 106 = .ok (.aload_n 0, 1) := by decide +kernel
theorem dM_makeHoles_107 : decode cM_makeHoles 107 = .ok (.iconst 2, 1) := by decide +kernel
theorem dM_makeHoles_108 : decode cM_makeHoles 108 = .ok (.invokevirtual 142, 3) := by decide +kernel
theorem dM_makeHoles_111 : decode cM_makeHoles 111 = .ok (.lload_n 1, 1) := by decide +kernel
theorem dM_makeHoles_112 : decode cM_makeHoles 112 = .ok (.invokestatic 145, 3) := by decide +kernel
theorem dM_makeHoles_115 : decode cM_makeHoles 115 = .ok (.lmul, 1) := by decide +kernel
theorem dM_makeHoles_116 : decode cM_makeHoles 116 = .ok (.ladd, 1) := by decide +kernel
theorem dM_makeHoles_117 : decode cM_makeHoles 117 = .ok (.lstore 6, 2) := by decide +kernel
theorem dM_makeHoles_119 : decode cM_makeHoles 119 = .ok (.lload 4, 2) := by decide +kernel
theorem dM_makeHoles_121 : decode cM_makeHoles 121 = .ok (.lconst 0, 1) := by decide +kernel
theorem dM_makeHoles_122 : decode cM_makeHoles 122 = .ok (.lcmp, 1) := by decide +kernel
theorem dM_makeHoles_123 : decode cM_makeHoles 123 = .ok (.ifCond .le 27, 3) := by decide +kernel
theorem dM_makeHoles_126 : decode cM_makeHoles 126 = .ok (.lload 6, 2) := by decide +kernel
theorem dM_makeHoles_128 : decode cM_makeHoles 128 = .ok (.aload_n 0, 1) := by decide +kernel
theorem dM_makeHoles_129 : decode cM_makeHoles 129 = .ok (.getfield 26, 3) := by decide +kernel
theorem dM_makeHoles_132 : decode cM_makeHoles 132 = .ok (.iconst 3, 1) := by decide +kernel
theorem dM_makeHoles_133 : decode cM_makeHoles 133 = .ok (.laload, 1) := by decide +kernel
theorem dM_makeHoles_134 : decode cM_makeHoles 134 = .ok (.lcmp, 1) := by decide +kernel
theorem dM_makeHoles_135 : decode cM_makeHoles 135 = .ok (.ifCond .ge 15, 3) := by decide +kernel
theorem dM_makeHoles_138 : decode cM_makeHoles 138 = .ok (.lload 6, 2) := by decide +kernel
theorem dM_makeHoles_140 : decode cM_makeHoles 140 = .ok (.aload_n 0, 1) := by decide +kernel
theorem dM_makeHoles_141 : decode cM_makeHoles 141 = .ok (.getfield 26, 3) := by decide +kernel
theorem dM_makeHoles_144 : decode cM_makeHoles 144 = .ok (.iconst 0, 1) := by decide +kernel
theorem dM_makeHoles_145 : decode cM_makeHoles 145 = .ok (.laload, 1) := by decide +kernel
theorem dM_makeHoles_146 : decode cM_makeHoles 146 = .ok (.lcmp, 1) := by decide +kernel
theorem dM_makeHoles_147 : decode cM_makeHoles 147 = .ok (.ifCond .lt 5, 3) := by decide +kernel
theorem dM_makeHoles_150 : decode cM_makeHoles 150 = .ok (.iconst 0, 1) := by decide +kernel
theorem dM_makeHoles_151 : decode cM_makeHoles 151 = .ok (.ireturn, 1) := by decide +kernel
theorem dM_makeHoles_152 : decode cM_makeHoles 152 = .ok (.aload_n 0, 1) := by decide +kernel
theorem dM_makeHoles_153 : decode cM_makeHoles 153 = .ok (.getfield 26, 3) := by decide +kernel
theorem dM_makeHoles_156 : decode cM_makeHoles 156 = .ok (.iconst 4, 1) := by decide +kernel
theorem dM_makeHoles_157 : decode cM_makeHoles 157 = .ok (.laload, 1) := by decide +kernel
theorem dM_makeHoles_158 : decode cM_makeHoles 158 = .ok (.ldc2_w 90, 3) := by decide +kernel
theorem dM_makeHoles_161 : decode cM_makeHoles 161 = .ok (.ldiv, 1) := by decide +kernel
theorem dM_makeHoles_162 : decode cM_makeHoles 162 = .ok (.lstore 8, 2) := by decide +kernel
theorem dM_makeHoles_164 : decode cM_makeHoles 164 = .ok (.lconst 0, 1) := by decide +kernel
theorem dM_makeHoles_165 : decode cM_makeHoles 165 = .ok (.lstore 10, 2) := by decide +kernel
theorem dM_makeHoles_167 : decode cM_makeHoles 167 = .ok (.lload 10, 2) := by decide +kernel
theorem dM_makeHoles_169 : decode cM_makeHoles 169 = .ok (.lload 8, 2) := by decide +kernel
theorem dM_makeHoles_171 : decode cM_makeHoles 171 = .ok (.lcmp, 1) := by decide +kernel
theorem dM_makeHoles_172 : decode cM_makeHoles 172 = .ok (.ifCond .ge 72, 3) := by decide +kernel
theorem dM_makeHoles_175 : decode cM_makeHoles 175 = .ok (.aload_n 0, 1) := by decide +kernel
theorem dM_makeHoles_176 : decode cM_makeHoles 176 = .ok (.aload_n 0, 1) := by decide +kernel
theorem dM_makeHoles_177 : decode cM_makeHoles 177 = .ok (.getfield 134, 3) := by decide +kernel
theorem dM_makeHoles_180 : decode cM_makeHoles 180 = .ok (.iconst 1, 1) := by decide +kernel
theorem dM_makeHoles_181 : decode cM_makeHoles 181 = .ok (.iadd, 1) := by decide +kernel
theorem dM_makeHoles_182 : decode cM_makeHoles 182 = .ok (.aload_n 0, 1) := by decide +kernel
theorem dM_makeHoles_183 : decode cM_makeHoles 183 = .ok (.getfield 26, 3) := by decide +kernel
theorem dM_makeHoles_186 : decode cM_makeHoles 186 = .ok (.iconst 0, 1) := by decide +kernel
theorem dM_makeHoles_187 : decode cM_makeHoles 187 = .ok (.laload, 1) := by decide +kernel
theorem dM_makeHoles_188 : decode cM_makeHoles 188 = .ok (.lneg, 1) := by decide +kernel
theorem dM_makeHoles_189 : decode cM_makeHoles 189 = .ok (.ldc2_w 90, 3) := by decide +kernel
theorem dM_makeHoles_192 : decode cM_makeHoles 192 = .ok (.ldiv, 1) := by decide +kernel
theorem dM_makeHoles_193 : decode cM_makeHoles 193 = .ok (.lload 6, 2) := by decide +kernel
theorem dM_makeHoles_195 : decode cM_makeHoles 195 = .ok (.ldc2_w 90, 3) := by decide +kernel
theorem dM_makeHoles_198 : decode cM_makeHoles 198 = .ok (.ldiv, 1) := by decide +kernel
theorem dM_makeHoles_199 : decode cM_makeHoles 199 = .ok (.lsub, 1) := by decide +kernel
theorem dM_makeHoles_200 : decode cM_makeHoles 200 = .ok (.lload 8, 2) := by decide +kernel
theorem dM_makeHoles_202 : decode cM_makeHoles 202 = .ok (.lload 8, 2) := by decide +kernel
theorem dM_makeHoles_204 : decode cM_makeHoles 204 = .ok (.lconst 1, 1) := by decide +kernel
theorem dM_makeHoles_205 : decode cM_makeHoles 205 = .ok (.lsub, 1) := by decide +kernel
theorem dM_makeHoles_206 : decode cM_makeHoles 206 = .ok (.lload 10, 2) := by decide +kernel
theorem dM_makeHoles_208 : decode cM_makeHoles 208 = .ok (.lsub, 1) := by decide +kernel
theorem dM_makeHoles_209 : decode cM_makeHoles 209 = .ok (.aload_n 0, 1) := by decide +kernel
theorem dM_makeHoles_210 : decode cM_makeHoles 210 = .ok (.getfield 26, 3) := by decide +kernel
theorem dM_makeHoles_213 : decode cM_makeHoles 213 = .ok (.iconst 3, 1) := by decide +kernel
theorem dM_makeHoles_214 : decode cM_makeHoles 214 = .ok (.laload, 1) := by decide +kernel
theorem dM_makeHoles_215 : decode cM_makeHoles 215 = .ok (.invokestatic 161, 3) := by decide +kernel
theorem dM_makeHoles_218 : decode cM_makeHoles 218 = .ok (.lload 6, 2) := by decide +kernel
theorem dM_makeHoles_220 : decode cM_makeHoles 220 = .ok (.ldc2_w 90, 3) := by decide +kernel
theorem dM_makeHoles_223 : decode cM_makeHoles 223 = .ok (.ldiv, 1) := by decide +kernel
theorem dM_makeHoles_224 : decode cM_makeHoles 224 = .ok (.lsub, 1) := by decide +kernel
theorem dM_makeHoles_225 : decode cM_makeHoles 225 = .ok (.lload 6, 2) := by decide +kernel
theorem dM_makeHoles_227 : decode cM_makeHoles 227 = .ok (.lload 6, 2) := by decide +kernel
theorem dM_makeHoles_229 : decode cM_makeHoles 229 = .ok (.iconst 1, 1) := by decide +kernel
theorem dM_makeHoles_230 : decode cM_makeHoles 230 = .ok (.lload 4, 2) := by decide +kernel
theorem dM_makeHoles_232 : decode cM_makeHoles 232 = .ok (.invokevirtual 165, 3) := by decide +kernel
theorem dM_makeHoles_235 : decode cM_makeHoles 235 = .ok (.lload 10, 2) := by decide +kernel
theorem dM_makeHoles_237 : decode cM_makeHoles 237 = .ok (.lconst 1, 1) := by decide +kernel
theorem dM_makeHoles_238 : decode cM_makeHoles 238 = .ok (.ladd, 1) := by decide +kernel
theorem dM_makeHoles_239 : decode cM_makeHoles 239 = .ok (.lstore 10, 2) := by decide +kernel
theorem dM_makeHoles_241 : decode cM_makeHoles 241 = .ok (.goto (-74), 3) := by decide +kernel
theorem dM_makeHoles_244 : decode cM_makeHoles 244 = .ok (.lconst 0, 1) := by decide +kernel
theorem dM_makeHoles_245 : decode cM_makeHoles 245 = .ok (.lstore 10, 2) := by decide +kernel
theorem dM_makeHoles_247 : decode cM_makeHoles 247 = .ok (.lload 10, 2) := by decide +kernel
theorem dM_makeHoles_249 : decode cM_makeHoles 249 = .ok (.lload 8, 2) := by decide +kernel
theorem dM_makeHoles_251 : decode cM_makeHoles 251 = .ok (.lcmp, 1) := by decide +kernel
theorem dM_makeHoles_252 : decode cM_makeHoles 252 = .ok (.ifCond .ge 66, 3) := by decide +kernel
theorem dM_makeHoles_255 : decode cM_makeHoles 255 = .ok (.aload_n 0, 1) := by decide +kernel
theorem dM_makeHoles_256 : decode cM_makeHoles 256 = .ok (.aload_n 0, 1) := by decide +kernel
theorem dM_makeHoles_257 : decode cM_makeHoles 257 = .ok (.getfield 134, 3) := by decide +kernel
theorem dM_makeHoles_260 : decode cM_makeHoles 260 = .ok (.iconst 1, 1) := by decide +kernel
theorem dM_makeHoles_261 : decode cM_makeHoles 261 = .ok (.iadd, 1) := by decide +kernel
theorem dM_makeHoles_262 : decode cM_makeHoles 262 = .ok (.aload_n 0, 1) := by decide +kernel
theorem dM_makeHoles_263 : decode cM_makeHoles 263 = .ok (.getfield 26, 3) := by decide +kernel
theorem dM_makeHoles_266 : decode cM_makeHoles 266 = .ok (.iconst 0, 1) := by decide +kernel
theorem dM_makeHoles_267 : decode cM_makeHoles 267 = .ok (.laload, 1) := by decide +kernel
theorem dM_makeHoles_268 : decode cM_makeHoles 268 = .ok (.ldc2_w 90, 3) := by decide +kernel
theorem dM_makeHoles_271 : decode cM_makeHoles 271 = .ok (.ldiv, 1) := by decide +kernel
theorem dM_makeHoles_272 : decode cM_makeHoles 272 = .ok (.lload 6, 2) := by decide +kernel
theorem dM_makeHoles_274 : decode cM_makeHoles 274 = .ok (.ldc2_w 90, 3) := by decide +kernel
theorem dM_makeHoles_277 : decode cM_makeHoles 277 = .ok (.ldiv, 1) := by decide +kernel
theorem dM_makeHoles_278 : decode cM_makeHoles 278 = .ok (.lsub, 1) := by decide +kernel
theorem dM_makeHoles_279 : decode cM_makeHoles 279 = .ok (.lload 8, 2) := by decide +kernel
theorem dM_makeHoles_281 : decode cM_makeHoles 281 = .ok (.lload 10, 2) := by decide +kernel
theorem dM_makeHoles_283 : decode cM_makeHoles 283 = .ok (.aload_n 0, 1) := by decide +kernel
theorem dM_makeHoles_284 : decode cM_makeHoles 284 = .ok (.getfield 26, 3) := by decide +kernel
theorem dM_makeHoles_287 : decode cM_makeHoles 287 = .ok (.iconst 3, 1) := by decide +kernel
theorem dM_makeHoles_288 : decode cM_makeHoles 288 = .ok (.laload, 1) := by decide +kernel
theorem dM_makeHoles_289 : decode cM_makeHoles 289 = .ok (.invokestatic 161, 3) := by decide +kernel
theorem dM_makeHoles_292 : decode cM_makeHoles 292 = .ok (.lload 6, 2) := by decide +kernel
theorem dM_makeHoles_294 : decode cM_makeHoles 294 = .ok (.ldc2_w 90, 3) := by decide +kernel
theorem dM_makeHoles_297 : decode cM_makeHoles 297 = .ok (.ldiv, 1) := by decide +kernel
theorem dM_makeHoles_298 : decode cM_makeHoles 298 = .ok (.lsub, 1) := by decide +kernel
theorem dM_makeHoles_299 : decode cM_makeHoles 299 = .ok (.lload 6, 2) := by decide +kernel
theorem dM_makeHoles_301 : decode cM_makeHoles 301 = .ok (.lload 6, 2) := by decide +kernel
theorem dM_makeHoles_303 : decode cM_makeHoles 303 = .ok (.iconst 1, 1) := by decide +kernel
theorem dM_makeHoles_304 : decode cM_makeHoles 304 = .ok (.lload 4, 2) := by decide +kernel
theorem dM_makeHoles_306 : decode cM_makeHoles 306 = .ok (.invokevirtual 165, 3) := by decide +kernel
theorem dM_makeHoles_309 : decode cM_makeHoles 309 = .ok (.lload 10, 2) := by decide +kernel
theorem dM_makeHoles_311 : decode cM_makeHoles 311 = .ok (.lconst 1, 1) := by decide +kernel
theorem dM_makeHoles_312 : decode cM_makeHoles 312 = .ok (.ladd, 1) := by decide +kernel
theorem dM_makeHoles_313 : decode cM_makeHoles 313 = .ok (.lstore 10, 2) := by decide +kernel
theorem dM_makeHoles_315 : decode cM_makeHoles 315 = .ok (.goto (-68), 3) := by decide +kernel
theorem dM_makeHoles_318 : decode cM_makeHoles 318 = .ok (.iconst 1, 1) := by decide +kernel
theorem dM_makeHoles_319 : decode cM_makeHoles 319 = .ok (.ireturn, 1) := by decide +kernel
-- FootprintRulesModel.makeHoles(J)Z
abbrev w_M_makeHoles (ad : Nat → Nat → Nat) (a_this : Nat) (a_units : Nat) (a_kinds : Nat) (a_values : Nat) (a_names : Nat) (a_low : Nat) (a_high : Nat) (a_told : Nat) (a_leftOut : Nat) (a_isMade : Nat) (a_hands : Nat) (a_pad : Nat) (a_court : Nat) (a_title : Nat) (a_out : Nat) (k_told : ClassId) (k_low : ClassId) (k_high : ClassId) (k_values : ClassId) (k_pad : ClassId) (v_this_thrown : Int32) (v_this_size : Int32) (v_this_families : Int32) (v_this_atHand : Int32) (v_this_family : Int32) (v_this_density : Int32) (v_this_pads : Int32) (v_this_hasThermal : Int32) (v_this_titleSize : Int32) (v_this_written : Int32) (v_this_at : Int32) (v_this_begin : Int32) (v_this_words : Int32) (v_this_paste0 : Int64) (v_told : Nat → Int32) (v_low : Nat → Int64) (v_high : Nat → Int64) (v_values : Nat → Int64) (v_pad : Nat → Int64) : va_W := [(a_this, .inr (10, [.int v_this_thrown, .ref a_units, .int v_this_size, .int v_this_families, .ref a_kinds, .ref a_values, .ref a_names, .ref a_low, .ref a_high, .ref a_told, .ref a_leftOut, .ref a_isMade, .ref a_hands, .int v_this_atHand, .int v_this_family, .int v_this_density, .int v_this_pads, .ref a_pad, .ref a_court, .int v_this_hasThermal, .ref a_title, .int v_this_titleSize, .ref a_out, .int v_this_written, .int v_this_at, .int v_this_begin, .int v_this_words, .long v_this_paste0])), (a_told, .inl (k_told, 12, .inl v_told)), (a_low, .inl (k_low, 12, .inr (.inl v_low))), (a_high, .inl (k_high, 12, .inr (.inl v_high))), (a_values, .inl (k_values, 240, .inr (.inl v_values))), (a_pad, .inl (k_pad, 455, .inr (.inl v_pad)))]
def P_M_makeHoles_247 (v_high : Nat → Int64) (post : Int32 → Int32 → (Nat → Int64) → Prop) : Nat → Int64 → Int64 → Int64 → Int64 → Int32 → (Nat → Int64) → Prop
  | 0, _, _, _, _, _, _ => False
  | n + 1, y4, y6, y8, y10, u_this_pads, u_pad => ((y8 ≤ y10 → post 1 u_this_pads u_pad) ∧ (¬ y8 ≤ y10 → vp_in 0 12 ∧ vp_in 3 12 ∧ P_M_middle y8 y10 (v_high (3 : Int32).toNatClampNeg) (fun (r4 : Int64) => P_M_addPad (u_this_pads + 1) (((v_high (0 : Int32).toNatClampNeg) / 2) - (y6 / 2)) (r4 - (y6 / 2)) y6 y6 1 y4 u_this_pads u_pad (fun (u5 : Int32) (u6 : Nat → Int64) => ∀ x7 : Int64, x7 = y10 + 1 → P_M_makeHoles_247 v_high post n y4 y6 y8 x7 u5 u6))))
set_option maxHeartbeats 4000000 in
set_option maxRecDepth 100000 in
theorem w_M_makeHoles_247 (l : Launch) {p : Program} {e : Env} {s : State} {m : MethodId} {args : Array Value} {below : List Frame} {meth : Method} {c : Code} {dC : Nat → ClassId} {dI : Nat → Nat → Nat} {ad : Nat → Nat → Nat} {A : Nat → Prop} (C0 : zC p s m args meth c cM_makeHoles 12 RM zT (some .boolean) A) (hE : zE ad A s) (a_this : Nat) (a_units : Nat) (a_kinds : Nat) (a_values : Nat) (a_names : Nat) (a_low : Nat) (a_high : Nat) (a_told : Nat) (a_leftOut : Nat) (a_isMade : Nat) (a_hands : Nat) (a_pad : Nat) (a_court : Nat) (a_title : Nat) (a_out : Nat) (k_told : ClassId) (k_low : ClassId) (k_high : ClassId) (k_values : ClassId) (k_pad : ClassId) (p1 : Int64) (v_this_thrown : Int32) (v_this_size : Int32) (v_this_families : Int32) (v_this_atHand : Int32) (v_this_family : Int32) (v_this_density : Int32) (v_this_pads : Int32) (v_this_hasThermal : Int32) (v_this_titleSize : Int32) (v_this_written : Int32) (v_this_at : Int32) (v_this_begin : Int32) (v_this_words : Int32) (v_this_paste0 : Int64) (v_told : Nat → Int32) (v_low : Nat → Int64) (v_high : Nat → Int64) (v_values : Nat → Int64) (v_pad : Nat → Int64) (post : Int32 → Int32 → (Nat → Int64) → Prop) (hK : va_K (dC, dI) vwCl [(k_told, .boolean), (k_low, .long), (k_high, .long), (k_values, .long), (k_pad, .long)] s) : ∀ (n : Nat), ∀ (y4 : Int64) (y6 : Int64) (y8 : Int64) (y10 : Int64) (u_this_pads : Int32) (u_pad : Nat → Int64) (H : Heap) (locs : List Loc), P_M_makeHoles_247 v_high post n y4 y6 y8 y10 u_this_pads u_pad → va_P (dC, dI) vwCl (w_M_makeHoles ad a_this a_units a_kinds a_values a_names a_low a_high a_told a_leftOut a_isMade a_hands a_pad a_court a_title a_out k_told k_low k_high k_values k_pad v_this_thrown v_this_size v_this_families v_this_atHand v_this_family v_this_density u_this_pads v_this_hasThermal v_this_titleSize v_this_written v_this_at v_this_begin v_this_words v_this_paste0 v_told v_low v_high v_values u_pad) H → va_D A (w_M_makeHoles ad a_this a_units a_kinds a_values a_names a_low a_high a_told a_leftOut a_isMade a_hands a_pad a_court a_title a_out k_told k_low k_high k_values k_pad v_this_thrown v_this_size v_this_families v_this_atHand v_this_family v_this_density u_this_pads v_this_hasThermal v_this_titleSize v_this_written v_this_at v_this_begin v_this_words v_this_paste0 v_told v_low v_high v_values u_pad) → va_S A s.heap H locs → ∀ ls : Array Slot, lv_has ls 12 [(0, .ref a_this), (4, .long y4), (6, .long y6), (8, .long y8), (10, .long y10)] → W p l e (headSpec wsM_makeHoles { frames := 2, cells := 0, slots := 0, locals := 45 }).room s m args below meth c H locs 0 0 (MQ below (va_Qi (fun (r : Int32) (u : Int32 × (Nat → Int64)) => post r u.1 u.2) (zB (dC, dI) A (fun (u : Int32 × (Nat → Int64)) => (w_M_makeHoles ad a_this a_units a_kinds a_values a_names a_low a_high a_told a_leftOut a_isMade a_hands a_pad a_court a_title a_out k_told k_low k_high k_values k_pad v_this_thrown v_this_size v_this_families v_this_atHand v_this_family v_this_density u.1 v_this_hasThermal v_this_titleSize v_this_written v_this_at v_this_begin v_this_words v_this_paste0 v_told v_low v_high v_values u.2))) A) args s 0 0 A) (F0 m 247 ls []) := by
  obtain ⟨hx, hb, hr, hml, hown, hts, hlocks, hA⟩ := id C0
  intro n
  induction n with
  | zero =>
    intro y4 y6 y8 y10 u_this_pads u_pad H locs h
    exact False.elim h
  | succ n ih =>
    intro y4 y6 y8 y10 u_this_pads u_pad H locs h hP hD hS ls hl
    rw [P_M_makeHoles_247] at h
    refine lv_lload hx hb dM_makeHoles_247 (lv_at hl 4 rfl) ?_
    refine lv_lload hx hb dM_makeHoles_249 (lv_at hl 3 rfl) ?_
    refine zz_lcmp_ge (tgt := 318) hx hb dM_makeHoles_251 dM_makeHoles_252 (by decide) ?_ ?_
    · intro c1
      replace h := h.1 c1
      refine lv_iconst (v := 1) hx hb dM_makeHoles_318 (by decide) ?_
      exact W.zret (v := 1) hx hb hr rfl (fun t ht hW => ⟨⟨1, (u_this_pads, u_pad), rfl, h, by rw [ht]; exact hP, hD⟩, hS.F ht⟩) hS.2.2 dM_makeHoles_319
    · intro c1
      replace h := h.2 c1
      refine lv_aload_n hx hb dM_makeHoles_255 rfl (lv_at hl 0 rfl) ?_
      refine lv_aload_n hx hb dM_makeHoles_256 rfl (lv_at hl 0 rfl) ?_
      refine va_get (D := (dC, dI)) (ci := 10) (v := .int u_this_pads) (C := RM) (T := TM) (N := 28) hx hb hts inZ_M hown hK hP 0 rfl rfl 16 (by decide) (hts _ zw_1060) (fun _ h9 => h9) rfl dM_makeHoles_257 ?_
      refine lv_iconst (v := 1) hx hb dM_makeHoles_260 (by decide) ?_
      refine lv_iadd hx hb dM_makeHoles_261 ?_
      refine lv_aload_n hx hb dM_makeHoles_262 rfl (lv_at hl 0 rfl) ?_
      refine va_get (D := (dC, dI)) (ci := 10) (v := .ref a_high) (C := RM) (T := TM) (N := 28) hx hb hts inZ_M hown hK hP 0 rfl rfl 8 (by decide) (hts _ zw_1052) (fun _ h9 => h9) rfl dM_makeHoles_263 ?_
      refine lv_iconst (v := 0) hx hb dM_makeHoles_266 (by decide) ?_
      obtain ⟨hn2, h⟩ := h
      refine va_lald hx hb hK hP 3 2 rfl rfl hn2 dM_makeHoles_267 ?_
      refine lv_ldc2 (own := RM) (index := 90) (v := 2) hx hb hown (hts _ zw_1179) dM_makeHoles_268 ?_
      refine lv_ldiv hx hb dM_makeHoles_271 (by decide) ?_
      refine lv_lload hx hb dM_makeHoles_272 (lv_at hl 2 rfl) ?_
      refine lv_ldc2 (own := RM) (index := 90) (v := 2) hx hb hown (hts _ zw_1179) dM_makeHoles_274 ?_
      refine lv_ldiv hx hb dM_makeHoles_277 (by decide) ?_
      refine lv_lsub hx hb dM_makeHoles_278 ?_
      refine lv_lload hx hb dM_makeHoles_279 (lv_at hl 3 rfl) ?_
      refine lv_lload hx hb dM_makeHoles_281 (lv_at hl 4 rfl) ?_
      refine lv_aload_n hx hb dM_makeHoles_283 rfl (lv_at hl 0 rfl) ?_
      refine va_get (D := (dC, dI)) (ci := 10) (v := .ref a_high) (C := RM) (T := TM) (N := 28) hx hb hts inZ_M hown hK hP 0 rfl rfl 8 (by decide) (hts _ zw_1052) (fun _ h9 => h9) rfl dM_makeHoles_284 ?_
      refine lv_iconst (v := 3) hx hb dM_makeHoles_287 (by decide) ?_
      obtain ⟨hn3, h⟩ := h
      refine va_lald hx hb hK hP 3 2 rfl rfl hn3 dM_makeHoles_288 ?_
      refine zcall_l hP hD hS hA [] [0, 1, 2, 3, 4, 5] (va_runS (As := [.long y8, .long y10, .long (v_high (3 : Int32).toNatClampNeg)]) (rest := [.long (((v_high (0 : Int32).toNatClampNeg) / 2) - (y6 / 2)), .int (u_this_pads + 1), .ref a_this]) ⟨hx, hb, hml, hown, hts⟩ (c_M_middle l dC dI ad _ y8 y10 (v_high (3 : Int32).toNatClampNeg) _ h) ⟨callB_of 3 hts (zgood zc_M_middle) rfl rfl rfl (hts _ zw_107) (hts _ zw_1221) (by decide +kernel) ⟨Nat.le_of_ble_eq_true rfl, Nat.le_of_ble_eq_true rfl⟩, (hts _ zw_1222)⟩ (zpreS hE hK hP hD hS hA [] [] (by rfl) (by rfl) (by decide)) rfl rfl hl.1 rfl (lv_room (Nat.le_of_ble_eq_true rfl)) dM_makeHoles_289 ⟨Nat.le_of_ble_eq_true rfl, Nat.le_of_ble_eq_true rfl⟩) (by rfl) (by rfl) (by decide) (by decide) (fun r4 u H locs h hP hD hS => ?_)
      try dsimp only at h
      have hP := hP.sub (ws' := (w_M_makeHoles ad a_this a_units a_kinds a_values a_names a_low a_high a_told a_leftOut a_isMade a_hands a_pad a_court a_title a_out k_told k_low k_high k_values k_pad v_this_thrown v_this_size v_this_families v_this_atHand v_this_family v_this_density u_this_pads v_this_hasThermal v_this_titleSize v_this_written v_this_at v_this_begin v_this_words v_this_paste0 v_told v_low v_high v_values u_pad)) [0, 1, 2, 3, 4, 5] rfl
      have hD := hD.sub (ws' := (w_M_makeHoles ad a_this a_units a_kinds a_values a_names a_low a_high a_told a_leftOut a_isMade a_hands a_pad a_court a_title a_out k_told k_low k_high k_values k_pad v_this_thrown v_this_size v_this_families v_this_atHand v_this_family v_this_density u_this_pads v_this_hasThermal v_this_titleSize v_this_written v_this_at v_this_begin v_this_words v_this_paste0 v_told v_low v_high v_values u_pad)) [0, 1, 2, 3, 4, 5] (by decide) rfl
      refine lv_lload hx hb dM_makeHoles_292 (lv_at hl 2 rfl) ?_
      refine lv_ldc2 (own := RM) (index := 90) (v := 2) hx hb hown (hts _ zw_1179) dM_makeHoles_294 ?_
      refine lv_ldiv hx hb dM_makeHoles_297 (by decide) ?_
      refine lv_lsub hx hb dM_makeHoles_298 ?_
      refine lv_lload hx hb dM_makeHoles_299 (lv_at hl 2 rfl) ?_
      refine lv_lload hx hb dM_makeHoles_301 (lv_at hl 2 rfl) ?_
      refine lv_iconst (v := 1) hx hb dM_makeHoles_303 (by decide) ?_
      refine lv_lload hx hb dM_makeHoles_304 (lv_at hl 1 rfl) ?_
      refine zcall_v hP hD hS hA [0, 5] [1, 2, 3, 4] (va_runV (As := [.int (u_this_pads + 1), .long (((v_high (0 : Int32).toNatClampNeg) / 2) - (y6 / 2)), .long (r4 - (y6 / 2)), .long y6, .long y6, .int 1, .long y4]) (rest := []) ⟨hx, hb, hml, hown, hts⟩ (c_M_addPad l dC dI ad a_this a_units a_kinds a_values a_names a_low a_high a_told a_leftOut a_isMade a_hands a_pad a_court a_title a_out k_pad _ (u_this_pads + 1) (((v_high (0 : Int32).toNatClampNeg) / 2) - (y6 / 2)) (r4 - (y6 / 2)) y6 y6 1 y4 v_this_thrown v_this_size v_this_families v_this_atHand v_this_family v_this_density u_this_pads v_this_hasThermal v_this_titleSize v_this_written v_this_at v_this_begin v_this_words v_this_paste0 u_pad _ h) ⟨callB_of 7 hts (zgood zc_M_addPad) rfl rfl rfl (hts _ zw_107) (hts _ zw_1224) (by decide +kernel) ⟨Nat.le_of_ble_eq_true rfl, Nat.le_of_ble_eq_true rfl⟩, (hts _ zw_1226), (hts _ zw_78)⟩ (zpreV hE hK hP hD hS hA [0, 5] [4] (by rfl) (by rfl) (by decide) (ci := 10) (q0 := 0) rfl (by rfl)) rfl rfl hl.1 rfl (lv_room (Nat.le_of_ble_eq_true rfl)) dM_makeHoles_306 ⟨Nat.le_of_ble_eq_true rfl, Nat.le_of_ble_eq_true rfl⟩) (by rfl) (by rfl) (by decide) (by decide) (fun u H locs h hP hD hS => ?_)
      obtain ⟨u5, u6⟩ := u
      try dsimp only at h
      have hP := hP.sub (ws' := (w_M_makeHoles ad a_this a_units a_kinds a_values a_names a_low a_high a_told a_leftOut a_isMade a_hands a_pad a_court a_title a_out k_told k_low k_high k_values k_pad v_this_thrown v_this_size v_this_families v_this_atHand v_this_family v_this_density u5 v_this_hasThermal v_this_titleSize v_this_written v_this_at v_this_begin v_this_words v_this_paste0 v_told v_low v_high v_values u6)) [4, 0, 1, 2, 3, 5] rfl
      have hD := hD.sub (ws' := (w_M_makeHoles ad a_this a_units a_kinds a_values a_names a_low a_high a_told a_leftOut a_isMade a_hands a_pad a_court a_title a_out k_told k_low k_high k_values k_pad v_this_thrown v_this_size v_this_families v_this_atHand v_this_family v_this_density u5 v_this_hasThermal v_this_titleSize v_this_written v_this_at v_this_begin v_this_words v_this_paste0 v_told v_low v_high v_values u6)) [4, 0, 1, 2, 3, 5] (by decide) rfl
      refine lv_lload hx hb dM_makeHoles_309 (lv_at hl 4 rfl) ?_
      refine lv_lconst (v := 1) hx hb dM_makeHoles_311 (by decide) ?_
      refine lv_ladd hx hb dM_makeHoles_312 ?_
      refine lv_topl (fun x7 ex7 => ?_)
      replace h := h x7 ex7
      refine lv_lstore (lv' := [(10, .long x7), (0, .ref a_this), (4, .long y4), (6, .long y6), (8, .long y8)]) hx hb dM_makeHoles_313 hl (by decide) rfl (fun ls hl => ?_)
      refine lv_goto (tgt := 247) hx hb dM_makeHoles_315 (by decide) ?_
      exact ih y4 y6 y8 x7 u5 u6 _ _ h hP hD hS ls (lv_sub hl [1, 2, 3, 4, 0] rfl)
def P_M_makeHoles_167 (v_high : Nat → Int64) (post : Int32 → Int32 → (Nat → Int64) → Prop) : Nat → Int64 → Int64 → Int64 → Int64 → Int32 → (Nat → Int64) → Prop
  | 0, _, _, _, _, _, _ => False
  | n + 1, y4, y6, y8, y10, u_this_pads, u_pad => ((y8 ≤ y10 → ∃ n2, P_M_makeHoles_247 v_high post n2 y4 y6 y8 0 u_this_pads u_pad) ∧ (¬ y8 ≤ y10 → vp_in 0 12 ∧ vp_in 3 12 ∧ P_M_middle y8 ((y8 - 1) - y10) (v_high (3 : Int32).toNatClampNeg) (fun (r5 : Int64) => P_M_addPad (u_this_pads + 1) (((-(v_high (0 : Int32).toNatClampNeg)) / 2) - (y6 / 2)) (r5 - (y6 / 2)) y6 y6 1 y4 u_this_pads u_pad (fun (u6 : Int32) (u7 : Nat → Int64) => ∀ x8 : Int64, x8 = y10 + 1 → P_M_makeHoles_167 v_high post n y4 y6 y8 x8 u6 u7))))
set_option maxHeartbeats 4000000 in
set_option maxRecDepth 100000 in
theorem w_M_makeHoles_167 (l : Launch) {p : Program} {e : Env} {s : State} {m : MethodId} {args : Array Value} {below : List Frame} {meth : Method} {c : Code} {dC : Nat → ClassId} {dI : Nat → Nat → Nat} {ad : Nat → Nat → Nat} {A : Nat → Prop} (C0 : zC p s m args meth c cM_makeHoles 12 RM zT (some .boolean) A) (hE : zE ad A s) (a_this : Nat) (a_units : Nat) (a_kinds : Nat) (a_values : Nat) (a_names : Nat) (a_low : Nat) (a_high : Nat) (a_told : Nat) (a_leftOut : Nat) (a_isMade : Nat) (a_hands : Nat) (a_pad : Nat) (a_court : Nat) (a_title : Nat) (a_out : Nat) (k_told : ClassId) (k_low : ClassId) (k_high : ClassId) (k_values : ClassId) (k_pad : ClassId) (p1 : Int64) (v_this_thrown : Int32) (v_this_size : Int32) (v_this_families : Int32) (v_this_atHand : Int32) (v_this_family : Int32) (v_this_density : Int32) (v_this_pads : Int32) (v_this_hasThermal : Int32) (v_this_titleSize : Int32) (v_this_written : Int32) (v_this_at : Int32) (v_this_begin : Int32) (v_this_words : Int32) (v_this_paste0 : Int64) (v_told : Nat → Int32) (v_low : Nat → Int64) (v_high : Nat → Int64) (v_values : Nat → Int64) (v_pad : Nat → Int64) (post : Int32 → Int32 → (Nat → Int64) → Prop) (hK : va_K (dC, dI) vwCl [(k_told, .boolean), (k_low, .long), (k_high, .long), (k_values, .long), (k_pad, .long)] s) : ∀ (n : Nat), ∀ (y4 : Int64) (y6 : Int64) (y8 : Int64) (y10 : Int64) (u_this_pads : Int32) (u_pad : Nat → Int64) (H : Heap) (locs : List Loc), P_M_makeHoles_167 v_high post n y4 y6 y8 y10 u_this_pads u_pad → va_P (dC, dI) vwCl (w_M_makeHoles ad a_this a_units a_kinds a_values a_names a_low a_high a_told a_leftOut a_isMade a_hands a_pad a_court a_title a_out k_told k_low k_high k_values k_pad v_this_thrown v_this_size v_this_families v_this_atHand v_this_family v_this_density u_this_pads v_this_hasThermal v_this_titleSize v_this_written v_this_at v_this_begin v_this_words v_this_paste0 v_told v_low v_high v_values u_pad) H → va_D A (w_M_makeHoles ad a_this a_units a_kinds a_values a_names a_low a_high a_told a_leftOut a_isMade a_hands a_pad a_court a_title a_out k_told k_low k_high k_values k_pad v_this_thrown v_this_size v_this_families v_this_atHand v_this_family v_this_density u_this_pads v_this_hasThermal v_this_titleSize v_this_written v_this_at v_this_begin v_this_words v_this_paste0 v_told v_low v_high v_values u_pad) → va_S A s.heap H locs → ∀ ls : Array Slot, lv_has ls 12 [(0, .ref a_this), (4, .long y4), (6, .long y6), (8, .long y8), (10, .long y10)] → W p l e (headSpec wsM_makeHoles { frames := 2, cells := 0, slots := 0, locals := 45 }).room s m args below meth c H locs 0 0 (MQ below (va_Qi (fun (r : Int32) (u : Int32 × (Nat → Int64)) => post r u.1 u.2) (zB (dC, dI) A (fun (u : Int32 × (Nat → Int64)) => (w_M_makeHoles ad a_this a_units a_kinds a_values a_names a_low a_high a_told a_leftOut a_isMade a_hands a_pad a_court a_title a_out k_told k_low k_high k_values k_pad v_this_thrown v_this_size v_this_families v_this_atHand v_this_family v_this_density u.1 v_this_hasThermal v_this_titleSize v_this_written v_this_at v_this_begin v_this_words v_this_paste0 v_told v_low v_high v_values u.2))) A) args s 0 0 A) (F0 m 167 ls []) := by
  obtain ⟨hx, hb, hr, hml, hown, hts, hlocks, hA⟩ := id C0
  intro n
  induction n with
  | zero =>
    intro y4 y6 y8 y10 u_this_pads u_pad H locs h
    exact False.elim h
  | succ n ih =>
    intro y4 y6 y8 y10 u_this_pads u_pad H locs h hP hD hS ls hl
    rw [P_M_makeHoles_167] at h
    refine lv_lload hx hb dM_makeHoles_167 (lv_at hl 4 rfl) ?_
    refine lv_lload hx hb dM_makeHoles_169 (lv_at hl 3 rfl) ?_
    refine zz_lcmp_ge (tgt := 244) hx hb dM_makeHoles_171 dM_makeHoles_172 (by decide) ?_ ?_
    · intro c1
      replace h := h.1 c1
      refine lv_lconst (v := 0) hx hb dM_makeHoles_244 (by decide) ?_
      refine lv_lstore (lv' := [(10, .long 0), (0, .ref a_this), (4, .long y4), (6, .long y6), (8, .long y8)]) hx hb dM_makeHoles_245 hl (by decide) rfl (fun ls hl => ?_)
      obtain ⟨n2, h⟩ := h
      exact w_M_makeHoles_247 l C0 hE a_this a_units a_kinds a_values a_names a_low a_high a_told a_leftOut a_isMade a_hands a_pad a_court a_title a_out k_told k_low k_high k_values k_pad p1 v_this_thrown v_this_size v_this_families v_this_atHand v_this_family v_this_density v_this_pads v_this_hasThermal v_this_titleSize v_this_written v_this_at v_this_begin v_this_words v_this_paste0 v_told v_low v_high v_values v_pad post hK n2 y4 y6 y8 0 u_this_pads u_pad _ _ h hP hD hS ls (lv_sub hl [1, 2, 3, 4, 0] rfl)
    · intro c1
      replace h := h.2 c1
      refine lv_aload_n hx hb dM_makeHoles_175 rfl (lv_at hl 0 rfl) ?_
      refine lv_aload_n hx hb dM_makeHoles_176 rfl (lv_at hl 0 rfl) ?_
      refine va_get (D := (dC, dI)) (ci := 10) (v := .int u_this_pads) (C := RM) (T := TM) (N := 28) hx hb hts inZ_M hown hK hP 0 rfl rfl 16 (by decide) (hts _ zw_1060) (fun _ h9 => h9) rfl dM_makeHoles_177 ?_
      refine lv_iconst (v := 1) hx hb dM_makeHoles_180 (by decide) ?_
      refine lv_iadd hx hb dM_makeHoles_181 ?_
      refine lv_aload_n hx hb dM_makeHoles_182 rfl (lv_at hl 0 rfl) ?_
      refine va_get (D := (dC, dI)) (ci := 10) (v := .ref a_high) (C := RM) (T := TM) (N := 28) hx hb hts inZ_M hown hK hP 0 rfl rfl 8 (by decide) (hts _ zw_1052) (fun _ h9 => h9) rfl dM_makeHoles_183 ?_
      refine lv_iconst (v := 0) hx hb dM_makeHoles_186 (by decide) ?_
      obtain ⟨hn3, h⟩ := h
      refine va_lald hx hb hK hP 3 2 rfl rfl hn3 dM_makeHoles_187 ?_
      refine lv_lneg hx hb dM_makeHoles_188 ?_
      refine lv_ldc2 (own := RM) (index := 90) (v := 2) hx hb hown (hts _ zw_1179) dM_makeHoles_189 ?_
      refine lv_ldiv hx hb dM_makeHoles_192 (by decide) ?_
      refine lv_lload hx hb dM_makeHoles_193 (lv_at hl 2 rfl) ?_
      refine lv_ldc2 (own := RM) (index := 90) (v := 2) hx hb hown (hts _ zw_1179) dM_makeHoles_195 ?_
      refine lv_ldiv hx hb dM_makeHoles_198 (by decide) ?_
      refine lv_lsub hx hb dM_makeHoles_199 ?_
      refine lv_lload hx hb dM_makeHoles_200 (lv_at hl 3 rfl) ?_
      refine lv_lload hx hb dM_makeHoles_202 (lv_at hl 3 rfl) ?_
      refine lv_lconst (v := 1) hx hb dM_makeHoles_204 (by decide) ?_
      refine lv_lsub hx hb dM_makeHoles_205 ?_
      refine lv_lload hx hb dM_makeHoles_206 (lv_at hl 4 rfl) ?_
      refine lv_lsub hx hb dM_makeHoles_208 ?_
      refine lv_aload_n hx hb dM_makeHoles_209 rfl (lv_at hl 0 rfl) ?_
      refine va_get (D := (dC, dI)) (ci := 10) (v := .ref a_high) (C := RM) (T := TM) (N := 28) hx hb hts inZ_M hown hK hP 0 rfl rfl 8 (by decide) (hts _ zw_1052) (fun _ h9 => h9) rfl dM_makeHoles_210 ?_
      refine lv_iconst (v := 3) hx hb dM_makeHoles_213 (by decide) ?_
      obtain ⟨hn4, h⟩ := h
      refine va_lald hx hb hK hP 3 2 rfl rfl hn4 dM_makeHoles_214 ?_
      refine zcall_l hP hD hS hA [] [0, 1, 2, 3, 4, 5] (va_runS (As := [.long y8, .long ((y8 - 1) - y10), .long (v_high (3 : Int32).toNatClampNeg)]) (rest := [.long (((-(v_high (0 : Int32).toNatClampNeg)) / 2) - (y6 / 2)), .int (u_this_pads + 1), .ref a_this]) ⟨hx, hb, hml, hown, hts⟩ (c_M_middle l dC dI ad _ y8 ((y8 - 1) - y10) (v_high (3 : Int32).toNatClampNeg) _ h) ⟨callB_of 3 hts (zgood zc_M_middle) rfl rfl rfl (hts _ zw_107) (hts _ zw_1221) (by decide +kernel) ⟨Nat.le_of_ble_eq_true rfl, Nat.le_of_ble_eq_true rfl⟩, (hts _ zw_1222)⟩ (zpreS hE hK hP hD hS hA [] [] (by rfl) (by rfl) (by decide)) rfl rfl hl.1 rfl (lv_room (Nat.le_of_ble_eq_true rfl)) dM_makeHoles_215 ⟨Nat.le_of_ble_eq_true rfl, Nat.le_of_ble_eq_true rfl⟩) (by rfl) (by rfl) (by decide) (by decide) (fun r5 u H locs h hP hD hS => ?_)
      try dsimp only at h
      have hP := hP.sub (ws' := (w_M_makeHoles ad a_this a_units a_kinds a_values a_names a_low a_high a_told a_leftOut a_isMade a_hands a_pad a_court a_title a_out k_told k_low k_high k_values k_pad v_this_thrown v_this_size v_this_families v_this_atHand v_this_family v_this_density u_this_pads v_this_hasThermal v_this_titleSize v_this_written v_this_at v_this_begin v_this_words v_this_paste0 v_told v_low v_high v_values u_pad)) [0, 1, 2, 3, 4, 5] rfl
      have hD := hD.sub (ws' := (w_M_makeHoles ad a_this a_units a_kinds a_values a_names a_low a_high a_told a_leftOut a_isMade a_hands a_pad a_court a_title a_out k_told k_low k_high k_values k_pad v_this_thrown v_this_size v_this_families v_this_atHand v_this_family v_this_density u_this_pads v_this_hasThermal v_this_titleSize v_this_written v_this_at v_this_begin v_this_words v_this_paste0 v_told v_low v_high v_values u_pad)) [0, 1, 2, 3, 4, 5] (by decide) rfl
      refine lv_lload hx hb dM_makeHoles_218 (lv_at hl 2 rfl) ?_
      refine lv_ldc2 (own := RM) (index := 90) (v := 2) hx hb hown (hts _ zw_1179) dM_makeHoles_220 ?_
      refine lv_ldiv hx hb dM_makeHoles_223 (by decide) ?_
      refine lv_lsub hx hb dM_makeHoles_224 ?_
      refine lv_lload hx hb dM_makeHoles_225 (lv_at hl 2 rfl) ?_
      refine lv_lload hx hb dM_makeHoles_227 (lv_at hl 2 rfl) ?_
      refine lv_iconst (v := 1) hx hb dM_makeHoles_229 (by decide) ?_
      refine lv_lload hx hb dM_makeHoles_230 (lv_at hl 1 rfl) ?_
      refine zcall_v hP hD hS hA [0, 5] [1, 2, 3, 4] (va_runV (As := [.int (u_this_pads + 1), .long (((-(v_high (0 : Int32).toNatClampNeg)) / 2) - (y6 / 2)), .long (r5 - (y6 / 2)), .long y6, .long y6, .int 1, .long y4]) (rest := []) ⟨hx, hb, hml, hown, hts⟩ (c_M_addPad l dC dI ad a_this a_units a_kinds a_values a_names a_low a_high a_told a_leftOut a_isMade a_hands a_pad a_court a_title a_out k_pad _ (u_this_pads + 1) (((-(v_high (0 : Int32).toNatClampNeg)) / 2) - (y6 / 2)) (r5 - (y6 / 2)) y6 y6 1 y4 v_this_thrown v_this_size v_this_families v_this_atHand v_this_family v_this_density u_this_pads v_this_hasThermal v_this_titleSize v_this_written v_this_at v_this_begin v_this_words v_this_paste0 u_pad _ h) ⟨callB_of 7 hts (zgood zc_M_addPad) rfl rfl rfl (hts _ zw_107) (hts _ zw_1224) (by decide +kernel) ⟨Nat.le_of_ble_eq_true rfl, Nat.le_of_ble_eq_true rfl⟩, (hts _ zw_1226), (hts _ zw_78)⟩ (zpreV hE hK hP hD hS hA [0, 5] [4] (by rfl) (by rfl) (by decide) (ci := 10) (q0 := 0) rfl (by rfl)) rfl rfl hl.1 rfl (lv_room (Nat.le_of_ble_eq_true rfl)) dM_makeHoles_232 ⟨Nat.le_of_ble_eq_true rfl, Nat.le_of_ble_eq_true rfl⟩) (by rfl) (by rfl) (by decide) (by decide) (fun u H locs h hP hD hS => ?_)
      obtain ⟨u6, u7⟩ := u
      try dsimp only at h
      have hP := hP.sub (ws' := (w_M_makeHoles ad a_this a_units a_kinds a_values a_names a_low a_high a_told a_leftOut a_isMade a_hands a_pad a_court a_title a_out k_told k_low k_high k_values k_pad v_this_thrown v_this_size v_this_families v_this_atHand v_this_family v_this_density u6 v_this_hasThermal v_this_titleSize v_this_written v_this_at v_this_begin v_this_words v_this_paste0 v_told v_low v_high v_values u7)) [4, 0, 1, 2, 3, 5] rfl
      have hD := hD.sub (ws' := (w_M_makeHoles ad a_this a_units a_kinds a_values a_names a_low a_high a_told a_leftOut a_isMade a_hands a_pad a_court a_title a_out k_told k_low k_high k_values k_pad v_this_thrown v_this_size v_this_families v_this_atHand v_this_family v_this_density u6 v_this_hasThermal v_this_titleSize v_this_written v_this_at v_this_begin v_this_words v_this_paste0 v_told v_low v_high v_values u7)) [4, 0, 1, 2, 3, 5] (by decide) rfl
      refine lv_lload hx hb dM_makeHoles_235 (lv_at hl 4 rfl) ?_
      refine lv_lconst (v := 1) hx hb dM_makeHoles_237 (by decide) ?_
      refine lv_ladd hx hb dM_makeHoles_238 ?_
      refine lv_topl (fun x8 ex8 => ?_)
      replace h := h x8 ex8
      refine lv_lstore (lv' := [(10, .long x8), (0, .ref a_this), (4, .long y4), (6, .long y6), (8, .long y8)]) hx hb dM_makeHoles_239 hl (by decide) rfl (fun ls hl => ?_)
      refine lv_goto (tgt := 167) hx hb dM_makeHoles_241 (by decide) ?_
      exact ih y4 y6 y8 x8 u6 u7 _ _ h hP hD hS ls (lv_sub hl [1, 2, 3, 4, 0] rfl)
def P_M_makeHoles_68 (p1 : Int64) (v_this_family : Int32) (v_this_density : Int32) (v_this_pads : Int32) (v_high : Nat → Int64) (v_values : Nat → Int64) (v_pad : Nat → Int64) (post : Int32 → Int32 → (Nat → Int64) → Prop) (t0 : Int32) : Prop := ((¬ t0 = 0 → vp_in 2 12 ∧ P_M_of 1 v_this_family v_this_density v_values (fun (r3 : Int64) => P_M_up ((v_high (2 : Int32).toNatClampNeg) + (2 * r3)) (2 * p1) (fun (r4 : Int64) => P_M_of 2 v_this_family v_this_density v_values (fun (r5 : Int64) => P_M_up r5 p1 (fun (r6 : Int64) => ∀ x7 : Int64, x7 = r4 + (2 * r6) → ((r4 ≤ 0 → post 0 v_this_pads v_pad) ∧ (¬ r4 ≤ 0 → vp_in 3 12 ∧ (((v_high (3 : Int32).toNatClampNeg) ≤ x7 → post 0 v_this_pads v_pad) ∧ (¬ (v_high (3 : Int32).toNatClampNeg) ≤ x7 → vp_in 0 12 ∧ ((x7 < (v_high (0 : Int32).toNatClampNeg) → vp_in 4 12 ∧ ∀ x14 : Int64, x14 = (v_high (4 : Int32).toNatClampNeg) / 2 → ∃ n15, P_M_makeHoles_167 v_high post n15 r4 x7 x14 0 v_this_pads v_pad) ∧ (¬ x7 < (v_high (0 : Int32).toNatClampNeg) → post 0 v_this_pads v_pad))))))))))) ∧ (t0 = 0 → post 0 v_this_pads v_pad))
set_option maxHeartbeats 4000000 in
set_option maxRecDepth 100000 in
theorem w_M_makeHoles_68 (l : Launch) {p : Program} {e : Env} {s : State} {m : MethodId} {args : Array Value} {below : List Frame} {meth : Method} {c : Code} {dC : Nat → ClassId} {dI : Nat → Nat → Nat} {ad : Nat → Nat → Nat} {A : Nat → Prop} (C0 : zC p s m args meth c cM_makeHoles 12 RM zT (some .boolean) A) (hE : zE ad A s) (a_this : Nat) (a_units : Nat) (a_kinds : Nat) (a_values : Nat) (a_names : Nat) (a_low : Nat) (a_high : Nat) (a_told : Nat) (a_leftOut : Nat) (a_isMade : Nat) (a_hands : Nat) (a_pad : Nat) (a_court : Nat) (a_title : Nat) (a_out : Nat) (k_told : ClassId) (k_low : ClassId) (k_high : ClassId) (k_values : ClassId) (k_pad : ClassId) (p1 : Int64) (v_this_thrown : Int32) (v_this_size : Int32) (v_this_families : Int32) (v_this_atHand : Int32) (v_this_family : Int32) (v_this_density : Int32) (v_this_pads : Int32) (v_this_hasThermal : Int32) (v_this_titleSize : Int32) (v_this_written : Int32) (v_this_at : Int32) (v_this_begin : Int32) (v_this_words : Int32) (v_this_paste0 : Int64) (v_told : Nat → Int32) (v_low : Nat → Int64) (v_high : Nat → Int64) (v_values : Nat → Int64) (v_pad : Nat → Int64) (post : Int32 → Int32 → (Nat → Int64) → Prop) (hK : va_K (dC, dI) vwCl [(k_told, .boolean), (k_low, .long), (k_high, .long), (k_values, .long), (k_pad, .long)] s) : ∀ (t0 : Int32) (H : Heap) (locs : List Loc), P_M_makeHoles_68 p1 v_this_family v_this_density v_this_pads v_high v_values v_pad post t0 → va_P (dC, dI) vwCl (w_M_makeHoles ad a_this a_units a_kinds a_values a_names a_low a_high a_told a_leftOut a_isMade a_hands a_pad a_court a_title a_out k_told k_low k_high k_values k_pad v_this_thrown v_this_size v_this_families v_this_atHand v_this_family v_this_density v_this_pads v_this_hasThermal v_this_titleSize v_this_written v_this_at v_this_begin v_this_words v_this_paste0 v_told v_low v_high v_values v_pad) H → va_D A (w_M_makeHoles ad a_this a_units a_kinds a_values a_names a_low a_high a_told a_leftOut a_isMade a_hands a_pad a_court a_title a_out k_told k_low k_high k_values k_pad v_this_thrown v_this_size v_this_families v_this_atHand v_this_family v_this_density v_this_pads v_this_hasThermal v_this_titleSize v_this_written v_this_at v_this_begin v_this_words v_this_paste0 v_told v_low v_high v_values v_pad) → va_S A s.heap H locs → ∀ ls : Array Slot, lv_has ls 12 [(0, .ref a_this), (1, .long p1)] → W p l e (headSpec wsM_makeHoles { frames := 2, cells := 0, slots := 0, locals := 45 }).room s m args below meth c H locs 0 0 (MQ below (va_Qi (fun (r : Int32) (u : Int32 × (Nat → Int64)) => post r u.1 u.2) (zB (dC, dI) A (fun (u : Int32 × (Nat → Int64)) => (w_M_makeHoles ad a_this a_units a_kinds a_values a_names a_low a_high a_told a_leftOut a_isMade a_hands a_pad a_court a_title a_out k_told k_low k_high k_values k_pad v_this_thrown v_this_size v_this_families v_this_atHand v_this_family v_this_density u.1 v_this_hasThermal v_this_titleSize v_this_written v_this_at v_this_begin v_this_words v_this_paste0 v_told v_low v_high v_values u.2))) A) args s 0 0 A) (F0 m 68 ls [.int t0]) := by
  obtain ⟨hx, hb, hr, hml, hown, hts, hlocks, hA⟩ := id C0
  intro t0 H locs h hP hD hS ls hl
  unfold P_M_makeHoles_68 at h
  refine lv_istore_n (lv' := [(3, .int t0), (0, .ref a_this), (1, .long p1)]) hx hb dM_makeHoles_68 rfl hl (by decide) rfl (fun ls hl => ?_)
  refine lv_iload_n hx hb dM_makeHoles_69 rfl (lv_at hl 0 rfl) ?_
  refine lv_if_ne (tgt := 75) hx hb dM_makeHoles_70 (by decide) ?_ ?_
  · intro c1
    replace h := h.1 c1
    refine lv_aload_n hx hb dM_makeHoles_75 rfl (lv_at hl 1 rfl) ?_
    refine va_get (D := (dC, dI)) (ci := 10) (v := .ref a_high) (C := RM) (T := TM) (N := 28) hx hb hts inZ_M hown hK hP 0 rfl rfl 8 (by decide) (hts _ zw_1052) (fun _ h9 => h9) rfl dM_makeHoles_76 ?_
    refine lv_iconst (v := 2) hx hb dM_makeHoles_79 (by decide) ?_
    obtain ⟨hn2, h⟩ := h
    refine va_lald hx hb hK hP 3 2 rfl rfl hn2 dM_makeHoles_80 ?_
    refine lv_ldc2 (own := RM) (index := 90) (v := 2) hx hb hown (hts _ zw_1179) dM_makeHoles_81 ?_
    refine lv_aload_n hx hb dM_makeHoles_84 rfl (lv_at hl 1 rfl) ?_
    refine lv_iconst (v := 1) hx hb dM_makeHoles_85 (by decide) ?_
    refine zcall_l hP hD hS hA [0, 4] [1, 2, 3, 5] (va_runV (As := [.int 1]) (rest := [.long 2, .long (v_high (2 : Int32).toNatClampNeg)]) ⟨hx, hb, hml, hown, hts⟩ (c_M_of l dC dI ad a_this a_units a_kinds a_values a_names a_low a_high a_told a_leftOut a_isMade a_hands a_pad a_court a_title a_out k_values _ 1 v_this_thrown v_this_size v_this_families v_this_atHand v_this_family v_this_density v_this_pads v_this_hasThermal v_this_titleSize v_this_written v_this_at v_this_begin v_this_words v_this_paste0 v_values _ h) ⟨callB_of 1 hts (zgood zc_M_of) rfl rfl rfl (hts _ zw_107) (hts _ zw_1201) (by decide +kernel) ⟨Nat.le_of_ble_eq_true rfl, Nat.le_of_ble_eq_true rfl⟩, (hts _ zw_1203), (hts _ zw_74)⟩ (zpreV hE hK hP hD hS hA [0, 4] [3] (by rfl) (by rfl) (by decide) (ci := 10) (q0 := 0) rfl (by rfl)) rfl rfl hl.1 rfl (lv_room (Nat.le_of_ble_eq_true rfl)) dM_makeHoles_86 ⟨Nat.le_of_ble_eq_true rfl, Nat.le_of_ble_eq_true rfl⟩) (by rfl) (by rfl) (by decide) (by decide) (fun r3 u H locs h hP hD hS => ?_)
    try dsimp only at h
    have hP := hP.sub (ws' := (w_M_makeHoles ad a_this a_units a_kinds a_values a_names a_low a_high a_told a_leftOut a_isMade a_hands a_pad a_court a_title a_out k_told k_low k_high k_values k_pad v_this_thrown v_this_size v_this_families v_this_atHand v_this_family v_this_density v_this_pads v_this_hasThermal v_this_titleSize v_this_written v_this_at v_this_begin v_this_words v_this_paste0 v_told v_low v_high v_values v_pad)) [4, 0, 1, 2, 5, 3] rfl
    have hD := hD.sub (ws' := (w_M_makeHoles ad a_this a_units a_kinds a_values a_names a_low a_high a_told a_leftOut a_isMade a_hands a_pad a_court a_title a_out k_told k_low k_high k_values k_pad v_this_thrown v_this_size v_this_families v_this_atHand v_this_family v_this_density v_this_pads v_this_hasThermal v_this_titleSize v_this_written v_this_at v_this_begin v_this_words v_this_paste0 v_told v_low v_high v_values v_pad)) [4, 0, 1, 2, 5, 3] (by decide) rfl
    refine lv_lmul hx hb dM_makeHoles_89 ?_
    refine lv_ladd hx hb dM_makeHoles_90 ?_
    refine lv_ldc2 (own := RM) (index := 90) (v := 2) hx hb hown (hts _ zw_1179) dM_makeHoles_91 ?_
    refine lv_lload_n hx hb dM_makeHoles_94 rfl (lv_at hl 2 rfl) ?_
    refine lv_lmul hx hb dM_makeHoles_95 ?_
    refine zcall_l hP hD hS hA [] [0, 1, 2, 3, 4, 5] (va_runS (As := [.long ((v_high (2 : Int32).toNatClampNeg) + (2 * r3)), .long (2 * p1)]) (rest := []) ⟨hx, hb, hml, hown, hts⟩ (c_M_up l dC dI ad _ ((v_high (2 : Int32).toNatClampNeg) + (2 * r3)) (2 * p1) _ h) ⟨callB_of 2 hts (zgood zc_M_up) rfl rfl rfl (hts _ zw_107) (hts _ zw_1218) (by decide +kernel) ⟨Nat.le_of_ble_eq_true rfl, Nat.le_of_ble_eq_true rfl⟩, (hts _ zw_1219)⟩ (zpreS hE hK hP hD hS hA [] [] (by rfl) (by rfl) (by decide)) rfl rfl hl.1 rfl (lv_room (Nat.le_of_ble_eq_true rfl)) dM_makeHoles_96 ⟨Nat.le_of_ble_eq_true rfl, Nat.le_of_ble_eq_true rfl⟩) (by rfl) (by rfl) (by decide) (by decide) (fun r4 u H locs h hP hD hS => ?_)
    try dsimp only at h
    have hP := hP.sub (ws' := (w_M_makeHoles ad a_this a_units a_kinds a_values a_names a_low a_high a_told a_leftOut a_isMade a_hands a_pad a_court a_title a_out k_told k_low k_high k_values k_pad v_this_thrown v_this_size v_this_families v_this_atHand v_this_family v_this_density v_this_pads v_this_hasThermal v_this_titleSize v_this_written v_this_at v_this_begin v_this_words v_this_paste0 v_told v_low v_high v_values v_pad)) [0, 1, 2, 3, 4, 5] rfl
    have hD := hD.sub (ws' := (w_M_makeHoles ad a_this a_units a_kinds a_values a_names a_low a_high a_told a_leftOut a_isMade a_hands a_pad a_court a_title a_out k_told k_low k_high k_values k_pad v_this_thrown v_this_size v_this_families v_this_atHand v_this_family v_this_density v_this_pads v_this_hasThermal v_this_titleSize v_this_written v_this_at v_this_begin v_this_words v_this_paste0 v_told v_low v_high v_values v_pad)) [0, 1, 2, 3, 4, 5] (by decide) rfl
    refine lv_lstore (lv' := [(4, .long r4), (3, .int t0), (0, .ref a_this), (1, .long p1)]) hx hb dM_makeHoles_99 hl (by decide) rfl (fun ls hl => ?_)
    refine lv_lload hx hb dM_makeHoles_101 (lv_at hl 0 rfl) ?_
    refine lv_ldc2 (own := RM) (index := 90) (v := 2) hx hb hown (hts _ zw_1179) dM_makeHoles_103 ?_
    refine lv_aload_n hx hb dM_makeHoles_106 rfl (lv_at hl 2 rfl) ?_
    refine lv_iconst (v := 2) hx hb dM_makeHoles_107 (by decide) ?_
    refine zcall_l hP hD hS hA [0, 4] [1, 2, 3, 5] (va_runV (As := [.int 2]) (rest := [.long 2, .long r4]) ⟨hx, hb, hml, hown, hts⟩ (c_M_of l dC dI ad a_this a_units a_kinds a_values a_names a_low a_high a_told a_leftOut a_isMade a_hands a_pad a_court a_title a_out k_values _ 2 v_this_thrown v_this_size v_this_families v_this_atHand v_this_family v_this_density v_this_pads v_this_hasThermal v_this_titleSize v_this_written v_this_at v_this_begin v_this_words v_this_paste0 v_values _ h) ⟨callB_of 1 hts (zgood zc_M_of) rfl rfl rfl (hts _ zw_107) (hts _ zw_1201) (by decide +kernel) ⟨Nat.le_of_ble_eq_true rfl, Nat.le_of_ble_eq_true rfl⟩, (hts _ zw_1203), (hts _ zw_74)⟩ (zpreV hE hK hP hD hS hA [0, 4] [3] (by rfl) (by rfl) (by decide) (ci := 10) (q0 := 0) rfl (by rfl)) rfl rfl hl.1 rfl (lv_room (Nat.le_of_ble_eq_true rfl)) dM_makeHoles_108 ⟨Nat.le_of_ble_eq_true rfl, Nat.le_of_ble_eq_true rfl⟩) (by rfl) (by rfl) (by decide) (by decide) (fun r5 u H locs h hP hD hS => ?_)
    try dsimp only at h
    have hP := hP.sub (ws' := (w_M_makeHoles ad a_this a_units a_kinds a_values a_names a_low a_high a_told a_leftOut a_isMade a_hands a_pad a_court a_title a_out k_told k_low k_high k_values k_pad v_this_thrown v_this_size v_this_families v_this_atHand v_this_family v_this_density v_this_pads v_this_hasThermal v_this_titleSize v_this_written v_this_at v_this_begin v_this_words v_this_paste0 v_told v_low v_high v_values v_pad)) [4, 0, 1, 2, 5, 3] rfl
    have hD := hD.sub (ws' := (w_M_makeHoles ad a_this a_units a_kinds a_values a_names a_low a_high a_told a_leftOut a_isMade a_hands a_pad a_court a_title a_out k_told k_low k_high k_values k_pad v_this_thrown v_this_size v_this_families v_this_atHand v_this_family v_this_density v_this_pads v_this_hasThermal v_this_titleSize v_this_written v_this_at v_this_begin v_this_words v_this_paste0 v_told v_low v_high v_values v_pad)) [4, 0, 1, 2, 5, 3] (by decide) rfl
    refine lv_lload_n hx hb dM_makeHoles_111 rfl (lv_at hl 3 rfl) ?_
    refine zcall_l hP hD hS hA [] [0, 1, 2, 3, 4, 5] (va_runS (As := [.long r5, .long p1]) (rest := [.long 2, .long r4]) ⟨hx, hb, hml, hown, hts⟩ (c_M_up l dC dI ad _ r5 p1 _ h) ⟨callB_of 2 hts (zgood zc_M_up) rfl rfl rfl (hts _ zw_107) (hts _ zw_1218) (by decide +kernel) ⟨Nat.le_of_ble_eq_true rfl, Nat.le_of_ble_eq_true rfl⟩, (hts _ zw_1219)⟩ (zpreS hE hK hP hD hS hA [] [] (by rfl) (by rfl) (by decide)) rfl rfl hl.1 rfl (lv_room (Nat.le_of_ble_eq_true rfl)) dM_makeHoles_112 ⟨Nat.le_of_ble_eq_true rfl, Nat.le_of_ble_eq_true rfl⟩) (by rfl) (by rfl) (by decide) (by decide) (fun r6 u H locs h hP hD hS => ?_)
    try dsimp only at h
    have hP := hP.sub (ws' := (w_M_makeHoles ad a_this a_units a_kinds a_values a_names a_low a_high a_told a_leftOut a_isMade a_hands a_pad a_court a_title a_out k_told k_low k_high k_values k_pad v_this_thrown v_this_size v_this_families v_this_atHand v_this_family v_this_density v_this_pads v_this_hasThermal v_this_titleSize v_this_written v_this_at v_this_begin v_this_words v_this_paste0 v_told v_low v_high v_values v_pad)) [0, 1, 2, 3, 4, 5] rfl
    have hD := hD.sub (ws' := (w_M_makeHoles ad a_this a_units a_kinds a_values a_names a_low a_high a_told a_leftOut a_isMade a_hands a_pad a_court a_title a_out k_told k_low k_high k_values k_pad v_this_thrown v_this_size v_this_families v_this_atHand v_this_family v_this_density v_this_pads v_this_hasThermal v_this_titleSize v_this_written v_this_at v_this_begin v_this_words v_this_paste0 v_told v_low v_high v_values v_pad)) [0, 1, 2, 3, 4, 5] (by decide) rfl
    refine lv_lmul hx hb dM_makeHoles_115 ?_
    refine lv_ladd hx hb dM_makeHoles_116 ?_
    refine lv_topl (fun x7 ex7 => ?_)
    replace h := h x7 ex7
    refine lv_lstore (lv' := [(6, .long x7), (4, .long r4), (3, .int t0), (0, .ref a_this), (1, .long p1)]) hx hb dM_makeHoles_117 hl (by decide) rfl (fun ls hl => ?_)
    refine lv_lload hx hb dM_makeHoles_119 (lv_at hl 1 rfl) ?_
    refine lv_lconst (v := 0) hx hb dM_makeHoles_121 (by decide) ?_
    refine zz_lcmp_le (tgt := 150) hx hb dM_makeHoles_122 dM_makeHoles_123 (by decide) ?_ ?_
    · intro c8
      replace h := h.1 c8
      refine lv_iconst (v := 0) hx hb dM_makeHoles_150 (by decide) ?_
      exact W.zret (v := 0) hx hb hr rfl (fun t ht hW => ⟨⟨0, (v_this_pads, v_pad), rfl, h, by rw [ht]; exact hP, hD⟩, hS.F ht⟩) hS.2.2 dM_makeHoles_151
    · intro c8
      replace h := h.2 c8
      refine lv_lload hx hb dM_makeHoles_126 (lv_at hl 0 rfl) ?_
      refine lv_aload_n hx hb dM_makeHoles_128 rfl (lv_at hl 3 rfl) ?_
      refine va_get (D := (dC, dI)) (ci := 10) (v := .ref a_high) (C := RM) (T := TM) (N := 28) hx hb hts inZ_M hown hK hP 0 rfl rfl 8 (by decide) (hts _ zw_1052) (fun _ h9 => h9) rfl dM_makeHoles_129 ?_
      refine lv_iconst (v := 3) hx hb dM_makeHoles_132 (by decide) ?_
      obtain ⟨hn9, h⟩ := h
      refine va_lald hx hb hK hP 3 2 rfl rfl hn9 dM_makeHoles_133 ?_
      refine zz_lcmp_ge (tgt := 150) hx hb dM_makeHoles_134 dM_makeHoles_135 (by decide) ?_ ?_
      · intro c10
        replace h := h.1 c10
        refine lv_iconst (v := 0) hx hb dM_makeHoles_150 (by decide) ?_
        exact W.zret (v := 0) hx hb hr rfl (fun t ht hW => ⟨⟨0, (v_this_pads, v_pad), rfl, h, by rw [ht]; exact hP, hD⟩, hS.F ht⟩) hS.2.2 dM_makeHoles_151
      · intro c10
        replace h := h.2 c10
        refine lv_lload hx hb dM_makeHoles_138 (lv_at hl 0 rfl) ?_
        refine lv_aload_n hx hb dM_makeHoles_140 rfl (lv_at hl 3 rfl) ?_
        refine va_get (D := (dC, dI)) (ci := 10) (v := .ref a_high) (C := RM) (T := TM) (N := 28) hx hb hts inZ_M hown hK hP 0 rfl rfl 8 (by decide) (hts _ zw_1052) (fun _ h9 => h9) rfl dM_makeHoles_141 ?_
        refine lv_iconst (v := 0) hx hb dM_makeHoles_144 (by decide) ?_
        obtain ⟨hn11, h⟩ := h
        refine va_lald hx hb hK hP 3 2 rfl rfl hn11 dM_makeHoles_145 ?_
        refine zz_lcmp_lt (tgt := 152) hx hb dM_makeHoles_146 dM_makeHoles_147 (by decide) ?_ ?_
        · intro c12
          replace h := h.1 c12
          refine lv_aload_n hx hb dM_makeHoles_152 rfl (lv_at hl 3 rfl) ?_
          refine va_get (D := (dC, dI)) (ci := 10) (v := .ref a_high) (C := RM) (T := TM) (N := 28) hx hb hts inZ_M hown hK hP 0 rfl rfl 8 (by decide) (hts _ zw_1052) (fun _ h9 => h9) rfl dM_makeHoles_153 ?_
          refine lv_iconst (v := 4) hx hb dM_makeHoles_156 (by decide) ?_
          obtain ⟨hn13, h⟩ := h
          refine va_lald hx hb hK hP 3 2 rfl rfl hn13 dM_makeHoles_157 ?_
          refine lv_ldc2 (own := RM) (index := 90) (v := 2) hx hb hown (hts _ zw_1179) dM_makeHoles_158 ?_
          refine lv_ldiv hx hb dM_makeHoles_161 (by decide) ?_
          refine lv_topl (fun x14 ex14 => ?_)
          replace h := h x14 ex14
          refine lv_lstore (lv' := [(8, .long x14), (6, .long x7), (4, .long r4), (3, .int t0), (0, .ref a_this), (1, .long p1)]) hx hb dM_makeHoles_162 hl (by decide) rfl (fun ls hl => ?_)
          refine lv_lconst (v := 0) hx hb dM_makeHoles_164 (by decide) ?_
          refine lv_lstore (lv' := [(10, .long 0), (8, .long x14), (6, .long x7), (4, .long r4), (3, .int t0), (0, .ref a_this), (1, .long p1)]) hx hb dM_makeHoles_165 hl (by decide) rfl (fun ls hl => ?_)
          obtain ⟨n15, h⟩ := h
          exact w_M_makeHoles_167 l C0 hE a_this a_units a_kinds a_values a_names a_low a_high a_told a_leftOut a_isMade a_hands a_pad a_court a_title a_out k_told k_low k_high k_values k_pad p1 v_this_thrown v_this_size v_this_families v_this_atHand v_this_family v_this_density v_this_pads v_this_hasThermal v_this_titleSize v_this_written v_this_at v_this_begin v_this_words v_this_paste0 v_told v_low v_high v_values v_pad post hK n15 r4 x7 x14 0 v_this_pads v_pad _ _ h hP hD hS ls (lv_sub hl [5, 3, 2, 1, 0] rfl)
        · intro c12
          replace h := h.2 c12
          refine lv_iconst (v := 0) hx hb dM_makeHoles_150 (by decide) ?_
          exact W.zret (v := 0) hx hb hr rfl (fun t ht hW => ⟨⟨0, (v_this_pads, v_pad), rfl, h, by rw [ht]; exact hP, hD⟩, hS.F ht⟩) hS.2.2 dM_makeHoles_151
  · intro c1
    replace h := h.2 c1
    refine lv_iconst (v := 0) hx hb dM_makeHoles_73 (by decide) ?_
    exact W.zret (v := 0) hx hb hr rfl (fun t ht hW => ⟨⟨0, (v_this_pads, v_pad), rfl, h, by rw [ht]; exact hP, hD⟩, hS.F ht⟩) hS.2.2 dM_makeHoles_74
def P_M_makeHoles_67 (p1 : Int64) (v_this_family : Int32) (v_this_density : Int32) (v_this_pads : Int32) (v_high : Nat → Int64) (v_values : Nat → Int64) (v_pad : Nat → Int64) (post : Int32 → Int32 → (Nat → Int64) → Prop)  : Prop := P_M_makeHoles_68 p1 v_this_family v_this_density v_this_pads v_high v_values v_pad post 0
set_option maxHeartbeats 4000000 in
set_option maxRecDepth 100000 in
theorem w_M_makeHoles_67 (l : Launch) {p : Program} {e : Env} {s : State} {m : MethodId} {args : Array Value} {below : List Frame} {meth : Method} {c : Code} {dC : Nat → ClassId} {dI : Nat → Nat → Nat} {ad : Nat → Nat → Nat} {A : Nat → Prop} (C0 : zC p s m args meth c cM_makeHoles 12 RM zT (some .boolean) A) (hE : zE ad A s) (a_this : Nat) (a_units : Nat) (a_kinds : Nat) (a_values : Nat) (a_names : Nat) (a_low : Nat) (a_high : Nat) (a_told : Nat) (a_leftOut : Nat) (a_isMade : Nat) (a_hands : Nat) (a_pad : Nat) (a_court : Nat) (a_title : Nat) (a_out : Nat) (k_told : ClassId) (k_low : ClassId) (k_high : ClassId) (k_values : ClassId) (k_pad : ClassId) (p1 : Int64) (v_this_thrown : Int32) (v_this_size : Int32) (v_this_families : Int32) (v_this_atHand : Int32) (v_this_family : Int32) (v_this_density : Int32) (v_this_pads : Int32) (v_this_hasThermal : Int32) (v_this_titleSize : Int32) (v_this_written : Int32) (v_this_at : Int32) (v_this_begin : Int32) (v_this_words : Int32) (v_this_paste0 : Int64) (v_told : Nat → Int32) (v_low : Nat → Int64) (v_high : Nat → Int64) (v_values : Nat → Int64) (v_pad : Nat → Int64) (post : Int32 → Int32 → (Nat → Int64) → Prop) (hK : va_K (dC, dI) vwCl [(k_told, .boolean), (k_low, .long), (k_high, .long), (k_values, .long), (k_pad, .long)] s) : ∀  (H : Heap) (locs : List Loc), P_M_makeHoles_67 p1 v_this_family v_this_density v_this_pads v_high v_values v_pad post → va_P (dC, dI) vwCl (w_M_makeHoles ad a_this a_units a_kinds a_values a_names a_low a_high a_told a_leftOut a_isMade a_hands a_pad a_court a_title a_out k_told k_low k_high k_values k_pad v_this_thrown v_this_size v_this_families v_this_atHand v_this_family v_this_density v_this_pads v_this_hasThermal v_this_titleSize v_this_written v_this_at v_this_begin v_this_words v_this_paste0 v_told v_low v_high v_values v_pad) H → va_D A (w_M_makeHoles ad a_this a_units a_kinds a_values a_names a_low a_high a_told a_leftOut a_isMade a_hands a_pad a_court a_title a_out k_told k_low k_high k_values k_pad v_this_thrown v_this_size v_this_families v_this_atHand v_this_family v_this_density v_this_pads v_this_hasThermal v_this_titleSize v_this_written v_this_at v_this_begin v_this_words v_this_paste0 v_told v_low v_high v_values v_pad) → va_S A s.heap H locs → ∀ ls : Array Slot, lv_has ls 12 [(0, .ref a_this), (1, .long p1)] → W p l e (headSpec wsM_makeHoles { frames := 2, cells := 0, slots := 0, locals := 45 }).room s m args below meth c H locs 0 0 (MQ below (va_Qi (fun (r : Int32) (u : Int32 × (Nat → Int64)) => post r u.1 u.2) (zB (dC, dI) A (fun (u : Int32 × (Nat → Int64)) => (w_M_makeHoles ad a_this a_units a_kinds a_values a_names a_low a_high a_told a_leftOut a_isMade a_hands a_pad a_court a_title a_out k_told k_low k_high k_values k_pad v_this_thrown v_this_size v_this_families v_this_atHand v_this_family v_this_density u.1 v_this_hasThermal v_this_titleSize v_this_written v_this_at v_this_begin v_this_words v_this_paste0 v_told v_low v_high v_values u.2))) A) args s 0 0 A) (F0 m 67 ls []) := by
  obtain ⟨hx, hb, hr, hml, hown, hts, hlocks, hA⟩ := id C0
  intro  H locs h hP hD hS ls hl
  unfold P_M_makeHoles_67 at h
  refine lv_iconst (v := 0) hx hb dM_makeHoles_67 (by decide) ?_
  exact w_M_makeHoles_68 l C0 hE a_this a_units a_kinds a_values a_names a_low a_high a_told a_leftOut a_isMade a_hands a_pad a_court a_title a_out k_told k_low k_high k_values k_pad p1 v_this_thrown v_this_size v_this_families v_this_atHand v_this_family v_this_density v_this_pads v_this_hasThermal v_this_titleSize v_this_written v_this_at v_this_begin v_this_words v_this_paste0 v_told v_low v_high v_values v_pad post hK 0 _ _ h hP hD hS ls (lv_sub hl [0, 1] rfl)
def P_M_makeHoles (p1 : Int64) (v_this_family : Int32) (v_this_density : Int32) (v_this_pads : Int32) (v_told : Nat → Int32) (v_low : Nat → Int64) (v_high : Nat → Int64) (v_values : Nat → Int64) (v_pad : Nat → Int64) (post : Int32 → Int32 → (Nat → Int64) → Prop) : Prop := P_M_isExact 0 v_told v_low v_high (fun (r1 : Int32) => ((r1 = 0 → P_M_makeHoles_67 p1 v_this_family v_this_density v_this_pads v_high v_values v_pad post) ∧ (¬ r1 = 0 → vp_in 0 12 ∧ (((v_high (0 : Int32).toNatClampNeg) ≤ 0 → P_M_makeHoles_67 p1 v_this_family v_this_density v_this_pads v_high v_values v_pad post) ∧ (¬ (v_high (0 : Int32).toNatClampNeg) ≤ 0 → vp_in 0 12 ∧ ((¬ ((v_high (0 : Int32).toNatClampNeg) - (v_high (0 : Int32).toNatClampNeg) / 2 * 2) = 0 → P_M_makeHoles_67 p1 v_this_family v_this_density v_this_pads v_high v_values v_pad post) ∧ (((v_high (0 : Int32).toNatClampNeg) - (v_high (0 : Int32).toNatClampNeg) / 2 * 2) = 0 → vp_in 2 12 ∧ (((v_told (2 : Int32).toNatClampNeg) = 0 → P_M_makeHoles_67 p1 v_this_family v_this_density v_this_pads v_high v_values v_pad post) ∧ (¬ (v_told (2 : Int32).toNatClampNeg) = 0 → P_M_hasPitch v_told v_low v_high (fun (r9 : Int32) => ((r9 = 0 → P_M_makeHoles_67 p1 v_this_family v_this_density v_this_pads v_high v_values v_pad post) ∧ (¬ r9 = 0 → P_M_hasCount 2 2 v_told v_low v_high (fun (r11 : Int32) => ((r11 = 0 → P_M_makeHoles_67 p1 v_this_family v_this_density v_this_pads v_high v_values v_pad post) ∧ (¬ r11 = 0 → P_M_makeHoles_68 p1 v_this_family v_this_density v_this_pads v_high v_values v_pad post 1)))))))))))))))
set_option maxHeartbeats 4000000 in
set_option maxRecDepth 100000 in
theorem c_M_makeHoles (l : Launch) (dC : Nat → ClassId) (dI : Nat → Nat → Nat) (ad : Nat → Nat → Nat) (a_this : Nat) (a_units : Nat) (a_kinds : Nat) (a_values : Nat) (a_names : Nat) (a_low : Nat) (a_high : Nat) (a_told : Nat) (a_leftOut : Nat) (a_isMade : Nat) (a_hands : Nat) (a_pad : Nat) (a_court : Nat) (a_title : Nat) (a_out : Nat) (k_told : ClassId) (k_low : ClassId) (k_high : ClassId) (k_values : ClassId) (k_pad : ClassId) (sz : Nat) (p1 : Int64) (v_this_thrown : Int32) (v_this_size : Int32) (v_this_families : Int32) (v_this_atHand : Int32) (v_this_family : Int32) (v_this_density : Int32) (v_this_pads : Int32) (v_this_hasThermal : Int32) (v_this_titleSize : Int32) (v_this_written : Int32) (v_this_at : Int32) (v_this_begin : Int32) (v_this_words : Int32) (v_this_paste0 : Int64) (v_told : Nat → Int32) (v_low : Nat → Int64) (v_high : Nat → Int64) (v_values : Nat → Int64) (v_pad : Nat → Int64) (post : Int32 → Int32 → (Nat → Int64) → Prop) (h : P_M_makeHoles p1 v_this_family v_this_density v_this_pads v_told v_low v_high v_values v_pad post) : zMi l yM_makeHoles wsM_makeHoles { frames := 2, cells := 0, slots := 0, locals := 45 } (dC, dI) ad [.ref a_this, .long p1] (w_M_makeHoles ad a_this a_units a_kinds a_values a_names a_low a_high a_told a_leftOut a_isMade a_hands a_pad a_court a_title a_out k_told k_low k_high k_values k_pad v_this_thrown v_this_size v_this_families v_this_atHand v_this_family v_this_density v_this_pads v_this_hasThermal v_this_titleSize v_this_written v_this_at v_this_begin v_this_words v_this_paste0 v_told v_low v_high v_values v_pad) [(k_told, .boolean), (k_low, .long), (k_high, .long), (k_values, .long), (k_pad, .long)] sz (fun (r : Int32) (u : Int32 × (Nat → Int64)) => post r u.1 u.2) (fun (u : Int32 × (Nat → Int64)) => (w_M_makeHoles ad a_this a_units a_kinds a_values a_names a_low a_high a_told a_leftOut a_isMade a_hands a_pad a_court a_title a_out k_told k_low k_high k_values k_pad v_this_thrown v_this_size v_this_families v_this_atHand v_this_family v_this_density u.1 v_this_hasThermal v_this_titleSize v_this_written v_this_at v_this_begin v_this_words v_this_paste0 v_told v_low v_high v_values u.2)) 0 0 := by
  refine Met.ofW (cc := cM_makeHoles) (maxL := 12) (ret := (some .boolean)) (by decide +kernel) rfl ?_
  intro p e s m args below meth c s₁ B hml hv
  obtain ⟨rfl, hsz, hP, hK, hD0, hE⟩ := hv
  have hx := B.exec
  have hb := B.bytes
  have hr := B.returns
  have hts0 := atoms_spec (ws := wsM_makeHoles) B.pre
  have hts := fun w h => hts0 w (List.mem_cons_of_mem _ h)
  have hown : s.vm.findClass RM = some m.cls := findClass_of_methodNamed B.named
  have hlocks := B.notSynchronized
  subst hsz
  have hD := hD0.self (sz := s.heap.size)
  generalize hAe : va_A (w_M_makeHoles ad a_this a_units a_kinds a_values a_names a_low a_high a_told a_leftOut a_isMade a_hands a_pad a_court a_title a_out k_told k_low k_high k_values k_pad v_this_thrown v_this_size v_this_families v_this_atHand v_this_family v_this_density v_this_pads v_this_hasThermal v_this_titleSize v_this_written v_this_at v_this_begin v_this_words v_this_paste0 v_told v_low v_high v_values v_pad) s.heap.size = A at hD hE ⊢
  have hA : ∀ q : Nat, s.heap.size ≤ q → A q := fun q h => by rw [← hAe]; exact Or.inr h
  have C0 := zC.mk hx hb hr hml hown hts hlocks hA
  have hS : va_S A s.heap s.heap [] := va_S.rf
  have hl := lv_entry ([.ref a_this, .long p1]) (n := 12) (Nat.le_of_ble_eq_true rfl)
  rw [lg_entry_eq]
  generalize (lg_sl ([.ref a_this, .long p1]) ++ List.replicate (12 - (lg_sl ([.ref a_this, .long p1])).length) Slot.unset).toArray = ls at hl ⊢
  have hl : lv_has ls 12 [(0, .ref a_this), (1, .long p1)] := hl
  unfold P_M_makeHoles at h
  refine lv_aload_n hx hb dM_makeHoles_0 rfl (lv_at hl 0 rfl) ?_
  refine lv_iconst (v := 0) hx hb dM_makeHoles_1 (by decide) ?_
  refine zcall_i hP hD hS hA [0, 1, 2, 3] [4, 5] (va_runV (As := [.int 0]) (rest := []) ⟨hx, hb, hml, hown, hts⟩ (c_M_isExact l dC dI ad a_this a_units a_kinds a_values a_names a_low a_high a_told a_leftOut a_isMade a_hands a_pad a_court a_title a_out k_told k_low k_high _ 0 v_this_thrown v_this_size v_this_families v_this_atHand v_this_family v_this_density v_this_pads v_this_hasThermal v_this_titleSize v_this_written v_this_at v_this_begin v_this_words v_this_paste0 v_told v_low v_high _ h) ⟨callB_of 1 hts (zgood zc_M_isExact) rfl rfl rfl (hts _ zw_107) (hts _ zw_1213) (by decide +kernel) ⟨Nat.le_of_ble_eq_true rfl, Nat.le_of_ble_eq_true rfl⟩, (hts _ zw_1215), (hts _ zw_77)⟩ (zpreV hE hK hP hD hS hA [0, 1, 2, 3] [0, 1, 2] (by rfl) (by rfl) (by decide) (ci := 10) (q0 := 0) rfl (by rfl)) rfl rfl hl.1 rfl (lv_room (Nat.le_of_ble_eq_true rfl)) dM_makeHoles_2 ⟨Nat.le_of_ble_eq_true rfl, Nat.le_of_ble_eq_true rfl⟩) (by rfl) (by rfl) (by decide) (by decide) (fun r1 u H locs h hP hD hS => ?_)
  try dsimp only at h
  have hP := hP.sub (ws' := (w_M_makeHoles ad a_this a_units a_kinds a_values a_names a_low a_high a_told a_leftOut a_isMade a_hands a_pad a_court a_title a_out k_told k_low k_high k_values k_pad v_this_thrown v_this_size v_this_families v_this_atHand v_this_family v_this_density v_this_pads v_this_hasThermal v_this_titleSize v_this_written v_this_at v_this_begin v_this_words v_this_paste0 v_told v_low v_high v_values v_pad)) [2, 3, 4, 5, 0, 1] rfl
  have hD := hD.sub (ws' := (w_M_makeHoles ad a_this a_units a_kinds a_values a_names a_low a_high a_told a_leftOut a_isMade a_hands a_pad a_court a_title a_out k_told k_low k_high k_values k_pad v_this_thrown v_this_size v_this_families v_this_atHand v_this_family v_this_density v_this_pads v_this_hasThermal v_this_titleSize v_this_written v_this_at v_this_begin v_this_words v_this_paste0 v_told v_low v_high v_values v_pad)) [2, 3, 4, 5, 0, 1] (by decide) rfl
  refine lv_if_eq (tgt := 67) hx hb dM_makeHoles_5 (by decide) ?_ ?_
  · intro c2
    replace h := h.1 c2
    exact w_M_makeHoles_67 l C0 hE a_this a_units a_kinds a_values a_names a_low a_high a_told a_leftOut a_isMade a_hands a_pad a_court a_title a_out k_told k_low k_high k_values k_pad p1 v_this_thrown v_this_size v_this_families v_this_atHand v_this_family v_this_density v_this_pads v_this_hasThermal v_this_titleSize v_this_written v_this_at v_this_begin v_this_words v_this_paste0 v_told v_low v_high v_values v_pad post hK _ _ h hP hD hS ls (lv_sub hl [0, 1] rfl)
  · intro c2
    replace h := h.2 c2
    refine lv_aload_n hx hb dM_makeHoles_8 rfl (lv_at hl 0 rfl) ?_
    refine va_get (D := (dC, dI)) (ci := 10) (v := .ref a_high) (C := RM) (T := TM) (N := 28) hx hb hts inZ_M hown hK hP 0 rfl rfl 8 (by decide) (hts _ zw_1052) (fun _ h9 => h9) rfl dM_makeHoles_9 ?_
    refine lv_iconst (v := 0) hx hb dM_makeHoles_12 (by decide) ?_
    obtain ⟨hn3, h⟩ := h
    refine va_lald hx hb hK hP 3 2 rfl rfl hn3 dM_makeHoles_13 ?_
    refine lv_lconst (v := 0) hx hb dM_makeHoles_14 (by decide) ?_
    refine zz_lcmp_le (tgt := 67) hx hb dM_makeHoles_15 dM_makeHoles_16 (by decide) ?_ ?_
    · intro c4
      replace h := h.1 c4
      exact w_M_makeHoles_67 l C0 hE a_this a_units a_kinds a_values a_names a_low a_high a_told a_leftOut a_isMade a_hands a_pad a_court a_title a_out k_told k_low k_high k_values k_pad p1 v_this_thrown v_this_size v_this_families v_this_atHand v_this_family v_this_density v_this_pads v_this_hasThermal v_this_titleSize v_this_written v_this_at v_this_begin v_this_words v_this_paste0 v_told v_low v_high v_values v_pad post hK _ _ h hP hD hS ls (lv_sub hl [0, 1] rfl)
    · intro c4
      replace h := h.2 c4
      refine lv_aload_n hx hb dM_makeHoles_19 rfl (lv_at hl 0 rfl) ?_
      refine va_get (D := (dC, dI)) (ci := 10) (v := .ref a_high) (C := RM) (T := TM) (N := 28) hx hb hts inZ_M hown hK hP 0 rfl rfl 8 (by decide) (hts _ zw_1052) (fun _ h9 => h9) rfl dM_makeHoles_20 ?_
      refine lv_iconst (v := 0) hx hb dM_makeHoles_23 (by decide) ?_
      obtain ⟨hn5, h⟩ := h
      refine va_lald hx hb hK hP 3 2 rfl rfl hn5 dM_makeHoles_24 ?_
      refine lv_ldc2 (own := RM) (index := 90) (v := 2) hx hb hown (hts _ zw_1179) dM_makeHoles_25 ?_
      refine lv_lrem hx hb dM_makeHoles_28 (by decide) ?_
      refine lv_lconst (v := 0) hx hb dM_makeHoles_29 (by decide) ?_
      refine zz_lcmp_ne (tgt := 67) hx hb dM_makeHoles_30 dM_makeHoles_31 (by decide) ?_ ?_
      · intro c6
        replace h := h.1 c6
        exact w_M_makeHoles_67 l C0 hE a_this a_units a_kinds a_values a_names a_low a_high a_told a_leftOut a_isMade a_hands a_pad a_court a_title a_out k_told k_low k_high k_values k_pad p1 v_this_thrown v_this_size v_this_families v_this_atHand v_this_family v_this_density v_this_pads v_this_hasThermal v_this_titleSize v_this_written v_this_at v_this_begin v_this_words v_this_paste0 v_told v_low v_high v_values v_pad post hK _ _ h hP hD hS ls (lv_sub hl [0, 1] rfl)
      · intro c6
        replace h := h.2 c6
        refine lv_aload_n hx hb dM_makeHoles_34 rfl (lv_at hl 0 rfl) ?_
        refine va_get (D := (dC, dI)) (ci := 10) (v := .ref a_told) (C := RM) (T := TM) (N := 28) hx hb hts inZ_M hown hK hP 0 rfl rfl 9 (by decide) (hts _ zw_1053) (fun _ h9 => h9) rfl dM_makeHoles_35 ?_
        refine lv_iconst (v := 2) hx hb dM_makeHoles_38 (by decide) ?_
        obtain ⟨hn7, h⟩ := h
        refine va_zald hx hb hK hP 1 0 rfl rfl hn7 dM_makeHoles_39 ?_
        refine lv_if_eq (tgt := 67) hx hb dM_makeHoles_40 (by decide) ?_ ?_
        · intro c8
          replace h := h.1 c8
          exact w_M_makeHoles_67 l C0 hE a_this a_units a_kinds a_values a_names a_low a_high a_told a_leftOut a_isMade a_hands a_pad a_court a_title a_out k_told k_low k_high k_values k_pad p1 v_this_thrown v_this_size v_this_families v_this_atHand v_this_family v_this_density v_this_pads v_this_hasThermal v_this_titleSize v_this_written v_this_at v_this_begin v_this_words v_this_paste0 v_told v_low v_high v_values v_pad post hK _ _ h hP hD hS ls (lv_sub hl [0, 1] rfl)
        · intro c8
          replace h := h.2 c8
          refine lv_aload_n hx hb dM_makeHoles_43 rfl (lv_at hl 0 rfl) ?_
          refine zcall_i hP hD hS hA [0, 1, 2, 3] [4, 5] (va_runV (As := []) (rest := []) ⟨hx, hb, hml, hown, hts⟩ (c_M_hasPitch l dC dI ad a_this a_units a_kinds a_values a_names a_low a_high a_told a_leftOut a_isMade a_hands a_pad a_court a_title a_out k_told k_low k_high _ v_this_thrown v_this_size v_this_families v_this_atHand v_this_family v_this_density v_this_pads v_this_hasThermal v_this_titleSize v_this_written v_this_at v_this_begin v_this_words v_this_paste0 v_told v_low v_high _ h) ⟨callB_of 0 hts (zgood zc_M_hasPitch) rfl rfl rfl (hts _ zw_107) (hts _ zw_1209) (by decide +kernel) ⟨Nat.le_of_ble_eq_true rfl, Nat.le_of_ble_eq_true rfl⟩, (hts _ zw_1211), (hts _ zw_76)⟩ (zpreV hE hK hP hD hS hA [0, 1, 2, 3] [0, 1, 2] (by rfl) (by rfl) (by decide) (ci := 10) (q0 := 0) rfl (by rfl)) rfl rfl hl.1 rfl (lv_room (Nat.le_of_ble_eq_true rfl)) dM_makeHoles_44 ⟨Nat.le_of_ble_eq_true rfl, Nat.le_of_ble_eq_true rfl⟩) (by rfl) (by rfl) (by decide) (by decide) (fun r9 u H locs h hP hD hS => ?_)
          try dsimp only at h
          have hP := hP.sub (ws' := (w_M_makeHoles ad a_this a_units a_kinds a_values a_names a_low a_high a_told a_leftOut a_isMade a_hands a_pad a_court a_title a_out k_told k_low k_high k_values k_pad v_this_thrown v_this_size v_this_families v_this_atHand v_this_family v_this_density v_this_pads v_this_hasThermal v_this_titleSize v_this_written v_this_at v_this_begin v_this_words v_this_paste0 v_told v_low v_high v_values v_pad)) [2, 3, 4, 5, 0, 1] rfl
          have hD := hD.sub (ws' := (w_M_makeHoles ad a_this a_units a_kinds a_values a_names a_low a_high a_told a_leftOut a_isMade a_hands a_pad a_court a_title a_out k_told k_low k_high k_values k_pad v_this_thrown v_this_size v_this_families v_this_atHand v_this_family v_this_density v_this_pads v_this_hasThermal v_this_titleSize v_this_written v_this_at v_this_begin v_this_words v_this_paste0 v_told v_low v_high v_values v_pad)) [2, 3, 4, 5, 0, 1] (by decide) rfl
          refine lv_if_eq (tgt := 67) hx hb dM_makeHoles_47 (by decide) ?_ ?_
          · intro c10
            replace h := h.1 c10
            exact w_M_makeHoles_67 l C0 hE a_this a_units a_kinds a_values a_names a_low a_high a_told a_leftOut a_isMade a_hands a_pad a_court a_title a_out k_told k_low k_high k_values k_pad p1 v_this_thrown v_this_size v_this_families v_this_atHand v_this_family v_this_density v_this_pads v_this_hasThermal v_this_titleSize v_this_written v_this_at v_this_begin v_this_words v_this_paste0 v_told v_low v_high v_values v_pad post hK _ _ h hP hD hS ls (lv_sub hl [0, 1] rfl)
          · intro c10
            replace h := h.2 c10
            refine lv_aload_n hx hb dM_makeHoles_50 rfl (lv_at hl 0 rfl) ?_
            refine lv_ldc2 (own := RM) (index := 90) (v := 2) hx hb hown (hts _ zw_1179) dM_makeHoles_51 ?_
            refine lv_ldc2 (own := RM) (index := 90) (v := 2) hx hb hown (hts _ zw_1179) dM_makeHoles_54 ?_
            refine zcall_i hP hD hS hA [0, 1, 2, 3] [4, 5] (va_runV (As := [.long 2, .long 2]) (rest := []) ⟨hx, hb, hml, hown, hts⟩ (c_M_hasCount l dC dI ad a_this a_units a_kinds a_values a_names a_low a_high a_told a_leftOut a_isMade a_hands a_pad a_court a_title a_out k_told k_low k_high _ 2 2 v_this_thrown v_this_size v_this_families v_this_atHand v_this_family v_this_density v_this_pads v_this_hasThermal v_this_titleSize v_this_written v_this_at v_this_begin v_this_words v_this_paste0 v_told v_low v_high _ h) ⟨callB_of 2 hts (zgood zc_M_hasCount) rfl rfl rfl (hts _ zw_107) (hts _ zw_1232) (by decide +kernel) ⟨Nat.le_of_ble_eq_true rfl, Nat.le_of_ble_eq_true rfl⟩, (hts _ zw_1234), (hts _ zw_80)⟩ (zpreV hE hK hP hD hS hA [0, 1, 2, 3] [0, 1, 2] (by rfl) (by rfl) (by decide) (ci := 10) (q0 := 0) rfl (by rfl)) rfl rfl hl.1 rfl (lv_room (Nat.le_of_ble_eq_true rfl)) dM_makeHoles_57 ⟨Nat.le_of_ble_eq_true rfl, Nat.le_of_ble_eq_true rfl⟩) (by rfl) (by rfl) (by decide) (by decide) (fun r11 u H locs h hP hD hS => ?_)
            try dsimp only at h
            have hP := hP.sub (ws' := (w_M_makeHoles ad a_this a_units a_kinds a_values a_names a_low a_high a_told a_leftOut a_isMade a_hands a_pad a_court a_title a_out k_told k_low k_high k_values k_pad v_this_thrown v_this_size v_this_families v_this_atHand v_this_family v_this_density v_this_pads v_this_hasThermal v_this_titleSize v_this_written v_this_at v_this_begin v_this_words v_this_paste0 v_told v_low v_high v_values v_pad)) [2, 3, 4, 5, 0, 1] rfl
            have hD := hD.sub (ws' := (w_M_makeHoles ad a_this a_units a_kinds a_values a_names a_low a_high a_told a_leftOut a_isMade a_hands a_pad a_court a_title a_out k_told k_low k_high k_values k_pad v_this_thrown v_this_size v_this_families v_this_atHand v_this_family v_this_density v_this_pads v_this_hasThermal v_this_titleSize v_this_written v_this_at v_this_begin v_this_words v_this_paste0 v_told v_low v_high v_values v_pad)) [2, 3, 4, 5, 0, 1] (by decide) rfl
            refine lv_if_eq (tgt := 67) hx hb dM_makeHoles_60 (by decide) ?_ ?_
            · intro c12
              replace h := h.1 c12
              exact w_M_makeHoles_67 l C0 hE a_this a_units a_kinds a_values a_names a_low a_high a_told a_leftOut a_isMade a_hands a_pad a_court a_title a_out k_told k_low k_high k_values k_pad p1 v_this_thrown v_this_size v_this_families v_this_atHand v_this_family v_this_density v_this_pads v_this_hasThermal v_this_titleSize v_this_written v_this_at v_this_begin v_this_words v_this_paste0 v_told v_low v_high v_values v_pad post hK _ _ h hP hD hS ls (lv_sub hl [0, 1] rfl)
            · intro c12
              replace h := h.2 c12
              refine lv_iconst (v := 1) hx hb dM_makeHoles_63 (by decide) ?_
              refine lv_goto (tgt := 68) hx hb dM_makeHoles_64 (by decide) ?_
              exact w_M_makeHoles_68 l C0 hE a_this a_units a_kinds a_values a_names a_low a_high a_told a_leftOut a_isMade a_hands a_pad a_court a_title a_out k_told k_low k_high k_values k_pad p1 v_this_thrown v_this_size v_this_families v_this_atHand v_this_family v_this_density v_this_pads v_this_hasThermal v_this_titleSize v_this_written v_this_at v_this_begin v_this_words v_this_paste0 v_told v_low v_high v_values v_pad post hK 1 _ _ h hP hD hS ls (lv_sub hl [0, 1] rfl)
