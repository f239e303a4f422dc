abbrev yM_via : MethodName := ⟨"FootprintRulesModel", "via", "(II)I"⟩
abbrev cM_via : ByteArray := prog_14_method_48_code
abbrev wsM_via : List Cond := .code yM_via cM_via 10 (some .int) :: zT
set_option maxRecDepth 100000 in
theorem zc_M_via : Cond.code yM_via cM_via 10 (some .int) ∈ zT := zm 1323 (by rfl) (by rfl)
theorem dM_via_0 : decode cM_via 0 = .ok (.aload_n 0, 1) := by decide +kernel
theorem dM_via_1 : decode cM_via 1 = .ok (.getfield 124, 3) := by decide +kernel
theorem dM_via_4 : decode cM_via 4 = .ok (.ifCond .eq 12, 3) := by decide +kernel
theorem dM_via_7 : decode cM_via 7 = .ok (.aload_n 0, 1) := by decide +kernel
theorem dM_via_8 : decode cM_via 8 = .ok (.bipush 9, 2) := by decide +kernel
theorem dM_via_10 : decode cM_via 10 = .ok (.invokevirtual 142, 3) := by decide +kernel
theorem dM_via_13 : decode cM_via 13 = .ok (.goto 4, 3) := by decide +kernel
theorem dM_via_16 : decode cM_via 16 = .ok (.lconst 0, 1) := by decide +kernel
theorem dM_via_17 : decode cM_via 17 = .ok (.lstore_n 3, 1) := by decide +kernel
theorem dM_via_18 : decode cM_via 18 = .ok (.bipush 7, 2) := by decide +kernel
theorem dM_via_20 : decode cM_via 20 = .ok (.aload_n 0, 1) := by decide +kernel
theorem dM_via_21 : decode cM_via 21 = .ok (.getfield 134, 3) := by decide +kernel
theorem dM_via_24 : decode cM_via 24 = .ok (.imul, 1) := by decide +kernel
theorem dM_via_25 : decode cM_via 25 = .ok (.bipush 7, 2) := by decide +kernel
theorem dM_via_27 : decode cM_via 27 = .ok (.isub, 1) := by decide +kernel
theorem dM_via_28 : decode cM_via 28 = .ok (.istore 5, 2) := by decide +kernel
theorem dM_via_30 : decode cM_via 30 = .ok (.aload_n 0, 1) := by decide +kernel
theorem dM_via_31 : decode cM_via 31 = .ok (.getfield 124, 3) := by decide +kernel
theorem dM_via_34 : decode cM_via 34 = .ok (.ifCond .eq 30, 3) := by decide +kernel
theorem dM_via_37 : decode cM_via 37 = .ok (.aload_n 0, 1) := by decide +kernel
theorem dM_via_38 : decode cM_via 38 = .ok (.getfield 172, 3) := by decide +kernel
theorem dM_via_41 : decode cM_via 41 = .ok (.ifCond .eq 23, 3) := by decide +kernel
theorem dM_via_44 : decode cM_via 44 = .ok (.lload_n 3, 1) := by decide +kernel
theorem dM_via_45 : decode cM_via 45 = .ok (.lconst 0, 1) := by decide +kernel
theorem dM_via_46 : decode cM_via 46 = .ok (.lcmp, 1) := by decide +kernel
theorem dM_via_47 : decode cM_via 47 = .ok (.ifCond .le 17, 3) := by decide +kernel
theorem dM_via_50 : decode cM_via 50 = .ok (.aload_n 0, 1) := by decide +kernel
theorem dM_via_51 : decode cM_via 51 = .ok (.getfield 42, 3) := by decide +kernel
theorem dM_via_54 : decode cM_via 54 = .ok (.iload 5, 2) := by decide +kernel
theorem dM_via_56 : decode cM_via 56 = .ok (.iconst 3, 1) := by decide +kernel
theorem dM_via_57 : decode cM_via 57 = .ok (.iadd, 1) := by decide +kernel
theorem dM_via_58 : decode cM_via 58 = .ok (.laload, 1) := by decide +kernel
theorem dM_via_59 : decode cM_via 59 = .ok (.lload_n 3, 1) := by decide +kernel
theorem dM_via_60 : decode cM_via 60 = .ok (.ldiv, 1) := by decide +kernel
theorem dM_via_61 : decode cM_via 61 = .ok (.goto 4, 3) := by decide +kernel
theorem dM_via_64 : decode cM_via 64 = .ok (.lconst 0, 1) := by decide +kernel
theorem dM_via_65 : decode cM_via 65 = .ok (.lstore 6, 2) := by decide +kernel
theorem dM_via_67 : decode cM_via 67 = .ok (.aload_n 0, 1) := by decide +kernel
theorem dM_via_68 : decode cM_via 68 = .ok (.getfield 124, 3) := by decide +kernel
theorem dM_via_71 : decode cM_via 71 = .ok (.ifCond .eq 30, 3) := by decide +kernel
theorem dM_via_74 : decode cM_via 74 = .ok (.aload_n 0, 1) := by decide +kernel
theorem dM_via_75 : decode cM_via 75 = .ok (.getfield 172, 3) := by decide +kernel
theorem dM_via_78 : decode cM_via 78 = .ok (.ifCond .eq 23, 3) := by decide +kernel
theorem dM_via_81 : decode cM_via 81 = .ok (.lload_n 3, 1) := by decide +kernel
theorem dM_via_82 : decode cM_via 82 = .ok (.lconst 0, 1) := by decide +kernel
theorem dM_via_83 : decode cM_via 83 = .ok (.lcmp, 1) := by decide +kernel
theorem dM_via_84 : decode cM_via 84 = .ok (.ifCond .le 17, 3) := by decide +kernel
theorem dM_via_87 : decode cM_via 87 = .ok (.aload_n 0, 1) := by decide +kernel
theorem dM_via_88 : decode cM_via 88 = .ok (.getfield 42, 3) := by decide +kernel
theorem dM_via_91 : decode cM_via 91 = .ok (.iload 5, 2) := by decide +kernel
theorem dM_via_93 : decode cM_via 93 = .ok (.iconst 4, 1) := by decide +kernel
theorem dM_via_94 : decode cM_via 94 = .ok (.iadd, 1) := by decide +kernel
theorem dM_via_95 : decode cM_via 95 = .ok (.laload, 1) := by decide +kernel
theorem dM_via_96 : decode cM_via 96 = .ok (.lload_n 3, 1) := by decide +kernel
theorem dM_via_97 : decode cM_via 97 = .ok (.ldiv, 1) := by decide +kernel
theorem dM_via_98 : decode cM_via 98 = .ok (.goto 4, 3) := by decide +kernel
theorem dM_via_101 : decode cM_via 101 = .ok (.lconst 0, 1) := by decide +kernel
theorem dM_via_102 : decode cM_via 102 = .ok (.lstore 8, 2) := by decide +kernel
theorem dM_via_104 : decode cM_via 104 = .ok (.aload_n 0, 1) := by decide +kernel
theorem dM_via_105 : decode cM_via 105 = .ok (.aload_n 0, 1) := by decide +kernel
theorem dM_via_106 : decode cM_via 106 = .ok (.iload_n 1, 1) := by decide +kernel
theorem dM_via_107 : decode cM_via 107 = .ok (.iconst (-1), 1) := by decide +kernel
theorem dM_via_108 : decode cM_via 108 = .ok (.if_icmp .eq 27, 3) := by decide +kernel
theorem dM_via_111 : decode cM_via 111 = .ok (.iload_n 1, 1) := by decide +kernel
theorem dM_via_112 : decode cM_via 112 = .ok (.ifCond .lt 27, 3) := by decide +kernel
theorem dM_via_115 : decode cM_via 115 = .ok (.iload_n 1, 1) := by decide +kernel
theorem dM_via_116 : decode cM_via 116 = .ok (.i2l, 1) := by decide +kernel
theorem dM_via_117 : decode cM_via 117 = .ok (.lload 6, 2) := by decide +kernel
theorem dM_via_119 : decode cM_via 119 = .ok (.lload 8, 2) := by decide +kernel
theorem dM_via_121 : decode cM_via 121 = .ok (.lmul, 1) := by decide +kernel
theorem dM_via_122 : decode cM_via 122 = .ok (.lcmp, 1) := by decide +kernel
theorem dM_via_123 : decode cM_via 123 = .ok (.ifCond .ge 16, 3) := by decide +kernel
theorem dM_via_126 : decode cM_via 126 = .ok (.iload_n 2, 1) := by decide +kernel
theorem dM_via_127 : decode cM_via 127 = .ok (.ifCond .lt 12, 3) := by decide +kernel
theorem dM_via_130 : decode cM_via 130 = .ok (.iload_n 2, 1) := by decide +kernel
theorem dM_via_131 : decode cM_via 131 = .ok (.iconst 2, 1) := by decide +kernel
theorem dM_via_132 : decode cM_via 132 = .ok (.if_icmp .ge 7, 3) := by decide +kernel
theorem dM_via_135 : decode cM_via 135 = .ok (.iconst 1, 1) := by decide +kernel
theorem dM_via_136 : decode cM_via 136 = .ok (.goto 4, 3) := by decide +kernel
theorem dM_via_139 : decode cM_via 139 = .ok (.iconst 0, 1) := by decide +kernel
theorem dM_via_140 : decode cM_via 140 = .ok (.invokevirtual 224, 3) := by decide +kernel
theorem dM_via_143 : decode cM_via 143 = .ok (.putfield 54, 3) := by decide +kernel
theorem dM_via_146 : decode cM_via 146 = .ok (.aload_n 0, 1) := by decide +kernel
theorem dM_via_147 : decode cM_via 147 = .ok (.getfield 54, 3) := by decide +kernel
theorem dM_via_150 : decode cM_via 150 = .ok (.ifCond .eq 5, 3) := by decide +kernel
theorem dM_via_153 : decode cM_via 153 = .ok (.iconst 0, 1) := by decide +kernel
theorem dM_via_154 : decode cM_via 154 = .ok (.ireturn, 1) := by decide +kernel
theorem dM_via_155 : decode cM_via 155 = .ok (.iload_n 1, 1) := by decide +kernel
theorem dM_via_156 : decode cM_via 156 = .ok (.iconst (-1), 1) := by decide +kernel
theorem dM_via_157 : decode cM_via 157 = .ok (.if_icmp .ne 10, 3) := by decide +kernel
theorem dM_via_160 : decode cM_via 160 = .ok (.lload 6, 2) := by decide +kernel
theorem dM_via_162 : decode cM_via 162 = .ok (.lload 8, 2) := by decide +kernel
theorem dM_via_164 : decode cM_via 164 = .ok (.lmul, 1) := by decide +kernel
theorem dM_via_165 : decode cM_via 165 = .ok (.l2i, 1) := by decide +kernel
theorem dM_via_166 : decode cM_via 166 = .ok (.ireturn, 1) := by decide +kernel
theorem dM_via_167 : decode cM_via 167 = .ok (.iload_n 2, 1) := by decide +kernel
theorem dM_via_168 : decode cM_via 168 = .ok (.ifCond .ne 17, 3) := by decide +kernel
theorem dM_via_171 : decode cM_via 171 = .ok (.lload 6, 2) := by decide +kernel
theorem dM_via_173 : decode cM_via 173 = .ok (.iload_n 1, 1) := by decide +kernel
theorem dM_via_174 : decode cM_via 174 = .ok (.i2l, 1) := by decide +kernel
theorem dM_via_175 : decode cM_via 175 = .ok (.lload 6, 2) := by decide +kernel
theorem dM_via_177 : decode cM_via 177 = .ok (.lrem, 1) := by decide +kernel
theorem dM_via_178 : decode cM_via 178 = .ok (.lload_n 3, 1) := by decide +kernel
theorem dM_via_179 : decode cM_via 179 = .ok (.invokestatic 161, 3) := by decide +kernel
theorem dM_via_182 : decode cM_via 182 = .ok (.goto 14, 3) := by decide +kernel
theorem dM_via_185 : decode cM_via 185 = .ok (.lload 8, 2) := by decide +kernel
theorem dM_via_187 : decode cM_via 187 = .ok (.iload_n 1, 1) := by decide +kernel
theorem dM_via_188 : decode cM_via 188 = .ok (.i2l, 1) := by decide +kernel
theorem dM_via_189 : decode cM_via 189 = .ok (.lload 6, 2) := by decide +kernel
theorem dM_via_191 : decode cM_via 191 = .ok (.ldiv, 1) := by decide +kernel
theorem dM_via_192 : decode cM_via 192 = .ok (.lload_n 3, 1) := by decide +kernel
theorem dM_via_193 : decode cM_via 193 = .ok (.invokestatic 161, 3) := by decide +kernel
theorem dM_via_196 : decode cM_via 196 = .ok (.l2i, 1) := by decide +kernel
theorem dM_via_197 : decode cM_via 197 = .ok (.ireturn, 1) := by decide +kernel
-- FootprintRulesModel.via(II)I
abbrev w_M_via (ad : Nat → Nat → Nat) (a_this : Nat) (a_units : Nat) (a_kinds : Nat) (a_values : Nat) (a_names : Nat) (a_low : Nat) (a_high : Nat) (a_told : Nat) (a_leftOut : Nat) (a_isMade : Nat) (a_hands : Nat) (a_pad : Nat) (a_court : Nat) (a_title : Nat) (a_out : Nat) (k_values : ClassId) (k_pad : ClassId) (v_this_thrown : Int32) (v_this_size : Int32) (v_this_families : Int32) (v_this_atHand : Int32) (v_this_family : Int32) (v_this_density : Int32) (v_this_pads : Int32) (v_this_hasThermal : Int32) (v_this_titleSize : Int32) (v_this_written : Int32) (v_this_at : Int32) (v_this_begin : Int32) (v_this_words : Int32) (v_this_paste0 : Int64) (v_values : Nat → Int64) (v_pad : Nat → Int64) : va_W := [(a_this, .inr (10, [.int v_this_thrown, .ref a_units, .int v_this_size, .int v_this_families, .ref a_kinds, .ref a_values, .ref a_names, .ref a_low, .ref a_high, .ref a_told, .ref a_leftOut, .ref a_isMade, .ref a_hands, .int v_this_atHand, .int v_this_family, .int v_this_density, .int v_this_pads, .ref a_pad, .ref a_court, .int v_this_hasThermal, .ref a_title, .int v_this_titleSize, .ref a_out, .int v_this_written, .int v_this_at, .int v_this_begin, .int v_this_words, .long v_this_paste0])), (a_values, .inl (k_values, 240, .inr (.inl v_values))), (a_pad, .inl (k_pad, 455, .inr (.inl v_pad)))]
def P_M_via_140 (p1 : Int32) (p2 : Int32) (v_this_atHand : Int32) (post : Int32 → Int32 → Prop) (y3 : Int64) (y6 : Int64) (y8 : Int64) (t0 : Int32) : Prop := P_M_refusal t0 v_this_atHand (fun (r1 : Int32) => ((r1 = 0 → ((¬ p1 = (-1) → ((¬ p2 = 0 → ¬ y6 = 0 ∧ P_M_middle y8 (p1.toInt64 / y6) y3 (fun (r6 : Int64) => post r6.toInt32 r1)) ∧ (p2 = 0 → ¬ y6 = 0 ∧ P_M_middle y6 (p1.toInt64 - p1.toInt64 / y6 * y6) y3 (fun (r8 : Int64) => post r8.toInt32 r1)))) ∧ (p1 = (-1) → post ((y6 * y8).toInt32) r1))) ∧ (¬ r1 = 0 → post 0 r1)))
set_option maxHeartbeats 4000000 in
set_option maxRecDepth 100000 in
theorem w_M_via_140 (l : Launch) {p : Program} {e : Env} {s : State} {m : MethodId} {args : Array Value} {below : List Frame} {meth : Method} {c : Code} {dC : Nat → ClassId} {dI : Nat → Nat → Nat} {ad : Nat → Nat → Nat} {A : Nat → Prop} (C0 : zC p s m args meth c cM_via 10 RM zT (some .int) A) (hE : zE ad A s) (a_this : Nat) (a_units : Nat) (a_kinds : Nat) (a_values : Nat) (a_names : Nat) (a_low : Nat) (a_high : Nat) (a_told : Nat) (a_leftOut : Nat) (a_isMade : Nat) (a_hands : Nat) (a_pad : Nat) (a_court : Nat) (a_title : Nat) (a_out : Nat) (k_values : ClassId) (k_pad : ClassId) (p1 : Int32) (p2 : Int32) (v_this_thrown : Int32) (v_this_size : Int32) (v_this_families : Int32) (v_this_atHand : Int32) (v_this_family : Int32) (v_this_density : Int32) (v_this_pads : Int32) (v_this_hasThermal : Int32) (v_this_titleSize : Int32) (v_this_written : Int32) (v_this_at : Int32) (v_this_begin : Int32) (v_this_words : Int32) (v_this_paste0 : Int64) (v_values : Nat → Int64) (v_pad : Nat → Int64) (post : Int32 → Int32 → Prop) (hK : va_K (dC, dI) vwCl [(k_values, .long), (k_pad, .long)] s) : ∀ (y3 : Int64) (y6 : Int64) (y8 : Int64) (t0 : Int32) (H : Heap) (locs : List Loc), P_M_via_140 p1 p2 v_this_atHand post y3 y6 y8 t0 → va_P (dC, dI) vwCl (w_M_via ad a_this a_units a_kinds a_values a_names a_low a_high a_told a_leftOut a_isMade a_hands a_pad a_court a_title a_out k_values k_pad v_this_thrown v_this_size v_this_families v_this_atHand v_this_family v_this_density v_this_pads v_this_hasThermal v_this_titleSize v_this_written v_this_at v_this_begin v_this_words v_this_paste0 v_values v_pad) H → va_D A (w_M_via ad a_this a_units a_kinds a_values a_names a_low a_high a_told a_leftOut a_isMade a_hands a_pad a_court a_title a_out k_values k_pad v_this_thrown v_this_size v_this_families v_this_atHand v_this_family v_this_density v_this_pads v_this_hasThermal v_this_titleSize v_this_written v_this_at v_this_begin v_this_words v_this_paste0 v_values v_pad) → va_S A s.heap H locs → ∀ ls : Array Slot, lv_has ls 10 [(0, .ref a_this), (1, .int p1), (2, .int p2), (3, .long y3), (6, .long y6), (8, .long y8)] → W p l e (headSpec wsM_via { frames := 1, cells := 0, slots := 0, locals := 25 }).room s m args below meth c H locs 0 0 (MQ below (va_Qi (fun (r : Int32) (u : Int32) => post r u) (zB (dC, dI) A (fun (u : Int32) => (w_M_via ad a_this a_units a_kinds a_values a_names a_low a_high a_told a_leftOut a_isMade a_hands a_pad a_court a_title a_out k_values k_pad u v_this_size v_this_families v_this_atHand v_this_family v_this_density v_this_pads v_this_hasThermal v_this_titleSize v_this_written v_this_at v_this_begin v_this_words v_this_paste0 v_values v_pad))) A) args s 0 0 A) (F0 m 140 ls [.int t0, .ref a_this, .ref a_this]) := by
  obtain ⟨hx, hb, hr, hml, hown, hts, hlocks, hA⟩ := id C0
  intro y3 y6 y8 t0 H locs h hP hD hS ls hl
  unfold P_M_via_140 at h
  refine zcall_i hP hD hS hA [0] [1, 2] (va_runV (As := [.int t0]) (rest := [.ref a_this]) ⟨hx, hb, hml, hown, hts⟩ (c_M_refusal l dC dI ad a_this a_units a_kinds a_values a_names a_low a_high a_told a_leftOut a_isMade a_hands a_pad a_court a_title a_out _ t0 v_this_thrown v_this_size v_this_families v_this_atHand v_this_family v_this_density v_this_pads v_this_hasThermal v_this_titleSize v_this_written v_this_at v_this_begin v_this_words v_this_paste0 _ h) ⟨callB_of 1 hts (zgood zc_M_refusal) rfl rfl rfl (hts _ zw_107) (hts _ zw_1280) (by decide +kernel) ⟨Nat.le_of_ble_eq_true rfl, Nat.le_of_ble_eq_true rfl⟩, (hts _ zw_1282), (hts _ zw_89)⟩ (zpreV hE hK hP hD hS hA [0] [] (by rfl) (by rfl) (by decide) (ci := 10) (q0 := 0) rfl (by rfl)) rfl rfl hl.1 rfl (lv_room (Nat.le_of_ble_eq_true rfl)) dM_via_140 ⟨Nat.le_of_ble_eq_true rfl, Nat.le_of_ble_eq_true rfl⟩) (by rfl) (by rfl) (by decide) (by decide) (fun r1 u H locs h hP hD hS => ?_)
  try dsimp only at h
  have hP := hP.sub (ws' := (w_M_via ad a_this a_units a_kinds a_values a_names a_low a_high a_told a_leftOut a_isMade a_hands a_pad a_court a_title a_out k_values k_pad v_this_thrown v_this_size v_this_families v_this_atHand v_this_family v_this_density v_this_pads v_this_hasThermal v_this_titleSize v_this_written v_this_at v_this_begin v_this_words v_this_paste0 v_values v_pad)) [2, 0, 1] rfl
  have hD := hD.sub (ws' := (w_M_via ad a_this a_units a_kinds a_values a_names a_low a_high a_told a_leftOut a_isMade a_hands a_pad a_court a_title a_out k_values k_pad v_this_thrown v_this_size v_this_families v_this_atHand v_this_family v_this_density v_this_pads v_this_hasThermal v_this_titleSize v_this_written v_this_at v_this_begin v_this_words v_this_paste0 v_values v_pad)) [2, 0, 1] (by decide) rfl
  refine va_put (D := (dC, dI)) (ci := 10) (v := .int r1) (ty := .int) (C := RM) (T := TM) (N := 28) hx hb hts inZ_M tyM tyM_ok nmM hown hK hP hD hS 0 rfl rfl 0 (by decide) (hts _ zw_1044) (fun _ h9 => h9) rfl (by decide +kernel) rfl rfl (Nat.le_of_ble_eq_true rfl) dM_via_143 (fun H locs hP hD hS => ?_)
  have hP : va_P (dC, dI) vwCl (w_M_via ad a_this a_units a_kinds a_values a_names a_low a_high a_told a_leftOut a_isMade a_hands a_pad a_court a_title a_out k_values k_pad r1 v_this_size v_this_families v_this_atHand v_this_family v_this_density v_this_pads v_this_hasThermal v_this_titleSize v_this_written v_this_at v_this_begin v_this_words v_this_paste0 v_values v_pad) H := hP
  have hD : va_D A (w_M_via ad a_this a_units a_kinds a_values a_names a_low a_high a_told a_leftOut a_isMade a_hands a_pad a_court a_title a_out k_values k_pad r1 v_this_size v_this_families v_this_atHand v_this_family v_this_density v_this_pads v_this_hasThermal v_this_titleSize v_this_written v_this_at v_this_begin v_this_words v_this_paste0 v_values v_pad) := hD
  refine lv_aload_n hx hb dM_via_146 rfl (lv_at hl 0 rfl) ?_
  refine va_get (D := (dC, dI)) (ci := 10) (v := .int r1) (C := RM) (T := TM) (N := 28) hx hb hts inZ_M hown hK hP 0 rfl rfl 0 (by decide) (hts _ zw_1044) (fun _ h9 => h9) rfl dM_via_147 ?_
  refine lv_if_eq (tgt := 155) hx hb dM_via_150 (by decide) ?_ ?_
  · intro c2
    replace h := h.1 c2
    refine lv_iload_n hx hb dM_via_155 rfl (lv_at hl 1 rfl) ?_
    refine lv_iconst (v := (-1)) hx hb dM_via_156 (by decide) ?_
    refine lv_icmp_ne (tgt := 167) hx hb dM_via_157 (by decide) ?_ ?_
    · intro c3
      replace h := h.1 c3
      refine lv_iload_n hx hb dM_via_167 rfl (lv_at hl 2 rfl) ?_
      refine lv_if_ne (tgt := 185) hx hb dM_via_168 (by decide) ?_ ?_
      · intro c4
        replace h := h.1 c4
        refine lv_lload hx hb dM_via_185 (lv_at hl 5 rfl) ?_
        refine lv_iload_n hx hb dM_via_187 rfl (lv_at hl 1 rfl) ?_
        refine lv_i2l hx hb dM_via_188 rfl ?_
        refine lv_lload hx hb dM_via_189 (lv_at hl 4 rfl) ?_
        obtain ⟨hn5, h⟩ := h
        refine lv_ldiv hx hb dM_via_191 hn5 ?_
        refine lv_lload_n hx hb dM_via_192 rfl (lv_at hl 3 rfl) ?_
        refine zcall_l hP hD hS hA [] [0, 1, 2] (va_runS (As := [.long y8, .long (p1.toInt64 / y6), .long y3]) (rest := []) ⟨hx, hb, hml, hown, hts⟩ (c_M_middle l dC dI ad _ y8 (p1.toInt64 / y6) y3 _ h) ⟨callB_of 3 hts (zgood zc_M_middle) rfl rfl rfl (hts _ zw_107) (hts _ zw_1221) (by decide +kernel) ⟨Nat.le_of_ble_eq_true rfl, Nat.le_of_ble_eq_true rfl⟩, (hts _ zw_1222)⟩ (zpreS hE hK hP hD hS hA [] [] (by rfl) (by rfl) (by decide)) rfl rfl hl.1 rfl (lv_room (Nat.le_of_ble_eq_true rfl)) dM_via_193 ⟨Nat.le_of_ble_eq_true rfl, Nat.le_of_ble_eq_true rfl⟩) (by rfl) (by rfl) (by decide) (by decide) (fun r6 u H locs h hP hD hS => ?_)
        try dsimp only at h
        have hP := hP.sub (ws' := (w_M_via ad a_this a_units a_kinds a_values a_names a_low a_high a_told a_leftOut a_isMade a_hands a_pad a_court a_title a_out k_values k_pad r1 v_this_size v_this_families v_this_atHand v_this_family v_this_density v_this_pads v_this_hasThermal v_this_titleSize v_this_written v_this_at v_this_begin v_this_words v_this_paste0 v_values v_pad)) [0, 1, 2] rfl
        have hD := hD.sub (ws' := (w_M_via ad a_this a_units a_kinds a_values a_names a_low a_high a_told a_leftOut a_isMade a_hands a_pad a_court a_title a_out k_values k_pad r1 v_this_size v_this_families v_this_atHand v_this_family v_this_density v_this_pads v_this_hasThermal v_this_titleSize v_this_written v_this_at v_this_begin v_this_words v_this_paste0 v_values v_pad)) [0, 1, 2] (by decide) rfl
        refine lv_l2i hx hb dM_via_196 rfl ?_
        exact W.iret (v := r6.toInt32) hx hb hr (fun t ht hW => ⟨⟨r6.toInt32, r1, rfl, h, by rw [ht]; exact hP, hD⟩, hS.F ht⟩) hS.2.2 dM_via_197
      · intro c4
        replace h := h.2 c4
        refine lv_lload hx hb dM_via_171 (lv_at hl 4 rfl) ?_
        refine lv_iload_n hx hb dM_via_173 rfl (lv_at hl 1 rfl) ?_
        refine lv_i2l hx hb dM_via_174 rfl ?_
        refine lv_lload hx hb dM_via_175 (lv_at hl 4 rfl) ?_
        obtain ⟨hn7, h⟩ := h
        refine lv_lrem hx hb dM_via_177 hn7 ?_
        refine lv_lload_n hx hb dM_via_178 rfl (lv_at hl 3 rfl) ?_
        refine zcall_l hP hD hS hA [] [0, 1, 2] (va_runS (As := [.long y6, .long (p1.toInt64 - p1.toInt64 / y6 * y6), .long y3]) (rest := []) ⟨hx, hb, hml, hown, hts⟩ (c_M_middle l dC dI ad _ y6 (p1.toInt64 - p1.toInt64 / y6 * y6) y3 _ h) ⟨callB_of 3 hts (zgood zc_M_middle) rfl rfl rfl (hts _ zw_107) (hts _ zw_1221) (by decide +kernel) ⟨Nat.le_of_ble_eq_true rfl, Nat.le_of_ble_eq_true rfl⟩, (hts _ zw_1222)⟩ (zpreS hE hK hP hD hS hA [] [] (by rfl) (by rfl) (by decide)) rfl rfl hl.1 rfl (lv_room (Nat.le_of_ble_eq_true rfl)) dM_via_179 ⟨Nat.le_of_ble_eq_true rfl, Nat.le_of_ble_eq_true rfl⟩) (by rfl) (by rfl) (by decide) (by decide) (fun r8 u H locs h hP hD hS => ?_)
        try dsimp only at h
        have hP := hP.sub (ws' := (w_M_via ad a_this a_units a_kinds a_values a_names a_low a_high a_told a_leftOut a_isMade a_hands a_pad a_court a_title a_out k_values k_pad r1 v_this_size v_this_families v_this_atHand v_this_family v_this_density v_this_pads v_this_hasThermal v_this_titleSize v_this_written v_this_at v_this_begin v_this_words v_this_paste0 v_values v_pad)) [0, 1, 2] rfl
        have hD := hD.sub (ws' := (w_M_via ad a_this a_units a_kinds a_values a_names a_low a_high a_told a_leftOut a_isMade a_hands a_pad a_court a_title a_out k_values k_pad r1 v_this_size v_this_families v_this_atHand v_this_family v_this_density v_this_pads v_this_hasThermal v_this_titleSize v_this_written v_this_at v_this_begin v_this_words v_this_paste0 v_values v_pad)) [0, 1, 2] (by decide) rfl
        refine lv_goto (tgt := 196) hx hb dM_via_182 (by decide) ?_
        refine lv_l2i hx hb dM_via_196 rfl ?_
        exact W.iret (v := r8.toInt32) hx hb hr (fun t ht hW => ⟨⟨r8.toInt32, r1, rfl, h, by rw [ht]; exact hP, hD⟩, hS.F ht⟩) hS.2.2 dM_via_197
    · intro c3
      replace h := h.2 c3
      refine lv_lload hx hb dM_via_160 (lv_at hl 4 rfl) ?_
      refine lv_lload hx hb dM_via_162 (lv_at hl 5 rfl) ?_
      refine lv_lmul hx hb dM_via_164 ?_
      refine lv_l2i hx hb dM_via_165 rfl ?_
      exact W.iret (v := ((y6 * y8).toInt32)) hx hb hr (fun t ht hW => ⟨⟨((y6 * y8).toInt32), r1, rfl, h, by rw [ht]; exact hP, hD⟩, hS.F ht⟩) hS.2.2 dM_via_166
  · intro c2
    replace h := h.2 c2
    refine lv_iconst (v := 0) hx hb dM_via_153 (by decide) ?_
    exact W.iret (v := 0) hx hb hr (fun t ht hW => ⟨⟨0, r1, rfl, h, by rw [ht]; exact hP, hD⟩, hS.F ht⟩) hS.2.2 dM_via_154
def P_M_via_135 (p1 : Int32) (p2 : Int32) (v_this_atHand : Int32) (post : Int32 → Int32 → Prop) (y3 : Int64) (y6 : Int64) (y8 : Int64) : Prop := P_M_via_140 p1 p2 v_this_atHand post y3 y6 y8 1
set_option maxHeartbeats 4000000 in
set_option maxRecDepth 100000 in
theorem w_M_via_135 (l : Launch) {p : Program} {e : Env} {s : State} {m : MethodId} {args : Array Value} {below : List Frame} {meth : Method} {c : Code} {dC : Nat → ClassId} {dI : Nat → Nat → Nat} {ad : Nat → Nat → Nat} {A : Nat → Prop} (C0 : zC p s m args meth c cM_via 10 RM zT (some .int) A) (hE : zE ad A s) (a_this : Nat) (a_units : Nat) (a_kinds : Nat) (a_values : Nat) (a_names : Nat) (a_low : Nat) (a_high : Nat) (a_told : Nat) (a_leftOut : Nat) (a_isMade : Nat) (a_hands : Nat) (a_pad : Nat) (a_court : Nat) (a_title : Nat) (a_out : Nat) (k_values : ClassId) (k_pad : ClassId) (p1 : Int32) (p2 : Int32) (v_this_thrown : Int32) (v_this_size : Int32) (v_this_families : Int32) (v_this_atHand : Int32) (v_this_family : Int32) (v_this_density : Int32) (v_this_pads : Int32) (v_this_hasThermal : Int32) (v_this_titleSize : Int32) (v_this_written : Int32) (v_this_at : Int32) (v_this_begin : Int32) (v_this_words : Int32) (v_this_paste0 : Int64) (v_values : Nat → Int64) (v_pad : Nat → Int64) (post : Int32 → Int32 → Prop) (hK : va_K (dC, dI) vwCl [(k_values, .long), (k_pad, .long)] s) : ∀ (y3 : Int64) (y6 : Int64) (y8 : Int64) (H : Heap) (locs : List Loc), P_M_via_135 p1 p2 v_this_atHand post y3 y6 y8 → va_P (dC, dI) vwCl (w_M_via ad a_this a_units a_kinds a_values a_names a_low a_high a_told a_leftOut a_isMade a_hands a_pad a_court a_title a_out k_values k_pad v_this_thrown v_this_size v_this_families v_this_atHand v_this_family v_this_density v_this_pads v_this_hasThermal v_this_titleSize v_this_written v_this_at v_this_begin v_this_words v_this_paste0 v_values v_pad) H → va_D A (w_M_via ad a_this a_units a_kinds a_values a_names a_low a_high a_told a_leftOut a_isMade a_hands a_pad a_court a_title a_out k_values k_pad v_this_thrown v_this_size v_this_families v_this_atHand v_this_family v_this_density v_this_pads v_this_hasThermal v_this_titleSize v_this_written v_this_at v_this_begin v_this_words v_this_paste0 v_values v_pad) → va_S A s.heap H locs → ∀ ls : Array Slot, lv_has ls 10 [(0, .ref a_this), (1, .int p1), (2, .int p2), (3, .long y3), (6, .long y6), (8, .long y8)] → W p l e (headSpec wsM_via { frames := 1, cells := 0, slots := 0, locals := 25 }).room s m args below meth c H locs 0 0 (MQ below (va_Qi (fun (r : Int32) (u : Int32) => post r u) (zB (dC, dI) A (fun (u : Int32) => (w_M_via ad a_this a_units a_kinds a_values a_names a_low a_high a_told a_leftOut a_isMade a_hands a_pad a_court a_title a_out k_values k_pad u v_this_size v_this_families v_this_atHand v_this_family v_this_density v_this_pads v_this_hasThermal v_this_titleSize v_this_written v_this_at v_this_begin v_this_words v_this_paste0 v_values v_pad))) A) args s 0 0 A) (F0 m 135 ls [.ref a_this, .ref a_this]) := by
  obtain ⟨hx, hb, hr, hml, hown, hts, hlocks, hA⟩ := id C0
  intro y3 y6 y8 H locs h hP hD hS ls hl
  unfold P_M_via_135 at h
  refine lv_iconst (v := 1) hx hb dM_via_135 (by decide) ?_
  refine lv_goto (tgt := 140) hx hb dM_via_136 (by decide) ?_
  exact w_M_via_140 l C0 hE a_this a_units a_kinds a_values a_names a_low a_high a_told a_leftOut a_isMade a_hands a_pad a_court a_title a_out k_values k_pad p1 p2 v_this_thrown v_this_size v_this_families v_this_atHand v_this_family v_this_density v_this_pads v_this_hasThermal v_this_titleSize v_this_written v_this_at v_this_begin v_this_words v_this_paste0 v_values v_pad post hK y3 y6 y8 1 _ _ h hP hD hS ls (lv_sub hl [0, 1, 2, 3, 4, 5] rfl)
def P_M_via_139 (p1 : Int32) (p2 : Int32) (v_this_atHand : Int32) (post : Int32 → Int32 → Prop) (y3 : Int64) (y6 : Int64) (y8 : Int64) : Prop := P_M_via_140 p1 p2 v_this_atHand post y3 y6 y8 0
set_option maxHeartbeats 4000000 in
set_option maxRecDepth 100000 in
theorem w_M_via_139 (l : Launch) {p : Program} {e : Env} {s : State} {m : MethodId} {args : Array Value} {below : List Frame} {meth : Method} {c : Code} {dC : Nat → ClassId} {dI : Nat → Nat → Nat} {ad : Nat → Nat → Nat} {A : Nat → Prop} (C0 : zC p s m args meth c cM_via 10 RM zT (some .int) A) (hE : zE ad A s) (a_this : Nat) (a_units : Nat) (a_kinds : Nat) (a_values : Nat) (a_names : Nat) (a_low : Nat) (a_high : Nat) (a_told : Nat) (a_leftOut : Nat) (a_isMade : Nat) (a_hands : Nat) (a_pad : Nat) (a_court : Nat) (a_title : Nat) (a_out : Nat) (k_values : ClassId) (k_pad : ClassId) (p1 : Int32) (p2 : Int32) (v_this_thrown : Int32) (v_this_size : Int32) (v_this_families : Int32) (v_this_atHand : Int32) (v_this_family : Int32) (v_this_density : Int32) (v_this_pads : Int32) (v_this_hasThermal : Int32) (v_this_titleSize : Int32) (v_this_written : Int32) (v_this_at : Int32) (v_this_begin : Int32) (v_this_words : Int32) (v_this_paste0 : Int64) (v_values : Nat → Int64) (v_pad : Nat → Int64) (post : Int32 → Int32 → Prop) (hK : va_K (dC, dI) vwCl [(k_values, .long), (k_pad, .long)] s) : ∀ (y3 : Int64) (y6 : Int64) (y8 : Int64) (H : Heap) (locs : List Loc), P_M_via_139 p1 p2 v_this_atHand post y3 y6 y8 → va_P (dC, dI) vwCl (w_M_via ad a_this a_units a_kinds a_values a_names a_low a_high a_told a_leftOut a_isMade a_hands a_pad a_court a_title a_out k_values k_pad v_this_thrown v_this_size v_this_families v_this_atHand v_this_family v_this_density v_this_pads v_this_hasThermal v_this_titleSize v_this_written v_this_at v_this_begin v_this_words v_this_paste0 v_values v_pad) H → va_D A (w_M_via ad a_this a_units a_kinds a_values a_names a_low a_high a_told a_leftOut a_isMade a_hands a_pad a_court a_title a_out k_values k_pad v_this_thrown v_this_size v_this_families v_this_atHand v_this_family v_this_density v_this_pads v_this_hasThermal v_this_titleSize v_this_written v_this_at v_this_begin v_this_words v_this_paste0 v_values v_pad) → va_S A s.heap H locs → ∀ ls : Array Slot, lv_has ls 10 [(0, .ref a_this), (1, .int p1), (2, .int p2), (3, .long y3), (6, .long y6), (8, .long y8)] → W p l e (headSpec wsM_via { frames := 1, cells := 0, slots := 0, locals := 25 }).room s m args below meth c H locs 0 0 (MQ below (va_Qi (fun (r : Int32) (u : Int32) => post r u) (zB (dC, dI) A (fun (u : Int32) => (w_M_via ad a_this a_units a_kinds a_values a_names a_low a_high a_told a_leftOut a_isMade a_hands a_pad a_court a_title a_out k_values k_pad u v_this_size v_this_families v_this_atHand v_this_family v_this_density v_this_pads v_this_hasThermal v_this_titleSize v_this_written v_this_at v_this_begin v_this_words v_this_paste0 v_values v_pad))) A) args s 0 0 A) (F0 m 139 ls [.ref a_this, .ref a_this]) := by
  obtain ⟨hx, hb, hr, hml, hown, hts, hlocks, hA⟩ := id C0
  intro y3 y6 y8 H locs h hP hD hS ls hl
  unfold P_M_via_139 at h
  refine lv_iconst (v := 0) hx hb dM_via_139 (by decide) ?_
  exact w_M_via_140 l C0 hE a_this a_units a_kinds a_values a_names a_low a_high a_told a_leftOut a_isMade a_hands a_pad a_court a_title a_out k_values k_pad p1 p2 v_this_thrown v_this_size v_this_families v_this_atHand v_this_family v_this_density v_this_pads v_this_hasThermal v_this_titleSize v_this_written v_this_at v_this_begin v_this_words v_this_paste0 v_values v_pad post hK y3 y6 y8 0 _ _ h hP hD hS ls (lv_sub hl [0, 1, 2, 3, 4, 5] rfl)
def P_M_via_102 (p1 : Int32) (p2 : Int32) (v_this_atHand : Int32) (post : Int32 → Int32 → Prop) (y3 : Int64) (y6 : Int64) (t0 : Int64) : Prop := ((p1 = (-1) → P_M_via_135 p1 p2 v_this_atHand post y3 y6 t0) ∧ (¬ p1 = (-1) → ((p1 < 0 → P_M_via_139 p1 p2 v_this_atHand post y3 y6 t0) ∧ (¬ p1 < 0 → (((y6 * t0) ≤ p1.toInt64 → P_M_via_139 p1 p2 v_this_atHand post y3 y6 t0) ∧ (¬ (y6 * t0) ≤ p1.toInt64 → ((p2 < 0 → P_M_via_139 p1 p2 v_this_atHand post y3 y6 t0) ∧ (¬ p2 < 0 → ((2 ≤ p2 → P_M_via_139 p1 p2 v_this_atHand post y3 y6 t0) ∧ (¬ 2 ≤ p2 → P_M_via_135 p1 p2 v_this_atHand post y3 y6 t0))))))))))
set_option maxHeartbeats 4000000 in
set_option maxRecDepth 100000 in
theorem w_M_via_102 (l : Launch) {p : Program} {e : Env} {s : State} {m : MethodId} {args : Array Value} {below : List Frame} {meth : Method} {c : Code} {dC : Nat → ClassId} {dI : Nat → Nat → Nat} {ad : Nat → Nat → Nat} {A : Nat → Prop} (C0 : zC p s m args meth c cM_via 10 RM zT (some .int) A) (hE : zE ad A s) (a_this : Nat) (a_units : Nat) (a_kinds : Nat) (a_values : Nat) (a_names : Nat) (a_low : Nat) (a_high : Nat) (a_told : Nat) (a_leftOut : Nat) (a_isMade : Nat) (a_hands : Nat) (a_pad : Nat) (a_court : Nat) (a_title : Nat) (a_out : Nat) (k_values : ClassId) (k_pad : ClassId) (p1 : Int32) (p2 : Int32) (v_this_thrown : Int32) (v_this_size : Int32) (v_this_families : Int32) (v_this_atHand : Int32) (v_this_family : Int32) (v_this_density : Int32) (v_this_pads : Int32) (v_this_hasThermal : Int32) (v_this_titleSize : Int32) (v_this_written : Int32) (v_this_at : Int32) (v_this_begin : Int32) (v_this_words : Int32) (v_this_paste0 : Int64) (v_values : Nat → Int64) (v_pad : Nat → Int64) (post : Int32 → Int32 → Prop) (hK : va_K (dC, dI) vwCl [(k_values, .long), (k_pad, .long)] s) : ∀ (y3 : Int64) (y6 : Int64) (t0 : Int64) (H : Heap) (locs : List Loc), P_M_via_102 p1 p2 v_this_atHand post y3 y6 t0 → va_P (dC, dI) vwCl (w_M_via ad a_this a_units a_kinds a_values a_names a_low a_high a_told a_leftOut a_isMade a_hands a_pad a_court a_title a_out k_values k_pad v_this_thrown v_this_size v_this_families v_this_atHand v_this_family v_this_density v_this_pads v_this_hasThermal v_this_titleSize v_this_written v_this_at v_this_begin v_this_words v_this_paste0 v_values v_pad) H → va_D A (w_M_via ad a_this a_units a_kinds a_values a_names a_low a_high a_told a_leftOut a_isMade a_hands a_pad a_court a_title a_out k_values k_pad v_this_thrown v_this_size v_this_families v_this_atHand v_this_family v_this_density v_this_pads v_this_hasThermal v_this_titleSize v_this_written v_this_at v_this_begin v_this_words v_this_paste0 v_values v_pad) → va_S A s.heap H locs → ∀ ls : Array Slot, lv_has ls 10 [(0, .ref a_this), (1, .int p1), (2, .int p2), (3, .long y3), (6, .long y6)] → W p l e (headSpec wsM_via { frames := 1, cells := 0, slots := 0, locals := 25 }).room s m args below meth c H locs 0 0 (MQ below (va_Qi (fun (r : Int32) (u : Int32) => post r u) (zB (dC, dI) A (fun (u : Int32) => (w_M_via ad a_this a_units a_kinds a_values a_names a_low a_high a_told a_leftOut a_isMade a_hands a_pad a_court a_title a_out k_values k_pad u v_this_size v_this_families v_this_atHand v_this_family v_this_density v_this_pads v_this_hasThermal v_this_titleSize v_this_written v_this_at v_this_begin v_this_words v_this_paste0 v_values v_pad))) A) args s 0 0 A) (F0 m 102 ls [.long t0]) := by
  obtain ⟨hx, hb, hr, hml, hown, hts, hlocks, hA⟩ := id C0
  intro y3 y6 t0 H locs h hP hD hS ls hl
  unfold P_M_via_102 at h
  refine lv_lstore (lv' := [(8, .long t0), (0, .ref a_this), (1, .int p1), (2, .int p2), (3, .long y3), (6, .long y6)]) hx hb dM_via_102 hl (by decide) rfl (fun ls hl => ?_)
  refine lv_aload_n hx hb dM_via_104 rfl (lv_at hl 1 rfl) ?_
  refine lv_aload_n hx hb dM_via_105 rfl (lv_at hl 1 rfl) ?_
  refine lv_iload_n hx hb dM_via_106 rfl (lv_at hl 2 rfl) ?_
  refine lv_iconst (v := (-1)) hx hb dM_via_107 (by decide) ?_
  refine lv_icmp_eq (tgt := 135) hx hb dM_via_108 (by decide) ?_ ?_
  · intro c1
    replace h := h.1 c1
    exact w_M_via_135 l C0 hE a_this a_units a_kinds a_values a_names a_low a_high a_told a_leftOut a_isMade a_hands a_pad a_court a_title a_out k_values k_pad p1 p2 v_this_thrown v_this_size v_this_families v_this_atHand v_this_family v_this_density v_this_pads v_this_hasThermal v_this_titleSize v_this_written v_this_at v_this_begin v_this_words v_this_paste0 v_values v_pad post hK y3 y6 t0 _ _ h hP hD hS ls (lv_sub hl [1, 2, 3, 4, 5, 0] rfl)
  · intro c1
    replace h := h.2 c1
    refine lv_iload_n hx hb dM_via_111 rfl (lv_at hl 2 rfl) ?_
    refine lv_if_lt (tgt := 139) hx hb dM_via_112 (by decide) ?_ ?_
    · intro c2
      replace h := h.1 c2
      exact w_M_via_139 l C0 hE a_this a_units a_kinds a_values a_names a_low a_high a_told a_leftOut a_isMade a_hands a_pad a_court a_title a_out k_values k_pad p1 p2 v_this_thrown v_this_size v_this_families v_this_atHand v_this_family v_this_density v_this_pads v_this_hasThermal v_this_titleSize v_this_written v_this_at v_this_begin v_this_words v_this_paste0 v_values v_pad post hK y3 y6 t0 _ _ h hP hD hS ls (lv_sub hl [1, 2, 3, 4, 5, 0] rfl)
    · intro c2
      replace h := h.2 c2
      refine lv_iload_n hx hb dM_via_115 rfl (lv_at hl 2 rfl) ?_
      refine lv_i2l hx hb dM_via_116 rfl ?_
      refine lv_lload hx hb dM_via_117 (lv_at hl 5 rfl) ?_
      refine lv_lload hx hb dM_via_119 (lv_at hl 0 rfl) ?_
      refine lv_lmul hx hb dM_via_121 ?_
      refine zz_lcmp_ge (tgt := 139) hx hb dM_via_122 dM_via_123 (by decide) ?_ ?_
      · intro c3
        replace h := h.1 c3
        exact w_M_via_139 l C0 hE a_this a_units a_kinds a_values a_names a_low a_high a_told a_leftOut a_isMade a_hands a_pad a_court a_title a_out k_values k_pad p1 p2 v_this_thrown v_this_size v_this_families v_this_atHand v_this_family v_this_density v_this_pads v_this_hasThermal v_this_titleSize v_this_written v_this_at v_this_begin v_this_words v_this_paste0 v_values v_pad post hK y3 y6 t0 _ _ h hP hD hS ls (lv_sub hl [1, 2, 3, 4, 5, 0] rfl)
      · intro c3
        replace h := h.2 c3
        refine lv_iload_n hx hb dM_via_126 rfl (lv_at hl 3 rfl) ?_
        refine lv_if_lt (tgt := 139) hx hb dM_via_127 (by decide) ?_ ?_
        · intro c4
          replace h := h.1 c4
          exact w_M_via_139 l C0 hE a_this a_units a_kinds a_values a_names a_low a_high a_told a_leftOut a_isMade a_hands a_pad a_court a_title a_out k_values k_pad p1 p2 v_this_thrown v_this_size v_this_families v_this_atHand v_this_family v_this_density v_this_pads v_this_hasThermal v_this_titleSize v_this_written v_this_at v_this_begin v_this_words v_this_paste0 v_values v_pad post hK y3 y6 t0 _ _ h hP hD hS ls (lv_sub hl [1, 2, 3, 4, 5, 0] rfl)
        · intro c4
          replace h := h.2 c4
          refine lv_iload_n hx hb dM_via_130 rfl (lv_at hl 3 rfl) ?_
          refine lv_iconst (v := 2) hx hb dM_via_131 (by decide) ?_
          refine lv_icmp_ge (tgt := 139) hx hb dM_via_132 (by decide) ?_ ?_
          · intro c5
            replace h := h.1 c5
            exact w_M_via_139 l C0 hE a_this a_units a_kinds a_values a_names a_low a_high a_told a_leftOut a_isMade a_hands a_pad a_court a_title a_out k_values k_pad p1 p2 v_this_thrown v_this_size v_this_families v_this_atHand v_this_family v_this_density v_this_pads v_this_hasThermal v_this_titleSize v_this_written v_this_at v_this_begin v_this_words v_this_paste0 v_values v_pad post hK y3 y6 t0 _ _ h hP hD hS ls (lv_sub hl [1, 2, 3, 4, 5, 0] rfl)
          · intro c5
            replace h := h.2 c5
            exact w_M_via_135 l C0 hE a_this a_units a_kinds a_values a_names a_low a_high a_told a_leftOut a_isMade a_hands a_pad a_court a_title a_out k_values k_pad p1 p2 v_this_thrown v_this_size v_this_families v_this_atHand v_this_family v_this_density v_this_pads v_this_hasThermal v_this_titleSize v_this_written v_this_at v_this_begin v_this_words v_this_paste0 v_values v_pad post hK y3 y6 t0 _ _ h hP hD hS ls (lv_sub hl [1, 2, 3, 4, 5, 0] rfl)
def P_M_via_101 (p1 : Int32) (p2 : Int32) (v_this_atHand : Int32) (post : Int32 → Int32 → Prop) (y3 : Int64) (y6 : Int64) : Prop := P_M_via_102 p1 p2 v_this_atHand post y3 y6 0
set_option maxHeartbeats 4000000 in
set_option maxRecDepth 100000 in
theorem w_M_via_101 (l : Launch) {p : Program} {e : Env} {s : State} {m : MethodId} {args : Array Value} {below : List Frame} {meth : Method} {c : Code} {dC : Nat → ClassId} {dI : Nat → Nat → Nat} {ad : Nat → Nat → Nat} {A : Nat → Prop} (C0 : zC p s m args meth c cM_via 10 RM zT (some .int) A) (hE : zE ad A s) (a_this : Nat) (a_units : Nat) (a_kinds : Nat) (a_values : Nat) (a_names : Nat) (a_low : Nat) (a_high : Nat) (a_told : Nat) (a_leftOut : Nat) (a_isMade : Nat) (a_hands : Nat) (a_pad : Nat) (a_court : Nat) (a_title : Nat) (a_out : Nat) (k_values : ClassId) (k_pad : ClassId) (p1 : Int32) (p2 : Int32) (v_this_thrown : Int32) (v_this_size : Int32) (v_this_families : Int32) (v_this_atHand : Int32) (v_this_family : Int32) (v_this_density : Int32) (v_this_pads : Int32) (v_this_hasThermal : Int32) (v_this_titleSize : Int32) (v_this_written : Int32) (v_this_at : Int32) (v_this_begin : Int32) (v_this_words : Int32) (v_this_paste0 : Int64) (v_values : Nat → Int64) (v_pad : Nat → Int64) (post : Int32 → Int32 → Prop) (hK : va_K (dC, dI) vwCl [(k_values, .long), (k_pad, .long)] s) : ∀ (y3 : Int64) (y6 : Int64) (H : Heap) (locs : List Loc), P_M_via_101 p1 p2 v_this_atHand post y3 y6 → va_P (dC, dI) vwCl (w_M_via ad a_this a_units a_kinds a_values a_names a_low a_high a_told a_leftOut a_isMade a_hands a_pad a_court a_title a_out k_values k_pad v_this_thrown v_this_size v_this_families v_this_atHand v_this_family v_this_density v_this_pads v_this_hasThermal v_this_titleSize v_this_written v_this_at v_this_begin v_this_words v_this_paste0 v_values v_pad) H → va_D A (w_M_via ad a_this a_units a_kinds a_values a_names a_low a_high a_told a_leftOut a_isMade a_hands a_pad a_court a_title a_out k_values k_pad v_this_thrown v_this_size v_this_families v_this_atHand v_this_family v_this_density v_this_pads v_this_hasThermal v_this_titleSize v_this_written v_this_at v_this_begin v_this_words v_this_paste0 v_values v_pad) → va_S A s.heap H locs → ∀ ls : Array Slot, lv_has ls 10 [(0, .ref a_this), (1, .int p1), (2, .int p2), (3, .long y3), (6, .long y6)] → W p l e (headSpec wsM_via { frames := 1, cells := 0, slots := 0, locals := 25 }).room s m args below meth c H locs 0 0 (MQ below (va_Qi (fun (r : Int32) (u : Int32) => post r u) (zB (dC, dI) A (fun (u : Int32) => (w_M_via ad a_this a_units a_kinds a_values a_names a_low a_high a_told a_leftOut a_isMade a_hands a_pad a_court a_title a_out k_values k_pad u v_this_size v_this_families v_this_atHand v_this_family v_this_density v_this_pads v_this_hasThermal v_this_titleSize v_this_written v_this_at v_this_begin v_this_words v_this_paste0 v_values v_pad))) A) args s 0 0 A) (F0 m 101 ls []) := by
  obtain ⟨hx, hb, hr, hml, hown, hts, hlocks, hA⟩ := id C0
  intro y3 y6 H locs h hP hD hS ls hl
  unfold P_M_via_101 at h
  refine lv_lconst (v := 0) hx hb dM_via_101 (by decide) ?_
  exact w_M_via_102 l C0 hE a_this a_units a_kinds a_values a_names a_low a_high a_told a_leftOut a_isMade a_hands a_pad a_court a_title a_out k_values k_pad p1 p2 v_this_thrown v_this_size v_this_families v_this_atHand v_this_family v_this_density v_this_pads v_this_hasThermal v_this_titleSize v_this_written v_this_at v_this_begin v_this_words v_this_paste0 v_values v_pad post hK y3 y6 0 _ _ h hP hD hS ls (lv_sub hl [0, 1, 2, 3, 4] rfl)
def P_M_via_65 (p1 : Int32) (p2 : Int32) (v_this_atHand : Int32) (v_this_hasThermal : Int32) (v_pad : Nat → Int64) (post : Int32 → Int32 → Prop) (y3 : Int64) (y5 : Int32) (t0 : Int64) : Prop := ((v_this_atHand = 0 → P_M_via_101 p1 p2 v_this_atHand post y3 t0) ∧ (¬ v_this_atHand = 0 → ((v_this_hasThermal = 0 → P_M_via_101 p1 p2 v_this_atHand post y3 t0) ∧ (¬ v_this_hasThermal = 0 → ((y3 ≤ 0 → P_M_via_101 p1 p2 v_this_atHand post y3 t0) ∧ (¬ y3 ≤ 0 → vp_in (y5 + 4) 455 ∧ ¬ y3 = 0 ∧ P_M_via_102 p1 p2 v_this_atHand post y3 t0 ((v_pad (y5 + 4).toNatClampNeg) / y3)))))))
set_option maxHeartbeats 4000000 in
set_option maxRecDepth 100000 in
theorem w_M_via_65 (l : Launch) {p : Program} {e : Env} {s : State} {m : MethodId} {args : Array Value} {below : List Frame} {meth : Method} {c : Code} {dC : Nat → ClassId} {dI : Nat → Nat → Nat} {ad : Nat → Nat → Nat} {A : Nat → Prop} (C0 : zC p s m args meth c cM_via 10 RM zT (some .int) A) (hE : zE ad A s) (a_this : Nat) (a_units : Nat) (a_kinds : Nat) (a_values : Nat) (a_names : Nat) (a_low : Nat) (a_high : Nat) (a_told : Nat) (a_leftOut : Nat) (a_isMade : Nat) (a_hands : Nat) (a_pad : Nat) (a_court : Nat) (a_title : Nat) (a_out : Nat) (k_values : ClassId) (k_pad : ClassId) (p1 : Int32) (p2 : Int32) (v_this_thrown : Int32) (v_this_size : Int32) (v_this_families : Int32) (v_this_atHand : Int32) (v_this_family : Int32) (v_this_density : Int32) (v_this_pads : Int32) (v_this_hasThermal : Int32) (v_this_titleSize : Int32) (v_this_written : Int32) (v_this_at : Int32) (v_this_begin : Int32) (v_this_words : Int32) (v_this_paste0 : Int64) (v_values : Nat → Int64) (v_pad : Nat → Int64) (post : Int32 → Int32 → Prop) (hK : va_K (dC, dI) vwCl [(k_values, .long), (k_pad, .long)] s) : ∀ (y3 : Int64) (y5 : Int32) (t0 : Int64) (H : Heap) (locs : List Loc), P_M_via_65 p1 p2 v_this_atHand v_this_hasThermal v_pad post y3 y5 t0 → va_P (dC, dI) vwCl (w_M_via ad a_this a_units a_kinds a_values a_names a_low a_high a_told a_leftOut a_isMade a_hands a_pad a_court a_title a_out k_values k_pad v_this_thrown v_this_size v_this_families v_this_atHand v_this_family v_this_density v_this_pads v_this_hasThermal v_this_titleSize v_this_written v_this_at v_this_begin v_this_words v_this_paste0 v_values v_pad) H → va_D A (w_M_via ad a_this a_units a_kinds a_values a_names a_low a_high a_told a_leftOut a_isMade a_hands a_pad a_court a_title a_out k_values k_pad v_this_thrown v_this_size v_this_families v_this_atHand v_this_family v_this_density v_this_pads v_this_hasThermal v_this_titleSize v_this_written v_this_at v_this_begin v_this_words v_this_paste0 v_values v_pad) → va_S A s.heap H locs → ∀ ls : Array Slot, lv_has ls 10 [(0, .ref a_this), (1, .int p1), (2, .int p2), (3, .long y3), (5, .int y5)] → W p l e (headSpec wsM_via { frames := 1, cells := 0, slots := 0, locals := 25 }).room s m args below meth c H locs 0 0 (MQ below (va_Qi (fun (r : Int32) (u : Int32) => post r u) (zB (dC, dI) A (fun (u : Int32) => (w_M_via ad a_this a_units a_kinds a_values a_names a_low a_high a_told a_leftOut a_isMade a_hands a_pad a_court a_title a_out k_values k_pad u v_this_size v_this_families v_this_atHand v_this_family v_this_density v_this_pads v_this_hasThermal v_this_titleSize v_this_written v_this_at v_this_begin v_this_words v_this_paste0 v_values v_pad))) A) args s 0 0 A) (F0 m 65 ls [.long t0]) := by
  obtain ⟨hx, hb, hr, hml, hown, hts, hlocks, hA⟩ := id C0
  intro y3 y5 t0 H locs h hP hD hS ls hl
  unfold P_M_via_65 at h
  refine lv_lstore (lv' := [(6, .long t0), (0, .ref a_this), (1, .int p1), (2, .int p2), (3, .long y3), (5, .int y5)]) hx hb dM_via_65 hl (by decide) rfl (fun ls hl => ?_)
  refine lv_aload_n hx hb dM_via_67 rfl (lv_at hl 1 rfl) ?_
  refine va_get (D := (dC, dI)) (ci := 10) (v := .int v_this_atHand) (C := RM) (T := TM) (N := 28) hx hb hts inZ_M hown hK hP 0 rfl rfl 13 (by decide) (hts _ zw_1057) (fun _ h9 => h9) rfl dM_via_68 ?_
  refine lv_if_eq (tgt := 101) hx hb dM_via_71 (by decide) ?_ ?_
  · intro c1
    replace h := h.1 c1
    exact w_M_via_101 l C0 hE a_this a_units a_kinds a_values a_names a_low a_high a_told a_leftOut a_isMade a_hands a_pad a_court a_title a_out k_values k_pad p1 p2 v_this_thrown v_this_size v_this_families v_this_atHand v_this_family v_this_density v_this_pads v_this_hasThermal v_this_titleSize v_this_written v_this_at v_this_begin v_this_words v_this_paste0 v_values v_pad post hK y3 t0 _ _ h hP hD hS ls (lv_sub hl [1, 2, 3, 4, 0] rfl)
  · intro c1
    replace h := h.2 c1
    refine lv_aload_n hx hb dM_via_74 rfl (lv_at hl 1 rfl) ?_
    refine va_get (D := (dC, dI)) (ci := 10) (v := .int v_this_hasThermal) (C := RM) (T := TM) (N := 28) hx hb hts inZ_M hown hK hP 0 rfl rfl 19 (by decide) (hts _ zw_1063) (fun _ h9 => h9) rfl dM_via_75 ?_
    refine lv_if_eq (tgt := 101) hx hb dM_via_78 (by decide) ?_ ?_
    · intro c2
      replace h := h.1 c2
      exact w_M_via_101 l C0 hE a_this a_units a_kinds a_values a_names a_low a_high a_told a_leftOut a_isMade a_hands a_pad a_court a_title a_out k_values k_pad p1 p2 v_this_thrown v_this_size v_this_families v_this_atHand v_this_family v_this_density v_this_pads v_this_hasThermal v_this_titleSize v_this_written v_this_at v_this_begin v_this_words v_this_paste0 v_values v_pad post hK y3 t0 _ _ h hP hD hS ls (lv_sub hl [1, 2, 3, 4, 0] rfl)
    · intro c2
      replace h := h.2 c2
      refine lv_lload_n hx hb dM_via_81 rfl (lv_at hl 4 rfl) ?_
      refine lv_lconst (v := 0) hx hb dM_via_82 (by decide) ?_
      refine zz_lcmp_le (tgt := 101) hx hb dM_via_83 dM_via_84 (by decide) ?_ ?_
      · intro c3
        replace h := h.1 c3
        exact w_M_via_101 l C0 hE a_this a_units a_kinds a_values a_names a_low a_high a_told a_leftOut a_isMade a_hands a_pad a_court a_title a_out k_values k_pad p1 p2 v_this_thrown v_this_size v_this_families v_this_atHand v_this_family v_this_density v_this_pads v_this_hasThermal v_this_titleSize v_this_written v_this_at v_this_begin v_this_words v_this_paste0 v_values v_pad post hK y3 t0 _ _ h hP hD hS ls (lv_sub hl [1, 2, 3, 4, 0] rfl)
      · intro c3
        replace h := h.2 c3
        refine lv_aload_n hx hb dM_via_87 rfl (lv_at hl 1 rfl) ?_
        refine va_get (D := (dC, dI)) (ci := 10) (v := .ref a_pad) (C := RM) (T := TM) (N := 28) hx hb hts inZ_M hown hK hP 0 rfl rfl 17 (by decide) (hts _ zw_1061) (fun _ h9 => h9) rfl dM_via_88 ?_
        refine lv_iload hx hb dM_via_91 (lv_at hl 5 rfl) ?_
        refine lv_iconst (v := 4) hx hb dM_via_93 (by decide) ?_
        refine lv_iadd hx hb dM_via_94 ?_
        obtain ⟨hn4, h⟩ := h
        refine va_lald hx hb hK hP 2 1 rfl rfl hn4 dM_via_95 ?_
        refine lv_lload_n hx hb dM_via_96 rfl (lv_at hl 4 rfl) ?_
        obtain ⟨hn5, h⟩ := h
        refine lv_ldiv hx hb dM_via_97 hn5 ?_
        refine lv_goto (tgt := 102) hx hb dM_via_98 (by decide) ?_
        exact w_M_via_102 l C0 hE a_this a_units a_kinds a_values a_names a_low a_high a_told a_leftOut a_isMade a_hands a_pad a_court a_title a_out k_values k_pad p1 p2 v_this_thrown v_this_size v_this_families v_this_atHand v_this_family v_this_density v_this_pads v_this_hasThermal v_this_titleSize v_this_written v_this_at v_this_begin v_this_words v_this_paste0 v_values v_pad post hK y3 t0 ((v_pad (y5 + 4).toNatClampNeg) / y3) _ _ h hP hD hS ls (lv_sub hl [1, 2, 3, 4, 0] rfl)
def P_M_via_64 (p1 : Int32) (p2 : Int32) (v_this_atHand : Int32) (v_this_hasThermal : Int32) (v_pad : Nat → Int64) (post : Int32 → Int32 → Prop) (y3 : Int64) (y5 : Int32) : Prop := P_M_via_65 p1 p2 v_this_atHand v_this_hasThermal v_pad post y3 y5 0
set_option maxHeartbeats 4000000 in
set_option maxRecDepth 100000 in
theorem w_M_via_64 (l : Launch) {p : Program} {e : Env} {s : State} {m : MethodId} {args : Array Value} {below : List Frame} {meth : Method} {c : Code} {dC : Nat → ClassId} {dI : Nat → Nat → Nat} {ad : Nat → Nat → Nat} {A : Nat → Prop} (C0 : zC p s m args meth c cM_via 10 RM zT (some .int) A) (hE : zE ad A s) (a_this : Nat) (a_units : Nat) (a_kinds : Nat) (a_values : Nat) (a_names : Nat) (a_low : Nat) (a_high : Nat) (a_told : Nat) (a_leftOut : Nat) (a_isMade : Nat) (a_hands : Nat) (a_pad : Nat) (a_court : Nat) (a_title : Nat) (a_out : Nat) (k_values : ClassId) (k_pad : ClassId) (p1 : Int32) (p2 : Int32) (v_this_thrown : Int32) (v_this_size : Int32) (v_this_families : Int32) (v_this_atHand : Int32) (v_this_family : Int32) (v_this_density : Int32) (v_this_pads : Int32) (v_this_hasThermal : Int32) (v_this_titleSize : Int32) (v_this_written : Int32) (v_this_at : Int32) (v_this_begin : Int32) (v_this_words : Int32) (v_this_paste0 : Int64) (v_values : Nat → Int64) (v_pad : Nat → Int64) (post : Int32 → Int32 → Prop) (hK : va_K (dC, dI) vwCl [(k_values, .long), (k_pad, .long)] s) : ∀ (y3 : Int64) (y5 : Int32) (H : Heap) (locs : List Loc), P_M_via_64 p1 p2 v_this_atHand v_this_hasThermal v_pad post y3 y5 → va_P (dC, dI) vwCl (w_M_via ad a_this a_units a_kinds a_values a_names a_low a_high a_told a_leftOut a_isMade a_hands a_pad a_court a_title a_out k_values k_pad v_this_thrown v_this_size v_this_families v_this_atHand v_this_family v_this_density v_this_pads v_this_hasThermal v_this_titleSize v_this_written v_this_at v_this_begin v_this_words v_this_paste0 v_values v_pad) H → va_D A (w_M_via ad a_this a_units a_kinds a_values a_names a_low a_high a_told a_leftOut a_isMade a_hands a_pad a_court a_title a_out k_values k_pad v_this_thrown v_this_size v_this_families v_this_atHand v_this_family v_this_density v_this_pads v_this_hasThermal v_this_titleSize v_this_written v_this_at v_this_begin v_this_words v_this_paste0 v_values v_pad) → va_S A s.heap H locs → ∀ ls : Array Slot, lv_has ls 10 [(0, .ref a_this), (1, .int p1), (2, .int p2), (3, .long y3), (5, .int y5)] → W p l e (headSpec wsM_via { frames := 1, cells := 0, slots := 0, locals := 25 }).room s m args below meth c H locs 0 0 (MQ below (va_Qi (fun (r : Int32) (u : Int32) => post r u) (zB (dC, dI) A (fun (u : Int32) => (w_M_via ad a_this a_units a_kinds a_values a_names a_low a_high a_told a_leftOut a_isMade a_hands a_pad a_court a_title a_out k_values k_pad u v_this_size v_this_families v_this_atHand v_this_family v_this_density v_this_pads v_this_hasThermal v_this_titleSize v_this_written v_this_at v_this_begin v_this_words v_this_paste0 v_values v_pad))) A) args s 0 0 A) (F0 m 64 ls []) := by
  obtain ⟨hx, hb, hr, hml, hown, hts, hlocks, hA⟩ := id C0
  intro y3 y5 H locs h hP hD hS ls hl
  unfold P_M_via_64 at h
  refine lv_lconst (v := 0) hx hb dM_via_64 (by decide) ?_
  exact w_M_via_65 l C0 hE a_this a_units a_kinds a_values a_names a_low a_high a_told a_leftOut a_isMade a_hands a_pad a_court a_title a_out k_values k_pad p1 p2 v_this_thrown v_this_size v_this_families v_this_atHand v_this_family v_this_density v_this_pads v_this_hasThermal v_this_titleSize v_this_written v_this_at v_this_begin v_this_words v_this_paste0 v_values v_pad post hK y3 y5 0 _ _ h hP hD hS ls (lv_sub hl [0, 1, 2, 3, 4] rfl)
def P_M_via_17 (p1 : Int32) (p2 : Int32) (v_this_atHand : Int32) (v_this_pads : Int32) (v_this_hasThermal : Int32) (v_pad : Nat → Int64) (post : Int32 → Int32 → Prop) (t0 : Int64) : Prop := ∀ x1 : Int32, x1 = (7 * v_this_pads) - 7 → ((v_this_atHand = 0 → P_M_via_64 p1 p2 v_this_atHand v_this_hasThermal v_pad post t0 x1) ∧ (¬ v_this_atHand = 0 → ((v_this_hasThermal = 0 → P_M_via_64 p1 p2 v_this_atHand v_this_hasThermal v_pad post t0 x1) ∧ (¬ v_this_hasThermal = 0 → ((t0 ≤ 0 → P_M_via_64 p1 p2 v_this_atHand v_this_hasThermal v_pad post t0 x1) ∧ (¬ t0 ≤ 0 → vp_in (x1 + 3) 455 ∧ ¬ t0 = 0 ∧ P_M_via_65 p1 p2 v_this_atHand v_this_hasThermal v_pad post t0 x1 ((v_pad (x1 + 3).toNatClampNeg) / t0)))))))
set_option maxHeartbeats 4000000 in
set_option maxRecDepth 100000 in
theorem w_M_via_17 (l : Launch) {p : Program} {e : Env} {s : State} {m : MethodId} {args : Array Value} {below : List Frame} {meth : Method} {c : Code} {dC : Nat → ClassId} {dI : Nat → Nat → Nat} {ad : Nat → Nat → Nat} {A : Nat → Prop} (C0 : zC p s m args meth c cM_via 10 RM zT (some .int) A) (hE : zE ad A s) (a_this : Nat) (a_units : Nat) (a_kinds : Nat) (a_values : Nat) (a_names : Nat) (a_low : Nat) (a_high : Nat) (a_told : Nat) (a_leftOut : Nat) (a_isMade : Nat) (a_hands : Nat) (a_pad : Nat) (a_court : Nat) (a_title : Nat) (a_out : Nat) (k_values : ClassId) (k_pad : ClassId) (p1 : Int32) (p2 : Int32) (v_this_thrown : Int32) (v_this_size : Int32) (v_this_families : Int32) (v_this_atHand : Int32) (v_this_family : Int32) (v_this_density : Int32) (v_this_pads : Int32) (v_this_hasThermal : Int32) (v_this_titleSize : Int32) (v_this_written : Int32) (v_this_at : Int32) (v_this_begin : Int32) (v_this_words : Int32) (v_this_paste0 : Int64) (v_values : Nat → Int64) (v_pad : Nat → Int64) (post : Int32 → Int32 → Prop) (hK : va_K (dC, dI) vwCl [(k_values, .long), (k_pad, .long)] s) : ∀ (t0 : Int64) (H : Heap) (locs : List Loc), P_M_via_17 p1 p2 v_this_atHand v_this_pads v_this_hasThermal v_pad post t0 → va_P (dC, dI) vwCl (w_M_via ad a_this a_units a_kinds a_values a_names a_low a_high a_told a_leftOut a_isMade a_hands a_pad a_court a_title a_out k_values k_pad v_this_thrown v_this_size v_this_families v_this_atHand v_this_family v_this_density v_this_pads v_this_hasThermal v_this_titleSize v_this_written v_this_at v_this_begin v_this_words v_this_paste0 v_values v_pad) H → va_D A (w_M_via ad a_this a_units a_kinds a_values a_names a_low a_high a_told a_leftOut a_isMade a_hands a_pad a_court a_title a_out k_values k_pad v_this_thrown v_this_size v_this_families v_this_atHand v_this_family v_this_density v_this_pads v_this_hasThermal v_this_titleSize v_this_written v_this_at v_this_begin v_this_words v_this_paste0 v_values v_pad) → va_S A s.heap H locs → ∀ ls : Array Slot, lv_has ls 10 [(0, .ref a_this), (1, .int p1), (2, .int p2)] → W p l e (headSpec wsM_via { frames := 1, cells := 0, slots := 0, locals := 25 }).room s m args below meth c H locs 0 0 (MQ below (va_Qi (fun (r : Int32) (u : Int32) => post r u) (zB (dC, dI) A (fun (u : Int32) => (w_M_via ad a_this a_units a_kinds a_values a_names a_low a_high a_told a_leftOut a_isMade a_hands a_pad a_court a_title a_out k_values k_pad u v_this_size v_this_families v_this_atHand v_this_family v_this_density v_this_pads v_this_hasThermal v_this_titleSize v_this_written v_this_at v_this_begin v_this_words v_this_paste0 v_values v_pad))) A) args s 0 0 A) (F0 m 17 ls [.long t0]) := by
  obtain ⟨hx, hb, hr, hml, hown, hts, hlocks, hA⟩ := id C0
  intro t0 H locs h hP hD hS ls hl
  unfold P_M_via_17 at h
  refine lv_lstore_n (lv' := [(3, .long t0), (0, .ref a_this), (1, .int p1), (2, .int p2)]) hx hb dM_via_17 rfl hl (by decide) rfl (fun ls hl => ?_)
  refine lv_bipush (v := 7) hx hb dM_via_18 (by decide) ?_
  refine lv_aload_n hx hb dM_via_20 rfl (lv_at hl 1 rfl) ?_
  refine va_get (D := (dC, dI)) (ci := 10) (v := .int v_this_pads) (C := RM) (T := TM) (N := 28) hx hb hts inZ_M hown hK hP 0 rfl rfl 16 (by decide) (hts _ zw_1060) (fun _ h9 => h9) rfl dM_via_21 ?_
  refine lv_imul hx hb dM_via_24 ?_
  refine lv_bipush (v := 7) hx hb dM_via_25 (by decide) ?_
  refine lv_isub hx hb dM_via_27 ?_
  refine lv_topi (fun x1 ex1 => ?_)
  replace h := h x1 ex1
  refine lv_istore (lv' := [(5, .int x1), (3, .long t0), (0, .ref a_this), (1, .int p1), (2, .int p2)]) hx hb dM_via_28 hl (by decide) rfl (fun ls hl => ?_)
  refine lv_aload_n hx hb dM_via_30 rfl (lv_at hl 2 rfl) ?_
  refine va_get (D := (dC, dI)) (ci := 10) (v := .int v_this_atHand) (C := RM) (T := TM) (N := 28) hx hb hts inZ_M hown hK hP 0 rfl rfl 13 (by decide) (hts _ zw_1057) (fun _ h9 => h9) rfl dM_via_31 ?_
  refine lv_if_eq (tgt := 64) hx hb dM_via_34 (by decide) ?_ ?_
  · intro c2
    replace h := h.1 c2
    exact w_M_via_64 l C0 hE a_this a_units a_kinds a_values a_names a_low a_high a_told a_leftOut a_isMade a_hands a_pad a_court a_title a_out k_values k_pad p1 p2 v_this_thrown v_this_size v_this_families v_this_atHand v_this_family v_this_density v_this_pads v_this_hasThermal v_this_titleSize v_this_written v_this_at v_this_begin v_this_words v_this_paste0 v_values v_pad post hK t0 x1 _ _ h hP hD hS ls (lv_sub hl [2, 3, 4, 1, 0] rfl)
  · intro c2
    replace h := h.2 c2
    refine lv_aload_n hx hb dM_via_37 rfl (lv_at hl 2 rfl) ?_
    refine va_get (D := (dC, dI)) (ci := 10) (v := .int v_this_hasThermal) (C := RM) (T := TM) (N := 28) hx hb hts inZ_M hown hK hP 0 rfl rfl 19 (by decide) (hts _ zw_1063) (fun _ h9 => h9) rfl dM_via_38 ?_
    refine lv_if_eq (tgt := 64) hx hb dM_via_41 (by decide) ?_ ?_
    · intro c3
      replace h := h.1 c3
      exact w_M_via_64 l C0 hE a_this a_units a_kinds a_values a_names a_low a_high a_told a_leftOut a_isMade a_hands a_pad a_court a_title a_out k_values k_pad p1 p2 v_this_thrown v_this_size v_this_families v_this_atHand v_this_family v_this_density v_this_pads v_this_hasThermal v_this_titleSize v_this_written v_this_at v_this_begin v_this_words v_this_paste0 v_values v_pad post hK t0 x1 _ _ h hP hD hS ls (lv_sub hl [2, 3, 4, 1, 0] rfl)
    · intro c3
      replace h := h.2 c3
      refine lv_lload_n hx hb dM_via_44 rfl (lv_at hl 1 rfl) ?_
      refine lv_lconst (v := 0) hx hb dM_via_45 (by decide) ?_
      refine zz_lcmp_le (tgt := 64) hx hb dM_via_46 dM_via_47 (by decide) ?_ ?_
      · intro c4
        replace h := h.1 c4
        exact w_M_via_64 l C0 hE a_this a_units a_kinds a_values a_names a_low a_high a_told a_leftOut a_isMade a_hands a_pad a_court a_title a_out k_values k_pad p1 p2 v_this_thrown v_this_size v_this_families v_this_atHand v_this_family v_this_density v_this_pads v_this_hasThermal v_this_titleSize v_this_written v_this_at v_this_begin v_this_words v_this_paste0 v_values v_pad post hK t0 x1 _ _ h hP hD hS ls (lv_sub hl [2, 3, 4, 1, 0] rfl)
      · intro c4
        replace h := h.2 c4
        refine lv_aload_n hx hb dM_via_50 rfl (lv_at hl 2 rfl) ?_
        refine va_get (D := (dC, dI)) (ci := 10) (v := .ref a_pad) (C := RM) (T := TM) (N := 28) hx hb hts inZ_M hown hK hP 0 rfl rfl 17 (by decide) (hts _ zw_1061) (fun _ h9 => h9) rfl dM_via_51 ?_
        refine lv_iload hx hb dM_via_54 (lv_at hl 0 rfl) ?_
        refine lv_iconst (v := 3) hx hb dM_via_56 (by decide) ?_
        refine lv_iadd hx hb dM_via_57 ?_
        obtain ⟨hn5, h⟩ := h
        refine va_lald hx hb hK hP 2 1 rfl rfl hn5 dM_via_58 ?_
        refine lv_lload_n hx hb dM_via_59 rfl (lv_at hl 1 rfl) ?_
        obtain ⟨hn6, h⟩ := h
        refine lv_ldiv hx hb dM_via_60 hn6 ?_
        refine lv_goto (tgt := 65) hx hb dM_via_61 (by decide) ?_
        exact w_M_via_65 l C0 hE a_this a_units a_kinds a_values a_names a_low a_high a_told a_leftOut a_isMade a_hands a_pad a_court a_title a_out k_values k_pad p1 p2 v_this_thrown v_this_size v_this_families v_this_atHand v_this_family v_this_density v_this_pads v_this_hasThermal v_this_titleSize v_this_written v_this_at v_this_begin v_this_words v_this_paste0 v_values v_pad post hK t0 x1 ((v_pad (x1 + 3).toNatClampNeg) / t0) _ _ h hP hD hS ls (lv_sub hl [2, 3, 4, 1, 0] rfl)
def P_M_via (p1 : Int32) (p2 : Int32) (v_this_atHand : Int32) (v_this_family : Int32) (v_this_density : Int32) (v_this_pads : Int32) (v_this_hasThermal : Int32) (v_values : Nat → Int64) (v_pad : Nat → Int64) (post : Int32 → Int32 → Prop) : Prop := ((v_this_atHand = 0 → P_M_via_17 p1 p2 v_this_atHand v_this_pads v_this_hasThermal v_pad post 0) ∧ (¬ v_this_atHand = 0 → P_M_of 9 v_this_family v_this_density v_values (fun (r2 : Int64) => P_M_via_17 p1 p2 v_this_atHand v_this_pads v_this_hasThermal v_pad post r2)))
set_option maxHeartbeats 4000000 in
set_option maxRecDepth 100000 in
theorem c_M_via (l : Launch) (dC : Nat → ClassId) (dI : Nat → Nat → Nat) (ad : Nat → Nat → Nat) (a_this : Nat) (a_units : Nat) (a_kinds : Nat) (a_values : Nat) (a_names : Nat) (a_low : Nat) (a_high : Nat) (a_told : Nat) (a_leftOut : Nat) (a_isMade : Nat) (a_hands : Nat) (a_pad : Nat) (a_court : Nat) (a_title : Nat) (a_out : Nat) (k_values : ClassId) (k_pad : ClassId) (sz : Nat) (p1 : Int32) (p2 : Int32) (v_this_thrown : Int32) (v_this_size : Int32) (v_this_families : Int32) (v_this_atHand : Int32) (v_this_family : Int32) (v_this_density : Int32) (v_this_pads : Int32) (v_this_hasThermal : Int32) (v_this_titleSize : Int32) (v_this_written : Int32) (v_this_at : Int32) (v_this_begin : Int32) (v_this_words : Int32) (v_this_paste0 : Int64) (v_values : Nat → Int64) (v_pad : Nat → Int64) (post : Int32 → Int32 → Prop) (h : P_M_via p1 p2 v_this_atHand v_this_family v_this_density v_this_pads v_this_hasThermal v_values v_pad post) : zMi l yM_via wsM_via { frames := 1, cells := 0, slots := 0, locals := 25 } (dC, dI) ad [.ref a_this, .int p1, .int p2] (w_M_via ad a_this a_units a_kinds a_values a_names a_low a_high a_told a_leftOut a_isMade a_hands a_pad a_court a_title a_out k_values k_pad v_this_thrown v_this_size v_this_families v_this_atHand v_this_family v_this_density v_this_pads v_this_hasThermal v_this_titleSize v_this_written v_this_at v_this_begin v_this_words v_this_paste0 v_values v_pad) [(k_values, .long), (k_pad, .long)] sz (fun (r : Int32) (u : Int32) => post r u) (fun (u : Int32) => (w_M_via ad a_this a_units a_kinds a_values a_names a_low a_high a_told a_leftOut a_isMade a_hands a_pad a_court a_title a_out k_values k_pad u v_this_size v_this_families v_this_atHand v_this_family v_this_density v_this_pads v_this_hasThermal v_this_titleSize v_this_written v_this_at v_this_begin v_this_words v_this_paste0 v_values v_pad)) 0 0 := by
  refine Met.ofW (cc := cM_via) (maxL := 10) (ret := (some .int)) (by decide +kernel) rfl ?_
  intro p e s m args below meth c s₁ B hml hv
  obtain ⟨rfl, hsz, hP, hK, hD0, hE⟩ := hv
  have hx := B.exec
  have hb := B.bytes
  have hr := B.returns
  have hts0 := atoms_spec (ws := wsM_via) B.pre
  have hts := fun w h => hts0 w (List.mem_cons_of_mem _ h)
  have hown : s.vm.findClass RM = some m.cls := findClass_of_methodNamed B.named
  have hlocks := B.notSynchronized
  subst hsz
  have hD := hD0.self (sz := s.heap.size)
  generalize hAe : va_A (w_M_via ad a_this a_units a_kinds a_values a_names a_low a_high a_told a_leftOut a_isMade a_hands a_pad a_court a_title a_out k_values k_pad v_this_thrown v_this_size v_this_families v_this_atHand v_this_family v_this_density v_this_pads v_this_hasThermal v_this_titleSize v_this_written v_this_at v_this_begin v_this_words v_this_paste0 v_values v_pad) s.heap.size = A at hD hE ⊢
  have hA : ∀ q : Nat, s.heap.size ≤ q → A q := fun q h => by rw [← hAe]; exact Or.inr h
  have C0 := zC.mk hx hb hr hml hown hts hlocks hA
  have hS : va_S A s.heap s.heap [] := va_S.rf
  have hl := lv_entry ([.ref a_this, .int p1, .int p2]) (n := 10) (Nat.le_of_ble_eq_true rfl)
  rw [lg_entry_eq]
  generalize (lg_sl ([.ref a_this, .int p1, .int p2]) ++ List.replicate (10 - (lg_sl ([.ref a_this, .int p1, .int p2])).length) Slot.unset).toArray = ls at hl ⊢
  have hl : lv_has ls 10 [(0, .ref a_this), (1, .int p1), (2, .int p2)] := hl
  unfold P_M_via at h
  refine lv_aload_n hx hb dM_via_0 rfl (lv_at hl 0 rfl) ?_
  refine va_get (D := (dC, dI)) (ci := 10) (v := .int v_this_atHand) (C := RM) (T := TM) (N := 28) hx hb hts inZ_M hown hK hP 0 rfl rfl 13 (by decide) (hts _ zw_1057) (fun _ h9 => h9) rfl dM_via_1 ?_
  refine lv_if_eq (tgt := 16) hx hb dM_via_4 (by decide) ?_ ?_
  · intro c1
    replace h := h.1 c1
    refine lv_lconst (v := 0) hx hb dM_via_16 (by decide) ?_
    exact w_M_via_17 l C0 hE a_this a_units a_kinds a_values a_names a_low a_high a_told a_leftOut a_isMade a_hands a_pad a_court a_title a_out k_values k_pad p1 p2 v_this_thrown v_this_size v_this_families v_this_atHand v_this_family v_this_density v_this_pads v_this_hasThermal v_this_titleSize v_this_written v_this_at v_this_begin v_this_words v_this_paste0 v_values v_pad post hK 0 _ _ h hP hD hS ls (lv_sub hl [0, 1, 2] rfl)
  · intro c1
    replace h := h.2 c1
    refine lv_aload_n hx hb dM_via_7 rfl (lv_at hl 0 rfl) ?_
    refine lv_bipush (v := 9) hx hb dM_via_8 (by decide) ?_
    refine zcall_l hP hD hS hA [0, 1] [2] (va_runV (As := [.int 9]) (rest := []) ⟨hx, hb, hml, hown, hts⟩ (c_M_of l dC dI ad a_this a_units a_kinds a_values a_names a_low a_high a_told a_leftOut a_isMade a_hands a_pad a_court a_title a_out k_values _ 9 v_this_thrown v_this_size v_this_families v_this_atHand v_this_family v_this_density v_this_pads v_this_hasThermal v_this_titleSize v_this_written v_this_at v_this_begin v_this_words v_this_paste0 v_values _ h) ⟨callB_of 1 hts (zgood zc_M_of) rfl rfl rfl (hts _ zw_107) (hts _ zw_1201) (by decide +kernel) ⟨Nat.le_of_ble_eq_true rfl, Nat.le_of_ble_eq_true rfl⟩, (hts _ zw_1203), (hts _ zw_74)⟩ (zpreV hE hK hP hD hS hA [0, 1] [0] (by rfl) (by rfl) (by decide) (ci := 10) (q0 := 0) rfl (by rfl)) rfl rfl hl.1 rfl (lv_room (Nat.le_of_ble_eq_true rfl)) dM_via_10 ⟨Nat.le_of_ble_eq_true rfl, Nat.le_of_ble_eq_true rfl⟩) (by rfl) (by rfl) (by decide) (by decide) (fun r2 u H locs h hP hD hS => ?_)
    try dsimp only at h
    have hP := hP.sub (ws' := (w_M_via ad a_this a_units a_kinds a_values a_names a_low a_high a_told a_leftOut a_isMade a_hands a_pad a_court a_title a_out k_values k_pad v_this_thrown v_this_size v_this_families v_this_atHand v_this_family v_this_density v_this_pads v_this_hasThermal v_this_titleSize v_this_written v_this_at v_this_begin v_this_words v_this_paste0 v_values v_pad)) [1, 2, 0] rfl
    have hD := hD.sub (ws' := (w_M_via ad a_this a_units a_kinds a_values a_names a_low a_high a_told a_leftOut a_isMade a_hands a_pad a_court a_title a_out k_values k_pad v_this_thrown v_this_size v_this_families v_this_atHand v_this_family v_this_density v_this_pads v_this_hasThermal v_this_titleSize v_this_written v_this_at v_this_begin v_this_words v_this_paste0 v_values v_pad)) [1, 2, 0] (by decide) rfl
    refine lv_goto (tgt := 17) hx hb dM_via_13 (by decide) ?_
    exact w_M_via_17 l C0 hE a_this a_units a_kinds a_values a_names a_low a_high a_told a_leftOut a_isMade a_hands a_pad a_court a_title a_out k_values k_pad p1 p2 v_this_thrown v_this_size v_this_families v_this_atHand v_this_family v_this_density v_this_pads v_this_hasThermal v_this_titleSize v_this_written v_this_at v_this_begin v_this_words v_this_paste0 v_values v_pad post hK r2 _ _ h hP hD hS ls (lv_sub hl [0, 1, 2] rfl)
abbrev yM_check : MethodName := ⟨"FootprintRulesModel", "check", "()I"⟩
abbrev cM_check : ByteArray := prog_14_method_49_code
abbrev wsM_check : List Cond := .code yM_check cM_check 6 (some .int) :: zT
set_option maxRecDepth 100000 in
theorem zc_M_check : Cond.code yM_check cM_check 6 (some .int) ∈ zT := zm 1327 (by rfl) (by rfl)
theorem dM_check_0 : decode cM_check 0 = .ok (.aload_n 0, 1) := by decide +kernel
theorem dM_check_1 : decode cM_check 1 = .ok (.aload_n 0, 1) := by decide +kernel
theorem dM_check_2 : decode cM_check 2 = .ok (.iconst 1, 1) := by decide +kernel
theorem dM_check_3 : decode cM_check 3 = .ok (.invokevirtual 224, 3) := by decide +kernel
theorem dM_check_6 : decode cM_check 6 = .ok (.putfield 54, 3) := by decide +kernel
theorem dM_check_9 : decode cM_check 9 = .ok (.aload_n 0, 1) := by decide +kernel
theorem dM_check_10 : decode cM_check 10 = .ok (.getfield 54, 3) := by decide +kernel
theorem dM_check_13 : decode cM_check 13 = .ok (.ifCond .eq 5, 3) := by decide +kernel
theorem dM_check_16 : decode cM_check 16 = .ok (.iconst 0, 1) := by decide +kernel
theorem dM_check_17 : decode cM_check 17 = .ok (.ireturn, 1) := by decide +kernel
theorem dM_check_18 : decode cM_check 18 = .ok (.iconst 0, 1) := by decide +kernel
theorem dM_check_19 : decode cM_check 19 = .ok (.istore_n 1, 1) := by decide +kernel
theorem dM_check_20 : decode cM_check 20 = .ok (.iconst 1, 1) := by decide +kernel
theorem dM_check_21 : decode cM_check 21 = .ok (.istore_n 2, 1) := by decide +kernel
theorem dM_check_22 : decode cM_check 22 = .ok (.iload_n 2, 1) := by decide +kernel
theorem dM_check_23 : decode cM_check 23 = .ok (.bipush 80, 2) := by decide +kernel
theorem dM_check_25 : decode cM_check 25 = .ok (.if_icmp .gt 158, 3) := by decide +kernel
theorem dM_check_28 : decode cM_check 28 = .ok (.iconst (-1), 1) := by decide +kernel
theorem dM_check_29 : decode cM_check 29 = .ok (.istore_n 3, 1) := by decide +kernel
theorem dM_check_30 : decode cM_check 30 = .ok (.iconst 0, 1) := by decide +kernel
theorem dM_check_31 : decode cM_check 31 = .ok (.istore 4, 2) := by decide +kernel
theorem dM_check_33 : decode cM_check 33 = .ok (.iload 4, 2) := by decide +kernel
theorem dM_check_35 : decode cM_check 35 = .ok (.aload_n 0, 1) := by decide +kernel
theorem dM_check_36 : decode cM_check 36 = .ok (.getfield 134, 3) := by decide +kernel
theorem dM_check_39 : decode cM_check 39 = .ok (.if_icmp .ge 32, 3) := by decide +kernel
theorem dM_check_42 : decode cM_check 42 = .ok (.aload_n 0, 1) := by decide +kernel
theorem dM_check_43 : decode cM_check 43 = .ok (.getfield 42, 3) := by decide +kernel
theorem dM_check_46 : decode cM_check 46 = .ok (.bipush 7, 2) := by decide +kernel
theorem dM_check_48 : decode cM_check 48 = .ok (.iload 4, 2) := by decide +kernel
theorem dM_check_50 : decode cM_check 50 = .ok (.imul, 1) := by decide +kernel
theorem dM_check_51 : decode cM_check 51 = .ok (.laload, 1) := by decide +kernel
theorem dM_check_52 : decode cM_check 52 = .ok (.iload_n 2, 1) := by decide +kernel
theorem dM_check_53 : decode cM_check 53 = .ok (.i2l, 1) := by decide +kernel
theorem dM_check_54 : decode cM_check 54 = .ok (.lcmp, 1) := by decide +kernel
theorem dM_check_55 : decode cM_check 55 = .ok (.ifCond .ne 8, 3) := by decide +kernel
theorem dM_check_58 : decode cM_check 58 = .ok (.iload 4, 2) := by decide +kernel
theorem dM_check_60 : decode cM_check 60 = .ok (.goto 4, 3) := by decide +kernel
theorem dM_check_63 : decode cM_check 63 = .ok (.iload_n 3, 1) := by decide +kernel
theorem dM_check_64 : decode cM_check 64 = .ok (.istore_n 3, 1) := by decide +kernel
theorem dM_check_65 : decode cM_check 65 = .ok (.iinc 4 1, 3) := by decide +kernel
theorem dM_check_68 : decode cM_check 68 = .ok (.goto (-35), 3) := by decide +kernel
theorem dM_check_71 : decode cM_check 71 = .ok (.iload_n 3, 1) := by decide +kernel
theorem dM_check_72 : decode cM_check 72 = .ok (.iconst (-1), 1) := by decide +kernel
theorem dM_check_73 : decode cM_check 73 = .ok (.if_icmp .eq 16, 3) := by decide +kernel
theorem dM_check_76 : decode cM_check 76 = .ok (.aload_n 0, 1) := by decide +kernel
theorem dM_check_77 : decode cM_check 77 = .ok (.getfield 36, 3) := by decide +kernel
theorem dM_check_80 : decode cM_check 80 = .ok (.iload_n 2, 1) := by decide +kernel
theorem dM_check_81 : decode cM_check 81 = .ok (.baload, 1) := by decide +kernel
theorem dM_check_82 : decode cM_check 82 = .ok (.ifCond .eq 7, 3) := by decide +kernel
theorem dM_check_85 : decode cM_check 85 = .ok (.iconst 1, 1) := by decide +kernel
theorem dM_check_86 : decode cM_check 86 = .ok (.goto 4, 3) := by decide +kernel
theorem dM_check_89 : decode cM_check 89 = .ok (.iconst 0, 1) := by decide +kernel
theorem dM_check_90 : decode cM_check 90 = .ok (.istore 4, 2) := by decide +kernel
theorem dM_check_92 : decode cM_check 92 = .ok (.iconst 0, 1) := by decide +kernel
theorem dM_check_93 : decode cM_check 93 = .ok (.istore 5, 2) := by decide +kernel
theorem dM_check_95 : decode cM_check 95 = .ok (.iload 5, 2) := by decide +kernel
theorem dM_check_97 : decode cM_check 97 = .ok (.iconst 4, 1) := by decide +kernel
theorem dM_check_98 : decode cM_check 98 = .ok (.if_icmp .ge 52, 3) := by decide +kernel
theorem dM_check_101 : decode cM_check 101 = .ok (.iload 4, 2) := by decide +kernel
theorem dM_check_103 : decode cM_check 103 = .ok (.ifCond .eq 47, 3) := by decide +kernel
theorem dM_check_106 : decode cM_check 106 = .ok (.aload_n 0, 1) := by decide +kernel
theorem dM_check_107 : decode cM_check 107 = .ok (.getfield 42, 3) := by decide +kernel
theorem dM_check_110 : decode cM_check 110 = .ok (.bipush 7, 2) := by decide +kernel
theorem dM_check_112 : decode cM_check 112 = .ok (.iload_n 3, 1) := by decide +kernel
theorem dM_check_113 : decode cM_check 113 = .ok (.imul, 1) := by decide +kernel
theorem dM_check_114 : decode cM_check 114 = .ok (.iconst 1, 1) := by decide +kernel
theorem dM_check_115 : decode cM_check 115 = .ok (.iadd, 1) := by decide +kernel
theorem dM_check_116 : decode cM_check 116 = .ok (.iload 5, 2) := by decide +kernel
theorem dM_check_118 : decode cM_check 118 = .ok (.iadd, 1) := by decide +kernel
theorem dM_check_119 : decode cM_check 119 = .ok (.laload, 1) := by decide +kernel
theorem dM_check_120 : decode cM_check 120 = .ok (.aload_n 0, 1) := by decide +kernel
theorem dM_check_121 : decode cM_check 121 = .ok (.getfield 39, 3) := by decide +kernel
theorem dM_check_124 : decode cM_check 124 = .ok (.iconst 4, 1) := by decide +kernel
theorem dM_check_125 : decode cM_check 125 = .ok (.iload_n 2, 1) := by decide +kernel
theorem dM_check_126 : decode cM_check 126 = .ok (.imul, 1) := by decide +kernel
theorem dM_check_127 : decode cM_check 127 = .ok (.iconst 4, 1) := by decide +kernel
theorem dM_check_128 : decode cM_check 128 = .ok (.isub, 1) := by decide +kernel
theorem dM_check_129 : decode cM_check 129 = .ok (.iload 5, 2) := by decide +kernel
theorem dM_check_131 : decode cM_check 131 = .ok (.iadd, 1) := by decide +kernel
theorem dM_check_132 : decode cM_check 132 = .ok (.laload, 1) := by decide +kernel
theorem dM_check_133 : decode cM_check 133 = .ok (.lcmp, 1) := by decide +kernel
theorem dM_check_134 : decode cM_check 134 = .ok (.ifCond .ne 7, 3) := by decide +kernel
theorem dM_check_137 : decode cM_check 137 = .ok (.iconst 1, 1) := by decide +kernel
theorem dM_check_138 : decode cM_check 138 = .ok (.goto 4, 3) := by decide +kernel
theorem dM_check_141 : decode cM_check 141 = .ok (.iconst 0, 1) := by decide +kernel
theorem dM_check_142 : decode cM_check 142 = .ok (.istore 4, 2) := by decide +kernel
theorem dM_check_144 : decode cM_check 144 = .ok (.iinc 5 1, 3) := by decide +kernel
theorem dM_check_147 : decode cM_check 147 = .ok (.goto (-52), 3) := by decide +kernel
theorem dM_check_150 : decode cM_check 150 = .ok (.iload_n 1, 1) := by decide +kernel
theorem dM_check_151 : decode cM_check 151 = .ok (.iload_n 3, 1) := by decide +kernel
theorem dM_check_152 : decode cM_check 152 = .ok (.iconst (-1), 1) := by decide +kernel
theorem dM_check_153 : decode cM_check 153 = .ok (.if_icmp .ne 12, 3) := by decide +kernel
theorem dM_check_156 : decode cM_check 156 = .ok (.aload_n 0, 1) := by decide +kernel
theorem dM_check_157 : decode cM_check 157 = .ok (.getfield 36, 3) := by decide +kernel
theorem dM_check_160 : decode cM_check 160 = .ok (.iload_n 2, 1) := by decide +kernel
theorem dM_check_161 : decode cM_check 161 = .ok (.baload, 1) := by decide +kernel
theorem dM_check_162 : decode cM_check 162 = .ok (.ifCond .eq 12, 3) := by decide +kernel
theorem dM_check_165 : decode cM_check 165 = .ok (.iload 4, 2) := by decide +kernel
theorem dM_check_167 : decode cM_check 167 = .ok (.ifCond .ne 7, 3) := by decide +kernel
theorem dM_check_170 : decode cM_check 170 = .ok (.iconst 1, 1) := by decide +kernel
theorem dM_check_171 : decode cM_check 171 = .ok (.goto 4, 3) := by decide +kernel
theorem dM_check_174 : decode cM_check 174 = .ok (.iconst 0, 1) := by decide +kernel
theorem dM_check_175 : decode cM_check 175 = .ok (.iadd, 1) := by decide +kernel
theorem dM_check_176 : decode cM_check 176 = .ok (.istore_n 1, 1) := by decide +kernel
theorem dM_check_177 : decode cM_check 177 = .ok (.iinc 2 1, 3) := by decide +kernel
theorem dM_check_180 : decode cM_check 180 = .ok (.goto (-158), 3) := by decide +kernel
theorem dM_check_183 : decode cM_check 183 = .ok (.iload_n 1, 1) := by decide +kernel
theorem dM_check_184 : decode cM_check 184 = .ok (.ireturn, 1) := by decide +kernel
-- FootprintRulesModel.check()I
abbrev w_M_check (ad : Nat → Nat → Nat) (a_this : Nat) (a_units : Nat) (a_kinds : Nat) (a_values : Nat) (a_names : Nat) (a_low : Nat) (a_high : Nat) (a_told : Nat) (a_leftOut : Nat) (a_isMade : Nat) (a_hands : Nat) (a_pad : Nat) (a_court : Nat) (a_title : Nat) (a_out : Nat) (k_isMade : ClassId) (k_pad : ClassId) (k_hands : ClassId) (v_this_thrown : Int32) (v_this_size : Int32) (v_this_families : Int32) (v_this_atHand : Int32) (v_this_family : Int32) (v_this_density : Int32) (v_this_pads : Int32) (v_this_hasThermal : Int32) (v_this_titleSize : Int32) (v_this_written : Int32) (v_this_at : Int32) (v_this_begin : Int32) (v_this_words : Int32) (v_this_paste0 : Int64) (v_isMade : Nat → Int32) (v_pad : Nat → Int64) (v_hands : Nat → Int64) : va_W := [(a_this, .inr (10, [.int v_this_thrown, .ref a_units, .int v_this_size, .int v_this_families, .ref a_kinds, .ref a_values, .ref a_names, .ref a_low, .ref a_high, .ref a_told, .ref a_leftOut, .ref a_isMade, .ref a_hands, .int v_this_atHand, .int v_this_family, .int v_this_density, .int v_this_pads, .ref a_pad, .ref a_court, .int v_this_hasThermal, .ref a_title, .int v_this_titleSize, .ref a_out, .int v_this_written, .int v_this_at, .int v_this_begin, .int v_this_words, .long v_this_paste0])), (a_isMade, .inl (k_isMade, 81, .inl v_isMade)), (a_pad, .inl (k_pad, 455, .inr (.inl v_pad))), (a_hands, .inl (k_hands, 324, .inr (.inl v_hands)))]
def P_M_check_175  (post : Int32 → Int32 → Prop) (K22 : Int32 → Int32 → Int32 → Prop) (y2 : Int32) (t0 : Int32) (t1 : Int32) (u_this_thrown : Int32) : Prop := ∀ x1 : Int32, x1 = t1 + t0 → ∀ x2 : Int32, x2 = y2 + 1 → K22 x1 x2 u_this_thrown
set_option maxHeartbeats 4000000 in
set_option maxRecDepth 100000 in
theorem w_M_check_175 (l : Launch) {p : Program} {e : Env} {s : State} {m : MethodId} {args : Array Value} {below : List Frame} {meth : Method} {c : Code} {dC : Nat → ClassId} {dI : Nat → Nat → Nat} {ad : Nat → Nat → Nat} {A : Nat → Prop} (C0 : zC p s m args meth c cM_check 6 RM zT (some .int) A) (hE : zE ad A s) (a_this : Nat) (a_units : Nat) (a_kinds : Nat) (a_values : Nat) (a_names : Nat) (a_low : Nat) (a_high : Nat) (a_told : Nat) (a_leftOut : Nat) (a_isMade : Nat) (a_hands : Nat) (a_pad : Nat) (a_court : Nat) (a_title : Nat) (a_out : Nat) (k_isMade : ClassId) (k_pad : ClassId) (k_hands : ClassId) (v_this_thrown : Int32) (v_this_size : Int32) (v_this_families : Int32) (v_this_atHand : Int32) (v_this_family : Int32) (v_this_density : Int32) (v_this_pads : Int32) (v_this_hasThermal : Int32) (v_this_titleSize : Int32) (v_this_written : Int32) (v_this_at : Int32) (v_this_begin : Int32) (v_this_words : Int32) (v_this_paste0 : Int64) (v_isMade : Nat → Int32) (v_pad : Nat → Int64) (v_hands : Nat → Int64) (post : Int32 → Int32 → Prop) (K22 : Int32 → Int32 → Int32 → Prop) (hK22 : ∀ (y1 : Int32) (y2 : Int32) (u_this_thrown : Int32) (H : Heap) (locs : List Loc), K22 y1 y2 u_this_thrown → va_P (dC, dI) vwCl (w_M_check ad a_this a_units a_kinds a_values a_names a_low a_high a_told a_leftOut a_isMade a_hands a_pad a_court a_title a_out k_isMade k_pad k_hands u_this_thrown v_this_size v_this_families v_this_atHand v_this_family v_this_density v_this_pads v_this_hasThermal v_this_titleSize v_this_written v_this_at v_this_begin v_this_words v_this_paste0 v_isMade v_pad v_hands) H → va_D A (w_M_check ad a_this a_units a_kinds a_values a_names a_low a_high a_told a_leftOut a_isMade a_hands a_pad a_court a_title a_out k_isMade k_pad k_hands u_this_thrown v_this_size v_this_families v_this_atHand v_this_family v_this_density v_this_pads v_this_hasThermal v_this_titleSize v_this_written v_this_at v_this_begin v_this_words v_this_paste0 v_isMade v_pad v_hands) → va_S A s.heap H locs → ∀ ls : Array Slot, lv_has ls 6 [(0, .ref a_this), (1, .int y1), (2, .int y2)] → W p l e (headSpec wsM_check { frames := 1, cells := 0, slots := 0, locals := 21 }).room s m args below meth c H locs 0 0 (MQ below (va_Qi (fun (r : Int32) (u : Int32) => post r u) (zB (dC, dI) A (fun (u : Int32) => (w_M_check ad a_this a_units a_kinds a_values a_names a_low a_high a_told a_leftOut a_isMade a_hands a_pad a_court a_title a_out k_isMade k_pad k_hands u v_this_size v_this_families v_this_atHand v_this_family v_this_density v_this_pads v_this_hasThermal v_this_titleSize v_this_written v_this_at v_this_begin v_this_words v_this_paste0 v_isMade v_pad v_hands))) A) args s 0 0 A) (F0 m 22 ls [])) (hK : va_K (dC, dI) vwCl [(k_isMade, .boolean), (k_pad, .long), (k_hands, .long)] s) : ∀ (y2 : Int32) (t0 : Int32) (t1 : Int32) (u_this_thrown : Int32) (H : Heap) (locs : List Loc), P_M_check_175 post K22 y2 t0 t1 u_this_thrown → va_P (dC, dI) vwCl (w_M_check ad a_this a_units a_kinds a_values a_names a_low a_high a_told a_leftOut a_isMade a_hands a_pad a_court a_title a_out k_isMade k_pad k_hands u_this_thrown v_this_size v_this_families v_this_atHand v_this_family v_this_density v_this_pads v_this_hasThermal v_this_titleSize v_this_written v_this_at v_this_begin v_this_words v_this_paste0 v_isMade v_pad v_hands) H → va_D A (w_M_check ad a_this a_units a_kinds a_values a_names a_low a_high a_told a_leftOut a_isMade a_hands a_pad a_court a_title a_out k_isMade k_pad k_hands u_this_thrown v_this_size v_this_families v_this_atHand v_this_family v_this_density v_this_pads v_this_hasThermal v_this_titleSize v_this_written v_this_at v_this_begin v_this_words v_this_paste0 v_isMade v_pad v_hands) → va_S A s.heap H locs → ∀ ls : Array Slot, lv_has ls 6 [(0, .ref a_this), (2, .int y2)] → W p l e (headSpec wsM_check { frames := 1, cells := 0, slots := 0, locals := 21 }).room s m args below meth c H locs 0 0 (MQ below (va_Qi (fun (r : Int32) (u : Int32) => post r u) (zB (dC, dI) A (fun (u : Int32) => (w_M_check ad a_this a_units a_kinds a_values a_names a_low a_high a_told a_leftOut a_isMade a_hands a_pad a_court a_title a_out k_isMade k_pad k_hands u v_this_size v_this_families v_this_atHand v_this_family v_this_density v_this_pads v_this_hasThermal v_this_titleSize v_this_written v_this_at v_this_begin v_this_words v_this_paste0 v_isMade v_pad v_hands))) A) args s 0 0 A) (F0 m 175 ls [.int t0, .int t1]) := by
  obtain ⟨hx, hb, hr, hml, hown, hts, hlocks, hA⟩ := id C0
  intro y2 t0 t1 u_this_thrown H locs h hP hD hS ls hl
  unfold P_M_check_175 at h
  refine lv_iadd hx hb dM_check_175 ?_
  refine lv_topi (fun x1 ex1 => ?_)
  replace h := h x1 ex1
  refine lv_istore_n (lv' := [(1, .int x1), (0, .ref a_this), (2, .int y2)]) hx hb dM_check_176 rfl hl (by decide) rfl (fun ls hl => ?_)
  obtain ⟨x2, ex2⟩ : ∃ y : Int32, y = y2 + 1 := ⟨_, rfl⟩
  replace h := h x2 ex2
  refine lv_iinc (v := x2) (lv' := [(2, .int x2), (1, .int x1), (0, .ref a_this)]) hx hb dM_check_177 hl (k := 2) rfl (by rw [ex2]; rfl) (by decide) rfl (fun ls hl => ?_)
  refine lv_goto (tgt := 22) hx hb dM_check_180 (by decide) ?_
  exact hK22 x1 x2 u_this_thrown _ _ h hP hD hS ls (lv_sub hl [2, 1, 0] rfl)
def P_M_check_174  (post : Int32 → Int32 → Prop) (K22 : Int32 → Int32 → Int32 → Prop) (y2 : Int32) (t0 : Int32) (u_this_thrown : Int32) : Prop := P_M_check_175 post K22 y2 0 t0 u_this_thrown
set_option maxHeartbeats 4000000 in
set_option maxRecDepth 100000 in
theorem w_M_check_174 (l : Launch) {p : Program} {e : Env} {s : State} {m : MethodId} {args : Array Value} {below : List Frame} {meth : Method} {c : Code} {dC : Nat → ClassId} {dI : Nat → Nat → Nat} {ad : Nat → Nat → Nat} {A : Nat → Prop} (C0 : zC p s m args meth c cM_check 6 RM zT (some .int) A) (hE : zE ad A s) (a_this : Nat) (a_units : Nat) (a_kinds : Nat) (a_values : Nat) (a_names : Nat) (a_low : Nat) (a_high : Nat) (a_told : Nat) (a_leftOut : Nat) (a_isMade : Nat) (a_hands : Nat) (a_pad : Nat) (a_court : Nat) (a_title : Nat) (a_out : Nat) (k_isMade : ClassId) (k_pad : ClassId) (k_hands : ClassId) (v_this_thrown : Int32) (v_this_size : Int32) (v_this_families : Int32) (v_this_atHand : Int32) (v_this_family : Int32) (v_this_density : Int32) (v_this_pads : Int32) (v_this_hasThermal : Int32) (v_this_titleSize : Int32) (v_this_written : Int32) (v_this_at : Int32) (v_this_begin : Int32) (v_this_words : Int32) (v_this_paste0 : Int64) (v_isMade : Nat → Int32) (v_pad : Nat → Int64) (v_hands : Nat → Int64) (post : Int32 → Int32 → Prop) (K22 : Int32 → Int32 → Int32 → Prop) (hK22 : ∀ (y1 : Int32) (y2 : Int32) (u_this_thrown : Int32) (H : Heap) (locs : List Loc), K22 y1 y2 u_this_thrown → va_P (dC, dI) vwCl (w_M_check ad a_this a_units a_kinds a_values a_names a_low a_high a_told a_leftOut a_isMade a_hands a_pad a_court a_title a_out k_isMade k_pad k_hands u_this_thrown v_this_size v_this_families v_this_atHand v_this_family v_this_density v_this_pads v_this_hasThermal v_this_titleSize v_this_written v_this_at v_this_begin v_this_words v_this_paste0 v_isMade v_pad v_hands) H → va_D A (w_M_check ad a_this a_units a_kinds a_values a_names a_low a_high a_told a_leftOut a_isMade a_hands a_pad a_court a_title a_out k_isMade k_pad k_hands u_this_thrown v_this_size v_this_families v_this_atHand v_this_family v_this_density v_this_pads v_this_hasThermal v_this_titleSize v_this_written v_this_at v_this_begin v_this_words v_this_paste0 v_isMade v_pad v_hands) → va_S A s.heap H locs → ∀ ls : Array Slot, lv_has ls 6 [(0, .ref a_this), (1, .int y1), (2, .int y2)] → W p l e (headSpec wsM_check { frames := 1, cells := 0, slots := 0, locals := 21 }).room s m args below meth c H locs 0 0 (MQ below (va_Qi (fun (r : Int32) (u : Int32) => post r u) (zB (dC, dI) A (fun (u : Int32) => (w_M_check ad a_this a_units a_kinds a_values a_names a_low a_high a_told a_leftOut a_isMade a_hands a_pad a_court a_title a_out k_isMade k_pad k_hands u v_this_size v_this_families v_this_atHand v_this_family v_this_density v_this_pads v_this_hasThermal v_this_titleSize v_this_written v_this_at v_this_begin v_this_words v_this_paste0 v_isMade v_pad v_hands))) A) args s 0 0 A) (F0 m 22 ls [])) (hK : va_K (dC, dI) vwCl [(k_isMade, .boolean), (k_pad, .long), (k_hands, .long)] s) : ∀ (y2 : Int32) (t0 : Int32) (u_this_thrown : Int32) (H : Heap) (locs : List Loc), P_M_check_174 post K22 y2 t0 u_this_thrown → va_P (dC, dI) vwCl (w_M_check ad a_this a_units a_kinds a_values a_names a_low a_high a_told a_leftOut a_isMade a_hands a_pad a_court a_title a_out k_isMade k_pad k_hands u_this_thrown v_this_size v_this_families v_this_atHand v_this_family v_this_density v_this_pads v_this_hasThermal v_this_titleSize v_this_written v_this_at v_this_begin v_this_words v_this_paste0 v_isMade v_pad v_hands) H → va_D A (w_M_check ad a_this a_units a_kinds a_values a_names a_low a_high a_told a_leftOut a_isMade a_hands a_pad a_court a_title a_out k_isMade k_pad k_hands u_this_thrown v_this_size v_this_families v_this_atHand v_this_family v_this_density v_this_pads v_this_hasThermal v_this_titleSize v_this_written v_this_at v_this_begin v_this_words v_this_paste0 v_isMade v_pad v_hands) → va_S A s.heap H locs → ∀ ls : Array Slot, lv_has ls 6 [(0, .ref a_this), (2, .int y2)] → W p l e (headSpec wsM_check { frames := 1, cells := 0, slots := 0, locals := 21 }).room s m args below meth c H locs 0 0 (MQ below (va_Qi (fun (r : Int32) (u : Int32) => post r u) (zB (dC, dI) A (fun (u : Int32) => (w_M_check ad a_this a_units a_kinds a_values a_names a_low a_high a_told a_leftOut a_isMade a_hands a_pad a_court a_title a_out k_isMade k_pad k_hands u v_this_size v_this_families v_this_atHand v_this_family v_this_density v_this_pads v_this_hasThermal v_this_titleSize v_this_written v_this_at v_this_begin v_this_words v_this_paste0 v_isMade v_pad v_hands))) A) args s 0 0 A) (F0 m 174 ls [.int t0]) := by
  obtain ⟨hx, hb, hr, hml, hown, hts, hlocks, hA⟩ := id C0
  intro y2 t0 u_this_thrown H locs h hP hD hS ls hl
  unfold P_M_check_174 at h
  refine lv_iconst (v := 0) hx hb dM_check_174 (by decide) ?_
  exact w_M_check_175 l C0 hE a_this a_units a_kinds a_values a_names a_low a_high a_told a_leftOut a_isMade a_hands a_pad a_court a_title a_out k_isMade k_pad k_hands v_this_thrown v_this_size v_this_families v_this_atHand v_this_family v_this_density v_this_pads v_this_hasThermal v_this_titleSize v_this_written v_this_at v_this_begin v_this_words v_this_paste0 v_isMade v_pad v_hands post K22 hK22 hK y2 0 t0 u_this_thrown _ _ h hP hD hS ls (lv_sub hl [0, 1] rfl)
def P_M_check_165  (post : Int32 → Int32 → Prop) (K22 : Int32 → Int32 → Int32 → Prop) (y2 : Int32) (y4 : Int32) (t0 : Int32) (u_this_thrown : Int32) : Prop := ((¬ y4 = 0 → P_M_check_174 post K22 y2 t0 u_this_thrown) ∧ (y4 = 0 → P_M_check_175 post K22 y2 1 t0 u_this_thrown))
set_option maxHeartbeats 4000000 in
set_option maxRecDepth 100000 in
theorem w_M_check_165 (l : Launch) {p : Program} {e : Env} {s : State} {m : MethodId} {args : Array Value} {below : List Frame} {meth : Method} {c : Code} {dC : Nat → ClassId} {dI : Nat → Nat → Nat} {ad : Nat → Nat → Nat} {A : Nat → Prop} (C0 : zC p s m args meth c cM_check 6 RM zT (some .int) A) (hE : zE ad A s) (a_this : Nat) (a_units : Nat) (a_kinds : Nat) (a_values : Nat) (a_names : Nat) (a_low : Nat) (a_high : Nat) (a_told : Nat) (a_leftOut : Nat) (a_isMade : Nat) (a_hands : Nat) (a_pad : Nat) (a_court : Nat) (a_title : Nat) (a_out : Nat) (k_isMade : ClassId) (k_pad : ClassId) (k_hands : ClassId) (v_this_thrown : Int32) (v_this_size : Int32) (v_this_families : Int32) (v_this_atHand : Int32) (v_this_family : Int32) (v_this_density : Int32) (v_this_pads : Int32) (v_this_hasThermal : Int32) (v_this_titleSize : Int32) (v_this_written : Int32) (v_this_at : Int32) (v_this_begin : Int32) (v_this_words : Int32) (v_this_paste0 : Int64) (v_isMade : Nat → Int32) (v_pad : Nat → Int64) (v_hands : Nat → Int64) (post : Int32 → Int32 → Prop) (K22 : Int32 → Int32 → Int32 → Prop) (hK22 : ∀ (y1 : Int32) (y2 : Int32) (u_this_thrown : Int32) (H : Heap) (locs : List Loc), K22 y1 y2 u_this_thrown → va_P (dC, dI) vwCl (w_M_check ad a_this a_units a_kinds a_values a_names a_low a_high a_told a_leftOut a_isMade a_hands a_pad a_court a_title a_out k_isMade k_pad k_hands u_this_thrown v_this_size v_this_families v_this_atHand v_this_family v_this_density v_this_pads v_this_hasThermal v_this_titleSize v_this_written v_this_at v_this_begin v_this_words v_this_paste0 v_isMade v_pad v_hands) H → va_D A (w_M_check ad a_this a_units a_kinds a_values a_names a_low a_high a_told a_leftOut a_isMade a_hands a_pad a_court a_title a_out k_isMade k_pad k_hands u_this_thrown v_this_size v_this_families v_this_atHand v_this_family v_this_density v_this_pads v_this_hasThermal v_this_titleSize v_this_written v_this_at v_this_begin v_this_words v_this_paste0 v_isMade v_pad v_hands) → va_S A s.heap H locs → ∀ ls : Array Slot, lv_has ls 6 [(0, .ref a_this), (1, .int y1), (2, .int y2)] → W p l e (headSpec wsM_check { frames := 1, cells := 0, slots := 0, locals := 21 }).room s m args below meth c H locs 0 0 (MQ below (va_Qi (fun (r : Int32) (u : Int32) => post r u) (zB (dC, dI) A (fun (u : Int32) => (w_M_check ad a_this a_units a_kinds a_values a_names a_low a_high a_told a_leftOut a_isMade a_hands a_pad a_court a_title a_out k_isMade k_pad k_hands u v_this_size v_this_families v_this_atHand v_this_family v_this_density v_this_pads v_this_hasThermal v_this_titleSize v_this_written v_this_at v_this_begin v_this_words v_this_paste0 v_isMade v_pad v_hands))) A) args s 0 0 A) (F0 m 22 ls [])) (hK : va_K (dC, dI) vwCl [(k_isMade, .boolean), (k_pad, .long), (k_hands, .long)] s) : ∀ (y2 : Int32) (y4 : Int32) (t0 : Int32) (u_this_thrown : Int32) (H : Heap) (locs : List Loc), P_M_check_165 post K22 y2 y4 t0 u_this_thrown → va_P (dC, dI) vwCl (w_M_check ad a_this a_units a_kinds a_values a_names a_low a_high a_told a_leftOut a_isMade a_hands a_pad a_court a_title a_out k_isMade k_pad k_hands u_this_thrown v_this_size v_this_families v_this_atHand v_this_family v_this_density v_this_pads v_this_hasThermal v_this_titleSize v_this_written v_this_at v_this_begin v_this_words v_this_paste0 v_isMade v_pad v_hands) H → va_D A (w_M_check ad a_this a_units a_kinds a_values a_names a_low a_high a_told a_leftOut a_isMade a_hands a_pad a_court a_title a_out k_isMade k_pad k_hands u_this_thrown v_this_size v_this_families v_this_atHand v_this_family v_this_density v_this_pads v_this_hasThermal v_this_titleSize v_this_written v_this_at v_this_begin v_this_words v_this_paste0 v_isMade v_pad v_hands) → va_S A s.heap H locs → ∀ ls : Array Slot, lv_has ls 6 [(0, .ref a_this), (2, .int y2), (4, .int y4)] → W p l e (headSpec wsM_check { frames := 1, cells := 0, slots := 0, locals := 21 }).room s m args below meth c H locs 0 0 (MQ below (va_Qi (fun (r : Int32) (u : Int32) => post r u) (zB (dC, dI) A (fun (u : Int32) => (w_M_check ad a_this a_units a_kinds a_values a_names a_low a_high a_told a_leftOut a_isMade a_hands a_pad a_court a_title a_out k_isMade k_pad k_hands u v_this_size v_this_families v_this_atHand v_this_family v_this_density v_this_pads v_this_hasThermal v_this_titleSize v_this_written v_this_at v_this_begin v_this_words v_this_paste0 v_isMade v_pad v_hands))) A) args s 0 0 A) (F0 m 165 ls [.int t0]) := by
  obtain ⟨hx, hb, hr, hml, hown, hts, hlocks, hA⟩ := id C0
  intro y2 y4 t0 u_this_thrown H locs h hP hD hS ls hl
  unfold P_M_check_165 at h
  refine lv_iload hx hb dM_check_165 (lv_at hl 2 rfl) ?_
  refine lv_if_ne (tgt := 174) hx hb dM_check_167 (by decide) ?_ ?_
  · intro c1
    replace h := h.1 c1
    exact w_M_check_174 l C0 hE a_this a_units a_kinds a_values a_names a_low a_high a_told a_leftOut a_isMade a_hands a_pad a_court a_title a_out k_isMade k_pad k_hands v_this_thrown v_this_size v_this_families v_this_atHand v_this_family v_this_density v_this_pads v_this_hasThermal v_this_titleSize v_this_written v_this_at v_this_begin v_this_words v_this_paste0 v_isMade v_pad v_hands post K22 hK22 hK y2 t0 u_this_thrown _ _ h hP hD hS ls (lv_sub hl [0, 1] rfl)
  · intro c1
    replace h := h.2 c1
    refine lv_iconst (v := 1) hx hb dM_check_170 (by decide) ?_
    refine lv_goto (tgt := 175) hx hb dM_check_171 (by decide) ?_
    exact w_M_check_175 l C0 hE a_this a_units a_kinds a_values a_names a_low a_high a_told a_leftOut a_isMade a_hands a_pad a_court a_title a_out k_isMade k_pad k_hands v_this_thrown v_this_size v_this_families v_this_atHand v_this_family v_this_density v_this_pads v_this_hasThermal v_this_titleSize v_this_written v_this_at v_this_begin v_this_words v_this_paste0 v_isMade v_pad v_hands post K22 hK22 hK y2 1 t0 u_this_thrown _ _ h hP hD hS ls (lv_sub hl [0, 1] rfl)
def P_M_check_150 (v_isMade : Nat → Int32) (post : Int32 → Int32 → Prop) (K22 : Int32 → Int32 → Int32 → Prop) (y1 : Int32) (y2 : Int32) (y3 : Int32) (y4 : Int32) (u_this_thrown : Int32) : Prop := ((¬ y3 = (-1) → P_M_check_165 post K22 y2 y4 y1 u_this_thrown) ∧ (y3 = (-1) → vp_in y2 81 ∧ (((v_isMade y2.toNatClampNeg) = 0 → P_M_check_174 post K22 y2 y1 u_this_thrown) ∧ (¬ (v_isMade y2.toNatClampNeg) = 0 → P_M_check_165 post K22 y2 y4 y1 u_this_thrown))))
set_option maxHeartbeats 4000000 in
set_option maxRecDepth 100000 in
theorem w_M_check_150 (l : Launch) {p : Program} {e : Env} {s : State} {m : MethodId} {args : Array Value} {below : List Frame} {meth : Method} {c : Code} {dC : Nat → ClassId} {dI : Nat → Nat → Nat} {ad : Nat → Nat → Nat} {A : Nat → Prop} (C0 : zC p s m args meth c cM_check 6 RM zT (some .int) A) (hE : zE ad A s) (a_this : Nat) (a_units : Nat) (a_kinds : Nat) (a_values : Nat) (a_names : Nat) (a_low : Nat) (a_high : Nat) (a_told : Nat) (a_leftOut : Nat) (a_isMade : Nat) (a_hands : Nat) (a_pad : Nat) (a_court : Nat) (a_title : Nat) (a_out : Nat) (k_isMade : ClassId) (k_pad : ClassId) (k_hands : ClassId) (v_this_thrown : Int32) (v_this_size : Int32) (v_this_families : Int32) (v_this_atHand : Int32) (v_this_family : Int32) (v_this_density : Int32) (v_this_pads : Int32) (v_this_hasThermal : Int32) (v_this_titleSize : Int32) (v_this_written : Int32) (v_this_at : Int32) (v_this_begin : Int32) (v_this_words : Int32) (v_this_paste0 : Int64) (v_isMade : Nat → Int32) (v_pad : Nat → Int64) (v_hands : Nat → Int64) (post : Int32 → Int32 → Prop) (K22 : Int32 → Int32 → Int32 → Prop) (hK22 : ∀ (y1 : Int32) (y2 : Int32) (u_this_thrown : Int32) (H : Heap) (locs : List Loc), K22 y1 y2 u_this_thrown → va_P (dC, dI) vwCl (w_M_check ad a_this a_units a_kinds a_values a_names a_low a_high a_told a_leftOut a_isMade a_hands a_pad a_court a_title a_out k_isMade k_pad k_hands u_this_thrown v_this_size v_this_families v_this_atHand v_this_family v_this_density v_this_pads v_this_hasThermal v_this_titleSize v_this_written v_this_at v_this_begin v_this_words v_this_paste0 v_isMade v_pad v_hands) H → va_D A (w_M_check ad a_this a_units a_kinds a_values a_names a_low a_high a_told a_leftOut a_isMade a_hands a_pad a_court a_title a_out k_isMade k_pad k_hands u_this_thrown v_this_size v_this_families v_this_atHand v_this_family v_this_density v_this_pads v_this_hasThermal v_this_titleSize v_this_written v_this_at v_this_begin v_this_words v_this_paste0 v_isMade v_pad v_hands) → va_S A s.heap H locs → ∀ ls : Array Slot, lv_has ls 6 [(0, .ref a_this), (1, .int y1), (2, .int y2)] → W p l e (headSpec wsM_check { frames := 1, cells := 0, slots := 0, locals := 21 }).room s m args below meth c H locs 0 0 (MQ below (va_Qi (fun (r : Int32) (u : Int32) => post r u) (zB (dC, dI) A (fun (u : Int32) => (w_M_check ad a_this a_units a_kinds a_values a_names a_low a_high a_told a_leftOut a_isMade a_hands a_pad a_court a_title a_out k_isMade k_pad k_hands u v_this_size v_this_families v_this_atHand v_this_family v_this_density v_this_pads v_this_hasThermal v_this_titleSize v_this_written v_this_at v_this_begin v_this_words v_this_paste0 v_isMade v_pad v_hands))) A) args s 0 0 A) (F0 m 22 ls [])) (hK : va_K (dC, dI) vwCl [(k_isMade, .boolean), (k_pad, .long), (k_hands, .long)] s) : ∀ (y1 : Int32) (y2 : Int32) (y3 : Int32) (y4 : Int32) (u_this_thrown : Int32) (H : Heap) (locs : List Loc), P_M_check_150 v_isMade post K22 y1 y2 y3 y4 u_this_thrown → va_P (dC, dI) vwCl (w_M_check ad a_this a_units a_kinds a_values a_names a_low a_high a_told a_leftOut a_isMade a_hands a_pad a_court a_title a_out k_isMade k_pad k_hands u_this_thrown v_this_size v_this_families v_this_atHand v_this_family v_this_density v_this_pads v_this_hasThermal v_this_titleSize v_this_written v_this_at v_this_begin v_this_words v_this_paste0 v_isMade v_pad v_hands) H → va_D A (w_M_check ad a_this a_units a_kinds a_values a_names a_low a_high a_told a_leftOut a_isMade a_hands a_pad a_court a_title a_out k_isMade k_pad k_hands u_this_thrown v_this_size v_this_families v_this_atHand v_this_family v_this_density v_this_pads v_this_hasThermal v_this_titleSize v_this_written v_this_at v_this_begin v_this_words v_this_paste0 v_isMade v_pad v_hands) → va_S A s.heap H locs → ∀ ls : Array Slot, lv_has ls 6 [(0, .ref a_this), (1, .int y1), (2, .int y2), (3, .int y3), (4, .int y4)] → W p l e (headSpec wsM_check { frames := 1, cells := 0, slots := 0, locals := 21 }).room s m args below meth c H locs 0 0 (MQ below (va_Qi (fun (r : Int32) (u : Int32) => post r u) (zB (dC, dI) A (fun (u : Int32) => (w_M_check ad a_this a_units a_kinds a_values a_names a_low a_high a_told a_leftOut a_isMade a_hands a_pad a_court a_title a_out k_isMade k_pad k_hands u v_this_size v_this_families v_this_atHand v_this_family v_this_density v_this_pads v_this_hasThermal v_this_titleSize v_this_written v_this_at v_this_begin v_this_words v_this_paste0 v_isMade v_pad v_hands))) A) args s 0 0 A) (F0 m 150 ls []) := by
  obtain ⟨hx, hb, hr, hml, hown, hts, hlocks, hA⟩ := id C0
  intro y1 y2 y3 y4 u_this_thrown H locs h hP hD hS ls hl
  unfold P_M_check_150 at h
  refine lv_iload_n hx hb dM_check_150 rfl (lv_at hl 1 rfl) ?_
  refine lv_iload_n hx hb dM_check_151 rfl (lv_at hl 3 rfl) ?_
  refine lv_iconst (v := (-1)) hx hb dM_check_152 (by decide) ?_
  refine lv_icmp_ne (tgt := 165) hx hb dM_check_153 (by decide) ?_ ?_
  · intro c1
    replace h := h.1 c1
    exact w_M_check_165 l C0 hE a_this a_units a_kinds a_values a_names a_low a_high a_told a_leftOut a_isMade a_hands a_pad a_court a_title a_out k_isMade k_pad k_hands v_this_thrown v_this_size v_this_families v_this_atHand v_this_family v_this_density v_this_pads v_this_hasThermal v_this_titleSize v_this_written v_this_at v_this_begin v_this_words v_this_paste0 v_isMade v_pad v_hands post K22 hK22 hK y2 y4 y1 u_this_thrown _ _ h hP hD hS ls (lv_sub hl [0, 2, 4] rfl)
  · intro c1
    replace h := h.2 c1
    refine lv_aload_n hx hb dM_check_156 rfl (lv_at hl 0 rfl) ?_
    refine va_get (D := (dC, dI)) (ci := 10) (v := .ref a_isMade) (C := RM) (T := TM) (N := 28) hx hb hts inZ_M hown hK hP 0 rfl rfl 11 (by decide) (hts _ zw_1055) (fun _ h9 => h9) rfl dM_check_157 ?_
    refine lv_iload_n hx hb dM_check_160 rfl (lv_at hl 2 rfl) ?_
    obtain ⟨hn2, h⟩ := h
    refine va_zald hx hb hK hP 1 0 rfl rfl hn2 dM_check_161 ?_
    refine lv_if_eq (tgt := 174) hx hb dM_check_162 (by decide) ?_ ?_
    · intro c3
      replace h := h.1 c3
      exact w_M_check_174 l C0 hE a_this a_units a_kinds a_values a_names a_low a_high a_told a_leftOut a_isMade a_hands a_pad a_court a_title a_out k_isMade k_pad k_hands v_this_thrown v_this_size v_this_families v_this_atHand v_this_family v_this_density v_this_pads v_this_hasThermal v_this_titleSize v_this_written v_this_at v_this_begin v_this_words v_this_paste0 v_isMade v_pad v_hands post K22 hK22 hK y2 y1 u_this_thrown _ _ h hP hD hS ls (lv_sub hl [0, 2] rfl)
    · intro c3
      replace h := h.2 c3
      exact w_M_check_165 l C0 hE a_this a_units a_kinds a_values a_names a_low a_high a_told a_leftOut a_isMade a_hands a_pad a_court a_title a_out k_isMade k_pad k_hands v_this_thrown v_this_size v_this_families v_this_atHand v_this_family v_this_density v_this_pads v_this_hasThermal v_this_titleSize v_this_written v_this_at v_this_begin v_this_words v_this_paste0 v_isMade v_pad v_hands post K22 hK22 hK y2 y4 y1 u_this_thrown _ _ h hP hD hS ls (lv_sub hl [0, 2, 4] rfl)
def P_M_check_142  (post : Int32 → Int32 → Prop) (K95 : Int32 → Int32 → Int32 → Int32 → Int32 → Int32 → Prop) (y1 : Int32) (y2 : Int32) (y3 : Int32) (y5 : Int32) (t0 : Int32) (u_this_thrown : Int32) : Prop := ∀ x1 : Int32, x1 = y5 + 1 → K95 y1 y2 y3 t0 x1 u_this_thrown
set_option maxHeartbeats 4000000 in
set_option maxRecDepth 100000 in
theorem w_M_check_142 (l : Launch) {p : Program} {e : Env} {s : State} {m : MethodId} {args : Array Value} {below : List Frame} {meth : Method} {c : Code} {dC : Nat → ClassId} {dI : Nat → Nat → Nat} {ad : Nat → Nat → Nat} {A : Nat → Prop} (C0 : zC p s m args meth c cM_check 6 RM zT (some .int) A) (hE : zE ad A s) (a_this : Nat) (a_units : Nat) (a_kinds : Nat) (a_values : Nat) (a_names : Nat) (a_low : Nat) (a_high : Nat) (a_told : Nat) (a_leftOut : Nat) (a_isMade : Nat) (a_hands : Nat) (a_pad : Nat) (a_court : Nat) (a_title : Nat) (a_out : Nat) (k_isMade : ClassId) (k_pad : ClassId) (k_hands : ClassId) (v_this_thrown : Int32) (v_this_size : Int32) (v_this_families : Int32) (v_this_atHand : Int32) (v_this_family : Int32) (v_this_density : Int32) (v_this_pads : Int32) (v_this_hasThermal : Int32) (v_this_titleSize : Int32) (v_this_written : Int32) (v_this_at : Int32) (v_this_begin : Int32) (v_this_words : Int32) (v_this_paste0 : Int64) (v_isMade : Nat → Int32) (v_pad : Nat → Int64) (v_hands : Nat → Int64) (post : Int32 → Int32 → Prop) (K95 : Int32 → Int32 → Int32 → Int32 → Int32 → Int32 → Prop) (hK95 : ∀ (y1 : Int32) (y2 : Int32) (y3 : Int32) (y4 : Int32) (y5 : Int32) (u_this_thrown : Int32) (H : Heap) (locs : List Loc), K95 y1 y2 y3 y4 y5 u_this_thrown → va_P (dC, dI) vwCl (w_M_check ad a_this a_units a_kinds a_values a_names a_low a_high a_told a_leftOut a_isMade a_hands a_pad a_court a_title a_out k_isMade k_pad k_hands u_this_thrown v_this_size v_this_families v_this_atHand v_this_family v_this_density v_this_pads v_this_hasThermal v_this_titleSize v_this_written v_this_at v_this_begin v_this_words v_this_paste0 v_isMade v_pad v_hands) H → va_D A (w_M_check ad a_this a_units a_kinds a_values a_names a_low a_high a_told a_leftOut a_isMade a_hands a_pad a_court a_title a_out k_isMade k_pad k_hands u_this_thrown v_this_size v_this_families v_this_atHand v_this_family v_this_density v_this_pads v_this_hasThermal v_this_titleSize v_this_written v_this_at v_this_begin v_this_words v_this_paste0 v_isMade v_pad v_hands) → va_S A s.heap H locs → ∀ ls : Array Slot, lv_has ls 6 [(0, .ref a_this), (1, .int y1), (2, .int y2), (3, .int y3), (4, .int y4), (5, .int y5)] → W p l e (headSpec wsM_check { frames := 1, cells := 0, slots := 0, locals := 21 }).room s m args below meth c H locs 0 0 (MQ below (va_Qi (fun (r : Int32) (u : Int32) => post r u) (zB (dC, dI) A (fun (u : Int32) => (w_M_check ad a_this a_units a_kinds a_values a_names a_low a_high a_told a_leftOut a_isMade a_hands a_pad a_court a_title a_out k_isMade k_pad k_hands u v_this_size v_this_families v_this_atHand v_this_family v_this_density v_this_pads v_this_hasThermal v_this_titleSize v_this_written v_this_at v_this_begin v_this_words v_this_paste0 v_isMade v_pad v_hands))) A) args s 0 0 A) (F0 m 95 ls [])) (hK : va_K (dC, dI) vwCl [(k_isMade, .boolean), (k_pad, .long), (k_hands, .long)] s) : ∀ (y1 : Int32) (y2 : Int32) (y3 : Int32) (y5 : Int32) (t0 : Int32) (u_this_thrown : Int32) (H : Heap) (locs : List Loc), P_M_check_142 post K95 y1 y2 y3 y5 t0 u_this_thrown → va_P (dC, dI) vwCl (w_M_check ad a_this a_units a_kinds a_values a_names a_low a_high a_told a_leftOut a_isMade a_hands a_pad a_court a_title a_out k_isMade k_pad k_hands u_this_thrown v_this_size v_this_families v_this_atHand v_this_family v_this_density v_this_pads v_this_hasThermal v_this_titleSize v_this_written v_this_at v_this_begin v_this_words v_this_paste0 v_isMade v_pad v_hands) H → va_D A (w_M_check ad a_this a_units a_kinds a_values a_names a_low a_high a_told a_leftOut a_isMade a_hands a_pad a_court a_title a_out k_isMade k_pad k_hands u_this_thrown v_this_size v_this_families v_this_atHand v_this_family v_this_density v_this_pads v_this_hasThermal v_this_titleSize v_this_written v_this_at v_this_begin v_this_words v_this_paste0 v_isMade v_pad v_hands) → va_S A s.heap H locs → ∀ ls : Array Slot, lv_has ls 6 [(0, .ref a_this), (1, .int y1), (2, .int y2), (3, .int y3), (5, .int y5)] → W p l e (headSpec wsM_check { frames := 1, cells := 0, slots := 0, locals := 21 }).room s m args below meth c H locs 0 0 (MQ below (va_Qi (fun (r : Int32) (u : Int32) => post r u) (zB (dC, dI) A (fun (u : Int32) => (w_M_check ad a_this a_units a_kinds a_values a_names a_low a_high a_told a_leftOut a_isMade a_hands a_pad a_court a_title a_out k_isMade k_pad k_hands u v_this_size v_this_families v_this_atHand v_this_family v_this_density v_this_pads v_this_hasThermal v_this_titleSize v_this_written v_this_at v_this_begin v_this_words v_this_paste0 v_isMade v_pad v_hands))) A) args s 0 0 A) (F0 m 142 ls [.int t0]) := by
  obtain ⟨hx, hb, hr, hml, hown, hts, hlocks, hA⟩ := id C0
  intro y1 y2 y3 y5 t0 u_this_thrown H locs h hP hD hS ls hl
  unfold P_M_check_142 at h
  refine lv_istore (lv' := [(4, .int t0), (0, .ref a_this), (1, .int y1), (2, .int y2), (3, .int y3), (5, .int y5)]) hx hb dM_check_142 hl (by decide) rfl (fun ls hl => ?_)
  obtain ⟨x1, ex1⟩ : ∃ y : Int32, y = y5 + 1 := ⟨_, rfl⟩
  replace h := h x1 ex1
  refine lv_iinc (v := x1) (lv' := [(5, .int x1), (4, .int t0), (0, .ref a_this), (1, .int y1), (2, .int y2), (3, .int y3)]) hx hb dM_check_144 hl (k := 5) rfl (by rw [ex1]; rfl) (by decide) rfl (fun ls hl => ?_)
  refine lv_goto (tgt := 95) hx hb dM_check_147 (by decide) ?_
  exact hK95 y1 y2 y3 t0 x1 u_this_thrown _ _ h hP hD hS ls (lv_sub hl [2, 3, 4, 5, 1, 0] rfl)
def P_M_check_95 (v_isMade : Nat → Int32) (v_pad : Nat → Int64) (v_hands : Nat → Int64) (post : Int32 → Int32 → Prop) (K22 : Int32 → Int32 → Int32 → Prop) : Nat → Int32 → Int32 → Int32 → Int32 → Int32 → Int32 → Prop
  | 0, _, _, _, _, _, _ => False
  | n + 1, y1, y2, y3, y4, y5, u_this_thrown => ((4 ≤ y5 → P_M_check_150 v_isMade post K22 y1 y2 y3 y4 u_this_thrown) ∧ (¬ 4 ≤ y5 → ((y4 = 0 → P_M_check_150 v_isMade post K22 y1 y2 y3 y4 u_this_thrown) ∧ (¬ y4 = 0 → vp_in (((7 * y3) + 1) + y5) 455 ∧ vp_in (((4 * y2) - 4) + y5) 324 ∧ ((¬ (v_pad (((7 * y3) + 1) + y5).toNatClampNeg) = (v_hands (((4 * y2) - 4) + y5).toNatClampNeg) → P_M_check_142 post (P_M_check_95 v_isMade v_pad v_hands post K22 n) y1 y2 y3 y5 0 u_this_thrown) ∧ ((v_pad (((7 * y3) + 1) + y5).toNatClampNeg) = (v_hands (((4 * y2) - 4) + y5).toNatClampNeg) → P_M_check_142 post (P_M_check_95 v_isMade v_pad v_hands post K22 n) y1 y2 y3 y5 1 u_this_thrown))))))
set_option maxHeartbeats 4000000 in
set_option maxRecDepth 100000 in
theorem w_M_check_95 (l : Launch) {p : Program} {e : Env} {s : State} {m : MethodId} {args : Array Value} {below : List Frame} {meth : Method} {c : Code} {dC : Nat → ClassId} {dI : Nat → Nat → Nat} {ad : Nat → Nat → Nat} {A : Nat → Prop} (C0 : zC p s m args meth c cM_check 6 RM zT (some .int) A) (hE : zE ad A s) (a_this : Nat) (a_units : Nat) (a_kinds : Nat) (a_values : Nat) (a_names : Nat) (a_low : Nat) (a_high : Nat) (a_told : Nat) (a_leftOut : Nat) (a_isMade : Nat) (a_hands : Nat) (a_pad : Nat) (a_court : Nat) (a_title : Nat) (a_out : Nat) (k_isMade : ClassId) (k_pad : ClassId) (k_hands : ClassId) (v_this_thrown : Int32) (v_this_size : Int32) (v_this_families : Int32) (v_this_atHand : Int32) (v_this_family : Int32) (v_this_density : Int32) (v_this_pads : Int32) (v_this_hasThermal : Int32) (v_this_titleSize : Int32) (v_this_written : Int32) (v_this_at : Int32) (v_this_begin : Int32) (v_this_words : Int32) (v_this_paste0 : Int64) (v_isMade : Nat → Int32) (v_pad : Nat → Int64) (v_hands : Nat → Int64) (post : Int32 → Int32 → Prop) (K22 : Int32 → Int32 → Int32 → Prop) (hK22 : ∀ (y1 : Int32) (y2 : Int32) (u_this_thrown : Int32) (H : Heap) (locs : List Loc), K22 y1 y2 u_this_thrown → va_P (dC, dI) vwCl (w_M_check ad a_this a_units a_kinds a_values a_names a_low a_high a_told a_leftOut a_isMade a_hands a_pad a_court a_title a_out k_isMade k_pad k_hands u_this_thrown v_this_size v_this_families v_this_atHand v_this_family v_this_density v_this_pads v_this_hasThermal v_this_titleSize v_this_written v_this_at v_this_begin v_this_words v_this_paste0 v_isMade v_pad v_hands) H → va_D A (w_M_check ad a_this a_units a_kinds a_values a_names a_low a_high a_told a_leftOut a_isMade a_hands a_pad a_court a_title a_out k_isMade k_pad k_hands u_this_thrown v_this_size v_this_families v_this_atHand v_this_family v_this_density v_this_pads v_this_hasThermal v_this_titleSize v_this_written v_this_at v_this_begin v_this_words v_this_paste0 v_isMade v_pad v_hands) → va_S A s.heap H locs → ∀ ls : Array Slot, lv_has ls 6 [(0, .ref a_this), (1, .int y1), (2, .int y2)] → W p l e (headSpec wsM_check { frames := 1, cells := 0, slots := 0, locals := 21 }).room s m args below meth c H locs 0 0 (MQ below (va_Qi (fun (r : Int32) (u : Int32) => post r u) (zB (dC, dI) A (fun (u : Int32) => (w_M_check ad a_this a_units a_kinds a_values a_names a_low a_high a_told a_leftOut a_isMade a_hands a_pad a_court a_title a_out k_isMade k_pad k_hands u v_this_size v_this_families v_this_atHand v_this_family v_this_density v_this_pads v_this_hasThermal v_this_titleSize v_this_written v_this_at v_this_begin v_this_words v_this_paste0 v_isMade v_pad v_hands))) A) args s 0 0 A) (F0 m 22 ls [])) (hK : va_K (dC, dI) vwCl [(k_isMade, .boolean), (k_pad, .long), (k_hands, .long)] s) : ∀ (n : Nat), ∀ (y1 : Int32) (y2 : Int32) (y3 : Int32) (y4 : Int32) (y5 : Int32) (u_this_thrown : Int32) (H : Heap) (locs : List Loc), P_M_check_95 v_isMade v_pad v_hands post K22 n y1 y2 y3 y4 y5 u_this_thrown → va_P (dC, dI) vwCl (w_M_check ad a_this a_units a_kinds a_values a_names a_low a_high a_told a_leftOut a_isMade a_hands a_pad a_court a_title a_out k_isMade k_pad k_hands u_this_thrown v_this_size v_this_families v_this_atHand v_this_family v_this_density v_this_pads v_this_hasThermal v_this_titleSize v_this_written v_this_at v_this_begin v_this_words v_this_paste0 v_isMade v_pad v_hands) H → va_D A (w_M_check ad a_this a_units a_kinds a_values a_names a_low a_high a_told a_leftOut a_isMade a_hands a_pad a_court a_title a_out k_isMade k_pad k_hands u_this_thrown v_this_size v_this_families v_this_atHand v_this_family v_this_density v_this_pads v_this_hasThermal v_this_titleSize v_this_written v_this_at v_this_begin v_this_words v_this_paste0 v_isMade v_pad v_hands) → va_S A s.heap H locs → ∀ ls : Array Slot, lv_has ls 6 [(0, .ref a_this), (1, .int y1), (2, .int y2), (3, .int y3), (4, .int y4), (5, .int y5)] → W p l e (headSpec wsM_check { frames := 1, cells := 0, slots := 0, locals := 21 }).room s m args below meth c H locs 0 0 (MQ below (va_Qi (fun (r : Int32) (u : Int32) => post r u) (zB (dC, dI) A (fun (u : Int32) => (w_M_check ad a_this a_units a_kinds a_values a_names a_low a_high a_told a_leftOut a_isMade a_hands a_pad a_court a_title a_out k_isMade k_pad k_hands u v_this_size v_this_families v_this_atHand v_this_family v_this_density v_this_pads v_this_hasThermal v_this_titleSize v_this_written v_this_at v_this_begin v_this_words v_this_paste0 v_isMade v_pad v_hands))) A) args s 0 0 A) (F0 m 95 ls []) := by
  obtain ⟨hx, hb, hr, hml, hown, hts, hlocks, hA⟩ := id C0
  intro n
  induction n with
  | zero =>
    intro y1 y2 y3 y4 y5 u_this_thrown H locs h
    exact False.elim h
  | succ n ih =>
    intro y1 y2 y3 y4 y5 u_this_thrown H locs h hP hD hS ls hl
    rw [P_M_check_95] at h
    refine lv_iload hx hb dM_check_95 (lv_at hl 5 rfl) ?_
    refine lv_iconst (v := 4) hx hb dM_check_97 (by decide) ?_
    refine lv_icmp_ge (tgt := 150) hx hb dM_check_98 (by decide) ?_ ?_
    · intro c1
      replace h := h.1 c1
      exact w_M_check_150 l C0 hE a_this a_units a_kinds a_values a_names a_low a_high a_told a_leftOut a_isMade a_hands a_pad a_court a_title a_out k_isMade k_pad k_hands v_this_thrown v_this_size v_this_families v_this_atHand v_this_family v_this_density v_this_pads v_this_hasThermal v_this_titleSize v_this_written v_this_at v_this_begin v_this_words v_this_paste0 v_isMade v_pad v_hands post K22 hK22 hK y1 y2 y3 y4 u_this_thrown _ _ h hP hD hS ls (lv_sub hl [0, 1, 2, 3, 4] rfl)
    · intro c1
      replace h := h.2 c1
      refine lv_iload hx hb dM_check_101 (lv_at hl 4 rfl) ?_
      refine lv_if_eq (tgt := 150) hx hb dM_check_103 (by decide) ?_ ?_
      · intro c2
        replace h := h.1 c2
        exact w_M_check_150 l C0 hE a_this a_units a_kinds a_values a_names a_low a_high a_told a_leftOut a_isMade a_hands a_pad a_court a_title a_out k_isMade k_pad k_hands v_this_thrown v_this_size v_this_families v_this_atHand v_this_family v_this_density v_this_pads v_this_hasThermal v_this_titleSize v_this_written v_this_at v_this_begin v_this_words v_this_paste0 v_isMade v_pad v_hands post K22 hK22 hK y1 y2 y3 y4 u_this_thrown _ _ h hP hD hS ls (lv_sub hl [0, 1, 2, 3, 4] rfl)
      · intro c2
        replace h := h.2 c2
        refine lv_aload_n hx hb dM_check_106 rfl (lv_at hl 0 rfl) ?_
        refine va_get (D := (dC, dI)) (ci := 10) (v := .ref a_pad) (C := RM) (T := TM) (N := 28) hx hb hts inZ_M hown hK hP 0 rfl rfl 17 (by decide) (hts _ zw_1061) (fun _ h9 => h9) rfl dM_check_107 ?_
        refine lv_bipush (v := 7) hx hb dM_check_110 (by decide) ?_
        refine lv_iload_n hx hb dM_check_112 rfl (lv_at hl 3 rfl) ?_
        refine lv_imul hx hb dM_check_113 ?_
        refine lv_iconst (v := 1) hx hb dM_check_114 (by decide) ?_
        refine lv_iadd hx hb dM_check_115 ?_
        refine lv_iload hx hb dM_check_116 (lv_at hl 5 rfl) ?_
        refine lv_iadd hx hb dM_check_118 ?_
        obtain ⟨hn3, h⟩ := h
        refine va_lald hx hb hK hP 2 1 rfl rfl hn3 dM_check_119 ?_
        refine lv_aload_n hx hb dM_check_120 rfl (lv_at hl 0 rfl) ?_
        refine va_get (D := (dC, dI)) (ci := 10) (v := .ref a_hands) (C := RM) (T := TM) (N := 28) hx hb hts inZ_M hown hK hP 0 rfl rfl 12 (by decide) (hts _ zw_1056) (fun _ h9 => h9) rfl dM_check_121 ?_
        refine lv_iconst (v := 4) hx hb dM_check_124 (by decide) ?_
        refine lv_iload_n hx hb dM_check_125 rfl (lv_at hl 2 rfl) ?_
        refine lv_imul hx hb dM_check_126 ?_
        refine lv_iconst (v := 4) hx hb dM_check_127 (by decide) ?_
        refine lv_isub hx hb dM_check_128 ?_
        refine lv_iload hx hb dM_check_129 (lv_at hl 5 rfl) ?_
        refine lv_iadd hx hb dM_check_131 ?_
        obtain ⟨hn4, h⟩ := h
        refine va_lald hx hb hK hP 3 2 rfl rfl hn4 dM_check_132 ?_
        refine zz_lcmp_ne (tgt := 141) hx hb dM_check_133 dM_check_134 (by decide) ?_ ?_
        · intro c5
          replace h := h.1 c5
          refine lv_iconst (v := 0) hx hb dM_check_141 (by decide) ?_
          exact w_M_check_142 l C0 hE a_this a_units a_kinds a_values a_names a_low a_high a_told a_leftOut a_isMade a_hands a_pad a_court a_title a_out k_isMade k_pad k_hands v_this_thrown v_this_size v_this_families v_this_atHand v_this_family v_this_density v_this_pads v_this_hasThermal v_this_titleSize v_this_written v_this_at v_this_begin v_this_words v_this_paste0 v_isMade v_pad v_hands post (P_M_check_95 v_isMade v_pad v_hands post K22 n) ih hK y1 y2 y3 y5 0 u_this_thrown _ _ h hP hD hS ls (lv_sub hl [0, 1, 2, 3, 5] rfl)
        · intro c5
          replace h := h.2 c5
          refine lv_iconst (v := 1) hx hb dM_check_137 (by decide) ?_
          refine lv_goto (tgt := 142) hx hb dM_check_138 (by decide) ?_
          exact w_M_check_142 l C0 hE a_this a_units a_kinds a_values a_names a_low a_high a_told a_leftOut a_isMade a_hands a_pad a_court a_title a_out k_isMade k_pad k_hands v_this_thrown v_this_size v_this_families v_this_atHand v_this_family v_this_density v_this_pads v_this_hasThermal v_this_titleSize v_this_written v_this_at v_this_begin v_this_words v_this_paste0 v_isMade v_pad v_hands post (P_M_check_95 v_isMade v_pad v_hands post K22 n) ih hK y1 y2 y3 y5 1 u_this_thrown _ _ h hP hD hS ls (lv_sub hl [0, 1, 2, 3, 5] rfl)
def P_M_check_90 (v_isMade : Nat → Int32) (v_pad : Nat → Int64) (v_hands : Nat → Int64) (post : Int32 → Int32 → Prop) (K22 : Int32 → Int32 → Int32 → Prop) (y1 : Int32) (y2 : Int32) (y3 : Int32) (t0 : Int32) (u_this_thrown : Int32) : Prop := ∃ n1, P_M_check_95 v_isMade v_pad v_hands post K22 n1 y1 y2 y3 t0 0 u_this_thrown
set_option maxHeartbeats 4000000 in
set_option maxRecDepth 100000 in
theorem w_M_check_90 (l : Launch) {p : Program} {e : Env} {s : State} {m : MethodId} {args : Array Value} {below : List Frame} {meth : Method} {c : Code} {dC : Nat → ClassId} {dI : Nat → Nat → Nat} {ad : Nat → Nat → Nat} {A : Nat → Prop} (C0 : zC p s m args meth c cM_check 6 RM zT (some .int) A) (hE : zE ad A s) (a_this : Nat) (a_units : Nat) (a_kinds : Nat) (a_values : Nat) (a_names : Nat) (a_low : Nat) (a_high : Nat) (a_told : Nat) (a_leftOut : Nat) (a_isMade : Nat) (a_hands : Nat) (a_pad : Nat) (a_court : Nat) (a_title : Nat) (a_out : Nat) (k_isMade : ClassId) (k_pad : ClassId) (k_hands : ClassId) (v_this_thrown : Int32) (v_this_size : Int32) (v_this_families : Int32) (v_this_atHand : Int32) (v_this_family : Int32) (v_this_density : Int32) (v_this_pads : Int32) (v_this_hasThermal : Int32) (v_this_titleSize : Int32) (v_this_written : Int32) (v_this_at : Int32) (v_this_begin : Int32) (v_this_words : Int32) (v_this_paste0 : Int64) (v_isMade : Nat → Int32) (v_pad : Nat → Int64) (v_hands : Nat → Int64) (post : Int32 → Int32 → Prop) (K22 : Int32 → Int32 → Int32 → Prop) (hK22 : ∀ (y1 : Int32) (y2 : Int32) (u_this_thrown : Int32) (H : Heap) (locs : List Loc), K22 y1 y2 u_this_thrown → va_P (dC, dI) vwCl (w_M_check ad a_this a_units a_kinds a_values a_names a_low a_high a_told a_leftOut a_isMade a_hands a_pad a_court a_title a_out k_isMade k_pad k_hands u_this_thrown v_this_size v_this_families v_this_atHand v_this_family v_this_density v_this_pads v_this_hasThermal v_this_titleSize v_this_written v_this_at v_this_begin v_this_words v_this_paste0 v_isMade v_pad v_hands) H → va_D A (w_M_check ad a_this a_units a_kinds a_values a_names a_low a_high a_told a_leftOut a_isMade a_hands a_pad a_court a_title a_out k_isMade k_pad k_hands u_this_thrown v_this_size v_this_families v_this_atHand v_this_family v_this_density v_this_pads v_this_hasThermal v_this_titleSize v_this_written v_this_at v_this_begin v_this_words v_this_paste0 v_isMade v_pad v_hands) → va_S A s.heap H locs → ∀ ls : Array Slot, lv_has ls 6 [(0, .ref a_this), (1, .int y1), (2, .int y2)] → W p l e (headSpec wsM_check { frames := 1, cells := 0, slots := 0, locals := 21 }).room s m args below meth c H locs 0 0 (MQ below (va_Qi (fun (r : Int32) (u : Int32) => post r u) (zB (dC, dI) A (fun (u : Int32) => (w_M_check ad a_this a_units a_kinds a_values a_names a_low a_high a_told a_leftOut a_isMade a_hands a_pad a_court a_title a_out k_isMade k_pad k_hands u v_this_size v_this_families v_this_atHand v_this_family v_this_density v_this_pads v_this_hasThermal v_this_titleSize v_this_written v_this_at v_this_begin v_this_words v_this_paste0 v_isMade v_pad v_hands))) A) args s 0 0 A) (F0 m 22 ls [])) (hK : va_K (dC, dI) vwCl [(k_isMade, .boolean), (k_pad, .long), (k_hands, .long)] s) : ∀ (y1 : Int32) (y2 : Int32) (y3 : Int32) (t0 : Int32) (u_this_thrown : Int32) (H : Heap) (locs : List Loc), P_M_check_90 v_isMade v_pad v_hands post K22 y1 y2 y3 t0 u_this_thrown → va_P (dC, dI) vwCl (w_M_check ad a_this a_units a_kinds a_values a_names a_low a_high a_told a_leftOut a_isMade a_hands a_pad a_court a_title a_out k_isMade k_pad k_hands u_this_thrown v_this_size v_this_families v_this_atHand v_this_family v_this_density v_this_pads v_this_hasThermal v_this_titleSize v_this_written v_this_at v_this_begin v_this_words v_this_paste0 v_isMade v_pad v_hands) H → va_D A (w_M_check ad a_this a_units a_kinds a_values a_names a_low a_high a_told a_leftOut a_isMade a_hands a_pad a_court a_title a_out k_isMade k_pad k_hands u_this_thrown v_this_size v_this_families v_this_atHand v_this_family v_this_density v_this_pads v_this_hasThermal v_this_titleSize v_this_written v_this_at v_this_begin v_this_words v_this_paste0 v_isMade v_pad v_hands) → va_S A s.heap H locs → ∀ ls : Array Slot, lv_has ls 6 [(0, .ref a_this), (1, .int y1), (2, .int y2), (3, .int y3)] → W p l e (headSpec wsM_check { frames := 1, cells := 0, slots := 0, locals := 21 }).room s m args below meth c H locs 0 0 (MQ below (va_Qi (fun (r : Int32) (u : Int32) => post r u) (zB (dC, dI) A (fun (u : Int32) => (w_M_check ad a_this a_units a_kinds a_values a_names a_low a_high a_told a_leftOut a_isMade a_hands a_pad a_court a_title a_out k_isMade k_pad k_hands u v_this_size v_this_families v_this_atHand v_this_family v_this_density v_this_pads v_this_hasThermal v_this_titleSize v_this_written v_this_at v_this_begin v_this_words v_this_paste0 v_isMade v_pad v_hands))) A) args s 0 0 A) (F0 m 90 ls [.int t0]) := by
  obtain ⟨hx, hb, hr, hml, hown, hts, hlocks, hA⟩ := id C0
  intro y1 y2 y3 t0 u_this_thrown H locs h hP hD hS ls hl
  unfold P_M_check_90 at h
  refine lv_istore (lv' := [(4, .int t0), (0, .ref a_this), (1, .int y1), (2, .int y2), (3, .int y3)]) hx hb dM_check_90 hl (by decide) rfl (fun ls hl => ?_)
  refine lv_iconst (v := 0) hx hb dM_check_92 (by decide) ?_
  refine lv_istore (lv' := [(5, .int 0), (4, .int t0), (0, .ref a_this), (1, .int y1), (2, .int y2), (3, .int y3)]) hx hb dM_check_93 hl (by decide) rfl (fun ls hl => ?_)
  obtain ⟨n1, h⟩ := h
  exact w_M_check_95 l C0 hE a_this a_units a_kinds a_values a_names a_low a_high a_told a_leftOut a_isMade a_hands a_pad a_court a_title a_out k_isMade k_pad k_hands v_this_thrown v_this_size v_this_families v_this_atHand v_this_family v_this_density v_this_pads v_this_hasThermal v_this_titleSize v_this_written v_this_at v_this_begin v_this_words v_this_paste0 v_isMade v_pad v_hands post K22 hK22 hK n1 y1 y2 y3 t0 0 u_this_thrown _ _ h hP hD hS ls (lv_sub hl [2, 3, 4, 5, 1, 0] rfl)
def P_M_check_89 (v_isMade : Nat → Int32) (v_pad : Nat → Int64) (v_hands : Nat → Int64) (post : Int32 → Int32 → Prop) (K22 : Int32 → Int32 → Int32 → Prop) (y1 : Int32) (y2 : Int32) (y3 : Int32) (u_this_thrown : Int32) : Prop := P_M_check_90 v_isMade v_pad v_hands post K22 y1 y2 y3 0 u_this_thrown
set_option maxHeartbeats 4000000 in
set_option maxRecDepth 100000 in
theorem w_M_check_89 (l : Launch) {p : Program} {e : Env} {s : State} {m : MethodId} {args : Array Value} {below : List Frame} {meth : Method} {c : Code} {dC : Nat → ClassId} {dI : Nat → Nat → Nat} {ad : Nat → Nat → Nat} {A : Nat → Prop} (C0 : zC p s m args meth c cM_check 6 RM zT (some .int) A) (hE : zE ad A s) (a_this : Nat) (a_units : Nat) (a_kinds : Nat) (a_values : Nat) (a_names : Nat) (a_low : Nat) (a_high : Nat) (a_told : Nat) (a_leftOut : Nat) (a_isMade : Nat) (a_hands : Nat) (a_pad : Nat) (a_court : Nat) (a_title : Nat) (a_out : Nat) (k_isMade : ClassId) (k_pad : ClassId) (k_hands : ClassId) (v_this_thrown : Int32) (v_this_size : Int32) (v_this_families : Int32) (v_this_atHand : Int32) (v_this_family : Int32) (v_this_density : Int32) (v_this_pads : Int32) (v_this_hasThermal : Int32) (v_this_titleSize : Int32) (v_this_written : Int32) (v_this_at : Int32) (v_this_begin : Int32) (v_this_words : Int32) (v_this_paste0 : Int64) (v_isMade : Nat → Int32) (v_pad : Nat → Int64) (v_hands : Nat → Int64) (post : Int32 → Int32 → Prop) (K22 : Int32 → Int32 → Int32 → Prop) (hK22 : ∀ (y1 : Int32) (y2 : Int32) (u_this_thrown : Int32) (H : Heap) (locs : List Loc), K22 y1 y2 u_this_thrown → va_P (dC, dI) vwCl (w_M_check ad a_this a_units a_kinds a_values a_names a_low a_high a_told a_leftOut a_isMade a_hands a_pad a_court a_title a_out k_isMade k_pad k_hands u_this_thrown v_this_size v_this_families v_this_atHand v_this_family v_this_density v_this_pads v_this_hasThermal v_this_titleSize v_this_written v_this_at v_this_begin v_this_words v_this_paste0 v_isMade v_pad v_hands) H → va_D A (w_M_check ad a_this a_units a_kinds a_values a_names a_low a_high a_told a_leftOut a_isMade a_hands a_pad a_court a_title a_out k_isMade k_pad k_hands u_this_thrown v_this_size v_this_families v_this_atHand v_this_family v_this_density v_this_pads v_this_hasThermal v_this_titleSize v_this_written v_this_at v_this_begin v_this_words v_this_paste0 v_isMade v_pad v_hands) → va_S A s.heap H locs → ∀ ls : Array Slot, lv_has ls 6 [(0, .ref a_this), (1, .int y1), (2, .int y2)] → W p l e (headSpec wsM_check { frames := 1, cells := 0, slots := 0, locals := 21 }).room s m args below meth c H locs 0 0 (MQ below (va_Qi (fun (r : Int32) (u : Int32) => post r u) (zB (dC, dI) A (fun (u : Int32) => (w_M_check ad a_this a_units a_kinds a_values a_names a_low a_high a_told a_leftOut a_isMade a_hands a_pad a_court a_title a_out k_isMade k_pad k_hands u v_this_size v_this_families v_this_atHand v_this_family v_this_density v_this_pads v_this_hasThermal v_this_titleSize v_this_written v_this_at v_this_begin v_this_words v_this_paste0 v_isMade v_pad v_hands))) A) args s 0 0 A) (F0 m 22 ls [])) (hK : va_K (dC, dI) vwCl [(k_isMade, .boolean), (k_pad, .long), (k_hands, .long)] s) : ∀ (y1 : Int32) (y2 : Int32) (y3 : Int32) (u_this_thrown : Int32) (H : Heap) (locs : List Loc), P_M_check_89 v_isMade v_pad v_hands post K22 y1 y2 y3 u_this_thrown → va_P (dC, dI) vwCl (w_M_check ad a_this a_units a_kinds a_values a_names a_low a_high a_told a_leftOut a_isMade a_hands a_pad a_court a_title a_out k_isMade k_pad k_hands u_this_thrown v_this_size v_this_families v_this_atHand v_this_family v_this_density v_this_pads v_this_hasThermal v_this_titleSize v_this_written v_this_at v_this_begin v_this_words v_this_paste0 v_isMade v_pad v_hands) H → va_D A (w_M_check ad a_this a_units a_kinds a_values a_names a_low a_high a_told a_leftOut a_isMade a_hands a_pad a_court a_title a_out k_isMade k_pad k_hands u_this_thrown v_this_size v_this_families v_this_atHand v_this_family v_this_density v_this_pads v_this_hasThermal v_this_titleSize v_this_written v_this_at v_this_begin v_this_words v_this_paste0 v_isMade v_pad v_hands) → va_S A s.heap H locs → ∀ ls : Array Slot, lv_has ls 6 [(0, .ref a_this), (1, .int y1), (2, .int y2), (3, .int y3)] → W p l e (headSpec wsM_check { frames := 1, cells := 0, slots := 0, locals := 21 }).room s m args below meth c H locs 0 0 (MQ below (va_Qi (fun (r : Int32) (u : Int32) => post r u) (zB (dC, dI) A (fun (u : Int32) => (w_M_check ad a_this a_units a_kinds a_values a_names a_low a_high a_told a_leftOut a_isMade a_hands a_pad a_court a_title a_out k_isMade k_pad k_hands u v_this_size v_this_families v_this_atHand v_this_family v_this_density v_this_pads v_this_hasThermal v_this_titleSize v_this_written v_this_at v_this_begin v_this_words v_this_paste0 v_isMade v_pad v_hands))) A) args s 0 0 A) (F0 m 89 ls []) := by
  obtain ⟨hx, hb, hr, hml, hown, hts, hlocks, hA⟩ := id C0
  intro y1 y2 y3 u_this_thrown H locs h hP hD hS ls hl
  unfold P_M_check_89 at h
  refine lv_iconst (v := 0) hx hb dM_check_89 (by decide) ?_
  exact w_M_check_90 l C0 hE a_this a_units a_kinds a_values a_names a_low a_high a_told a_leftOut a_isMade a_hands a_pad a_court a_title a_out k_isMade k_pad k_hands v_this_thrown v_this_size v_this_families v_this_atHand v_this_family v_this_density v_this_pads v_this_hasThermal v_this_titleSize v_this_written v_this_at v_this_begin v_this_words v_this_paste0 v_isMade v_pad v_hands post K22 hK22 hK y1 y2 y3 0 u_this_thrown _ _ h hP hD hS ls (lv_sub hl [0, 1, 2, 3] rfl)
def P_M_check_64  (post : Int32 → Int32 → Prop) (K33 : Int32 → Int32 → Int32 → Int32 → Int32 → Prop) (y1 : Int32) (y2 : Int32) (y4 : Int32) (t0 : Int32) (u_this_thrown : Int32) : Prop := ∀ x1 : Int32, x1 = y4 + 1 → K33 y1 y2 t0 x1 u_this_thrown
set_option maxHeartbeats 4000000 in
set_option maxRecDepth 100000 in
theorem w_M_check_64 (l : Launch) {p : Program} {e : Env} {s : State} {m : MethodId} {args : Array Value} {below : List Frame} {meth : Method} {c : Code} {dC : Nat → ClassId} {dI : Nat → Nat → Nat} {ad : Nat → Nat → Nat} {A : Nat → Prop} (C0 : zC p s m args meth c cM_check 6 RM zT (some .int) A) (hE : zE ad A s) (a_this : Nat) (a_units : Nat) (a_kinds : Nat) (a_values : Nat) (a_names : Nat) (a_low : Nat) (a_high : Nat) (a_told : Nat) (a_leftOut : Nat) (a_isMade : Nat) (a_hands : Nat) (a_pad : Nat) (a_court : Nat) (a_title : Nat) (a_out : Nat) (k_isMade : ClassId) (k_pad : ClassId) (k_hands : ClassId) (v_this_thrown : Int32) (v_this_size : Int32) (v_this_families : Int32) (v_this_atHand : Int32) (v_this_family : Int32) (v_this_density : Int32) (v_this_pads : Int32) (v_this_hasThermal : Int32) (v_this_titleSize : Int32) (v_this_written : Int32) (v_this_at : Int32) (v_this_begin : Int32) (v_this_words : Int32) (v_this_paste0 : Int64) (v_isMade : Nat → Int32) (v_pad : Nat → Int64) (v_hands : Nat → Int64) (post : Int32 → Int32 → Prop) (K33 : Int32 → Int32 → Int32 → Int32 → Int32 → Prop) (hK33 : ∀ (y1 : Int32) (y2 : Int32) (y3 : Int32) (y4 : Int32) (u_this_thrown : Int32) (H : Heap) (locs : List Loc), K33 y1 y2 y3 y4 u_this_thrown → va_P (dC, dI) vwCl (w_M_check ad a_this a_units a_kinds a_values a_names a_low a_high a_told a_leftOut a_isMade a_hands a_pad a_court a_title a_out k_isMade k_pad k_hands u_this_thrown v_this_size v_this_families v_this_atHand v_this_family v_this_density v_this_pads v_this_hasThermal v_this_titleSize v_this_written v_this_at v_this_begin v_this_words v_this_paste0 v_isMade v_pad v_hands) H → va_D A (w_M_check ad a_this a_units a_kinds a_values a_names a_low a_high a_told a_leftOut a_isMade a_hands a_pad a_court a_title a_out k_isMade k_pad k_hands u_this_thrown v_this_size v_this_families v_this_atHand v_this_family v_this_density v_this_pads v_this_hasThermal v_this_titleSize v_this_written v_this_at v_this_begin v_this_words v_this_paste0 v_isMade v_pad v_hands) → va_S A s.heap H locs → ∀ ls : Array Slot, lv_has ls 6 [(0, .ref a_this), (1, .int y1), (2, .int y2), (3, .int y3), (4, .int y4)] → W p l e (headSpec wsM_check { frames := 1, cells := 0, slots := 0, locals := 21 }).room s m args below meth c H locs 0 0 (MQ below (va_Qi (fun (r : Int32) (u : Int32) => post r u) (zB (dC, dI) A (fun (u : Int32) => (w_M_check ad a_this a_units a_kinds a_values a_names a_low a_high a_told a_leftOut a_isMade a_hands a_pad a_court a_title a_out k_isMade k_pad k_hands u v_this_size v_this_families v_this_atHand v_this_family v_this_density v_this_pads v_this_hasThermal v_this_titleSize v_this_written v_this_at v_this_begin v_this_words v_this_paste0 v_isMade v_pad v_hands))) A) args s 0 0 A) (F0 m 33 ls [])) (hK : va_K (dC, dI) vwCl [(k_isMade, .boolean), (k_pad, .long), (k_hands, .long)] s) : ∀ (y1 : Int32) (y2 : Int32) (y4 : Int32) (t0 : Int32) (u_this_thrown : Int32) (H : Heap) (locs : List Loc), P_M_check_64 post K33 y1 y2 y4 t0 u_this_thrown → va_P (dC, dI) vwCl (w_M_check ad a_this a_units a_kinds a_values a_names a_low a_high a_told a_leftOut a_isMade a_hands a_pad a_court a_title a_out k_isMade k_pad k_hands u_this_thrown v_this_size v_this_families v_this_atHand v_this_family v_this_density v_this_pads v_this_hasThermal v_this_titleSize v_this_written v_this_at v_this_begin v_this_words v_this_paste0 v_isMade v_pad v_hands) H → va_D A (w_M_check ad a_this a_units a_kinds a_values a_names a_low a_high a_told a_leftOut a_isMade a_hands a_pad a_court a_title a_out k_isMade k_pad k_hands u_this_thrown v_this_size v_this_families v_this_atHand v_this_family v_this_density v_this_pads v_this_hasThermal v_this_titleSize v_this_written v_this_at v_this_begin v_this_words v_this_paste0 v_isMade v_pad v_hands) → va_S A s.heap H locs → ∀ ls : Array Slot, lv_has ls 6 [(0, .ref a_this), (1, .int y1), (2, .int y2), (4, .int y4)] → W p l e (headSpec wsM_check { frames := 1, cells := 0, slots := 0, locals := 21 }).room s m args below meth c H locs 0 0 (MQ below (va_Qi (fun (r : Int32) (u : Int32) => post r u) (zB (dC, dI) A (fun (u : Int32) => (w_M_check ad a_this a_units a_kinds a_values a_names a_low a_high a_told a_leftOut a_isMade a_hands a_pad a_court a_title a_out k_isMade k_pad k_hands u v_this_size v_this_families v_this_atHand v_this_family v_this_density v_this_pads v_this_hasThermal v_this_titleSize v_this_written v_this_at v_this_begin v_this_words v_this_paste0 v_isMade v_pad v_hands))) A) args s 0 0 A) (F0 m 64 ls [.int t0]) := by
  obtain ⟨hx, hb, hr, hml, hown, hts, hlocks, hA⟩ := id C0
  intro y1 y2 y4 t0 u_this_thrown H locs h hP hD hS ls hl
  unfold P_M_check_64 at h
  refine lv_istore_n (lv' := [(3, .int t0), (0, .ref a_this), (1, .int y1), (2, .int y2), (4, .int y4)]) hx hb dM_check_64 rfl hl (by decide) rfl (fun ls hl => ?_)
  obtain ⟨x1, ex1⟩ : ∃ y : Int32, y = y4 + 1 := ⟨_, rfl⟩
  replace h := h x1 ex1
  refine lv_iinc (v := x1) (lv' := [(4, .int x1), (3, .int t0), (0, .ref a_this), (1, .int y1), (2, .int y2)]) hx hb dM_check_65 hl (k := 4) rfl (by rw [ex1]; rfl) (by decide) rfl (fun ls hl => ?_)
  refine lv_goto (tgt := 33) hx hb dM_check_68 (by decide) ?_
  exact hK33 y1 y2 t0 x1 u_this_thrown _ _ h hP hD hS ls (lv_sub hl [2, 3, 4, 1, 0] rfl)
def P_M_check_33 (v_this_pads : Int32) (v_isMade : Nat → Int32) (v_pad : Nat → Int64) (v_hands : Nat → Int64) (post : Int32 → Int32 → Prop) (K22 : Int32 → Int32 → Int32 → Prop) : Nat → Int32 → Int32 → Int32 → Int32 → Int32 → Prop
  | 0, _, _, _, _, _ => False
  | n + 1, y1, y2, y3, y4, u_this_thrown => ((v_this_pads ≤ y4 → ((y3 = (-1) → P_M_check_89 v_isMade v_pad v_hands post K22 y1 y2 y3 u_this_thrown) ∧ (¬ y3 = (-1) → vp_in y2 81 ∧ (((v_isMade y2.toNatClampNeg) = 0 → P_M_check_89 v_isMade v_pad v_hands post K22 y1 y2 y3 u_this_thrown) ∧ (¬ (v_isMade y2.toNatClampNeg) = 0 → P_M_check_90 v_isMade v_pad v_hands post K22 y1 y2 y3 1 u_this_thrown))))) ∧ (¬ v_this_pads ≤ y4 → vp_in (7 * y4) 455 ∧ ((¬ (v_pad (7 * y4).toNatClampNeg) = y2.toInt64 → P_M_check_64 post (P_M_check_33 v_this_pads v_isMade v_pad v_hands post K22 n) y1 y2 y4 y3 u_this_thrown) ∧ ((v_pad (7 * y4).toNatClampNeg) = y2.toInt64 → P_M_check_64 post (P_M_check_33 v_this_pads v_isMade v_pad v_hands post K22 n) y1 y2 y4 y4 u_this_thrown))))
set_option maxHeartbeats 4000000 in
set_option maxRecDepth 100000 in
theorem w_M_check_33 (l : Launch) {p : Program} {e : Env} {s : State} {m : MethodId} {args : Array Value} {below : List Frame} {meth : Method} {c : Code} {dC : Nat → ClassId} {dI : Nat → Nat → Nat} {ad : Nat → Nat → Nat} {A : Nat → Prop} (C0 : zC p s m args meth c cM_check 6 RM zT (some .int) A) (hE : zE ad A s) (a_this : Nat) (a_units : Nat) (a_kinds : Nat) (a_values : Nat) (a_names : Nat) (a_low : Nat) (a_high : Nat) (a_told : Nat) (a_leftOut : Nat) (a_isMade : Nat) (a_hands : Nat) (a_pad : Nat) (a_court : Nat) (a_title : Nat) (a_out : Nat) (k_isMade : ClassId) (k_pad : ClassId) (k_hands : ClassId) (v_this_thrown : Int32) (v_this_size : Int32) (v_this_families : Int32) (v_this_atHand : Int32) (v_this_family : Int32) (v_this_density : Int32) (v_this_pads : Int32) (v_this_hasThermal : Int32) (v_this_titleSize : Int32) (v_this_written : Int32) (v_this_at : Int32) (v_this_begin : Int32) (v_this_words : Int32) (v_this_paste0 : Int64) (v_isMade : Nat → Int32) (v_pad : Nat → Int64) (v_hands : Nat → Int64) (post : Int32 → Int32 → Prop) (K22 : Int32 → Int32 → Int32 → Prop) (hK22 : ∀ (y1 : Int32) (y2 : Int32) (u_this_thrown : Int32) (H : Heap) (locs : List Loc), K22 y1 y2 u_this_thrown → va_P (dC, dI) vwCl (w_M_check ad a_this a_units a_kinds a_values a_names a_low a_high a_told a_leftOut a_isMade a_hands a_pad a_court a_title a_out k_isMade k_pad k_hands u_this_thrown v_this_size v_this_families v_this_atHand v_this_family v_this_density v_this_pads v_this_hasThermal v_this_titleSize v_this_written v_this_at v_this_begin v_this_words v_this_paste0 v_isMade v_pad v_hands) H → va_D A (w_M_check ad a_this a_units a_kinds a_values a_names a_low a_high a_told a_leftOut a_isMade a_hands a_pad a_court a_title a_out k_isMade k_pad k_hands u_this_thrown v_this_size v_this_families v_this_atHand v_this_family v_this_density v_this_pads v_this_hasThermal v_this_titleSize v_this_written v_this_at v_this_begin v_this_words v_this_paste0 v_isMade v_pad v_hands) → va_S A s.heap H locs → ∀ ls : Array Slot, lv_has ls 6 [(0, .ref a_this), (1, .int y1), (2, .int y2)] → W p l e (headSpec wsM_check { frames := 1, cells := 0, slots := 0, locals := 21 }).room s m args below meth c H locs 0 0 (MQ below (va_Qi (fun (r : Int32) (u : Int32) => post r u) (zB (dC, dI) A (fun (u : Int32) => (w_M_check ad a_this a_units a_kinds a_values a_names a_low a_high a_told a_leftOut a_isMade a_hands a_pad a_court a_title a_out k_isMade k_pad k_hands u v_this_size v_this_families v_this_atHand v_this_family v_this_density v_this_pads v_this_hasThermal v_this_titleSize v_this_written v_this_at v_this_begin v_this_words v_this_paste0 v_isMade v_pad v_hands))) A) args s 0 0 A) (F0 m 22 ls [])) (hK : va_K (dC, dI) vwCl [(k_isMade, .boolean), (k_pad, .long), (k_hands, .long)] s) : ∀ (n : Nat), ∀ (y1 : Int32) (y2 : Int32) (y3 : Int32) (y4 : Int32) (u_this_thrown : Int32) (H : Heap) (locs : List Loc), P_M_check_33 v_this_pads v_isMade v_pad v_hands post K22 n y1 y2 y3 y4 u_this_thrown → va_P (dC, dI) vwCl (w_M_check ad a_this a_units a_kinds a_values a_names a_low a_high a_told a_leftOut a_isMade a_hands a_pad a_court a_title a_out k_isMade k_pad k_hands u_this_thrown v_this_size v_this_families v_this_atHand v_this_family v_this_density v_this_pads v_this_hasThermal v_this_titleSize v_this_written v_this_at v_this_begin v_this_words v_this_paste0 v_isMade v_pad v_hands) H → va_D A (w_M_check ad a_this a_units a_kinds a_values a_names a_low a_high a_told a_leftOut a_isMade a_hands a_pad a_court a_title a_out k_isMade k_pad k_hands u_this_thrown v_this_size v_this_families v_this_atHand v_this_family v_this_density v_this_pads v_this_hasThermal v_this_titleSize v_this_written v_this_at v_this_begin v_this_words v_this_paste0 v_isMade v_pad v_hands) → va_S A s.heap H locs → ∀ ls : Array Slot, lv_has ls 6 [(0, .ref a_this), (1, .int y1), (2, .int y2), (3, .int y3), (4, .int y4)] → W p l e (headSpec wsM_check { frames := 1, cells := 0, slots := 0, locals := 21 }).room s m args below meth c H locs 0 0 (MQ below (va_Qi (fun (r : Int32) (u : Int32) => post r u) (zB (dC, dI) A (fun (u : Int32) => (w_M_check ad a_this a_units a_kinds a_values a_names a_low a_high a_told a_leftOut a_isMade a_hands a_pad a_court a_title a_out k_isMade k_pad k_hands u v_this_size v_this_families v_this_atHand v_this_family v_this_density v_this_pads v_this_hasThermal v_this_titleSize v_this_written v_this_at v_this_begin v_this_words v_this_paste0 v_isMade v_pad v_hands))) A) args s 0 0 A) (F0 m 33 ls []) := by
  obtain ⟨hx, hb, hr, hml, hown, hts, hlocks, hA⟩ := id C0
  intro n
  induction n with
  | zero =>
    intro y1 y2 y3 y4 u_this_thrown H locs h
    exact False.elim h
  | succ n ih =>
    intro y1 y2 y3 y4 u_this_thrown H locs h hP hD hS ls hl
    rw [P_M_check_33] at h
    refine lv_iload hx hb dM_check_33 (lv_at hl 4 rfl) ?_
    refine lv_aload_n hx hb dM_check_35 rfl (lv_at hl 0 rfl) ?_
    refine va_get (D := (dC, dI)) (ci := 10) (v := .int v_this_pads) (C := RM) (T := TM) (N := 28) hx hb hts inZ_M hown hK hP 0 rfl rfl 16 (by decide) (hts _ zw_1060) (fun _ h9 => h9) rfl dM_check_36 ?_
    refine lv_icmp_ge (tgt := 71) hx hb dM_check_39 (by decide) ?_ ?_
    · intro c1
      replace h := h.1 c1
      refine lv_iload_n hx hb dM_check_71 rfl (lv_at hl 3 rfl) ?_
      refine lv_iconst (v := (-1)) hx hb dM_check_72 (by decide) ?_
      refine lv_icmp_eq (tgt := 89) hx hb dM_check_73 (by decide) ?_ ?_
      · intro c2
        replace h := h.1 c2
        exact w_M_check_89 l C0 hE a_this a_units a_kinds a_values a_names a_low a_high a_told a_leftOut a_isMade a_hands a_pad a_court a_title a_out k_isMade k_pad k_hands v_this_thrown v_this_size v_this_families v_this_atHand v_this_family v_this_density v_this_pads v_this_hasThermal v_this_titleSize v_this_written v_this_at v_this_begin v_this_words v_this_paste0 v_isMade v_pad v_hands post K22 hK22 hK y1 y2 y3 u_this_thrown _ _ h hP hD hS ls (lv_sub hl [0, 1, 2, 3] rfl)
      · intro c2
        replace h := h.2 c2
        refine lv_aload_n hx hb dM_check_76 rfl (lv_at hl 0 rfl) ?_
        refine va_get (D := (dC, dI)) (ci := 10) (v := .ref a_isMade) (C := RM) (T := TM) (N := 28) hx hb hts inZ_M hown hK hP 0 rfl rfl 11 (by decide) (hts _ zw_1055) (fun _ h9 => h9) rfl dM_check_77 ?_
        refine lv_iload_n hx hb dM_check_80 rfl (lv_at hl 2 rfl) ?_
        obtain ⟨hn3, h⟩ := h
        refine va_zald hx hb hK hP 1 0 rfl rfl hn3 dM_check_81 ?_
        refine lv_if_eq (tgt := 89) hx hb dM_check_82 (by decide) ?_ ?_
        · intro c4
          replace h := h.1 c4
          exact w_M_check_89 l C0 hE a_this a_units a_kinds a_values a_names a_low a_high a_told a_leftOut a_isMade a_hands a_pad a_court a_title a_out k_isMade k_pad k_hands v_this_thrown v_this_size v_this_families v_this_atHand v_this_family v_this_density v_this_pads v_this_hasThermal v_this_titleSize v_this_written v_this_at v_this_begin v_this_words v_this_paste0 v_isMade v_pad v_hands post K22 hK22 hK y1 y2 y3 u_this_thrown _ _ h hP hD hS ls (lv_sub hl [0, 1, 2, 3] rfl)
        · intro c4
          replace h := h.2 c4
          refine lv_iconst (v := 1) hx hb dM_check_85 (by decide) ?_
          refine lv_goto (tgt := 90) hx hb dM_check_86 (by decide) ?_
          exact w_M_check_90 l C0 hE a_this a_units a_kinds a_values a_names a_low a_high a_told a_leftOut a_isMade a_hands a_pad a_court a_title a_out k_isMade k_pad k_hands v_this_thrown v_this_size v_this_families v_this_atHand v_this_family v_this_density v_this_pads v_this_hasThermal v_this_titleSize v_this_written v_this_at v_this_begin v_this_words v_this_paste0 v_isMade v_pad v_hands post K22 hK22 hK y1 y2 y3 1 u_this_thrown _ _ h hP hD hS ls (lv_sub hl [0, 1, 2, 3] rfl)
    · intro c1
      replace h := h.2 c1
      refine lv_aload_n hx hb dM_check_42 rfl (lv_at hl 0 rfl) ?_
      refine va_get (D := (dC, dI)) (ci := 10) (v := .ref a_pad) (C := RM) (T := TM) (N := 28) hx hb hts inZ_M hown hK hP 0 rfl rfl 17 (by decide) (hts _ zw_1061) (fun _ h9 => h9) rfl dM_check_43 ?_
      refine lv_bipush (v := 7) hx hb dM_check_46 (by decide) ?_
      refine lv_iload hx hb dM_check_48 (lv_at hl 4 rfl) ?_
      refine lv_imul hx hb dM_check_50 ?_
      obtain ⟨hn5, h⟩ := h
      refine va_lald hx hb hK hP 2 1 rfl rfl hn5 dM_check_51 ?_
      refine lv_iload_n hx hb dM_check_52 rfl (lv_at hl 2 rfl) ?_
      refine lv_i2l hx hb dM_check_53 rfl ?_
      refine zz_lcmp_ne (tgt := 63) hx hb dM_check_54 dM_check_55 (by decide) ?_ ?_
      · intro c6
        replace h := h.1 c6
        refine lv_iload_n hx hb dM_check_63 rfl (lv_at hl 3 rfl) ?_
        exact w_M_check_64 l C0 hE a_this a_units a_kinds a_values a_names a_low a_high a_told a_leftOut a_isMade a_hands a_pad a_court a_title a_out k_isMade k_pad k_hands v_this_thrown v_this_size v_this_families v_this_atHand v_this_family v_this_density v_this_pads v_this_hasThermal v_this_titleSize v_this_written v_this_at v_this_begin v_this_words v_this_paste0 v_isMade v_pad v_hands post (P_M_check_33 v_this_pads v_isMade v_pad v_hands post K22 n) ih hK y1 y2 y4 y3 u_this_thrown _ _ h hP hD hS ls (lv_sub hl [0, 1, 2, 4] rfl)
      · intro c6
        replace h := h.2 c6
        refine lv_iload hx hb dM_check_58 (lv_at hl 4 rfl) ?_
        refine lv_goto (tgt := 64) hx hb dM_check_60 (by decide) ?_
        exact w_M_check_64 l C0 hE a_this a_units a_kinds a_values a_names a_low a_high a_told a_leftOut a_isMade a_hands a_pad a_court a_title a_out k_isMade k_pad k_hands v_this_thrown v_this_size v_this_families v_this_atHand v_this_family v_this_density v_this_pads v_this_hasThermal v_this_titleSize v_this_written v_this_at v_this_begin v_this_words v_this_paste0 v_isMade v_pad v_hands post (P_M_check_33 v_this_pads v_isMade v_pad v_hands post K22 n) ih hK y1 y2 y4 y4 u_this_thrown _ _ h hP hD hS ls (lv_sub hl [0, 1, 2, 4] rfl)
def P_M_check_22 (v_this_pads : Int32) (v_isMade : Nat → Int32) (v_pad : Nat → Int64) (v_hands : Nat → Int64) (post : Int32 → Int32 → Prop) : Nat → Int32 → Int32 → Int32 → Prop
  | 0, _, _, _ => False
  | n + 1, y1, y2, u_this_thrown => ((80 < y2 → post y1 u_this_thrown) ∧ (¬ 80 < y2 → ∃ n2, P_M_check_33 v_this_pads v_isMade v_pad v_hands post (P_M_check_22 v_this_pads v_isMade v_pad v_hands post n) n2 y1 y2 (-1) 0 u_this_thrown))
set_option maxHeartbeats 4000000 in
set_option maxRecDepth 100000 in
theorem w_M_check_22 (l : Launch) {p : Program} {e : Env} {s : State} {m : MethodId} {args : Array Value} {below : List Frame} {meth : Method} {c : Code} {dC : Nat → ClassId} {dI : Nat → Nat → Nat} {ad : Nat → Nat → Nat} {A : Nat → Prop} (C0 : zC p s m args meth c cM_check 6 RM zT (some .int) A) (hE : zE ad A s) (a_this : Nat) (a_units : Nat) (a_kinds : Nat) (a_values : Nat) (a_names : Nat) (a_low : Nat) (a_high : Nat) (a_told : Nat) (a_leftOut : Nat) (a_isMade : Nat) (a_hands : Nat) (a_pad : Nat) (a_court : Nat) (a_title : Nat) (a_out : Nat) (k_isMade : ClassId) (k_pad : ClassId) (k_hands : ClassId) (v_this_thrown : Int32) (v_this_size : Int32) (v_this_families : Int32) (v_this_atHand : Int32) (v_this_family : Int32) (v_this_density : Int32) (v_this_pads : Int32) (v_this_hasThermal : Int32) (v_this_titleSize : Int32) (v_this_written : Int32) (v_this_at : Int32) (v_this_begin : Int32) (v_this_words : Int32) (v_this_paste0 : Int64) (v_isMade : Nat → Int32) (v_pad : Nat → Int64) (v_hands : Nat → Int64) (post : Int32 → Int32 → Prop) (hK : va_K (dC, dI) vwCl [(k_isMade, .boolean), (k_pad, .long), (k_hands, .long)] s) : ∀ (n : Nat), ∀ (y1 : Int32) (y2 : Int32) (u_this_thrown : Int32) (H : Heap) (locs : List Loc), P_M_check_22 v_this_pads v_isMade v_pad v_hands post n y1 y2 u_this_thrown → va_P (dC, dI) vwCl (w_M_check ad a_this a_units a_kinds a_values a_names a_low a_high a_told a_leftOut a_isMade a_hands a_pad a_court a_title a_out k_isMade k_pad k_hands u_this_thrown v_this_size v_this_families v_this_atHand v_this_family v_this_density v_this_pads v_this_hasThermal v_this_titleSize v_this_written v_this_at v_this_begin v_this_words v_this_paste0 v_isMade v_pad v_hands) H → va_D A (w_M_check ad a_this a_units a_kinds a_values a_names a_low a_high a_told a_leftOut a_isMade a_hands a_pad a_court a_title a_out k_isMade k_pad k_hands u_this_thrown v_this_size v_this_families v_this_atHand v_this_family v_this_density v_this_pads v_this_hasThermal v_this_titleSize v_this_written v_this_at v_this_begin v_this_words v_this_paste0 v_isMade v_pad v_hands) → va_S A s.heap H locs → ∀ ls : Array Slot, lv_has ls 6 [(0, .ref a_this), (1, .int y1), (2, .int y2)] → W p l e (headSpec wsM_check { frames := 1, cells := 0, slots := 0, locals := 21 }).room s m args below meth c H locs 0 0 (MQ below (va_Qi (fun (r : Int32) (u : Int32) => post r u) (zB (dC, dI) A (fun (u : Int32) => (w_M_check ad a_this a_units a_kinds a_values a_names a_low a_high a_told a_leftOut a_isMade a_hands a_pad a_court a_title a_out k_isMade k_pad k_hands u v_this_size v_this_families v_this_atHand v_this_family v_this_density v_this_pads v_this_hasThermal v_this_titleSize v_this_written v_this_at v_this_begin v_this_words v_this_paste0 v_isMade v_pad v_hands))) A) args s 0 0 A) (F0 m 22 ls []) := by
  obtain ⟨hx, hb, hr, hml, hown, hts, hlocks, hA⟩ := id C0
  intro n
  induction n with
  | zero =>
    intro y1 y2 u_this_thrown H locs h
    exact False.elim h
  | succ n ih =>
    intro y1 y2 u_this_thrown H locs h hP hD hS ls hl
    rw [P_M_check_22] at h
    refine lv_iload_n hx hb dM_check_22 rfl (lv_at hl 2 rfl) ?_
    refine lv_bipush (v := 80) hx hb dM_check_23 (by decide) ?_
    refine lv_icmp_gt (tgt := 183) hx hb dM_check_25 (by decide) ?_ ?_
    · intro c1
      replace h := h.1 c1
      refine lv_iload_n hx hb dM_check_183 rfl (lv_at hl 1 rfl) ?_
      exact W.iret (v := y1) hx hb hr (fun t ht hW => ⟨⟨y1, u_this_thrown, rfl, h, by rw [ht]; exact hP, hD⟩, hS.F ht⟩) hS.2.2 dM_check_184
    · intro c1
      replace h := h.2 c1
      refine lv_iconst (v := (-1)) hx hb dM_check_28 (by decide) ?_
      refine lv_istore_n (lv' := [(3, .int (-1)), (0, .ref a_this), (1, .int y1), (2, .int y2)]) hx hb dM_check_29 rfl hl (by decide) rfl (fun ls hl => ?_)
      refine lv_iconst (v := 0) hx hb dM_check_30 (by decide) ?_
      refine lv_istore (lv' := [(4, .int 0), (3, .int (-1)), (0, .ref a_this), (1, .int y1), (2, .int y2)]) hx hb dM_check_31 hl (by decide) rfl (fun ls hl => ?_)
      obtain ⟨n2, h⟩ := h
      exact w_M_check_33 l C0 hE a_this a_units a_kinds a_values a_names a_low a_high a_told a_leftOut a_isMade a_hands a_pad a_court a_title a_out k_isMade k_pad k_hands v_this_thrown v_this_size v_this_families v_this_atHand v_this_family v_this_density v_this_pads v_this_hasThermal v_this_titleSize v_this_written v_this_at v_this_begin v_this_words v_this_paste0 v_isMade v_pad v_hands post (P_M_check_22 v_this_pads v_isMade v_pad v_hands post n) ih hK n2 y1 y2 (-1) 0 u_this_thrown _ _ h hP hD hS ls (lv_sub hl [2, 3, 4, 1, 0] rfl)
def P_M_check (v_this_atHand : Int32) (v_this_pads : Int32) (v_isMade : Nat → Int32) (v_pad : Nat → Int64) (v_hands : Nat → Int64) (post : Int32 → Int32 → Prop) : Prop := P_M_refusal 1 v_this_atHand (fun (r1 : Int32) => ((r1 = 0 → ∃ n3, P_M_check_22 v_this_pads v_isMade v_pad v_hands post n3 0 1 r1) ∧ (¬ r1 = 0 → post 0 r1)))
set_option maxHeartbeats 4000000 in
set_option maxRecDepth 100000 in
theorem c_M_check (l : Launch) (dC : Nat → ClassId) (dI : Nat → Nat → Nat) (ad : Nat → Nat → Nat) (a_this : Nat) (a_units : Nat) (a_kinds : Nat) (a_values : Nat) (a_names : Nat) (a_low : Nat) (a_high : Nat) (a_told : Nat) (a_leftOut : Nat) (a_isMade : Nat) (a_hands : Nat) (a_pad : Nat) (a_court : Nat) (a_title : Nat) (a_out : Nat) (k_isMade : ClassId) (k_pad : ClassId) (k_hands : ClassId) (sz : Nat) (v_this_thrown : Int32) (v_this_size : Int32) (v_this_families : Int32) (v_this_atHand : Int32) (v_this_family : Int32) (v_this_density : Int32) (v_this_pads : Int32) (v_this_hasThermal : Int32) (v_this_titleSize : Int32) (v_this_written : Int32) (v_this_at : Int32) (v_this_begin : Int32) (v_this_words : Int32) (v_this_paste0 : Int64) (v_isMade : Nat → Int32) (v_pad : Nat → Int64) (v_hands : Nat → Int64) (post : Int32 → Int32 → Prop) (h : P_M_check v_this_atHand v_this_pads v_isMade v_pad v_hands post) : zMi l yM_check wsM_check { frames := 1, cells := 0, slots := 0, locals := 21 } (dC, dI) ad [.ref a_this] (w_M_check ad a_this a_units a_kinds a_values a_names a_low a_high a_told a_leftOut a_isMade a_hands a_pad a_court a_title a_out k_isMade k_pad k_hands v_this_thrown v_this_size v_this_families v_this_atHand v_this_family v_this_density v_this_pads v_this_hasThermal v_this_titleSize v_this_written v_this_at v_this_begin v_this_words v_this_paste0 v_isMade v_pad v_hands) [(k_isMade, .boolean), (k_pad, .long), (k_hands, .long)] sz (fun (r : Int32) (u : Int32) => post r u) (fun (u : Int32) => (w_M_check ad a_this a_units a_kinds a_values a_names a_low a_high a_told a_leftOut a_isMade a_hands a_pad a_court a_title a_out k_isMade k_pad k_hands u v_this_size v_this_families v_this_atHand v_this_family v_this_density v_this_pads v_this_hasThermal v_this_titleSize v_this_written v_this_at v_this_begin v_this_words v_this_paste0 v_isMade v_pad v_hands)) 0 0 := by
  refine Met.ofW (cc := cM_check) (maxL := 6) (ret := (some .int)) (by decide +kernel) rfl ?_
  intro p e s m args below meth c s₁ B hml hv
  obtain ⟨rfl, hsz, hP, hK, hD0, hE⟩ := hv
  have hx := B.exec
  have hb := B.bytes
  have hr := B.returns
  have hts0 := atoms_spec (ws := wsM_check) B.pre
  have hts := fun w h => hts0 w (List.mem_cons_of_mem _ h)
  have hown : s.vm.findClass RM = some m.cls := findClass_of_methodNamed B.named
  have hlocks := B.notSynchronized
  subst hsz
  have hD := hD0.self (sz := s.heap.size)
  generalize hAe : va_A (w_M_check ad a_this a_units a_kinds a_values a_names a_low a_high a_told a_leftOut a_isMade a_hands a_pad a_court a_title a_out k_isMade k_pad k_hands v_this_thrown v_this_size v_this_families v_this_atHand v_this_family v_this_density v_this_pads v_this_hasThermal v_this_titleSize v_this_written v_this_at v_this_begin v_this_words v_this_paste0 v_isMade v_pad v_hands) s.heap.size = A at hD hE ⊢
  have hA : ∀ q : Nat, s.heap.size ≤ q → A q := fun q h => by rw [← hAe]; exact Or.inr h
  have C0 := zC.mk hx hb hr hml hown hts hlocks hA
  have hS : va_S A s.heap s.heap [] := va_S.rf
  have hl := lv_entry ([.ref a_this]) (n := 6) (Nat.le_of_ble_eq_true rfl)
  rw [lg_entry_eq]
  generalize (lg_sl ([.ref a_this]) ++ List.replicate (6 - (lg_sl ([.ref a_this])).length) Slot.unset).toArray = ls at hl ⊢
  have hl : lv_has ls 6 [(0, .ref a_this)] := hl
  unfold P_M_check at h
  refine lv_aload_n hx hb dM_check_0 rfl (lv_at hl 0 rfl) ?_
  refine lv_aload_n hx hb dM_check_1 rfl (lv_at hl 0 rfl) ?_
  refine lv_iconst (v := 1) hx hb dM_check_2 (by decide) ?_
  refine zcall_i hP hD hS hA [0] [1, 2, 3] (va_runV (As := [.int 1]) (rest := [.ref a_this]) ⟨hx, hb, hml, hown, hts⟩ (c_M_refusal l dC dI ad a_this a_units a_kinds a_values a_names a_low a_high a_told a_leftOut a_isMade a_hands a_pad a_court a_title a_out _ 1 v_this_thrown v_this_size v_this_families v_this_atHand v_this_family v_this_density v_this_pads v_this_hasThermal v_this_titleSize v_this_written v_this_at v_this_begin v_this_words v_this_paste0 _ h) ⟨callB_of 1 hts (zgood zc_M_refusal) rfl rfl rfl (hts _ zw_107) (hts _ zw_1280) (by decide +kernel) ⟨Nat.le_of_ble_eq_true rfl, Nat.le_of_ble_eq_true rfl⟩, (hts _ zw_1282), (hts _ zw_89)⟩ (zpreV hE hK hP hD hS hA [0] [] (by rfl) (by rfl) (by decide) (ci := 10) (q0 := 0) rfl (by rfl)) rfl rfl hl.1 rfl (lv_room (Nat.le_of_ble_eq_true rfl)) dM_check_3 ⟨Nat.le_of_ble_eq_true rfl, Nat.le_of_ble_eq_true rfl⟩) (by rfl) (by rfl) (by decide) (by decide) (fun r1 u H locs h hP hD hS => ?_)
  try dsimp only at h
  have hP := hP.sub (ws' := (w_M_check ad a_this a_units a_kinds a_values a_names a_low a_high a_told a_leftOut a_isMade a_hands a_pad a_court a_title a_out k_isMade k_pad k_hands v_this_thrown v_this_size v_this_families v_this_atHand v_this_family v_this_density v_this_pads v_this_hasThermal v_this_titleSize v_this_written v_this_at v_this_begin v_this_words v_this_paste0 v_isMade v_pad v_hands)) [3, 0, 1, 2] rfl
  have hD := hD.sub (ws' := (w_M_check ad a_this a_units a_kinds a_values a_names a_low a_high a_told a_leftOut a_isMade a_hands a_pad a_court a_title a_out k_isMade k_pad k_hands v_this_thrown v_this_size v_this_families v_this_atHand v_this_family v_this_density v_this_pads v_this_hasThermal v_this_titleSize v_this_written v_this_at v_this_begin v_this_words v_this_paste0 v_isMade v_pad v_hands)) [3, 0, 1, 2] (by decide) rfl
  refine va_put (D := (dC, dI)) (ci := 10) (v := .int r1) (ty := .int) (C := RM) (T := TM) (N := 28) hx hb hts inZ_M tyM tyM_ok nmM hown hK hP hD hS 0 rfl rfl 0 (by decide) (hts _ zw_1044) (fun _ h9 => h9) rfl (by decide +kernel) rfl rfl (Nat.le_of_ble_eq_true rfl) dM_check_6 (fun H locs hP hD hS => ?_)
  have hP : va_P (dC, dI) vwCl (w_M_check ad a_this a_units a_kinds a_values a_names a_low a_high a_told a_leftOut a_isMade a_hands a_pad a_court a_title a_out k_isMade k_pad k_hands r1 v_this_size v_this_families v_this_atHand v_this_family v_this_density v_this_pads v_this_hasThermal v_this_titleSize v_this_written v_this_at v_this_begin v_this_words v_this_paste0 v_isMade v_pad v_hands) H := hP
  have hD : va_D A (w_M_check ad a_this a_units a_kinds a_values a_names a_low a_high a_told a_leftOut a_isMade a_hands a_pad a_court a_title a_out k_isMade k_pad k_hands r1 v_this_size v_this_families v_this_atHand v_this_family v_this_density v_this_pads v_this_hasThermal v_this_titleSize v_this_written v_this_at v_this_begin v_this_words v_this_paste0 v_isMade v_pad v_hands) := hD
  refine lv_aload_n hx hb dM_check_9 rfl (lv_at hl 0 rfl) ?_
  refine va_get (D := (dC, dI)) (ci := 10) (v := .int r1) (C := RM) (T := TM) (N := 28) hx hb hts inZ_M hown hK hP 0 rfl rfl 0 (by decide) (hts _ zw_1044) (fun _ h9 => h9) rfl dM_check_10 ?_
  refine lv_if_eq (tgt := 18) hx hb dM_check_13 (by decide) ?_ ?_
  · intro c2
    replace h := h.1 c2
    refine lv_iconst (v := 0) hx hb dM_check_18 (by decide) ?_
    refine lv_istore_n (lv' := [(1, .int 0), (0, .ref a_this)]) hx hb dM_check_19 rfl hl (by decide) rfl (fun ls hl => ?_)
    refine lv_iconst (v := 1) hx hb dM_check_20 (by decide) ?_
    refine lv_istore_n (lv' := [(2, .int 1), (1, .int 0), (0, .ref a_this)]) hx hb dM_check_21 rfl hl (by decide) rfl (fun ls hl => ?_)
    obtain ⟨n3, h⟩ := h
    exact w_M_check_22 l C0 hE a_this a_units a_kinds a_values a_names a_low a_high a_told a_leftOut a_isMade a_hands a_pad a_court a_title a_out k_isMade k_pad k_hands v_this_thrown v_this_size v_this_families v_this_atHand v_this_family v_this_density v_this_pads v_this_hasThermal v_this_titleSize v_this_written v_this_at v_this_begin v_this_words v_this_paste0 v_isMade v_pad v_hands post hK n3 0 1 r1 _ _ h hP hD hS ls (lv_sub hl [2, 1, 0] rfl)
  · intro c2
    replace h := h.2 c2
    refine lv_iconst (v := 0) hx hb dM_check_16 (by decide) ?_
    exact W.iret (v := 0) hx hb hr (fun t ht hW => ⟨⟨0, r1, rfl, h, by rw [ht]; exact hP, hD⟩, hS.F ht⟩) hS.2.2 dM_check_17
