abbrev yM_findName : MethodName := ⟨"FootprintRulesModel", "findName", "()V"⟩
abbrev cM_findName : ByteArray := prog_14_method_35_code
abbrev wsM_findName : List Cond := .code yM_findName cM_findName 6 none :: zT
set_option maxRecDepth 100000 in
theorem zc_M_findName : Cond.code yM_findName cM_findName 6 none ∈ zT := zm 1262 (by rfl) (by rfl)
theorem dM_findName_0 : decode cM_findName 0 = .ok (.aload_n 0, 1) := by decide +kernel
theorem dM_findName_1 : decode cM_findName 1 = .ok (.iconst 0, 1) := by decide +kernel
theorem dM_findName_2 : decode cM_findName 2 = .ok (.putfield 209, 3) := by decide +kernel
theorem dM_findName_5 : decode cM_findName 5 = .ok (.aload_n 0, 1) := by decide +kernel
theorem dM_findName_6 : decode cM_findName 6 = .ok (.getfield 20, 3) := by decide +kernel
theorem dM_findName_9 : decode cM_findName 9 = .ok (.aload_n 0, 1) := by decide +kernel
theorem dM_findName_10 : decode cM_findName 10 = .ok (.getfield 128, 3) := by decide +kernel
theorem dM_findName_13 : decode cM_findName 13 = .ok (.laload, 1) := by decide +kernel
theorem dM_findName_14 : decode cM_findName 14 = .ok (.lstore_n 1, 1) := by decide +kernel
theorem dM_findName_15 : decode cM_findName 15 = .ok (.lconst 1, 1) := by decide +kernel
theorem dM_findName_16 : decode cM_findName 16 = .ok (.lstore_n 3, 1) := by decide +kernel
theorem dM_findName_17 : decode cM_findName 17 = .ok (.lload_n 1, 1) := by decide +kernel
theorem dM_findName_18 : decode cM_findName 18 = .ok (.lload_n 3, 1) := by decide +kernel
theorem dM_findName_19 : decode cM_findName 19 = .ok (.ldiv, 1) := by decide +kernel
theorem dM_findName_20 : decode cM_findName 20 = .ok (.ldc2_w 76, 3) := by decide +kernel
theorem dM_findName_23 : decode cM_findName 23 = .ok (.lcmp, 1) := by decide +kernel
theorem dM_findName_24 : decode cM_findName 24 = .ok (.ifCond .lt 12, 3) := by decide +kernel
theorem dM_findName_27 : decode cM_findName 27 = .ok (.ldc2_w 76, 3) := by decide +kernel
theorem dM_findName_30 : decode cM_findName 30 = .ok (.lload_n 3, 1) := by decide +kernel
theorem dM_findName_31 : decode cM_findName 31 = .ok (.lmul, 1) := by decide +kernel
theorem dM_findName_32 : decode cM_findName 32 = .ok (.lstore_n 3, 1) := by decide +kernel
theorem dM_findName_33 : decode cM_findName 33 = .ok (.goto (-16), 3) := by decide +kernel
theorem dM_findName_36 : decode cM_findName 36 = .ok (.lload_n 3, 1) := by decide +kernel
theorem dM_findName_37 : decode cM_findName 37 = .ok (.lconst 0, 1) := by decide +kernel
theorem dM_findName_38 : decode cM_findName 38 = .ok (.lcmp, 1) := by decide +kernel
theorem dM_findName_39 : decode cM_findName 39 = .ok (.ifCond .le 27, 3) := by decide +kernel
theorem dM_findName_42 : decode cM_findName 42 = .ok (.aload_n 0, 1) := by decide +kernel
theorem dM_findName_43 : decode cM_findName 43 = .ok (.lload_n 1, 1) := by decide +kernel
theorem dM_findName_44 : decode cM_findName 44 = .ok (.lload_n 3, 1) := by decide +kernel
theorem dM_findName_45 : decode cM_findName 45 = .ok (.ldiv, 1) := by decide +kernel
theorem dM_findName_46 : decode cM_findName 46 = .ok (.ldc2_w 76, 3) := by decide +kernel
theorem dM_findName_49 : decode cM_findName 49 = .ok (.lrem, 1) := by decide +kernel
theorem dM_findName_50 : decode cM_findName 50 = .ok (.l2i, 1) := by decide +kernel
theorem dM_findName_51 : decode cM_findName 51 = .ok (.bipush 64, 2) := by decide +kernel
theorem dM_findName_53 : decode cM_findName 53 = .ok (.iadd, 1) := by decide +kernel
theorem dM_findName_54 : decode cM_findName 54 = .ok (.invokevirtual 212, 3) := by decide +kernel
theorem dM_findName_57 : decode cM_findName 57 = .ok (.lload_n 3, 1) := by decide +kernel
theorem dM_findName_58 : decode cM_findName 58 = .ok (.ldc2_w 76, 3) := by decide +kernel
theorem dM_findName_61 : decode cM_findName 61 = .ok (.ldiv, 1) := by decide +kernel
theorem dM_findName_62 : decode cM_findName 62 = .ok (.lstore_n 3, 1) := by decide +kernel
theorem dM_findName_63 : decode cM_findName 63 = .ok (.goto (-27), 3) := by decide +kernel
theorem dM_findName_66 : decode cM_findName 66 = .ok (.aload_n 0, 1) := by decide +kernel
theorem dM_findName_67 : decode cM_findName 67 = .ok (.aload_n 0, 1) := by decide +kernel
theorem dM_findName_68 : decode cM_findName 68 = .ok (.getfield 134, 3) := by decide +kernel
theorem dM_findName_71 : decode cM_findName 71 = .ok (.i2l, 1) := by decide +kernel
theorem dM_findName_72 : decode cM_findName 72 = .ok (.invokevirtual 216, 3) := by decide +kernel
theorem dM_findName_75 : decode cM_findName 75 = .ok (.aload_n 0, 1) := by decide +kernel
theorem dM_findName_76 : decode cM_findName 76 = .ok (.bipush 88, 2) := by decide +kernel
theorem dM_findName_78 : decode cM_findName 78 = .ok (.invokevirtual 212, 3) := by decide +kernel
theorem dM_findName_81 : decode cM_findName 81 = .ok (.aload_n 0, 1) := by decide +kernel
theorem dM_findName_82 : decode cM_findName 82 = .ok (.aload_n 0, 1) := by decide +kernel
theorem dM_findName_83 : decode cM_findName 83 = .ok (.getfield 29, 3) := by decide +kernel
theorem dM_findName_86 : decode cM_findName 86 = .ok (.iconst 0, 1) := by decide +kernel
theorem dM_findName_87 : decode cM_findName 87 = .ok (.baload, 1) := by decide +kernel
theorem dM_findName_88 : decode cM_findName 88 = .ok (.ifCond .eq 16, 3) := by decide +kernel
theorem dM_findName_91 : decode cM_findName 91 = .ok (.aload_n 0, 1) := by decide +kernel
theorem dM_findName_92 : decode cM_findName 92 = .ok (.getfield 26, 3) := by decide +kernel
theorem dM_findName_95 : decode cM_findName 95 = .ok (.iconst 0, 1) := by decide +kernel
theorem dM_findName_96 : decode cM_findName 96 = .ok (.laload, 1) := by decide +kernel
theorem dM_findName_97 : decode cM_findName 97 = .ok (.ldc2_w 219, 3) := by decide +kernel
theorem dM_findName_100 : decode cM_findName 100 = .ok (.ldiv, 1) := by decide +kernel
theorem dM_findName_101 : decode cM_findName 101 = .ok (.goto 4, 3) := by decide +kernel
theorem dM_findName_104 : decode cM_findName 104 = .ok (.lconst 0, 1) := by decide +kernel
theorem dM_findName_105 : decode cM_findName 105 = .ok (.invokevirtual 216, 3) := by decide +kernel
theorem dM_findName_108 : decode cM_findName 108 = .ok (.aload_n 0, 1) := by decide +kernel
theorem dM_findName_109 : decode cM_findName 109 = .ok (.aload_n 0, 1) := by decide +kernel
theorem dM_findName_110 : decode cM_findName 110 = .ok (.getfield 131, 3) := by decide +kernel
theorem dM_findName_113 : decode cM_findName 113 = .ok (.ifCond .ne 8, 3) := by decide +kernel
theorem dM_findName_116 : decode cM_findName 116 = .ok (.bipush 76, 2) := by decide +kernel
theorem dM_findName_118 : decode cM_findName 118 = .ok (.goto 18, 3) := by decide +kernel
theorem dM_findName_121 : decode cM_findName 121 = .ok (.aload_n 0, 1) := by decide +kernel
theorem dM_findName_122 : decode cM_findName 122 = .ok (.getfield 131, 3) := by decide +kernel
theorem dM_findName_125 : decode cM_findName 125 = .ok (.iconst 1, 1) := by decide +kernel
theorem dM_findName_126 : decode cM_findName 126 = .ok (.if_icmp .ne 8, 3) := by decide +kernel
theorem dM_findName_129 : decode cM_findName 129 = .ok (.bipush 78, 2) := by decide +kernel
theorem dM_findName_131 : decode cM_findName 131 = .ok (.goto 5, 3) := by decide +kernel
theorem dM_findName_134 : decode cM_findName 134 = .ok (.bipush 77, 2) := by decide +kernel
theorem dM_findName_136 : decode cM_findName 136 = .ok (.invokevirtual 212, 3) := by decide +kernel
theorem dM_findName_139 : decode cM_findName 139 = .ok (.aload_n 0, 1) := by decide +kernel
theorem dM_findName_140 : decode cM_findName 140 = .ok (.aload_n 0, 1) := by decide +kernel
theorem dM_findName_141 : decode cM_findName 141 = .ok (.getfield 209, 3) := by decide +kernel
theorem dM_findName_144 : decode cM_findName 144 = .ok (.putfield 221, 3) := by decide +kernel
theorem dM_findName_147 : decode cM_findName 147 = .ok (.iconst 0, 1) := by decide +kernel
theorem dM_findName_148 : decode cM_findName 148 = .ok (.istore 5, 2) := by decide +kernel
theorem dM_findName_150 : decode cM_findName 150 = .ok (.iload 5, 2) := by decide +kernel
theorem dM_findName_152 : decode cM_findName 152 = .ok (.aload_n 0, 1) := by decide +kernel
theorem dM_findName_153 : decode cM_findName 153 = .ok (.getfield 209, 3) := by decide +kernel
theorem dM_findName_156 : decode cM_findName 156 = .ok (.if_icmp .ge 23, 3) := by decide +kernel
theorem dM_findName_159 : decode cM_findName 159 = .ok (.aload_n 0, 1) := by decide +kernel
theorem dM_findName_160 : decode cM_findName 160 = .ok (.getfield 48, 3) := by decide +kernel
theorem dM_findName_163 : decode cM_findName 163 = .ok (.iload 5, 2) := by decide +kernel
theorem dM_findName_165 : decode cM_findName 165 = .ok (.aload_n 0, 1) := by decide +kernel
theorem dM_findName_166 : decode cM_findName 166 = .ok (.getfield 51, 3) := by decide +kernel
theorem dM_findName_169 : decode cM_findName 169 = .ok (.iload 5, 2) := by decide +kernel
theorem dM_findName_171 : decode cM_findName 171 = .ok (.iaload, 1) := by decide +kernel
theorem dM_findName_172 : decode cM_findName 172 = .ok (.iastore, 1) := by decide +kernel
theorem dM_findName_173 : decode cM_findName 173 = .ok (.iinc 5 1, 3) := by decide +kernel
theorem dM_findName_176 : decode cM_findName 176 = .ok (.goto (-26), 3) := by decide +kernel
theorem dM_findName_179 : decode cM_findName 179 = .ok (.return_, 1) := by decide +kernel
-- FootprintRulesModel.findName()V
abbrev w_M_findName (ad : Nat → Nat → Nat) (a_this : Nat) (a_units : Nat) (a_kinds : Nat) (a_values : Nat) (a_names : Nat) (a_low : Nat) (a_high : Nat) (a_told : Nat) (a_leftOut : Nat) (a_isMade : Nat) (a_hands : Nat) (a_pad : Nat) (a_court : Nat) (a_title : Nat) (a_out : Nat) (k_names : ClassId) (k_out : ClassId) (k_told : ClassId) (k_high : ClassId) (k_title : ClassId) (v_this_thrown : Int32) (v_this_size : Int32) (v_this_families : Int32) (v_this_atHand : Int32) (v_this_family : Int32) (v_this_density : Int32) (v_this_pads : Int32) (v_this_hasThermal : Int32) (v_this_titleSize : Int32) (v_this_written : Int32) (v_this_at : Int32) (v_this_begin : Int32) (v_this_words : Int32) (v_this_paste0 : Int64) (v_names : Nat → Int64) (v_out : Nat → Int32) (v_told : Nat → Int32) (v_high : Nat → Int64) (v_title : Nat → Int32) : va_W := [(a_this, .inr (10, [.int v_this_thrown, .ref a_units, .int v_this_size, .int v_this_families, .ref a_kinds, .ref a_values, .ref a_names, .ref a_low, .ref a_high, .ref a_told, .ref a_leftOut, .ref a_isMade, .ref a_hands, .int v_this_atHand, .int v_this_family, .int v_this_density, .int v_this_pads, .ref a_pad, .ref a_court, .int v_this_hasThermal, .ref a_title, .int v_this_titleSize, .ref a_out, .int v_this_written, .int v_this_at, .int v_this_begin, .int v_this_words, .long v_this_paste0])), (a_names, .inl (k_names, 8, .inr (.inl v_names))), (a_out, .inl (k_out, 8000, .inl v_out)), (a_told, .inl (k_told, 12, .inl v_told)), (a_high, .inl (k_high, 12, .inr (.inl v_high))), (a_title, .inl (k_title, 60, .inl v_title))]
def P_M_findName_150  (post : Int32 → Int32 → (Nat → Int32) → (Nat → Int32) → Prop) : Nat → Int32 → Int32 → Int32 → (Nat → Int32) → (Nat → Int32) → Prop
  | 0, _, _, _, _, _ => False
  | n + 1, y5, u_this_titleSize, u_this_written, u_out, u_title => ((u_this_written ≤ y5 → post u_this_titleSize u_this_written u_out u_title) ∧ (¬ u_this_written ≤ y5 → vp_in y5 8000 ∧ ∀ x3 : Int32, x3 = u_out y5.toNatClampNeg → vp_in y5 60 ∧ ∀ x5 : Int32, x5 = y5 + 1 → P_M_findName_150 post n x5 u_this_titleSize u_this_written u_out (upd u_title y5.toNatClampNeg x3)))
set_option maxHeartbeats 4000000 in
set_option maxRecDepth 100000 in
theorem w_M_findName_150 (l : Launch) {p : Program} {e : Env} {s : State} {m : MethodId} {args : Array Value} {below : List Frame} {meth : Method} {c : Code} {dC : Nat → ClassId} {dI : Nat → Nat → Nat} {ad : Nat → Nat → Nat} {A : Nat → Prop} (C0 : zC p s m args meth c cM_findName 6 RM zT none A) (hE : zE ad A s) (a_this : Nat) (a_units : Nat) (a_kinds : Nat) (a_values : Nat) (a_names : Nat) (a_low : Nat) (a_high : Nat) (a_told : Nat) (a_leftOut : Nat) (a_isMade : Nat) (a_hands : Nat) (a_pad : Nat) (a_court : Nat) (a_title : Nat) (a_out : Nat) (k_names : ClassId) (k_out : ClassId) (k_told : ClassId) (k_high : ClassId) (k_title : ClassId) (v_this_thrown : Int32) (v_this_size : Int32) (v_this_families : Int32) (v_this_atHand : Int32) (v_this_family : Int32) (v_this_density : Int32) (v_this_pads : Int32) (v_this_hasThermal : Int32) (v_this_titleSize : Int32) (v_this_written : Int32) (v_this_at : Int32) (v_this_begin : Int32) (v_this_words : Int32) (v_this_paste0 : Int64) (v_names : Nat → Int64) (v_out : Nat → Int32) (v_told : Nat → Int32) (v_high : Nat → Int64) (v_title : Nat → Int32) (post : Int32 → Int32 → (Nat → Int32) → (Nat → Int32) → Prop) (hK : va_K (dC, dI) vwCl [(k_names, .long), (k_out, .int), (k_told, .boolean), (k_high, .long), (k_title, .int)] s) : ∀ (n : Nat), ∀ (y5 : Int32) (u_this_titleSize : Int32) (u_this_written : Int32) (u_out : Nat → Int32) (u_title : Nat → Int32) (H : Heap) (locs : List Loc), P_M_findName_150 post n y5 u_this_titleSize u_this_written u_out u_title → va_P (dC, dI) vwCl (w_M_findName ad a_this a_units a_kinds a_values a_names a_low a_high a_told a_leftOut a_isMade a_hands a_pad a_court a_title a_out k_names k_out k_told k_high k_title v_this_thrown v_this_size v_this_families v_this_atHand v_this_family v_this_density v_this_pads v_this_hasThermal u_this_titleSize u_this_written v_this_at v_this_begin v_this_words v_this_paste0 v_names u_out v_told v_high u_title) H → va_D A (w_M_findName ad a_this a_units a_kinds a_values a_names a_low a_high a_told a_leftOut a_isMade a_hands a_pad a_court a_title a_out k_names k_out k_told k_high k_title v_this_thrown v_this_size v_this_families v_this_atHand v_this_family v_this_density v_this_pads v_this_hasThermal u_this_titleSize u_this_written v_this_at v_this_begin v_this_words v_this_paste0 v_names u_out v_told v_high u_title) → va_S A s.heap H locs → ∀ ls : Array Slot, lv_has ls 6 [(0, .ref a_this), (5, .int y5)] → W p l e (headSpec wsM_findName { frames := 2, cells := 0, slots := 0, locals := 47 }).room s m args below meth c H locs 0 0 (MQ below (va_Qv (fun (u : Int32 × Int32 × (Nat → Int32) × (Nat → Int32)) => post u.1 u.2.1 u.2.2.1 u.2.2.2) (zB (dC, dI) A (fun (u : Int32 × Int32 × (Nat → Int32) × (Nat → Int32)) => (w_M_findName ad a_this a_units a_kinds a_values a_names a_low a_high a_told a_leftOut a_isMade a_hands a_pad a_court a_title a_out k_names k_out k_told k_high k_title v_this_thrown v_this_size v_this_families v_this_atHand v_this_family v_this_density v_this_pads v_this_hasThermal u.1 u.2.1 v_this_at v_this_begin v_this_words v_this_paste0 v_names u.2.2.1 v_told v_high u.2.2.2))) A) args s 0 0 A) (F0 m 150 ls []) := by
  obtain ⟨hx, hb, hr, hml, hown, hts, hlocks, hA⟩ := id C0
  intro n
  induction n with
  | zero =>
    intro y5 u_this_titleSize u_this_written u_out u_title H locs h
    exact False.elim h
  | succ n ih =>
    intro y5 u_this_titleSize u_this_written u_out u_title H locs h hP hD hS ls hl
    rw [P_M_findName_150] at h
    refine lv_iload hx hb dM_findName_150 (lv_at hl 1 rfl) ?_
    refine lv_aload_n hx hb dM_findName_152 rfl (lv_at hl 0 rfl) ?_
    refine va_get (D := (dC, dI)) (ci := 10) (v := .int u_this_written) (C := RM) (T := TM) (N := 28) hx hb hts inZ_M hown hK hP 0 rfl rfl 23 (by decide) (hts _ zw_1067) (fun _ h9 => h9) rfl dM_findName_153 ?_
    refine lv_icmp_ge (tgt := 179) hx hb dM_findName_156 (by decide) ?_ ?_
    · intro c1
      replace h := h.1 c1
      exact W.vret hx hb hr (fun t ht hW => ⟨⟨(u_this_titleSize, u_this_written, u_out, u_title), rfl, h, by rw [ht]; exact hP, hD⟩, hS.F ht⟩) hS.2.2 dM_findName_179
    · intro c1
      replace h := h.2 c1
      refine lv_aload_n hx hb dM_findName_159 rfl (lv_at hl 0 rfl) ?_
      refine va_get (D := (dC, dI)) (ci := 10) (v := .ref a_title) (C := RM) (T := TM) (N := 28) hx hb hts inZ_M hown hK hP 0 rfl rfl 20 (by decide) (hts _ zw_1064) (fun _ h9 => h9) rfl dM_findName_160 ?_
      refine lv_iload hx hb dM_findName_163 (lv_at hl 1 rfl) ?_
      refine lv_aload_n hx hb dM_findName_165 rfl (lv_at hl 0 rfl) ?_
      refine va_get (D := (dC, dI)) (ci := 10) (v := .ref a_out) (C := RM) (T := TM) (N := 28) hx hb hts inZ_M hown hK hP 0 rfl rfl 22 (by decide) (hts _ zw_1066) (fun _ h9 => h9) rfl dM_findName_166 ?_
      refine lv_iload hx hb dM_findName_169 (lv_at hl 1 rfl) ?_
      obtain ⟨hn2, h⟩ := h
      refine va_iald hx hb hK hP 2 1 rfl rfl hn2 dM_findName_171 ?_
      refine lv_topi (fun x3 ex3 => ?_)
      replace h := h x3 ex3
      obtain ⟨hn4, h⟩ := h
      refine va_iast hx hb hK hP hD hS 5 4 rfl rfl hn4 dM_findName_172 (fun H locs hP hD hS => ?_)
      have hP : va_P (dC, dI) vwCl (w_M_findName ad a_this a_units a_kinds a_values a_names a_low a_high a_told a_leftOut a_isMade a_hands a_pad a_court a_title a_out k_names k_out k_told k_high k_title v_this_thrown v_this_size v_this_families v_this_atHand v_this_family v_this_density v_this_pads v_this_hasThermal u_this_titleSize u_this_written v_this_at v_this_begin v_this_words v_this_paste0 v_names u_out v_told v_high (upd u_title y5.toNatClampNeg x3)) H := hP
      have hD : va_D A (w_M_findName ad a_this a_units a_kinds a_values a_names a_low a_high a_told a_leftOut a_isMade a_hands a_pad a_court a_title a_out k_names k_out k_told k_high k_title v_this_thrown v_this_size v_this_families v_this_atHand v_this_family v_this_density v_this_pads v_this_hasThermal u_this_titleSize u_this_written v_this_at v_this_begin v_this_words v_this_paste0 v_names u_out v_told v_high (upd u_title y5.toNatClampNeg x3)) := hD
      obtain ⟨x5, ex5⟩ : ∃ y : Int32, y = y5 + 1 := ⟨_, rfl⟩
      replace h := h x5 ex5
      refine lv_iinc (v := x5) (lv' := [(5, .int x5), (0, .ref a_this)]) hx hb dM_findName_173 hl (k := 1) rfl (by rw [ex5]; rfl) (by decide) rfl (fun ls hl => ?_)
      refine lv_goto (tgt := 150) hx hb dM_findName_176 (by decide) ?_
      exact ih x5 u_this_titleSize u_this_written u_out (upd u_title y5.toNatClampNeg x3) _ _ h hP hD hS ls (lv_sub hl [1, 0] rfl)
def P_M_findName_136 (v_title : Nat → Int32) (post : Int32 → Int32 → (Nat → Int32) → (Nat → Int32) → Prop) (t0 : Int32) (u_this_written : Int32) (u_out : Nat → Int32) : Prop := P_M_say t0 u_this_written u_out (fun (u1 : Int32) (u2 : Nat → Int32) => ∃ n3, P_M_findName_150 post n3 0 u1 u1 u2 v_title)
set_option maxHeartbeats 4000000 in
set_option maxRecDepth 100000 in
theorem w_M_findName_136 (l : Launch) {p : Program} {e : Env} {s : State} {m : MethodId} {args : Array Value} {below : List Frame} {meth : Method} {c : Code} {dC : Nat → ClassId} {dI : Nat → Nat → Nat} {ad : Nat → Nat → Nat} {A : Nat → Prop} (C0 : zC p s m args meth c cM_findName 6 RM zT none A) (hE : zE ad A s) (a_this : Nat) (a_units : Nat) (a_kinds : Nat) (a_values : Nat) (a_names : Nat) (a_low : Nat) (a_high : Nat) (a_told : Nat) (a_leftOut : Nat) (a_isMade : Nat) (a_hands : Nat) (a_pad : Nat) (a_court : Nat) (a_title : Nat) (a_out : Nat) (k_names : ClassId) (k_out : ClassId) (k_told : ClassId) (k_high : ClassId) (k_title : ClassId) (v_this_thrown : Int32) (v_this_size : Int32) (v_this_families : Int32) (v_this_atHand : Int32) (v_this_family : Int32) (v_this_density : Int32) (v_this_pads : Int32) (v_this_hasThermal : Int32) (v_this_titleSize : Int32) (v_this_written : Int32) (v_this_at : Int32) (v_this_begin : Int32) (v_this_words : Int32) (v_this_paste0 : Int64) (v_names : Nat → Int64) (v_out : Nat → Int32) (v_told : Nat → Int32) (v_high : Nat → Int64) (v_title : Nat → Int32) (post : Int32 → Int32 → (Nat → Int32) → (Nat → Int32) → Prop) (hK : va_K (dC, dI) vwCl [(k_names, .long), (k_out, .int), (k_told, .boolean), (k_high, .long), (k_title, .int)] s) : ∀ (t0 : Int32) (u_this_written : Int32) (u_out : Nat → Int32) (H : Heap) (locs : List Loc), P_M_findName_136 v_title post t0 u_this_written u_out → va_P (dC, dI) vwCl (w_M_findName ad a_this a_units a_kinds a_values a_names a_low a_high a_told a_leftOut a_isMade a_hands a_pad a_court a_title a_out k_names k_out k_told k_high k_title v_this_thrown v_this_size v_this_families v_this_atHand v_this_family v_this_density v_this_pads v_this_hasThermal v_this_titleSize u_this_written v_this_at v_this_begin v_this_words v_this_paste0 v_names u_out v_told v_high v_title) H → va_D A (w_M_findName ad a_this a_units a_kinds a_values a_names a_low a_high a_told a_leftOut a_isMade a_hands a_pad a_court a_title a_out k_names k_out k_told k_high k_title v_this_thrown v_this_size v_this_families v_this_atHand v_this_family v_this_density v_this_pads v_this_hasThermal v_this_titleSize u_this_written v_this_at v_this_begin v_this_words v_this_paste0 v_names u_out v_told v_high v_title) → va_S A s.heap H locs → ∀ ls : Array Slot, lv_has ls 6 [(0, .ref a_this)] → W p l e (headSpec wsM_findName { frames := 2, cells := 0, slots := 0, locals := 47 }).room s m args below meth c H locs 0 0 (MQ below (va_Qv (fun (u : Int32 × Int32 × (Nat → Int32) × (Nat → Int32)) => post u.1 u.2.1 u.2.2.1 u.2.2.2) (zB (dC, dI) A (fun (u : Int32 × Int32 × (Nat → Int32) × (Nat → Int32)) => (w_M_findName ad a_this a_units a_kinds a_values a_names a_low a_high a_told a_leftOut a_isMade a_hands a_pad a_court a_title a_out k_names k_out k_told k_high k_title v_this_thrown v_this_size v_this_families v_this_atHand v_this_family v_this_density v_this_pads v_this_hasThermal u.1 u.2.1 v_this_at v_this_begin v_this_words v_this_paste0 v_names u.2.2.1 v_told v_high u.2.2.2))) A) args s 0 0 A) (F0 m 136 ls [.int t0, .ref a_this]) := by
  obtain ⟨hx, hb, hr, hml, hown, hts, hlocks, hA⟩ := id C0
  intro t0 u_this_written u_out H locs h hP hD hS ls hl
  unfold P_M_findName_136 at h
  refine zcall_v hP hD hS hA [0, 2] [1, 3, 4, 5] (va_runV (As := [.int t0]) (rest := []) ⟨hx, hb, hml, hown, hts⟩ (c_M_say l dC dI ad a_this a_units a_kinds a_values a_names a_low a_high a_told a_leftOut a_isMade a_hands a_pad a_court a_title a_out k_out _ t0 v_this_thrown v_this_size v_this_families v_this_atHand v_this_family v_this_density v_this_pads v_this_hasThermal v_this_titleSize u_this_written v_this_at v_this_begin v_this_words v_this_paste0 u_out _ h) ⟨callB_of 1 hts (zgood zc_M_say) rfl rfl rfl (hts _ zw_107) (hts _ zw_1263) (by decide +kernel) ⟨Nat.le_of_ble_eq_true rfl, Nat.le_of_ble_eq_true rfl⟩, (hts _ zw_1265), (hts _ zw_86)⟩ (zpreV hE hK hP hD hS hA [0, 2] [1] (by rfl) (by rfl) (by decide) (ci := 10) (q0 := 0) rfl (by rfl)) rfl rfl hl.1 rfl (lv_room (Nat.le_of_ble_eq_true rfl)) dM_findName_136 ⟨Nat.le_of_ble_eq_true rfl, Nat.le_of_ble_eq_true rfl⟩) (by rfl) (by rfl) (by decide) (by decide) (fun u H locs h hP hD hS => ?_)
  obtain ⟨u1, u2⟩ := u
  try dsimp only at h
  have hP := hP.sub (ws' := (w_M_findName ad a_this a_units a_kinds a_values a_names a_low a_high a_told a_leftOut a_isMade a_hands a_pad a_court a_title a_out k_names k_out k_told k_high k_title v_this_thrown v_this_size v_this_families v_this_atHand v_this_family v_this_density v_this_pads v_this_hasThermal v_this_titleSize u1 v_this_at v_this_begin v_this_words v_this_paste0 v_names u2 v_told v_high v_title)) [4, 0, 5, 1, 2, 3] rfl
  have hD := hD.sub (ws' := (w_M_findName ad a_this a_units a_kinds a_values a_names a_low a_high a_told a_leftOut a_isMade a_hands a_pad a_court a_title a_out k_names k_out k_told k_high k_title v_this_thrown v_this_size v_this_families v_this_atHand v_this_family v_this_density v_this_pads v_this_hasThermal v_this_titleSize u1 v_this_at v_this_begin v_this_words v_this_paste0 v_names u2 v_told v_high v_title)) [4, 0, 5, 1, 2, 3] (by decide) rfl
  refine lv_aload_n hx hb dM_findName_139 rfl (lv_at hl 0 rfl) ?_
  refine lv_aload_n hx hb dM_findName_140 rfl (lv_at hl 0 rfl) ?_
  refine va_get (D := (dC, dI)) (ci := 10) (v := .int u1) (C := RM) (T := TM) (N := 28) hx hb hts inZ_M hown hK hP 0 rfl rfl 23 (by decide) (hts _ zw_1067) (fun _ h9 => h9) rfl dM_findName_141 ?_
  refine va_put (D := (dC, dI)) (ci := 10) (v := .int u1) (ty := .int) (C := RM) (T := TM) (N := 28) hx hb hts inZ_M tyM tyM_ok nmM hown hK hP hD hS 0 rfl rfl 21 (by decide) (hts _ zw_1065) (fun _ h9 => h9) rfl (by decide +kernel) rfl rfl (Nat.le_of_ble_eq_true rfl) dM_findName_144 (fun H locs hP hD hS => ?_)
  have hP : va_P (dC, dI) vwCl (w_M_findName ad a_this a_units a_kinds a_values a_names a_low a_high a_told a_leftOut a_isMade a_hands a_pad a_court a_title a_out k_names k_out k_told k_high k_title v_this_thrown v_this_size v_this_families v_this_atHand v_this_family v_this_density v_this_pads v_this_hasThermal u1 u1 v_this_at v_this_begin v_this_words v_this_paste0 v_names u2 v_told v_high v_title) H := hP
  have hD : va_D A (w_M_findName ad a_this a_units a_kinds a_values a_names a_low a_high a_told a_leftOut a_isMade a_hands a_pad a_court a_title a_out k_names k_out k_told k_high k_title v_this_thrown v_this_size v_this_families v_this_atHand v_this_family v_this_density v_this_pads v_this_hasThermal u1 u1 v_this_at v_this_begin v_this_words v_this_paste0 v_names u2 v_told v_high v_title) := hD
  refine lv_iconst (v := 0) hx hb dM_findName_147 (by decide) ?_
  refine lv_istore (lv' := [(5, .int 0), (0, .ref a_this)]) hx hb dM_findName_148 hl (by decide) rfl (fun ls hl => ?_)
  obtain ⟨n3, h⟩ := h
  exact w_M_findName_150 l C0 hE a_this a_units a_kinds a_values a_names a_low a_high a_told a_leftOut a_isMade a_hands a_pad a_court a_title a_out k_names k_out k_told k_high k_title v_this_thrown v_this_size v_this_families v_this_atHand v_this_family v_this_density v_this_pads v_this_hasThermal v_this_titleSize v_this_written v_this_at v_this_begin v_this_words v_this_paste0 v_names v_out v_told v_high v_title post hK n3 0 u1 u1 u2 v_title _ _ h hP hD hS ls (lv_sub hl [1, 0] rfl)
def P_M_findName_105 (v_this_density : Int32) (v_title : Nat → Int32) (post : Int32 → Int32 → (Nat → Int32) → (Nat → Int32) → Prop) (t0 : Int64) (u_this_written : Int32) (u_out : Nat → Int32) : Prop := P_M_sayNumber t0 u_this_written u_out (fun (u1 : Int32) (u2 : Nat → Int32) => ((¬ v_this_density = 0 → ((¬ v_this_density = 1 → P_M_findName_136 v_title post 77 u1 u2) ∧ (v_this_density = 1 → P_M_findName_136 v_title post 78 u1 u2))) ∧ (v_this_density = 0 → P_M_findName_136 v_title post 76 u1 u2)))
set_option maxHeartbeats 4000000 in
set_option maxRecDepth 100000 in
theorem w_M_findName_105 (l : Launch) {p : Program} {e : Env} {s : State} {m : MethodId} {args : Array Value} {below : List Frame} {meth : Method} {c : Code} {dC : Nat → ClassId} {dI : Nat → Nat → Nat} {ad : Nat → Nat → Nat} {A : Nat → Prop} (C0 : zC p s m args meth c cM_findName 6 RM zT none A) (hE : zE ad A s) (a_this : Nat) (a_units : Nat) (a_kinds : Nat) (a_values : Nat) (a_names : Nat) (a_low : Nat) (a_high : Nat) (a_told : Nat) (a_leftOut : Nat) (a_isMade : Nat) (a_hands : Nat) (a_pad : Nat) (a_court : Nat) (a_title : Nat) (a_out : Nat) (k_names : ClassId) (k_out : ClassId) (k_told : ClassId) (k_high : ClassId) (k_title : ClassId) (v_this_thrown : Int32) (v_this_size : Int32) (v_this_families : Int32) (v_this_atHand : Int32) (v_this_family : Int32) (v_this_density : Int32) (v_this_pads : Int32) (v_this_hasThermal : Int32) (v_this_titleSize : Int32) (v_this_written : Int32) (v_this_at : Int32) (v_this_begin : Int32) (v_this_words : Int32) (v_this_paste0 : Int64) (v_names : Nat → Int64) (v_out : Nat → Int32) (v_told : Nat → Int32) (v_high : Nat → Int64) (v_title : Nat → Int32) (post : Int32 → Int32 → (Nat → Int32) → (Nat → Int32) → Prop) (hK : va_K (dC, dI) vwCl [(k_names, .long), (k_out, .int), (k_told, .boolean), (k_high, .long), (k_title, .int)] s) : ∀ (t0 : Int64) (u_this_written : Int32) (u_out : Nat → Int32) (H : Heap) (locs : List Loc), P_M_findName_105 v_this_density v_title post t0 u_this_written u_out → va_P (dC, dI) vwCl (w_M_findName ad a_this a_units a_kinds a_values a_names a_low a_high a_told a_leftOut a_isMade a_hands a_pad a_court a_title a_out k_names k_out k_told k_high k_title v_this_thrown v_this_size v_this_families v_this_atHand v_this_family v_this_density v_this_pads v_this_hasThermal v_this_titleSize u_this_written v_this_at v_this_begin v_this_words v_this_paste0 v_names u_out v_told v_high v_title) H → va_D A (w_M_findName ad a_this a_units a_kinds a_values a_names a_low a_high a_told a_leftOut a_isMade a_hands a_pad a_court a_title a_out k_names k_out k_told k_high k_title v_this_thrown v_this_size v_this_families v_this_atHand v_this_family v_this_density v_this_pads v_this_hasThermal v_this_titleSize u_this_written v_this_at v_this_begin v_this_words v_this_paste0 v_names u_out v_told v_high v_title) → va_S A s.heap H locs → ∀ ls : Array Slot, lv_has ls 6 [(0, .ref a_this)] → W p l e (headSpec wsM_findName { frames := 2, cells := 0, slots := 0, locals := 47 }).room s m args below meth c H locs 0 0 (MQ below (va_Qv (fun (u : Int32 × Int32 × (Nat → Int32) × (Nat → Int32)) => post u.1 u.2.1 u.2.2.1 u.2.2.2) (zB (dC, dI) A (fun (u : Int32 × Int32 × (Nat → Int32) × (Nat → Int32)) => (w_M_findName ad a_this a_units a_kinds a_values a_names a_low a_high a_told a_leftOut a_isMade a_hands a_pad a_court a_title a_out k_names k_out k_told k_high k_title v_this_thrown v_this_size v_this_families v_this_atHand v_this_family v_this_density v_this_pads v_this_hasThermal u.1 u.2.1 v_this_at v_this_begin v_this_words v_this_paste0 v_names u.2.2.1 v_told v_high u.2.2.2))) A) args s 0 0 A) (F0 m 105 ls [.long t0, .ref a_this]) := by
  obtain ⟨hx, hb, hr, hml, hown, hts, hlocks, hA⟩ := id C0
  intro t0 u_this_written u_out H locs h hP hD hS ls hl
  unfold P_M_findName_105 at h
  refine zcall_v hP hD hS hA [0, 2] [1, 3, 4, 5] (va_runV (As := [.long t0]) (rest := []) ⟨hx, hb, hml, hown, hts⟩ (c_M_sayNumber l dC dI ad a_this a_units a_kinds a_values a_names a_low a_high a_told a_leftOut a_isMade a_hands a_pad a_court a_title a_out k_out _ t0 v_this_thrown v_this_size v_this_families v_this_atHand v_this_family v_this_density v_this_pads v_this_hasThermal v_this_titleSize u_this_written v_this_at v_this_begin v_this_words v_this_paste0 u_out _ h) ⟨callB_of 1 hts (zgood zc_M_sayNumber) rfl rfl rfl (hts _ zw_107) (hts _ zw_1267) (by decide +kernel) ⟨Nat.le_of_ble_eq_true rfl, Nat.le_of_ble_eq_true rfl⟩, (hts _ zw_1269), (hts _ zw_87)⟩ (zpreV hE hK hP hD hS hA [0, 2] [1] (by rfl) (by rfl) (by decide) (ci := 10) (q0 := 0) rfl (by rfl)) rfl rfl hl.1 rfl (lv_room (Nat.le_of_ble_eq_true rfl)) dM_findName_105 ⟨Nat.le_of_ble_eq_true rfl, Nat.le_of_ble_eq_true rfl⟩) (by rfl) (by rfl) (by decide) (by decide) (fun u H locs h hP hD hS => ?_)
  obtain ⟨u1, u2⟩ := u
  try dsimp only at h
  have hP := hP.sub (ws' := (w_M_findName ad a_this a_units a_kinds a_values a_names a_low a_high a_told a_leftOut a_isMade a_hands a_pad a_court a_title a_out k_names k_out k_told k_high k_title v_this_thrown v_this_size v_this_families v_this_atHand v_this_family v_this_density v_this_pads v_this_hasThermal v_this_titleSize u1 v_this_at v_this_begin v_this_words v_this_paste0 v_names u2 v_told v_high v_title)) [4, 0, 5, 1, 2, 3] rfl
  have hD := hD.sub (ws' := (w_M_findName ad a_this a_units a_kinds a_values a_names a_low a_high a_told a_leftOut a_isMade a_hands a_pad a_court a_title a_out k_names k_out k_told k_high k_title v_this_thrown v_this_size v_this_families v_this_atHand v_this_family v_this_density v_this_pads v_this_hasThermal v_this_titleSize u1 v_this_at v_this_begin v_this_words v_this_paste0 v_names u2 v_told v_high v_title)) [4, 0, 5, 1, 2, 3] (by decide) rfl
  refine lv_aload_n hx hb dM_findName_108 rfl (lv_at hl 0 rfl) ?_
  refine lv_aload_n hx hb dM_findName_109 rfl (lv_at hl 0 rfl) ?_
  refine va_get (D := (dC, dI)) (ci := 10) (v := .int v_this_density) (C := RM) (T := TM) (N := 28) hx hb hts inZ_M hown hK hP 0 rfl rfl 15 (by decide) (hts _ zw_1059) (fun _ h9 => h9) rfl dM_findName_110 ?_
  refine lv_if_ne (tgt := 121) hx hb dM_findName_113 (by decide) ?_ ?_
  · intro c3
    replace h := h.1 c3
    refine lv_aload_n hx hb dM_findName_121 rfl (lv_at hl 0 rfl) ?_
    refine va_get (D := (dC, dI)) (ci := 10) (v := .int v_this_density) (C := RM) (T := TM) (N := 28) hx hb hts inZ_M hown hK hP 0 rfl rfl 15 (by decide) (hts _ zw_1059) (fun _ h9 => h9) rfl dM_findName_122 ?_
    refine lv_iconst (v := 1) hx hb dM_findName_125 (by decide) ?_
    refine lv_icmp_ne (tgt := 134) hx hb dM_findName_126 (by decide) ?_ ?_
    · intro c4
      replace h := h.1 c4
      refine lv_bipush (v := 77) hx hb dM_findName_134 (by decide) ?_
      exact w_M_findName_136 l C0 hE a_this a_units a_kinds a_values a_names a_low a_high a_told a_leftOut a_isMade a_hands a_pad a_court a_title a_out k_names k_out k_told k_high k_title v_this_thrown v_this_size v_this_families v_this_atHand v_this_family v_this_density v_this_pads v_this_hasThermal v_this_titleSize v_this_written v_this_at v_this_begin v_this_words v_this_paste0 v_names v_out v_told v_high v_title post hK 77 u1 u2 _ _ h hP hD hS ls (lv_sub hl [0] rfl)
    · intro c4
      replace h := h.2 c4
      refine lv_bipush (v := 78) hx hb dM_findName_129 (by decide) ?_
      refine lv_goto (tgt := 136) hx hb dM_findName_131 (by decide) ?_
      exact w_M_findName_136 l C0 hE a_this a_units a_kinds a_values a_names a_low a_high a_told a_leftOut a_isMade a_hands a_pad a_court a_title a_out k_names k_out k_told k_high k_title v_this_thrown v_this_size v_this_families v_this_atHand v_this_family v_this_density v_this_pads v_this_hasThermal v_this_titleSize v_this_written v_this_at v_this_begin v_this_words v_this_paste0 v_names v_out v_told v_high v_title post hK 78 u1 u2 _ _ h hP hD hS ls (lv_sub hl [0] rfl)
  · intro c3
    replace h := h.2 c3
    refine lv_bipush (v := 76) hx hb dM_findName_116 (by decide) ?_
    refine lv_goto (tgt := 136) hx hb dM_findName_118 (by decide) ?_
    exact w_M_findName_136 l C0 hE a_this a_units a_kinds a_values a_names a_low a_high a_told a_leftOut a_isMade a_hands a_pad a_court a_title a_out k_names k_out k_told k_high k_title v_this_thrown v_this_size v_this_families v_this_atHand v_this_family v_this_density v_this_pads v_this_hasThermal v_this_titleSize v_this_written v_this_at v_this_begin v_this_words v_this_paste0 v_names v_out v_told v_high v_title post hK 76 u1 u2 _ _ h hP hD hS ls (lv_sub hl [0] rfl)
def P_M_findName_36 (v_this_density : Int32) (v_this_pads : Int32) (v_told : Nat → Int32) (v_high : Nat → Int64) (v_title : Nat → Int32) (post : Int32 → Int32 → (Nat → Int32) → (Nat → Int32) → Prop) : Nat → Int64 → Int64 → Int32 → (Nat → Int32) → Prop
  | 0, _, _, _, _ => False
  | n + 1, y1, y3, u_this_written, u_out => ((y3 ≤ 0 → P_M_sayNumber v_this_pads.toInt64 u_this_written u_out (fun (u2 : Int32) (u3 : Nat → Int32) => P_M_say 88 u2 u3 (fun (u4 : Int32) (u5 : Nat → Int32) => vp_in 0 12 ∧ (((v_told (0 : Int32).toNatClampNeg) = 0 → P_M_findName_105 v_this_density v_title post 0 u4 u5) ∧ (¬ (v_told (0 : Int32).toNatClampNeg) = 0 → vp_in 0 12 ∧ P_M_findName_105 v_this_density v_title post ((v_high (0 : Int32).toNatClampNeg) / 1000) u4 u5))))) ∧ (¬ y3 ≤ 0 → ¬ y3 = 0 ∧ P_M_say ((((y1 / y3) - (y1 / y3) / 27 * 27).toInt32) + 64) u_this_written u_out (fun (u10 : Int32) (u11 : Nat → Int32) => ∀ x12 : Int64, x12 = y3 / 27 → P_M_findName_36 v_this_density v_this_pads v_told v_high v_title post n y1 x12 u10 u11)))
set_option maxHeartbeats 4000000 in
set_option maxRecDepth 100000 in
theorem w_M_findName_36 (l : Launch) {p : Program} {e : Env} {s : State} {m : MethodId} {args : Array Value} {below : List Frame} {meth : Method} {c : Code} {dC : Nat → ClassId} {dI : Nat → Nat → Nat} {ad : Nat → Nat → Nat} {A : Nat → Prop} (C0 : zC p s m args meth c cM_findName 6 RM zT none A) (hE : zE ad A s) (a_this : Nat) (a_units : Nat) (a_kinds : Nat) (a_values : Nat) (a_names : Nat) (a_low : Nat) (a_high : Nat) (a_told : Nat) (a_leftOut : Nat) (a_isMade : Nat) (a_hands : Nat) (a_pad : Nat) (a_court : Nat) (a_title : Nat) (a_out : Nat) (k_names : ClassId) (k_out : ClassId) (k_told : ClassId) (k_high : ClassId) (k_title : ClassId) (v_this_thrown : Int32) (v_this_size : Int32) (v_this_families : Int32) (v_this_atHand : Int32) (v_this_family : Int32) (v_this_density : Int32) (v_this_pads : Int32) (v_this_hasThermal : Int32) (v_this_titleSize : Int32) (v_this_written : Int32) (v_this_at : Int32) (v_this_begin : Int32) (v_this_words : Int32) (v_this_paste0 : Int64) (v_names : Nat → Int64) (v_out : Nat → Int32) (v_told : Nat → Int32) (v_high : Nat → Int64) (v_title : Nat → Int32) (post : Int32 → Int32 → (Nat → Int32) → (Nat → Int32) → Prop) (hK : va_K (dC, dI) vwCl [(k_names, .long), (k_out, .int), (k_told, .boolean), (k_high, .long), (k_title, .int)] s) : ∀ (n : Nat), ∀ (y1 : Int64) (y3 : Int64) (u_this_written : Int32) (u_out : Nat → Int32) (H : Heap) (locs : List Loc), P_M_findName_36 v_this_density v_this_pads v_told v_high v_title post n y1 y3 u_this_written u_out → va_P (dC, dI) vwCl (w_M_findName ad a_this a_units a_kinds a_values a_names a_low a_high a_told a_leftOut a_isMade a_hands a_pad a_court a_title a_out k_names k_out k_told k_high k_title v_this_thrown v_this_size v_this_families v_this_atHand v_this_family v_this_density v_this_pads v_this_hasThermal v_this_titleSize u_this_written v_this_at v_this_begin v_this_words v_this_paste0 v_names u_out v_told v_high v_title) H → va_D A (w_M_findName ad a_this a_units a_kinds a_values a_names a_low a_high a_told a_leftOut a_isMade a_hands a_pad a_court a_title a_out k_names k_out k_told k_high k_title v_this_thrown v_this_size v_this_families v_this_atHand v_this_family v_this_density v_this_pads v_this_hasThermal v_this_titleSize u_this_written v_this_at v_this_begin v_this_words v_this_paste0 v_names u_out v_told v_high v_title) → va_S A s.heap H locs → ∀ ls : Array Slot, lv_has ls 6 [(0, .ref a_this), (1, .long y1), (3, .long y3)] → W p l e (headSpec wsM_findName { frames := 2, cells := 0, slots := 0, locals := 47 }).room s m args below meth c H locs 0 0 (MQ below (va_Qv (fun (u : Int32 × Int32 × (Nat → Int32) × (Nat → Int32)) => post u.1 u.2.1 u.2.2.1 u.2.2.2) (zB (dC, dI) A (fun (u : Int32 × Int32 × (Nat → Int32) × (Nat → Int32)) => (w_M_findName ad a_this a_units a_kinds a_values a_names a_low a_high a_told a_leftOut a_isMade a_hands a_pad a_court a_title a_out k_names k_out k_told k_high k_title v_this_thrown v_this_size v_this_families v_this_atHand v_this_family v_this_density v_this_pads v_this_hasThermal u.1 u.2.1 v_this_at v_this_begin v_this_words v_this_paste0 v_names u.2.2.1 v_told v_high u.2.2.2))) A) args s 0 0 A) (F0 m 36 ls []) := by
  obtain ⟨hx, hb, hr, hml, hown, hts, hlocks, hA⟩ := id C0
  intro n
  induction n with
  | zero =>
    intro y1 y3 u_this_written u_out H locs h
    exact False.elim h
  | succ n ih =>
    intro y1 y3 u_this_written u_out H locs h hP hD hS ls hl
    rw [P_M_findName_36] at h
    refine lv_lload_n hx hb dM_findName_36 rfl (lv_at hl 2 rfl) ?_
    refine lv_lconst (v := 0) hx hb dM_findName_37 (by decide) ?_
    refine zz_lcmp_le (tgt := 66) hx hb dM_findName_38 dM_findName_39 (by decide) ?_ ?_
    · intro c1
      replace h := h.1 c1
      refine lv_aload_n hx hb dM_findName_66 rfl (lv_at hl 0 rfl) ?_
      refine lv_aload_n hx hb dM_findName_67 rfl (lv_at hl 0 rfl) ?_
      refine va_get (D := (dC, dI)) (ci := 10) (v := .int v_this_pads) (C := RM) (T := TM) (N := 28) hx hb hts inZ_M hown hK hP 0 rfl rfl 16 (by decide) (hts _ zw_1060) (fun _ h9 => h9) rfl dM_findName_68 ?_
      refine lv_i2l hx hb dM_findName_71 rfl ?_
      refine zcall_v hP hD hS hA [0, 2] [1, 3, 4, 5] (va_runV (As := [.long v_this_pads.toInt64]) (rest := []) ⟨hx, hb, hml, hown, hts⟩ (c_M_sayNumber l dC dI ad a_this a_units a_kinds a_values a_names a_low a_high a_told a_leftOut a_isMade a_hands a_pad a_court a_title a_out k_out _ v_this_pads.toInt64 v_this_thrown v_this_size v_this_families v_this_atHand v_this_family v_this_density v_this_pads v_this_hasThermal v_this_titleSize u_this_written v_this_at v_this_begin v_this_words v_this_paste0 u_out _ h) ⟨callB_of 1 hts (zgood zc_M_sayNumber) rfl rfl rfl (hts _ zw_107) (hts _ zw_1267) (by decide +kernel) ⟨Nat.le_of_ble_eq_true rfl, Nat.le_of_ble_eq_true rfl⟩, (hts _ zw_1269), (hts _ zw_87)⟩ (zpreV hE hK hP hD hS hA [0, 2] [1] (by rfl) (by rfl) (by decide) (ci := 10) (q0 := 0) rfl (by rfl)) rfl rfl hl.1 rfl (lv_room (Nat.le_of_ble_eq_true rfl)) dM_findName_72 ⟨Nat.le_of_ble_eq_true rfl, Nat.le_of_ble_eq_true rfl⟩) (by rfl) (by rfl) (by decide) (by decide) (fun u H locs h hP hD hS => ?_)
      obtain ⟨u2, u3⟩ := u
      try dsimp only at h
      have hP := hP.sub (ws' := (w_M_findName ad a_this a_units a_kinds a_values a_names a_low a_high a_told a_leftOut a_isMade a_hands a_pad a_court a_title a_out k_names k_out k_told k_high k_title v_this_thrown v_this_size v_this_families v_this_atHand v_this_family v_this_density v_this_pads v_this_hasThermal v_this_titleSize u2 v_this_at v_this_begin v_this_words v_this_paste0 v_names u3 v_told v_high v_title)) [4, 0, 5, 1, 2, 3] rfl
      have hD := hD.sub (ws' := (w_M_findName ad a_this a_units a_kinds a_values a_names a_low a_high a_told a_leftOut a_isMade a_hands a_pad a_court a_title a_out k_names k_out k_told k_high k_title v_this_thrown v_this_size v_this_families v_this_atHand v_this_family v_this_density v_this_pads v_this_hasThermal v_this_titleSize u2 v_this_at v_this_begin v_this_words v_this_paste0 v_names u3 v_told v_high v_title)) [4, 0, 5, 1, 2, 3] (by decide) rfl
      refine lv_aload_n hx hb dM_findName_75 rfl (lv_at hl 0 rfl) ?_
      refine lv_bipush (v := 88) hx hb dM_findName_76 (by decide) ?_
      refine zcall_v hP hD hS hA [0, 2] [1, 3, 4, 5] (va_runV (As := [.int 88]) (rest := []) ⟨hx, hb, hml, hown, hts⟩ (c_M_say l dC dI ad a_this a_units a_kinds a_values a_names a_low a_high a_told a_leftOut a_isMade a_hands a_pad a_court a_title a_out k_out _ 88 v_this_thrown v_this_size v_this_families v_this_atHand v_this_family v_this_density v_this_pads v_this_hasThermal v_this_titleSize u2 v_this_at v_this_begin v_this_words v_this_paste0 u3 _ h) ⟨callB_of 1 hts (zgood zc_M_say) rfl rfl rfl (hts _ zw_107) (hts _ zw_1263) (by decide +kernel) ⟨Nat.le_of_ble_eq_true rfl, Nat.le_of_ble_eq_true rfl⟩, (hts _ zw_1265), (hts _ zw_86)⟩ (zpreV hE hK hP hD hS hA [0, 2] [1] (by rfl) (by rfl) (by decide) (ci := 10) (q0 := 0) rfl (by rfl)) rfl rfl hl.1 rfl (lv_room (Nat.le_of_ble_eq_true rfl)) dM_findName_78 ⟨Nat.le_of_ble_eq_true rfl, Nat.le_of_ble_eq_true rfl⟩) (by rfl) (by rfl) (by decide) (by decide) (fun u H locs h hP hD hS => ?_)
      obtain ⟨u4, u5⟩ := u
      try dsimp only at h
      have hP := hP.sub (ws' := (w_M_findName ad a_this a_units a_kinds a_values a_names a_low a_high a_told a_leftOut a_isMade a_hands a_pad a_court a_title a_out k_names k_out k_told k_high k_title v_this_thrown v_this_size v_this_families v_this_atHand v_this_family v_this_density v_this_pads v_this_hasThermal v_this_titleSize u4 v_this_at v_this_begin v_this_words v_this_paste0 v_names u5 v_told v_high v_title)) [4, 0, 5, 1, 2, 3] rfl
      have hD := hD.sub (ws' := (w_M_findName ad a_this a_units a_kinds a_values a_names a_low a_high a_told a_leftOut a_isMade a_hands a_pad a_court a_title a_out k_names k_out k_told k_high k_title v_this_thrown v_this_size v_this_families v_this_atHand v_this_family v_this_density v_this_pads v_this_hasThermal v_this_titleSize u4 v_this_at v_this_begin v_this_words v_this_paste0 v_names u5 v_told v_high v_title)) [4, 0, 5, 1, 2, 3] (by decide) rfl
      refine lv_aload_n hx hb dM_findName_81 rfl (lv_at hl 0 rfl) ?_
      refine lv_aload_n hx hb dM_findName_82 rfl (lv_at hl 0 rfl) ?_
      refine va_get (D := (dC, dI)) (ci := 10) (v := .ref a_told) (C := RM) (T := TM) (N := 28) hx hb hts inZ_M hown hK hP 0 rfl rfl 9 (by decide) (hts _ zw_1053) (fun _ h9 => h9) rfl dM_findName_83 ?_
      refine lv_iconst (v := 0) hx hb dM_findName_86 (by decide) ?_
      obtain ⟨hn6, h⟩ := h
      refine va_zald hx hb hK hP 3 2 rfl rfl hn6 dM_findName_87 ?_
      refine lv_if_eq (tgt := 104) hx hb dM_findName_88 (by decide) ?_ ?_
      · intro c7
        replace h := h.1 c7
        refine lv_lconst (v := 0) hx hb dM_findName_104 (by decide) ?_
        exact w_M_findName_105 l C0 hE a_this a_units a_kinds a_values a_names a_low a_high a_told a_leftOut a_isMade a_hands a_pad a_court a_title a_out k_names k_out k_told k_high k_title v_this_thrown v_this_size v_this_families v_this_atHand v_this_family v_this_density v_this_pads v_this_hasThermal v_this_titleSize v_this_written v_this_at v_this_begin v_this_words v_this_paste0 v_names v_out v_told v_high v_title post hK 0 u4 u5 _ _ h hP hD hS ls (lv_sub hl [0] rfl)
      · intro c7
        replace h := h.2 c7
        refine lv_aload_n hx hb dM_findName_91 rfl (lv_at hl 0 rfl) ?_
        refine va_get (D := (dC, dI)) (ci := 10) (v := .ref a_high) (C := RM) (T := TM) (N := 28) hx hb hts inZ_M hown hK hP 0 rfl rfl 8 (by decide) (hts _ zw_1052) (fun _ h9 => h9) rfl dM_findName_92 ?_
        refine lv_iconst (v := 0) hx hb dM_findName_95 (by decide) ?_
        obtain ⟨hn8, h⟩ := h
        refine va_lald hx hb hK hP 4 3 rfl rfl hn8 dM_findName_96 ?_
        refine lv_ldc2 (own := RM) (index := 219) (v := 1000) hx hb hown (hts _ zw_1271) dM_findName_97 ?_
        refine lv_ldiv hx hb dM_findName_100 (by decide) ?_
        refine lv_goto (tgt := 105) hx hb dM_findName_101 (by decide) ?_
        exact w_M_findName_105 l C0 hE a_this a_units a_kinds a_values a_names a_low a_high a_told a_leftOut a_isMade a_hands a_pad a_court a_title a_out k_names k_out k_told k_high k_title v_this_thrown v_this_size v_this_families v_this_atHand v_this_family v_this_density v_this_pads v_this_hasThermal v_this_titleSize v_this_written v_this_at v_this_begin v_this_words v_this_paste0 v_names v_out v_told v_high v_title post hK ((v_high (0 : Int32).toNatClampNeg) / 1000) u4 u5 _ _ h hP hD hS ls (lv_sub hl [0] rfl)
    · intro c1
      replace h := h.2 c1
      refine lv_aload_n hx hb dM_findName_42 rfl (lv_at hl 0 rfl) ?_
      refine lv_lload_n hx hb dM_findName_43 rfl (lv_at hl 1 rfl) ?_
      refine lv_lload_n hx hb dM_findName_44 rfl (lv_at hl 2 rfl) ?_
      obtain ⟨hn9, h⟩ := h
      refine lv_ldiv hx hb dM_findName_45 hn9 ?_
      refine lv_ldc2 (own := RM) (index := 76) (v := 27) hx hb hown (hts _ zw_1154) dM_findName_46 ?_
      refine lv_lrem hx hb dM_findName_49 (by decide) ?_
      refine lv_l2i hx hb dM_findName_50 rfl ?_
      refine lv_bipush (v := 64) hx hb dM_findName_51 (by decide) ?_
      refine lv_iadd hx hb dM_findName_53 ?_
      refine zcall_v hP hD hS hA [0, 2] [1, 3, 4, 5] (va_runV (As := [.int ((((y1 / y3) - (y1 / y3) / 27 * 27).toInt32) + 64)]) (rest := []) ⟨hx, hb, hml, hown, hts⟩ (c_M_say l dC dI ad a_this a_units a_kinds a_values a_names a_low a_high a_told a_leftOut a_isMade a_hands a_pad a_court a_title a_out k_out _ ((((y1 / y3) - (y1 / y3) / 27 * 27).toInt32) + 64) v_this_thrown v_this_size v_this_families v_this_atHand v_this_family v_this_density v_this_pads v_this_hasThermal v_this_titleSize u_this_written v_this_at v_this_begin v_this_words v_this_paste0 u_out _ h) ⟨callB_of 1 hts (zgood zc_M_say) rfl rfl rfl (hts _ zw_107) (hts _ zw_1263) (by decide +kernel) ⟨Nat.le_of_ble_eq_true rfl, Nat.le_of_ble_eq_true rfl⟩, (hts _ zw_1265), (hts _ zw_86)⟩ (zpreV hE hK hP hD hS hA [0, 2] [1] (by rfl) (by rfl) (by decide) (ci := 10) (q0 := 0) rfl (by rfl)) rfl rfl hl.1 rfl (lv_room (Nat.le_of_ble_eq_true rfl)) dM_findName_54 ⟨Nat.le_of_ble_eq_true rfl, Nat.le_of_ble_eq_true rfl⟩) (by rfl) (by rfl) (by decide) (by decide) (fun u H locs h hP hD hS => ?_)
      obtain ⟨u10, u11⟩ := u
      try dsimp only at h
      have hP := hP.sub (ws' := (w_M_findName ad a_this a_units a_kinds a_values a_names a_low a_high a_told a_leftOut a_isMade a_hands a_pad a_court a_title a_out k_names k_out k_told k_high k_title v_this_thrown v_this_size v_this_families v_this_atHand v_this_family v_this_density v_this_pads v_this_hasThermal v_this_titleSize u10 v_this_at v_this_begin v_this_words v_this_paste0 v_names u11 v_told v_high v_title)) [4, 0, 5, 1, 2, 3] rfl
      have hD := hD.sub (ws' := (w_M_findName ad a_this a_units a_kinds a_values a_names a_low a_high a_told a_leftOut a_isMade a_hands a_pad a_court a_title a_out k_names k_out k_told k_high k_title v_this_thrown v_this_size v_this_families v_this_atHand v_this_family v_this_density v_this_pads v_this_hasThermal v_this_titleSize u10 v_this_at v_this_begin v_this_words v_this_paste0 v_names u11 v_told v_high v_title)) [4, 0, 5, 1, 2, 3] (by decide) rfl
      refine lv_lload_n hx hb dM_findName_57 rfl (lv_at hl 2 rfl) ?_
      refine lv_ldc2 (own := RM) (index := 76) (v := 27) hx hb hown (hts _ zw_1154) dM_findName_58 ?_
      refine lv_ldiv hx hb dM_findName_61 (by decide) ?_
      refine lv_topl (fun x12 ex12 => ?_)
      replace h := h x12 ex12
      refine lv_lstore_n (lv' := [(3, .long x12), (0, .ref a_this), (1, .long y1)]) hx hb dM_findName_62 rfl hl (by decide) rfl (fun ls hl => ?_)
      refine lv_goto (tgt := 36) hx hb dM_findName_63 (by decide) ?_
      exact ih y1 x12 u10 u11 _ _ h hP hD hS ls (lv_sub hl [1, 2, 0] rfl)
def P_M_findName_17 (v_this_density : Int32) (v_this_pads : Int32) (v_out : Nat → Int32) (v_told : Nat → Int32) (v_high : Nat → Int64) (v_title : Nat → Int32) (post : Int32 → Int32 → (Nat → Int32) → (Nat → Int32) → Prop) : Nat → Int64 → Int64 → Int32 → Prop
  | 0, _, _, _ => False
  | n + 1, y1, y3, u_this_written => ¬ y3 = 0 ∧ (((y1 / y3) < 27 → ∃ n3, P_M_findName_36 v_this_density v_this_pads v_told v_high v_title post n3 y1 y3 u_this_written v_out) ∧ (¬ (y1 / y3) < 27 → ∀ x4 : Int64, x4 = 27 * y3 → P_M_findName_17 v_this_density v_this_pads v_out v_told v_high v_title post n y1 x4 u_this_written))
set_option maxHeartbeats 4000000 in
set_option maxRecDepth 100000 in
theorem w_M_findName_17 (l : Launch) {p : Program} {e : Env} {s : State} {m : MethodId} {args : Array Value} {below : List Frame} {meth : Method} {c : Code} {dC : Nat → ClassId} {dI : Nat → Nat → Nat} {ad : Nat → Nat → Nat} {A : Nat → Prop} (C0 : zC p s m args meth c cM_findName 6 RM zT none A) (hE : zE ad A s) (a_this : Nat) (a_units : Nat) (a_kinds : Nat) (a_values : Nat) (a_names : Nat) (a_low : Nat) (a_high : Nat) (a_told : Nat) (a_leftOut : Nat) (a_isMade : Nat) (a_hands : Nat) (a_pad : Nat) (a_court : Nat) (a_title : Nat) (a_out : Nat) (k_names : ClassId) (k_out : ClassId) (k_told : ClassId) (k_high : ClassId) (k_title : ClassId) (v_this_thrown : Int32) (v_this_size : Int32) (v_this_families : Int32) (v_this_atHand : Int32) (v_this_family : Int32) (v_this_density : Int32) (v_this_pads : Int32) (v_this_hasThermal : Int32) (v_this_titleSize : Int32) (v_this_written : Int32) (v_this_at : Int32) (v_this_begin : Int32) (v_this_words : Int32) (v_this_paste0 : Int64) (v_names : Nat → Int64) (v_out : Nat → Int32) (v_told : Nat → Int32) (v_high : Nat → Int64) (v_title : Nat → Int32) (post : Int32 → Int32 → (Nat → Int32) → (Nat → Int32) → Prop) (hK : va_K (dC, dI) vwCl [(k_names, .long), (k_out, .int), (k_told, .boolean), (k_high, .long), (k_title, .int)] s) : ∀ (n : Nat), ∀ (y1 : Int64) (y3 : Int64) (u_this_written : Int32) (H : Heap) (locs : List Loc), P_M_findName_17 v_this_density v_this_pads v_out v_told v_high v_title post n y1 y3 u_this_written → va_P (dC, dI) vwCl (w_M_findName ad a_this a_units a_kinds a_values a_names a_low a_high a_told a_leftOut a_isMade a_hands a_pad a_court a_title a_out k_names k_out k_told k_high k_title v_this_thrown v_this_size v_this_families v_this_atHand v_this_family v_this_density v_this_pads v_this_hasThermal v_this_titleSize u_this_written v_this_at v_this_begin v_this_words v_this_paste0 v_names v_out v_told v_high v_title) H → va_D A (w_M_findName ad a_this a_units a_kinds a_values a_names a_low a_high a_told a_leftOut a_isMade a_hands a_pad a_court a_title a_out k_names k_out k_told k_high k_title v_this_thrown v_this_size v_this_families v_this_atHand v_this_family v_this_density v_this_pads v_this_hasThermal v_this_titleSize u_this_written v_this_at v_this_begin v_this_words v_this_paste0 v_names v_out v_told v_high v_title) → va_S A s.heap H locs → ∀ ls : Array Slot, lv_has ls 6 [(0, .ref a_this), (1, .long y1), (3, .long y3)] → W p l e (headSpec wsM_findName { frames := 2, cells := 0, slots := 0, locals := 47 }).room s m args below meth c H locs 0 0 (MQ below (va_Qv (fun (u : Int32 × Int32 × (Nat → Int32) × (Nat → Int32)) => post u.1 u.2.1 u.2.2.1 u.2.2.2) (zB (dC, dI) A (fun (u : Int32 × Int32 × (Nat → Int32) × (Nat → Int32)) => (w_M_findName ad a_this a_units a_kinds a_values a_names a_low a_high a_told a_leftOut a_isMade a_hands a_pad a_court a_title a_out k_names k_out k_told k_high k_title v_this_thrown v_this_size v_this_families v_this_atHand v_this_family v_this_density v_this_pads v_this_hasThermal u.1 u.2.1 v_this_at v_this_begin v_this_words v_this_paste0 v_names u.2.2.1 v_told v_high u.2.2.2))) A) args s 0 0 A) (F0 m 17 ls []) := by
  obtain ⟨hx, hb, hr, hml, hown, hts, hlocks, hA⟩ := id C0
  intro n
  induction n with
  | zero =>
    intro y1 y3 u_this_written H locs h
    exact False.elim h
  | succ n ih =>
    intro y1 y3 u_this_written H locs h hP hD hS ls hl
    rw [P_M_findName_17] at h
    refine lv_lload_n hx hb dM_findName_17 rfl (lv_at hl 1 rfl) ?_
    refine lv_lload_n hx hb dM_findName_18 rfl (lv_at hl 2 rfl) ?_
    obtain ⟨hn1, h⟩ := h
    refine lv_ldiv hx hb dM_findName_19 hn1 ?_
    refine lv_ldc2 (own := RM) (index := 76) (v := 27) hx hb hown (hts _ zw_1154) dM_findName_20 ?_
    refine zz_lcmp_lt (tgt := 36) hx hb dM_findName_23 dM_findName_24 (by decide) ?_ ?_
    · intro c2
      replace h := h.1 c2
      obtain ⟨n3, h⟩ := h
      exact w_M_findName_36 l C0 hE a_this a_units a_kinds a_values a_names a_low a_high a_told a_leftOut a_isMade a_hands a_pad a_court a_title a_out k_names k_out k_told k_high k_title v_this_thrown v_this_size v_this_families v_this_atHand v_this_family v_this_density v_this_pads v_this_hasThermal v_this_titleSize v_this_written v_this_at v_this_begin v_this_words v_this_paste0 v_names v_out v_told v_high v_title post hK n3 y1 y3 u_this_written v_out _ _ h hP hD hS ls (lv_sub hl [0, 1, 2] rfl)
    · intro c2
      replace h := h.2 c2
      refine lv_ldc2 (own := RM) (index := 76) (v := 27) hx hb hown (hts _ zw_1154) dM_findName_27 ?_
      refine lv_lload_n hx hb dM_findName_30 rfl (lv_at hl 2 rfl) ?_
      refine lv_lmul hx hb dM_findName_31 ?_
      refine lv_topl (fun x4 ex4 => ?_)
      replace h := h x4 ex4
      refine lv_lstore_n (lv' := [(3, .long x4), (0, .ref a_this), (1, .long y1)]) hx hb dM_findName_32 rfl hl (by decide) rfl (fun ls hl => ?_)
      refine lv_goto (tgt := 17) hx hb dM_findName_33 (by decide) ?_
      exact ih y1 x4 u_this_written _ _ h hP hD hS ls (lv_sub hl [1, 2, 0] rfl)
def P_M_findName (v_this_family : Int32) (v_this_density : Int32) (v_this_pads : Int32) (v_names : Nat → Int64) (v_out : Nat → Int32) (v_told : Nat → Int32) (v_high : Nat → Int64) (v_title : Nat → Int32) (post : Int32 → Int32 → (Nat → Int32) → (Nat → Int32) → Prop) : Prop := vp_in v_this_family 8 ∧ ∀ x2 : Int64, x2 = v_names v_this_family.toNatClampNeg → ∃ n3, P_M_findName_17 v_this_density v_this_pads v_out v_told v_high v_title post n3 x2 1 0
set_option maxHeartbeats 4000000 in
set_option maxRecDepth 100000 in
theorem c_M_findName (l : Launch) (dC : Nat → ClassId) (dI : Nat → Nat → Nat) (ad : Nat → Nat → Nat) (a_this : Nat) (a_units : Nat) (a_kinds : Nat) (a_values : Nat) (a_names : Nat) (a_low : Nat) (a_high : Nat) (a_told : Nat) (a_leftOut : Nat) (a_isMade : Nat) (a_hands : Nat) (a_pad : Nat) (a_court : Nat) (a_title : Nat) (a_out : Nat) (k_names : ClassId) (k_out : ClassId) (k_told : ClassId) (k_high : ClassId) (k_title : ClassId) (sz : Nat) (v_this_thrown : Int32) (v_this_size : Int32) (v_this_families : Int32) (v_this_atHand : Int32) (v_this_family : Int32) (v_this_density : Int32) (v_this_pads : Int32) (v_this_hasThermal : Int32) (v_this_titleSize : Int32) (v_this_written : Int32) (v_this_at : Int32) (v_this_begin : Int32) (v_this_words : Int32) (v_this_paste0 : Int64) (v_names : Nat → Int64) (v_out : Nat → Int32) (v_told : Nat → Int32) (v_high : Nat → Int64) (v_title : Nat → Int32) (post : Int32 → Int32 → (Nat → Int32) → (Nat → Int32) → Prop) (h : P_M_findName v_this_family v_this_density v_this_pads v_names v_out v_told v_high v_title post) : zMv l yM_findName wsM_findName { frames := 2, cells := 0, slots := 0, locals := 47 } (dC, dI) ad [.ref a_this] (w_M_findName ad a_this a_units a_kinds a_values a_names a_low a_high a_told a_leftOut a_isMade a_hands a_pad a_court a_title a_out k_names k_out k_told k_high k_title v_this_thrown v_this_size v_this_families v_this_atHand v_this_family v_this_density v_this_pads v_this_hasThermal v_this_titleSize v_this_written v_this_at v_this_begin v_this_words v_this_paste0 v_names v_out v_told v_high v_title) [(k_names, .long), (k_out, .int), (k_told, .boolean), (k_high, .long), (k_title, .int)] sz (fun (u : Int32 × Int32 × (Nat → Int32) × (Nat → Int32)) => post u.1 u.2.1 u.2.2.1 u.2.2.2) (fun (u : Int32 × Int32 × (Nat → Int32) × (Nat → Int32)) => (w_M_findName ad a_this a_units a_kinds a_values a_names a_low a_high a_told a_leftOut a_isMade a_hands a_pad a_court a_title a_out k_names k_out k_told k_high k_title v_this_thrown v_this_size v_this_families v_this_atHand v_this_family v_this_density v_this_pads v_this_hasThermal u.1 u.2.1 v_this_at v_this_begin v_this_words v_this_paste0 v_names u.2.2.1 v_told v_high u.2.2.2)) 0 0 := by
  refine Met.ofW (cc := cM_findName) (maxL := 6) (ret := none) (by decide +kernel) rfl ?_
  intro p e s m args below meth c s₁ B hml hv
  obtain ⟨rfl, hsz, hP, hK, hD0, hE⟩ := hv
  have hx := B.exec
  have hb := B.bytes
  have hr := B.returns
  have hts0 := atoms_spec (ws := wsM_findName) B.pre
  have hts := fun w h => hts0 w (List.mem_cons_of_mem _ h)
  have hown : s.vm.findClass RM = some m.cls := findClass_of_methodNamed B.named
  have hlocks := B.notSynchronized
  subst hsz
  have hD := hD0.self (sz := s.heap.size)
  generalize hAe : va_A (w_M_findName ad a_this a_units a_kinds a_values a_names a_low a_high a_told a_leftOut a_isMade a_hands a_pad a_court a_title a_out k_names k_out k_told k_high k_title v_this_thrown v_this_size v_this_families v_this_atHand v_this_family v_this_density v_this_pads v_this_hasThermal v_this_titleSize v_this_written v_this_at v_this_begin v_this_words v_this_paste0 v_names v_out v_told v_high v_title) s.heap.size = A at hD hE ⊢
  have hA : ∀ q : Nat, s.heap.size ≤ q → A q := fun q h => by rw [← hAe]; exact Or.inr h
  have C0 := zC.mk hx hb hr hml hown hts hlocks hA
  have hS : va_S A s.heap s.heap [] := va_S.rf
  have hl := lv_entry ([.ref a_this]) (n := 6) (Nat.le_of_ble_eq_true rfl)
  rw [lg_entry_eq]
  generalize (lg_sl ([.ref a_this]) ++ List.replicate (6 - (lg_sl ([.ref a_this])).length) Slot.unset).toArray = ls at hl ⊢
  have hl : lv_has ls 6 [(0, .ref a_this)] := hl
  unfold P_M_findName at h
  refine lv_aload_n hx hb dM_findName_0 rfl (lv_at hl 0 rfl) ?_
  refine lv_iconst (v := 0) hx hb dM_findName_1 (by decide) ?_
  refine va_put (D := (dC, dI)) (ci := 10) (v := .int 0) (ty := .int) (C := RM) (T := TM) (N := 28) hx hb hts inZ_M tyM tyM_ok nmM hown hK hP hD hS 0 rfl rfl 23 (by decide) (hts _ zw_1067) (fun _ h9 => h9) rfl (by decide +kernel) rfl rfl (Nat.le_of_ble_eq_true rfl) dM_findName_2 (fun H locs hP hD hS => ?_)
  have hP : va_P (dC, dI) vwCl (w_M_findName ad a_this a_units a_kinds a_values a_names a_low a_high a_told a_leftOut a_isMade a_hands a_pad a_court a_title a_out k_names k_out k_told k_high k_title v_this_thrown v_this_size v_this_families v_this_atHand v_this_family v_this_density v_this_pads v_this_hasThermal v_this_titleSize 0 v_this_at v_this_begin v_this_words v_this_paste0 v_names v_out v_told v_high v_title) H := hP
  have hD : va_D A (w_M_findName ad a_this a_units a_kinds a_values a_names a_low a_high a_told a_leftOut a_isMade a_hands a_pad a_court a_title a_out k_names k_out k_told k_high k_title v_this_thrown v_this_size v_this_families v_this_atHand v_this_family v_this_density v_this_pads v_this_hasThermal v_this_titleSize 0 v_this_at v_this_begin v_this_words v_this_paste0 v_names v_out v_told v_high v_title) := hD
  refine lv_aload_n hx hb dM_findName_5 rfl (lv_at hl 0 rfl) ?_
  refine va_get (D := (dC, dI)) (ci := 10) (v := .ref a_names) (C := RM) (T := TM) (N := 28) hx hb hts inZ_M hown hK hP 0 rfl rfl 6 (by decide) (hts _ zw_1050) (fun _ h9 => h9) rfl dM_findName_6 ?_
  refine lv_aload_n hx hb dM_findName_9 rfl (lv_at hl 0 rfl) ?_
  refine va_get (D := (dC, dI)) (ci := 10) (v := .int v_this_family) (C := RM) (T := TM) (N := 28) hx hb hts inZ_M hown hK hP 0 rfl rfl 14 (by decide) (hts _ zw_1058) (fun _ h9 => h9) rfl dM_findName_10 ?_
  obtain ⟨hn1, h⟩ := h
  refine va_lald hx hb hK hP 1 0 rfl rfl hn1 dM_findName_13 ?_
  refine lv_topl (fun x2 ex2 => ?_)
  replace h := h x2 ex2
  refine lv_lstore_n (lv' := [(1, .long x2), (0, .ref a_this)]) hx hb dM_findName_14 rfl hl (by decide) rfl (fun ls hl => ?_)
  refine lv_lconst (v := 1) hx hb dM_findName_15 (by decide) ?_
  refine lv_lstore_n (lv' := [(3, .long 1), (1, .long x2), (0, .ref a_this)]) hx hb dM_findName_16 rfl hl (by decide) rfl (fun ls hl => ?_)
  obtain ⟨n3, h⟩ := h
  exact w_M_findName_17 l C0 hE a_this a_units a_kinds a_values a_names a_low a_high a_told a_leftOut a_isMade a_hands a_pad a_court a_title a_out k_names k_out k_told k_high k_title v_this_thrown v_this_size v_this_families v_this_atHand v_this_family v_this_density v_this_pads v_this_hasThermal v_this_titleSize v_this_written v_this_at v_this_begin v_this_words v_this_paste0 v_names v_out v_told v_high v_title post hK n3 x2 1 0 _ _ h hP hD hS ls (lv_sub hl [2, 1, 0] rfl)
abbrev yM_findText : MethodName := ⟨"FootprintRulesModel", "findText", "()V"⟩
abbrev cM_findText : ByteArray := prog_14_method_36_code
abbrev wsM_findText : List Cond := .code yM_findText cM_findText 2 none :: zT
set_option maxRecDepth 100000 in
theorem zc_M_findText : Cond.code yM_findText cM_findText 2 none ∈ zT := zm 1275 (by rfl) (by rfl)
theorem dM_findText_0 : decode cM_findText 0 = .ok (.aload_n 0, 1) := by decide +kernel
theorem dM_findText_1 : decode cM_findText 1 = .ok (.bipush 10, 2) := by decide +kernel
theorem dM_findText_3 : decode cM_findText 3 = .ok (.invokevirtual 212, 3) := by decide +kernel
theorem dM_findText_6 : decode cM_findText 6 = .ok (.iconst 0, 1) := by decide +kernel
theorem dM_findText_7 : decode cM_findText 7 = .ok (.istore_n 1, 1) := by decide +kernel
theorem dM_findText_8 : decode cM_findText 8 = .ok (.iload_n 1, 1) := by decide +kernel
theorem dM_findText_9 : decode cM_findText 9 = .ok (.bipush 7, 2) := by decide +kernel
theorem dM_findText_11 : decode cM_findText 11 = .ok (.aload_n 0, 1) := by decide +kernel
theorem dM_findText_12 : decode cM_findText 12 = .ok (.getfield 134, 3) := by decide +kernel
theorem dM_findText_15 : decode cM_findText 15 = .ok (.imul, 1) := by decide +kernel
theorem dM_findText_16 : decode cM_findText 16 = .ok (.if_icmp .ge 39, 3) := by decide +kernel
theorem dM_findText_19 : decode cM_findText 19 = .ok (.aload_n 0, 1) := by decide +kernel
theorem dM_findText_20 : decode cM_findText 20 = .ok (.aload_n 0, 1) := by decide +kernel
theorem dM_findText_21 : decode cM_findText 21 = .ok (.getfield 42, 3) := by decide +kernel
theorem dM_findText_24 : decode cM_findText 24 = .ok (.iload_n 1, 1) := by decide +kernel
theorem dM_findText_25 : decode cM_findText 25 = .ok (.laload, 1) := by decide +kernel
theorem dM_findText_26 : decode cM_findText 26 = .ok (.invokevirtual 216, 3) := by decide +kernel
theorem dM_findText_29 : decode cM_findText 29 = .ok (.aload_n 0, 1) := by decide +kernel
theorem dM_findText_30 : decode cM_findText 30 = .ok (.iload_n 1, 1) := by decide +kernel
theorem dM_findText_31 : decode cM_findText 31 = .ok (.bipush 7, 2) := by decide +kernel
theorem dM_findText_33 : decode cM_findText 33 = .ok (.irem, 1) := by decide +kernel
theorem dM_findText_34 : decode cM_findText 34 = .ok (.bipush 6, 2) := by decide +kernel
theorem dM_findText_36 : decode cM_findText 36 = .ok (.if_icmp .ne 8, 3) := by decide +kernel
theorem dM_findText_39 : decode cM_findText 39 = .ok (.bipush 10, 2) := by decide +kernel
theorem dM_findText_41 : decode cM_findText 41 = .ok (.goto 5, 3) := by decide +kernel
theorem dM_findText_44 : decode cM_findText 44 = .ok (.bipush 32, 2) := by decide +kernel
theorem dM_findText_46 : decode cM_findText 46 = .ok (.invokevirtual 212, 3) := by decide +kernel
theorem dM_findText_49 : decode cM_findText 49 = .ok (.iinc 1 1, 3) := by decide +kernel
theorem dM_findText_52 : decode cM_findText 52 = .ok (.goto (-44), 3) := by decide +kernel
theorem dM_findText_55 : decode cM_findText 55 = .ok (.aload_n 0, 1) := by decide +kernel
theorem dM_findText_56 : decode cM_findText 56 = .ok (.bipush 99, 2) := by decide +kernel
theorem dM_findText_58 : decode cM_findText 58 = .ok (.invokevirtual 212, 3) := by decide +kernel
theorem dM_findText_61 : decode cM_findText 61 = .ok (.aload_n 0, 1) := by decide +kernel
theorem dM_findText_62 : decode cM_findText 62 = .ok (.bipush 111, 2) := by decide +kernel
theorem dM_findText_64 : decode cM_findText 64 = .ok (.invokevirtual 212, 3) := by decide +kernel
theorem dM_findText_67 : decode cM_findText 67 = .ok (.aload_n 0, 1) := by decide +kernel
theorem dM_findText_68 : decode cM_findText 68 = .ok (.bipush 117, 2) := by decide +kernel
theorem dM_findText_70 : decode cM_findText 70 = .ok (.invokevirtual 212, 3) := by decide +kernel
theorem dM_findText_73 : decode cM_findText 73 = .ok (.aload_n 0, 1) := by decide +kernel
theorem dM_findText_74 : decode cM_findText 74 = .ok (.bipush 114, 2) := by decide +kernel
theorem dM_findText_76 : decode cM_findText 76 = .ok (.invokevirtual 212, 3) := by decide +kernel
theorem dM_findText_79 : decode cM_findText 79 = .ok (.aload_n 0, 1) := by decide +kernel
theorem dM_findText_80 : decode cM_findText 80 = .ok (.bipush 116, 2) := by decide +kernel
theorem dM_findText_82 : decode cM_findText 82 = .ok (.invokevirtual 212, 3) := by decide +kernel
theorem dM_findText_85 : decode cM_findText 85 = .ok (.iconst 0, 1) := by decide +kernel
theorem dM_findText_86 : decode cM_findText 86 = .ok (.istore_n 1, 1) := by decide +kernel
theorem dM_findText_87 : decode cM_findText 87 = .ok (.iload_n 1, 1) := by decide +kernel
theorem dM_findText_88 : decode cM_findText 88 = .ok (.iconst 4, 1) := by decide +kernel
theorem dM_findText_89 : decode cM_findText 89 = .ok (.if_icmp .ge 25, 3) := by decide +kernel
theorem dM_findText_92 : decode cM_findText 92 = .ok (.aload_n 0, 1) := by decide +kernel
theorem dM_findText_93 : decode cM_findText 93 = .ok (.bipush 32, 2) := by decide +kernel
theorem dM_findText_95 : decode cM_findText 95 = .ok (.invokevirtual 212, 3) := by decide +kernel
theorem dM_findText_98 : decode cM_findText 98 = .ok (.aload_n 0, 1) := by decide +kernel
theorem dM_findText_99 : decode cM_findText 99 = .ok (.aload_n 0, 1) := by decide +kernel
theorem dM_findText_100 : decode cM_findText 100 = .ok (.getfield 45, 3) := by decide +kernel
theorem dM_findText_103 : decode cM_findText 103 = .ok (.iload_n 1, 1) := by decide +kernel
theorem dM_findText_104 : decode cM_findText 104 = .ok (.laload, 1) := by decide +kernel
theorem dM_findText_105 : decode cM_findText 105 = .ok (.invokevirtual 216, 3) := by decide +kernel
theorem dM_findText_108 : decode cM_findText 108 = .ok (.iinc 1 1, 3) := by decide +kernel
theorem dM_findText_111 : decode cM_findText 111 = .ok (.goto (-24), 3) := by decide +kernel
theorem dM_findText_114 : decode cM_findText 114 = .ok (.aload_n 0, 1) := by decide +kernel
theorem dM_findText_115 : decode cM_findText 115 = .ok (.bipush 10, 2) := by decide +kernel
theorem dM_findText_117 : decode cM_findText 117 = .ok (.invokevirtual 212, 3) := by decide +kernel
theorem dM_findText_120 : decode cM_findText 120 = .ok (.return_, 1) := by decide +kernel
-- FootprintRulesModel.findText()V
abbrev w_M_findText (ad : Nat → Nat → Nat) (a_this : Nat) (a_units : Nat) (a_kinds : Nat) (a_values : Nat) (a_names : Nat) (a_low : Nat) (a_high : Nat) (a_told : Nat) (a_leftOut : Nat) (a_isMade : Nat) (a_hands : Nat) (a_pad : Nat) (a_court : Nat) (a_title : Nat) (a_out : Nat) (k_out : ClassId) (k_pad : ClassId) (k_court : ClassId) (v_this_thrown : Int32) (v_this_size : Int32) (v_this_families : Int32) (v_this_atHand : Int32) (v_this_family : Int32) (v_this_density : Int32) (v_this_pads : Int32) (v_this_hasThermal : Int32) (v_this_titleSize : Int32) (v_this_written : Int32) (v_this_at : Int32) (v_this_begin : Int32) (v_this_words : Int32) (v_this_paste0 : Int64) (v_out : Nat → Int32) (v_pad : Nat → Int64) (v_court : Nat → Int64) : va_W := [(a_this, .inr (10, [.int v_this_thrown, .ref a_units, .int v_this_size, .int v_this_families, .ref a_kinds, .ref a_values, .ref a_names, .ref a_low, .ref a_high, .ref a_told, .ref a_leftOut, .ref a_isMade, .ref a_hands, .int v_this_atHand, .int v_this_family, .int v_this_density, .int v_this_pads, .ref a_pad, .ref a_court, .int v_this_hasThermal, .ref a_title, .int v_this_titleSize, .ref a_out, .int v_this_written, .int v_this_at, .int v_this_begin, .int v_this_words, .long v_this_paste0])), (a_out, .inl (k_out, 8000, .inl v_out)), (a_pad, .inl (k_pad, 455, .inr (.inl v_pad))), (a_court, .inl (k_court, 4, .inr (.inl v_court)))]
def P_M_findText_87 (v_court : Nat → Int64) (post : Int32 → (Nat → Int32) → Prop) : Nat → Int32 → Int32 → (Nat → Int32) → Prop
  | 0, _, _, _ => False
  | n + 1, y1, u_this_written, u_out => ((4 ≤ y1 → P_M_say 10 u_this_written u_out (fun (u2 : Int32) (u3 : Nat → Int32) => post u2 u3)) ∧ (¬ 4 ≤ y1 → P_M_say 32 u_this_written u_out (fun (u4 : Int32) (u5 : Nat → Int32) => vp_in y1 4 ∧ P_M_sayNumber (v_court y1.toNatClampNeg) u4 u5 (fun (u7 : Int32) (u8 : Nat → Int32) => ∀ x9 : Int32, x9 = y1 + 1 → P_M_findText_87 v_court post n x9 u7 u8))))
set_option maxHeartbeats 4000000 in
set_option maxRecDepth 100000 in
theorem w_M_findText_87 (l : Launch) {p : Program} {e : Env} {s : State} {m : MethodId} {args : Array Value} {below : List Frame} {meth : Method} {c : Code} {dC : Nat → ClassId} {dI : Nat → Nat → Nat} {ad : Nat → Nat → Nat} {A : Nat → Prop} (C0 : zC p s m args meth c cM_findText 2 RM zT none A) (hE : zE ad A s) (a_this : Nat) (a_units : Nat) (a_kinds : Nat) (a_values : Nat) (a_names : Nat) (a_low : Nat) (a_high : Nat) (a_told : Nat) (a_leftOut : Nat) (a_isMade : Nat) (a_hands : Nat) (a_pad : Nat) (a_court : Nat) (a_title : Nat) (a_out : Nat) (k_out : ClassId) (k_pad : ClassId) (k_court : ClassId) (v_this_thrown : Int32) (v_this_size : Int32) (v_this_families : Int32) (v_this_atHand : Int32) (v_this_family : Int32) (v_this_density : Int32) (v_this_pads : Int32) (v_this_hasThermal : Int32) (v_this_titleSize : Int32) (v_this_written : Int32) (v_this_at : Int32) (v_this_begin : Int32) (v_this_words : Int32) (v_this_paste0 : Int64) (v_out : Nat → Int32) (v_pad : Nat → Int64) (v_court : Nat → Int64) (post : Int32 → (Nat → Int32) → Prop) (hK : va_K (dC, dI) vwCl [(k_out, .int), (k_pad, .long), (k_court, .long)] s) : ∀ (n : Nat), ∀ (y1 : Int32) (u_this_written : Int32) (u_out : Nat → Int32) (H : Heap) (locs : List Loc), P_M_findText_87 v_court post n y1 u_this_written u_out → va_P (dC, dI) vwCl (w_M_findText ad a_this a_units a_kinds a_values a_names a_low a_high a_told a_leftOut a_isMade a_hands a_pad a_court a_title a_out k_out k_pad k_court v_this_thrown v_this_size v_this_families v_this_atHand v_this_family v_this_density v_this_pads v_this_hasThermal v_this_titleSize u_this_written v_this_at v_this_begin v_this_words v_this_paste0 u_out v_pad v_court) H → va_D A (w_M_findText ad a_this a_units a_kinds a_values a_names a_low a_high a_told a_leftOut a_isMade a_hands a_pad a_court a_title a_out k_out k_pad k_court v_this_thrown v_this_size v_this_families v_this_atHand v_this_family v_this_density v_this_pads v_this_hasThermal v_this_titleSize u_this_written v_this_at v_this_begin v_this_words v_this_paste0 u_out v_pad v_court) → va_S A s.heap H locs → ∀ ls : Array Slot, lv_has ls 2 [(0, .ref a_this), (1, .int y1)] → W p l e (headSpec wsM_findText { frames := 2, cells := 0, slots := 0, locals := 47 }).room s m args below meth c H locs 0 0 (MQ below (va_Qv (fun (u : Int32 × (Nat → Int32)) => post u.1 u.2) (zB (dC, dI) A (fun (u : Int32 × (Nat → Int32)) => (w_M_findText ad a_this a_units a_kinds a_values a_names a_low a_high a_told a_leftOut a_isMade a_hands a_pad a_court a_title a_out k_out k_pad k_court v_this_thrown v_this_size v_this_families v_this_atHand v_this_family v_this_density v_this_pads v_this_hasThermal v_this_titleSize u.1 v_this_at v_this_begin v_this_words v_this_paste0 u.2 v_pad v_court))) A) args s 0 0 A) (F0 m 87 ls []) := by
  obtain ⟨hx, hb, hr, hml, hown, hts, hlocks, hA⟩ := id C0
  intro n
  induction n with
  | zero =>
    intro y1 u_this_written u_out H locs h
    exact False.elim h
  | succ n ih =>
    intro y1 u_this_written u_out H locs h hP hD hS ls hl
    rw [P_M_findText_87] at h
    refine lv_iload_n hx hb dM_findText_87 rfl (lv_at hl 1 rfl) ?_
    refine lv_iconst (v := 4) hx hb dM_findText_88 (by decide) ?_
    refine lv_icmp_ge (tgt := 114) hx hb dM_findText_89 (by decide) ?_ ?_
    · intro c1
      replace h := h.1 c1
      refine lv_aload_n hx hb dM_findText_114 rfl (lv_at hl 0 rfl) ?_
      refine lv_bipush (v := 10) hx hb dM_findText_115 (by decide) ?_
      refine zcall_v hP hD hS hA [0, 1] [2, 3] (va_runV (As := [.int 10]) (rest := []) ⟨hx, hb, hml, hown, hts⟩ (c_M_say l dC dI ad a_this a_units a_kinds a_values a_names a_low a_high a_told a_leftOut a_isMade a_hands a_pad a_court a_title a_out k_out _ 10 v_this_thrown v_this_size v_this_families v_this_atHand v_this_family v_this_density v_this_pads v_this_hasThermal v_this_titleSize u_this_written v_this_at v_this_begin v_this_words v_this_paste0 u_out _ h) ⟨callB_of 1 hts (zgood zc_M_say) rfl rfl rfl (hts _ zw_107) (hts _ zw_1263) (by decide +kernel) ⟨Nat.le_of_ble_eq_true rfl, Nat.le_of_ble_eq_true rfl⟩, (hts _ zw_1265), (hts _ zw_86)⟩ (zpreV hE hK hP hD hS hA [0, 1] [0] (by rfl) (by rfl) (by decide) (ci := 10) (q0 := 0) rfl (by rfl)) rfl rfl hl.1 rfl (lv_room (Nat.le_of_ble_eq_true rfl)) dM_findText_117 ⟨Nat.le_of_ble_eq_true rfl, Nat.le_of_ble_eq_true rfl⟩) (by rfl) (by rfl) (by decide) (by decide) (fun u H locs h hP hD hS => ?_)
      obtain ⟨u2, u3⟩ := u
      try dsimp only at h
      have hP := hP.sub (ws' := (w_M_findText ad a_this a_units a_kinds a_values a_names a_low a_high a_told a_leftOut a_isMade a_hands a_pad a_court a_title a_out k_out k_pad k_court v_this_thrown v_this_size v_this_families v_this_atHand v_this_family v_this_density v_this_pads v_this_hasThermal v_this_titleSize u2 v_this_at v_this_begin v_this_words v_this_paste0 u3 v_pad v_court)) [2, 3, 0, 1] rfl
      have hD := hD.sub (ws' := (w_M_findText ad a_this a_units a_kinds a_values a_names a_low a_high a_told a_leftOut a_isMade a_hands a_pad a_court a_title a_out k_out k_pad k_court v_this_thrown v_this_size v_this_families v_this_atHand v_this_family v_this_density v_this_pads v_this_hasThermal v_this_titleSize u2 v_this_at v_this_begin v_this_words v_this_paste0 u3 v_pad v_court)) [2, 3, 0, 1] (by decide) rfl
      exact W.vret hx hb hr (fun t ht hW => ⟨⟨(u2, u3), rfl, h, by rw [ht]; exact hP, hD⟩, hS.F ht⟩) hS.2.2 dM_findText_120
    · intro c1
      replace h := h.2 c1
      refine lv_aload_n hx hb dM_findText_92 rfl (lv_at hl 0 rfl) ?_
      refine lv_bipush (v := 32) hx hb dM_findText_93 (by decide) ?_
      refine zcall_v hP hD hS hA [0, 1] [2, 3] (va_runV (As := [.int 32]) (rest := []) ⟨hx, hb, hml, hown, hts⟩ (c_M_say l dC dI ad a_this a_units a_kinds a_values a_names a_low a_high a_told a_leftOut a_isMade a_hands a_pad a_court a_title a_out k_out _ 32 v_this_thrown v_this_size v_this_families v_this_atHand v_this_family v_this_density v_this_pads v_this_hasThermal v_this_titleSize u_this_written v_this_at v_this_begin v_this_words v_this_paste0 u_out _ h) ⟨callB_of 1 hts (zgood zc_M_say) rfl rfl rfl (hts _ zw_107) (hts _ zw_1263) (by decide +kernel) ⟨Nat.le_of_ble_eq_true rfl, Nat.le_of_ble_eq_true rfl⟩, (hts _ zw_1265), (hts _ zw_86)⟩ (zpreV hE hK hP hD hS hA [0, 1] [0] (by rfl) (by rfl) (by decide) (ci := 10) (q0 := 0) rfl (by rfl)) rfl rfl hl.1 rfl (lv_room (Nat.le_of_ble_eq_true rfl)) dM_findText_95 ⟨Nat.le_of_ble_eq_true rfl, Nat.le_of_ble_eq_true rfl⟩) (by rfl) (by rfl) (by decide) (by decide) (fun u H locs h hP hD hS => ?_)
      obtain ⟨u4, u5⟩ := u
      try dsimp only at h
      have hP := hP.sub (ws' := (w_M_findText ad a_this a_units a_kinds a_values a_names a_low a_high a_told a_leftOut a_isMade a_hands a_pad a_court a_title a_out k_out k_pad k_court v_this_thrown v_this_size v_this_families v_this_atHand v_this_family v_this_density v_this_pads v_this_hasThermal v_this_titleSize u4 v_this_at v_this_begin v_this_words v_this_paste0 u5 v_pad v_court)) [2, 3, 0, 1] rfl
      have hD := hD.sub (ws' := (w_M_findText ad a_this a_units a_kinds a_values a_names a_low a_high a_told a_leftOut a_isMade a_hands a_pad a_court a_title a_out k_out k_pad k_court v_this_thrown v_this_size v_this_families v_this_atHand v_this_family v_this_density v_this_pads v_this_hasThermal v_this_titleSize u4 v_this_at v_this_begin v_this_words v_this_paste0 u5 v_pad v_court)) [2, 3, 0, 1] (by decide) rfl
      refine lv_aload_n hx hb dM_findText_98 rfl (lv_at hl 0 rfl) ?_
      refine lv_aload_n hx hb dM_findText_99 rfl (lv_at hl 0 rfl) ?_
      refine va_get (D := (dC, dI)) (ci := 10) (v := .ref a_court) (C := RM) (T := TM) (N := 28) hx hb hts inZ_M hown hK hP 0 rfl rfl 18 (by decide) (hts _ zw_1062) (fun _ h9 => h9) rfl dM_findText_100 ?_
      refine lv_iload_n hx hb dM_findText_103 rfl (lv_at hl 1 rfl) ?_
      obtain ⟨hn6, h⟩ := h
      refine va_lald hx hb hK hP 3 2 rfl rfl hn6 dM_findText_104 ?_
      refine zcall_v hP hD hS hA [0, 1] [2, 3] (va_runV (As := [.long (v_court y1.toNatClampNeg)]) (rest := []) ⟨hx, hb, hml, hown, hts⟩ (c_M_sayNumber l dC dI ad a_this a_units a_kinds a_values a_names a_low a_high a_told a_leftOut a_isMade a_hands a_pad a_court a_title a_out k_out _ (v_court y1.toNatClampNeg) v_this_thrown v_this_size v_this_families v_this_atHand v_this_family v_this_density v_this_pads v_this_hasThermal v_this_titleSize u4 v_this_at v_this_begin v_this_words v_this_paste0 u5 _ h) ⟨callB_of 1 hts (zgood zc_M_sayNumber) rfl rfl rfl (hts _ zw_107) (hts _ zw_1267) (by decide +kernel) ⟨Nat.le_of_ble_eq_true rfl, Nat.le_of_ble_eq_true rfl⟩, (hts _ zw_1269), (hts _ zw_87)⟩ (zpreV hE hK hP hD hS hA [0, 1] [0] (by rfl) (by rfl) (by decide) (ci := 10) (q0 := 0) rfl (by rfl)) rfl rfl hl.1 rfl (lv_room (Nat.le_of_ble_eq_true rfl)) dM_findText_105 ⟨Nat.le_of_ble_eq_true rfl, Nat.le_of_ble_eq_true rfl⟩) (by rfl) (by rfl) (by decide) (by decide) (fun u H locs h hP hD hS => ?_)
      obtain ⟨u7, u8⟩ := u
      try dsimp only at h
      have hP := hP.sub (ws' := (w_M_findText ad a_this a_units a_kinds a_values a_names a_low a_high a_told a_leftOut a_isMade a_hands a_pad a_court a_title a_out k_out k_pad k_court v_this_thrown v_this_size v_this_families v_this_atHand v_this_family v_this_density v_this_pads v_this_hasThermal v_this_titleSize u7 v_this_at v_this_begin v_this_words v_this_paste0 u8 v_pad v_court)) [2, 3, 0, 1] rfl
      have hD := hD.sub (ws' := (w_M_findText ad a_this a_units a_kinds a_values a_names a_low a_high a_told a_leftOut a_isMade a_hands a_pad a_court a_title a_out k_out k_pad k_court v_this_thrown v_this_size v_this_families v_this_atHand v_this_family v_this_density v_this_pads v_this_hasThermal v_this_titleSize u7 v_this_at v_this_begin v_this_words v_this_paste0 u8 v_pad v_court)) [2, 3, 0, 1] (by decide) rfl
      obtain ⟨x9, ex9⟩ : ∃ y : Int32, y = y1 + 1 := ⟨_, rfl⟩
      replace h := h x9 ex9
      refine lv_iinc (v := x9) (lv' := [(1, .int x9), (0, .ref a_this)]) hx hb dM_findText_108 hl (k := 1) rfl (by rw [ex9]; rfl) (by decide) rfl (fun ls hl => ?_)
      refine lv_goto (tgt := 87) hx hb dM_findText_111 (by decide) ?_
      exact ih x9 u7 u8 _ _ h hP hD hS ls (lv_sub hl [1, 0] rfl)
def P_M_findText_46  (post : Int32 → (Nat → Int32) → Prop) (K8 : Int32 → Int32 → (Nat → Int32) → Prop) (y1 : Int32) (t0 : Int32) (u_this_written : Int32) (u_out : Nat → Int32) : Prop := P_M_say t0 u_this_written u_out (fun (u1 : Int32) (u2 : Nat → Int32) => ∀ x3 : Int32, x3 = y1 + 1 → K8 x3 u1 u2)
set_option maxHeartbeats 4000000 in
set_option maxRecDepth 100000 in
theorem w_M_findText_46 (l : Launch) {p : Program} {e : Env} {s : State} {m : MethodId} {args : Array Value} {below : List Frame} {meth : Method} {c : Code} {dC : Nat → ClassId} {dI : Nat → Nat → Nat} {ad : Nat → Nat → Nat} {A : Nat → Prop} (C0 : zC p s m args meth c cM_findText 2 RM zT none A) (hE : zE ad A s) (a_this : Nat) (a_units : Nat) (a_kinds : Nat) (a_values : Nat) (a_names : Nat) (a_low : Nat) (a_high : Nat) (a_told : Nat) (a_leftOut : Nat) (a_isMade : Nat) (a_hands : Nat) (a_pad : Nat) (a_court : Nat) (a_title : Nat) (a_out : Nat) (k_out : ClassId) (k_pad : ClassId) (k_court : ClassId) (v_this_thrown : Int32) (v_this_size : Int32) (v_this_families : Int32) (v_this_atHand : Int32) (v_this_family : Int32) (v_this_density : Int32) (v_this_pads : Int32) (v_this_hasThermal : Int32) (v_this_titleSize : Int32) (v_this_written : Int32) (v_this_at : Int32) (v_this_begin : Int32) (v_this_words : Int32) (v_this_paste0 : Int64) (v_out : Nat → Int32) (v_pad : Nat → Int64) (v_court : Nat → Int64) (post : Int32 → (Nat → Int32) → Prop) (K8 : Int32 → Int32 → (Nat → Int32) → Prop) (hK8 : ∀ (y1 : Int32) (u_this_written : Int32) (u_out : Nat → Int32) (H : Heap) (locs : List Loc), K8 y1 u_this_written u_out → va_P (dC, dI) vwCl (w_M_findText ad a_this a_units a_kinds a_values a_names a_low a_high a_told a_leftOut a_isMade a_hands a_pad a_court a_title a_out k_out k_pad k_court v_this_thrown v_this_size v_this_families v_this_atHand v_this_family v_this_density v_this_pads v_this_hasThermal v_this_titleSize u_this_written v_this_at v_this_begin v_this_words v_this_paste0 u_out v_pad v_court) H → va_D A (w_M_findText ad a_this a_units a_kinds a_values a_names a_low a_high a_told a_leftOut a_isMade a_hands a_pad a_court a_title a_out k_out k_pad k_court v_this_thrown v_this_size v_this_families v_this_atHand v_this_family v_this_density v_this_pads v_this_hasThermal v_this_titleSize u_this_written v_this_at v_this_begin v_this_words v_this_paste0 u_out v_pad v_court) → va_S A s.heap H locs → ∀ ls : Array Slot, lv_has ls 2 [(0, .ref a_this), (1, .int y1)] → W p l e (headSpec wsM_findText { frames := 2, cells := 0, slots := 0, locals := 47 }).room s m args below meth c H locs 0 0 (MQ below (va_Qv (fun (u : Int32 × (Nat → Int32)) => post u.1 u.2) (zB (dC, dI) A (fun (u : Int32 × (Nat → Int32)) => (w_M_findText ad a_this a_units a_kinds a_values a_names a_low a_high a_told a_leftOut a_isMade a_hands a_pad a_court a_title a_out k_out k_pad k_court v_this_thrown v_this_size v_this_families v_this_atHand v_this_family v_this_density v_this_pads v_this_hasThermal v_this_titleSize u.1 v_this_at v_this_begin v_this_words v_this_paste0 u.2 v_pad v_court))) A) args s 0 0 A) (F0 m 8 ls [])) (hK : va_K (dC, dI) vwCl [(k_out, .int), (k_pad, .long), (k_court, .long)] s) : ∀ (y1 : Int32) (t0 : Int32) (u_this_written : Int32) (u_out : Nat → Int32) (H : Heap) (locs : List Loc), P_M_findText_46 post K8 y1 t0 u_this_written u_out → va_P (dC, dI) vwCl (w_M_findText ad a_this a_units a_kinds a_values a_names a_low a_high a_told a_leftOut a_isMade a_hands a_pad a_court a_title a_out k_out k_pad k_court v_this_thrown v_this_size v_this_families v_this_atHand v_this_family v_this_density v_this_pads v_this_hasThermal v_this_titleSize u_this_written v_this_at v_this_begin v_this_words v_this_paste0 u_out v_pad v_court) H → va_D A (w_M_findText ad a_this a_units a_kinds a_values a_names a_low a_high a_told a_leftOut a_isMade a_hands a_pad a_court a_title a_out k_out k_pad k_court v_this_thrown v_this_size v_this_families v_this_atHand v_this_family v_this_density v_this_pads v_this_hasThermal v_this_titleSize u_this_written v_this_at v_this_begin v_this_words v_this_paste0 u_out v_pad v_court) → va_S A s.heap H locs → ∀ ls : Array Slot, lv_has ls 2 [(0, .ref a_this), (1, .int y1)] → W p l e (headSpec wsM_findText { frames := 2, cells := 0, slots := 0, locals := 47 }).room s m args below meth c H locs 0 0 (MQ below (va_Qv (fun (u : Int32 × (Nat → Int32)) => post u.1 u.2) (zB (dC, dI) A (fun (u : Int32 × (Nat → Int32)) => (w_M_findText ad a_this a_units a_kinds a_values a_names a_low a_high a_told a_leftOut a_isMade a_hands a_pad a_court a_title a_out k_out k_pad k_court v_this_thrown v_this_size v_this_families v_this_atHand v_this_family v_this_density v_this_pads v_this_hasThermal v_this_titleSize u.1 v_this_at v_this_begin v_this_words v_this_paste0 u.2 v_pad v_court))) A) args s 0 0 A) (F0 m 46 ls [.int t0, .ref a_this]) := by
  obtain ⟨hx, hb, hr, hml, hown, hts, hlocks, hA⟩ := id C0
  intro y1 t0 u_this_written u_out H locs h hP hD hS ls hl
  unfold P_M_findText_46 at h
  refine zcall_v hP hD hS hA [0, 1] [2, 3] (va_runV (As := [.int t0]) (rest := []) ⟨hx, hb, hml, hown, hts⟩ (c_M_say l dC dI ad a_this a_units a_kinds a_values a_names a_low a_high a_told a_leftOut a_isMade a_hands a_pad a_court a_title a_out k_out _ t0 v_this_thrown v_this_size v_this_families v_this_atHand v_this_family v_this_density v_this_pads v_this_hasThermal v_this_titleSize u_this_written v_this_at v_this_begin v_this_words v_this_paste0 u_out _ h) ⟨callB_of 1 hts (zgood zc_M_say) rfl rfl rfl (hts _ zw_107) (hts _ zw_1263) (by decide +kernel) ⟨Nat.le_of_ble_eq_true rfl, Nat.le_of_ble_eq_true rfl⟩, (hts _ zw_1265), (hts _ zw_86)⟩ (zpreV hE hK hP hD hS hA [0, 1] [0] (by rfl) (by rfl) (by decide) (ci := 10) (q0 := 0) rfl (by rfl)) rfl rfl hl.1 rfl (lv_room (Nat.le_of_ble_eq_true rfl)) dM_findText_46 ⟨Nat.le_of_ble_eq_true rfl, Nat.le_of_ble_eq_true rfl⟩) (by rfl) (by rfl) (by decide) (by decide) (fun u H locs h hP hD hS => ?_)
  obtain ⟨u1, u2⟩ := u
  try dsimp only at h
  have hP := hP.sub (ws' := (w_M_findText ad a_this a_units a_kinds a_values a_names a_low a_high a_told a_leftOut a_isMade a_hands a_pad a_court a_title a_out k_out k_pad k_court v_this_thrown v_this_size v_this_families v_this_atHand v_this_family v_this_density v_this_pads v_this_hasThermal v_this_titleSize u1 v_this_at v_this_begin v_this_words v_this_paste0 u2 v_pad v_court)) [2, 3, 0, 1] rfl
  have hD := hD.sub (ws' := (w_M_findText ad a_this a_units a_kinds a_values a_names a_low a_high a_told a_leftOut a_isMade a_hands a_pad a_court a_title a_out k_out k_pad k_court v_this_thrown v_this_size v_this_families v_this_atHand v_this_family v_this_density v_this_pads v_this_hasThermal v_this_titleSize u1 v_this_at v_this_begin v_this_words v_this_paste0 u2 v_pad v_court)) [2, 3, 0, 1] (by decide) rfl
  obtain ⟨x3, ex3⟩ : ∃ y : Int32, y = y1 + 1 := ⟨_, rfl⟩
  replace h := h x3 ex3
  refine lv_iinc (v := x3) (lv' := [(1, .int x3), (0, .ref a_this)]) hx hb dM_findText_49 hl (k := 1) rfl (by rw [ex3]; rfl) (by decide) rfl (fun ls hl => ?_)
  refine lv_goto (tgt := 8) hx hb dM_findText_52 (by decide) ?_
  exact hK8 x3 u1 u2 _ _ h hP hD hS ls (lv_sub hl [1, 0] rfl)
def P_M_findText_8 (v_this_pads : Int32) (v_pad : Nat → Int64) (v_court : Nat → Int64) (post : Int32 → (Nat → Int32) → Prop) : Nat → Int32 → Int32 → (Nat → Int32) → Prop
  | 0, _, _, _ => False
  | n + 1, y1, u_this_written, u_out => (((7 * v_this_pads) ≤ y1 → P_M_say 99 u_this_written u_out (fun (u2 : Int32) (u3 : Nat → Int32) => P_M_say 111 u2 u3 (fun (u4 : Int32) (u5 : Nat → Int32) => P_M_say 117 u4 u5 (fun (u6 : Int32) (u7 : Nat → Int32) => P_M_say 114 u6 u7 (fun (u8 : Int32) (u9 : Nat → Int32) => P_M_say 116 u8 u9 (fun (u10 : Int32) (u11 : Nat → Int32) => ∃ n12, P_M_findText_87 v_court post n12 0 u10 u11)))))) ∧ (¬ (7 * v_this_pads) ≤ y1 → vp_in y1 455 ∧ P_M_sayNumber (v_pad y1.toNatClampNeg) u_this_written u_out (fun (u14 : Int32) (u15 : Nat → Int32) => ((¬ (y1 - y1 / 7 * 7) = 6 → P_M_findText_46 post (P_M_findText_8 v_this_pads v_pad v_court post n) y1 32 u14 u15) ∧ ((y1 - y1 / 7 * 7) = 6 → P_M_findText_46 post (P_M_findText_8 v_this_pads v_pad v_court post n) y1 10 u14 u15)))))
set_option maxHeartbeats 4000000 in
set_option maxRecDepth 100000 in
theorem w_M_findText_8 (l : Launch) {p : Program} {e : Env} {s : State} {m : MethodId} {args : Array Value} {below : List Frame} {meth : Method} {c : Code} {dC : Nat → ClassId} {dI : Nat → Nat → Nat} {ad : Nat → Nat → Nat} {A : Nat → Prop} (C0 : zC p s m args meth c cM_findText 2 RM zT none A) (hE : zE ad A s) (a_this : Nat) (a_units : Nat) (a_kinds : Nat) (a_values : Nat) (a_names : Nat) (a_low : Nat) (a_high : Nat) (a_told : Nat) (a_leftOut : Nat) (a_isMade : Nat) (a_hands : Nat) (a_pad : Nat) (a_court : Nat) (a_title : Nat) (a_out : Nat) (k_out : ClassId) (k_pad : ClassId) (k_court : ClassId) (v_this_thrown : Int32) (v_this_size : Int32) (v_this_families : Int32) (v_this_atHand : Int32) (v_this_family : Int32) (v_this_density : Int32) (v_this_pads : Int32) (v_this_hasThermal : Int32) (v_this_titleSize : Int32) (v_this_written : Int32) (v_this_at : Int32) (v_this_begin : Int32) (v_this_words : Int32) (v_this_paste0 : Int64) (v_out : Nat → Int32) (v_pad : Nat → Int64) (v_court : Nat → Int64) (post : Int32 → (Nat → Int32) → Prop) (hK : va_K (dC, dI) vwCl [(k_out, .int), (k_pad, .long), (k_court, .long)] s) : ∀ (n : Nat), ∀ (y1 : Int32) (u_this_written : Int32) (u_out : Nat → Int32) (H : Heap) (locs : List Loc), P_M_findText_8 v_this_pads v_pad v_court post n y1 u_this_written u_out → va_P (dC, dI) vwCl (w_M_findText ad a_this a_units a_kinds a_values a_names a_low a_high a_told a_leftOut a_isMade a_hands a_pad a_court a_title a_out k_out k_pad k_court v_this_thrown v_this_size v_this_families v_this_atHand v_this_family v_this_density v_this_pads v_this_hasThermal v_this_titleSize u_this_written v_this_at v_this_begin v_this_words v_this_paste0 u_out v_pad v_court) H → va_D A (w_M_findText ad a_this a_units a_kinds a_values a_names a_low a_high a_told a_leftOut a_isMade a_hands a_pad a_court a_title a_out k_out k_pad k_court v_this_thrown v_this_size v_this_families v_this_atHand v_this_family v_this_density v_this_pads v_this_hasThermal v_this_titleSize u_this_written v_this_at v_this_begin v_this_words v_this_paste0 u_out v_pad v_court) → va_S A s.heap H locs → ∀ ls : Array Slot, lv_has ls 2 [(0, .ref a_this), (1, .int y1)] → W p l e (headSpec wsM_findText { frames := 2, cells := 0, slots := 0, locals := 47 }).room s m args below meth c H locs 0 0 (MQ below (va_Qv (fun (u : Int32 × (Nat → Int32)) => post u.1 u.2) (zB (dC, dI) A (fun (u : Int32 × (Nat → Int32)) => (w_M_findText ad a_this a_units a_kinds a_values a_names a_low a_high a_told a_leftOut a_isMade a_hands a_pad a_court a_title a_out k_out k_pad k_court v_this_thrown v_this_size v_this_families v_this_atHand v_this_family v_this_density v_this_pads v_this_hasThermal v_this_titleSize u.1 v_this_at v_this_begin v_this_words v_this_paste0 u.2 v_pad v_court))) A) args s 0 0 A) (F0 m 8 ls []) := by
  obtain ⟨hx, hb, hr, hml, hown, hts, hlocks, hA⟩ := id C0
  intro n
  induction n with
  | zero =>
    intro y1 u_this_written u_out H locs h
    exact False.elim h
  | succ n ih =>
    intro y1 u_this_written u_out H locs h hP hD hS ls hl
    rw [P_M_findText_8] at h
    refine lv_iload_n hx hb dM_findText_8 rfl (lv_at hl 1 rfl) ?_
    refine lv_bipush (v := 7) hx hb dM_findText_9 (by decide) ?_
    refine lv_aload_n hx hb dM_findText_11 rfl (lv_at hl 0 rfl) ?_
    refine va_get (D := (dC, dI)) (ci := 10) (v := .int v_this_pads) (C := RM) (T := TM) (N := 28) hx hb hts inZ_M hown hK hP 0 rfl rfl 16 (by decide) (hts _ zw_1060) (fun _ h9 => h9) rfl dM_findText_12 ?_
    refine lv_imul hx hb dM_findText_15 ?_
    refine lv_icmp_ge (tgt := 55) hx hb dM_findText_16 (by decide) ?_ ?_
    · intro c1
      replace h := h.1 c1
      refine lv_aload_n hx hb dM_findText_55 rfl (lv_at hl 0 rfl) ?_
      refine lv_bipush (v := 99) hx hb dM_findText_56 (by decide) ?_
      refine zcall_v hP hD hS hA [0, 1] [2, 3] (va_runV (As := [.int 99]) (rest := []) ⟨hx, hb, hml, hown, hts⟩ (c_M_say l dC dI ad a_this a_units a_kinds a_values a_names a_low a_high a_told a_leftOut a_isMade a_hands a_pad a_court a_title a_out k_out _ 99 v_this_thrown v_this_size v_this_families v_this_atHand v_this_family v_this_density v_this_pads v_this_hasThermal v_this_titleSize u_this_written v_this_at v_this_begin v_this_words v_this_paste0 u_out _ h) ⟨callB_of 1 hts (zgood zc_M_say) rfl rfl rfl (hts _ zw_107) (hts _ zw_1263) (by decide +kernel) ⟨Nat.le_of_ble_eq_true rfl, Nat.le_of_ble_eq_true rfl⟩, (hts _ zw_1265), (hts _ zw_86)⟩ (zpreV hE hK hP hD hS hA [0, 1] [0] (by rfl) (by rfl) (by decide) (ci := 10) (q0 := 0) rfl (by rfl)) rfl rfl hl.1 rfl (lv_room (Nat.le_of_ble_eq_true rfl)) dM_findText_58 ⟨Nat.le_of_ble_eq_true rfl, Nat.le_of_ble_eq_true rfl⟩) (by rfl) (by rfl) (by decide) (by decide) (fun u H locs h hP hD hS => ?_)
      obtain ⟨u2, u3⟩ := u
      try dsimp only at h
      have hP := hP.sub (ws' := (w_M_findText ad a_this a_units a_kinds a_values a_names a_low a_high a_told a_leftOut a_isMade a_hands a_pad a_court a_title a_out k_out k_pad k_court v_this_thrown v_this_size v_this_families v_this_atHand v_this_family v_this_density v_this_pads v_this_hasThermal v_this_titleSize u2 v_this_at v_this_begin v_this_words v_this_paste0 u3 v_pad v_court)) [2, 3, 0, 1] rfl
      have hD := hD.sub (ws' := (w_M_findText ad a_this a_units a_kinds a_values a_names a_low a_high a_told a_leftOut a_isMade a_hands a_pad a_court a_title a_out k_out k_pad k_court v_this_thrown v_this_size v_this_families v_this_atHand v_this_family v_this_density v_this_pads v_this_hasThermal v_this_titleSize u2 v_this_at v_this_begin v_this_words v_this_paste0 u3 v_pad v_court)) [2, 3, 0, 1] (by decide) rfl
      refine lv_aload_n hx hb dM_findText_61 rfl (lv_at hl 0 rfl) ?_
      refine lv_bipush (v := 111) hx hb dM_findText_62 (by decide) ?_
      refine zcall_v hP hD hS hA [0, 1] [2, 3] (va_runV (As := [.int 111]) (rest := []) ⟨hx, hb, hml, hown, hts⟩ (c_M_say l dC dI ad a_this a_units a_kinds a_values a_names a_low a_high a_told a_leftOut a_isMade a_hands a_pad a_court a_title a_out k_out _ 111 v_this_thrown v_this_size v_this_families v_this_atHand v_this_family v_this_density v_this_pads v_this_hasThermal v_this_titleSize u2 v_this_at v_this_begin v_this_words v_this_paste0 u3 _ h) ⟨callB_of 1 hts (zgood zc_M_say) rfl rfl rfl (hts _ zw_107) (hts _ zw_1263) (by decide +kernel) ⟨Nat.le_of_ble_eq_true rfl, Nat.le_of_ble_eq_true rfl⟩, (hts _ zw_1265), (hts _ zw_86)⟩ (zpreV hE hK hP hD hS hA [0, 1] [0] (by rfl) (by rfl) (by decide) (ci := 10) (q0 := 0) rfl (by rfl)) rfl rfl hl.1 rfl (lv_room (Nat.le_of_ble_eq_true rfl)) dM_findText_64 ⟨Nat.le_of_ble_eq_true rfl, Nat.le_of_ble_eq_true rfl⟩) (by rfl) (by rfl) (by decide) (by decide) (fun u H locs h hP hD hS => ?_)
      obtain ⟨u4, u5⟩ := u
      try dsimp only at h
      have hP := hP.sub (ws' := (w_M_findText ad a_this a_units a_kinds a_values a_names a_low a_high a_told a_leftOut a_isMade a_hands a_pad a_court a_title a_out k_out k_pad k_court v_this_thrown v_this_size v_this_families v_this_atHand v_this_family v_this_density v_this_pads v_this_hasThermal v_this_titleSize u4 v_this_at v_this_begin v_this_words v_this_paste0 u5 v_pad v_court)) [2, 3, 0, 1] rfl
      have hD := hD.sub (ws' := (w_M_findText ad a_this a_units a_kinds a_values a_names a_low a_high a_told a_leftOut a_isMade a_hands a_pad a_court a_title a_out k_out k_pad k_court v_this_thrown v_this_size v_this_families v_this_atHand v_this_family v_this_density v_this_pads v_this_hasThermal v_this_titleSize u4 v_this_at v_this_begin v_this_words v_this_paste0 u5 v_pad v_court)) [2, 3, 0, 1] (by decide) rfl
      refine lv_aload_n hx hb dM_findText_67 rfl (lv_at hl 0 rfl) ?_
      refine lv_bipush (v := 117) hx hb dM_findText_68 (by decide) ?_
      refine zcall_v hP hD hS hA [0, 1] [2, 3] (va_runV (As := [.int 117]) (rest := []) ⟨hx, hb, hml, hown, hts⟩ (c_M_say l dC dI ad a_this a_units a_kinds a_values a_names a_low a_high a_told a_leftOut a_isMade a_hands a_pad a_court a_title a_out k_out _ 117 v_this_thrown v_this_size v_this_families v_this_atHand v_this_family v_this_density v_this_pads v_this_hasThermal v_this_titleSize u4 v_this_at v_this_begin v_this_words v_this_paste0 u5 _ h) ⟨callB_of 1 hts (zgood zc_M_say) rfl rfl rfl (hts _ zw_107) (hts _ zw_1263) (by decide +kernel) ⟨Nat.le_of_ble_eq_true rfl, Nat.le_of_ble_eq_true rfl⟩, (hts _ zw_1265), (hts _ zw_86)⟩ (zpreV hE hK hP hD hS hA [0, 1] [0] (by rfl) (by rfl) (by decide) (ci := 10) (q0 := 0) rfl (by rfl)) rfl rfl hl.1 rfl (lv_room (Nat.le_of_ble_eq_true rfl)) dM_findText_70 ⟨Nat.le_of_ble_eq_true rfl, Nat.le_of_ble_eq_true rfl⟩) (by rfl) (by rfl) (by decide) (by decide) (fun u H locs h hP hD hS => ?_)
      obtain ⟨u6, u7⟩ := u
      try dsimp only at h
      have hP := hP.sub (ws' := (w_M_findText ad a_this a_units a_kinds a_values a_names a_low a_high a_told a_leftOut a_isMade a_hands a_pad a_court a_title a_out k_out k_pad k_court v_this_thrown v_this_size v_this_families v_this_atHand v_this_family v_this_density v_this_pads v_this_hasThermal v_this_titleSize u6 v_this_at v_this_begin v_this_words v_this_paste0 u7 v_pad v_court)) [2, 3, 0, 1] rfl
      have hD := hD.sub (ws' := (w_M_findText ad a_this a_units a_kinds a_values a_names a_low a_high a_told a_leftOut a_isMade a_hands a_pad a_court a_title a_out k_out k_pad k_court v_this_thrown v_this_size v_this_families v_this_atHand v_this_family v_this_density v_this_pads v_this_hasThermal v_this_titleSize u6 v_this_at v_this_begin v_this_words v_this_paste0 u7 v_pad v_court)) [2, 3, 0, 1] (by decide) rfl
      refine lv_aload_n hx hb dM_findText_73 rfl (lv_at hl 0 rfl) ?_
      refine lv_bipush (v := 114) hx hb dM_findText_74 (by decide) ?_
      refine zcall_v hP hD hS hA [0, 1] [2, 3] (va_runV (As := [.int 114]) (rest := []) ⟨hx, hb, hml, hown, hts⟩ (c_M_say l dC dI ad a_this a_units a_kinds a_values a_names a_low a_high a_told a_leftOut a_isMade a_hands a_pad a_court a_title a_out k_out _ 114 v_this_thrown v_this_size v_this_families v_this_atHand v_this_family v_this_density v_this_pads v_this_hasThermal v_this_titleSize u6 v_this_at v_this_begin v_this_words v_this_paste0 u7 _ h) ⟨callB_of 1 hts (zgood zc_M_say) rfl rfl rfl (hts _ zw_107) (hts _ zw_1263) (by decide +kernel) ⟨Nat.le_of_ble_eq_true rfl, Nat.le_of_ble_eq_true rfl⟩, (hts _ zw_1265), (hts _ zw_86)⟩ (zpreV hE hK hP hD hS hA [0, 1] [0] (by rfl) (by rfl) (by decide) (ci := 10) (q0 := 0) rfl (by rfl)) rfl rfl hl.1 rfl (lv_room (Nat.le_of_ble_eq_true rfl)) dM_findText_76 ⟨Nat.le_of_ble_eq_true rfl, Nat.le_of_ble_eq_true rfl⟩) (by rfl) (by rfl) (by decide) (by decide) (fun u H locs h hP hD hS => ?_)
      obtain ⟨u8, u9⟩ := u
      try dsimp only at h
      have hP := hP.sub (ws' := (w_M_findText ad a_this a_units a_kinds a_values a_names a_low a_high a_told a_leftOut a_isMade a_hands a_pad a_court a_title a_out k_out k_pad k_court v_this_thrown v_this_size v_this_families v_this_atHand v_this_family v_this_density v_this_pads v_this_hasThermal v_this_titleSize u8 v_this_at v_this_begin v_this_words v_this_paste0 u9 v_pad v_court)) [2, 3, 0, 1] rfl
      have hD := hD.sub (ws' := (w_M_findText ad a_this a_units a_kinds a_values a_names a_low a_high a_told a_leftOut a_isMade a_hands a_pad a_court a_title a_out k_out k_pad k_court v_this_thrown v_this_size v_this_families v_this_atHand v_this_family v_this_density v_this_pads v_this_hasThermal v_this_titleSize u8 v_this_at v_this_begin v_this_words v_this_paste0 u9 v_pad v_court)) [2, 3, 0, 1] (by decide) rfl
      refine lv_aload_n hx hb dM_findText_79 rfl (lv_at hl 0 rfl) ?_
      refine lv_bipush (v := 116) hx hb dM_findText_80 (by decide) ?_
      refine zcall_v hP hD hS hA [0, 1] [2, 3] (va_runV (As := [.int 116]) (rest := []) ⟨hx, hb, hml, hown, hts⟩ (c_M_say l dC dI ad a_this a_units a_kinds a_values a_names a_low a_high a_told a_leftOut a_isMade a_hands a_pad a_court a_title a_out k_out _ 116 v_this_thrown v_this_size v_this_families v_this_atHand v_this_family v_this_density v_this_pads v_this_hasThermal v_this_titleSize u8 v_this_at v_this_begin v_this_words v_this_paste0 u9 _ h) ⟨callB_of 1 hts (zgood zc_M_say) rfl rfl rfl (hts _ zw_107) (hts _ zw_1263) (by decide +kernel) ⟨Nat.le_of_ble_eq_true rfl, Nat.le_of_ble_eq_true rfl⟩, (hts _ zw_1265), (hts _ zw_86)⟩ (zpreV hE hK hP hD hS hA [0, 1] [0] (by rfl) (by rfl) (by decide) (ci := 10) (q0 := 0) rfl (by rfl)) rfl rfl hl.1 rfl (lv_room (Nat.le_of_ble_eq_true rfl)) dM_findText_82 ⟨Nat.le_of_ble_eq_true rfl, Nat.le_of_ble_eq_true rfl⟩) (by rfl) (by rfl) (by decide) (by decide) (fun u H locs h hP hD hS => ?_)
      obtain ⟨u10, u11⟩ := u
      try dsimp only at h
      have hP := hP.sub (ws' := (w_M_findText ad a_this a_units a_kinds a_values a_names a_low a_high a_told a_leftOut a_isMade a_hands a_pad a_court a_title a_out k_out k_pad k_court v_this_thrown v_this_size v_this_families v_this_atHand v_this_family v_this_density v_this_pads v_this_hasThermal v_this_titleSize u10 v_this_at v_this_begin v_this_words v_this_paste0 u11 v_pad v_court)) [2, 3, 0, 1] rfl
      have hD := hD.sub (ws' := (w_M_findText ad a_this a_units a_kinds a_values a_names a_low a_high a_told a_leftOut a_isMade a_hands a_pad a_court a_title a_out k_out k_pad k_court v_this_thrown v_this_size v_this_families v_this_atHand v_this_family v_this_density v_this_pads v_this_hasThermal v_this_titleSize u10 v_this_at v_this_begin v_this_words v_this_paste0 u11 v_pad v_court)) [2, 3, 0, 1] (by decide) rfl
      refine lv_iconst (v := 0) hx hb dM_findText_85 (by decide) ?_
      refine lv_istore_n (lv' := [(1, .int 0), (0, .ref a_this)]) hx hb dM_findText_86 rfl hl (by decide) rfl (fun ls hl => ?_)
      obtain ⟨n12, h⟩ := h
      exact w_M_findText_87 l C0 hE a_this a_units a_kinds a_values a_names a_low a_high a_told a_leftOut a_isMade a_hands a_pad a_court a_title a_out k_out k_pad k_court v_this_thrown v_this_size v_this_families v_this_atHand v_this_family v_this_density v_this_pads v_this_hasThermal v_this_titleSize v_this_written v_this_at v_this_begin v_this_words v_this_paste0 v_out v_pad v_court post hK n12 0 u10 u11 _ _ h hP hD hS ls (lv_sub hl [1, 0] rfl)
    · intro c1
      replace h := h.2 c1
      refine lv_aload_n hx hb dM_findText_19 rfl (lv_at hl 0 rfl) ?_
      refine lv_aload_n hx hb dM_findText_20 rfl (lv_at hl 0 rfl) ?_
      refine va_get (D := (dC, dI)) (ci := 10) (v := .ref a_pad) (C := RM) (T := TM) (N := 28) hx hb hts inZ_M hown hK hP 0 rfl rfl 17 (by decide) (hts _ zw_1061) (fun _ h9 => h9) rfl dM_findText_21 ?_
      refine lv_iload_n hx hb dM_findText_24 rfl (lv_at hl 1 rfl) ?_
      obtain ⟨hn13, h⟩ := h
      refine va_lald hx hb hK hP 2 1 rfl rfl hn13 dM_findText_25 ?_
      refine zcall_v hP hD hS hA [0, 1] [2, 3] (va_runV (As := [.long (v_pad y1.toNatClampNeg)]) (rest := []) ⟨hx, hb, hml, hown, hts⟩ (c_M_sayNumber l dC dI ad a_this a_units a_kinds a_values a_names a_low a_high a_told a_leftOut a_isMade a_hands a_pad a_court a_title a_out k_out _ (v_pad y1.toNatClampNeg) v_this_thrown v_this_size v_this_families v_this_atHand v_this_family v_this_density v_this_pads v_this_hasThermal v_this_titleSize u_this_written v_this_at v_this_begin v_this_words v_this_paste0 u_out _ h) ⟨callB_of 1 hts (zgood zc_M_sayNumber) rfl rfl rfl (hts _ zw_107) (hts _ zw_1267) (by decide +kernel) ⟨Nat.le_of_ble_eq_true rfl, Nat.le_of_ble_eq_true rfl⟩, (hts _ zw_1269), (hts _ zw_87)⟩ (zpreV hE hK hP hD hS hA [0, 1] [0] (by rfl) (by rfl) (by decide) (ci := 10) (q0 := 0) rfl (by rfl)) rfl rfl hl.1 rfl (lv_room (Nat.le_of_ble_eq_true rfl)) dM_findText_26 ⟨Nat.le_of_ble_eq_true rfl, Nat.le_of_ble_eq_true rfl⟩) (by rfl) (by rfl) (by decide) (by decide) (fun u H locs h hP hD hS => ?_)
      obtain ⟨u14, u15⟩ := u
      try dsimp only at h
      have hP := hP.sub (ws' := (w_M_findText ad a_this a_units a_kinds a_values a_names a_low a_high a_told a_leftOut a_isMade a_hands a_pad a_court a_title a_out k_out k_pad k_court v_this_thrown v_this_size v_this_families v_this_atHand v_this_family v_this_density v_this_pads v_this_hasThermal v_this_titleSize u14 v_this_at v_this_begin v_this_words v_this_paste0 u15 v_pad v_court)) [2, 3, 0, 1] rfl
      have hD := hD.sub (ws' := (w_M_findText ad a_this a_units a_kinds a_values a_names a_low a_high a_told a_leftOut a_isMade a_hands a_pad a_court a_title a_out k_out k_pad k_court v_this_thrown v_this_size v_this_families v_this_atHand v_this_family v_this_density v_this_pads v_this_hasThermal v_this_titleSize u14 v_this_at v_this_begin v_this_words v_this_paste0 u15 v_pad v_court)) [2, 3, 0, 1] (by decide) rfl
      refine lv_aload_n hx hb dM_findText_29 rfl (lv_at hl 0 rfl) ?_
      refine lv_iload_n hx hb dM_findText_30 rfl (lv_at hl 1 rfl) ?_
      refine lv_bipush (v := 7) hx hb dM_findText_31 (by decide) ?_
      refine lv_irem hx hb dM_findText_33 (by decide) ?_
      refine lv_bipush (v := 6) hx hb dM_findText_34 (by decide) ?_
      refine lv_icmp_ne (tgt := 44) hx hb dM_findText_36 (by decide) ?_ ?_
      · intro c16
        replace h := h.1 c16
        refine lv_bipush (v := 32) hx hb dM_findText_44 (by decide) ?_
        exact w_M_findText_46 l C0 hE a_this a_units a_kinds a_values a_names a_low a_high a_told a_leftOut a_isMade a_hands a_pad a_court a_title a_out k_out k_pad k_court v_this_thrown v_this_size v_this_families v_this_atHand v_this_family v_this_density v_this_pads v_this_hasThermal v_this_titleSize v_this_written v_this_at v_this_begin v_this_words v_this_paste0 v_out v_pad v_court post (P_M_findText_8 v_this_pads v_pad v_court post n) ih hK y1 32 u14 u15 _ _ h hP hD hS ls (lv_sub hl [0, 1] rfl)
      · intro c16
        replace h := h.2 c16
        refine lv_bipush (v := 10) hx hb dM_findText_39 (by decide) ?_
        refine lv_goto (tgt := 46) hx hb dM_findText_41 (by decide) ?_
        exact w_M_findText_46 l C0 hE a_this a_units a_kinds a_values a_names a_low a_high a_told a_leftOut a_isMade a_hands a_pad a_court a_title a_out k_out k_pad k_court v_this_thrown v_this_size v_this_families v_this_atHand v_this_family v_this_density v_this_pads v_this_hasThermal v_this_titleSize v_this_written v_this_at v_this_begin v_this_words v_this_paste0 v_out v_pad v_court post (P_M_findText_8 v_this_pads v_pad v_court post n) ih hK y1 10 u14 u15 _ _ h hP hD hS ls (lv_sub hl [0, 1] rfl)
def P_M_findText (v_this_pads : Int32) (v_this_written : Int32) (v_out : Nat → Int32) (v_pad : Nat → Int64) (v_court : Nat → Int64) (post : Int32 → (Nat → Int32) → Prop) : Prop := P_M_say 10 v_this_written v_out (fun (u1 : Int32) (u2 : Nat → Int32) => ∃ n3, P_M_findText_8 v_this_pads v_pad v_court post n3 0 u1 u2)
set_option maxHeartbeats 4000000 in
set_option maxRecDepth 100000 in
theorem c_M_findText (l : Launch) (dC : Nat → ClassId) (dI : Nat → Nat → Nat) (ad : Nat → Nat → Nat) (a_this : Nat) (a_units : Nat) (a_kinds : Nat) (a_values : Nat) (a_names : Nat) (a_low : Nat) (a_high : Nat) (a_told : Nat) (a_leftOut : Nat) (a_isMade : Nat) (a_hands : Nat) (a_pad : Nat) (a_court : Nat) (a_title : Nat) (a_out : Nat) (k_out : ClassId) (k_pad : ClassId) (k_court : ClassId) (sz : Nat) (v_this_thrown : Int32) (v_this_size : Int32) (v_this_families : Int32) (v_this_atHand : Int32) (v_this_family : Int32) (v_this_density : Int32) (v_this_pads : Int32) (v_this_hasThermal : Int32) (v_this_titleSize : Int32) (v_this_written : Int32) (v_this_at : Int32) (v_this_begin : Int32) (v_this_words : Int32) (v_this_paste0 : Int64) (v_out : Nat → Int32) (v_pad : Nat → Int64) (v_court : Nat → Int64) (post : Int32 → (Nat → Int32) → Prop) (h : P_M_findText v_this_pads v_this_written v_out v_pad v_court post) : zMv l yM_findText wsM_findText { frames := 2, cells := 0, slots := 0, locals := 47 } (dC, dI) ad [.ref a_this] (w_M_findText ad a_this a_units a_kinds a_values a_names a_low a_high a_told a_leftOut a_isMade a_hands a_pad a_court a_title a_out k_out k_pad k_court v_this_thrown v_this_size v_this_families v_this_atHand v_this_family v_this_density v_this_pads v_this_hasThermal v_this_titleSize v_this_written v_this_at v_this_begin v_this_words v_this_paste0 v_out v_pad v_court) [(k_out, .int), (k_pad, .long), (k_court, .long)] sz (fun (u : Int32 × (Nat → Int32)) => post u.1 u.2) (fun (u : Int32 × (Nat → Int32)) => (w_M_findText ad a_this a_units a_kinds a_values a_names a_low a_high a_told a_leftOut a_isMade a_hands a_pad a_court a_title a_out k_out k_pad k_court v_this_thrown v_this_size v_this_families v_this_atHand v_this_family v_this_density v_this_pads v_this_hasThermal v_this_titleSize u.1 v_this_at v_this_begin v_this_words v_this_paste0 u.2 v_pad v_court)) 0 0 := by
  refine Met.ofW (cc := cM_findText) (maxL := 2) (ret := none) (by decide +kernel) rfl ?_
  intro p e s m args below meth c s₁ B hml hv
  obtain ⟨rfl, hsz, hP, hK, hD0, hE⟩ := hv
  have hx := B.exec
  have hb := B.bytes
  have hr := B.returns
  have hts0 := atoms_spec (ws := wsM_findText) B.pre
  have hts := fun w h => hts0 w (List.mem_cons_of_mem _ h)
  have hown : s.vm.findClass RM = some m.cls := findClass_of_methodNamed B.named
  have hlocks := B.notSynchronized
  subst hsz
  have hD := hD0.self (sz := s.heap.size)
  generalize hAe : va_A (w_M_findText ad a_this a_units a_kinds a_values a_names a_low a_high a_told a_leftOut a_isMade a_hands a_pad a_court a_title a_out k_out k_pad k_court v_this_thrown v_this_size v_this_families v_this_atHand v_this_family v_this_density v_this_pads v_this_hasThermal v_this_titleSize v_this_written v_this_at v_this_begin v_this_words v_this_paste0 v_out v_pad v_court) s.heap.size = A at hD hE ⊢
  have hA : ∀ q : Nat, s.heap.size ≤ q → A q := fun q h => by rw [← hAe]; exact Or.inr h
  have C0 := zC.mk hx hb hr hml hown hts hlocks hA
  have hS : va_S A s.heap s.heap [] := va_S.rf
  have hl := lv_entry ([.ref a_this]) (n := 2) (Nat.le_of_ble_eq_true rfl)
  rw [lg_entry_eq]
  generalize (lg_sl ([.ref a_this]) ++ List.replicate (2 - (lg_sl ([.ref a_this])).length) Slot.unset).toArray = ls at hl ⊢
  have hl : lv_has ls 2 [(0, .ref a_this)] := hl
  unfold P_M_findText at h
  refine lv_aload_n hx hb dM_findText_0 rfl (lv_at hl 0 rfl) ?_
  refine lv_bipush (v := 10) hx hb dM_findText_1 (by decide) ?_
  refine zcall_v hP hD hS hA [0, 1] [2, 3] (va_runV (As := [.int 10]) (rest := []) ⟨hx, hb, hml, hown, hts⟩ (c_M_say l dC dI ad a_this a_units a_kinds a_values a_names a_low a_high a_told a_leftOut a_isMade a_hands a_pad a_court a_title a_out k_out _ 10 v_this_thrown v_this_size v_this_families v_this_atHand v_this_family v_this_density v_this_pads v_this_hasThermal v_this_titleSize v_this_written v_this_at v_this_begin v_this_words v_this_paste0 v_out _ h) ⟨callB_of 1 hts (zgood zc_M_say) rfl rfl rfl (hts _ zw_107) (hts _ zw_1263) (by decide +kernel) ⟨Nat.le_of_ble_eq_true rfl, Nat.le_of_ble_eq_true rfl⟩, (hts _ zw_1265), (hts _ zw_86)⟩ (zpreV hE hK hP hD hS hA [0, 1] [0] (by rfl) (by rfl) (by decide) (ci := 10) (q0 := 0) rfl (by rfl)) rfl rfl hl.1 rfl (lv_room (Nat.le_of_ble_eq_true rfl)) dM_findText_3 ⟨Nat.le_of_ble_eq_true rfl, Nat.le_of_ble_eq_true rfl⟩) (by rfl) (by rfl) (by decide) (by decide) (fun u H locs h hP hD hS => ?_)
  obtain ⟨u1, u2⟩ := u
  try dsimp only at h
  have hP := hP.sub (ws' := (w_M_findText ad a_this a_units a_kinds a_values a_names a_low a_high a_told a_leftOut a_isMade a_hands a_pad a_court a_title a_out k_out k_pad k_court v_this_thrown v_this_size v_this_families v_this_atHand v_this_family v_this_density v_this_pads v_this_hasThermal v_this_titleSize u1 v_this_at v_this_begin v_this_words v_this_paste0 u2 v_pad v_court)) [2, 3, 0, 1] rfl
  have hD := hD.sub (ws' := (w_M_findText ad a_this a_units a_kinds a_values a_names a_low a_high a_told a_leftOut a_isMade a_hands a_pad a_court a_title a_out k_out k_pad k_court v_this_thrown v_this_size v_this_families v_this_atHand v_this_family v_this_density v_this_pads v_this_hasThermal v_this_titleSize u1 v_this_at v_this_begin v_this_words v_this_paste0 u2 v_pad v_court)) [2, 3, 0, 1] (by decide) rfl
  refine lv_iconst (v := 0) hx hb dM_findText_6 (by decide) ?_
  refine lv_istore_n (lv' := [(1, .int 0), (0, .ref a_this)]) hx hb dM_findText_7 rfl hl (by decide) rfl (fun ls hl => ?_)
  obtain ⟨n3, h⟩ := h
  exact w_M_findText_8 l C0 hE a_this a_units a_kinds a_values a_names a_low a_high a_told a_leftOut a_isMade a_hands a_pad a_court a_title a_out k_out k_pad k_court v_this_thrown v_this_size v_this_families v_this_atHand v_this_family v_this_density v_this_pads v_this_hasThermal v_this_titleSize v_this_written v_this_at v_this_begin v_this_words v_this_paste0 v_out v_pad v_court post hK n3 0 u1 u2 _ _ h hP hD hS ls (lv_sub hl [1, 0] rfl)
