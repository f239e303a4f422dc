abbrev yM_make : MethodName := ⟨"FootprintRulesModel", "make", "(II)I"⟩
abbrev cM_make : ByteArray := prog_14_method_32_code
abbrev wsM_make : List Cond := .code yM_make cM_make 5 (some .int) :: zT
set_option maxRecDepth 100000 in
theorem zc_M_make : Cond.code yM_make cM_make 5 (some .int) ∈ zT := zm 1200 (by rfl) (by rfl)
theorem dM_make_0 : decode cM_make 0 = .ok (.aload_n 0, 1) := by decide +kernel
theorem dM_make_1 : decode cM_make 1 = .ok (.iload_n 1, 1) := by decide +kernel
theorem dM_make_2 : decode cM_make 2 = .ok (.ifCond .lt 11, 3) := by decide +kernel
theorem dM_make_5 : decode cM_make 5 = .ok (.iload_n 1, 1) := by decide +kernel
theorem dM_make_6 : decode cM_make 6 = .ok (.aload_n 0, 1) := by decide +kernel
theorem dM_make_7 : decode cM_make 7 = .ok (.getfield 108, 3) := by decide +kernel
theorem dM_make_10 : decode cM_make 10 = .ok (.if_icmp .lt 7, 3) := by decide +kernel
theorem dM_make_13 : decode cM_make 13 = .ok (.iconst 1, 1) := by decide +kernel
theorem dM_make_14 : decode cM_make 14 = .ok (.goto 17, 3) := by decide +kernel
theorem dM_make_17 : decode cM_make 17 = .ok (.iload_n 2, 1) := by decide +kernel
theorem dM_make_18 : decode cM_make 18 = .ok (.ifCond .lt 8, 3) := by decide +kernel
theorem dM_make_21 : decode cM_make 21 = .ok (.iload_n 2, 1) := by decide +kernel
theorem dM_make_22 : decode cM_make 22 = .ok (.iconst 2, 1) := by decide +kernel
theorem dM_make_23 : decode cM_make 23 = .ok (.if_icmp .le 7, 3) := by decide +kernel
theorem dM_make_26 : decode cM_make 26 = .ok (.iconst 2, 1) := by decide +kernel
theorem dM_make_27 : decode cM_make 27 = .ok (.goto 4, 3) := by decide +kernel
theorem dM_make_30 : decode cM_make 30 = .ok (.iconst 0, 1) := by decide +kernel
theorem dM_make_31 : decode cM_make 31 = .ok (.putfield 54, 3) := by decide +kernel
theorem dM_make_34 : decode cM_make 34 = .ok (.aload_n 0, 1) := by decide +kernel
theorem dM_make_35 : decode cM_make 35 = .ok (.getfield 54, 3) := by decide +kernel
theorem dM_make_38 : decode cM_make 38 = .ok (.ifCond .eq 5, 3) := by decide +kernel
theorem dM_make_41 : decode cM_make 41 = .ok (.iconst 0, 1) := by decide +kernel
theorem dM_make_42 : decode cM_make 42 = .ok (.ireturn, 1) := by decide +kernel
theorem dM_make_43 : decode cM_make 43 = .ok (.aload_n 0, 1) := by decide +kernel
theorem dM_make_44 : decode cM_make 44 = .ok (.iload_n 1, 1) := by decide +kernel
theorem dM_make_45 : decode cM_make 45 = .ok (.putfield 128, 3) := by decide +kernel
theorem dM_make_48 : decode cM_make 48 = .ok (.aload_n 0, 1) := by decide +kernel
theorem dM_make_49 : decode cM_make 49 = .ok (.iload_n 2, 1) := by decide +kernel
theorem dM_make_50 : decode cM_make 50 = .ok (.putfield 131, 3) := by decide +kernel
theorem dM_make_53 : decode cM_make 53 = .ok (.aload_n 0, 1) := by decide +kernel
theorem dM_make_54 : decode cM_make 54 = .ok (.iconst 0, 1) := by decide +kernel
theorem dM_make_55 : decode cM_make 55 = .ok (.putfield 134, 3) := by decide +kernel
theorem dM_make_58 : decode cM_make 58 = .ok (.aload_n 0, 1) := by decide +kernel
theorem dM_make_59 : decode cM_make 59 = .ok (.iconst 0, 1) := by decide +kernel
theorem dM_make_60 : decode cM_make 60 = .ok (.putfield 172, 3) := by decide +kernel
theorem dM_make_63 : decode cM_make 63 = .ok (.aload_n 0, 1) := by decide +kernel
theorem dM_make_64 : decode cM_make 64 = .ok (.iconst 4, 1) := by decide +kernel
theorem dM_make_65 : decode cM_make 65 = .ok (.invokevirtual 142, 3) := by decide +kernel
theorem dM_make_68 : decode cM_make 68 = .ok (.lstore_n 3, 1) := by decide +kernel
theorem dM_make_69 : decode cM_make 69 = .ok (.aload_n 0, 1) := by decide +kernel
theorem dM_make_70 : decode cM_make 70 = .ok (.aload_n 0, 1) := by decide +kernel
theorem dM_make_71 : decode cM_make 71 = .ok (.getfield 13, 3) := by decide +kernel
theorem dM_make_74 : decode cM_make 74 = .ok (.iload_n 1, 1) := by decide +kernel
theorem dM_make_75 : decode cM_make 75 = .ok (.iaload, 1) := by decide +kernel
theorem dM_make_76 : decode cM_make 76 = .ok (.iconst 3, 1) := by decide +kernel
theorem dM_make_77 : decode cM_make 77 = .ok (.if_icmp .ne 11, 3) := by decide +kernel
theorem dM_make_80 : decode cM_make 80 = .ok (.aload_n 0, 1) := by decide +kernel
theorem dM_make_81 : decode cM_make 81 = .ok (.lload_n 3, 1) := by decide +kernel
theorem dM_make_82 : decode cM_make 82 = .ok (.invokevirtual 185, 3) := by decide +kernel
theorem dM_make_85 : decode cM_make 85 = .ok (.goto 32, 3) := by decide +kernel
theorem dM_make_88 : decode cM_make 88 = .ok (.aload_n 0, 1) := by decide +kernel
theorem dM_make_89 : decode cM_make 89 = .ok (.getfield 13, 3) := by decide +kernel
theorem dM_make_92 : decode cM_make 92 = .ok (.iload_n 1, 1) := by decide +kernel
theorem dM_make_93 : decode cM_make 93 = .ok (.iaload, 1) := by decide +kernel
theorem dM_make_94 : decode cM_make 94 = .ok (.iconst 4, 1) := by decide +kernel
theorem dM_make_95 : decode cM_make 95 = .ok (.if_icmp .ne 11, 3) := by decide +kernel
theorem dM_make_98 : decode cM_make 98 = .ok (.aload_n 0, 1) := by decide +kernel
theorem dM_make_99 : decode cM_make 99 = .ok (.lload_n 3, 1) := by decide +kernel
theorem dM_make_100 : decode cM_make 100 = .ok (.invokevirtual 189, 3) := by decide +kernel
theorem dM_make_103 : decode cM_make 103 = .ok (.goto 14, 3) := by decide +kernel
theorem dM_make_106 : decode cM_make 106 = .ok (.aload_n 0, 1) := by decide +kernel
theorem dM_make_107 : decode cM_make 107 = .ok (.aload_n 0, 1) := by decide +kernel
theorem dM_make_108 : decode cM_make 108 = .ok (.getfield 13, 3) := by decide +kernel
theorem dM_make_111 : decode cM_make 111 = .ok (.iload_n 1, 1) := by decide +kernel
theorem dM_make_112 : decode cM_make 112 = .ok (.iaload, 1) := by decide +kernel
theorem dM_make_113 : decode cM_make 113 = .ok (.lload_n 3, 1) := by decide +kernel
theorem dM_make_114 : decode cM_make 114 = .ok (.invokevirtual 192, 3) := by decide +kernel
theorem dM_make_117 : decode cM_make 117 = .ok (.putfield 124, 3) := by decide +kernel
theorem dM_make_120 : decode cM_make 120 = .ok (.aload_n 0, 1) := by decide +kernel
theorem dM_make_121 : decode cM_make 121 = .ok (.getfield 124, 3) := by decide +kernel
theorem dM_make_124 : decode cM_make 124 = .ok (.ifCond .ne 5, 3) := by decide +kernel
theorem dM_make_127 : decode cM_make 127 = .ok (.iconst (-1), 1) := by decide +kernel
theorem dM_make_128 : decode cM_make 128 = .ok (.ireturn, 1) := by decide +kernel
theorem dM_make_129 : decode cM_make 129 = .ok (.aload_n 0, 1) := by decide +kernel
theorem dM_make_130 : decode cM_make 130 = .ok (.lload_n 3, 1) := by decide +kernel
theorem dM_make_131 : decode cM_make 131 = .ok (.invokevirtual 195, 3) := by decide +kernel
theorem dM_make_134 : decode cM_make 134 = .ok (.aload_n 0, 1) := by decide +kernel
theorem dM_make_135 : decode cM_make 135 = .ok (.aload_n 0, 1) := by decide +kernel
theorem dM_make_136 : decode cM_make 136 = .ok (.bipush 6, 2) := by decide +kernel
theorem dM_make_138 : decode cM_make 138 = .ok (.invokevirtual 142, 3) := by decide +kernel
theorem dM_make_141 : decode cM_make 141 = .ok (.putfield 199, 3) := by decide +kernel
theorem dM_make_144 : decode cM_make 144 = .ok (.aload_n 0, 1) := by decide +kernel
theorem dM_make_145 : decode cM_make 145 = .ok (.invokevirtual 203, 3) := by decide +kernel
theorem dM_make_148 : decode cM_make 148 = .ok (.aload_n 0, 1) := by decide +kernel
theorem dM_make_149 : decode cM_make 149 = .ok (.invokevirtual 206, 3) := by decide +kernel
theorem dM_make_152 : decode cM_make 152 = .ok (.aload_n 0, 1) := by decide +kernel
theorem dM_make_153 : decode cM_make 153 = .ok (.getfield 134, 3) := by decide +kernel
theorem dM_make_156 : decode cM_make 156 = .ok (.ireturn, 1) := by decide +kernel
-- FootprintRulesModel.make(II)I
abbrev w_M_make (ad : Nat → Nat → Nat) (a_this : Nat) (a_units : Nat) (a_kinds : Nat) (a_values : Nat) (a_names : Nat) (a_low : Nat) (a_high : Nat) (a_told : Nat) (a_leftOut : Nat) (a_isMade : Nat) (a_hands : Nat) (a_pad : Nat) (a_court : Nat) (a_title : Nat) (a_out : Nat) (k_values : ClassId) (k_kinds : ClassId) (k_told : ClassId) (k_high : ClassId) (k_low : ClassId) (k_pad : ClassId) (k_leftOut : ClassId) (k_court : ClassId) (k_names : ClassId) (k_out : ClassId) (k_title : ClassId) (v_this_thrown : Int32) (v_this_size : Int32) (v_this_families : Int32) (v_this_atHand : Int32) (v_this_family : Int32) (v_this_density : Int32) (v_this_pads : Int32) (v_this_hasThermal : Int32) (v_this_titleSize : Int32) (v_this_written : Int32) (v_this_at : Int32) (v_this_begin : Int32) (v_this_words : Int32) (v_this_paste0 : Int64) (v_values : Nat → Int64) (v_kinds : Nat → Int32) (v_told : Nat → Int32) (v_high : Nat → Int64) (v_low : Nat → Int64) (v_pad : Nat → Int64) (v_leftOut : Nat → Int32) (v_court : Nat → Int64) (v_names : Nat → Int64) (v_out : Nat → Int32) (v_title : Nat → Int32) : va_W := [(a_this, .inr (10, [.int v_this_thrown, .ref a_units, .int v_this_size, .int v_this_families, .ref a_kinds, .ref a_values, .ref a_names, .ref a_low, .ref a_high, .ref a_told, .ref a_leftOut, .ref a_isMade, .ref a_hands, .int v_this_atHand, .int v_this_family, .int v_this_density, .int v_this_pads, .ref a_pad, .ref a_court, .int v_this_hasThermal, .ref a_title, .int v_this_titleSize, .ref a_out, .int v_this_written, .int v_this_at, .int v_this_begin, .int v_this_words, .long v_this_paste0])), (a_values, .inl (k_values, 240, .inr (.inl v_values))), (a_kinds, .inl (k_kinds, 8, .inl v_kinds)), (a_told, .inl (k_told, 12, .inl v_told)), (a_high, .inl (k_high, 12, .inr (.inl v_high))), (a_low, .inl (k_low, 12, .inr (.inl v_low))), (a_pad, .inl (k_pad, 455, .inr (.inl v_pad))), (a_leftOut, .inl (k_leftOut, 65, .inl v_leftOut)), (a_court, .inl (k_court, 4, .inr (.inl v_court))), (a_names, .inl (k_names, 8, .inr (.inl v_names))), (a_out, .inl (k_out, 8000, .inl v_out)), (a_title, .inl (k_title, 60, .inl v_title))]
def P_M_make_117 (v_this_titleSize : Int32) (v_this_written : Int32) (v_this_paste0 : Int64) (v_values : Nat → Int64) (v_told : Nat → Int32) (v_high : Nat → Int64) (v_court : Nat → Int64) (v_names : Nat → Int64) (v_out : Nat → Int32) (v_title : Nat → Int32) (post : Int32 → Int32 → Int32 → Int32 → Int32 → Int32 → Int32 → Int32 → Int32 → Int64 → (Nat → Int64) → (Nat → Int64) → (Nat → Int32) → (Nat → Int32) → Prop) (y3 : Int64) (t0 : Int32) (u_this_thrown : Int32) (u_this_family : Int32) (u_this_density : Int32) (u_this_pads : Int32) (u_this_hasThermal : Int32) (u_pad : Nat → Int64) : Prop := (narrow .boolean (.int t0) = .int t0 ∧ fits .boolean (.int t0) = true) ∧ ((¬ t0 = 0 → P_M_findCourt y3 u_this_family u_this_density u_this_pads v_court v_told v_high u_pad v_values (fun (u3 : Nat → Int64) => P_M_of 6 u_this_family u_this_density v_values (fun (r4 : Int64) => P_M_findName u_this_family u_this_density u_this_pads v_names v_out v_told v_high v_title (fun (u5 : Int32) (u6 : Int32) (u7 : Nat → Int32) (u8 : Nat → Int32) => P_M_findText u_this_pads u6 u7 u_pad u3 (fun (u9 : Int32) (u10 : Nat → Int32) => post u_this_pads u_this_thrown t0 u_this_family u_this_density u_this_pads u_this_hasThermal u5 u9 r4 u_pad u3 u10 u8))))) ∧ (t0 = 0 → post (-1) u_this_thrown t0 u_this_family u_this_density u_this_pads u_this_hasThermal v_this_titleSize v_this_written v_this_paste0 u_pad v_court v_out v_title))
set_option maxHeartbeats 4000000 in
set_option maxRecDepth 100000 in
theorem w_M_make_117 (l : Launch) {p : Program} {e : Env} {s : State} {m : MethodId} {args : Array Value} {below : List Frame} {meth : Method} {c : Code} {dC : Nat → ClassId} {dI : Nat → Nat → Nat} {ad : Nat → Nat → Nat} {A : Nat → Prop} (C0 : zC p s m args meth c cM_make 5 RM zT (some .int) A) (hE : zE ad A s) (a_this : Nat) (a_units : Nat) (a_kinds : Nat) (a_values : Nat) (a_names : Nat) (a_low : Nat) (a_high : Nat) (a_told : Nat) (a_leftOut : Nat) (a_isMade : Nat) (a_hands : Nat) (a_pad : Nat) (a_court : Nat) (a_title : Nat) (a_out : Nat) (k_values : ClassId) (k_kinds : ClassId) (k_told : ClassId) (k_high : ClassId) (k_low : ClassId) (k_pad : ClassId) (k_leftOut : ClassId) (k_court : ClassId) (k_names : ClassId) (k_out : ClassId) (k_title : ClassId) (p1 : Int32) (p2 : Int32) (v_this_thrown : Int32) (v_this_size : Int32) (v_this_families : Int32) (v_this_atHand : Int32) (v_this_family : Int32) (v_this_density : Int32) (v_this_pads : Int32) (v_this_hasThermal : Int32) (v_this_titleSize : Int32) (v_this_written : Int32) (v_this_at : Int32) (v_this_begin : Int32) (v_this_words : Int32) (v_this_paste0 : Int64) (v_values : Nat → Int64) (v_kinds : Nat → Int32) (v_told : Nat → Int32) (v_high : Nat → Int64) (v_low : Nat → Int64) (v_pad : Nat → Int64) (v_leftOut : Nat → Int32) (v_court : Nat → Int64) (v_names : Nat → Int64) (v_out : Nat → Int32) (v_title : Nat → Int32) (post : Int32 → Int32 → Int32 → Int32 → Int32 → Int32 → Int32 → Int32 → Int32 → Int64 → (Nat → Int64) → (Nat → Int64) → (Nat → Int32) → (Nat → Int32) → Prop) (hK : va_K (dC, dI) vwCl [(k_values, .long), (k_kinds, .int), (k_told, .boolean), (k_high, .long), (k_low, .long), (k_pad, .long), (k_leftOut, .boolean), (k_court, .long), (k_names, .long), (k_out, .int), (k_title, .int)] s) : ∀ (y3 : Int64) (t0 : Int32) (u_this_thrown : Int32) (u_this_family : Int32) (u_this_density : Int32) (u_this_pads : Int32) (u_this_hasThermal : Int32) (u_pad : Nat → Int64) (H : Heap) (locs : List Loc), P_M_make_117 v_this_titleSize v_this_written v_this_paste0 v_values v_told v_high v_court v_names v_out v_title post y3 t0 u_this_thrown u_this_family u_this_density u_this_pads u_this_hasThermal u_pad → va_P (dC, dI) vwCl (w_M_make ad a_this a_units a_kinds a_values a_names a_low a_high a_told a_leftOut a_isMade a_hands a_pad a_court a_title a_out k_values k_kinds k_told k_high k_low k_pad k_leftOut k_court k_names k_out k_title u_this_thrown v_this_size v_this_families v_this_atHand u_this_family u_this_density u_this_pads u_this_hasThermal v_this_titleSize v_this_written v_this_at v_this_begin v_this_words v_this_paste0 v_values v_kinds v_told v_high v_low u_pad v_leftOut v_court v_names v_out v_title) H → va_D A (w_M_make ad a_this a_units a_kinds a_values a_names a_low a_high a_told a_leftOut a_isMade a_hands a_pad a_court a_title a_out k_values k_kinds k_told k_high k_low k_pad k_leftOut k_court k_names k_out k_title u_this_thrown v_this_size v_this_families v_this_atHand u_this_family u_this_density u_this_pads u_this_hasThermal v_this_titleSize v_this_written v_this_at v_this_begin v_this_words v_this_paste0 v_values v_kinds v_told v_high v_low u_pad v_leftOut v_court v_names v_out v_title) → va_S A s.heap H locs → ∀ ls : Array Slot, lv_has ls 5 [(0, .ref a_this), (3, .long y3)] → W p l e (headSpec wsM_make { frames := 3, cells := 0, slots := 0, locals := 98 }).room s m args below meth c H locs 0 0 (MQ below (va_Qi (fun (r : Int32) (u : Int32 × Int32 × Int32 × Int32 × Int32 × Int32 × Int32 × Int32 × Int64 × (Nat → Int64) × (Nat → Int64) × (Nat → Int32) × (Nat → Int32)) => post r u.1 u.2.1 u.2.2.1 u.2.2.2.1 u.2.2.2.2.1 u.2.2.2.2.2.1 u.2.2.2.2.2.2.1 u.2.2.2.2.2.2.2.1 u.2.2.2.2.2.2.2.2.1 u.2.2.2.2.2.2.2.2.2.1 u.2.2.2.2.2.2.2.2.2.2.1 u.2.2.2.2.2.2.2.2.2.2.2.1 u.2.2.2.2.2.2.2.2.2.2.2.2) (zB (dC, dI) A (fun (u : Int32 × Int32 × Int32 × Int32 × Int32 × Int32 × Int32 × Int32 × Int64 × (Nat → Int64) × (Nat → Int64) × (Nat → Int32) × (Nat → Int32)) => (w_M_make ad a_this a_units a_kinds a_values a_names a_low a_high a_told a_leftOut a_isMade a_hands a_pad a_court a_title a_out k_values k_kinds k_told k_high k_low k_pad k_leftOut k_court k_names k_out k_title u.1 v_this_size v_this_families u.2.1 u.2.2.1 u.2.2.2.1 u.2.2.2.2.1 u.2.2.2.2.2.1 u.2.2.2.2.2.2.1 u.2.2.2.2.2.2.2.1 v_this_at v_this_begin v_this_words u.2.2.2.2.2.2.2.2.1 v_values v_kinds v_told v_high v_low u.2.2.2.2.2.2.2.2.2.1 v_leftOut u.2.2.2.2.2.2.2.2.2.2.1 v_names u.2.2.2.2.2.2.2.2.2.2.2.1 u.2.2.2.2.2.2.2.2.2.2.2.2))) A) args s 0 0 A) (F0 m 117 ls [.int t0, .ref a_this]) := by
  obtain ⟨hx, hb, hr, hml, hown, hts, hlocks, hA⟩ := id C0
  intro y3 t0 u_this_thrown u_this_family u_this_density u_this_pads u_this_hasThermal u_pad H locs h hP hD hS ls hl
  unfold P_M_make_117 at h
  obtain ⟨hn1, h⟩ := h
  refine va_put (D := (dC, dI)) (ci := 10) (v := .int t0) (ty := .boolean) (C := RM) (T := TM) (N := 28) hx hb hts inZ_M tyM tyM_ok nmM hown hK hP hD hS 0 rfl rfl 13 (by decide) (hts _ zw_1057) (fun _ h9 => h9) rfl (by decide +kernel) hn1.1 hn1.2 (Nat.le_of_ble_eq_true rfl) dM_make_117 (fun H locs hP hD hS => ?_)
  have hP : va_P (dC, dI) vwCl (w_M_make ad a_this a_units a_kinds a_values a_names a_low a_high a_told a_leftOut a_isMade a_hands a_pad a_court a_title a_out k_values k_kinds k_told k_high k_low k_pad k_leftOut k_court k_names k_out k_title u_this_thrown v_this_size v_this_families t0 u_this_family u_this_density u_this_pads u_this_hasThermal v_this_titleSize v_this_written v_this_at v_this_begin v_this_words v_this_paste0 v_values v_kinds v_told v_high v_low u_pad v_leftOut v_court v_names v_out v_title) H := hP
  have hD : va_D A (w_M_make ad a_this a_units a_kinds a_values a_names a_low a_high a_told a_leftOut a_isMade a_hands a_pad a_court a_title a_out k_values k_kinds k_told k_high k_low k_pad k_leftOut k_court k_names k_out k_title u_this_thrown v_this_size v_this_families t0 u_this_family u_this_density u_this_pads u_this_hasThermal v_this_titleSize v_this_written v_this_at v_this_begin v_this_words v_this_paste0 v_values v_kinds v_told v_high v_low u_pad v_leftOut v_court v_names v_out v_title) := hD
  refine lv_aload_n hx hb dM_make_120 rfl (lv_at hl 0 rfl) ?_
  refine va_get (D := (dC, dI)) (ci := 10) (v := .int t0) (C := RM) (T := TM) (N := 28) hx hb hts inZ_M hown hK hP 0 rfl rfl 13 (by decide) (hts _ zw_1057) (fun _ h9 => h9) rfl dM_make_121 ?_
  refine lv_if_ne (tgt := 129) hx hb dM_make_124 (by decide) ?_ ?_
  · intro c2
    replace h := h.1 c2
    refine lv_aload_n hx hb dM_make_129 rfl (lv_at hl 0 rfl) ?_
    refine lv_lload_n hx hb dM_make_130 rfl (lv_at hl 1 rfl) ?_
    refine zcall_v hP hD hS hA [0, 8, 3, 4, 6, 1] [2, 5, 7, 9, 10, 11] (va_runV (As := [.long y3]) (rest := []) ⟨hx, hb, hml, hown, hts⟩ (c_M_findCourt l dC dI ad a_this a_units a_kinds a_values a_names a_low a_high a_told a_leftOut a_isMade a_hands a_pad a_court a_title a_out k_court k_told k_high k_pad k_values _ y3 u_this_thrown v_this_size v_this_families t0 u_this_family u_this_density u_this_pads u_this_hasThermal v_this_titleSize v_this_written v_this_at v_this_begin v_this_words v_this_paste0 v_court v_told v_high u_pad v_values _ h) ⟨callB_of 1 hts (zgood zc_M_findCourt) rfl rfl rfl (hts _ zw_107) (hts _ zw_1249) (by decide +kernel) ⟨Nat.le_of_ble_eq_true rfl, Nat.le_of_ble_eq_true rfl⟩, (hts _ zw_1251), (hts _ zw_83)⟩ (zpreV hE hK hP hD hS hA [0, 8, 3, 4, 6, 1] [7, 2, 3, 5, 0] (by rfl) (by rfl) (by decide) (ci := 10) (q0 := 0) rfl (by rfl)) rfl rfl hl.1 rfl (lv_room (Nat.le_of_ble_eq_true rfl)) dM_make_131 ⟨Nat.le_of_ble_eq_true rfl, Nat.le_of_ble_eq_true rfl⟩) (by rfl) (by rfl) (by decide) (by decide) (fun u3 H locs h hP hD hS => ?_)
    try dsimp only at h
    have hP := hP.sub (ws' := (w_M_make ad a_this a_units a_kinds a_values a_names a_low a_high a_told a_leftOut a_isMade a_hands a_pad a_court a_title a_out k_values k_kinds k_told k_high k_low k_pad k_leftOut k_court k_names k_out k_title u_this_thrown v_this_size v_this_families t0 u_this_family u_this_density u_this_pads u_this_hasThermal v_this_titleSize v_this_written v_this_at v_this_begin v_this_words v_this_paste0 v_values v_kinds v_told v_high v_low u_pad v_leftOut u3 v_names v_out v_title)) [6, 11, 0, 8, 9, 1, 10, 2, 7, 3, 4, 5] rfl
    have hD := hD.sub (ws' := (w_M_make ad a_this a_units a_kinds a_values a_names a_low a_high a_told a_leftOut a_isMade a_hands a_pad a_court a_title a_out k_values k_kinds k_told k_high k_low k_pad k_leftOut k_court k_names k_out k_title u_this_thrown v_this_size v_this_families t0 u_this_family u_this_density u_this_pads u_this_hasThermal v_this_titleSize v_this_written v_this_at v_this_begin v_this_words v_this_paste0 v_values v_kinds v_told v_high v_low u_pad v_leftOut u3 v_names v_out v_title)) [6, 11, 0, 8, 9, 1, 10, 2, 7, 3, 4, 5] (by decide) rfl
    refine lv_aload_n hx hb dM_make_134 rfl (lv_at hl 0 rfl) ?_
    refine lv_aload_n hx hb dM_make_135 rfl (lv_at hl 0 rfl) ?_
    refine lv_bipush (v := 6) hx hb dM_make_136 (by decide) ?_
    refine zcall_l hP hD hS hA [0, 1] [2, 3, 4, 5, 6, 7, 8, 9, 10, 11] (va_runV (As := [.int 6]) (rest := [.ref a_this]) ⟨hx, hb, hml, hown, hts⟩ (c_M_of l dC dI ad a_this a_units a_kinds a_values a_names a_low a_high a_told a_leftOut a_isMade a_hands a_pad a_court a_title a_out k_values _ 6 u_this_thrown v_this_size v_this_families t0 u_this_family u_this_density u_this_pads u_this_hasThermal v_this_titleSize v_this_written v_this_at v_this_begin v_this_words v_this_paste0 v_values _ h) ⟨callB_of 1 hts (zgood zc_M_of) rfl rfl rfl (hts _ zw_107) (hts _ zw_1201) (by decide +kernel) ⟨Nat.le_of_ble_eq_true rfl, Nat.le_of_ble_eq_true rfl⟩, (hts _ zw_1203), (hts _ zw_74)⟩ (zpreV hE hK hP hD hS hA [0, 1] [0] (by rfl) (by rfl) (by decide) (ci := 10) (q0 := 0) rfl (by rfl)) rfl rfl hl.1 rfl (lv_room (Nat.le_of_ble_eq_true rfl)) dM_make_138 ⟨Nat.le_of_ble_eq_true rfl, Nat.le_of_ble_eq_true rfl⟩) (by rfl) (by rfl) (by decide) (by decide) (fun r4 u H locs h hP hD hS => ?_)
    try dsimp only at h
    have hP := hP.sub (ws' := (w_M_make ad a_this a_units a_kinds a_values a_names a_low a_high a_told a_leftOut a_isMade a_hands a_pad a_court a_title a_out k_values k_kinds k_told k_high k_low k_pad k_leftOut k_court k_names k_out k_title u_this_thrown v_this_size v_this_families t0 u_this_family u_this_density u_this_pads u_this_hasThermal v_this_titleSize v_this_written v_this_at v_this_begin v_this_words v_this_paste0 v_values v_kinds v_told v_high v_low u_pad v_leftOut u3 v_names v_out v_title)) [10, 11, 0, 1, 2, 3, 4, 5, 6, 7, 8, 9] rfl
    have hD := hD.sub (ws' := (w_M_make ad a_this a_units a_kinds a_values a_names a_low a_high a_told a_leftOut a_isMade a_hands a_pad a_court a_title a_out k_values k_kinds k_told k_high k_low k_pad k_leftOut k_court k_names k_out k_title u_this_thrown v_this_size v_this_families t0 u_this_family u_this_density u_this_pads u_this_hasThermal v_this_titleSize v_this_written v_this_at v_this_begin v_this_words v_this_paste0 v_values v_kinds v_told v_high v_low u_pad v_leftOut u3 v_names v_out v_title)) [10, 11, 0, 1, 2, 3, 4, 5, 6, 7, 8, 9] (by decide) rfl
    refine va_put (D := (dC, dI)) (ci := 10) (v := .long r4) (ty := .long) (C := RM) (T := TM) (N := 28) hx hb hts inZ_M tyM tyM_ok nmM hown hK hP hD hS 0 rfl rfl 27 (by decide) (hts _ zw_1071) (fun _ h9 => h9) rfl (by decide +kernel) rfl rfl (Nat.le_of_ble_eq_true rfl) dM_make_141 (fun H locs hP hD hS => ?_)
    have hP : va_P (dC, dI) vwCl (w_M_make ad a_this a_units a_kinds a_values a_names a_low a_high a_told a_leftOut a_isMade a_hands a_pad a_court a_title a_out k_values k_kinds k_told k_high k_low k_pad k_leftOut k_court k_names k_out k_title u_this_thrown v_this_size v_this_families t0 u_this_family u_this_density u_this_pads u_this_hasThermal v_this_titleSize v_this_written v_this_at v_this_begin v_this_words r4 v_values v_kinds v_told v_high v_low u_pad v_leftOut u3 v_names v_out v_title) H := hP
    have hD : va_D A (w_M_make ad a_this a_units a_kinds a_values a_names a_low a_high a_told a_leftOut a_isMade a_hands a_pad a_court a_title a_out k_values k_kinds k_told k_high k_low k_pad k_leftOut k_court k_names k_out k_title u_this_thrown v_this_size v_this_families t0 u_this_family u_this_density u_this_pads u_this_hasThermal v_this_titleSize v_this_written v_this_at v_this_begin v_this_words r4 v_values v_kinds v_told v_high v_low u_pad v_leftOut u3 v_names v_out v_title) := hD
    refine lv_aload_n hx hb dM_make_144 rfl (lv_at hl 0 rfl) ?_
    refine zcall_v hP hD hS hA [0, 9, 10, 3, 4, 11] [1, 2, 5, 6, 7, 8] (va_runV (As := []) (rest := []) ⟨hx, hb, hml, hown, hts⟩ (c_M_findName l dC dI ad a_this a_units a_kinds a_values a_names a_low a_high a_told a_leftOut a_isMade a_hands a_pad a_court a_title a_out k_names k_out k_told k_high k_title _ u_this_thrown v_this_size v_this_families t0 u_this_family u_this_density u_this_pads u_this_hasThermal v_this_titleSize v_this_written v_this_at v_this_begin v_this_words r4 v_names v_out v_told v_high v_title _ h) ⟨callB_of 0 hts (zgood zc_M_findName) rfl rfl rfl (hts _ zw_107) (hts _ zw_1259) (by decide +kernel) ⟨Nat.le_of_ble_eq_true rfl, Nat.le_of_ble_eq_true rfl⟩, (hts _ zw_1261), (hts _ zw_85)⟩ (zpreV hE hK hP hD hS hA [0, 9, 10, 3, 4, 11] [8, 9, 2, 3, 10] (by rfl) (by rfl) (by decide) (ci := 10) (q0 := 0) rfl (by rfl)) rfl rfl hl.1 rfl (lv_room (Nat.le_of_ble_eq_true rfl)) dM_make_145 ⟨Nat.le_of_ble_eq_true rfl, Nat.le_of_ble_eq_true rfl⟩) (by rfl) (by rfl) (by decide) (by decide) (fun u H locs h hP hD hS => ?_)
    obtain ⟨u5, u6, u7, u8⟩ := u
    try dsimp only at h
    have hP := hP.sub (ws' := (w_M_make ad a_this a_units a_kinds a_values a_names a_low a_high a_told a_leftOut a_isMade a_hands a_pad a_court a_title a_out k_values k_kinds k_told k_high k_low k_pad k_leftOut k_court k_names k_out k_title u_this_thrown v_this_size v_this_families t0 u_this_family u_this_density u_this_pads u_this_hasThermal u5 u6 v_this_at v_this_begin v_this_words r4 v_values v_kinds v_told v_high v_low u_pad v_leftOut u3 v_names u7 u8)) [6, 0, 1, 9, 10, 2, 3, 4, 5, 7, 8, 11] rfl
    have hD := hD.sub (ws' := (w_M_make ad a_this a_units a_kinds a_values a_names a_low a_high a_told a_leftOut a_isMade a_hands a_pad a_court a_title a_out k_values k_kinds k_told k_high k_low k_pad k_leftOut k_court k_names k_out k_title u_this_thrown v_this_size v_this_families t0 u_this_family u_this_density u_this_pads u_this_hasThermal u5 u6 v_this_at v_this_begin v_this_words r4 v_values v_kinds v_told v_high v_low u_pad v_leftOut u3 v_names u7 u8)) [6, 0, 1, 9, 10, 2, 3, 4, 5, 7, 8, 11] (by decide) rfl
    refine lv_aload_n hx hb dM_make_148 rfl (lv_at hl 0 rfl) ?_
    refine zcall_v hP hD hS hA [0, 10, 6, 8] [1, 2, 3, 4, 5, 7, 9, 11] (va_runV (As := []) (rest := []) ⟨hx, hb, hml, hown, hts⟩ (c_M_findText l dC dI ad a_this a_units a_kinds a_values a_names a_low a_high a_told a_leftOut a_isMade a_hands a_pad a_court a_title a_out k_out k_pad k_court _ u_this_thrown v_this_size v_this_families t0 u_this_family u_this_density u_this_pads u_this_hasThermal u5 u6 v_this_at v_this_begin v_this_words r4 u7 u_pad u3 _ h) ⟨callB_of 0 hts (zgood zc_M_findText) rfl rfl rfl (hts _ zw_107) (hts _ zw_1272) (by decide +kernel) ⟨Nat.le_of_ble_eq_true rfl, Nat.le_of_ble_eq_true rfl⟩, (hts _ zw_1274), (hts _ zw_88)⟩ (zpreV hE hK hP hD hS hA [0, 10, 6, 8] [9, 5, 7] (by rfl) (by rfl) (by decide) (ci := 10) (q0 := 0) rfl (by rfl)) rfl rfl hl.1 rfl (lv_room (Nat.le_of_ble_eq_true rfl)) dM_make_149 ⟨Nat.le_of_ble_eq_true rfl, Nat.le_of_ble_eq_true rfl⟩) (by rfl) (by rfl) (by decide) (by decide) (fun u H locs h hP hD hS => ?_)
    obtain ⟨u9, u10⟩ := u
    try dsimp only at h
    have hP := hP.sub (ws' := (w_M_make ad a_this a_units a_kinds a_values a_names a_low a_high a_told a_leftOut a_isMade a_hands a_pad a_court a_title a_out k_values k_kinds k_told k_high k_low k_pad k_leftOut k_court k_names k_out k_title u_this_thrown v_this_size v_this_families t0 u_this_family u_this_density u_this_pads u_this_hasThermal u5 u9 v_this_at v_this_begin v_this_words r4 v_values v_kinds v_told v_high v_low u_pad v_leftOut u3 v_names u10 u8)) [8, 0, 1, 2, 3, 4, 10, 5, 11, 6, 9, 7] rfl
    have hD := hD.sub (ws' := (w_M_make ad a_this a_units a_kinds a_values a_names a_low a_high a_told a_leftOut a_isMade a_hands a_pad a_court a_title a_out k_values k_kinds k_told k_high k_low k_pad k_leftOut k_court k_names k_out k_title u_this_thrown v_this_size v_this_families t0 u_this_family u_this_density u_this_pads u_this_hasThermal u5 u9 v_this_at v_this_begin v_this_words r4 v_values v_kinds v_told v_high v_low u_pad v_leftOut u3 v_names u10 u8)) [8, 0, 1, 2, 3, 4, 10, 5, 11, 6, 9, 7] (by decide) rfl
    refine lv_aload_n hx hb dM_make_152 rfl (lv_at hl 0 rfl) ?_
    refine va_get (D := (dC, dI)) (ci := 10) (v := .int u_this_pads) (C := RM) (T := TM) (N := 28) hx hb hts inZ_M hown hK hP 0 rfl rfl 16 (by decide) (hts _ zw_1060) (fun _ h9 => h9) rfl dM_make_153 ?_
    exact W.iret (v := u_this_pads) hx hb hr (fun t ht hW => ⟨⟨u_this_pads, (u_this_thrown, t0, u_this_family, u_this_density, u_this_pads, u_this_hasThermal, u5, u9, r4, u_pad, u3, u10, u8), rfl, h, by rw [ht]; exact hP, hD⟩, hS.F ht⟩) hS.2.2 dM_make_156
  · intro c2
    replace h := h.2 c2
    refine lv_iconst (v := (-1)) hx hb dM_make_127 (by decide) ?_
    exact W.iret (v := (-1)) hx hb hr (fun t ht hW => ⟨⟨(-1), (u_this_thrown, t0, u_this_family, u_this_density, u_this_pads, u_this_hasThermal, v_this_titleSize, v_this_written, v_this_paste0, u_pad, v_court, v_out, v_title), rfl, h, by rw [ht]; exact hP, hD⟩, hS.F ht⟩) hS.2.2 dM_make_128
def P_M_make_31 (p1 : Int32) (p2 : Int32) (v_this_atHand : Int32) (v_this_family : Int32) (v_this_density : Int32) (v_this_pads : Int32) (v_this_hasThermal : Int32) (v_this_titleSize : Int32) (v_this_written : Int32) (v_this_paste0 : Int64) (v_values : Nat → Int64) (v_kinds : Nat → Int32) (v_told : Nat → Int32) (v_high : Nat → Int64) (v_low : Nat → Int64) (v_pad : Nat → Int64) (v_leftOut : Nat → Int32) (v_court : Nat → Int64) (v_names : Nat → Int64) (v_out : Nat → Int32) (v_title : Nat → Int32) (post : Int32 → Int32 → Int32 → Int32 → Int32 → Int32 → Int32 → Int32 → Int32 → Int64 → (Nat → Int64) → (Nat → Int64) → (Nat → Int32) → (Nat → Int32) → Prop) (t0 : Int32) : Prop := ((t0 = 0 → P_M_of 4 p1 p2 v_values (fun (r2 : Int64) => vp_in p1 8 ∧ ((¬ (v_kinds p1.toNatClampNeg) = 3 → vp_in p1 8 ∧ ((¬ (v_kinds p1.toNatClampNeg) = 4 → vp_in p1 8 ∧ P_M_makeSides (v_kinds p1.toNatClampNeg) r2 p1 p2 0 0 v_told v_high v_values v_low v_pad (fun (r11 : Int32) (u8 : Int32) (u9 : Int32) (u10 : Nat → Int64) => P_M_make_117 v_this_titleSize v_this_written v_this_paste0 v_values v_told v_high v_court v_names v_out v_title post r2 r11 t0 p1 p2 u8 u9 u10)) ∧ ((v_kinds p1.toNatClampNeg) = 4 → P_M_makeHoles r2 p1 p2 0 v_told v_low v_high v_values v_pad (fun (r14 : Int32) (u12 : Int32) (u13 : Nat → Int64) => P_M_make_117 v_this_titleSize v_this_written v_this_paste0 v_values v_told v_high v_court v_names v_out v_title post r2 r14 t0 p1 p2 u12 0 u13)))) ∧ ((v_kinds p1.toNatClampNeg) = 3 → P_M_makeBalls r2 p1 p2 0 v_told v_low v_high v_values v_leftOut v_pad (fun (r17 : Int32) (u15 : Int32) (u16 : Nat → Int64) => P_M_make_117 v_this_titleSize v_this_written v_this_paste0 v_values v_told v_high v_court v_names v_out v_title post r2 r17 t0 p1 p2 u15 0 u16))))) ∧ (¬ t0 = 0 → post 0 t0 v_this_atHand v_this_family v_this_density v_this_pads v_this_hasThermal v_this_titleSize v_this_written v_this_paste0 v_pad v_court v_out v_title))
set_option maxHeartbeats 4000000 in
set_option maxRecDepth 100000 in
theorem w_M_make_31 (l : Launch) {p : Program} {e : Env} {s : State} {m : MethodId} {args : Array Value} {below : List Frame} {meth : Method} {c : Code} {dC : Nat → ClassId} {dI : Nat → Nat → Nat} {ad : Nat → Nat → Nat} {A : Nat → Prop} (C0 : zC p s m args meth c cM_make 5 RM zT (some .int) A) (hE : zE ad A s) (a_this : Nat) (a_units : Nat) (a_kinds : Nat) (a_values : Nat) (a_names : Nat) (a_low : Nat) (a_high : Nat) (a_told : Nat) (a_leftOut : Nat) (a_isMade : Nat) (a_hands : Nat) (a_pad : Nat) (a_court : Nat) (a_title : Nat) (a_out : Nat) (k_values : ClassId) (k_kinds : ClassId) (k_told : ClassId) (k_high : ClassId) (k_low : ClassId) (k_pad : ClassId) (k_leftOut : ClassId) (k_court : ClassId) (k_names : ClassId) (k_out : ClassId) (k_title : ClassId) (p1 : Int32) (p2 : Int32) (v_this_thrown : Int32) (v_this_size : Int32) (v_this_families : Int32) (v_this_atHand : Int32) (v_this_family : Int32) (v_this_density : Int32) (v_this_pads : Int32) (v_this_hasThermal : Int32) (v_this_titleSize : Int32) (v_this_written : Int32) (v_this_at : Int32) (v_this_begin : Int32) (v_this_words : Int32) (v_this_paste0 : Int64) (v_values : Nat → Int64) (v_kinds : Nat → Int32) (v_told : Nat → Int32) (v_high : Nat → Int64) (v_low : Nat → Int64) (v_pad : Nat → Int64) (v_leftOut : Nat → Int32) (v_court : Nat → Int64) (v_names : Nat → Int64) (v_out : Nat → Int32) (v_title : Nat → Int32) (post : Int32 → Int32 → Int32 → Int32 → Int32 → Int32 → Int32 → Int32 → Int32 → Int64 → (Nat → Int64) → (Nat → Int64) → (Nat → Int32) → (Nat → Int32) → Prop) (hK : va_K (dC, dI) vwCl [(k_values, .long), (k_kinds, .int), (k_told, .boolean), (k_high, .long), (k_low, .long), (k_pad, .long), (k_leftOut, .boolean), (k_court, .long), (k_names, .long), (k_out, .int), (k_title, .int)] s) : ∀ (t0 : Int32) (H : Heap) (locs : List Loc), P_M_make_31 p1 p2 v_this_atHand v_this_family v_this_density v_this_pads v_this_hasThermal v_this_titleSize v_this_written v_this_paste0 v_values v_kinds v_told v_high v_low v_pad v_leftOut v_court v_names v_out v_title post t0 → va_P (dC, dI) vwCl (w_M_make ad a_this a_units a_kinds a_values a_names a_low a_high a_told a_leftOut a_isMade a_hands a_pad a_court a_title a_out k_values k_kinds k_told k_high k_low k_pad k_leftOut k_court k_names k_out k_title v_this_thrown v_this_size v_this_families v_this_atHand v_this_family v_this_density v_this_pads v_this_hasThermal v_this_titleSize v_this_written v_this_at v_this_begin v_this_words v_this_paste0 v_values v_kinds v_told v_high v_low v_pad v_leftOut v_court v_names v_out v_title) H → va_D A (w_M_make ad a_this a_units a_kinds a_values a_names a_low a_high a_told a_leftOut a_isMade a_hands a_pad a_court a_title a_out k_values k_kinds k_told k_high k_low k_pad k_leftOut k_court k_names k_out k_title v_this_thrown v_this_size v_this_families v_this_atHand v_this_family v_this_density v_this_pads v_this_hasThermal v_this_titleSize v_this_written v_this_at v_this_begin v_this_words v_this_paste0 v_values v_kinds v_told v_high v_low v_pad v_leftOut v_court v_names v_out v_title) → va_S A s.heap H locs → ∀ ls : Array Slot, lv_has ls 5 [(0, .ref a_this), (1, .int p1), (2, .int p2)] → W p l e (headSpec wsM_make { frames := 3, cells := 0, slots := 0, locals := 98 }).room s m args below meth c H locs 0 0 (MQ below (va_Qi (fun (r : Int32) (u : Int32 × Int32 × Int32 × Int32 × Int32 × Int32 × Int32 × Int32 × Int64 × (Nat → Int64) × (Nat → Int64) × (Nat → Int32) × (Nat → Int32)) => post r u.1 u.2.1 u.2.2.1 u.2.2.2.1 u.2.2.2.2.1 u.2.2.2.2.2.1 u.2.2.2.2.2.2.1 u.2.2.2.2.2.2.2.1 u.2.2.2.2.2.2.2.2.1 u.2.2.2.2.2.2.2.2.2.1 u.2.2.2.2.2.2.2.2.2.2.1 u.2.2.2.2.2.2.2.2.2.2.2.1 u.2.2.2.2.2.2.2.2.2.2.2.2) (zB (dC, dI) A (fun (u : Int32 × Int32 × Int32 × Int32 × Int32 × Int32 × Int32 × Int32 × Int64 × (Nat → Int64) × (Nat → Int64) × (Nat → Int32) × (Nat → Int32)) => (w_M_make ad a_this a_units a_kinds a_values a_names a_low a_high a_told a_leftOut a_isMade a_hands a_pad a_court a_title a_out k_values k_kinds k_told k_high k_low k_pad k_leftOut k_court k_names k_out k_title u.1 v_this_size v_this_families u.2.1 u.2.2.1 u.2.2.2.1 u.2.2.2.2.1 u.2.2.2.2.2.1 u.2.2.2.2.2.2.1 u.2.2.2.2.2.2.2.1 v_this_at v_this_begin v_this_words u.2.2.2.2.2.2.2.2.1 v_values v_kinds v_told v_high v_low u.2.2.2.2.2.2.2.2.2.1 v_leftOut u.2.2.2.2.2.2.2.2.2.2.1 v_names u.2.2.2.2.2.2.2.2.2.2.2.1 u.2.2.2.2.2.2.2.2.2.2.2.2))) A) args s 0 0 A) (F0 m 31 ls [.int t0, .ref a_this]) := by
  obtain ⟨hx, hb, hr, hml, hown, hts, hlocks, hA⟩ := id C0
  intro t0 H locs h hP hD hS ls hl
  unfold P_M_make_31 at h
  refine va_put (D := (dC, dI)) (ci := 10) (v := .int t0) (ty := .int) (C := RM) (T := TM) (N := 28) hx hb hts inZ_M tyM tyM_ok nmM hown hK hP hD hS 0 rfl rfl 0 (by decide) (hts _ zw_1044) (fun _ h9 => h9) rfl (by decide +kernel) rfl rfl (Nat.le_of_ble_eq_true rfl) dM_make_31 (fun H locs hP hD hS => ?_)
  have hP : va_P (dC, dI) vwCl (w_M_make ad a_this a_units a_kinds a_values a_names a_low a_high a_told a_leftOut a_isMade a_hands a_pad a_court a_title a_out k_values k_kinds k_told k_high k_low k_pad k_leftOut k_court k_names k_out k_title t0 v_this_size v_this_families v_this_atHand v_this_family v_this_density v_this_pads v_this_hasThermal v_this_titleSize v_this_written v_this_at v_this_begin v_this_words v_this_paste0 v_values v_kinds v_told v_high v_low v_pad v_leftOut v_court v_names v_out v_title) H := hP
  have hD : va_D A (w_M_make ad a_this a_units a_kinds a_values a_names a_low a_high a_told a_leftOut a_isMade a_hands a_pad a_court a_title a_out k_values k_kinds k_told k_high k_low k_pad k_leftOut k_court k_names k_out k_title t0 v_this_size v_this_families v_this_atHand v_this_family v_this_density v_this_pads v_this_hasThermal v_this_titleSize v_this_written v_this_at v_this_begin v_this_words v_this_paste0 v_values v_kinds v_told v_high v_low v_pad v_leftOut v_court v_names v_out v_title) := hD
  refine lv_aload_n hx hb dM_make_34 rfl (lv_at hl 0 rfl) ?_
  refine va_get (D := (dC, dI)) (ci := 10) (v := .int t0) (C := RM) (T := TM) (N := 28) hx hb hts inZ_M hown hK hP 0 rfl rfl 0 (by decide) (hts _ zw_1044) (fun _ h9 => h9) rfl dM_make_35 ?_
  refine lv_if_eq (tgt := 43) hx hb dM_make_38 (by decide) ?_ ?_
  · intro c1
    replace h := h.1 c1
    refine lv_aload_n hx hb dM_make_43 rfl (lv_at hl 0 rfl) ?_
    refine lv_iload_n hx hb dM_make_44 rfl (lv_at hl 1 rfl) ?_
    refine va_put (D := (dC, dI)) (ci := 10) (v := .int p1) (ty := .int) (C := RM) (T := TM) (N := 28) hx hb hts inZ_M tyM tyM_ok nmM hown hK hP hD hS 0 rfl rfl 14 (by decide) (hts _ zw_1058) (fun _ h9 => h9) rfl (by decide +kernel) rfl rfl (Nat.le_of_ble_eq_true rfl) dM_make_45 (fun H locs hP hD hS => ?_)
    have hP : va_P (dC, dI) vwCl (w_M_make ad a_this a_units a_kinds a_values a_names a_low a_high a_told a_leftOut a_isMade a_hands a_pad a_court a_title a_out k_values k_kinds k_told k_high k_low k_pad k_leftOut k_court k_names k_out k_title t0 v_this_size v_this_families v_this_atHand p1 v_this_density v_this_pads v_this_hasThermal v_this_titleSize v_this_written v_this_at v_this_begin v_this_words v_this_paste0 v_values v_kinds v_told v_high v_low v_pad v_leftOut v_court v_names v_out v_title) H := hP
    have hD : va_D A (w_M_make ad a_this a_units a_kinds a_values a_names a_low a_high a_told a_leftOut a_isMade a_hands a_pad a_court a_title a_out k_values k_kinds k_told k_high k_low k_pad k_leftOut k_court k_names k_out k_title t0 v_this_size v_this_families v_this_atHand p1 v_this_density v_this_pads v_this_hasThermal v_this_titleSize v_this_written v_this_at v_this_begin v_this_words v_this_paste0 v_values v_kinds v_told v_high v_low v_pad v_leftOut v_court v_names v_out v_title) := hD
    refine lv_aload_n hx hb dM_make_48 rfl (lv_at hl 0 rfl) ?_
    refine lv_iload_n hx hb dM_make_49 rfl (lv_at hl 2 rfl) ?_
    refine va_put (D := (dC, dI)) (ci := 10) (v := .int p2) (ty := .int) (C := RM) (T := TM) (N := 28) hx hb hts inZ_M tyM tyM_ok nmM hown hK hP hD hS 0 rfl rfl 15 (by decide) (hts _ zw_1059) (fun _ h9 => h9) rfl (by decide +kernel) rfl rfl (Nat.le_of_ble_eq_true rfl) dM_make_50 (fun H locs hP hD hS => ?_)
    have hP : va_P (dC, dI) vwCl (w_M_make ad a_this a_units a_kinds a_values a_names a_low a_high a_told a_leftOut a_isMade a_hands a_pad a_court a_title a_out k_values k_kinds k_told k_high k_low k_pad k_leftOut k_court k_names k_out k_title t0 v_this_size v_this_families v_this_atHand p1 p2 v_this_pads v_this_hasThermal v_this_titleSize v_this_written v_this_at v_this_begin v_this_words v_this_paste0 v_values v_kinds v_told v_high v_low v_pad v_leftOut v_court v_names v_out v_title) H := hP
    have hD : va_D A (w_M_make ad a_this a_units a_kinds a_values a_names a_low a_high a_told a_leftOut a_isMade a_hands a_pad a_court a_title a_out k_values k_kinds k_told k_high k_low k_pad k_leftOut k_court k_names k_out k_title t0 v_this_size v_this_families v_this_atHand p1 p2 v_this_pads v_this_hasThermal v_this_titleSize v_this_written v_this_at v_this_begin v_this_words v_this_paste0 v_values v_kinds v_told v_high v_low v_pad v_leftOut v_court v_names v_out v_title) := hD
    refine lv_aload_n hx hb dM_make_53 rfl (lv_at hl 0 rfl) ?_
    refine lv_iconst (v := 0) hx hb dM_make_54 (by decide) ?_
    refine va_put (D := (dC, dI)) (ci := 10) (v := .int 0) (ty := .int) (C := RM) (T := TM) (N := 28) hx hb hts inZ_M tyM tyM_ok nmM hown hK hP hD hS 0 rfl rfl 16 (by decide) (hts _ zw_1060) (fun _ h9 => h9) rfl (by decide +kernel) rfl rfl (Nat.le_of_ble_eq_true rfl) dM_make_55 (fun H locs hP hD hS => ?_)
    have hP : va_P (dC, dI) vwCl (w_M_make ad a_this a_units a_kinds a_values a_names a_low a_high a_told a_leftOut a_isMade a_hands a_pad a_court a_title a_out k_values k_kinds k_told k_high k_low k_pad k_leftOut k_court k_names k_out k_title t0 v_this_size v_this_families v_this_atHand p1 p2 0 v_this_hasThermal v_this_titleSize v_this_written v_this_at v_this_begin v_this_words v_this_paste0 v_values v_kinds v_told v_high v_low v_pad v_leftOut v_court v_names v_out v_title) H := hP
    have hD : va_D A (w_M_make ad a_this a_units a_kinds a_values a_names a_low a_high a_told a_leftOut a_isMade a_hands a_pad a_court a_title a_out k_values k_kinds k_told k_high k_low k_pad k_leftOut k_court k_names k_out k_title t0 v_this_size v_this_families v_this_atHand p1 p2 0 v_this_hasThermal v_this_titleSize v_this_written v_this_at v_this_begin v_this_words v_this_paste0 v_values v_kinds v_told v_high v_low v_pad v_leftOut v_court v_names v_out v_title) := hD
    refine lv_aload_n hx hb dM_make_58 rfl (lv_at hl 0 rfl) ?_
    refine lv_iconst (v := 0) hx hb dM_make_59 (by decide) ?_
    refine va_put (D := (dC, dI)) (ci := 10) (v := .int 0) (ty := .boolean) (C := RM) (T := TM) (N := 28) hx hb hts inZ_M tyM tyM_ok nmM hown hK hP hD hS 0 rfl rfl 19 (by decide) (hts _ zw_1063) (fun _ h9 => h9) rfl (by decide +kernel) rfl rfl (Nat.le_of_ble_eq_true rfl) dM_make_60 (fun H locs hP hD hS => ?_)
    have hP : va_P (dC, dI) vwCl (w_M_make ad a_this a_units a_kinds a_values a_names a_low a_high a_told a_leftOut a_isMade a_hands a_pad a_court a_title a_out k_values k_kinds k_told k_high k_low k_pad k_leftOut k_court k_names k_out k_title t0 v_this_size v_this_families v_this_atHand p1 p2 0 0 v_this_titleSize v_this_written v_this_at v_this_begin v_this_words v_this_paste0 v_values v_kinds v_told v_high v_low v_pad v_leftOut v_court v_names v_out v_title) H := hP
    have hD : va_D A (w_M_make ad a_this a_units a_kinds a_values a_names a_low a_high a_told a_leftOut a_isMade a_hands a_pad a_court a_title a_out k_values k_kinds k_told k_high k_low k_pad k_leftOut k_court k_names k_out k_title t0 v_this_size v_this_families v_this_atHand p1 p2 0 0 v_this_titleSize v_this_written v_this_at v_this_begin v_this_words v_this_paste0 v_values v_kinds v_told v_high v_low v_pad v_leftOut v_court v_names v_out v_title) := hD
    refine lv_aload_n hx hb dM_make_63 rfl (lv_at hl 0 rfl) ?_
    refine lv_iconst (v := 4) hx hb dM_make_64 (by decide) ?_
    refine zcall_l hP hD hS hA [0, 1] [2, 3, 4, 5, 6, 7, 8, 9, 10, 11] (va_runV (As := [.int 4]) (rest := []) ⟨hx, hb, hml, hown, hts⟩ (c_M_of l dC dI ad a_this a_units a_kinds a_values a_names a_low a_high a_told a_leftOut a_isMade a_hands a_pad a_court a_title a_out k_values _ 4 t0 v_this_size v_this_families v_this_atHand p1 p2 0 0 v_this_titleSize v_this_written v_this_at v_this_begin v_this_words v_this_paste0 v_values _ h) ⟨callB_of 1 hts (zgood zc_M_of) rfl rfl rfl (hts _ zw_107) (hts _ zw_1201) (by decide +kernel) ⟨Nat.le_of_ble_eq_true rfl, Nat.le_of_ble_eq_true rfl⟩, (hts _ zw_1203), (hts _ zw_74)⟩ (zpreV hE hK hP hD hS hA [0, 1] [0] (by rfl) (by rfl) (by decide) (ci := 10) (q0 := 0) rfl (by rfl)) rfl rfl hl.1 rfl (lv_room (Nat.le_of_ble_eq_true rfl)) dM_make_65 ⟨Nat.le_of_ble_eq_true rfl, Nat.le_of_ble_eq_true rfl⟩) (by rfl) (by rfl) (by decide) (by decide) (fun r2 u H locs h hP hD hS => ?_)
    try dsimp only at h
    have hP := hP.sub (ws' := (w_M_make ad a_this a_units a_kinds a_values a_names a_low a_high a_told a_leftOut a_isMade a_hands a_pad a_court a_title a_out k_values k_kinds k_told k_high k_low k_pad k_leftOut k_court k_names k_out k_title t0 v_this_size v_this_families v_this_atHand p1 p2 0 0 v_this_titleSize v_this_written v_this_at v_this_begin v_this_words v_this_paste0 v_values v_kinds v_told v_high v_low v_pad v_leftOut v_court v_names v_out v_title)) [10, 11, 0, 1, 2, 3, 4, 5, 6, 7, 8, 9] rfl
    have hD := hD.sub (ws' := (w_M_make ad a_this a_units a_kinds a_values a_names a_low a_high a_told a_leftOut a_isMade a_hands a_pad a_court a_title a_out k_values k_kinds k_told k_high k_low k_pad k_leftOut k_court k_names k_out k_title t0 v_this_size v_this_families v_this_atHand p1 p2 0 0 v_this_titleSize v_this_written v_this_at v_this_begin v_this_words v_this_paste0 v_values v_kinds v_told v_high v_low v_pad v_leftOut v_court v_names v_out v_title)) [10, 11, 0, 1, 2, 3, 4, 5, 6, 7, 8, 9] (by decide) rfl
    refine lv_lstore_n (lv' := [(3, .long r2), (0, .ref a_this), (1, .int p1), (2, .int p2)]) hx hb dM_make_68 rfl hl (by decide) rfl (fun ls hl => ?_)
    refine lv_aload_n hx hb dM_make_69 rfl (lv_at hl 1 rfl) ?_
    refine lv_aload_n hx hb dM_make_70 rfl (lv_at hl 1 rfl) ?_
    refine va_get (D := (dC, dI)) (ci := 10) (v := .ref a_kinds) (C := RM) (T := TM) (N := 28) hx hb hts inZ_M hown hK hP 0 rfl rfl 4 (by decide) (hts _ zw_1048) (fun _ h9 => h9) rfl dM_make_71 ?_
    refine lv_iload_n hx hb dM_make_74 rfl (lv_at hl 2 rfl) ?_
    obtain ⟨hn3, h⟩ := h
    refine va_iald hx hb hK hP 2 1 rfl rfl hn3 dM_make_75 ?_
    refine lv_iconst (v := 3) hx hb dM_make_76 (by decide) ?_
    refine lv_icmp_ne (tgt := 88) hx hb dM_make_77 (by decide) ?_ ?_
    · intro c4
      replace h := h.1 c4
      refine lv_aload_n hx hb dM_make_88 rfl (lv_at hl 1 rfl) ?_
      refine va_get (D := (dC, dI)) (ci := 10) (v := .ref a_kinds) (C := RM) (T := TM) (N := 28) hx hb hts inZ_M hown hK hP 0 rfl rfl 4 (by decide) (hts _ zw_1048) (fun _ h9 => h9) rfl dM_make_89 ?_
      refine lv_iload_n hx hb dM_make_92 rfl (lv_at hl 2 rfl) ?_
      obtain ⟨hn5, h⟩ := h
      refine va_iald hx hb hK hP 2 1 rfl rfl hn5 dM_make_93 ?_
      refine lv_iconst (v := 4) hx hb dM_make_94 (by decide) ?_
      refine lv_icmp_ne (tgt := 106) hx hb dM_make_95 (by decide) ?_ ?_
      · intro c6
        replace h := h.1 c6
        refine lv_aload_n hx hb dM_make_106 rfl (lv_at hl 1 rfl) ?_
        refine lv_aload_n hx hb dM_make_107 rfl (lv_at hl 1 rfl) ?_
        refine va_get (D := (dC, dI)) (ci := 10) (v := .ref a_kinds) (C := RM) (T := TM) (N := 28) hx hb hts inZ_M hown hK hP 0 rfl rfl 4 (by decide) (hts _ zw_1048) (fun _ h9 => h9) rfl dM_make_108 ?_
        refine lv_iload_n hx hb dM_make_111 rfl (lv_at hl 2 rfl) ?_
        obtain ⟨hn7, h⟩ := h
        refine va_iald hx hb hK hP 2 1 rfl rfl hn7 dM_make_112 ?_
        refine lv_lload_n hx hb dM_make_113 rfl (lv_at hl 0 rfl) ?_
        refine zcall_i hP hD hS hA [0, 3, 4, 1, 5, 6] [2, 7, 8, 9, 10, 11] (va_runV (As := [.int (v_kinds p1.toNatClampNeg), .long r2]) (rest := [.ref a_this]) ⟨hx, hb, hml, hown, hts⟩ (c_M_makeSides l dC dI ad a_this a_units a_kinds a_values a_names a_low a_high a_told a_leftOut a_isMade a_hands a_pad a_court a_title a_out k_told k_high k_values k_low k_pad _ (v_kinds p1.toNatClampNeg) r2 t0 v_this_size v_this_families v_this_atHand p1 p2 0 0 v_this_titleSize v_this_written v_this_at v_this_begin v_this_words v_this_paste0 v_told v_high v_values v_low v_pad _ h) ⟨callB_of 2 hts (zgood zc_M_makeSides) rfl rfl rfl (hts _ zw_107) (hts _ zw_1237) (by decide +kernel) ⟨Nat.le_of_ble_eq_true rfl, Nat.le_of_ble_eq_true rfl⟩, (hts _ zw_1239), (hts _ zw_81)⟩ (zpreV hE hK hP hD hS hA [0, 3, 4, 1, 5, 6] [2, 3, 0, 4, 5] (by rfl) (by rfl) (by decide) (ci := 10) (q0 := 0) rfl (by rfl)) rfl rfl hl.1 rfl (lv_room (Nat.le_of_ble_eq_true rfl)) dM_make_114 ⟨Nat.le_of_ble_eq_true rfl, Nat.le_of_ble_eq_true rfl⟩) (by rfl) (by rfl) (by decide) (by decide) (fun r11 u H locs h hP hD hS => ?_)
        obtain ⟨u8, u9, u10⟩ := u
        try dsimp only at h
        have hP := hP.sub (ws' := (w_M_make ad a_this a_units a_kinds a_values a_names a_low a_high a_told a_leftOut a_isMade a_hands a_pad a_court a_title a_out k_values k_kinds k_told k_high k_low k_pad k_leftOut k_court k_names k_out k_title t0 v_this_size v_this_families v_this_atHand p1 p2 u8 u9 v_this_titleSize v_this_written v_this_at v_this_begin v_this_words v_this_paste0 v_values v_kinds v_told v_high v_low u10 v_leftOut v_court v_names v_out v_title)) [6, 9, 0, 7, 8, 10, 11, 1, 2, 3, 4, 5] rfl
        have hD := hD.sub (ws' := (w_M_make ad a_this a_units a_kinds a_values a_names a_low a_high a_told a_leftOut a_isMade a_hands a_pad a_court a_title a_out k_values k_kinds k_told k_high k_low k_pad k_leftOut k_court k_names k_out k_title t0 v_this_size v_this_families v_this_atHand p1 p2 u8 u9 v_this_titleSize v_this_written v_this_at v_this_begin v_this_words v_this_paste0 v_values v_kinds v_told v_high v_low u10 v_leftOut v_court v_names v_out v_title)) [6, 9, 0, 7, 8, 10, 11, 1, 2, 3, 4, 5] (by decide) rfl
        exact w_M_make_117 l C0 hE a_this a_units a_kinds a_values a_names a_low a_high a_told a_leftOut a_isMade a_hands a_pad a_court a_title a_out k_values k_kinds k_told k_high k_low k_pad k_leftOut k_court k_names k_out k_title p1 p2 v_this_thrown v_this_size v_this_families v_this_atHand v_this_family v_this_density v_this_pads v_this_hasThermal v_this_titleSize v_this_written v_this_at v_this_begin v_this_words v_this_paste0 v_values v_kinds v_told v_high v_low v_pad v_leftOut v_court v_names v_out v_title post hK r2 r11 t0 p1 p2 u8 u9 u10 _ _ h hP hD hS ls (lv_sub hl [1, 0] rfl)
      · intro c6
        replace h := h.2 c6
        refine lv_aload_n hx hb dM_make_98 rfl (lv_at hl 1 rfl) ?_
        refine lv_lload_n hx hb dM_make_99 rfl (lv_at hl 0 rfl) ?_
        refine zcall_i hP hD hS hA [0, 3, 5, 4, 1, 6] [2, 7, 8, 9, 10, 11] (va_runV (As := [.long r2]) (rest := [.ref a_this]) ⟨hx, hb, hml, hown, hts⟩ (c_M_makeHoles l dC dI ad a_this a_units a_kinds a_values a_names a_low a_high a_told a_leftOut a_isMade a_hands a_pad a_court a_title a_out k_told k_low k_high k_values k_pad _ r2 t0 v_this_size v_this_families v_this_atHand p1 p2 0 0 v_this_titleSize v_this_written v_this_at v_this_begin v_this_words v_this_paste0 v_told v_low v_high v_values v_pad _ h) ⟨callB_of 1 hts (zgood zc_M_makeHoles) rfl rfl rfl (hts _ zw_107) (hts _ zw_1228) (by decide +kernel) ⟨Nat.le_of_ble_eq_true rfl, Nat.le_of_ble_eq_true rfl⟩, (hts _ zw_1230), (hts _ zw_79)⟩ (zpreV hE hK hP hD hS hA [0, 3, 5, 4, 1, 6] [2, 4, 3, 0, 5] (by rfl) (by rfl) (by decide) (ci := 10) (q0 := 0) rfl (by rfl)) rfl rfl hl.1 rfl (lv_room (Nat.le_of_ble_eq_true rfl)) dM_make_100 ⟨Nat.le_of_ble_eq_true rfl, Nat.le_of_ble_eq_true rfl⟩) (by rfl) (by rfl) (by decide) (by decide) (fun r14 u H locs h hP hD hS => ?_)
        obtain ⟨u12, u13⟩ := u
        try dsimp only at h
        have hP := hP.sub (ws' := (w_M_make ad a_this a_units a_kinds a_values a_names a_low a_high a_told a_leftOut a_isMade a_hands a_pad a_court a_title a_out k_values k_kinds k_told k_high k_low k_pad k_leftOut k_court k_names k_out k_title t0 v_this_size v_this_families v_this_atHand p1 p2 u12 0 v_this_titleSize v_this_written v_this_at v_this_begin v_this_words v_this_paste0 v_values v_kinds v_told v_high v_low u13 v_leftOut v_court v_names v_out v_title)) [6, 10, 0, 7, 9, 8, 11, 1, 2, 3, 4, 5] rfl
        have hD := hD.sub (ws' := (w_M_make ad a_this a_units a_kinds a_values a_names a_low a_high a_told a_leftOut a_isMade a_hands a_pad a_court a_title a_out k_values k_kinds k_told k_high k_low k_pad k_leftOut k_court k_names k_out k_title t0 v_this_size v_this_families v_this_atHand p1 p2 u12 0 v_this_titleSize v_this_written v_this_at v_this_begin v_this_words v_this_paste0 v_values v_kinds v_told v_high v_low u13 v_leftOut v_court v_names v_out v_title)) [6, 10, 0, 7, 9, 8, 11, 1, 2, 3, 4, 5] (by decide) rfl
        refine lv_goto (tgt := 117) hx hb dM_make_103 (by decide) ?_
        exact w_M_make_117 l C0 hE a_this a_units a_kinds a_values a_names a_low a_high a_told a_leftOut a_isMade a_hands a_pad a_court a_title a_out k_values k_kinds k_told k_high k_low k_pad k_leftOut k_court k_names k_out k_title p1 p2 v_this_thrown v_this_size v_this_families v_this_atHand v_this_family v_this_density v_this_pads v_this_hasThermal v_this_titleSize v_this_written v_this_at v_this_begin v_this_words v_this_paste0 v_values v_kinds v_told v_high v_low v_pad v_leftOut v_court v_names v_out v_title post hK r2 r14 t0 p1 p2 u12 0 u13 _ _ h hP hD hS ls (lv_sub hl [1, 0] rfl)
    · intro c4
      replace h := h.2 c4
      refine lv_aload_n hx hb dM_make_80 rfl (lv_at hl 1 rfl) ?_
      refine lv_lload_n hx hb dM_make_81 rfl (lv_at hl 0 rfl) ?_
      refine zcall_i hP hD hS hA [0, 3, 5, 4, 1, 7, 6] [2, 8, 9, 10, 11] (va_runV (As := [.long r2]) (rest := [.ref a_this]) ⟨hx, hb, hml, hown, hts⟩ (c_M_makeBalls l dC dI ad a_this a_units a_kinds a_values a_names a_low a_high a_told a_leftOut a_isMade a_hands a_pad a_court a_title a_out k_told k_low k_high k_values k_leftOut k_pad _ r2 t0 v_this_size v_this_families v_this_atHand p1 p2 0 0 v_this_titleSize v_this_written v_this_at v_this_begin v_this_words v_this_paste0 v_told v_low v_high v_values v_leftOut v_pad _ h) ⟨callB_of 1 hts (zgood zc_M_makeBalls) rfl rfl rfl (hts _ zw_107) (hts _ zw_1205) (by decide +kernel) ⟨Nat.le_of_ble_eq_true rfl, Nat.le_of_ble_eq_true rfl⟩, (hts _ zw_1207), (hts _ zw_75)⟩ (zpreV hE hK hP hD hS hA [0, 3, 5, 4, 1, 7, 6] [2, 4, 3, 0, 6, 5] (by rfl) (by rfl) (by decide) (ci := 10) (q0 := 0) rfl (by rfl)) rfl rfl hl.1 rfl (lv_room (Nat.le_of_ble_eq_true rfl)) dM_make_82 ⟨Nat.le_of_ble_eq_true rfl, Nat.le_of_ble_eq_true rfl⟩) (by rfl) (by rfl) (by decide) (by decide) (fun r17 u H locs h hP hD hS => ?_)
      obtain ⟨u15, u16⟩ := u
      try dsimp only at h
      have hP := hP.sub (ws' := (w_M_make ad a_this a_units a_kinds a_values a_names a_low a_high a_told a_leftOut a_isMade a_hands a_pad a_court a_title a_out k_values k_kinds k_told k_high k_low k_pad k_leftOut k_court k_names k_out k_title t0 v_this_size v_this_families v_this_atHand p1 p2 u15 0 v_this_titleSize v_this_written v_this_at v_this_begin v_this_words v_this_paste0 v_values v_kinds v_told v_high v_low u16 v_leftOut v_court v_names v_out v_title)) [5, 9, 0, 6, 8, 7, 11, 10, 1, 2, 3, 4] rfl
      have hD := hD.sub (ws' := (w_M_make ad a_this a_units a_kinds a_values a_names a_low a_high a_told a_leftOut a_isMade a_hands a_pad a_court a_title a_out k_values k_kinds k_told k_high k_low k_pad k_leftOut k_court k_names k_out k_title t0 v_this_size v_this_families v_this_atHand p1 p2 u15 0 v_this_titleSize v_this_written v_this_at v_this_begin v_this_words v_this_paste0 v_values v_kinds v_told v_high v_low u16 v_leftOut v_court v_names v_out v_title)) [5, 9, 0, 6, 8, 7, 11, 10, 1, 2, 3, 4] (by decide) rfl
      refine lv_goto (tgt := 117) hx hb dM_make_85 (by decide) ?_
      exact w_M_make_117 l C0 hE a_this a_units a_kinds a_values a_names a_low a_high a_told a_leftOut a_isMade a_hands a_pad a_court a_title a_out k_values k_kinds k_told k_high k_low k_pad k_leftOut k_court k_names k_out k_title p1 p2 v_this_thrown v_this_size v_this_families v_this_atHand v_this_family v_this_density v_this_pads v_this_hasThermal v_this_titleSize v_this_written v_this_at v_this_begin v_this_words v_this_paste0 v_values v_kinds v_told v_high v_low v_pad v_leftOut v_court v_names v_out v_title post hK r2 r17 t0 p1 p2 u15 0 u16 _ _ h hP hD hS ls (lv_sub hl [1, 0] rfl)
  · intro c1
    replace h := h.2 c1
    refine lv_iconst (v := 0) hx hb dM_make_41 (by decide) ?_
    exact W.iret (v := 0) hx hb hr (fun t ht hW => ⟨⟨0, (t0, v_this_atHand, v_this_family, v_this_density, v_this_pads, v_this_hasThermal, v_this_titleSize, v_this_written, v_this_paste0, v_pad, v_court, v_out, v_title), rfl, h, by rw [ht]; exact hP, hD⟩, hS.F ht⟩) hS.2.2 dM_make_42
def P_M_make_13 (p1 : Int32) (p2 : Int32) (v_this_atHand : Int32) (v_this_family : Int32) (v_this_density : Int32) (v_this_pads : Int32) (v_this_hasThermal : Int32) (v_this_titleSize : Int32) (v_this_written : Int32) (v_this_paste0 : Int64) (v_values : Nat → Int64) (v_kinds : Nat → Int32) (v_told : Nat → Int32) (v_high : Nat → Int64) (v_low : Nat → Int64) (v_pad : Nat → Int64) (v_leftOut : Nat → Int32) (v_court : Nat → Int64) (v_names : Nat → Int64) (v_out : Nat → Int32) (v_title : Nat → Int32) (post : Int32 → Int32 → Int32 → Int32 → Int32 → Int32 → Int32 → Int32 → Int32 → Int64 → (Nat → Int64) → (Nat → Int64) → (Nat → Int32) → (Nat → Int32) → Prop)  : Prop := P_M_make_31 p1 p2 v_this_atHand v_this_family v_this_density v_this_pads v_this_hasThermal v_this_titleSize v_this_written v_this_paste0 v_values v_kinds v_told v_high v_low v_pad v_leftOut v_court v_names v_out v_title post 1
set_option maxHeartbeats 4000000 in
set_option maxRecDepth 100000 in
theorem w_M_make_13 (l : Launch) {p : Program} {e : Env} {s : State} {m : MethodId} {args : Array Value} {below : List Frame} {meth : Method} {c : Code} {dC : Nat → ClassId} {dI : Nat → Nat → Nat} {ad : Nat → Nat → Nat} {A : Nat → Prop} (C0 : zC p s m args meth c cM_make 5 RM zT (some .int) A) (hE : zE ad A s) (a_this : Nat) (a_units : Nat) (a_kinds : Nat) (a_values : Nat) (a_names : Nat) (a_low : Nat) (a_high : Nat) (a_told : Nat) (a_leftOut : Nat) (a_isMade : Nat) (a_hands : Nat) (a_pad : Nat) (a_court : Nat) (a_title : Nat) (a_out : Nat) (k_values : ClassId) (k_kinds : ClassId) (k_told : ClassId) (k_high : ClassId) (k_low : ClassId) (k_pad : ClassId) (k_leftOut : ClassId) (k_court : ClassId) (k_names : ClassId) (k_out : ClassId) (k_title : ClassId) (p1 : Int32) (p2 : Int32) (v_this_thrown : Int32) (v_this_size : Int32) (v_this_families : Int32) (v_this_atHand : Int32) (v_this_family : Int32) (v_this_density : Int32) (v_this_pads : Int32) (v_this_hasThermal : Int32) (v_this_titleSize : Int32) (v_this_written : Int32) (v_this_at : Int32) (v_this_begin : Int32) (v_this_words : Int32) (v_this_paste0 : Int64) (v_values : Nat → Int64) (v_kinds : Nat → Int32) (v_told : Nat → Int32) (v_high : Nat → Int64) (v_low : Nat → Int64) (v_pad : Nat → Int64) (v_leftOut : Nat → Int32) (v_court : Nat → Int64) (v_names : Nat → Int64) (v_out : Nat → Int32) (v_title : Nat → Int32) (post : Int32 → Int32 → Int32 → Int32 → Int32 → Int32 → Int32 → Int32 → Int32 → Int64 → (Nat → Int64) → (Nat → Int64) → (Nat → Int32) → (Nat → Int32) → Prop) (hK : va_K (dC, dI) vwCl [(k_values, .long), (k_kinds, .int), (k_told, .boolean), (k_high, .long), (k_low, .long), (k_pad, .long), (k_leftOut, .boolean), (k_court, .long), (k_names, .long), (k_out, .int), (k_title, .int)] s) : ∀  (H : Heap) (locs : List Loc), P_M_make_13 p1 p2 v_this_atHand v_this_family v_this_density v_this_pads v_this_hasThermal v_this_titleSize v_this_written v_this_paste0 v_values v_kinds v_told v_high v_low v_pad v_leftOut v_court v_names v_out v_title post → va_P (dC, dI) vwCl (w_M_make ad a_this a_units a_kinds a_values a_names a_low a_high a_told a_leftOut a_isMade a_hands a_pad a_court a_title a_out k_values k_kinds k_told k_high k_low k_pad k_leftOut k_court k_names k_out k_title v_this_thrown v_this_size v_this_families v_this_atHand v_this_family v_this_density v_this_pads v_this_hasThermal v_this_titleSize v_this_written v_this_at v_this_begin v_this_words v_this_paste0 v_values v_kinds v_told v_high v_low v_pad v_leftOut v_court v_names v_out v_title) H → va_D A (w_M_make ad a_this a_units a_kinds a_values a_names a_low a_high a_told a_leftOut a_isMade a_hands a_pad a_court a_title a_out k_values k_kinds k_told k_high k_low k_pad k_leftOut k_court k_names k_out k_title v_this_thrown v_this_size v_this_families v_this_atHand v_this_family v_this_density v_this_pads v_this_hasThermal v_this_titleSize v_this_written v_this_at v_this_begin v_this_words v_this_paste0 v_values v_kinds v_told v_high v_low v_pad v_leftOut v_court v_names v_out v_title) → va_S A s.heap H locs → ∀ ls : Array Slot, lv_has ls 5 [(0, .ref a_this), (1, .int p1), (2, .int p2)] → W p l e (headSpec wsM_make { frames := 3, cells := 0, slots := 0, locals := 98 }).room s m args below meth c H locs 0 0 (MQ below (va_Qi (fun (r : Int32) (u : Int32 × Int32 × Int32 × Int32 × Int32 × Int32 × Int32 × Int32 × Int64 × (Nat → Int64) × (Nat → Int64) × (Nat → Int32) × (Nat → Int32)) => post r u.1 u.2.1 u.2.2.1 u.2.2.2.1 u.2.2.2.2.1 u.2.2.2.2.2.1 u.2.2.2.2.2.2.1 u.2.2.2.2.2.2.2.1 u.2.2.2.2.2.2.2.2.1 u.2.2.2.2.2.2.2.2.2.1 u.2.2.2.2.2.2.2.2.2.2.1 u.2.2.2.2.2.2.2.2.2.2.2.1 u.2.2.2.2.2.2.2.2.2.2.2.2) (zB (dC, dI) A (fun (u : Int32 × Int32 × Int32 × Int32 × Int32 × Int32 × Int32 × Int32 × Int64 × (Nat → Int64) × (Nat → Int64) × (Nat → Int32) × (Nat → Int32)) => (w_M_make ad a_this a_units a_kinds a_values a_names a_low a_high a_told a_leftOut a_isMade a_hands a_pad a_court a_title a_out k_values k_kinds k_told k_high k_low k_pad k_leftOut k_court k_names k_out k_title u.1 v_this_size v_this_families u.2.1 u.2.2.1 u.2.2.2.1 u.2.2.2.2.1 u.2.2.2.2.2.1 u.2.2.2.2.2.2.1 u.2.2.2.2.2.2.2.1 v_this_at v_this_begin v_this_words u.2.2.2.2.2.2.2.2.1 v_values v_kinds v_told v_high v_low u.2.2.2.2.2.2.2.2.2.1 v_leftOut u.2.2.2.2.2.2.2.2.2.2.1 v_names u.2.2.2.2.2.2.2.2.2.2.2.1 u.2.2.2.2.2.2.2.2.2.2.2.2))) A) args s 0 0 A) (F0 m 13 ls [.ref a_this]) := by
  obtain ⟨hx, hb, hr, hml, hown, hts, hlocks, hA⟩ := id C0
  intro  H locs h hP hD hS ls hl
  unfold P_M_make_13 at h
  refine lv_iconst (v := 1) hx hb dM_make_13 (by decide) ?_
  refine lv_goto (tgt := 31) hx hb dM_make_14 (by decide) ?_
  exact w_M_make_31 l C0 hE a_this a_units a_kinds a_values a_names a_low a_high a_told a_leftOut a_isMade a_hands a_pad a_court a_title a_out k_values k_kinds k_told k_high k_low k_pad k_leftOut k_court k_names k_out k_title p1 p2 v_this_thrown v_this_size v_this_families v_this_atHand v_this_family v_this_density v_this_pads v_this_hasThermal v_this_titleSize v_this_written v_this_at v_this_begin v_this_words v_this_paste0 v_values v_kinds v_told v_high v_low v_pad v_leftOut v_court v_names v_out v_title post hK 1 _ _ h hP hD hS ls (lv_sub hl [0, 1, 2] rfl)
def P_M_make_26 (p1 : Int32) (p2 : Int32) (v_this_atHand : Int32) (v_this_family : Int32) (v_this_density : Int32) (v_this_pads : Int32) (v_this_hasThermal : Int32) (v_this_titleSize : Int32) (v_this_written : Int32) (v_this_paste0 : Int64) (v_values : Nat → Int64) (v_kinds : Nat → Int32) (v_told : Nat → Int32) (v_high : Nat → Int64) (v_low : Nat → Int64) (v_pad : Nat → Int64) (v_leftOut : Nat → Int32) (v_court : Nat → Int64) (v_names : Nat → Int64) (v_out : Nat → Int32) (v_title : Nat → Int32) (post : Int32 → Int32 → Int32 → Int32 → Int32 → Int32 → Int32 → Int32 → Int32 → Int64 → (Nat → Int64) → (Nat → Int64) → (Nat → Int32) → (Nat → Int32) → Prop)  : Prop := P_M_make_31 p1 p2 v_this_atHand v_this_family v_this_density v_this_pads v_this_hasThermal v_this_titleSize v_this_written v_this_paste0 v_values v_kinds v_told v_high v_low v_pad v_leftOut v_court v_names v_out v_title post 2
set_option maxHeartbeats 4000000 in
set_option maxRecDepth 100000 in
theorem w_M_make_26 (l : Launch) {p : Program} {e : Env} {s : State} {m : MethodId} {args : Array Value} {below : List Frame} {meth : Method} {c : Code} {dC : Nat → ClassId} {dI : Nat → Nat → Nat} {ad : Nat → Nat → Nat} {A : Nat → Prop} (C0 : zC p s m args meth c cM_make 5 RM zT (some .int) A) (hE : zE ad A s) (a_this : Nat) (a_units : Nat) (a_kinds : Nat) (a_values : Nat) (a_names : Nat) (a_low : Nat) (a_high : Nat) (a_told : Nat) (a_leftOut : Nat) (a_isMade : Nat) (a_hands : Nat) (a_pad : Nat) (a_court : Nat) (a_title : Nat) (a_out : Nat) (k_values : ClassId) (k_kinds : ClassId) (k_told : ClassId) (k_high : ClassId) (k_low : ClassId) (k_pad : ClassId) (k_leftOut : ClassId) (k_court : ClassId) (k_names : ClassId) (k_out : ClassId) (k_title : ClassId) (p1 : Int32) (p2 : Int32) (v_this_thrown : Int32) (v_this_size : Int32) (v_this_families : Int32) (v_this_atHand : Int32) (v_this_family : Int32) (v_this_density : Int32) (v_this_pads : Int32) (v_this_hasThermal : Int32) (v_this_titleSize : Int32) (v_this_written : Int32) (v_this_at : Int32) (v_this_begin : Int32) (v_this_words : Int32) (v_this_paste0 : Int64) (v_values : Nat → Int64) (v_kinds : Nat → Int32) (v_told : Nat → Int32) (v_high : Nat → Int64) (v_low : Nat → Int64) (v_pad : Nat → Int64) (v_leftOut : Nat → Int32) (v_court : Nat → Int64) (v_names : Nat → Int64) (v_out : Nat → Int32) (v_title : Nat → Int32) (post : Int32 → Int32 → Int32 → Int32 → Int32 → Int32 → Int32 → Int32 → Int32 → Int64 → (Nat → Int64) → (Nat → Int64) → (Nat → Int32) → (Nat → Int32) → Prop) (hK : va_K (dC, dI) vwCl [(k_values, .long), (k_kinds, .int), (k_told, .boolean), (k_high, .long), (k_low, .long), (k_pad, .long), (k_leftOut, .boolean), (k_court, .long), (k_names, .long), (k_out, .int), (k_title, .int)] s) : ∀  (H : Heap) (locs : List Loc), P_M_make_26 p1 p2 v_this_atHand v_this_family v_this_density v_this_pads v_this_hasThermal v_this_titleSize v_this_written v_this_paste0 v_values v_kinds v_told v_high v_low v_pad v_leftOut v_court v_names v_out v_title post → va_P (dC, dI) vwCl (w_M_make ad a_this a_units a_kinds a_values a_names a_low a_high a_told a_leftOut a_isMade a_hands a_pad a_court a_title a_out k_values k_kinds k_told k_high k_low k_pad k_leftOut k_court k_names k_out k_title v_this_thrown v_this_size v_this_families v_this_atHand v_this_family v_this_density v_this_pads v_this_hasThermal v_this_titleSize v_this_written v_this_at v_this_begin v_this_words v_this_paste0 v_values v_kinds v_told v_high v_low v_pad v_leftOut v_court v_names v_out v_title) H → va_D A (w_M_make ad a_this a_units a_kinds a_values a_names a_low a_high a_told a_leftOut a_isMade a_hands a_pad a_court a_title a_out k_values k_kinds k_told k_high k_low k_pad k_leftOut k_court k_names k_out k_title v_this_thrown v_this_size v_this_families v_this_atHand v_this_family v_this_density v_this_pads v_this_hasThermal v_this_titleSize v_this_written v_this_at v_this_begin v_this_words v_this_paste0 v_values v_kinds v_told v_high v_low v_pad v_leftOut v_court v_names v_out v_title) → va_S A s.heap H locs → ∀ ls : Array Slot, lv_has ls 5 [(0, .ref a_this), (1, .int p1), (2, .int p2)] → W p l e (headSpec wsM_make { frames := 3, cells := 0, slots := 0, locals := 98 }).room s m args below meth c H locs 0 0 (MQ below (va_Qi (fun (r : Int32) (u : Int32 × Int32 × Int32 × Int32 × Int32 × Int32 × Int32 × Int32 × Int64 × (Nat → Int64) × (Nat → Int64) × (Nat → Int32) × (Nat → Int32)) => post r u.1 u.2.1 u.2.2.1 u.2.2.2.1 u.2.2.2.2.1 u.2.2.2.2.2.1 u.2.2.2.2.2.2.1 u.2.2.2.2.2.2.2.1 u.2.2.2.2.2.2.2.2.1 u.2.2.2.2.2.2.2.2.2.1 u.2.2.2.2.2.2.2.2.2.2.1 u.2.2.2.2.2.2.2.2.2.2.2.1 u.2.2.2.2.2.2.2.2.2.2.2.2) (zB (dC, dI) A (fun (u : Int32 × Int32 × Int32 × Int32 × Int32 × Int32 × Int32 × Int32 × Int64 × (Nat → Int64) × (Nat → Int64) × (Nat → Int32) × (Nat → Int32)) => (w_M_make ad a_this a_units a_kinds a_values a_names a_low a_high a_told a_leftOut a_isMade a_hands a_pad a_court a_title a_out k_values k_kinds k_told k_high k_low k_pad k_leftOut k_court k_names k_out k_title u.1 v_this_size v_this_families u.2.1 u.2.2.1 u.2.2.2.1 u.2.2.2.2.1 u.2.2.2.2.2.1 u.2.2.2.2.2.2.1 u.2.2.2.2.2.2.2.1 v_this_at v_this_begin v_this_words u.2.2.2.2.2.2.2.2.1 v_values v_kinds v_told v_high v_low u.2.2.2.2.2.2.2.2.2.1 v_leftOut u.2.2.2.2.2.2.2.2.2.2.1 v_names u.2.2.2.2.2.2.2.2.2.2.2.1 u.2.2.2.2.2.2.2.2.2.2.2.2))) A) args s 0 0 A) (F0 m 26 ls [.ref a_this]) := by
  obtain ⟨hx, hb, hr, hml, hown, hts, hlocks, hA⟩ := id C0
  intro  H locs h hP hD hS ls hl
  unfold P_M_make_26 at h
  refine lv_iconst (v := 2) hx hb dM_make_26 (by decide) ?_
  refine lv_goto (tgt := 31) hx hb dM_make_27 (by decide) ?_
  exact w_M_make_31 l C0 hE a_this a_units a_kinds a_values a_names a_low a_high a_told a_leftOut a_isMade a_hands a_pad a_court a_title a_out k_values k_kinds k_told k_high k_low k_pad k_leftOut k_court k_names k_out k_title p1 p2 v_this_thrown v_this_size v_this_families v_this_atHand v_this_family v_this_density v_this_pads v_this_hasThermal v_this_titleSize v_this_written v_this_at v_this_begin v_this_words v_this_paste0 v_values v_kinds v_told v_high v_low v_pad v_leftOut v_court v_names v_out v_title post hK 2 _ _ h hP hD hS ls (lv_sub hl [0, 1, 2] rfl)
def P_M_make (p1 : Int32) (p2 : Int32) (v_this_families : Int32) (v_this_atHand : Int32) (v_this_family : Int32) (v_this_density : Int32) (v_this_pads : Int32) (v_this_hasThermal : Int32) (v_this_titleSize : Int32) (v_this_written : Int32) (v_this_paste0 : Int64) (v_values : Nat → Int64) (v_kinds : Nat → Int32) (v_told : Nat → Int32) (v_high : Nat → Int64) (v_low : Nat → Int64) (v_pad : Nat → Int64) (v_leftOut : Nat → Int32) (v_court : Nat → Int64) (v_names : Nat → Int64) (v_out : Nat → Int32) (v_title : Nat → Int32) (post : Int32 → Int32 → Int32 → Int32 → Int32 → Int32 → Int32 → Int32 → Int32 → Int64 → (Nat → Int64) → (Nat → Int64) → (Nat → Int32) → (Nat → Int32) → Prop) : Prop := ((p1 < 0 → P_M_make_13 p1 p2 v_this_atHand v_this_family v_this_density v_this_pads v_this_hasThermal v_this_titleSize v_this_written v_this_paste0 v_values v_kinds v_told v_high v_low v_pad v_leftOut v_court v_names v_out v_title post) ∧ (¬ p1 < 0 → ((p1 < v_this_families → ((p2 < 0 → P_M_make_26 p1 p2 v_this_atHand v_this_family v_this_density v_this_pads v_this_hasThermal v_this_titleSize v_this_written v_this_paste0 v_values v_kinds v_told v_high v_low v_pad v_leftOut v_court v_names v_out v_title post) ∧ (¬ p2 < 0 → ((p2 ≤ 2 → P_M_make_31 p1 p2 v_this_atHand v_this_family v_this_density v_this_pads v_this_hasThermal v_this_titleSize v_this_written v_this_paste0 v_values v_kinds v_told v_high v_low v_pad v_leftOut v_court v_names v_out v_title post 0) ∧ (¬ p2 ≤ 2 → P_M_make_26 p1 p2 v_this_atHand v_this_family v_this_density v_this_pads v_this_hasThermal v_this_titleSize v_this_written v_this_paste0 v_values v_kinds v_told v_high v_low v_pad v_leftOut v_court v_names v_out v_title post))))) ∧ (¬ p1 < v_this_families → P_M_make_13 p1 p2 v_this_atHand v_this_family v_this_density v_this_pads v_this_hasThermal v_this_titleSize v_this_written v_this_paste0 v_values v_kinds v_told v_high v_low v_pad v_leftOut v_court v_names v_out v_title post))))
set_option maxHeartbeats 4000000 in
set_option maxRecDepth 100000 in
theorem c_M_make (l : Launch) (dC : Nat → ClassId) (dI : Nat → Nat → Nat) (ad : Nat → Nat → Nat) (a_this : Nat) (a_units : Nat) (a_kinds : Nat) (a_values : Nat) (a_names : Nat) (a_low : Nat) (a_high : Nat) (a_told : Nat) (a_leftOut : Nat) (a_isMade : Nat) (a_hands : Nat) (a_pad : Nat) (a_court : Nat) (a_title : Nat) (a_out : Nat) (k_values : ClassId) (k_kinds : ClassId) (k_told : ClassId) (k_high : ClassId) (k_low : ClassId) (k_pad : ClassId) (k_leftOut : ClassId) (k_court : ClassId) (k_names : ClassId) (k_out : ClassId) (k_title : ClassId) (sz : Nat) (p1 : Int32) (p2 : Int32) (v_this_thrown : Int32) (v_this_size : Int32) (v_this_families : Int32) (v_this_atHand : Int32) (v_this_family : Int32) (v_this_density : Int32) (v_this_pads : Int32) (v_this_hasThermal : Int32) (v_this_titleSize : Int32) (v_this_written : Int32) (v_this_at : Int32) (v_this_begin : Int32) (v_this_words : Int32) (v_this_paste0 : Int64) (v_values : Nat → Int64) (v_kinds : Nat → Int32) (v_told : Nat → Int32) (v_high : Nat → Int64) (v_low : Nat → Int64) (v_pad : Nat → Int64) (v_leftOut : Nat → Int32) (v_court : Nat → Int64) (v_names : Nat → Int64) (v_out : Nat → Int32) (v_title : Nat → Int32) (post : Int32 → Int32 → Int32 → Int32 → Int32 → Int32 → Int32 → Int32 → Int32 → Int64 → (Nat → Int64) → (Nat → Int64) → (Nat → Int32) → (Nat → Int32) → Prop) (h : P_M_make p1 p2 v_this_families v_this_atHand v_this_family v_this_density v_this_pads v_this_hasThermal v_this_titleSize v_this_written v_this_paste0 v_values v_kinds v_told v_high v_low v_pad v_leftOut v_court v_names v_out v_title post) : zMi l yM_make wsM_make { frames := 3, cells := 0, slots := 0, locals := 98 } (dC, dI) ad [.ref a_this, .int p1, .int p2] (w_M_make ad a_this a_units a_kinds a_values a_names a_low a_high a_told a_leftOut a_isMade a_hands a_pad a_court a_title a_out k_values k_kinds k_told k_high k_low k_pad k_leftOut k_court k_names k_out k_title v_this_thrown v_this_size v_this_families v_this_atHand v_this_family v_this_density v_this_pads v_this_hasThermal v_this_titleSize v_this_written v_this_at v_this_begin v_this_words v_this_paste0 v_values v_kinds v_told v_high v_low v_pad v_leftOut v_court v_names v_out v_title) [(k_values, .long), (k_kinds, .int), (k_told, .boolean), (k_high, .long), (k_low, .long), (k_pad, .long), (k_leftOut, .boolean), (k_court, .long), (k_names, .long), (k_out, .int), (k_title, .int)] sz (fun (r : Int32) (u : Int32 × Int32 × Int32 × Int32 × Int32 × Int32 × Int32 × Int32 × Int64 × (Nat → Int64) × (Nat → Int64) × (Nat → Int32) × (Nat → Int32)) => post r u.1 u.2.1 u.2.2.1 u.2.2.2.1 u.2.2.2.2.1 u.2.2.2.2.2.1 u.2.2.2.2.2.2.1 u.2.2.2.2.2.2.2.1 u.2.2.2.2.2.2.2.2.1 u.2.2.2.2.2.2.2.2.2.1 u.2.2.2.2.2.2.2.2.2.2.1 u.2.2.2.2.2.2.2.2.2.2.2.1 u.2.2.2.2.2.2.2.2.2.2.2.2) (fun (u : Int32 × Int32 × Int32 × Int32 × Int32 × Int32 × Int32 × Int32 × Int64 × (Nat → Int64) × (Nat → Int64) × (Nat → Int32) × (Nat → Int32)) => (w_M_make ad a_this a_units a_kinds a_values a_names a_low a_high a_told a_leftOut a_isMade a_hands a_pad a_court a_title a_out k_values k_kinds k_told k_high k_low k_pad k_leftOut k_court k_names k_out k_title u.1 v_this_size v_this_families u.2.1 u.2.2.1 u.2.2.2.1 u.2.2.2.2.1 u.2.2.2.2.2.1 u.2.2.2.2.2.2.1 u.2.2.2.2.2.2.2.1 v_this_at v_this_begin v_this_words u.2.2.2.2.2.2.2.2.1 v_values v_kinds v_told v_high v_low u.2.2.2.2.2.2.2.2.2.1 v_leftOut u.2.2.2.2.2.2.2.2.2.2.1 v_names u.2.2.2.2.2.2.2.2.2.2.2.1 u.2.2.2.2.2.2.2.2.2.2.2.2)) 0 0 := by
  refine Met.ofW (cc := cM_make) (maxL := 5) (ret := (some .int)) (by decide +kernel) rfl ?_
  intro p e s m args below meth c s₁ B hml hv
  obtain ⟨rfl, hsz, hP, hK, hD0, hE⟩ := hv
  have hx := B.exec
  have hb := B.bytes
  have hr := B.returns
  have hts0 := atoms_spec (ws := wsM_make) B.pre
  have hts := fun w h => hts0 w (List.mem_cons_of_mem _ h)
  have hown : s.vm.findClass RM = some m.cls := findClass_of_methodNamed B.named
  have hlocks := B.notSynchronized
  subst hsz
  have hD := hD0.self (sz := s.heap.size)
  generalize hAe : va_A (w_M_make ad a_this a_units a_kinds a_values a_names a_low a_high a_told a_leftOut a_isMade a_hands a_pad a_court a_title a_out k_values k_kinds k_told k_high k_low k_pad k_leftOut k_court k_names k_out k_title v_this_thrown v_this_size v_this_families v_this_atHand v_this_family v_this_density v_this_pads v_this_hasThermal v_this_titleSize v_this_written v_this_at v_this_begin v_this_words v_this_paste0 v_values v_kinds v_told v_high v_low v_pad v_leftOut v_court v_names v_out v_title) s.heap.size = A at hD hE ⊢
  have hA : ∀ q : Nat, s.heap.size ≤ q → A q := fun q h => by rw [← hAe]; exact Or.inr h
  have C0 := zC.mk hx hb hr hml hown hts hlocks hA
  have hS : va_S A s.heap s.heap [] := va_S.rf
  have hl := lv_entry ([.ref a_this, .int p1, .int p2]) (n := 5) (Nat.le_of_ble_eq_true rfl)
  rw [lg_entry_eq]
  generalize (lg_sl ([.ref a_this, .int p1, .int p2]) ++ List.replicate (5 - (lg_sl ([.ref a_this, .int p1, .int p2])).length) Slot.unset).toArray = ls at hl ⊢
  have hl : lv_has ls 5 [(0, .ref a_this), (1, .int p1), (2, .int p2)] := hl
  unfold P_M_make at h
  refine lv_aload_n hx hb dM_make_0 rfl (lv_at hl 0 rfl) ?_
  refine lv_iload_n hx hb dM_make_1 rfl (lv_at hl 1 rfl) ?_
  refine lv_if_lt (tgt := 13) hx hb dM_make_2 (by decide) ?_ ?_
  · intro c1
    replace h := h.1 c1
    exact w_M_make_13 l C0 hE a_this a_units a_kinds a_values a_names a_low a_high a_told a_leftOut a_isMade a_hands a_pad a_court a_title a_out k_values k_kinds k_told k_high k_low k_pad k_leftOut k_court k_names k_out k_title p1 p2 v_this_thrown v_this_size v_this_families v_this_atHand v_this_family v_this_density v_this_pads v_this_hasThermal v_this_titleSize v_this_written v_this_at v_this_begin v_this_words v_this_paste0 v_values v_kinds v_told v_high v_low v_pad v_leftOut v_court v_names v_out v_title post hK _ _ h hP hD hS ls (lv_sub hl [0, 1, 2] rfl)
  · intro c1
    replace h := h.2 c1
    refine lv_iload_n hx hb dM_make_5 rfl (lv_at hl 1 rfl) ?_
    refine lv_aload_n hx hb dM_make_6 rfl (lv_at hl 0 rfl) ?_
    refine va_get (D := (dC, dI)) (ci := 10) (v := .int v_this_families) (C := RM) (T := TM) (N := 28) hx hb hts inZ_M hown hK hP 0 rfl rfl 3 (by decide) (hts _ zw_1047) (fun _ h9 => h9) rfl dM_make_7 ?_
    refine lv_icmp_lt (tgt := 17) hx hb dM_make_10 (by decide) ?_ ?_
    · intro c2
      replace h := h.1 c2
      refine lv_iload_n hx hb dM_make_17 rfl (lv_at hl 2 rfl) ?_
      refine lv_if_lt (tgt := 26) hx hb dM_make_18 (by decide) ?_ ?_
      · intro c3
        replace h := h.1 c3
        exact w_M_make_26 l C0 hE a_this a_units a_kinds a_values a_names a_low a_high a_told a_leftOut a_isMade a_hands a_pad a_court a_title a_out k_values k_kinds k_told k_high k_low k_pad k_leftOut k_court k_names k_out k_title p1 p2 v_this_thrown v_this_size v_this_families v_this_atHand v_this_family v_this_density v_this_pads v_this_hasThermal v_this_titleSize v_this_written v_this_at v_this_begin v_this_words v_this_paste0 v_values v_kinds v_told v_high v_low v_pad v_leftOut v_court v_names v_out v_title post hK _ _ h hP hD hS ls (lv_sub hl [0, 1, 2] rfl)
      · intro c3
        replace h := h.2 c3
        refine lv_iload_n hx hb dM_make_21 rfl (lv_at hl 2 rfl) ?_
        refine lv_iconst (v := 2) hx hb dM_make_22 (by decide) ?_
        refine lv_icmp_le (tgt := 30) hx hb dM_make_23 (by decide) ?_ ?_
        · intro c4
          replace h := h.1 c4
          refine lv_iconst (v := 0) hx hb dM_make_30 (by decide) ?_
          exact w_M_make_31 l C0 hE a_this a_units a_kinds a_values a_names a_low a_high a_told a_leftOut a_isMade a_hands a_pad a_court a_title a_out k_values k_kinds k_told k_high k_low k_pad k_leftOut k_court k_names k_out k_title p1 p2 v_this_thrown v_this_size v_this_families v_this_atHand v_this_family v_this_density v_this_pads v_this_hasThermal v_this_titleSize v_this_written v_this_at v_this_begin v_this_words v_this_paste0 v_values v_kinds v_told v_high v_low v_pad v_leftOut v_court v_names v_out v_title post hK 0 _ _ h hP hD hS ls (lv_sub hl [0, 1, 2] rfl)
        · intro c4
          replace h := h.2 c4
          exact w_M_make_26 l C0 hE a_this a_units a_kinds a_values a_names a_low a_high a_told a_leftOut a_isMade a_hands a_pad a_court a_title a_out k_values k_kinds k_told k_high k_low k_pad k_leftOut k_court k_names k_out k_title p1 p2 v_this_thrown v_this_size v_this_families v_this_atHand v_this_family v_this_density v_this_pads v_this_hasThermal v_this_titleSize v_this_written v_this_at v_this_begin v_this_words v_this_paste0 v_values v_kinds v_told v_high v_low v_pad v_leftOut v_court v_names v_out v_title post hK _ _ h hP hD hS ls (lv_sub hl [0, 1, 2] rfl)
    · intro c2
      replace h := h.2 c2
      exact w_M_make_13 l C0 hE a_this a_units a_kinds a_values a_names a_low a_high a_told a_leftOut a_isMade a_hands a_pad a_court a_title a_out k_values k_kinds k_told k_high k_low k_pad k_leftOut k_court k_names k_out k_title p1 p2 v_this_thrown v_this_size v_this_families v_this_atHand v_this_family v_this_density v_this_pads v_this_hasThermal v_this_titleSize v_this_written v_this_at v_this_begin v_this_words v_this_paste0 v_values v_kinds v_told v_high v_low v_pad v_leftOut v_court v_names v_out v_title post hK _ _ h hP hD hS ls (lv_sub hl [0, 1, 2] rfl)
abbrev yM_refusal : MethodName := ⟨"FootprintRulesModel", "refusal", "(Z)I"⟩
abbrev cM_refusal : ByteArray := prog_14_method_37_code
abbrev wsM_refusal : List Cond := .code yM_refusal cM_refusal 2 (some .int) :: zT
set_option maxRecDepth 100000 in
theorem zc_M_refusal : Cond.code yM_refusal cM_refusal 2 (some .int) ∈ zT := zm 1283 (by rfl) (by rfl)
theorem dM_refusal_0 : decode cM_refusal 0 = .ok (.aload_n 0, 1) := by decide +kernel
theorem dM_refusal_1 : decode cM_refusal 1 = .ok (.getfield 124, 3) := by decide +kernel
theorem dM_refusal_4 : decode cM_refusal 4 = .ok (.ifCond .ne 7, 3) := by decide +kernel
theorem dM_refusal_7 : decode cM_refusal 7 = .ok (.iconst 1, 1) := by decide +kernel
theorem dM_refusal_8 : decode cM_refusal 8 = .ok (.goto 12, 3) := by decide +kernel
theorem dM_refusal_11 : decode cM_refusal 11 = .ok (.iload_n 1, 1) := by decide +kernel
theorem dM_refusal_12 : decode cM_refusal 12 = .ok (.ifCond .eq 7, 3) := by decide +kernel
theorem dM_refusal_15 : decode cM_refusal 15 = .ok (.iconst 0, 1) := by decide +kernel
theorem dM_refusal_16 : decode cM_refusal 16 = .ok (.goto 4, 3) := by decide +kernel
theorem dM_refusal_19 : decode cM_refusal 19 = .ok (.iconst 2, 1) := by decide +kernel
theorem dM_refusal_20 : decode cM_refusal 20 = .ok (.ireturn, 1) := by decide +kernel
-- FootprintRulesModel.refusal(Z)I
abbrev w_M_refusal (ad : Nat → Nat → Nat) (a_this : Nat) (a_units : Nat) (a_kinds : Nat) (a_values : Nat) (a_names : Nat) (a_low : Nat) (a_high : Nat) (a_told : Nat) (a_leftOut : Nat) (a_isMade : Nat) (a_hands : Nat) (a_pad : Nat) (a_court : Nat) (a_title : Nat) (a_out : Nat)  (v_this_thrown : Int32) (v_this_size : Int32) (v_this_families : Int32) (v_this_atHand : Int32) (v_this_family : Int32) (v_this_density : Int32) (v_this_pads : Int32) (v_this_hasThermal : Int32) (v_this_titleSize : Int32) (v_this_written : Int32) (v_this_at : Int32) (v_this_begin : Int32) (v_this_words : Int32) (v_this_paste0 : Int64) : va_W := [(a_this, .inr (10, [.int v_this_thrown, .ref a_units, .int v_this_size, .int v_this_families, .ref a_kinds, .ref a_values, .ref a_names, .ref a_low, .ref a_high, .ref a_told, .ref a_leftOut, .ref a_isMade, .ref a_hands, .int v_this_atHand, .int v_this_family, .int v_this_density, .int v_this_pads, .ref a_pad, .ref a_court, .int v_this_hasThermal, .ref a_title, .int v_this_titleSize, .ref a_out, .int v_this_written, .int v_this_at, .int v_this_begin, .int v_this_words, .long v_this_paste0]))]
def P_M_refusal (p1 : Int32) (v_this_atHand : Int32) (post : Int32 → Prop) : Prop := ((¬ v_this_atHand = 0 → ((p1 = 0 → post 2) ∧ (¬ p1 = 0 → post 0))) ∧ (v_this_atHand = 0 → post 1))
set_option maxHeartbeats 4000000 in
set_option maxRecDepth 100000 in
theorem c_M_refusal (l : Launch) (dC : Nat → ClassId) (dI : Nat → Nat → Nat) (ad : Nat → Nat → Nat) (a_this : Nat) (a_units : Nat) (a_kinds : Nat) (a_values : Nat) (a_names : Nat) (a_low : Nat) (a_high : Nat) (a_told : Nat) (a_leftOut : Nat) (a_isMade : Nat) (a_hands : Nat) (a_pad : Nat) (a_court : Nat) (a_title : Nat) (a_out : Nat)  (sz : Nat) (p1 : Int32) (v_this_thrown : Int32) (v_this_size : Int32) (v_this_families : Int32) (v_this_atHand : Int32) (v_this_family : Int32) (v_this_density : Int32) (v_this_pads : Int32) (v_this_hasThermal : Int32) (v_this_titleSize : Int32) (v_this_written : Int32) (v_this_at : Int32) (v_this_begin : Int32) (v_this_words : Int32) (v_this_paste0 : Int64) (post : Int32 → Prop) (h : P_M_refusal p1 v_this_atHand post) : zMi l yM_refusal wsM_refusal { frames := 0, cells := 0, slots := 0, locals := 0 } (dC, dI) ad [.ref a_this, .int p1] (w_M_refusal ad a_this a_units a_kinds a_values a_names a_low a_high a_told a_leftOut a_isMade a_hands a_pad a_court a_title a_out v_this_thrown v_this_size v_this_families v_this_atHand v_this_family v_this_density v_this_pads v_this_hasThermal v_this_titleSize v_this_written v_this_at v_this_begin v_this_words v_this_paste0) [] sz (fun (r : Int32) (u : Unit) => post r) (fun (u : Unit) => (w_M_refusal ad a_this a_units a_kinds a_values a_names a_low a_high a_told a_leftOut a_isMade a_hands a_pad a_court a_title a_out v_this_thrown v_this_size v_this_families v_this_atHand v_this_family v_this_density v_this_pads v_this_hasThermal v_this_titleSize v_this_written v_this_at v_this_begin v_this_words v_this_paste0)) 0 0 := by
  refine Met.ofW (cc := cM_refusal) (maxL := 2) (ret := (some .int)) (by decide +kernel) rfl ?_
  intro p e s m args below meth c s₁ B hml hv
  obtain ⟨rfl, hsz, hP, hK, hD0, hE⟩ := hv
  have hx := B.exec
  have hb := B.bytes
  have hr := B.returns
  have hts0 := atoms_spec (ws := wsM_refusal) B.pre
  have hts := fun w h => hts0 w (List.mem_cons_of_mem _ h)
  have hown : s.vm.findClass RM = some m.cls := findClass_of_methodNamed B.named
  have hlocks := B.notSynchronized
  subst hsz
  have hD := hD0.self (sz := s.heap.size)
  generalize hAe : va_A (w_M_refusal ad a_this a_units a_kinds a_values a_names a_low a_high a_told a_leftOut a_isMade a_hands a_pad a_court a_title a_out v_this_thrown v_this_size v_this_families v_this_atHand v_this_family v_this_density v_this_pads v_this_hasThermal v_this_titleSize v_this_written v_this_at v_this_begin v_this_words v_this_paste0) s.heap.size = A at hD hE ⊢
  have hA : ∀ q : Nat, s.heap.size ≤ q → A q := fun q h => by rw [← hAe]; exact Or.inr h
  have C0 := zC.mk hx hb hr hml hown hts hlocks hA
  have hS : va_S A s.heap s.heap [] := va_S.rf
  have hl := lv_entry ([.ref a_this, .int p1]) (n := 2) (Nat.le_of_ble_eq_true rfl)
  rw [lg_entry_eq]
  generalize (lg_sl ([.ref a_this, .int p1]) ++ List.replicate (2 - (lg_sl ([.ref a_this, .int p1])).length) Slot.unset).toArray = ls at hl ⊢
  have hl : lv_has ls 2 [(0, .ref a_this), (1, .int p1)] := hl
  unfold P_M_refusal at h
  refine lv_aload_n hx hb dM_refusal_0 rfl (lv_at hl 0 rfl) ?_
  refine va_get (D := (dC, dI)) (ci := 10) (v := .int v_this_atHand) (C := RM) (T := TM) (N := 28) hx hb hts inZ_M hown hK hP 0 rfl rfl 13 (by decide) (hts _ zw_1057) (fun _ h9 => h9) rfl dM_refusal_1 ?_
  refine lv_if_ne (tgt := 11) hx hb dM_refusal_4 (by decide) ?_ ?_
  · intro c1
    replace h := h.1 c1
    refine lv_iload_n hx hb dM_refusal_11 rfl (lv_at hl 1 rfl) ?_
    refine lv_if_eq (tgt := 19) hx hb dM_refusal_12 (by decide) ?_ ?_
    · intro c2
      replace h := h.1 c2
      refine lv_iconst (v := 2) hx hb dM_refusal_19 (by decide) ?_
      exact W.iret (v := 2) hx hb hr (fun t ht hW => ⟨⟨2, (()), rfl, h, by rw [ht]; exact hP, hD⟩, hS.F ht⟩) hS.2.2 dM_refusal_20
    · intro c2
      replace h := h.2 c2
      refine lv_iconst (v := 0) hx hb dM_refusal_15 (by decide) ?_
      refine lv_goto (tgt := 20) hx hb dM_refusal_16 (by decide) ?_
      exact W.iret (v := 0) hx hb hr (fun t ht hW => ⟨⟨0, (()), rfl, h, by rw [ht]; exact hP, hD⟩, hS.F ht⟩) hS.2.2 dM_refusal_20
  · intro c1
    replace h := h.2 c1
    refine lv_iconst (v := 1) hx hb dM_refusal_7 (by decide) ?_
    refine lv_goto (tgt := 20) hx hb dM_refusal_8 (by decide) ?_
    exact W.iret (v := 1) hx hb hr (fun t ht hW => ⟨⟨1, (()), rfl, h, by rw [ht]; exact hP, hD⟩, hS.F ht⟩) hS.2.2 dM_refusal_20
abbrev yM_pad : MethodName := ⟨"FootprintRulesModel", "pad", "(II)J"⟩
abbrev cM_pad : ByteArray := prog_14_method_38_code
abbrev wsM_pad : List Cond := .code yM_pad cM_pad 3 (some .long) :: zT
set_option maxRecDepth 100000 in
theorem zc_M_pad : Cond.code yM_pad cM_pad 3 (some .long) ∈ zT := zm 1279 (by rfl) (by rfl)
theorem dM_pad_0 : decode cM_pad 0 = .ok (.aload_n 0, 1) := by decide +kernel
theorem dM_pad_1 : decode cM_pad 1 = .ok (.aload_n 0, 1) := by decide +kernel
theorem dM_pad_2 : decode cM_pad 2 = .ok (.iload_n 1, 1) := by decide +kernel
theorem dM_pad_3 : decode cM_pad 3 = .ok (.ifCond .lt 25, 3) := by decide +kernel
theorem dM_pad_6 : decode cM_pad 6 = .ok (.iload_n 1, 1) := by decide +kernel
theorem dM_pad_7 : decode cM_pad 7 = .ok (.aload_n 0, 1) := by decide +kernel
theorem dM_pad_8 : decode cM_pad 8 = .ok (.getfield 134, 3) := by decide +kernel
theorem dM_pad_11 : decode cM_pad 11 = .ok (.if_icmp .ge 17, 3) := by decide +kernel
theorem dM_pad_14 : decode cM_pad 14 = .ok (.iload_n 2, 1) := by decide +kernel
theorem dM_pad_15 : decode cM_pad 15 = .ok (.ifCond .lt 13, 3) := by decide +kernel
theorem dM_pad_18 : decode cM_pad 18 = .ok (.iload_n 2, 1) := by decide +kernel
theorem dM_pad_19 : decode cM_pad 19 = .ok (.bipush 7, 2) := by decide +kernel
theorem dM_pad_21 : decode cM_pad 21 = .ok (.if_icmp .ge 7, 3) := by decide +kernel
theorem dM_pad_24 : decode cM_pad 24 = .ok (.iconst 1, 1) := by decide +kernel
theorem dM_pad_25 : decode cM_pad 25 = .ok (.goto 4, 3) := by decide +kernel
theorem dM_pad_28 : decode cM_pad 28 = .ok (.iconst 0, 1) := by decide +kernel
theorem dM_pad_29 : decode cM_pad 29 = .ok (.invokevirtual 224, 3) := by decide +kernel
theorem dM_pad_32 : decode cM_pad 32 = .ok (.putfield 54, 3) := by decide +kernel
theorem dM_pad_35 : decode cM_pad 35 = .ok (.aload_n 0, 1) := by decide +kernel
theorem dM_pad_36 : decode cM_pad 36 = .ok (.getfield 54, 3) := by decide +kernel
theorem dM_pad_39 : decode cM_pad 39 = .ok (.ifCond .ne 17, 3) := by decide +kernel
theorem dM_pad_42 : decode cM_pad 42 = .ok (.aload_n 0, 1) := by decide +kernel
theorem dM_pad_43 : decode cM_pad 43 = .ok (.getfield 42, 3) := by decide +kernel
theorem dM_pad_46 : decode cM_pad 46 = .ok (.bipush 7, 2) := by decide +kernel
theorem dM_pad_48 : decode cM_pad 48 = .ok (.iload_n 1, 1) := by decide +kernel
theorem dM_pad_49 : decode cM_pad 49 = .ok (.imul, 1) := by decide +kernel
theorem dM_pad_50 : decode cM_pad 50 = .ok (.iload_n 2, 1) := by decide +kernel
theorem dM_pad_51 : decode cM_pad 51 = .ok (.iadd, 1) := by decide +kernel
theorem dM_pad_52 : decode cM_pad 52 = .ok (.laload, 1) := by decide +kernel
theorem dM_pad_53 : decode cM_pad 53 = .ok (.goto 4, 3) := by decide +kernel
theorem dM_pad_56 : decode cM_pad 56 = .ok (.lconst 0, 1) := by decide +kernel
theorem dM_pad_57 : decode cM_pad 57 = .ok (.lreturn, 1) := by decide +kernel
-- FootprintRulesModel.pad(II)J
abbrev w_M_pad (ad : Nat → Nat → Nat) (a_this : Nat) (a_units : Nat) (a_kinds : Nat) (a_values : Nat) (a_names : Nat) (a_low : Nat) (a_high : Nat) (a_told : Nat) (a_leftOut : Nat) (a_isMade : Nat) (a_hands : Nat) (a_pad : Nat) (a_court : Nat) (a_title : Nat) (a_out : Nat) (k_pad : ClassId) (v_this_thrown : Int32) (v_this_size : Int32) (v_this_families : Int32) (v_this_atHand : Int32) (v_this_family : Int32) (v_this_density : Int32) (v_this_pads : Int32) (v_this_hasThermal : Int32) (v_this_titleSize : Int32) (v_this_written : Int32) (v_this_at : Int32) (v_this_begin : Int32) (v_this_words : Int32) (v_this_paste0 : Int64) (v_pad : Nat → Int64) : va_W := [(a_this, .inr (10, [.int v_this_thrown, .ref a_units, .int v_this_size, .int v_this_families, .ref a_kinds, .ref a_values, .ref a_names, .ref a_low, .ref a_high, .ref a_told, .ref a_leftOut, .ref a_isMade, .ref a_hands, .int v_this_atHand, .int v_this_family, .int v_this_density, .int v_this_pads, .ref a_pad, .ref a_court, .int v_this_hasThermal, .ref a_title, .int v_this_titleSize, .ref a_out, .int v_this_written, .int v_this_at, .int v_this_begin, .int v_this_words, .long v_this_paste0])), (a_pad, .inl (k_pad, 455, .inr (.inl v_pad)))]
def P_M_pad_29 (p1 : Int32) (p2 : Int32) (v_this_atHand : Int32) (v_pad : Nat → Int64) (post : Int64 → Int32 → Prop) (t0 : Int32) : Prop := P_M_refusal t0 v_this_atHand (fun (r1 : Int32) => ((¬ r1 = 0 → post 0 r1) ∧ (r1 = 0 → vp_in ((7 * p1) + p2) 455 ∧ post (v_pad ((7 * p1) + p2).toNatClampNeg) r1)))
set_option maxHeartbeats 4000000 in
set_option maxRecDepth 100000 in
theorem w_M_pad_29 (l : Launch) {p : Program} {e : Env} {s : State} {m : MethodId} {args : Array Value} {below : List Frame} {meth : Method} {c : Code} {dC : Nat → ClassId} {dI : Nat → Nat → Nat} {ad : Nat → Nat → Nat} {A : Nat → Prop} (C0 : zC p s m args meth c cM_pad 3 RM zT (some .long) A) (hE : zE ad A s) (a_this : Nat) (a_units : Nat) (a_kinds : Nat) (a_values : Nat) (a_names : Nat) (a_low : Nat) (a_high : Nat) (a_told : Nat) (a_leftOut : Nat) (a_isMade : Nat) (a_hands : Nat) (a_pad : Nat) (a_court : Nat) (a_title : Nat) (a_out : Nat) (k_pad : ClassId) (p1 : Int32) (p2 : Int32) (v_this_thrown : Int32) (v_this_size : Int32) (v_this_families : Int32) (v_this_atHand : Int32) (v_this_family : Int32) (v_this_density : Int32) (v_this_pads : Int32) (v_this_hasThermal : Int32) (v_this_titleSize : Int32) (v_this_written : Int32) (v_this_at : Int32) (v_this_begin : Int32) (v_this_words : Int32) (v_this_paste0 : Int64) (v_pad : Nat → Int64) (post : Int64 → Int32 → Prop) (hK : va_K (dC, dI) vwCl [(k_pad, .long)] s) : ∀ (t0 : Int32) (H : Heap) (locs : List Loc), P_M_pad_29 p1 p2 v_this_atHand v_pad post t0 → va_P (dC, dI) vwCl (w_M_pad ad a_this a_units a_kinds a_values a_names a_low a_high a_told a_leftOut a_isMade a_hands a_pad a_court a_title a_out k_pad v_this_thrown v_this_size v_this_families v_this_atHand v_this_family v_this_density v_this_pads v_this_hasThermal v_this_titleSize v_this_written v_this_at v_this_begin v_this_words v_this_paste0 v_pad) H → va_D A (w_M_pad ad a_this a_units a_kinds a_values a_names a_low a_high a_told a_leftOut a_isMade a_hands a_pad a_court a_title a_out k_pad v_this_thrown v_this_size v_this_families v_this_atHand v_this_family v_this_density v_this_pads v_this_hasThermal v_this_titleSize v_this_written v_this_at v_this_begin v_this_words v_this_paste0 v_pad) → va_S A s.heap H locs → ∀ ls : Array Slot, lv_has ls 3 [(0, .ref a_this), (1, .int p1), (2, .int p2)] → W p l e (headSpec wsM_pad { frames := 1, cells := 0, slots := 0, locals := 21 }).room s m args below meth c H locs 0 0 (MQ below (va_Ql (fun (r : Int64) (u : Int32) => post r u) (zB (dC, dI) A (fun (u : Int32) => (w_M_pad ad a_this a_units a_kinds a_values a_names a_low a_high a_told a_leftOut a_isMade a_hands a_pad a_court a_title a_out k_pad u v_this_size v_this_families v_this_atHand v_this_family v_this_density v_this_pads v_this_hasThermal v_this_titleSize v_this_written v_this_at v_this_begin v_this_words v_this_paste0 v_pad))) A) args s 0 0 A) (F0 m 29 ls [.int t0, .ref a_this, .ref a_this]) := by
  obtain ⟨hx, hb, hr, hml, hown, hts, hlocks, hA⟩ := id C0
  intro t0 H locs h hP hD hS ls hl
  unfold P_M_pad_29 at h
  refine zcall_i hP hD hS hA [0] [1] (va_runV (As := [.int t0]) (rest := [.ref a_this]) ⟨hx, hb, hml, hown, hts⟩ (c_M_refusal l dC dI ad a_this a_units a_kinds a_values a_names a_low a_high a_told a_leftOut a_isMade a_hands a_pad a_court a_title a_out _ t0 v_this_thrown v_this_size v_this_families v_this_atHand v_this_family v_this_density v_this_pads v_this_hasThermal v_this_titleSize v_this_written v_this_at v_this_begin v_this_words v_this_paste0 _ h) ⟨callB_of 1 hts (zgood zc_M_refusal) rfl rfl rfl (hts _ zw_107) (hts _ zw_1280) (by decide +kernel) ⟨Nat.le_of_ble_eq_true rfl, Nat.le_of_ble_eq_true rfl⟩, (hts _ zw_1282), (hts _ zw_89)⟩ (zpreV hE hK hP hD hS hA [0] [] (by rfl) (by rfl) (by decide) (ci := 10) (q0 := 0) rfl (by rfl)) rfl rfl hl.1 rfl (lv_room (Nat.le_of_ble_eq_true rfl)) dM_pad_29 ⟨Nat.le_of_ble_eq_true rfl, Nat.le_of_ble_eq_true rfl⟩) (by rfl) (by rfl) (by decide) (by decide) (fun r1 u H locs h hP hD hS => ?_)
  try dsimp only at h
  have hP := hP.sub (ws' := (w_M_pad ad a_this a_units a_kinds a_values a_names a_low a_high a_told a_leftOut a_isMade a_hands a_pad a_court a_title a_out k_pad v_this_thrown v_this_size v_this_families v_this_atHand v_this_family v_this_density v_this_pads v_this_hasThermal v_this_titleSize v_this_written v_this_at v_this_begin v_this_words v_this_paste0 v_pad)) [1, 0] rfl
  have hD := hD.sub (ws' := (w_M_pad ad a_this a_units a_kinds a_values a_names a_low a_high a_told a_leftOut a_isMade a_hands a_pad a_court a_title a_out k_pad v_this_thrown v_this_size v_this_families v_this_atHand v_this_family v_this_density v_this_pads v_this_hasThermal v_this_titleSize v_this_written v_this_at v_this_begin v_this_words v_this_paste0 v_pad)) [1, 0] (by decide) rfl
  refine va_put (D := (dC, dI)) (ci := 10) (v := .int r1) (ty := .int) (C := RM) (T := TM) (N := 28) hx hb hts inZ_M tyM tyM_ok nmM hown hK hP hD hS 0 rfl rfl 0 (by decide) (hts _ zw_1044) (fun _ h9 => h9) rfl (by decide +kernel) rfl rfl (Nat.le_of_ble_eq_true rfl) dM_pad_32 (fun H locs hP hD hS => ?_)
  have hP : va_P (dC, dI) vwCl (w_M_pad ad a_this a_units a_kinds a_values a_names a_low a_high a_told a_leftOut a_isMade a_hands a_pad a_court a_title a_out k_pad r1 v_this_size v_this_families v_this_atHand v_this_family v_this_density v_this_pads v_this_hasThermal v_this_titleSize v_this_written v_this_at v_this_begin v_this_words v_this_paste0 v_pad) H := hP
  have hD : va_D A (w_M_pad ad a_this a_units a_kinds a_values a_names a_low a_high a_told a_leftOut a_isMade a_hands a_pad a_court a_title a_out k_pad r1 v_this_size v_this_families v_this_atHand v_this_family v_this_density v_this_pads v_this_hasThermal v_this_titleSize v_this_written v_this_at v_this_begin v_this_words v_this_paste0 v_pad) := hD
  refine lv_aload_n hx hb dM_pad_35 rfl (lv_at hl 0 rfl) ?_
  refine va_get (D := (dC, dI)) (ci := 10) (v := .int r1) (C := RM) (T := TM) (N := 28) hx hb hts inZ_M hown hK hP 0 rfl rfl 0 (by decide) (hts _ zw_1044) (fun _ h9 => h9) rfl dM_pad_36 ?_
  refine lv_if_ne (tgt := 56) hx hb dM_pad_39 (by decide) ?_ ?_
  · intro c2
    replace h := h.1 c2
    refine lv_lconst (v := 0) hx hb dM_pad_56 (by decide) ?_
    exact W.lret (v := 0) hx hb hr (fun t ht hW => ⟨⟨0, r1, rfl, h, by rw [ht]; exact hP, hD⟩, hS.F ht⟩) hS.2.2 dM_pad_57
  · intro c2
    replace h := h.2 c2
    refine lv_aload_n hx hb dM_pad_42 rfl (lv_at hl 0 rfl) ?_
    refine va_get (D := (dC, dI)) (ci := 10) (v := .ref a_pad) (C := RM) (T := TM) (N := 28) hx hb hts inZ_M hown hK hP 0 rfl rfl 17 (by decide) (hts _ zw_1061) (fun _ h9 => h9) rfl dM_pad_43 ?_
    refine lv_bipush (v := 7) hx hb dM_pad_46 (by decide) ?_
    refine lv_iload_n hx hb dM_pad_48 rfl (lv_at hl 1 rfl) ?_
    refine lv_imul hx hb dM_pad_49 ?_
    refine lv_iload_n hx hb dM_pad_50 rfl (lv_at hl 2 rfl) ?_
    refine lv_iadd hx hb dM_pad_51 ?_
    obtain ⟨hn3, h⟩ := h
    refine va_lald hx hb hK hP 1 0 rfl rfl hn3 dM_pad_52 ?_
    refine lv_goto (tgt := 57) hx hb dM_pad_53 (by decide) ?_
    exact W.lret (v := (v_pad ((7 * p1) + p2).toNatClampNeg)) hx hb hr (fun t ht hW => ⟨⟨(v_pad ((7 * p1) + p2).toNatClampNeg), r1, rfl, h, by rw [ht]; exact hP, hD⟩, hS.F ht⟩) hS.2.2 dM_pad_57
def P_M_pad_28 (p1 : Int32) (p2 : Int32) (v_this_atHand : Int32) (v_pad : Nat → Int64) (post : Int64 → Int32 → Prop)  : Prop := P_M_pad_29 p1 p2 v_this_atHand v_pad post 0
set_option maxHeartbeats 4000000 in
set_option maxRecDepth 100000 in
theorem w_M_pad_28 (l : Launch) {p : Program} {e : Env} {s : State} {m : MethodId} {args : Array Value} {below : List Frame} {meth : Method} {c : Code} {dC : Nat → ClassId} {dI : Nat → Nat → Nat} {ad : Nat → Nat → Nat} {A : Nat → Prop} (C0 : zC p s m args meth c cM_pad 3 RM zT (some .long) A) (hE : zE ad A s) (a_this : Nat) (a_units : Nat) (a_kinds : Nat) (a_values : Nat) (a_names : Nat) (a_low : Nat) (a_high : Nat) (a_told : Nat) (a_leftOut : Nat) (a_isMade : Nat) (a_hands : Nat) (a_pad : Nat) (a_court : Nat) (a_title : Nat) (a_out : Nat) (k_pad : ClassId) (p1 : Int32) (p2 : Int32) (v_this_thrown : Int32) (v_this_size : Int32) (v_this_families : Int32) (v_this_atHand : Int32) (v_this_family : Int32) (v_this_density : Int32) (v_this_pads : Int32) (v_this_hasThermal : Int32) (v_this_titleSize : Int32) (v_this_written : Int32) (v_this_at : Int32) (v_this_begin : Int32) (v_this_words : Int32) (v_this_paste0 : Int64) (v_pad : Nat → Int64) (post : Int64 → Int32 → Prop) (hK : va_K (dC, dI) vwCl [(k_pad, .long)] s) : ∀  (H : Heap) (locs : List Loc), P_M_pad_28 p1 p2 v_this_atHand v_pad post → va_P (dC, dI) vwCl (w_M_pad ad a_this a_units a_kinds a_values a_names a_low a_high a_told a_leftOut a_isMade a_hands a_pad a_court a_title a_out k_pad v_this_thrown v_this_size v_this_families v_this_atHand v_this_family v_this_density v_this_pads v_this_hasThermal v_this_titleSize v_this_written v_this_at v_this_begin v_this_words v_this_paste0 v_pad) H → va_D A (w_M_pad ad a_this a_units a_kinds a_values a_names a_low a_high a_told a_leftOut a_isMade a_hands a_pad a_court a_title a_out k_pad v_this_thrown v_this_size v_this_families v_this_atHand v_this_family v_this_density v_this_pads v_this_hasThermal v_this_titleSize v_this_written v_this_at v_this_begin v_this_words v_this_paste0 v_pad) → va_S A s.heap H locs → ∀ ls : Array Slot, lv_has ls 3 [(0, .ref a_this), (1, .int p1), (2, .int p2)] → W p l e (headSpec wsM_pad { frames := 1, cells := 0, slots := 0, locals := 21 }).room s m args below meth c H locs 0 0 (MQ below (va_Ql (fun (r : Int64) (u : Int32) => post r u) (zB (dC, dI) A (fun (u : Int32) => (w_M_pad ad a_this a_units a_kinds a_values a_names a_low a_high a_told a_leftOut a_isMade a_hands a_pad a_court a_title a_out k_pad u v_this_size v_this_families v_this_atHand v_this_family v_this_density v_this_pads v_this_hasThermal v_this_titleSize v_this_written v_this_at v_this_begin v_this_words v_this_paste0 v_pad))) A) args s 0 0 A) (F0 m 28 ls [.ref a_this, .ref a_this]) := by
  obtain ⟨hx, hb, hr, hml, hown, hts, hlocks, hA⟩ := id C0
  intro  H locs h hP hD hS ls hl
  unfold P_M_pad_28 at h
  refine lv_iconst (v := 0) hx hb dM_pad_28 (by decide) ?_
  exact w_M_pad_29 l C0 hE a_this a_units a_kinds a_values a_names a_low a_high a_told a_leftOut a_isMade a_hands a_pad a_court a_title a_out k_pad p1 p2 v_this_thrown v_this_size v_this_families v_this_atHand v_this_family v_this_density v_this_pads v_this_hasThermal v_this_titleSize v_this_written v_this_at v_this_begin v_this_words v_this_paste0 v_pad post hK 0 _ _ h hP hD hS ls (lv_sub hl [0, 1, 2] rfl)
def P_M_pad (p1 : Int32) (p2 : Int32) (v_this_atHand : Int32) (v_this_pads : Int32) (v_pad : Nat → Int64) (post : Int64 → Int32 → Prop) : Prop := ((p1 < 0 → P_M_pad_28 p1 p2 v_this_atHand v_pad post) ∧ (¬ p1 < 0 → ((v_this_pads ≤ p1 → P_M_pad_28 p1 p2 v_this_atHand v_pad post) ∧ (¬ v_this_pads ≤ p1 → ((p2 < 0 → P_M_pad_28 p1 p2 v_this_atHand v_pad post) ∧ (¬ p2 < 0 → ((7 ≤ p2 → P_M_pad_28 p1 p2 v_this_atHand v_pad post) ∧ (¬ 7 ≤ p2 → P_M_pad_29 p1 p2 v_this_atHand v_pad post 1))))))))
set_option maxHeartbeats 4000000 in
set_option maxRecDepth 100000 in
theorem c_M_pad (l : Launch) (dC : Nat → ClassId) (dI : Nat → Nat → Nat) (ad : Nat → Nat → Nat) (a_this : Nat) (a_units : Nat) (a_kinds : Nat) (a_values : Nat) (a_names : Nat) (a_low : Nat) (a_high : Nat) (a_told : Nat) (a_leftOut : Nat) (a_isMade : Nat) (a_hands : Nat) (a_pad : Nat) (a_court : Nat) (a_title : Nat) (a_out : Nat) (k_pad : ClassId) (sz : Nat) (p1 : Int32) (p2 : Int32) (v_this_thrown : Int32) (v_this_size : Int32) (v_this_families : Int32) (v_this_atHand : Int32) (v_this_family : Int32) (v_this_density : Int32) (v_this_pads : Int32) (v_this_hasThermal : Int32) (v_this_titleSize : Int32) (v_this_written : Int32) (v_this_at : Int32) (v_this_begin : Int32) (v_this_words : Int32) (v_this_paste0 : Int64) (v_pad : Nat → Int64) (post : Int64 → Int32 → Prop) (h : P_M_pad p1 p2 v_this_atHand v_this_pads v_pad post) : zMl l yM_pad wsM_pad { frames := 1, cells := 0, slots := 0, locals := 21 } (dC, dI) ad [.ref a_this, .int p1, .int p2] (w_M_pad ad a_this a_units a_kinds a_values a_names a_low a_high a_told a_leftOut a_isMade a_hands a_pad a_court a_title a_out k_pad v_this_thrown v_this_size v_this_families v_this_atHand v_this_family v_this_density v_this_pads v_this_hasThermal v_this_titleSize v_this_written v_this_at v_this_begin v_this_words v_this_paste0 v_pad) [(k_pad, .long)] sz (fun (r : Int64) (u : Int32) => post r u) (fun (u : Int32) => (w_M_pad ad a_this a_units a_kinds a_values a_names a_low a_high a_told a_leftOut a_isMade a_hands a_pad a_court a_title a_out k_pad u v_this_size v_this_families v_this_atHand v_this_family v_this_density v_this_pads v_this_hasThermal v_this_titleSize v_this_written v_this_at v_this_begin v_this_words v_this_paste0 v_pad)) 0 0 := by
  refine Met.ofW (cc := cM_pad) (maxL := 3) (ret := (some .long)) (by decide +kernel) rfl ?_
  intro p e s m args below meth c s₁ B hml hv
  obtain ⟨rfl, hsz, hP, hK, hD0, hE⟩ := hv
  have hx := B.exec
  have hb := B.bytes
  have hr := B.returns
  have hts0 := atoms_spec (ws := wsM_pad) B.pre
  have hts := fun w h => hts0 w (List.mem_cons_of_mem _ h)
  have hown : s.vm.findClass RM = some m.cls := findClass_of_methodNamed B.named
  have hlocks := B.notSynchronized
  subst hsz
  have hD := hD0.self (sz := s.heap.size)
  generalize hAe : va_A (w_M_pad ad a_this a_units a_kinds a_values a_names a_low a_high a_told a_leftOut a_isMade a_hands a_pad a_court a_title a_out k_pad v_this_thrown v_this_size v_this_families v_this_atHand v_this_family v_this_density v_this_pads v_this_hasThermal v_this_titleSize v_this_written v_this_at v_this_begin v_this_words v_this_paste0 v_pad) s.heap.size = A at hD hE ⊢
  have hA : ∀ q : Nat, s.heap.size ≤ q → A q := fun q h => by rw [← hAe]; exact Or.inr h
  have C0 := zC.mk hx hb hr hml hown hts hlocks hA
  have hS : va_S A s.heap s.heap [] := va_S.rf
  have hl := lv_entry ([.ref a_this, .int p1, .int p2]) (n := 3) (Nat.le_of_ble_eq_true rfl)
  rw [lg_entry_eq]
  generalize (lg_sl ([.ref a_this, .int p1, .int p2]) ++ List.replicate (3 - (lg_sl ([.ref a_this, .int p1, .int p2])).length) Slot.unset).toArray = ls at hl ⊢
  have hl : lv_has ls 3 [(0, .ref a_this), (1, .int p1), (2, .int p2)] := hl
  unfold P_M_pad at h
  refine lv_aload_n hx hb dM_pad_0 rfl (lv_at hl 0 rfl) ?_
  refine lv_aload_n hx hb dM_pad_1 rfl (lv_at hl 0 rfl) ?_
  refine lv_iload_n hx hb dM_pad_2 rfl (lv_at hl 1 rfl) ?_
  refine lv_if_lt (tgt := 28) hx hb dM_pad_3 (by decide) ?_ ?_
  · intro c1
    replace h := h.1 c1
    exact w_M_pad_28 l C0 hE a_this a_units a_kinds a_values a_names a_low a_high a_told a_leftOut a_isMade a_hands a_pad a_court a_title a_out k_pad p1 p2 v_this_thrown v_this_size v_this_families v_this_atHand v_this_family v_this_density v_this_pads v_this_hasThermal v_this_titleSize v_this_written v_this_at v_this_begin v_this_words v_this_paste0 v_pad post hK _ _ h hP hD hS ls (lv_sub hl [0, 1, 2] rfl)
  · intro c1
    replace h := h.2 c1
    refine lv_iload_n hx hb dM_pad_6 rfl (lv_at hl 1 rfl) ?_
    refine lv_aload_n hx hb dM_pad_7 rfl (lv_at hl 0 rfl) ?_
    refine va_get (D := (dC, dI)) (ci := 10) (v := .int v_this_pads) (C := RM) (T := TM) (N := 28) hx hb hts inZ_M hown hK hP 0 rfl rfl 16 (by decide) (hts _ zw_1060) (fun _ h9 => h9) rfl dM_pad_8 ?_
    refine lv_icmp_ge (tgt := 28) hx hb dM_pad_11 (by decide) ?_ ?_
    · intro c2
      replace h := h.1 c2
      exact w_M_pad_28 l C0 hE a_this a_units a_kinds a_values a_names a_low a_high a_told a_leftOut a_isMade a_hands a_pad a_court a_title a_out k_pad p1 p2 v_this_thrown v_this_size v_this_families v_this_atHand v_this_family v_this_density v_this_pads v_this_hasThermal v_this_titleSize v_this_written v_this_at v_this_begin v_this_words v_this_paste0 v_pad post hK _ _ h hP hD hS ls (lv_sub hl [0, 1, 2] rfl)
    · intro c2
      replace h := h.2 c2
      refine lv_iload_n hx hb dM_pad_14 rfl (lv_at hl 2 rfl) ?_
      refine lv_if_lt (tgt := 28) hx hb dM_pad_15 (by decide) ?_ ?_
      · intro c3
        replace h := h.1 c3
        exact w_M_pad_28 l C0 hE a_this a_units a_kinds a_values a_names a_low a_high a_told a_leftOut a_isMade a_hands a_pad a_court a_title a_out k_pad p1 p2 v_this_thrown v_this_size v_this_families v_this_atHand v_this_family v_this_density v_this_pads v_this_hasThermal v_this_titleSize v_this_written v_this_at v_this_begin v_this_words v_this_paste0 v_pad post hK _ _ h hP hD hS ls (lv_sub hl [0, 1, 2] rfl)
      · intro c3
        replace h := h.2 c3
        refine lv_iload_n hx hb dM_pad_18 rfl (lv_at hl 2 rfl) ?_
        refine lv_bipush (v := 7) hx hb dM_pad_19 (by decide) ?_
        refine lv_icmp_ge (tgt := 28) hx hb dM_pad_21 (by decide) ?_ ?_
        · intro c4
          replace h := h.1 c4
          exact w_M_pad_28 l C0 hE a_this a_units a_kinds a_values a_names a_low a_high a_told a_leftOut a_isMade a_hands a_pad a_court a_title a_out k_pad p1 p2 v_this_thrown v_this_size v_this_families v_this_atHand v_this_family v_this_density v_this_pads v_this_hasThermal v_this_titleSize v_this_written v_this_at v_this_begin v_this_words v_this_paste0 v_pad post hK _ _ h hP hD hS ls (lv_sub hl [0, 1, 2] rfl)
        · intro c4
          replace h := h.2 c4
          refine lv_iconst (v := 1) hx hb dM_pad_24 (by decide) ?_
          refine lv_goto (tgt := 29) hx hb dM_pad_25 (by decide) ?_
          exact w_M_pad_29 l C0 hE a_this a_units a_kinds a_values a_names a_low a_high a_told a_leftOut a_isMade a_hands a_pad a_court a_title a_out k_pad p1 p2 v_this_thrown v_this_size v_this_families v_this_atHand v_this_family v_this_density v_this_pads v_this_hasThermal v_this_titleSize v_this_written v_this_at v_this_begin v_this_words v_this_paste0 v_pad post hK 1 _ _ h hP hD hS ls (lv_sub hl [0, 1, 2] rfl)
abbrev yM_name : MethodName := ⟨"FootprintRulesModel", "name", "(I)I"⟩
abbrev cM_name : ByteArray := prog_14_method_39_code
abbrev wsM_name : List Cond := .code yM_name cM_name 2 (some .int) :: zT
set_option maxRecDepth 100000 in
theorem zc_M_name : Cond.code yM_name cM_name 2 (some .int) ∈ zT := zm 1287 (by rfl) (by rfl)
theorem dM_name_0 : decode cM_name 0 = .ok (.aload_n 0, 1) := by decide +kernel
theorem dM_name_1 : decode cM_name 1 = .ok (.aload_n 0, 1) := by decide +kernel
theorem dM_name_2 : decode cM_name 2 = .ok (.iload_n 1, 1) := by decide +kernel
theorem dM_name_3 : decode cM_name 3 = .ok (.ifCond .lt 7, 3) := by decide +kernel
theorem dM_name_6 : decode cM_name 6 = .ok (.iconst 1, 1) := by decide +kernel
theorem dM_name_7 : decode cM_name 7 = .ok (.goto 4, 3) := by decide +kernel
theorem dM_name_10 : decode cM_name 10 = .ok (.iconst 0, 1) := by decide +kernel
theorem dM_name_11 : decode cM_name 11 = .ok (.invokevirtual 224, 3) := by decide +kernel
theorem dM_name_14 : decode cM_name 14 = .ok (.putfield 54, 3) := by decide +kernel
theorem dM_name_17 : decode cM_name 17 = .ok (.aload_n 0, 1) := by decide +kernel
theorem dM_name_18 : decode cM_name 18 = .ok (.getfield 54, 3) := by decide +kernel
theorem dM_name_21 : decode cM_name 21 = .ok (.ifCond .eq 7, 3) := by decide +kernel
theorem dM_name_24 : decode cM_name 24 = .ok (.iconst 0, 1) := by decide +kernel
theorem dM_name_25 : decode cM_name 25 = .ok (.goto 21, 3) := by decide +kernel
theorem dM_name_28 : decode cM_name 28 = .ok (.iload_n 1, 1) := by decide +kernel
theorem dM_name_29 : decode cM_name 29 = .ok (.aload_n 0, 1) := by decide +kernel
theorem dM_name_30 : decode cM_name 30 = .ok (.getfield 221, 3) := by decide +kernel
theorem dM_name_33 : decode cM_name 33 = .ok (.if_icmp .ge 12, 3) := by decide +kernel
theorem dM_name_36 : decode cM_name 36 = .ok (.aload_n 0, 1) := by decide +kernel
theorem dM_name_37 : decode cM_name 37 = .ok (.getfield 48, 3) := by decide +kernel
theorem dM_name_40 : decode cM_name 40 = .ok (.iload_n 1, 1) := by decide +kernel
theorem dM_name_41 : decode cM_name 41 = .ok (.iaload, 1) := by decide +kernel
theorem dM_name_42 : decode cM_name 42 = .ok (.goto 4, 3) := by decide +kernel
theorem dM_name_45 : decode cM_name 45 = .ok (.iconst (-1), 1) := by decide +kernel
theorem dM_name_46 : decode cM_name 46 = .ok (.ireturn, 1) := by decide +kernel
-- FootprintRulesModel.name(I)I
abbrev w_M_name (ad : Nat → Nat → Nat) (a_this : Nat) (a_units : Nat) (a_kinds : Nat) (a_values : Nat) (a_names : Nat) (a_low : Nat) (a_high : Nat) (a_told : Nat) (a_leftOut : Nat) (a_isMade : Nat) (a_hands : Nat) (a_pad : Nat) (a_court : Nat) (a_title : Nat) (a_out : Nat) (k_title : ClassId) (v_this_thrown : Int32) (v_this_size : Int32) (v_this_families : Int32) (v_this_atHand : Int32) (v_this_family : Int32) (v_this_density : Int32) (v_this_pads : Int32) (v_this_hasThermal : Int32) (v_this_titleSize : Int32) (v_this_written : Int32) (v_this_at : Int32) (v_this_begin : Int32) (v_this_words : Int32) (v_this_paste0 : Int64) (v_title : Nat → Int32) : va_W := [(a_this, .inr (10, [.int v_this_thrown, .ref a_units, .int v_this_size, .int v_this_families, .ref a_kinds, .ref a_values, .ref a_names, .ref a_low, .ref a_high, .ref a_told, .ref a_leftOut, .ref a_isMade, .ref a_hands, .int v_this_atHand, .int v_this_family, .int v_this_density, .int v_this_pads, .ref a_pad, .ref a_court, .int v_this_hasThermal, .ref a_title, .int v_this_titleSize, .ref a_out, .int v_this_written, .int v_this_at, .int v_this_begin, .int v_this_words, .long v_this_paste0])), (a_title, .inl (k_title, 60, .inl v_title))]
def P_M_name_11 (p1 : Int32) (v_this_atHand : Int32) (v_this_titleSize : Int32) (v_title : Nat → Int32) (post : Int32 → Int32 → Prop) (t0 : Int32) : Prop := P_M_refusal t0 v_this_atHand (fun (r1 : Int32) => ((r1 = 0 → ((v_this_titleSize ≤ p1 → post (-1) r1) ∧ (¬ v_this_titleSize ≤ p1 → vp_in p1 60 ∧ post (v_title p1.toNatClampNeg) r1))) ∧ (¬ r1 = 0 → post 0 r1)))
set_option maxHeartbeats 4000000 in
set_option maxRecDepth 100000 in
theorem w_M_name_11 (l : Launch) {p : Program} {e : Env} {s : State} {m : MethodId} {args : Array Value} {below : List Frame} {meth : Method} {c : Code} {dC : Nat → ClassId} {dI : Nat → Nat → Nat} {ad : Nat → Nat → Nat} {A : Nat → Prop} (C0 : zC p s m args meth c cM_name 2 RM zT (some .int) A) (hE : zE ad A s) (a_this : Nat) (a_units : Nat) (a_kinds : Nat) (a_values : Nat) (a_names : Nat) (a_low : Nat) (a_high : Nat) (a_told : Nat) (a_leftOut : Nat) (a_isMade : Nat) (a_hands : Nat) (a_pad : Nat) (a_court : Nat) (a_title : Nat) (a_out : Nat) (k_title : ClassId) (p1 : Int32) (v_this_thrown : Int32) (v_this_size : Int32) (v_this_families : Int32) (v_this_atHand : Int32) (v_this_family : Int32) (v_this_density : Int32) (v_this_pads : Int32) (v_this_hasThermal : Int32) (v_this_titleSize : Int32) (v_this_written : Int32) (v_this_at : Int32) (v_this_begin : Int32) (v_this_words : Int32) (v_this_paste0 : Int64) (v_title : Nat → Int32) (post : Int32 → Int32 → Prop) (hK : va_K (dC, dI) vwCl [(k_title, .int)] s) : ∀ (t0 : Int32) (H : Heap) (locs : List Loc), P_M_name_11 p1 v_this_atHand v_this_titleSize v_title post t0 → va_P (dC, dI) vwCl (w_M_name ad a_this a_units a_kinds a_values a_names a_low a_high a_told a_leftOut a_isMade a_hands a_pad a_court a_title a_out k_title v_this_thrown v_this_size v_this_families v_this_atHand v_this_family v_this_density v_this_pads v_this_hasThermal v_this_titleSize v_this_written v_this_at v_this_begin v_this_words v_this_paste0 v_title) H → va_D A (w_M_name ad a_this a_units a_kinds a_values a_names a_low a_high a_told a_leftOut a_isMade a_hands a_pad a_court a_title a_out k_title v_this_thrown v_this_size v_this_families v_this_atHand v_this_family v_this_density v_this_pads v_this_hasThermal v_this_titleSize v_this_written v_this_at v_this_begin v_this_words v_this_paste0 v_title) → va_S A s.heap H locs → ∀ ls : Array Slot, lv_has ls 2 [(0, .ref a_this), (1, .int p1)] → W p l e (headSpec wsM_name { frames := 1, cells := 0, slots := 0, locals := 21 }).room s m args below meth c H locs 0 0 (MQ below (va_Qi (fun (r : Int32) (u : Int32) => post r u) (zB (dC, dI) A (fun (u : Int32) => (w_M_name ad a_this a_units a_kinds a_values a_names a_low a_high a_told a_leftOut a_isMade a_hands a_pad a_court a_title a_out k_title u v_this_size v_this_families v_this_atHand v_this_family v_this_density v_this_pads v_this_hasThermal v_this_titleSize v_this_written v_this_at v_this_begin v_this_words v_this_paste0 v_title))) A) args s 0 0 A) (F0 m 11 ls [.int t0, .ref a_this, .ref a_this]) := by
  obtain ⟨hx, hb, hr, hml, hown, hts, hlocks, hA⟩ := id C0
  intro t0 H locs h hP hD hS ls hl
  unfold P_M_name_11 at h
  refine zcall_i hP hD hS hA [0] [1] (va_runV (As := [.int t0]) (rest := [.ref a_this]) ⟨hx, hb, hml, hown, hts⟩ (c_M_refusal l dC dI ad a_this a_units a_kinds a_values a_names a_low a_high a_told a_leftOut a_isMade a_hands a_pad a_court a_title a_out _ t0 v_this_thrown v_this_size v_this_families v_this_atHand v_this_family v_this_density v_this_pads v_this_hasThermal v_this_titleSize v_this_written v_this_at v_this_begin v_this_words v_this_paste0 _ h) ⟨callB_of 1 hts (zgood zc_M_refusal) rfl rfl rfl (hts _ zw_107) (hts _ zw_1280) (by decide +kernel) ⟨Nat.le_of_ble_eq_true rfl, Nat.le_of_ble_eq_true rfl⟩, (hts _ zw_1282), (hts _ zw_89)⟩ (zpreV hE hK hP hD hS hA [0] [] (by rfl) (by rfl) (by decide) (ci := 10) (q0 := 0) rfl (by rfl)) rfl rfl hl.1 rfl (lv_room (Nat.le_of_ble_eq_true rfl)) dM_name_11 ⟨Nat.le_of_ble_eq_true rfl, Nat.le_of_ble_eq_true rfl⟩) (by rfl) (by rfl) (by decide) (by decide) (fun r1 u H locs h hP hD hS => ?_)
  try dsimp only at h
  have hP := hP.sub (ws' := (w_M_name ad a_this a_units a_kinds a_values a_names a_low a_high a_told a_leftOut a_isMade a_hands a_pad a_court a_title a_out k_title v_this_thrown v_this_size v_this_families v_this_atHand v_this_family v_this_density v_this_pads v_this_hasThermal v_this_titleSize v_this_written v_this_at v_this_begin v_this_words v_this_paste0 v_title)) [1, 0] rfl
  have hD := hD.sub (ws' := (w_M_name ad a_this a_units a_kinds a_values a_names a_low a_high a_told a_leftOut a_isMade a_hands a_pad a_court a_title a_out k_title v_this_thrown v_this_size v_this_families v_this_atHand v_this_family v_this_density v_this_pads v_this_hasThermal v_this_titleSize v_this_written v_this_at v_this_begin v_this_words v_this_paste0 v_title)) [1, 0] (by decide) rfl
  refine va_put (D := (dC, dI)) (ci := 10) (v := .int r1) (ty := .int) (C := RM) (T := TM) (N := 28) hx hb hts inZ_M tyM tyM_ok nmM hown hK hP hD hS 0 rfl rfl 0 (by decide) (hts _ zw_1044) (fun _ h9 => h9) rfl (by decide +kernel) rfl rfl (Nat.le_of_ble_eq_true rfl) dM_name_14 (fun H locs hP hD hS => ?_)
  have hP : va_P (dC, dI) vwCl (w_M_name ad a_this a_units a_kinds a_values a_names a_low a_high a_told a_leftOut a_isMade a_hands a_pad a_court a_title a_out k_title r1 v_this_size v_this_families v_this_atHand v_this_family v_this_density v_this_pads v_this_hasThermal v_this_titleSize v_this_written v_this_at v_this_begin v_this_words v_this_paste0 v_title) H := hP
  have hD : va_D A (w_M_name ad a_this a_units a_kinds a_values a_names a_low a_high a_told a_leftOut a_isMade a_hands a_pad a_court a_title a_out k_title r1 v_this_size v_this_families v_this_atHand v_this_family v_this_density v_this_pads v_this_hasThermal v_this_titleSize v_this_written v_this_at v_this_begin v_this_words v_this_paste0 v_title) := hD
  refine lv_aload_n hx hb dM_name_17 rfl (lv_at hl 0 rfl) ?_
  refine va_get (D := (dC, dI)) (ci := 10) (v := .int r1) (C := RM) (T := TM) (N := 28) hx hb hts inZ_M hown hK hP 0 rfl rfl 0 (by decide) (hts _ zw_1044) (fun _ h9 => h9) rfl dM_name_18 ?_
  refine lv_if_eq (tgt := 28) hx hb dM_name_21 (by decide) ?_ ?_
  · intro c2
    replace h := h.1 c2
    refine lv_iload_n hx hb dM_name_28 rfl (lv_at hl 1 rfl) ?_
    refine lv_aload_n hx hb dM_name_29 rfl (lv_at hl 0 rfl) ?_
    refine va_get (D := (dC, dI)) (ci := 10) (v := .int v_this_titleSize) (C := RM) (T := TM) (N := 28) hx hb hts inZ_M hown hK hP 0 rfl rfl 21 (by decide) (hts _ zw_1065) (fun _ h9 => h9) rfl dM_name_30 ?_
    refine lv_icmp_ge (tgt := 45) hx hb dM_name_33 (by decide) ?_ ?_
    · intro c3
      replace h := h.1 c3
      refine lv_iconst (v := (-1)) hx hb dM_name_45 (by decide) ?_
      exact W.iret (v := (-1)) hx hb hr (fun t ht hW => ⟨⟨(-1), r1, rfl, h, by rw [ht]; exact hP, hD⟩, hS.F ht⟩) hS.2.2 dM_name_46
    · intro c3
      replace h := h.2 c3
      refine lv_aload_n hx hb dM_name_36 rfl (lv_at hl 0 rfl) ?_
      refine va_get (D := (dC, dI)) (ci := 10) (v := .ref a_title) (C := RM) (T := TM) (N := 28) hx hb hts inZ_M hown hK hP 0 rfl rfl 20 (by decide) (hts _ zw_1064) (fun _ h9 => h9) rfl dM_name_37 ?_
      refine lv_iload_n hx hb dM_name_40 rfl (lv_at hl 1 rfl) ?_
      obtain ⟨hn4, h⟩ := h
      refine va_iald hx hb hK hP 1 0 rfl rfl hn4 dM_name_41 ?_
      refine lv_goto (tgt := 46) hx hb dM_name_42 (by decide) ?_
      exact W.iret (v := (v_title p1.toNatClampNeg)) hx hb hr (fun t ht hW => ⟨⟨(v_title p1.toNatClampNeg), r1, rfl, h, by rw [ht]; exact hP, hD⟩, hS.F ht⟩) hS.2.2 dM_name_46
  · intro c2
    replace h := h.2 c2
    refine lv_iconst (v := 0) hx hb dM_name_24 (by decide) ?_
    refine lv_goto (tgt := 46) hx hb dM_name_25 (by decide) ?_
    exact W.iret (v := 0) hx hb hr (fun t ht hW => ⟨⟨0, r1, rfl, h, by rw [ht]; exact hP, hD⟩, hS.F ht⟩) hS.2.2 dM_name_46
def P_M_name (p1 : Int32) (v_this_atHand : Int32) (v_this_titleSize : Int32) (v_title : Nat → Int32) (post : Int32 → Int32 → Prop) : Prop := ((p1 < 0 → P_M_name_11 p1 v_this_atHand v_this_titleSize v_title post 0) ∧ (¬ p1 < 0 → P_M_name_11 p1 v_this_atHand v_this_titleSize v_title post 1))
set_option maxHeartbeats 4000000 in
set_option maxRecDepth 100000 in
theorem c_M_name (l : Launch) (dC : Nat → ClassId) (dI : Nat → Nat → Nat) (ad : Nat → Nat → Nat) (a_this : Nat) (a_units : Nat) (a_kinds : Nat) (a_values : Nat) (a_names : Nat) (a_low : Nat) (a_high : Nat) (a_told : Nat) (a_leftOut : Nat) (a_isMade : Nat) (a_hands : Nat) (a_pad : Nat) (a_court : Nat) (a_title : Nat) (a_out : Nat) (k_title : ClassId) (sz : Nat) (p1 : Int32) (v_this_thrown : Int32) (v_this_size : Int32) (v_this_families : Int32) (v_this_atHand : Int32) (v_this_family : Int32) (v_this_density : Int32) (v_this_pads : Int32) (v_this_hasThermal : Int32) (v_this_titleSize : Int32) (v_this_written : Int32) (v_this_at : Int32) (v_this_begin : Int32) (v_this_words : Int32) (v_this_paste0 : Int64) (v_title : Nat → Int32) (post : Int32 → Int32 → Prop) (h : P_M_name p1 v_this_atHand v_this_titleSize v_title post) : zMi l yM_name wsM_name { frames := 1, cells := 0, slots := 0, locals := 21 } (dC, dI) ad [.ref a_this, .int p1] (w_M_name ad a_this a_units a_kinds a_values a_names a_low a_high a_told a_leftOut a_isMade a_hands a_pad a_court a_title a_out k_title v_this_thrown v_this_size v_this_families v_this_atHand v_this_family v_this_density v_this_pads v_this_hasThermal v_this_titleSize v_this_written v_this_at v_this_begin v_this_words v_this_paste0 v_title) [(k_title, .int)] sz (fun (r : Int32) (u : Int32) => post r u) (fun (u : Int32) => (w_M_name ad a_this a_units a_kinds a_values a_names a_low a_high a_told a_leftOut a_isMade a_hands a_pad a_court a_title a_out k_title u v_this_size v_this_families v_this_atHand v_this_family v_this_density v_this_pads v_this_hasThermal v_this_titleSize v_this_written v_this_at v_this_begin v_this_words v_this_paste0 v_title)) 0 0 := by
  refine Met.ofW (cc := cM_name) (maxL := 2) (ret := (some .int)) (by decide +kernel) rfl ?_
  intro p e s m args below meth c s₁ B hml hv
  obtain ⟨rfl, hsz, hP, hK, hD0, hE⟩ := hv
  have hx := B.exec
  have hb := B.bytes
  have hr := B.returns
  have hts0 := atoms_spec (ws := wsM_name) B.pre
  have hts := fun w h => hts0 w (List.mem_cons_of_mem _ h)
  have hown : s.vm.findClass RM = some m.cls := findClass_of_methodNamed B.named
  have hlocks := B.notSynchronized
  subst hsz
  have hD := hD0.self (sz := s.heap.size)
  generalize hAe : va_A (w_M_name ad a_this a_units a_kinds a_values a_names a_low a_high a_told a_leftOut a_isMade a_hands a_pad a_court a_title a_out k_title v_this_thrown v_this_size v_this_families v_this_atHand v_this_family v_this_density v_this_pads v_this_hasThermal v_this_titleSize v_this_written v_this_at v_this_begin v_this_words v_this_paste0 v_title) s.heap.size = A at hD hE ⊢
  have hA : ∀ q : Nat, s.heap.size ≤ q → A q := fun q h => by rw [← hAe]; exact Or.inr h
  have C0 := zC.mk hx hb hr hml hown hts hlocks hA
  have hS : va_S A s.heap s.heap [] := va_S.rf
  have hl := lv_entry ([.ref a_this, .int p1]) (n := 2) (Nat.le_of_ble_eq_true rfl)
  rw [lg_entry_eq]
  generalize (lg_sl ([.ref a_this, .int p1]) ++ List.replicate (2 - (lg_sl ([.ref a_this, .int p1])).length) Slot.unset).toArray = ls at hl ⊢
  have hl : lv_has ls 2 [(0, .ref a_this), (1, .int p1)] := hl
  unfold P_M_name at h
  refine lv_aload_n hx hb dM_name_0 rfl (lv_at hl 0 rfl) ?_
  refine lv_aload_n hx hb dM_name_1 rfl (lv_at hl 0 rfl) ?_
  refine lv_iload_n hx hb dM_name_2 rfl (lv_at hl 1 rfl) ?_
  refine lv_if_lt (tgt := 10) hx hb dM_name_3 (by decide) ?_ ?_
  · intro c1
    replace h := h.1 c1
    refine lv_iconst (v := 0) hx hb dM_name_10 (by decide) ?_
    exact w_M_name_11 l C0 hE a_this a_units a_kinds a_values a_names a_low a_high a_told a_leftOut a_isMade a_hands a_pad a_court a_title a_out k_title p1 v_this_thrown v_this_size v_this_families v_this_atHand v_this_family v_this_density v_this_pads v_this_hasThermal v_this_titleSize v_this_written v_this_at v_this_begin v_this_words v_this_paste0 v_title post hK 0 _ _ h hP hD hS ls (lv_sub hl [0, 1] rfl)
  · intro c1
    replace h := h.2 c1
    refine lv_iconst (v := 1) hx hb dM_name_6 (by decide) ?_
    refine lv_goto (tgt := 11) hx hb dM_name_7 (by decide) ?_
    exact w_M_name_11 l C0 hE a_this a_units a_kinds a_values a_names a_low a_high a_told a_leftOut a_isMade a_hands a_pad a_court a_title a_out k_title p1 v_this_thrown v_this_size v_this_families v_this_atHand v_this_family v_this_density v_this_pads v_this_hasThermal v_this_titleSize v_this_written v_this_at v_this_begin v_this_words v_this_paste0 v_title post hK 1 _ _ h hP hD hS ls (lv_sub hl [0, 1] rfl)
abbrev yM_text : MethodName := ⟨"FootprintRulesModel", "text", "(I)I"⟩
abbrev cM_text : ByteArray := prog_14_method_40_code
abbrev wsM_text : List Cond := .code yM_text cM_text 2 (some .int) :: zT
set_option maxRecDepth 100000 in
theorem zc_M_text : Cond.code yM_text cM_text 2 (some .int) ∈ zT := zm 1291 (by rfl) (by rfl)
theorem dM_text_0 : decode cM_text 0 = .ok (.aload_n 0, 1) := by decide +kernel
theorem dM_text_1 : decode cM_text 1 = .ok (.aload_n 0, 1) := by decide +kernel
theorem dM_text_2 : decode cM_text 2 = .ok (.iload_n 1, 1) := by decide +kernel
theorem dM_text_3 : decode cM_text 3 = .ok (.ifCond .lt 7, 3) := by decide +kernel
theorem dM_text_6 : decode cM_text 6 = .ok (.iconst 1, 1) := by decide +kernel
theorem dM_text_7 : decode cM_text 7 = .ok (.goto 4, 3) := by decide +kernel
theorem dM_text_10 : decode cM_text 10 = .ok (.iconst 0, 1) := by decide +kernel
theorem dM_text_11 : decode cM_text 11 = .ok (.invokevirtual 224, 3) := by decide +kernel
theorem dM_text_14 : decode cM_text 14 = .ok (.putfield 54, 3) := by decide +kernel
theorem dM_text_17 : decode cM_text 17 = .ok (.aload_n 0, 1) := by decide +kernel
theorem dM_text_18 : decode cM_text 18 = .ok (.getfield 54, 3) := by decide +kernel
theorem dM_text_21 : decode cM_text 21 = .ok (.ifCond .eq 7, 3) := by decide +kernel
theorem dM_text_24 : decode cM_text 24 = .ok (.iconst 0, 1) := by decide +kernel
theorem dM_text_25 : decode cM_text 25 = .ok (.goto 21, 3) := by decide +kernel
theorem dM_text_28 : decode cM_text 28 = .ok (.iload_n 1, 1) := by decide +kernel
theorem dM_text_29 : decode cM_text 29 = .ok (.aload_n 0, 1) := by decide +kernel
theorem dM_text_30 : decode cM_text 30 = .ok (.getfield 209, 3) := by decide +kernel
theorem dM_text_33 : decode cM_text 33 = .ok (.if_icmp .ge 12, 3) := by decide +kernel
theorem dM_text_36 : decode cM_text 36 = .ok (.aload_n 0, 1) := by decide +kernel
theorem dM_text_37 : decode cM_text 37 = .ok (.getfield 51, 3) := by decide +kernel
theorem dM_text_40 : decode cM_text 40 = .ok (.iload_n 1, 1) := by decide +kernel
theorem dM_text_41 : decode cM_text 41 = .ok (.iaload, 1) := by decide +kernel
theorem dM_text_42 : decode cM_text 42 = .ok (.goto 4, 3) := by decide +kernel
theorem dM_text_45 : decode cM_text 45 = .ok (.iconst (-1), 1) := by decide +kernel
theorem dM_text_46 : decode cM_text 46 = .ok (.ireturn, 1) := by decide +kernel
-- FootprintRulesModel.text(I)I
abbrev w_M_text (ad : Nat → Nat → Nat) (a_this : Nat) (a_units : Nat) (a_kinds : Nat) (a_values : Nat) (a_names : Nat) (a_low : Nat) (a_high : Nat) (a_told : Nat) (a_leftOut : Nat) (a_isMade : Nat) (a_hands : Nat) (a_pad : Nat) (a_court : Nat) (a_title : Nat) (a_out : Nat) (k_out : ClassId) (v_this_thrown : Int32) (v_this_size : Int32) (v_this_families : Int32) (v_this_atHand : Int32) (v_this_family : Int32) (v_this_density : Int32) (v_this_pads : Int32) (v_this_hasThermal : Int32) (v_this_titleSize : Int32) (v_this_written : Int32) (v_this_at : Int32) (v_this_begin : Int32) (v_this_words : Int32) (v_this_paste0 : Int64) (v_out : Nat → Int32) : va_W := [(a_this, .inr (10, [.int v_this_thrown, .ref a_units, .int v_this_size, .int v_this_families, .ref a_kinds, .ref a_values, .ref a_names, .ref a_low, .ref a_high, .ref a_told, .ref a_leftOut, .ref a_isMade, .ref a_hands, .int v_this_atHand, .int v_this_family, .int v_this_density, .int v_this_pads, .ref a_pad, .ref a_court, .int v_this_hasThermal, .ref a_title, .int v_this_titleSize, .ref a_out, .int v_this_written, .int v_this_at, .int v_this_begin, .int v_this_words, .long v_this_paste0])), (a_out, .inl (k_out, 8000, .inl v_out))]
def P_M_text_11 (p1 : Int32) (v_this_atHand : Int32) (v_this_written : Int32) (v_out : Nat → Int32) (post : Int32 → Int32 → Prop) (t0 : Int32) : Prop := P_M_refusal t0 v_this_atHand (fun (r1 : Int32) => ((r1 = 0 → ((v_this_written ≤ p1 → post (-1) r1) ∧ (¬ v_this_written ≤ p1 → vp_in p1 8000 ∧ post (v_out p1.toNatClampNeg) r1))) ∧ (¬ r1 = 0 → post 0 r1)))
set_option maxHeartbeats 4000000 in
set_option maxRecDepth 100000 in
theorem w_M_text_11 (l : Launch) {p : Program} {e : Env} {s : State} {m : MethodId} {args : Array Value} {below : List Frame} {meth : Method} {c : Code} {dC : Nat → ClassId} {dI : Nat → Nat → Nat} {ad : Nat → Nat → Nat} {A : Nat → Prop} (C0 : zC p s m args meth c cM_text 2 RM zT (some .int) A) (hE : zE ad A s) (a_this : Nat) (a_units : Nat) (a_kinds : Nat) (a_values : Nat) (a_names : Nat) (a_low : Nat) (a_high : Nat) (a_told : Nat) (a_leftOut : Nat) (a_isMade : Nat) (a_hands : Nat) (a_pad : Nat) (a_court : Nat) (a_title : Nat) (a_out : Nat) (k_out : ClassId) (p1 : Int32) (v_this_thrown : Int32) (v_this_size : Int32) (v_this_families : Int32) (v_this_atHand : Int32) (v_this_family : Int32) (v_this_density : Int32) (v_this_pads : Int32) (v_this_hasThermal : Int32) (v_this_titleSize : Int32) (v_this_written : Int32) (v_this_at : Int32) (v_this_begin : Int32) (v_this_words : Int32) (v_this_paste0 : Int64) (v_out : Nat → Int32) (post : Int32 → Int32 → Prop) (hK : va_K (dC, dI) vwCl [(k_out, .int)] s) : ∀ (t0 : Int32) (H : Heap) (locs : List Loc), P_M_text_11 p1 v_this_atHand v_this_written v_out post t0 → va_P (dC, dI) vwCl (w_M_text ad a_this a_units a_kinds a_values a_names a_low a_high a_told a_leftOut a_isMade a_hands a_pad a_court a_title a_out k_out v_this_thrown v_this_size v_this_families v_this_atHand v_this_family v_this_density v_this_pads v_this_hasThermal v_this_titleSize v_this_written v_this_at v_this_begin v_this_words v_this_paste0 v_out) H → va_D A (w_M_text ad a_this a_units a_kinds a_values a_names a_low a_high a_told a_leftOut a_isMade a_hands a_pad a_court a_title a_out k_out v_this_thrown v_this_size v_this_families v_this_atHand v_this_family v_this_density v_this_pads v_this_hasThermal v_this_titleSize v_this_written v_this_at v_this_begin v_this_words v_this_paste0 v_out) → va_S A s.heap H locs → ∀ ls : Array Slot, lv_has ls 2 [(0, .ref a_this), (1, .int p1)] → W p l e (headSpec wsM_text { frames := 1, cells := 0, slots := 0, locals := 21 }).room s m args below meth c H locs 0 0 (MQ below (va_Qi (fun (r : Int32) (u : Int32) => post r u) (zB (dC, dI) A (fun (u : Int32) => (w_M_text ad a_this a_units a_kinds a_values a_names a_low a_high a_told a_leftOut a_isMade a_hands a_pad a_court a_title a_out k_out u v_this_size v_this_families v_this_atHand v_this_family v_this_density v_this_pads v_this_hasThermal v_this_titleSize v_this_written v_this_at v_this_begin v_this_words v_this_paste0 v_out))) A) args s 0 0 A) (F0 m 11 ls [.int t0, .ref a_this, .ref a_this]) := by
  obtain ⟨hx, hb, hr, hml, hown, hts, hlocks, hA⟩ := id C0
  intro t0 H locs h hP hD hS ls hl
  unfold P_M_text_11 at h
  refine zcall_i hP hD hS hA [0] [1] (va_runV (As := [.int t0]) (rest := [.ref a_this]) ⟨hx, hb, hml, hown, hts⟩ (c_M_refusal l dC dI ad a_this a_units a_kinds a_values a_names a_low a_high a_told a_leftOut a_isMade a_hands a_pad a_court a_title a_out _ t0 v_this_thrown v_this_size v_this_families v_this_atHand v_this_family v_this_density v_this_pads v_this_hasThermal v_this_titleSize v_this_written v_this_at v_this_begin v_this_words v_this_paste0 _ h) ⟨callB_of 1 hts (zgood zc_M_refusal) rfl rfl rfl (hts _ zw_107) (hts _ zw_1280) (by decide +kernel) ⟨Nat.le_of_ble_eq_true rfl, Nat.le_of_ble_eq_true rfl⟩, (hts _ zw_1282), (hts _ zw_89)⟩ (zpreV hE hK hP hD hS hA [0] [] (by rfl) (by rfl) (by decide) (ci := 10) (q0 := 0) rfl (by rfl)) rfl rfl hl.1 rfl (lv_room (Nat.le_of_ble_eq_true rfl)) dM_text_11 ⟨Nat.le_of_ble_eq_true rfl, Nat.le_of_ble_eq_true rfl⟩) (by rfl) (by rfl) (by decide) (by decide) (fun r1 u H locs h hP hD hS => ?_)
  try dsimp only at h
  have hP := hP.sub (ws' := (w_M_text ad a_this a_units a_kinds a_values a_names a_low a_high a_told a_leftOut a_isMade a_hands a_pad a_court a_title a_out k_out v_this_thrown v_this_size v_this_families v_this_atHand v_this_family v_this_density v_this_pads v_this_hasThermal v_this_titleSize v_this_written v_this_at v_this_begin v_this_words v_this_paste0 v_out)) [1, 0] rfl
  have hD := hD.sub (ws' := (w_M_text ad a_this a_units a_kinds a_values a_names a_low a_high a_told a_leftOut a_isMade a_hands a_pad a_court a_title a_out k_out v_this_thrown v_this_size v_this_families v_this_atHand v_this_family v_this_density v_this_pads v_this_hasThermal v_this_titleSize v_this_written v_this_at v_this_begin v_this_words v_this_paste0 v_out)) [1, 0] (by decide) rfl
  refine va_put (D := (dC, dI)) (ci := 10) (v := .int r1) (ty := .int) (C := RM) (T := TM) (N := 28) hx hb hts inZ_M tyM tyM_ok nmM hown hK hP hD hS 0 rfl rfl 0 (by decide) (hts _ zw_1044) (fun _ h9 => h9) rfl (by decide +kernel) rfl rfl (Nat.le_of_ble_eq_true rfl) dM_text_14 (fun H locs hP hD hS => ?_)
  have hP : va_P (dC, dI) vwCl (w_M_text ad a_this a_units a_kinds a_values a_names a_low a_high a_told a_leftOut a_isMade a_hands a_pad a_court a_title a_out k_out r1 v_this_size v_this_families v_this_atHand v_this_family v_this_density v_this_pads v_this_hasThermal v_this_titleSize v_this_written v_this_at v_this_begin v_this_words v_this_paste0 v_out) H := hP
  have hD : va_D A (w_M_text ad a_this a_units a_kinds a_values a_names a_low a_high a_told a_leftOut a_isMade a_hands a_pad a_court a_title a_out k_out r1 v_this_size v_this_families v_this_atHand v_this_family v_this_density v_this_pads v_this_hasThermal v_this_titleSize v_this_written v_this_at v_this_begin v_this_words v_this_paste0 v_out) := hD
  refine lv_aload_n hx hb dM_text_17 rfl (lv_at hl 0 rfl) ?_
  refine va_get (D := (dC, dI)) (ci := 10) (v := .int r1) (C := RM) (T := TM) (N := 28) hx hb hts inZ_M hown hK hP 0 rfl rfl 0 (by decide) (hts _ zw_1044) (fun _ h9 => h9) rfl dM_text_18 ?_
  refine lv_if_eq (tgt := 28) hx hb dM_text_21 (by decide) ?_ ?_
  · intro c2
    replace h := h.1 c2
    refine lv_iload_n hx hb dM_text_28 rfl (lv_at hl 1 rfl) ?_
    refine lv_aload_n hx hb dM_text_29 rfl (lv_at hl 0 rfl) ?_
    refine va_get (D := (dC, dI)) (ci := 10) (v := .int v_this_written) (C := RM) (T := TM) (N := 28) hx hb hts inZ_M hown hK hP 0 rfl rfl 23 (by decide) (hts _ zw_1067) (fun _ h9 => h9) rfl dM_text_30 ?_
    refine lv_icmp_ge (tgt := 45) hx hb dM_text_33 (by decide) ?_ ?_
    · intro c3
      replace h := h.1 c3
      refine lv_iconst (v := (-1)) hx hb dM_text_45 (by decide) ?_
      exact W.iret (v := (-1)) hx hb hr (fun t ht hW => ⟨⟨(-1), r1, rfl, h, by rw [ht]; exact hP, hD⟩, hS.F ht⟩) hS.2.2 dM_text_46
    · intro c3
      replace h := h.2 c3
      refine lv_aload_n hx hb dM_text_36 rfl (lv_at hl 0 rfl) ?_
      refine va_get (D := (dC, dI)) (ci := 10) (v := .ref a_out) (C := RM) (T := TM) (N := 28) hx hb hts inZ_M hown hK hP 0 rfl rfl 22 (by decide) (hts _ zw_1066) (fun _ h9 => h9) rfl dM_text_37 ?_
      refine lv_iload_n hx hb dM_text_40 rfl (lv_at hl 1 rfl) ?_
      obtain ⟨hn4, h⟩ := h
      refine va_iald hx hb hK hP 1 0 rfl rfl hn4 dM_text_41 ?_
      refine lv_goto (tgt := 46) hx hb dM_text_42 (by decide) ?_
      exact W.iret (v := (v_out p1.toNatClampNeg)) hx hb hr (fun t ht hW => ⟨⟨(v_out p1.toNatClampNeg), r1, rfl, h, by rw [ht]; exact hP, hD⟩, hS.F ht⟩) hS.2.2 dM_text_46
  · intro c2
    replace h := h.2 c2
    refine lv_iconst (v := 0) hx hb dM_text_24 (by decide) ?_
    refine lv_goto (tgt := 46) hx hb dM_text_25 (by decide) ?_
    exact W.iret (v := 0) hx hb hr (fun t ht hW => ⟨⟨0, r1, rfl, h, by rw [ht]; exact hP, hD⟩, hS.F ht⟩) hS.2.2 dM_text_46
def P_M_text (p1 : Int32) (v_this_atHand : Int32) (v_this_written : Int32) (v_out : Nat → Int32) (post : Int32 → Int32 → Prop) : Prop := ((p1 < 0 → P_M_text_11 p1 v_this_atHand v_this_written v_out post 0) ∧ (¬ p1 < 0 → P_M_text_11 p1 v_this_atHand v_this_written v_out post 1))
set_option maxHeartbeats 4000000 in
set_option maxRecDepth 100000 in
theorem c_M_text (l : Launch) (dC : Nat → ClassId) (dI : Nat → Nat → Nat) (ad : Nat → Nat → Nat) (a_this : Nat) (a_units : Nat) (a_kinds : Nat) (a_values : Nat) (a_names : Nat) (a_low : Nat) (a_high : Nat) (a_told : Nat) (a_leftOut : Nat) (a_isMade : Nat) (a_hands : Nat) (a_pad : Nat) (a_court : Nat) (a_title : Nat) (a_out : Nat) (k_out : ClassId) (sz : Nat) (p1 : Int32) (v_this_thrown : Int32) (v_this_size : Int32) (v_this_families : Int32) (v_this_atHand : Int32) (v_this_family : Int32) (v_this_density : Int32) (v_this_pads : Int32) (v_this_hasThermal : Int32) (v_this_titleSize : Int32) (v_this_written : Int32) (v_this_at : Int32) (v_this_begin : Int32) (v_this_words : Int32) (v_this_paste0 : Int64) (v_out : Nat → Int32) (post : Int32 → Int32 → Prop) (h : P_M_text p1 v_this_atHand v_this_written v_out post) : zMi l yM_text wsM_text { frames := 1, cells := 0, slots := 0, locals := 21 } (dC, dI) ad [.ref a_this, .int p1] (w_M_text ad a_this a_units a_kinds a_values a_names a_low a_high a_told a_leftOut a_isMade a_hands a_pad a_court a_title a_out k_out v_this_thrown v_this_size v_this_families v_this_atHand v_this_family v_this_density v_this_pads v_this_hasThermal v_this_titleSize v_this_written v_this_at v_this_begin v_this_words v_this_paste0 v_out) [(k_out, .int)] sz (fun (r : Int32) (u : Int32) => post r u) (fun (u : Int32) => (w_M_text ad a_this a_units a_kinds a_values a_names a_low a_high a_told a_leftOut a_isMade a_hands a_pad a_court a_title a_out k_out u v_this_size v_this_families v_this_atHand v_this_family v_this_density v_this_pads v_this_hasThermal v_this_titleSize v_this_written v_this_at v_this_begin v_this_words v_this_paste0 v_out)) 0 0 := by
  refine Met.ofW (cc := cM_text) (maxL := 2) (ret := (some .int)) (by decide +kernel) rfl ?_
  intro p e s m args below meth c s₁ B hml hv
  obtain ⟨rfl, hsz, hP, hK, hD0, hE⟩ := hv
  have hx := B.exec
  have hb := B.bytes
  have hr := B.returns
  have hts0 := atoms_spec (ws := wsM_text) B.pre
  have hts := fun w h => hts0 w (List.mem_cons_of_mem _ h)
  have hown : s.vm.findClass RM = some m.cls := findClass_of_methodNamed B.named
  have hlocks := B.notSynchronized
  subst hsz
  have hD := hD0.self (sz := s.heap.size)
  generalize hAe : va_A (w_M_text ad a_this a_units a_kinds a_values a_names a_low a_high a_told a_leftOut a_isMade a_hands a_pad a_court a_title a_out k_out v_this_thrown v_this_size v_this_families v_this_atHand v_this_family v_this_density v_this_pads v_this_hasThermal v_this_titleSize v_this_written v_this_at v_this_begin v_this_words v_this_paste0 v_out) s.heap.size = A at hD hE ⊢
  have hA : ∀ q : Nat, s.heap.size ≤ q → A q := fun q h => by rw [← hAe]; exact Or.inr h
  have C0 := zC.mk hx hb hr hml hown hts hlocks hA
  have hS : va_S A s.heap s.heap [] := va_S.rf
  have hl := lv_entry ([.ref a_this, .int p1]) (n := 2) (Nat.le_of_ble_eq_true rfl)
  rw [lg_entry_eq]
  generalize (lg_sl ([.ref a_this, .int p1]) ++ List.replicate (2 - (lg_sl ([.ref a_this, .int p1])).length) Slot.unset).toArray = ls at hl ⊢
  have hl : lv_has ls 2 [(0, .ref a_this), (1, .int p1)] := hl
  unfold P_M_text at h
  refine lv_aload_n hx hb dM_text_0 rfl (lv_at hl 0 rfl) ?_
  refine lv_aload_n hx hb dM_text_1 rfl (lv_at hl 0 rfl) ?_
  refine lv_iload_n hx hb dM_text_2 rfl (lv_at hl 1 rfl) ?_
  refine lv_if_lt (tgt := 10) hx hb dM_text_3 (by decide) ?_ ?_
  · intro c1
    replace h := h.1 c1
    refine lv_iconst (v := 0) hx hb dM_text_10 (by decide) ?_
    exact w_M_text_11 l C0 hE a_this a_units a_kinds a_values a_names a_low a_high a_told a_leftOut a_isMade a_hands a_pad a_court a_title a_out k_out p1 v_this_thrown v_this_size v_this_families v_this_atHand v_this_family v_this_density v_this_pads v_this_hasThermal v_this_titleSize v_this_written v_this_at v_this_begin v_this_words v_this_paste0 v_out post hK 0 _ _ h hP hD hS ls (lv_sub hl [0, 1] rfl)
  · intro c1
    replace h := h.2 c1
    refine lv_iconst (v := 1) hx hb dM_text_6 (by decide) ?_
    refine lv_goto (tgt := 11) hx hb dM_text_7 (by decide) ?_
    exact w_M_text_11 l C0 hE a_this a_units a_kinds a_values a_names a_low a_high a_told a_leftOut a_isMade a_hands a_pad a_court a_title a_out k_out p1 v_this_thrown v_this_size v_this_families v_this_atHand v_this_family v_this_density v_this_pads v_this_hasThermal v_this_titleSize v_this_written v_this_at v_this_begin v_this_words v_this_paste0 v_out post hK 1 _ _ h hP hD hS ls (lv_sub hl [0, 1] rfl)
abbrev yM_court : MethodName := ⟨"FootprintRulesModel", "court", "(I)J"⟩
abbrev cM_court : ByteArray := prog_14_method_41_code
abbrev wsM_court : List Cond := .code yM_court cM_court 2 (some .long) :: zT
set_option maxRecDepth 100000 in
theorem zc_M_court : Cond.code yM_court cM_court 2 (some .long) ∈ zT := zm 1295 (by rfl) (by rfl)
theorem dM_court_0 : decode cM_court 0 = .ok (.aload_n 0, 1) := by decide +kernel
theorem dM_court_1 : decode cM_court 1 = .ok (.aload_n 0, 1) := by decide +kernel
theorem dM_court_2 : decode cM_court 2 = .ok (.iload_n 1, 1) := by decide +kernel
theorem dM_court_3 : decode cM_court 3 = .ok (.ifCond .lt 12, 3) := by decide +kernel
theorem dM_court_6 : decode cM_court 6 = .ok (.iload_n 1, 1) := by decide +kernel
theorem dM_court_7 : decode cM_court 7 = .ok (.iconst 4, 1) := by decide +kernel
theorem dM_court_8 : decode cM_court 8 = .ok (.if_icmp .ge 7, 3) := by decide +kernel
theorem dM_court_11 : decode cM_court 11 = .ok (.iconst 1, 1) := by decide +kernel
theorem dM_court_12 : decode cM_court 12 = .ok (.goto 4, 3) := by decide +kernel
theorem dM_court_15 : decode cM_court 15 = .ok (.iconst 0, 1) := by decide +kernel
theorem dM_court_16 : decode cM_court 16 = .ok (.invokevirtual 224, 3) := by decide +kernel
theorem dM_court_19 : decode cM_court 19 = .ok (.putfield 54, 3) := by decide +kernel
theorem dM_court_22 : decode cM_court 22 = .ok (.aload_n 0, 1) := by decide +kernel
theorem dM_court_23 : decode cM_court 23 = .ok (.getfield 54, 3) := by decide +kernel
theorem dM_court_26 : decode cM_court 26 = .ok (.ifCond .ne 12, 3) := by decide +kernel
theorem dM_court_29 : decode cM_court 29 = .ok (.aload_n 0, 1) := by decide +kernel
theorem dM_court_30 : decode cM_court 30 = .ok (.getfield 45, 3) := by decide +kernel
theorem dM_court_33 : decode cM_court 33 = .ok (.iload_n 1, 1) := by decide +kernel
theorem dM_court_34 : decode cM_court 34 = .ok (.laload, 1) := by decide +kernel
theorem dM_court_35 : decode cM_court 35 = .ok (.goto 4, 3) := by decide +kernel
theorem dM_court_38 : decode cM_court 38 = .ok (.lconst 0, 1) := by decide +kernel
theorem dM_court_39 : decode cM_court 39 = .ok (.lreturn, 1) := by decide +kernel
-- FootprintRulesModel.court(I)J
abbrev w_M_court (ad : Nat → Nat → Nat) (a_this : Nat) (a_units : Nat) (a_kinds : Nat) (a_values : Nat) (a_names : Nat) (a_low : Nat) (a_high : Nat) (a_told : Nat) (a_leftOut : Nat) (a_isMade : Nat) (a_hands : Nat) (a_pad : Nat) (a_court : Nat) (a_title : Nat) (a_out : Nat) (k_court : ClassId) (v_this_thrown : Int32) (v_this_size : Int32) (v_this_families : Int32) (v_this_atHand : Int32) (v_this_family : Int32) (v_this_density : Int32) (v_this_pads : Int32) (v_this_hasThermal : Int32) (v_this_titleSize : Int32) (v_this_written : Int32) (v_this_at : Int32) (v_this_begin : Int32) (v_this_words : Int32) (v_this_paste0 : Int64) (v_court : Nat → Int64) : va_W := [(a_this, .inr (10, [.int v_this_thrown, .ref a_units, .int v_this_size, .int v_this_families, .ref a_kinds, .ref a_values, .ref a_names, .ref a_low, .ref a_high, .ref a_told, .ref a_leftOut, .ref a_isMade, .ref a_hands, .int v_this_atHand, .int v_this_family, .int v_this_density, .int v_this_pads, .ref a_pad, .ref a_court, .int v_this_hasThermal, .ref a_title, .int v_this_titleSize, .ref a_out, .int v_this_written, .int v_this_at, .int v_this_begin, .int v_this_words, .long v_this_paste0])), (a_court, .inl (k_court, 4, .inr (.inl v_court)))]
def P_M_court_16 (p1 : Int32) (v_this_atHand : Int32) (v_court : Nat → Int64) (post : Int64 → Int32 → Prop) (t0 : Int32) : Prop := P_M_refusal t0 v_this_atHand (fun (r1 : Int32) => ((¬ r1 = 0 → post 0 r1) ∧ (r1 = 0 → vp_in p1 4 ∧ post (v_court p1.toNatClampNeg) r1)))
set_option maxHeartbeats 4000000 in
set_option maxRecDepth 100000 in
theorem w_M_court_16 (l : Launch) {p : Program} {e : Env} {s : State} {m : MethodId} {args : Array Value} {below : List Frame} {meth : Method} {c : Code} {dC : Nat → ClassId} {dI : Nat → Nat → Nat} {ad : Nat → Nat → Nat} {A : Nat → Prop} (C0 : zC p s m args meth c cM_court 2 RM zT (some .long) A) (hE : zE ad A s) (a_this : Nat) (a_units : Nat) (a_kinds : Nat) (a_values : Nat) (a_names : Nat) (a_low : Nat) (a_high : Nat) (a_told : Nat) (a_leftOut : Nat) (a_isMade : Nat) (a_hands : Nat) (a_pad : Nat) (a_court : Nat) (a_title : Nat) (a_out : Nat) (k_court : ClassId) (p1 : Int32) (v_this_thrown : Int32) (v_this_size : Int32) (v_this_families : Int32) (v_this_atHand : Int32) (v_this_family : Int32) (v_this_density : Int32) (v_this_pads : Int32) (v_this_hasThermal : Int32) (v_this_titleSize : Int32) (v_this_written : Int32) (v_this_at : Int32) (v_this_begin : Int32) (v_this_words : Int32) (v_this_paste0 : Int64) (v_court : Nat → Int64) (post : Int64 → Int32 → Prop) (hK : va_K (dC, dI) vwCl [(k_court, .long)] s) : ∀ (t0 : Int32) (H : Heap) (locs : List Loc), P_M_court_16 p1 v_this_atHand v_court post t0 → va_P (dC, dI) vwCl (w_M_court ad a_this a_units a_kinds a_values a_names a_low a_high a_told a_leftOut a_isMade a_hands a_pad a_court a_title a_out k_court v_this_thrown v_this_size v_this_families v_this_atHand v_this_family v_this_density v_this_pads v_this_hasThermal v_this_titleSize v_this_written v_this_at v_this_begin v_this_words v_this_paste0 v_court) H → va_D A (w_M_court ad a_this a_units a_kinds a_values a_names a_low a_high a_told a_leftOut a_isMade a_hands a_pad a_court a_title a_out k_court v_this_thrown v_this_size v_this_families v_this_atHand v_this_family v_this_density v_this_pads v_this_hasThermal v_this_titleSize v_this_written v_this_at v_this_begin v_this_words v_this_paste0 v_court) → va_S A s.heap H locs → ∀ ls : Array Slot, lv_has ls 2 [(0, .ref a_this), (1, .int p1)] → W p l e (headSpec wsM_court { frames := 1, cells := 0, slots := 0, locals := 21 }).room s m args below meth c H locs 0 0 (MQ below (va_Ql (fun (r : Int64) (u : Int32) => post r u) (zB (dC, dI) A (fun (u : Int32) => (w_M_court ad a_this a_units a_kinds a_values a_names a_low a_high a_told a_leftOut a_isMade a_hands a_pad a_court a_title a_out k_court u v_this_size v_this_families v_this_atHand v_this_family v_this_density v_this_pads v_this_hasThermal v_this_titleSize v_this_written v_this_at v_this_begin v_this_words v_this_paste0 v_court))) A) args s 0 0 A) (F0 m 16 ls [.int t0, .ref a_this, .ref a_this]) := by
  obtain ⟨hx, hb, hr, hml, hown, hts, hlocks, hA⟩ := id C0
  intro t0 H locs h hP hD hS ls hl
  unfold P_M_court_16 at h
  refine zcall_i hP hD hS hA [0] [1] (va_runV (As := [.int t0]) (rest := [.ref a_this]) ⟨hx, hb, hml, hown, hts⟩ (c_M_refusal l dC dI ad a_this a_units a_kinds a_values a_names a_low a_high a_told a_leftOut a_isMade a_hands a_pad a_court a_title a_out _ t0 v_this_thrown v_this_size v_this_families v_this_atHand v_this_family v_this_density v_this_pads v_this_hasThermal v_this_titleSize v_this_written v_this_at v_this_begin v_this_words v_this_paste0 _ h) ⟨callB_of 1 hts (zgood zc_M_refusal) rfl rfl rfl (hts _ zw_107) (hts _ zw_1280) (by decide +kernel) ⟨Nat.le_of_ble_eq_true rfl, Nat.le_of_ble_eq_true rfl⟩, (hts _ zw_1282), (hts _ zw_89)⟩ (zpreV hE hK hP hD hS hA [0] [] (by rfl) (by rfl) (by decide) (ci := 10) (q0 := 0) rfl (by rfl)) rfl rfl hl.1 rfl (lv_room (Nat.le_of_ble_eq_true rfl)) dM_court_16 ⟨Nat.le_of_ble_eq_true rfl, Nat.le_of_ble_eq_true rfl⟩) (by rfl) (by rfl) (by decide) (by decide) (fun r1 u H locs h hP hD hS => ?_)
  try dsimp only at h
  have hP := hP.sub (ws' := (w_M_court ad a_this a_units a_kinds a_values a_names a_low a_high a_told a_leftOut a_isMade a_hands a_pad a_court a_title a_out k_court v_this_thrown v_this_size v_this_families v_this_atHand v_this_family v_this_density v_this_pads v_this_hasThermal v_this_titleSize v_this_written v_this_at v_this_begin v_this_words v_this_paste0 v_court)) [1, 0] rfl
  have hD := hD.sub (ws' := (w_M_court ad a_this a_units a_kinds a_values a_names a_low a_high a_told a_leftOut a_isMade a_hands a_pad a_court a_title a_out k_court v_this_thrown v_this_size v_this_families v_this_atHand v_this_family v_this_density v_this_pads v_this_hasThermal v_this_titleSize v_this_written v_this_at v_this_begin v_this_words v_this_paste0 v_court)) [1, 0] (by decide) rfl
  refine va_put (D := (dC, dI)) (ci := 10) (v := .int r1) (ty := .int) (C := RM) (T := TM) (N := 28) hx hb hts inZ_M tyM tyM_ok nmM hown hK hP hD hS 0 rfl rfl 0 (by decide) (hts _ zw_1044) (fun _ h9 => h9) rfl (by decide +kernel) rfl rfl (Nat.le_of_ble_eq_true rfl) dM_court_19 (fun H locs hP hD hS => ?_)
  have hP : va_P (dC, dI) vwCl (w_M_court ad a_this a_units a_kinds a_values a_names a_low a_high a_told a_leftOut a_isMade a_hands a_pad a_court a_title a_out k_court r1 v_this_size v_this_families v_this_atHand v_this_family v_this_density v_this_pads v_this_hasThermal v_this_titleSize v_this_written v_this_at v_this_begin v_this_words v_this_paste0 v_court) H := hP
  have hD : va_D A (w_M_court ad a_this a_units a_kinds a_values a_names a_low a_high a_told a_leftOut a_isMade a_hands a_pad a_court a_title a_out k_court r1 v_this_size v_this_families v_this_atHand v_this_family v_this_density v_this_pads v_this_hasThermal v_this_titleSize v_this_written v_this_at v_this_begin v_this_words v_this_paste0 v_court) := hD
  refine lv_aload_n hx hb dM_court_22 rfl (lv_at hl 0 rfl) ?_
  refine va_get (D := (dC, dI)) (ci := 10) (v := .int r1) (C := RM) (T := TM) (N := 28) hx hb hts inZ_M hown hK hP 0 rfl rfl 0 (by decide) (hts _ zw_1044) (fun _ h9 => h9) rfl dM_court_23 ?_
  refine lv_if_ne (tgt := 38) hx hb dM_court_26 (by decide) ?_ ?_
  · intro c2
    replace h := h.1 c2
    refine lv_lconst (v := 0) hx hb dM_court_38 (by decide) ?_
    exact W.lret (v := 0) hx hb hr (fun t ht hW => ⟨⟨0, r1, rfl, h, by rw [ht]; exact hP, hD⟩, hS.F ht⟩) hS.2.2 dM_court_39
  · intro c2
    replace h := h.2 c2
    refine lv_aload_n hx hb dM_court_29 rfl (lv_at hl 0 rfl) ?_
    refine va_get (D := (dC, dI)) (ci := 10) (v := .ref a_court) (C := RM) (T := TM) (N := 28) hx hb hts inZ_M hown hK hP 0 rfl rfl 18 (by decide) (hts _ zw_1062) (fun _ h9 => h9) rfl dM_court_30 ?_
    refine lv_iload_n hx hb dM_court_33 rfl (lv_at hl 1 rfl) ?_
    obtain ⟨hn3, h⟩ := h
    refine va_lald hx hb hK hP 1 0 rfl rfl hn3 dM_court_34 ?_
    refine lv_goto (tgt := 39) hx hb dM_court_35 (by decide) ?_
    exact W.lret (v := (v_court p1.toNatClampNeg)) hx hb hr (fun t ht hW => ⟨⟨(v_court p1.toNatClampNeg), r1, rfl, h, by rw [ht]; exact hP, hD⟩, hS.F ht⟩) hS.2.2 dM_court_39
def P_M_court_15 (p1 : Int32) (v_this_atHand : Int32) (v_court : Nat → Int64) (post : Int64 → Int32 → Prop)  : Prop := P_M_court_16 p1 v_this_atHand v_court post 0
set_option maxHeartbeats 4000000 in
set_option maxRecDepth 100000 in
theorem w_M_court_15 (l : Launch) {p : Program} {e : Env} {s : State} {m : MethodId} {args : Array Value} {below : List Frame} {meth : Method} {c : Code} {dC : Nat → ClassId} {dI : Nat → Nat → Nat} {ad : Nat → Nat → Nat} {A : Nat → Prop} (C0 : zC p s m args meth c cM_court 2 RM zT (some .long) A) (hE : zE ad A s) (a_this : Nat) (a_units : Nat) (a_kinds : Nat) (a_values : Nat) (a_names : Nat) (a_low : Nat) (a_high : Nat) (a_told : Nat) (a_leftOut : Nat) (a_isMade : Nat) (a_hands : Nat) (a_pad : Nat) (a_court : Nat) (a_title : Nat) (a_out : Nat) (k_court : ClassId) (p1 : Int32) (v_this_thrown : Int32) (v_this_size : Int32) (v_this_families : Int32) (v_this_atHand : Int32) (v_this_family : Int32) (v_this_density : Int32) (v_this_pads : Int32) (v_this_hasThermal : Int32) (v_this_titleSize : Int32) (v_this_written : Int32) (v_this_at : Int32) (v_this_begin : Int32) (v_this_words : Int32) (v_this_paste0 : Int64) (v_court : Nat → Int64) (post : Int64 → Int32 → Prop) (hK : va_K (dC, dI) vwCl [(k_court, .long)] s) : ∀  (H : Heap) (locs : List Loc), P_M_court_15 p1 v_this_atHand v_court post → va_P (dC, dI) vwCl (w_M_court ad a_this a_units a_kinds a_values a_names a_low a_high a_told a_leftOut a_isMade a_hands a_pad a_court a_title a_out k_court v_this_thrown v_this_size v_this_families v_this_atHand v_this_family v_this_density v_this_pads v_this_hasThermal v_this_titleSize v_this_written v_this_at v_this_begin v_this_words v_this_paste0 v_court) H → va_D A (w_M_court ad a_this a_units a_kinds a_values a_names a_low a_high a_told a_leftOut a_isMade a_hands a_pad a_court a_title a_out k_court v_this_thrown v_this_size v_this_families v_this_atHand v_this_family v_this_density v_this_pads v_this_hasThermal v_this_titleSize v_this_written v_this_at v_this_begin v_this_words v_this_paste0 v_court) → va_S A s.heap H locs → ∀ ls : Array Slot, lv_has ls 2 [(0, .ref a_this), (1, .int p1)] → W p l e (headSpec wsM_court { frames := 1, cells := 0, slots := 0, locals := 21 }).room s m args below meth c H locs 0 0 (MQ below (va_Ql (fun (r : Int64) (u : Int32) => post r u) (zB (dC, dI) A (fun (u : Int32) => (w_M_court ad a_this a_units a_kinds a_values a_names a_low a_high a_told a_leftOut a_isMade a_hands a_pad a_court a_title a_out k_court u v_this_size v_this_families v_this_atHand v_this_family v_this_density v_this_pads v_this_hasThermal v_this_titleSize v_this_written v_this_at v_this_begin v_this_words v_this_paste0 v_court))) A) args s 0 0 A) (F0 m 15 ls [.ref a_this, .ref a_this]) := by
  obtain ⟨hx, hb, hr, hml, hown, hts, hlocks, hA⟩ := id C0
  intro  H locs h hP hD hS ls hl
  unfold P_M_court_15 at h
  refine lv_iconst (v := 0) hx hb dM_court_15 (by decide) ?_
  exact w_M_court_16 l C0 hE a_this a_units a_kinds a_values a_names a_low a_high a_told a_leftOut a_isMade a_hands a_pad a_court a_title a_out k_court p1 v_this_thrown v_this_size v_this_families v_this_atHand v_this_family v_this_density v_this_pads v_this_hasThermal v_this_titleSize v_this_written v_this_at v_this_begin v_this_words v_this_paste0 v_court post hK 0 _ _ h hP hD hS ls (lv_sub hl [0, 1] rfl)
def P_M_court (p1 : Int32) (v_this_atHand : Int32) (v_court : Nat → Int64) (post : Int64 → Int32 → Prop) : Prop := ((p1 < 0 → P_M_court_15 p1 v_this_atHand v_court post) ∧ (¬ p1 < 0 → ((4 ≤ p1 → P_M_court_15 p1 v_this_atHand v_court post) ∧ (¬ 4 ≤ p1 → P_M_court_16 p1 v_this_atHand v_court post 1))))
set_option maxHeartbeats 4000000 in
set_option maxRecDepth 100000 in
theorem c_M_court (l : Launch) (dC : Nat → ClassId) (dI : Nat → Nat → Nat) (ad : Nat → Nat → Nat) (a_this : Nat) (a_units : Nat) (a_kinds : Nat) (a_values : Nat) (a_names : Nat) (a_low : Nat) (a_high : Nat) (a_told : Nat) (a_leftOut : Nat) (a_isMade : Nat) (a_hands : Nat) (a_pad : Nat) (a_court : Nat) (a_title : Nat) (a_out : Nat) (k_court : ClassId) (sz : Nat) (p1 : Int32) (v_this_thrown : Int32) (v_this_size : Int32) (v_this_families : Int32) (v_this_atHand : Int32) (v_this_family : Int32) (v_this_density : Int32) (v_this_pads : Int32) (v_this_hasThermal : Int32) (v_this_titleSize : Int32) (v_this_written : Int32) (v_this_at : Int32) (v_this_begin : Int32) (v_this_words : Int32) (v_this_paste0 : Int64) (v_court : Nat → Int64) (post : Int64 → Int32 → Prop) (h : P_M_court p1 v_this_atHand v_court post) : zMl l yM_court wsM_court { frames := 1, cells := 0, slots := 0, locals := 21 } (dC, dI) ad [.ref a_this, .int p1] (w_M_court ad a_this a_units a_kinds a_values a_names a_low a_high a_told a_leftOut a_isMade a_hands a_pad a_court a_title a_out k_court v_this_thrown v_this_size v_this_families v_this_atHand v_this_family v_this_density v_this_pads v_this_hasThermal v_this_titleSize v_this_written v_this_at v_this_begin v_this_words v_this_paste0 v_court) [(k_court, .long)] sz (fun (r : Int64) (u : Int32) => post r u) (fun (u : Int32) => (w_M_court ad a_this a_units a_kinds a_values a_names a_low a_high a_told a_leftOut a_isMade a_hands a_pad a_court a_title a_out k_court u v_this_size v_this_families v_this_atHand v_this_family v_this_density v_this_pads v_this_hasThermal v_this_titleSize v_this_written v_this_at v_this_begin v_this_words v_this_paste0 v_court)) 0 0 := by
  refine Met.ofW (cc := cM_court) (maxL := 2) (ret := (some .long)) (by decide +kernel) rfl ?_
  intro p e s m args below meth c s₁ B hml hv
  obtain ⟨rfl, hsz, hP, hK, hD0, hE⟩ := hv
  have hx := B.exec
  have hb := B.bytes
  have hr := B.returns
  have hts0 := atoms_spec (ws := wsM_court) B.pre
  have hts := fun w h => hts0 w (List.mem_cons_of_mem _ h)
  have hown : s.vm.findClass RM = some m.cls := findClass_of_methodNamed B.named
  have hlocks := B.notSynchronized
  subst hsz
  have hD := hD0.self (sz := s.heap.size)
  generalize hAe : va_A (w_M_court ad a_this a_units a_kinds a_values a_names a_low a_high a_told a_leftOut a_isMade a_hands a_pad a_court a_title a_out k_court v_this_thrown v_this_size v_this_families v_this_atHand v_this_family v_this_density v_this_pads v_this_hasThermal v_this_titleSize v_this_written v_this_at v_this_begin v_this_words v_this_paste0 v_court) s.heap.size = A at hD hE ⊢
  have hA : ∀ q : Nat, s.heap.size ≤ q → A q := fun q h => by rw [← hAe]; exact Or.inr h
  have C0 := zC.mk hx hb hr hml hown hts hlocks hA
  have hS : va_S A s.heap s.heap [] := va_S.rf
  have hl := lv_entry ([.ref a_this, .int p1]) (n := 2) (Nat.le_of_ble_eq_true rfl)
  rw [lg_entry_eq]
  generalize (lg_sl ([.ref a_this, .int p1]) ++ List.replicate (2 - (lg_sl ([.ref a_this, .int p1])).length) Slot.unset).toArray = ls at hl ⊢
  have hl : lv_has ls 2 [(0, .ref a_this), (1, .int p1)] := hl
  unfold P_M_court at h
  refine lv_aload_n hx hb dM_court_0 rfl (lv_at hl 0 rfl) ?_
  refine lv_aload_n hx hb dM_court_1 rfl (lv_at hl 0 rfl) ?_
  refine lv_iload_n hx hb dM_court_2 rfl (lv_at hl 1 rfl) ?_
  refine lv_if_lt (tgt := 15) hx hb dM_court_3 (by decide) ?_ ?_
  · intro c1
    replace h := h.1 c1
    exact w_M_court_15 l C0 hE a_this a_units a_kinds a_values a_names a_low a_high a_told a_leftOut a_isMade a_hands a_pad a_court a_title a_out k_court p1 v_this_thrown v_this_size v_this_families v_this_atHand v_this_family v_this_density v_this_pads v_this_hasThermal v_this_titleSize v_this_written v_this_at v_this_begin v_this_words v_this_paste0 v_court post hK _ _ h hP hD hS ls (lv_sub hl [0, 1] rfl)
  · intro c1
    replace h := h.2 c1
    refine lv_iload_n hx hb dM_court_6 rfl (lv_at hl 1 rfl) ?_
    refine lv_iconst (v := 4) hx hb dM_court_7 (by decide) ?_
    refine lv_icmp_ge (tgt := 15) hx hb dM_court_8 (by decide) ?_ ?_
    · intro c2
      replace h := h.1 c2
      exact w_M_court_15 l C0 hE a_this a_units a_kinds a_values a_names a_low a_high a_told a_leftOut a_isMade a_hands a_pad a_court a_title a_out k_court p1 v_this_thrown v_this_size v_this_families v_this_atHand v_this_family v_this_density v_this_pads v_this_hasThermal v_this_titleSize v_this_written v_this_at v_this_begin v_this_words v_this_paste0 v_court post hK _ _ h hP hD hS ls (lv_sub hl [0, 1] rfl)
    · intro c2
      replace h := h.2 c2
      refine lv_iconst (v := 1) hx hb dM_court_11 (by decide) ?_
      refine lv_goto (tgt := 16) hx hb dM_court_12 (by decide) ?_
      exact w_M_court_16 l C0 hE a_this a_units a_kinds a_values a_names a_low a_high a_told a_leftOut a_isMade a_hands a_pad a_court a_title a_out k_court p1 v_this_thrown v_this_size v_this_families v_this_atHand v_this_family v_this_density v_this_pads v_this_hasThermal v_this_titleSize v_this_written v_this_at v_this_begin v_this_words v_this_paste0 v_court post hK 1 _ _ h hP hD hS ls (lv_sub hl [0, 1] rfl)
