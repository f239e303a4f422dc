abbrev yM_span : MethodName := ⟨"FootprintRulesModel", "span", "(IJJ)Z"⟩
abbrev cM_span : ByteArray := prog_14_method_14_code
abbrev wsM_span : List Cond := .code yM_span cM_span 7 (some .boolean) :: zT
set_option maxRecDepth 100000 in
theorem zc_M_span : Cond.code yM_span cM_span 7 (some .boolean) ∈ zT := zm 1183 (by rfl) (by rfl)
theorem dM_span_0 : decode cM_span 0 = .ok (.lload_n 2, 1) := by decide +kernel
theorem dM_span_1 : decode cM_span 1 = .ok (.lconst 0, 1) := by decide +kernel
theorem dM_span_2 : decode cM_span 2 = .ok (.lcmp, 1) := by decide +kernel
theorem dM_span_3 : decode cM_span 3 = .ok (.ifCond .lt 31, 3) := by decide +kernel
theorem dM_span_6 : decode cM_span 6 = .ok (.lload_n 2, 1) := by decide +kernel
theorem dM_span_7 : decode cM_span 7 = .ok (.ldc2_w 82, 3) := by decide +kernel
theorem dM_span_10 : decode cM_span 10 = .ok (.lcmp, 1) := by decide +kernel
theorem dM_span_11 : decode cM_span 11 = .ok (.ifCond .gt 23, 3) := by decide +kernel
theorem dM_span_14 : decode cM_span 14 = .ok (.lload 4, 2) := by decide +kernel
theorem dM_span_16 : decode cM_span 16 = .ok (.lconst 0, 1) := by decide +kernel
theorem dM_span_17 : decode cM_span 17 = .ok (.lcmp, 1) := by decide +kernel
theorem dM_span_18 : decode cM_span 18 = .ok (.ifCond .lt 16, 3) := by decide +kernel
theorem dM_span_21 : decode cM_span 21 = .ok (.lload 4, 2) := by decide +kernel
theorem dM_span_23 : decode cM_span 23 = .ok (.ldc2_w 82, 3) := by decide +kernel
theorem dM_span_26 : decode cM_span 26 = .ok (.lcmp, 1) := by decide +kernel
theorem dM_span_27 : decode cM_span 27 = .ok (.ifCond .gt 7, 3) := by decide +kernel
theorem dM_span_30 : decode cM_span 30 = .ok (.iconst 1, 1) := by decide +kernel
theorem dM_span_31 : decode cM_span 31 = .ok (.goto 4, 3) := by decide +kernel
theorem dM_span_34 : decode cM_span 34 = .ok (.iconst 0, 1) := by decide +kernel
theorem dM_span_35 : decode cM_span 35 = .ok (.istore 6, 2) := by decide +kernel
theorem dM_span_37 : decode cM_span 37 = .ok (.aload_n 0, 1) := by decide +kernel
theorem dM_span_38 : decode cM_span 38 = .ok (.iload_n 1, 1) := by decide +kernel
theorem dM_span_39 : decode cM_span 39 = .ok (.ifCond .lt 9, 3) := by decide +kernel
theorem dM_span_42 : decode cM_span 42 = .ok (.iload_n 1, 1) := by decide +kernel
theorem dM_span_43 : decode cM_span 43 = .ok (.bipush 11, 2) := by decide +kernel
theorem dM_span_45 : decode cM_span 45 = .ok (.if_icmp .le 7, 3) := by decide +kernel
theorem dM_span_48 : decode cM_span 48 = .ok (.iconst 1, 1) := by decide +kernel
theorem dM_span_49 : decode cM_span 49 = .ok (.goto 13, 3) := by decide +kernel
theorem dM_span_52 : decode cM_span 52 = .ok (.iload 6, 2) := by decide +kernel
theorem dM_span_54 : decode cM_span 54 = .ok (.ifCond .eq 7, 3) := by decide +kernel
theorem dM_span_57 : decode cM_span 57 = .ok (.iconst 0, 1) := by decide +kernel
theorem dM_span_58 : decode cM_span 58 = .ok (.goto 4, 3) := by decide +kernel
theorem dM_span_61 : decode cM_span 61 = .ok (.iconst 2, 1) := by decide +kernel
theorem dM_span_62 : decode cM_span 62 = .ok (.putfield 54, 3) := by decide +kernel
theorem dM_span_65 : decode cM_span 65 = .ok (.aload_n 0, 1) := by decide +kernel
theorem dM_span_66 : decode cM_span 66 = .ok (.getfield 54, 3) := by decide +kernel
theorem dM_span_69 : decode cM_span 69 = .ok (.ifCond .ne 10, 3) := by decide +kernel
theorem dM_span_72 : decode cM_span 72 = .ok (.lload_n 2, 1) := by decide +kernel
theorem dM_span_73 : decode cM_span 73 = .ok (.lload 4, 2) := by decide +kernel
theorem dM_span_75 : decode cM_span 75 = .ok (.lcmp, 1) := by decide +kernel
theorem dM_span_76 : decode cM_span 76 = .ok (.ifCond .le 5, 3) := by decide +kernel
theorem dM_span_79 : decode cM_span 79 = .ok (.iconst 0, 1) := by decide +kernel
theorem dM_span_80 : decode cM_span 80 = .ok (.ireturn, 1) := by decide +kernel
theorem dM_span_81 : decode cM_span 81 = .ok (.aload_n 0, 1) := by decide +kernel
theorem dM_span_82 : decode cM_span 82 = .ok (.getfield 23, 3) := by decide +kernel
theorem dM_span_85 : decode cM_span 85 = .ok (.iload_n 1, 1) := by decide +kernel
theorem dM_span_86 : decode cM_span 86 = .ok (.lload_n 2, 1) := by decide +kernel
theorem dM_span_87 : decode cM_span 87 = .ok (.lastore, 1) := by decide +kernel
theorem dM_span_88 : decode cM_span 88 = .ok (.aload_n 0, 1) := by decide +kernel
theorem dM_span_89 : decode cM_span 89 = .ok (.getfield 26, 3) := by decide +kernel
theorem dM_span_92 : decode cM_span 92 = .ok (.iload_n 1, 1) := by decide +kernel
theorem dM_span_93 : decode cM_span 93 = .ok (.lload 4, 2) := by decide +kernel
theorem dM_span_95 : decode cM_span 95 = .ok (.lastore, 1) := by decide +kernel
theorem dM_span_96 : decode cM_span 96 = .ok (.aload_n 0, 1) := by decide +kernel
theorem dM_span_97 : decode cM_span 97 = .ok (.getfield 29, 3) := by decide +kernel
theorem dM_span_100 : decode cM_span 100 = .ok (.iload_n 1, 1) := by decide +kernel
theorem dM_span_101 : decode cM_span 101 = .ok (.iconst 1, 1) := by decide +kernel
theorem dM_span_102 : decode cM_span 102 = .ok (.bastore, 1) := by decide +kernel
theorem dM_span_103 : decode cM_span 103 = .ok (.iconst 1, 1) := by decide +kernel
theorem dM_span_104 : decode cM_span 104 = .ok (.ireturn, 1) := by decide +kernel
-- FootprintRulesModel.span(IJJ)Z
abbrev w_M_span (ad : Nat → Nat → Nat) (a_this : Nat) (a_units : Nat) (a_kinds : Nat) (a_values : Nat) (a_names : Nat) (a_low : Nat) (a_high : Nat) (a_told : Nat) (a_leftOut : Nat) (a_isMade : Nat) (a_hands : Nat) (a_pad : Nat) (a_court : Nat) (a_title : Nat) (a_out : Nat) (k_low : ClassId) (k_high : ClassId) (k_told : ClassId) (v_this_thrown : Int32) (v_this_size : Int32) (v_this_families : Int32) (v_this_atHand : Int32) (v_this_family : Int32) (v_this_density : Int32) (v_this_pads : Int32) (v_this_hasThermal : Int32) (v_this_titleSize : Int32) (v_this_written : Int32) (v_this_at : Int32) (v_this_begin : Int32) (v_this_words : Int32) (v_this_paste0 : Int64) (v_low : Nat → Int64) (v_high : Nat → Int64) (v_told : Nat → Int32) : va_W := [(a_this, .inr (10, [.int v_this_thrown, .ref a_units, .int v_this_size, .int v_this_families, .ref a_kinds, .ref a_values, .ref a_names, .ref a_low, .ref a_high, .ref a_told, .ref a_leftOut, .ref a_isMade, .ref a_hands, .int v_this_atHand, .int v_this_family, .int v_this_density, .int v_this_pads, .ref a_pad, .ref a_court, .int v_this_hasThermal, .ref a_title, .int v_this_titleSize, .ref a_out, .int v_this_written, .int v_this_at, .int v_this_begin, .int v_this_words, .long v_this_paste0])), (a_low, .inl (k_low, 12, .inr (.inl v_low))), (a_high, .inl (k_high, 12, .inr (.inl v_high))), (a_told, .inl (k_told, 12, .inl v_told))]
def P_M_span_62 (p1 : Int32) (p2 : Int64) (p4 : Int64) (v_low : Nat → Int64) (v_high : Nat → Int64) (v_told : Nat → Int32) (post : Int32 → Int32 → (Nat → Int64) → (Nat → Int64) → (Nat → Int32) → Prop) (t0 : Int32) : Prop := ((¬ t0 = 0 → post 0 t0 v_low v_high v_told) ∧ (t0 = 0 → ((p2 ≤ p4 → vp_in p1 12 ∧ vp_in p1 12 ∧ vp_in p1 12 ∧ post 1 t0 (vp_updL v_low p1.toNatClampNeg p2) (vp_updL v_high p1.toNatClampNeg p4) (upd v_told p1.toNatClampNeg (vp_nar .boolean 1))) ∧ (¬ p2 ≤ p4 → post 0 t0 v_low v_high v_told))))
set_option maxHeartbeats 4000000 in
set_option maxRecDepth 100000 in
theorem w_M_span_62 (l : Launch) {p : Program} {e : Env} {s : State} {m : MethodId} {args : Array Value} {below : List Frame} {meth : Method} {c : Code} {dC : Nat → ClassId} {dI : Nat → Nat → Nat} {ad : Nat → Nat → Nat} {A : Nat → Prop} (C0 : zC p s m args meth c cM_span 7 RM zT (some .boolean) A) (hE : zE ad A s) (a_this : Nat) (a_units : Nat) (a_kinds : Nat) (a_values : Nat) (a_names : Nat) (a_low : Nat) (a_high : Nat) (a_told : Nat) (a_leftOut : Nat) (a_isMade : Nat) (a_hands : Nat) (a_pad : Nat) (a_court : Nat) (a_title : Nat) (a_out : Nat) (k_low : ClassId) (k_high : ClassId) (k_told : ClassId) (p1 : Int32) (p2 : Int64) (p4 : Int64) (v_this_thrown : Int32) (v_this_size : Int32) (v_this_families : Int32) (v_this_atHand : Int32) (v_this_family : Int32) (v_this_density : Int32) (v_this_pads : Int32) (v_this_hasThermal : Int32) (v_this_titleSize : Int32) (v_this_written : Int32) (v_this_at : Int32) (v_this_begin : Int32) (v_this_words : Int32) (v_this_paste0 : Int64) (v_low : Nat → Int64) (v_high : Nat → Int64) (v_told : Nat → Int32) (post : Int32 → Int32 → (Nat → Int64) → (Nat → Int64) → (Nat → Int32) → Prop) (hK : va_K (dC, dI) vwCl [(k_low, .long), (k_high, .long), (k_told, .boolean)] s) : ∀ (t0 : Int32) (H : Heap) (locs : List Loc), P_M_span_62 p1 p2 p4 v_low v_high v_told post t0 → va_P (dC, dI) vwCl (w_M_span ad a_this a_units a_kinds a_values a_names a_low a_high a_told a_leftOut a_isMade a_hands a_pad a_court a_title a_out k_low k_high k_told v_this_thrown v_this_size v_this_families v_this_atHand v_this_family v_this_density v_this_pads v_this_hasThermal v_this_titleSize v_this_written v_this_at v_this_begin v_this_words v_this_paste0 v_low v_high v_told) H → va_D A (w_M_span ad a_this a_units a_kinds a_values a_names a_low a_high a_told a_leftOut a_isMade a_hands a_pad a_court a_title a_out k_low k_high k_told v_this_thrown v_this_size v_this_families v_this_atHand v_this_family v_this_density v_this_pads v_this_hasThermal v_this_titleSize v_this_written v_this_at v_this_begin v_this_words v_this_paste0 v_low v_high v_told) → va_S A s.heap H locs → ∀ ls : Array Slot, lv_has ls 7 [(0, .ref a_this), (1, .int p1), (2, .long p2), (4, .long p4)] → W p l e (headSpec wsM_span { frames := 0, cells := 0, slots := 0, locals := 0 }).room s m args below meth c H locs 0 0 (MQ below (va_Qi (fun (r : Int32) (u : Int32 × (Nat → Int64) × (Nat → Int64) × (Nat → Int32)) => post r u.1 u.2.1 u.2.2.1 u.2.2.2) (zB (dC, dI) A (fun (u : Int32 × (Nat → Int64) × (Nat → Int64) × (Nat → Int32)) => (w_M_span ad a_this a_units a_kinds a_values a_names a_low a_high a_told a_leftOut a_isMade a_hands a_pad a_court a_title a_out k_low k_high k_told u.1 v_this_size v_this_families v_this_atHand v_this_family v_this_density v_this_pads v_this_hasThermal v_this_titleSize v_this_written v_this_at v_this_begin v_this_words v_this_paste0 u.2.1 u.2.2.1 u.2.2.2))) A) args s 0 0 A) (F0 m 62 ls [.int t0, .ref a_this]) := by
  obtain ⟨hx, hb, hr, hml, hown, hts, hlocks, hA⟩ := id C0
  intro t0 H locs h hP hD hS ls hl
  unfold P_M_span_62 at h
  refine va_put (D := (dC, dI)) (ci := 10) (v := .int t0) (ty := .int) (C := RM) (T := TM) (N := 28) hx hb hts inZ_M tyM tyM_ok nmM hown hK hP hD hS 0 rfl rfl 0 (by decide) (hts _ zw_1044) (fun _ h9 => h9) rfl (by decide +kernel) rfl rfl (Nat.le_of_ble_eq_true rfl) dM_span_62 (fun H locs hP hD hS => ?_)
  have hP : va_P (dC, dI) vwCl (w_M_span ad a_this a_units a_kinds a_values a_names a_low a_high a_told a_leftOut a_isMade a_hands a_pad a_court a_title a_out k_low k_high k_told t0 v_this_size v_this_families v_this_atHand v_this_family v_this_density v_this_pads v_this_hasThermal v_this_titleSize v_this_written v_this_at v_this_begin v_this_words v_this_paste0 v_low v_high v_told) H := hP
  have hD : va_D A (w_M_span ad a_this a_units a_kinds a_values a_names a_low a_high a_told a_leftOut a_isMade a_hands a_pad a_court a_title a_out k_low k_high k_told t0 v_this_size v_this_families v_this_atHand v_this_family v_this_density v_this_pads v_this_hasThermal v_this_titleSize v_this_written v_this_at v_this_begin v_this_words v_this_paste0 v_low v_high v_told) := hD
  refine lv_aload_n hx hb dM_span_65 rfl (lv_at hl 0 rfl) ?_
  refine va_get (D := (dC, dI)) (ci := 10) (v := .int t0) (C := RM) (T := TM) (N := 28) hx hb hts inZ_M hown hK hP 0 rfl rfl 0 (by decide) (hts _ zw_1044) (fun _ h9 => h9) rfl dM_span_66 ?_
  refine lv_if_ne (tgt := 79) hx hb dM_span_69 (by decide) ?_ ?_
  · intro c1
    replace h := h.1 c1
    refine lv_iconst (v := 0) hx hb dM_span_79 (by decide) ?_
    exact W.zret (v := 0) hx hb hr rfl (fun t ht hW => ⟨⟨0, (t0, v_low, v_high, v_told), rfl, h, by rw [ht]; exact hP, hD⟩, hS.F ht⟩) hS.2.2 dM_span_80
  · intro c1
    replace h := h.2 c1
    refine lv_lload_n hx hb dM_span_72 rfl (lv_at hl 2 rfl) ?_
    refine lv_lload hx hb dM_span_73 (lv_at hl 3 rfl) ?_
    refine zz_lcmp_le (tgt := 81) hx hb dM_span_75 dM_span_76 (by decide) ?_ ?_
    · intro c2
      replace h := h.1 c2
      refine lv_aload_n hx hb dM_span_81 rfl (lv_at hl 0 rfl) ?_
      refine va_get (D := (dC, dI)) (ci := 10) (v := .ref a_low) (C := RM) (T := TM) (N := 28) hx hb hts inZ_M hown hK hP 0 rfl rfl 7 (by decide) (hts _ zw_1051) (fun _ h9 => h9) rfl dM_span_82 ?_
      refine lv_iload_n hx hb dM_span_85 rfl (lv_at hl 1 rfl) ?_
      refine lv_lload_n hx hb dM_span_86 rfl (lv_at hl 2 rfl) ?_
      obtain ⟨hn3, h⟩ := h
      refine va_last hx hb hK hP hD hS 1 0 rfl rfl hn3 dM_span_87 (fun H locs hP hD hS => ?_)
      have hP : va_P (dC, dI) vwCl (w_M_span ad a_this a_units a_kinds a_values a_names a_low a_high a_told a_leftOut a_isMade a_hands a_pad a_court a_title a_out k_low k_high k_told t0 v_this_size v_this_families v_this_atHand v_this_family v_this_density v_this_pads v_this_hasThermal v_this_titleSize v_this_written v_this_at v_this_begin v_this_words v_this_paste0 (vp_updL v_low p1.toNatClampNeg p2) v_high v_told) H := hP
      have hD : va_D A (w_M_span ad a_this a_units a_kinds a_values a_names a_low a_high a_told a_leftOut a_isMade a_hands a_pad a_court a_title a_out k_low k_high k_told t0 v_this_size v_this_families v_this_atHand v_this_family v_this_density v_this_pads v_this_hasThermal v_this_titleSize v_this_written v_this_at v_this_begin v_this_words v_this_paste0 (vp_updL v_low p1.toNatClampNeg p2) v_high v_told) := hD
      refine lv_aload_n hx hb dM_span_88 rfl (lv_at hl 0 rfl) ?_
      refine va_get (D := (dC, dI)) (ci := 10) (v := .ref a_high) (C := RM) (T := TM) (N := 28) hx hb hts inZ_M hown hK hP 0 rfl rfl 8 (by decide) (hts _ zw_1052) (fun _ h9 => h9) rfl dM_span_89 ?_
      refine lv_iload_n hx hb dM_span_92 rfl (lv_at hl 1 rfl) ?_
      refine lv_lload hx hb dM_span_93 (lv_at hl 3 rfl) ?_
      obtain ⟨hn4, h⟩ := h
      refine va_last hx hb hK hP hD hS 2 1 rfl rfl hn4 dM_span_95 (fun H locs hP hD hS => ?_)
      have hP : va_P (dC, dI) vwCl (w_M_span ad a_this a_units a_kinds a_values a_names a_low a_high a_told a_leftOut a_isMade a_hands a_pad a_court a_title a_out k_low k_high k_told t0 v_this_size v_this_families v_this_atHand v_this_family v_this_density v_this_pads v_this_hasThermal v_this_titleSize v_this_written v_this_at v_this_begin v_this_words v_this_paste0 (vp_updL v_low p1.toNatClampNeg p2) (vp_updL v_high p1.toNatClampNeg p4) v_told) H := hP
      have hD : va_D A (w_M_span ad a_this a_units a_kinds a_values a_names a_low a_high a_told a_leftOut a_isMade a_hands a_pad a_court a_title a_out k_low k_high k_told t0 v_this_size v_this_families v_this_atHand v_this_family v_this_density v_this_pads v_this_hasThermal v_this_titleSize v_this_written v_this_at v_this_begin v_this_words v_this_paste0 (vp_updL v_low p1.toNatClampNeg p2) (vp_updL v_high p1.toNatClampNeg p4) v_told) := hD
      refine lv_aload_n hx hb dM_span_96 rfl (lv_at hl 0 rfl) ?_
      refine va_get (D := (dC, dI)) (ci := 10) (v := .ref a_told) (C := RM) (T := TM) (N := 28) hx hb hts inZ_M hown hK hP 0 rfl rfl 9 (by decide) (hts _ zw_1053) (fun _ h9 => h9) rfl dM_span_97 ?_
      refine lv_iload_n hx hb dM_span_100 rfl (lv_at hl 1 rfl) ?_
      refine lv_iconst (v := 1) hx hb dM_span_101 (by decide) ?_
      obtain ⟨hn5, h⟩ := h
      refine va_zast hx hb hK hP hD hS 3 2 rfl rfl hn5 dM_span_102 (fun H locs hP hD hS => ?_)
      have hP : va_P (dC, dI) vwCl (w_M_span ad a_this a_units a_kinds a_values a_names a_low a_high a_told a_leftOut a_isMade a_hands a_pad a_court a_title a_out k_low k_high k_told t0 v_this_size v_this_families v_this_atHand v_this_family v_this_density v_this_pads v_this_hasThermal v_this_titleSize v_this_written v_this_at v_this_begin v_this_words v_this_paste0 (vp_updL v_low p1.toNatClampNeg p2) (vp_updL v_high p1.toNatClampNeg p4) (upd v_told p1.toNatClampNeg (vp_nar .boolean 1))) H := hP
      have hD : va_D A (w_M_span ad a_this a_units a_kinds a_values a_names a_low a_high a_told a_leftOut a_isMade a_hands a_pad a_court a_title a_out k_low k_high k_told t0 v_this_size v_this_families v_this_atHand v_this_family v_this_density v_this_pads v_this_hasThermal v_this_titleSize v_this_written v_this_at v_this_begin v_this_words v_this_paste0 (vp_updL v_low p1.toNatClampNeg p2) (vp_updL v_high p1.toNatClampNeg p4) (upd v_told p1.toNatClampNeg (vp_nar .boolean 1))) := hD
      refine lv_iconst (v := 1) hx hb dM_span_103 (by decide) ?_
      exact W.zret (v := 1) hx hb hr rfl (fun t ht hW => ⟨⟨1, (t0, (vp_updL v_low p1.toNatClampNeg p2), (vp_updL v_high p1.toNatClampNeg p4), (upd v_told p1.toNatClampNeg (vp_nar .boolean 1))), rfl, h, by rw [ht]; exact hP, hD⟩, hS.F ht⟩) hS.2.2 dM_span_104
    · intro c2
      replace h := h.2 c2
      refine lv_iconst (v := 0) hx hb dM_span_79 (by decide) ?_
      exact W.zret (v := 0) hx hb hr rfl (fun t ht hW => ⟨⟨0, (t0, v_low, v_high, v_told), rfl, h, by rw [ht]; exact hP, hD⟩, hS.F ht⟩) hS.2.2 dM_span_80
def P_M_span_48 (p1 : Int32) (p2 : Int64) (p4 : Int64) (v_low : Nat → Int64) (v_high : Nat → Int64) (v_told : Nat → Int32) (post : Int32 → Int32 → (Nat → Int64) → (Nat → Int64) → (Nat → Int32) → Prop)  : Prop := P_M_span_62 p1 p2 p4 v_low v_high v_told post 1
set_option maxHeartbeats 4000000 in
set_option maxRecDepth 100000 in
theorem w_M_span_48 (l : Launch) {p : Program} {e : Env} {s : State} {m : MethodId} {args : Array Value} {below : List Frame} {meth : Method} {c : Code} {dC : Nat → ClassId} {dI : Nat → Nat → Nat} {ad : Nat → Nat → Nat} {A : Nat → Prop} (C0 : zC p s m args meth c cM_span 7 RM zT (some .boolean) A) (hE : zE ad A s) (a_this : Nat) (a_units : Nat) (a_kinds : Nat) (a_values : Nat) (a_names : Nat) (a_low : Nat) (a_high : Nat) (a_told : Nat) (a_leftOut : Nat) (a_isMade : Nat) (a_hands : Nat) (a_pad : Nat) (a_court : Nat) (a_title : Nat) (a_out : Nat) (k_low : ClassId) (k_high : ClassId) (k_told : ClassId) (p1 : Int32) (p2 : Int64) (p4 : Int64) (v_this_thrown : Int32) (v_this_size : Int32) (v_this_families : Int32) (v_this_atHand : Int32) (v_this_family : Int32) (v_this_density : Int32) (v_this_pads : Int32) (v_this_hasThermal : Int32) (v_this_titleSize : Int32) (v_this_written : Int32) (v_this_at : Int32) (v_this_begin : Int32) (v_this_words : Int32) (v_this_paste0 : Int64) (v_low : Nat → Int64) (v_high : Nat → Int64) (v_told : Nat → Int32) (post : Int32 → Int32 → (Nat → Int64) → (Nat → Int64) → (Nat → Int32) → Prop) (hK : va_K (dC, dI) vwCl [(k_low, .long), (k_high, .long), (k_told, .boolean)] s) : ∀  (H : Heap) (locs : List Loc), P_M_span_48 p1 p2 p4 v_low v_high v_told post → va_P (dC, dI) vwCl (w_M_span ad a_this a_units a_kinds a_values a_names a_low a_high a_told a_leftOut a_isMade a_hands a_pad a_court a_title a_out k_low k_high k_told v_this_thrown v_this_size v_this_families v_this_atHand v_this_family v_this_density v_this_pads v_this_hasThermal v_this_titleSize v_this_written v_this_at v_this_begin v_this_words v_this_paste0 v_low v_high v_told) H → va_D A (w_M_span ad a_this a_units a_kinds a_values a_names a_low a_high a_told a_leftOut a_isMade a_hands a_pad a_court a_title a_out k_low k_high k_told v_this_thrown v_this_size v_this_families v_this_atHand v_this_family v_this_density v_this_pads v_this_hasThermal v_this_titleSize v_this_written v_this_at v_this_begin v_this_words v_this_paste0 v_low v_high v_told) → va_S A s.heap H locs → ∀ ls : Array Slot, lv_has ls 7 [(0, .ref a_this), (1, .int p1), (2, .long p2), (4, .long p4)] → W p l e (headSpec wsM_span { frames := 0, cells := 0, slots := 0, locals := 0 }).room s m args below meth c H locs 0 0 (MQ below (va_Qi (fun (r : Int32) (u : Int32 × (Nat → Int64) × (Nat → Int64) × (Nat → Int32)) => post r u.1 u.2.1 u.2.2.1 u.2.2.2) (zB (dC, dI) A (fun (u : Int32 × (Nat → Int64) × (Nat → Int64) × (Nat → Int32)) => (w_M_span ad a_this a_units a_kinds a_values a_names a_low a_high a_told a_leftOut a_isMade a_hands a_pad a_court a_title a_out k_low k_high k_told u.1 v_this_size v_this_families v_this_atHand v_this_family v_this_density v_this_pads v_this_hasThermal v_this_titleSize v_this_written v_this_at v_this_begin v_this_words v_this_paste0 u.2.1 u.2.2.1 u.2.2.2))) A) args s 0 0 A) (F0 m 48 ls [.ref a_this]) := by
  obtain ⟨hx, hb, hr, hml, hown, hts, hlocks, hA⟩ := id C0
  intro  H locs h hP hD hS ls hl
  unfold P_M_span_48 at h
  refine lv_iconst (v := 1) hx hb dM_span_48 (by decide) ?_
  refine lv_goto (tgt := 62) hx hb dM_span_49 (by decide) ?_
  exact w_M_span_62 l C0 hE a_this a_units a_kinds a_values a_names a_low a_high a_told a_leftOut a_isMade a_hands a_pad a_court a_title a_out k_low k_high k_told p1 p2 p4 v_this_thrown v_this_size v_this_families v_this_atHand v_this_family v_this_density v_this_pads v_this_hasThermal v_this_titleSize v_this_written v_this_at v_this_begin v_this_words v_this_paste0 v_low v_high v_told post hK 1 _ _ h hP hD hS ls (lv_sub hl [0, 1, 2, 3] rfl)
def P_M_span_35 (p1 : Int32) (p2 : Int64) (p4 : Int64) (v_low : Nat → Int64) (v_high : Nat → Int64) (v_told : Nat → Int32) (post : Int32 → Int32 → (Nat → Int64) → (Nat → Int64) → (Nat → Int32) → Prop) (t0 : Int32) : Prop := ((p1 < 0 → P_M_span_48 p1 p2 p4 v_low v_high v_told post) ∧ (¬ p1 < 0 → ((p1 ≤ 11 → ((t0 = 0 → P_M_span_62 p1 p2 p4 v_low v_high v_told post 2) ∧ (¬ t0 = 0 → P_M_span_62 p1 p2 p4 v_low v_high v_told post 0))) ∧ (¬ p1 ≤ 11 → P_M_span_48 p1 p2 p4 v_low v_high v_told post))))
set_option maxHeartbeats 4000000 in
set_option maxRecDepth 100000 in
theorem w_M_span_35 (l : Launch) {p : Program} {e : Env} {s : State} {m : MethodId} {args : Array Value} {below : List Frame} {meth : Method} {c : Code} {dC : Nat → ClassId} {dI : Nat → Nat → Nat} {ad : Nat → Nat → Nat} {A : Nat → Prop} (C0 : zC p s m args meth c cM_span 7 RM zT (some .boolean) A) (hE : zE ad A s) (a_this : Nat) (a_units : Nat) (a_kinds : Nat) (a_values : Nat) (a_names : Nat) (a_low : Nat) (a_high : Nat) (a_told : Nat) (a_leftOut : Nat) (a_isMade : Nat) (a_hands : Nat) (a_pad : Nat) (a_court : Nat) (a_title : Nat) (a_out : Nat) (k_low : ClassId) (k_high : ClassId) (k_told : ClassId) (p1 : Int32) (p2 : Int64) (p4 : Int64) (v_this_thrown : Int32) (v_this_size : Int32) (v_this_families : Int32) (v_this_atHand : Int32) (v_this_family : Int32) (v_this_density : Int32) (v_this_pads : Int32) (v_this_hasThermal : Int32) (v_this_titleSize : Int32) (v_this_written : Int32) (v_this_at : Int32) (v_this_begin : Int32) (v_this_words : Int32) (v_this_paste0 : Int64) (v_low : Nat → Int64) (v_high : Nat → Int64) (v_told : Nat → Int32) (post : Int32 → Int32 → (Nat → Int64) → (Nat → Int64) → (Nat → Int32) → Prop) (hK : va_K (dC, dI) vwCl [(k_low, .long), (k_high, .long), (k_told, .boolean)] s) : ∀ (t0 : Int32) (H : Heap) (locs : List Loc), P_M_span_35 p1 p2 p4 v_low v_high v_told post t0 → va_P (dC, dI) vwCl (w_M_span ad a_this a_units a_kinds a_values a_names a_low a_high a_told a_leftOut a_isMade a_hands a_pad a_court a_title a_out k_low k_high k_told v_this_thrown v_this_size v_this_families v_this_atHand v_this_family v_this_density v_this_pads v_this_hasThermal v_this_titleSize v_this_written v_this_at v_this_begin v_this_words v_this_paste0 v_low v_high v_told) H → va_D A (w_M_span ad a_this a_units a_kinds a_values a_names a_low a_high a_told a_leftOut a_isMade a_hands a_pad a_court a_title a_out k_low k_high k_told v_this_thrown v_this_size v_this_families v_this_atHand v_this_family v_this_density v_this_pads v_this_hasThermal v_this_titleSize v_this_written v_this_at v_this_begin v_this_words v_this_paste0 v_low v_high v_told) → va_S A s.heap H locs → ∀ ls : Array Slot, lv_has ls 7 [(0, .ref a_this), (1, .int p1), (2, .long p2), (4, .long p4)] → W p l e (headSpec wsM_span { frames := 0, cells := 0, slots := 0, locals := 0 }).room s m args below meth c H locs 0 0 (MQ below (va_Qi (fun (r : Int32) (u : Int32 × (Nat → Int64) × (Nat → Int64) × (Nat → Int32)) => post r u.1 u.2.1 u.2.2.1 u.2.2.2) (zB (dC, dI) A (fun (u : Int32 × (Nat → Int64) × (Nat → Int64) × (Nat → Int32)) => (w_M_span ad a_this a_units a_kinds a_values a_names a_low a_high a_told a_leftOut a_isMade a_hands a_pad a_court a_title a_out k_low k_high k_told u.1 v_this_size v_this_families v_this_atHand v_this_family v_this_density v_this_pads v_this_hasThermal v_this_titleSize v_this_written v_this_at v_this_begin v_this_words v_this_paste0 u.2.1 u.2.2.1 u.2.2.2))) A) args s 0 0 A) (F0 m 35 ls [.int t0]) := by
  obtain ⟨hx, hb, hr, hml, hown, hts, hlocks, hA⟩ := id C0
  intro t0 H locs h hP hD hS ls hl
  unfold P_M_span_35 at h
  refine lv_istore (lv' := [(6, .int t0), (0, .ref a_this), (1, .int p1), (2, .long p2), (4, .long p4)]) hx hb dM_span_35 hl (by decide) rfl (fun ls hl => ?_)
  refine lv_aload_n hx hb dM_span_37 rfl (lv_at hl 1 rfl) ?_
  refine lv_iload_n hx hb dM_span_38 rfl (lv_at hl 2 rfl) ?_
  refine lv_if_lt (tgt := 48) hx hb dM_span_39 (by decide) ?_ ?_
  · intro c1
    replace h := h.1 c1
    exact w_M_span_48 l C0 hE a_this a_units a_kinds a_values a_names a_low a_high a_told a_leftOut a_isMade a_hands a_pad a_court a_title a_out k_low k_high k_told p1 p2 p4 v_this_thrown v_this_size v_this_families v_this_atHand v_this_family v_this_density v_this_pads v_this_hasThermal v_this_titleSize v_this_written v_this_at v_this_begin v_this_words v_this_paste0 v_low v_high v_told post hK _ _ h hP hD hS ls (lv_sub hl [1, 2, 3, 4] rfl)
  · intro c1
    replace h := h.2 c1
    refine lv_iload_n hx hb dM_span_42 rfl (lv_at hl 2 rfl) ?_
    refine lv_bipush (v := 11) hx hb dM_span_43 (by decide) ?_
    refine lv_icmp_le (tgt := 52) hx hb dM_span_45 (by decide) ?_ ?_
    · intro c2
      replace h := h.1 c2
      refine lv_iload hx hb dM_span_52 (lv_at hl 0 rfl) ?_
      refine lv_if_eq (tgt := 61) hx hb dM_span_54 (by decide) ?_ ?_
      · intro c3
        replace h := h.1 c3
        refine lv_iconst (v := 2) hx hb dM_span_61 (by decide) ?_
        exact w_M_span_62 l C0 hE a_this a_units a_kinds a_values a_names a_low a_high a_told a_leftOut a_isMade a_hands a_pad a_court a_title a_out k_low k_high k_told p1 p2 p4 v_this_thrown v_this_size v_this_families v_this_atHand v_this_family v_this_density v_this_pads v_this_hasThermal v_this_titleSize v_this_written v_this_at v_this_begin v_this_words v_this_paste0 v_low v_high v_told post hK 2 _ _ h hP hD hS ls (lv_sub hl [1, 2, 3, 4] rfl)
      · intro c3
        replace h := h.2 c3
        refine lv_iconst (v := 0) hx hb dM_span_57 (by decide) ?_
        refine lv_goto (tgt := 62) hx hb dM_span_58 (by decide) ?_
        exact w_M_span_62 l C0 hE a_this a_units a_kinds a_values a_names a_low a_high a_told a_leftOut a_isMade a_hands a_pad a_court a_title a_out k_low k_high k_told p1 p2 p4 v_this_thrown v_this_size v_this_families v_this_atHand v_this_family v_this_density v_this_pads v_this_hasThermal v_this_titleSize v_this_written v_this_at v_this_begin v_this_words v_this_paste0 v_low v_high v_told post hK 0 _ _ h hP hD hS ls (lv_sub hl [1, 2, 3, 4] rfl)
    · intro c2
      replace h := h.2 c2
      exact w_M_span_48 l C0 hE a_this a_units a_kinds a_values a_names a_low a_high a_told a_leftOut a_isMade a_hands a_pad a_court a_title a_out k_low k_high k_told p1 p2 p4 v_this_thrown v_this_size v_this_families v_this_atHand v_this_family v_this_density v_this_pads v_this_hasThermal v_this_titleSize v_this_written v_this_at v_this_begin v_this_words v_this_paste0 v_low v_high v_told post hK _ _ h hP hD hS ls (lv_sub hl [1, 2, 3, 4] rfl)
def P_M_span_34 (p1 : Int32) (p2 : Int64) (p4 : Int64) (v_low : Nat → Int64) (v_high : Nat → Int64) (v_told : Nat → Int32) (post : Int32 → Int32 → (Nat → Int64) → (Nat → Int64) → (Nat → Int32) → Prop)  : Prop := P_M_span_35 p1 p2 p4 v_low v_high v_told post 0
set_option maxHeartbeats 4000000 in
set_option maxRecDepth 100000 in
theorem w_M_span_34 (l : Launch) {p : Program} {e : Env} {s : State} {m : MethodId} {args : Array Value} {below : List Frame} {meth : Method} {c : Code} {dC : Nat → ClassId} {dI : Nat → Nat → Nat} {ad : Nat → Nat → Nat} {A : Nat → Prop} (C0 : zC p s m args meth c cM_span 7 RM zT (some .boolean) A) (hE : zE ad A s) (a_this : Nat) (a_units : Nat) (a_kinds : Nat) (a_values : Nat) (a_names : Nat) (a_low : Nat) (a_high : Nat) (a_told : Nat) (a_leftOut : Nat) (a_isMade : Nat) (a_hands : Nat) (a_pad : Nat) (a_court : Nat) (a_title : Nat) (a_out : Nat) (k_low : ClassId) (k_high : ClassId) (k_told : ClassId) (p1 : Int32) (p2 : Int64) (p4 : Int64) (v_this_thrown : Int32) (v_this_size : Int32) (v_this_families : Int32) (v_this_atHand : Int32) (v_this_family : Int32) (v_this_density : Int32) (v_this_pads : Int32) (v_this_hasThermal : Int32) (v_this_titleSize : Int32) (v_this_written : Int32) (v_this_at : Int32) (v_this_begin : Int32) (v_this_words : Int32) (v_this_paste0 : Int64) (v_low : Nat → Int64) (v_high : Nat → Int64) (v_told : Nat → Int32) (post : Int32 → Int32 → (Nat → Int64) → (Nat → Int64) → (Nat → Int32) → Prop) (hK : va_K (dC, dI) vwCl [(k_low, .long), (k_high, .long), (k_told, .boolean)] s) : ∀  (H : Heap) (locs : List Loc), P_M_span_34 p1 p2 p4 v_low v_high v_told post → va_P (dC, dI) vwCl (w_M_span ad a_this a_units a_kinds a_values a_names a_low a_high a_told a_leftOut a_isMade a_hands a_pad a_court a_title a_out k_low k_high k_told v_this_thrown v_this_size v_this_families v_this_atHand v_this_family v_this_density v_this_pads v_this_hasThermal v_this_titleSize v_this_written v_this_at v_this_begin v_this_words v_this_paste0 v_low v_high v_told) H → va_D A (w_M_span ad a_this a_units a_kinds a_values a_names a_low a_high a_told a_leftOut a_isMade a_hands a_pad a_court a_title a_out k_low k_high k_told v_this_thrown v_this_size v_this_families v_this_atHand v_this_family v_this_density v_this_pads v_this_hasThermal v_this_titleSize v_this_written v_this_at v_this_begin v_this_words v_this_paste0 v_low v_high v_told) → va_S A s.heap H locs → ∀ ls : Array Slot, lv_has ls 7 [(0, .ref a_this), (1, .int p1), (2, .long p2), (4, .long p4)] → W p l e (headSpec wsM_span { frames := 0, cells := 0, slots := 0, locals := 0 }).room s m args below meth c H locs 0 0 (MQ below (va_Qi (fun (r : Int32) (u : Int32 × (Nat → Int64) × (Nat → Int64) × (Nat → Int32)) => post r u.1 u.2.1 u.2.2.1 u.2.2.2) (zB (dC, dI) A (fun (u : Int32 × (Nat → Int64) × (Nat → Int64) × (Nat → Int32)) => (w_M_span ad a_this a_units a_kinds a_values a_names a_low a_high a_told a_leftOut a_isMade a_hands a_pad a_court a_title a_out k_low k_high k_told u.1 v_this_size v_this_families v_this_atHand v_this_family v_this_density v_this_pads v_this_hasThermal v_this_titleSize v_this_written v_this_at v_this_begin v_this_words v_this_paste0 u.2.1 u.2.2.1 u.2.2.2))) A) args s 0 0 A) (F0 m 34 ls []) := by
  obtain ⟨hx, hb, hr, hml, hown, hts, hlocks, hA⟩ := id C0
  intro  H locs h hP hD hS ls hl
  unfold P_M_span_34 at h
  refine lv_iconst (v := 0) hx hb dM_span_34 (by decide) ?_
  exact w_M_span_35 l C0 hE a_this a_units a_kinds a_values a_names a_low a_high a_told a_leftOut a_isMade a_hands a_pad a_court a_title a_out k_low k_high k_told p1 p2 p4 v_this_thrown v_this_size v_this_families v_this_atHand v_this_family v_this_density v_this_pads v_this_hasThermal v_this_titleSize v_this_written v_this_at v_this_begin v_this_words v_this_paste0 v_low v_high v_told post hK 0 _ _ h hP hD hS ls (lv_sub hl [0, 1, 2, 3] rfl)
def P_M_span (p1 : Int32) (p2 : Int64) (p4 : Int64) (v_low : Nat → Int64) (v_high : Nat → Int64) (v_told : Nat → Int32) (post : Int32 → Int32 → (Nat → Int64) → (Nat → Int64) → (Nat → Int32) → Prop) : Prop := ((p2 < 0 → P_M_span_34 p1 p2 p4 v_low v_high v_told post) ∧ (¬ p2 < 0 → ((100000000 < p2 → P_M_span_34 p1 p2 p4 v_low v_high v_told post) ∧ (¬ 100000000 < p2 → ((p4 < 0 → P_M_span_34 p1 p2 p4 v_low v_high v_told post) ∧ (¬ p4 < 0 → ((100000000 < p4 → P_M_span_34 p1 p2 p4 v_low v_high v_told post) ∧ (¬ 100000000 < p4 → P_M_span_35 p1 p2 p4 v_low v_high v_told post 1))))))))
set_option maxHeartbeats 4000000 in
set_option maxRecDepth 100000 in
theorem c_M_span (l : Launch) (dC : Nat → ClassId) (dI : Nat → Nat → Nat) (ad : Nat → Nat → Nat) (a_this : Nat) (a_units : Nat) (a_kinds : Nat) (a_values : Nat) (a_names : Nat) (a_low : Nat) (a_high : Nat) (a_told : Nat) (a_leftOut : Nat) (a_isMade : Nat) (a_hands : Nat) (a_pad : Nat) (a_court : Nat) (a_title : Nat) (a_out : Nat) (k_low : ClassId) (k_high : ClassId) (k_told : ClassId) (sz : Nat) (p1 : Int32) (p2 : Int64) (p4 : Int64) (v_this_thrown : Int32) (v_this_size : Int32) (v_this_families : Int32) (v_this_atHand : Int32) (v_this_family : Int32) (v_this_density : Int32) (v_this_pads : Int32) (v_this_hasThermal : Int32) (v_this_titleSize : Int32) (v_this_written : Int32) (v_this_at : Int32) (v_this_begin : Int32) (v_this_words : Int32) (v_this_paste0 : Int64) (v_low : Nat → Int64) (v_high : Nat → Int64) (v_told : Nat → Int32) (post : Int32 → Int32 → (Nat → Int64) → (Nat → Int64) → (Nat → Int32) → Prop) (h : P_M_span p1 p2 p4 v_low v_high v_told post) : zMi l yM_span wsM_span { frames := 0, cells := 0, slots := 0, locals := 0 } (dC, dI) ad [.ref a_this, .int p1, .long p2, .long p4] (w_M_span ad a_this a_units a_kinds a_values a_names a_low a_high a_told a_leftOut a_isMade a_hands a_pad a_court a_title a_out k_low k_high k_told v_this_thrown v_this_size v_this_families v_this_atHand v_this_family v_this_density v_this_pads v_this_hasThermal v_this_titleSize v_this_written v_this_at v_this_begin v_this_words v_this_paste0 v_low v_high v_told) [(k_low, .long), (k_high, .long), (k_told, .boolean)] sz (fun (r : Int32) (u : Int32 × (Nat → Int64) × (Nat → Int64) × (Nat → Int32)) => post r u.1 u.2.1 u.2.2.1 u.2.2.2) (fun (u : Int32 × (Nat → Int64) × (Nat → Int64) × (Nat → Int32)) => (w_M_span ad a_this a_units a_kinds a_values a_names a_low a_high a_told a_leftOut a_isMade a_hands a_pad a_court a_title a_out k_low k_high k_told u.1 v_this_size v_this_families v_this_atHand v_this_family v_this_density v_this_pads v_this_hasThermal v_this_titleSize v_this_written v_this_at v_this_begin v_this_words v_this_paste0 u.2.1 u.2.2.1 u.2.2.2)) 0 0 := by
  refine Met.ofW (cc := cM_span) (maxL := 7) (ret := (some .boolean)) (by decide +kernel) rfl ?_
  intro p e s m args below meth c s₁ B hml hv
  obtain ⟨rfl, hsz, hP, hK, hD0, hE⟩ := hv
  have hx := B.exec
  have hb := B.bytes
  have hr := B.returns
  have hts0 := atoms_spec (ws := wsM_span) B.pre
  have hts := fun w h => hts0 w (List.mem_cons_of_mem _ h)
  have hown : s.vm.findClass RM = some m.cls := findClass_of_methodNamed B.named
  have hlocks := B.notSynchronized
  subst hsz
  have hD := hD0.self (sz := s.heap.size)
  generalize hAe : va_A (w_M_span ad a_this a_units a_kinds a_values a_names a_low a_high a_told a_leftOut a_isMade a_hands a_pad a_court a_title a_out k_low k_high k_told v_this_thrown v_this_size v_this_families v_this_atHand v_this_family v_this_density v_this_pads v_this_hasThermal v_this_titleSize v_this_written v_this_at v_this_begin v_this_words v_this_paste0 v_low v_high v_told) s.heap.size = A at hD hE ⊢
  have hA : ∀ q : Nat, s.heap.size ≤ q → A q := fun q h => by rw [← hAe]; exact Or.inr h
  have C0 := zC.mk hx hb hr hml hown hts hlocks hA
  have hS : va_S A s.heap s.heap [] := va_S.rf
  have hl := lv_entry ([.ref a_this, .int p1, .long p2, .long p4]) (n := 7) (Nat.le_of_ble_eq_true rfl)
  rw [lg_entry_eq]
  generalize (lg_sl ([.ref a_this, .int p1, .long p2, .long p4]) ++ List.replicate (7 - (lg_sl ([.ref a_this, .int p1, .long p2, .long p4])).length) Slot.unset).toArray = ls at hl ⊢
  have hl : lv_has ls 7 [(0, .ref a_this), (1, .int p1), (2, .long p2), (4, .long p4)] := hl
  unfold P_M_span at h
  refine lv_lload_n hx hb dM_span_0 rfl (lv_at hl 2 rfl) ?_
  refine lv_lconst (v := 0) hx hb dM_span_1 (by decide) ?_
  refine zz_lcmp_lt (tgt := 34) hx hb dM_span_2 dM_span_3 (by decide) ?_ ?_
  · intro c1
    replace h := h.1 c1
    exact w_M_span_34 l C0 hE a_this a_units a_kinds a_values a_names a_low a_high a_told a_leftOut a_isMade a_hands a_pad a_court a_title a_out k_low k_high k_told p1 p2 p4 v_this_thrown v_this_size v_this_families v_this_atHand v_this_family v_this_density v_this_pads v_this_hasThermal v_this_titleSize v_this_written v_this_at v_this_begin v_this_words v_this_paste0 v_low v_high v_told post hK _ _ h hP hD hS ls (lv_sub hl [0, 1, 2, 3] rfl)
  · intro c1
    replace h := h.2 c1
    refine lv_lload_n hx hb dM_span_6 rfl (lv_at hl 2 rfl) ?_
    refine lv_ldc2 (own := RM) (index := 82) (v := 100000000) hx hb hown (hts _ zw_1172) dM_span_7 ?_
    refine zz_lcmp_gt (tgt := 34) hx hb dM_span_10 dM_span_11 (by decide) ?_ ?_
    · intro c2
      replace h := h.1 c2
      exact w_M_span_34 l C0 hE a_this a_units a_kinds a_values a_names a_low a_high a_told a_leftOut a_isMade a_hands a_pad a_court a_title a_out k_low k_high k_told p1 p2 p4 v_this_thrown v_this_size v_this_families v_this_atHand v_this_family v_this_density v_this_pads v_this_hasThermal v_this_titleSize v_this_written v_this_at v_this_begin v_this_words v_this_paste0 v_low v_high v_told post hK _ _ h hP hD hS ls (lv_sub hl [0, 1, 2, 3] rfl)
    · intro c2
      replace h := h.2 c2
      refine lv_lload hx hb dM_span_14 (lv_at hl 3 rfl) ?_
      refine lv_lconst (v := 0) hx hb dM_span_16 (by decide) ?_
      refine zz_lcmp_lt (tgt := 34) hx hb dM_span_17 dM_span_18 (by decide) ?_ ?_
      · intro c3
        replace h := h.1 c3
        exact w_M_span_34 l C0 hE a_this a_units a_kinds a_values a_names a_low a_high a_told a_leftOut a_isMade a_hands a_pad a_court a_title a_out k_low k_high k_told p1 p2 p4 v_this_thrown v_this_size v_this_families v_this_atHand v_this_family v_this_density v_this_pads v_this_hasThermal v_this_titleSize v_this_written v_this_at v_this_begin v_this_words v_this_paste0 v_low v_high v_told post hK _ _ h hP hD hS ls (lv_sub hl [0, 1, 2, 3] rfl)
      · intro c3
        replace h := h.2 c3
        refine lv_lload hx hb dM_span_21 (lv_at hl 3 rfl) ?_
        refine lv_ldc2 (own := RM) (index := 82) (v := 100000000) hx hb hown (hts _ zw_1172) dM_span_23 ?_
        refine zz_lcmp_gt (tgt := 34) hx hb dM_span_26 dM_span_27 (by decide) ?_ ?_
        · intro c4
          replace h := h.1 c4
          exact w_M_span_34 l C0 hE a_this a_units a_kinds a_values a_names a_low a_high a_told a_leftOut a_isMade a_hands a_pad a_court a_title a_out k_low k_high k_told p1 p2 p4 v_this_thrown v_this_size v_this_families v_this_atHand v_this_family v_this_density v_this_pads v_this_hasThermal v_this_titleSize v_this_written v_this_at v_this_begin v_this_words v_this_paste0 v_low v_high v_told post hK _ _ h hP hD hS ls (lv_sub hl [0, 1, 2, 3] rfl)
        · intro c4
          replace h := h.2 c4
          refine lv_iconst (v := 1) hx hb dM_span_30 (by decide) ?_
          refine lv_goto (tgt := 35) hx hb dM_span_31 (by decide) ?_
          exact w_M_span_35 l C0 hE a_this a_units a_kinds a_values a_names a_low a_high a_told a_leftOut a_isMade a_hands a_pad a_court a_title a_out k_low k_high k_told p1 p2 p4 v_this_thrown v_this_size v_this_families v_this_atHand v_this_family v_this_density v_this_pads v_this_hasThermal v_this_titleSize v_this_written v_this_at v_this_begin v_this_words v_this_paste0 v_low v_high v_told post hK 1 _ _ h hP hD hS ls (lv_sub hl [0, 1, 2, 3] rfl)
abbrev yM_leave : MethodName := ⟨"FootprintRulesModel", "leave", "(I)Z"⟩
abbrev cM_leave : ByteArray := prog_14_method_15_code
abbrev wsM_leave : List Cond := .code yM_leave cM_leave 2 (some .boolean) :: zT
set_option maxRecDepth 100000 in
theorem zc_M_leave : Cond.code yM_leave cM_leave 2 (some .boolean) ∈ zT := zm 1187 (by rfl) (by rfl)
theorem dM_leave_0 : decode cM_leave 0 = .ok (.aload_n 0, 1) := by decide +kernel
theorem dM_leave_1 : decode cM_leave 1 = .ok (.iload_n 1, 1) := by decide +kernel
theorem dM_leave_2 : decode cM_leave 2 = .ok (.iconst 1, 1) := by decide +kernel
theorem dM_leave_3 : decode cM_leave 3 = .ok (.if_icmp .lt 9, 3) := by decide +kernel
theorem dM_leave_6 : decode cM_leave 6 = .ok (.iload_n 1, 1) := by decide +kernel
theorem dM_leave_7 : decode cM_leave 7 = .ok (.bipush 64, 2) := by decide +kernel
theorem dM_leave_9 : decode cM_leave 9 = .ok (.if_icmp .le 7, 3) := by decide +kernel
theorem dM_leave_12 : decode cM_leave 12 = .ok (.iconst 1, 1) := by decide +kernel
theorem dM_leave_13 : decode cM_leave 13 = .ok (.goto 4, 3) := by decide +kernel
theorem dM_leave_16 : decode cM_leave 16 = .ok (.iconst 0, 1) := by decide +kernel
theorem dM_leave_17 : decode cM_leave 17 = .ok (.putfield 54, 3) := by decide +kernel
theorem dM_leave_20 : decode cM_leave 20 = .ok (.aload_n 0, 1) := by decide +kernel
theorem dM_leave_21 : decode cM_leave 21 = .ok (.getfield 54, 3) := by decide +kernel
theorem dM_leave_24 : decode cM_leave 24 = .ok (.ifCond .eq 5, 3) := by decide +kernel
theorem dM_leave_27 : decode cM_leave 27 = .ok (.iconst 0, 1) := by decide +kernel
theorem dM_leave_28 : decode cM_leave 28 = .ok (.ireturn, 1) := by decide +kernel
theorem dM_leave_29 : decode cM_leave 29 = .ok (.aload_n 0, 1) := by decide +kernel
theorem dM_leave_30 : decode cM_leave 30 = .ok (.getfield 33, 3) := by decide +kernel
theorem dM_leave_33 : decode cM_leave 33 = .ok (.iload_n 1, 1) := by decide +kernel
theorem dM_leave_34 : decode cM_leave 34 = .ok (.aload_n 0, 1) := by decide +kernel
theorem dM_leave_35 : decode cM_leave 35 = .ok (.getfield 33, 3) := by decide +kernel
theorem dM_leave_38 : decode cM_leave 38 = .ok (.iload_n 1, 1) := by decide +kernel
theorem dM_leave_39 : decode cM_leave 39 = .ok (.baload, 1) := by decide +kernel
theorem dM_leave_40 : decode cM_leave 40 = .ok (.ifCond .ne 7, 3) := by decide +kernel
theorem dM_leave_43 : decode cM_leave 43 = .ok (.iconst 1, 1) := by decide +kernel
theorem dM_leave_44 : decode cM_leave 44 = .ok (.goto 4, 3) := by decide +kernel
theorem dM_leave_47 : decode cM_leave 47 = .ok (.iconst 0, 1) := by decide +kernel
theorem dM_leave_48 : decode cM_leave 48 = .ok (.bastore, 1) := by decide +kernel
theorem dM_leave_49 : decode cM_leave 49 = .ok (.aload_n 0, 1) := by decide +kernel
theorem dM_leave_50 : decode cM_leave 50 = .ok (.getfield 33, 3) := by decide +kernel
theorem dM_leave_53 : decode cM_leave 53 = .ok (.iload_n 1, 1) := by decide +kernel
theorem dM_leave_54 : decode cM_leave 54 = .ok (.baload, 1) := by decide +kernel
theorem dM_leave_55 : decode cM_leave 55 = .ok (.ireturn, 1) := by decide +kernel
-- FootprintRulesModel.leave(I)Z
abbrev w_M_leave (ad : Nat → Nat → Nat) (a_this : Nat) (a_units : Nat) (a_kinds : Nat) (a_values : Nat) (a_names : Nat) (a_low : Nat) (a_high : Nat) (a_told : Nat) (a_leftOut : Nat) (a_isMade : Nat) (a_hands : Nat) (a_pad : Nat) (a_court : Nat) (a_title : Nat) (a_out : Nat) (k_leftOut : ClassId) (v_this_thrown : Int32) (v_this_size : Int32) (v_this_families : Int32) (v_this_atHand : Int32) (v_this_family : Int32) (v_this_density : Int32) (v_this_pads : Int32) (v_this_hasThermal : Int32) (v_this_titleSize : Int32) (v_this_written : Int32) (v_this_at : Int32) (v_this_begin : Int32) (v_this_words : Int32) (v_this_paste0 : Int64) (v_leftOut : Nat → Int32) : va_W := [(a_this, .inr (10, [.int v_this_thrown, .ref a_units, .int v_this_size, .int v_this_families, .ref a_kinds, .ref a_values, .ref a_names, .ref a_low, .ref a_high, .ref a_told, .ref a_leftOut, .ref a_isMade, .ref a_hands, .int v_this_atHand, .int v_this_family, .int v_this_density, .int v_this_pads, .ref a_pad, .ref a_court, .int v_this_hasThermal, .ref a_title, .int v_this_titleSize, .ref a_out, .int v_this_written, .int v_this_at, .int v_this_begin, .int v_this_words, .long v_this_paste0])), (a_leftOut, .inl (k_leftOut, 65, .inl v_leftOut))]
def P_M_leave_48 (p1 : Int32) (v_leftOut : Nat → Int32) (post : Int32 → Int32 → (Nat → Int32) → Prop) (t0 : Int32) (t1 : Int32) (u_this_thrown : Int32) : Prop := vp_in t1 65 ∧ vp_in p1 65 ∧ narrow .boolean (.int ((upd v_leftOut t1.toNatClampNeg (vp_nar .boolean t0)) p1.toNatClampNeg)) = .int ((upd v_leftOut t1.toNatClampNeg (vp_nar .boolean t0)) p1.toNatClampNeg) ∧ post ((upd v_leftOut t1.toNatClampNeg (vp_nar .boolean t0)) p1.toNatClampNeg) u_this_thrown (upd v_leftOut t1.toNatClampNeg (vp_nar .boolean t0))
set_option maxHeartbeats 4000000 in
set_option maxRecDepth 100000 in
theorem w_M_leave_48 (l : Launch) {p : Program} {e : Env} {s : State} {m : MethodId} {args : Array Value} {below : List Frame} {meth : Method} {c : Code} {dC : Nat → ClassId} {dI : Nat → Nat → Nat} {ad : Nat → Nat → Nat} {A : Nat → Prop} (C0 : zC p s m args meth c cM_leave 2 RM zT (some .boolean) A) (hE : zE ad A s) (a_this : Nat) (a_units : Nat) (a_kinds : Nat) (a_values : Nat) (a_names : Nat) (a_low : Nat) (a_high : Nat) (a_told : Nat) (a_leftOut : Nat) (a_isMade : Nat) (a_hands : Nat) (a_pad : Nat) (a_court : Nat) (a_title : Nat) (a_out : Nat) (k_leftOut : ClassId) (p1 : Int32) (v_this_thrown : Int32) (v_this_size : Int32) (v_this_families : Int32) (v_this_atHand : Int32) (v_this_family : Int32) (v_this_density : Int32) (v_this_pads : Int32) (v_this_hasThermal : Int32) (v_this_titleSize : Int32) (v_this_written : Int32) (v_this_at : Int32) (v_this_begin : Int32) (v_this_words : Int32) (v_this_paste0 : Int64) (v_leftOut : Nat → Int32) (post : Int32 → Int32 → (Nat → Int32) → Prop) (hK : va_K (dC, dI) vwCl [(k_leftOut, .boolean)] s) : ∀ (t0 : Int32) (t1 : Int32) (u_this_thrown : Int32) (H : Heap) (locs : List Loc), P_M_leave_48 p1 v_leftOut post t0 t1 u_this_thrown → va_P (dC, dI) vwCl (w_M_leave ad a_this a_units a_kinds a_values a_names a_low a_high a_told a_leftOut a_isMade a_hands a_pad a_court a_title a_out k_leftOut u_this_thrown v_this_size v_this_families v_this_atHand v_this_family v_this_density v_this_pads v_this_hasThermal v_this_titleSize v_this_written v_this_at v_this_begin v_this_words v_this_paste0 v_leftOut) H → va_D A (w_M_leave ad a_this a_units a_kinds a_values a_names a_low a_high a_told a_leftOut a_isMade a_hands a_pad a_court a_title a_out k_leftOut u_this_thrown v_this_size v_this_families v_this_atHand v_this_family v_this_density v_this_pads v_this_hasThermal v_this_titleSize v_this_written v_this_at v_this_begin v_this_words v_this_paste0 v_leftOut) → va_S A s.heap H locs → ∀ ls : Array Slot, lv_has ls 2 [(0, .ref a_this), (1, .int p1)] → W p l e (headSpec wsM_leave { frames := 0, cells := 0, slots := 0, locals := 0 }).room s m args below meth c H locs 0 0 (MQ below (va_Qi (fun (r : Int32) (u : Int32 × (Nat → Int32)) => post r u.1 u.2) (zB (dC, dI) A (fun (u : Int32 × (Nat → Int32)) => (w_M_leave ad a_this a_units a_kinds a_values a_names a_low a_high a_told a_leftOut a_isMade a_hands a_pad a_court a_title a_out k_leftOut u.1 v_this_size v_this_families v_this_atHand v_this_family v_this_density v_this_pads v_this_hasThermal v_this_titleSize v_this_written v_this_at v_this_begin v_this_words v_this_paste0 u.2))) A) args s 0 0 A) (F0 m 48 ls [.int t0, .int t1, .ref a_leftOut]) := by
  obtain ⟨hx, hb, hr, hml, hown, hts, hlocks, hA⟩ := id C0
  intro t0 t1 u_this_thrown H locs h hP hD hS ls hl
  unfold P_M_leave_48 at h
  obtain ⟨hn1, h⟩ := h
  refine va_zast hx hb hK hP hD hS 1 0 rfl rfl hn1 dM_leave_48 (fun H locs hP hD hS => ?_)
  have hP : va_P (dC, dI) vwCl (w_M_leave ad a_this a_units a_kinds a_values a_names a_low a_high a_told a_leftOut a_isMade a_hands a_pad a_court a_title a_out k_leftOut u_this_thrown v_this_size v_this_families v_this_atHand v_this_family v_this_density v_this_pads v_this_hasThermal v_this_titleSize v_this_written v_this_at v_this_begin v_this_words v_this_paste0 (upd v_leftOut t1.toNatClampNeg (vp_nar .boolean t0))) H := hP
  have hD : va_D A (w_M_leave ad a_this a_units a_kinds a_values a_names a_low a_high a_told a_leftOut a_isMade a_hands a_pad a_court a_title a_out k_leftOut u_this_thrown v_this_size v_this_families v_this_atHand v_this_family v_this_density v_this_pads v_this_hasThermal v_this_titleSize v_this_written v_this_at v_this_begin v_this_words v_this_paste0 (upd v_leftOut t1.toNatClampNeg (vp_nar .boolean t0))) := hD
  refine lv_aload_n hx hb dM_leave_49 rfl (lv_at hl 0 rfl) ?_
  refine va_get (D := (dC, dI)) (ci := 10) (v := .ref a_leftOut) (C := RM) (T := TM) (N := 28) hx hb hts inZ_M hown hK hP 0 rfl rfl 10 (by decide) (hts _ zw_1054) (fun _ h9 => h9) rfl dM_leave_50 ?_
  refine lv_iload_n hx hb dM_leave_53 rfl (lv_at hl 1 rfl) ?_
  obtain ⟨hn2, h⟩ := h
  refine va_zald hx hb hK hP 1 0 rfl rfl hn2 dM_leave_54 ?_
  obtain ⟨hn3, h⟩ := h
  exact W.zret (v := ((upd v_leftOut t1.toNatClampNeg (vp_nar .boolean t0)) p1.toNatClampNeg)) hx hb hr hn3 (fun t ht hW => ⟨⟨((upd v_leftOut t1.toNatClampNeg (vp_nar .boolean t0)) p1.toNatClampNeg), (u_this_thrown, (upd v_leftOut t1.toNatClampNeg (vp_nar .boolean t0))), rfl, h, by rw [ht]; exact hP, hD⟩, hS.F ht⟩) hS.2.2 dM_leave_55
def P_M_leave_17 (p1 : Int32) (v_leftOut : Nat → Int32) (post : Int32 → Int32 → (Nat → Int32) → Prop) (t0 : Int32) : Prop := ((t0 = 0 → vp_in p1 65 ∧ ((¬ (v_leftOut p1.toNatClampNeg) = 0 → P_M_leave_48 p1 v_leftOut post 0 p1 t0) ∧ ((v_leftOut p1.toNatClampNeg) = 0 → P_M_leave_48 p1 v_leftOut post 1 p1 t0))) ∧ (¬ t0 = 0 → post 0 t0 v_leftOut))
set_option maxHeartbeats 4000000 in
set_option maxRecDepth 100000 in
theorem w_M_leave_17 (l : Launch) {p : Program} {e : Env} {s : State} {m : MethodId} {args : Array Value} {below : List Frame} {meth : Method} {c : Code} {dC : Nat → ClassId} {dI : Nat → Nat → Nat} {ad : Nat → Nat → Nat} {A : Nat → Prop} (C0 : zC p s m args meth c cM_leave 2 RM zT (some .boolean) A) (hE : zE ad A s) (a_this : Nat) (a_units : Nat) (a_kinds : Nat) (a_values : Nat) (a_names : Nat) (a_low : Nat) (a_high : Nat) (a_told : Nat) (a_leftOut : Nat) (a_isMade : Nat) (a_hands : Nat) (a_pad : Nat) (a_court : Nat) (a_title : Nat) (a_out : Nat) (k_leftOut : ClassId) (p1 : Int32) (v_this_thrown : Int32) (v_this_size : Int32) (v_this_families : Int32) (v_this_atHand : Int32) (v_this_family : Int32) (v_this_density : Int32) (v_this_pads : Int32) (v_this_hasThermal : Int32) (v_this_titleSize : Int32) (v_this_written : Int32) (v_this_at : Int32) (v_this_begin : Int32) (v_this_words : Int32) (v_this_paste0 : Int64) (v_leftOut : Nat → Int32) (post : Int32 → Int32 → (Nat → Int32) → Prop) (hK : va_K (dC, dI) vwCl [(k_leftOut, .boolean)] s) : ∀ (t0 : Int32) (H : Heap) (locs : List Loc), P_M_leave_17 p1 v_leftOut post t0 → va_P (dC, dI) vwCl (w_M_leave ad a_this a_units a_kinds a_values a_names a_low a_high a_told a_leftOut a_isMade a_hands a_pad a_court a_title a_out k_leftOut v_this_thrown v_this_size v_this_families v_this_atHand v_this_family v_this_density v_this_pads v_this_hasThermal v_this_titleSize v_this_written v_this_at v_this_begin v_this_words v_this_paste0 v_leftOut) H → va_D A (w_M_leave ad a_this a_units a_kinds a_values a_names a_low a_high a_told a_leftOut a_isMade a_hands a_pad a_court a_title a_out k_leftOut v_this_thrown v_this_size v_this_families v_this_atHand v_this_family v_this_density v_this_pads v_this_hasThermal v_this_titleSize v_this_written v_this_at v_this_begin v_this_words v_this_paste0 v_leftOut) → va_S A s.heap H locs → ∀ ls : Array Slot, lv_has ls 2 [(0, .ref a_this), (1, .int p1)] → W p l e (headSpec wsM_leave { frames := 0, cells := 0, slots := 0, locals := 0 }).room s m args below meth c H locs 0 0 (MQ below (va_Qi (fun (r : Int32) (u : Int32 × (Nat → Int32)) => post r u.1 u.2) (zB (dC, dI) A (fun (u : Int32 × (Nat → Int32)) => (w_M_leave ad a_this a_units a_kinds a_values a_names a_low a_high a_told a_leftOut a_isMade a_hands a_pad a_court a_title a_out k_leftOut u.1 v_this_size v_this_families v_this_atHand v_this_family v_this_density v_this_pads v_this_hasThermal v_this_titleSize v_this_written v_this_at v_this_begin v_this_words v_this_paste0 u.2))) A) args s 0 0 A) (F0 m 17 ls [.int t0, .ref a_this]) := by
  obtain ⟨hx, hb, hr, hml, hown, hts, hlocks, hA⟩ := id C0
  intro t0 H locs h hP hD hS ls hl
  unfold P_M_leave_17 at h
  refine va_put (D := (dC, dI)) (ci := 10) (v := .int t0) (ty := .int) (C := RM) (T := TM) (N := 28) hx hb hts inZ_M tyM tyM_ok nmM hown hK hP hD hS 0 rfl rfl 0 (by decide) (hts _ zw_1044) (fun _ h9 => h9) rfl (by decide +kernel) rfl rfl (Nat.le_of_ble_eq_true rfl) dM_leave_17 (fun H locs hP hD hS => ?_)
  have hP : va_P (dC, dI) vwCl (w_M_leave ad a_this a_units a_kinds a_values a_names a_low a_high a_told a_leftOut a_isMade a_hands a_pad a_court a_title a_out k_leftOut t0 v_this_size v_this_families v_this_atHand v_this_family v_this_density v_this_pads v_this_hasThermal v_this_titleSize v_this_written v_this_at v_this_begin v_this_words v_this_paste0 v_leftOut) H := hP
  have hD : va_D A (w_M_leave ad a_this a_units a_kinds a_values a_names a_low a_high a_told a_leftOut a_isMade a_hands a_pad a_court a_title a_out k_leftOut t0 v_this_size v_this_families v_this_atHand v_this_family v_this_density v_this_pads v_this_hasThermal v_this_titleSize v_this_written v_this_at v_this_begin v_this_words v_this_paste0 v_leftOut) := hD
  refine lv_aload_n hx hb dM_leave_20 rfl (lv_at hl 0 rfl) ?_
  refine va_get (D := (dC, dI)) (ci := 10) (v := .int t0) (C := RM) (T := TM) (N := 28) hx hb hts inZ_M hown hK hP 0 rfl rfl 0 (by decide) (hts _ zw_1044) (fun _ h9 => h9) rfl dM_leave_21 ?_
  refine lv_if_eq (tgt := 29) hx hb dM_leave_24 (by decide) ?_ ?_
  · intro c1
    replace h := h.1 c1
    refine lv_aload_n hx hb dM_leave_29 rfl (lv_at hl 0 rfl) ?_
    refine va_get (D := (dC, dI)) (ci := 10) (v := .ref a_leftOut) (C := RM) (T := TM) (N := 28) hx hb hts inZ_M hown hK hP 0 rfl rfl 10 (by decide) (hts _ zw_1054) (fun _ h9 => h9) rfl dM_leave_30 ?_
    refine lv_iload_n hx hb dM_leave_33 rfl (lv_at hl 1 rfl) ?_
    refine lv_aload_n hx hb dM_leave_34 rfl (lv_at hl 0 rfl) ?_
    refine va_get (D := (dC, dI)) (ci := 10) (v := .ref a_leftOut) (C := RM) (T := TM) (N := 28) hx hb hts inZ_M hown hK hP 0 rfl rfl 10 (by decide) (hts _ zw_1054) (fun _ h9 => h9) rfl dM_leave_35 ?_
    refine lv_iload_n hx hb dM_leave_38 rfl (lv_at hl 1 rfl) ?_
    obtain ⟨hn2, h⟩ := h
    refine va_zald hx hb hK hP 1 0 rfl rfl hn2 dM_leave_39 ?_
    refine lv_if_ne (tgt := 47) hx hb dM_leave_40 (by decide) ?_ ?_
    · intro c3
      replace h := h.1 c3
      refine lv_iconst (v := 0) hx hb dM_leave_47 (by decide) ?_
      exact w_M_leave_48 l C0 hE a_this a_units a_kinds a_values a_names a_low a_high a_told a_leftOut a_isMade a_hands a_pad a_court a_title a_out k_leftOut p1 v_this_thrown v_this_size v_this_families v_this_atHand v_this_family v_this_density v_this_pads v_this_hasThermal v_this_titleSize v_this_written v_this_at v_this_begin v_this_words v_this_paste0 v_leftOut post hK 0 p1 t0 _ _ h hP hD hS ls (lv_sub hl [0, 1] rfl)
    · intro c3
      replace h := h.2 c3
      refine lv_iconst (v := 1) hx hb dM_leave_43 (by decide) ?_
      refine lv_goto (tgt := 48) hx hb dM_leave_44 (by decide) ?_
      exact w_M_leave_48 l C0 hE a_this a_units a_kinds a_values a_names a_low a_high a_told a_leftOut a_isMade a_hands a_pad a_court a_title a_out k_leftOut p1 v_this_thrown v_this_size v_this_families v_this_atHand v_this_family v_this_density v_this_pads v_this_hasThermal v_this_titleSize v_this_written v_this_at v_this_begin v_this_words v_this_paste0 v_leftOut post hK 1 p1 t0 _ _ h hP hD hS ls (lv_sub hl [0, 1] rfl)
  · intro c1
    replace h := h.2 c1
    refine lv_iconst (v := 0) hx hb dM_leave_27 (by decide) ?_
    exact W.zret (v := 0) hx hb hr rfl (fun t ht hW => ⟨⟨0, (t0, v_leftOut), rfl, h, by rw [ht]; exact hP, hD⟩, hS.F ht⟩) hS.2.2 dM_leave_28
def P_M_leave_12 (p1 : Int32) (v_leftOut : Nat → Int32) (post : Int32 → Int32 → (Nat → Int32) → Prop)  : Prop := P_M_leave_17 p1 v_leftOut post 1
set_option maxHeartbeats 4000000 in
set_option maxRecDepth 100000 in
theorem w_M_leave_12 (l : Launch) {p : Program} {e : Env} {s : State} {m : MethodId} {args : Array Value} {below : List Frame} {meth : Method} {c : Code} {dC : Nat → ClassId} {dI : Nat → Nat → Nat} {ad : Nat → Nat → Nat} {A : Nat → Prop} (C0 : zC p s m args meth c cM_leave 2 RM zT (some .boolean) A) (hE : zE ad A s) (a_this : Nat) (a_units : Nat) (a_kinds : Nat) (a_values : Nat) (a_names : Nat) (a_low : Nat) (a_high : Nat) (a_told : Nat) (a_leftOut : Nat) (a_isMade : Nat) (a_hands : Nat) (a_pad : Nat) (a_court : Nat) (a_title : Nat) (a_out : Nat) (k_leftOut : ClassId) (p1 : Int32) (v_this_thrown : Int32) (v_this_size : Int32) (v_this_families : Int32) (v_this_atHand : Int32) (v_this_family : Int32) (v_this_density : Int32) (v_this_pads : Int32) (v_this_hasThermal : Int32) (v_this_titleSize : Int32) (v_this_written : Int32) (v_this_at : Int32) (v_this_begin : Int32) (v_this_words : Int32) (v_this_paste0 : Int64) (v_leftOut : Nat → Int32) (post : Int32 → Int32 → (Nat → Int32) → Prop) (hK : va_K (dC, dI) vwCl [(k_leftOut, .boolean)] s) : ∀  (H : Heap) (locs : List Loc), P_M_leave_12 p1 v_leftOut post → va_P (dC, dI) vwCl (w_M_leave ad a_this a_units a_kinds a_values a_names a_low a_high a_told a_leftOut a_isMade a_hands a_pad a_court a_title a_out k_leftOut v_this_thrown v_this_size v_this_families v_this_atHand v_this_family v_this_density v_this_pads v_this_hasThermal v_this_titleSize v_this_written v_this_at v_this_begin v_this_words v_this_paste0 v_leftOut) H → va_D A (w_M_leave ad a_this a_units a_kinds a_values a_names a_low a_high a_told a_leftOut a_isMade a_hands a_pad a_court a_title a_out k_leftOut v_this_thrown v_this_size v_this_families v_this_atHand v_this_family v_this_density v_this_pads v_this_hasThermal v_this_titleSize v_this_written v_this_at v_this_begin v_this_words v_this_paste0 v_leftOut) → va_S A s.heap H locs → ∀ ls : Array Slot, lv_has ls 2 [(0, .ref a_this), (1, .int p1)] → W p l e (headSpec wsM_leave { frames := 0, cells := 0, slots := 0, locals := 0 }).room s m args below meth c H locs 0 0 (MQ below (va_Qi (fun (r : Int32) (u : Int32 × (Nat → Int32)) => post r u.1 u.2) (zB (dC, dI) A (fun (u : Int32 × (Nat → Int32)) => (w_M_leave ad a_this a_units a_kinds a_values a_names a_low a_high a_told a_leftOut a_isMade a_hands a_pad a_court a_title a_out k_leftOut u.1 v_this_size v_this_families v_this_atHand v_this_family v_this_density v_this_pads v_this_hasThermal v_this_titleSize v_this_written v_this_at v_this_begin v_this_words v_this_paste0 u.2))) A) args s 0 0 A) (F0 m 12 ls [.ref a_this]) := by
  obtain ⟨hx, hb, hr, hml, hown, hts, hlocks, hA⟩ := id C0
  intro  H locs h hP hD hS ls hl
  unfold P_M_leave_12 at h
  refine lv_iconst (v := 1) hx hb dM_leave_12 (by decide) ?_
  refine lv_goto (tgt := 17) hx hb dM_leave_13 (by decide) ?_
  exact w_M_leave_17 l C0 hE a_this a_units a_kinds a_values a_names a_low a_high a_told a_leftOut a_isMade a_hands a_pad a_court a_title a_out k_leftOut p1 v_this_thrown v_this_size v_this_families v_this_atHand v_this_family v_this_density v_this_pads v_this_hasThermal v_this_titleSize v_this_written v_this_at v_this_begin v_this_words v_this_paste0 v_leftOut post hK 1 _ _ h hP hD hS ls (lv_sub hl [0, 1] rfl)
def P_M_leave (p1 : Int32) (v_leftOut : Nat → Int32) (post : Int32 → Int32 → (Nat → Int32) → Prop) : Prop := ((p1 < 1 → P_M_leave_12 p1 v_leftOut post) ∧ (¬ p1 < 1 → ((p1 ≤ 64 → P_M_leave_17 p1 v_leftOut post 0) ∧ (¬ p1 ≤ 64 → P_M_leave_12 p1 v_leftOut post))))
set_option maxHeartbeats 4000000 in
set_option maxRecDepth 100000 in
theorem c_M_leave (l : Launch) (dC : Nat → ClassId) (dI : Nat → Nat → Nat) (ad : Nat → Nat → Nat) (a_this : Nat) (a_units : Nat) (a_kinds : Nat) (a_values : Nat) (a_names : Nat) (a_low : Nat) (a_high : Nat) (a_told : Nat) (a_leftOut : Nat) (a_isMade : Nat) (a_hands : Nat) (a_pad : Nat) (a_court : Nat) (a_title : Nat) (a_out : Nat) (k_leftOut : ClassId) (sz : Nat) (p1 : Int32) (v_this_thrown : Int32) (v_this_size : Int32) (v_this_families : Int32) (v_this_atHand : Int32) (v_this_family : Int32) (v_this_density : Int32) (v_this_pads : Int32) (v_this_hasThermal : Int32) (v_this_titleSize : Int32) (v_this_written : Int32) (v_this_at : Int32) (v_this_begin : Int32) (v_this_words : Int32) (v_this_paste0 : Int64) (v_leftOut : Nat → Int32) (post : Int32 → Int32 → (Nat → Int32) → Prop) (h : P_M_leave p1 v_leftOut post) : zMi l yM_leave wsM_leave { frames := 0, cells := 0, slots := 0, locals := 0 } (dC, dI) ad [.ref a_this, .int p1] (w_M_leave ad a_this a_units a_kinds a_values a_names a_low a_high a_told a_leftOut a_isMade a_hands a_pad a_court a_title a_out k_leftOut v_this_thrown v_this_size v_this_families v_this_atHand v_this_family v_this_density v_this_pads v_this_hasThermal v_this_titleSize v_this_written v_this_at v_this_begin v_this_words v_this_paste0 v_leftOut) [(k_leftOut, .boolean)] sz (fun (r : Int32) (u : Int32 × (Nat → Int32)) => post r u.1 u.2) (fun (u : Int32 × (Nat → Int32)) => (w_M_leave ad a_this a_units a_kinds a_values a_names a_low a_high a_told a_leftOut a_isMade a_hands a_pad a_court a_title a_out k_leftOut u.1 v_this_size v_this_families v_this_atHand v_this_family v_this_density v_this_pads v_this_hasThermal v_this_titleSize v_this_written v_this_at v_this_begin v_this_words v_this_paste0 u.2)) 0 0 := by
  refine Met.ofW (cc := cM_leave) (maxL := 2) (ret := (some .boolean)) (by decide +kernel) rfl ?_
  intro p e s m args below meth c s₁ B hml hv
  obtain ⟨rfl, hsz, hP, hK, hD0, hE⟩ := hv
  have hx := B.exec
  have hb := B.bytes
  have hr := B.returns
  have hts0 := atoms_spec (ws := wsM_leave) B.pre
  have hts := fun w h => hts0 w (List.mem_cons_of_mem _ h)
  have hown : s.vm.findClass RM = some m.cls := findClass_of_methodNamed B.named
  have hlocks := B.notSynchronized
  subst hsz
  have hD := hD0.self (sz := s.heap.size)
  generalize hAe : va_A (w_M_leave ad a_this a_units a_kinds a_values a_names a_low a_high a_told a_leftOut a_isMade a_hands a_pad a_court a_title a_out k_leftOut v_this_thrown v_this_size v_this_families v_this_atHand v_this_family v_this_density v_this_pads v_this_hasThermal v_this_titleSize v_this_written v_this_at v_this_begin v_this_words v_this_paste0 v_leftOut) s.heap.size = A at hD hE ⊢
  have hA : ∀ q : Nat, s.heap.size ≤ q → A q := fun q h => by rw [← hAe]; exact Or.inr h
  have C0 := zC.mk hx hb hr hml hown hts hlocks hA
  have hS : va_S A s.heap s.heap [] := va_S.rf
  have hl := lv_entry ([.ref a_this, .int p1]) (n := 2) (Nat.le_of_ble_eq_true rfl)
  rw [lg_entry_eq]
  generalize (lg_sl ([.ref a_this, .int p1]) ++ List.replicate (2 - (lg_sl ([.ref a_this, .int p1])).length) Slot.unset).toArray = ls at hl ⊢
  have hl : lv_has ls 2 [(0, .ref a_this), (1, .int p1)] := hl
  unfold P_M_leave at h
  refine lv_aload_n hx hb dM_leave_0 rfl (lv_at hl 0 rfl) ?_
  refine lv_iload_n hx hb dM_leave_1 rfl (lv_at hl 1 rfl) ?_
  refine lv_iconst (v := 1) hx hb dM_leave_2 (by decide) ?_
  refine lv_icmp_lt (tgt := 12) hx hb dM_leave_3 (by decide) ?_ ?_
  · intro c1
    replace h := h.1 c1
    exact w_M_leave_12 l C0 hE a_this a_units a_kinds a_values a_names a_low a_high a_told a_leftOut a_isMade a_hands a_pad a_court a_title a_out k_leftOut p1 v_this_thrown v_this_size v_this_families v_this_atHand v_this_family v_this_density v_this_pads v_this_hasThermal v_this_titleSize v_this_written v_this_at v_this_begin v_this_words v_this_paste0 v_leftOut post hK _ _ h hP hD hS ls (lv_sub hl [0, 1] rfl)
  · intro c1
    replace h := h.2 c1
    refine lv_iload_n hx hb dM_leave_6 rfl (lv_at hl 1 rfl) ?_
    refine lv_bipush (v := 64) hx hb dM_leave_7 (by decide) ?_
    refine lv_icmp_le (tgt := 16) hx hb dM_leave_9 (by decide) ?_ ?_
    · intro c2
      replace h := h.1 c2
      refine lv_iconst (v := 0) hx hb dM_leave_16 (by decide) ?_
      exact w_M_leave_17 l C0 hE a_this a_units a_kinds a_values a_names a_low a_high a_told a_leftOut a_isMade a_hands a_pad a_court a_title a_out k_leftOut p1 v_this_thrown v_this_size v_this_families v_this_atHand v_this_family v_this_density v_this_pads v_this_hasThermal v_this_titleSize v_this_written v_this_at v_this_begin v_this_words v_this_paste0 v_leftOut post hK 0 _ _ h hP hD hS ls (lv_sub hl [0, 1] rfl)
    · intro c2
      replace h := h.2 c2
      exact w_M_leave_12 l C0 hE a_this a_units a_kinds a_values a_names a_low a_high a_told a_leftOut a_isMade a_hands a_pad a_court a_title a_out k_leftOut p1 v_this_thrown v_this_size v_this_families v_this_atHand v_this_family v_this_density v_this_pads v_this_hasThermal v_this_titleSize v_this_written v_this_at v_this_begin v_this_words v_this_paste0 v_leftOut post hK _ _ h hP hD hS ls (lv_sub hl [0, 1] rfl)
abbrev yM_hand : MethodName := ⟨"FootprintRulesModel", "hand", "(IJJJJ)Z"⟩
abbrev cM_hand : ByteArray := prog_14_method_16_code
abbrev wsM_hand : List Cond := .code yM_hand cM_hand 12 (some .boolean) :: zT
set_option maxRecDepth 100000 in
theorem zc_M_hand : Cond.code yM_hand cM_hand 12 (some .boolean) ∈ zT := zm 1191 (by rfl) (by rfl)
theorem dM_hand_0 : decode cM_hand 0 = .ok (.lload_n 2, 1) := by decide +kernel
theorem dM_hand_1 : decode cM_hand 1 = .ok (.ldc2_w 122, 3) := by decide +kernel
theorem dM_hand_4 : decode cM_hand 4 = .ok (.lcmp, 1) := by decide +kernel
theorem dM_hand_5 : decode cM_hand 5 = .ok (.ifCond .lt 65, 3) := by decide +kernel
theorem dM_hand_8 : decode cM_hand 8 = .ok (.lload_n 2, 1) := by decide +kernel
theorem dM_hand_9 : decode cM_hand 9 = .ok (.ldc2_w 82, 3) := by decide +kernel
theorem dM_hand_12 : decode cM_hand 12 = .ok (.lcmp, 1) := by decide +kernel
theorem dM_hand_13 : decode cM_hand 13 = .ok (.ifCond .gt 57, 3) := by decide +kernel
theorem dM_hand_16 : decode cM_hand 16 = .ok (.lload 4, 2) := by decide +kernel
theorem dM_hand_18 : decode cM_hand 18 = .ok (.ldc2_w 122, 3) := by decide +kernel
theorem dM_hand_21 : decode cM_hand 21 = .ok (.lcmp, 1) := by decide +kernel
theorem dM_hand_22 : decode cM_hand 22 = .ok (.ifCond .lt 48, 3) := by decide +kernel
theorem dM_hand_25 : decode cM_hand 25 = .ok (.lload 4, 2) := by decide +kernel
theorem dM_hand_27 : decode cM_hand 27 = .ok (.ldc2_w 82, 3) := by decide +kernel
theorem dM_hand_30 : decode cM_hand 30 = .ok (.lcmp, 1) := by decide +kernel
theorem dM_hand_31 : decode cM_hand 31 = .ok (.ifCond .gt 39, 3) := by decide +kernel
theorem dM_hand_34 : decode cM_hand 34 = .ok (.lload 6, 2) := by decide +kernel
theorem dM_hand_36 : decode cM_hand 36 = .ok (.lconst 1, 1) := by decide +kernel
theorem dM_hand_37 : decode cM_hand 37 = .ok (.lcmp, 1) := by decide +kernel
theorem dM_hand_38 : decode cM_hand 38 = .ok (.ifCond .lt 32, 3) := by decide +kernel
theorem dM_hand_41 : decode cM_hand 41 = .ok (.lload 6, 2) := by decide +kernel
theorem dM_hand_43 : decode cM_hand 43 = .ok (.ldc2_w 82, 3) := by decide +kernel
theorem dM_hand_46 : decode cM_hand 46 = .ok (.lcmp, 1) := by decide +kernel
theorem dM_hand_47 : decode cM_hand 47 = .ok (.ifCond .gt 23, 3) := by decide +kernel
theorem dM_hand_50 : decode cM_hand 50 = .ok (.lload 8, 2) := by decide +kernel
theorem dM_hand_52 : decode cM_hand 52 = .ok (.lconst 1, 1) := by decide +kernel
theorem dM_hand_53 : decode cM_hand 53 = .ok (.lcmp, 1) := by decide +kernel
theorem dM_hand_54 : decode cM_hand 54 = .ok (.ifCond .lt 16, 3) := by decide +kernel
theorem dM_hand_57 : decode cM_hand 57 = .ok (.lload 8, 2) := by decide +kernel
theorem dM_hand_59 : decode cM_hand 59 = .ok (.ldc2_w 82, 3) := by decide +kernel
theorem dM_hand_62 : decode cM_hand 62 = .ok (.lcmp, 1) := by decide +kernel
theorem dM_hand_63 : decode cM_hand 63 = .ok (.ifCond .gt 7, 3) := by decide +kernel
theorem dM_hand_66 : decode cM_hand 66 = .ok (.iconst 1, 1) := by decide +kernel
theorem dM_hand_67 : decode cM_hand 67 = .ok (.goto 4, 3) := by decide +kernel
theorem dM_hand_70 : decode cM_hand 70 = .ok (.iconst 0, 1) := by decide +kernel
theorem dM_hand_71 : decode cM_hand 71 = .ok (.istore 10, 2) := by decide +kernel
theorem dM_hand_73 : decode cM_hand 73 = .ok (.aload_n 0, 1) := by decide +kernel
theorem dM_hand_74 : decode cM_hand 74 = .ok (.iload_n 1, 1) := by decide +kernel
theorem dM_hand_75 : decode cM_hand 75 = .ok (.iconst 1, 1) := by decide +kernel
theorem dM_hand_76 : decode cM_hand 76 = .ok (.if_icmp .lt 9, 3) := by decide +kernel
theorem dM_hand_79 : decode cM_hand 79 = .ok (.iload_n 1, 1) := by decide +kernel
theorem dM_hand_80 : decode cM_hand 80 = .ok (.bipush 80, 2) := by decide +kernel
theorem dM_hand_82 : decode cM_hand 82 = .ok (.if_icmp .le 7, 3) := by decide +kernel
theorem dM_hand_85 : decode cM_hand 85 = .ok (.iconst 1, 1) := by decide +kernel
theorem dM_hand_86 : decode cM_hand 86 = .ok (.goto 13, 3) := by decide +kernel
theorem dM_hand_89 : decode cM_hand 89 = .ok (.iload 10, 2) := by decide +kernel
theorem dM_hand_91 : decode cM_hand 91 = .ok (.ifCond .eq 7, 3) := by decide +kernel
theorem dM_hand_94 : decode cM_hand 94 = .ok (.iconst 0, 1) := by decide +kernel
theorem dM_hand_95 : decode cM_hand 95 = .ok (.goto 4, 3) := by decide +kernel
theorem dM_hand_98 : decode cM_hand 98 = .ok (.iconst 2, 1) := by decide +kernel
theorem dM_hand_99 : decode cM_hand 99 = .ok (.putfield 54, 3) := by decide +kernel
theorem dM_hand_102 : decode cM_hand 102 = .ok (.aload_n 0, 1) := by decide +kernel
theorem dM_hand_103 : decode cM_hand 103 = .ok (.getfield 54, 3) := by decide +kernel
theorem dM_hand_106 : decode cM_hand 106 = .ok (.ifCond .eq 5, 3) := by decide +kernel
theorem dM_hand_109 : decode cM_hand 109 = .ok (.iconst 0, 1) := by decide +kernel
theorem dM_hand_110 : decode cM_hand 110 = .ok (.ireturn, 1) := by decide +kernel
theorem dM_hand_111 : decode cM_hand 111 = .ok (.aload_n 0, 1) := by decide +kernel
theorem dM_hand_112 : decode cM_hand 112 = .ok (.getfield 36, 3) := by decide +kernel
theorem dM_hand_115 : decode cM_hand 115 = .ok (.iload_n 1, 1) := by decide +kernel
theorem dM_hand_116 : decode cM_hand 116 = .ok (.baload, 1) := by decide +kernel
theorem dM_hand_117 : decode cM_hand 117 = .ok (.ifCond .ne 7, 3) := by decide +kernel
theorem dM_hand_120 : decode cM_hand 120 = .ok (.iconst 1, 1) := by decide +kernel
theorem dM_hand_121 : decode cM_hand 121 = .ok (.goto 4, 3) := by decide +kernel
theorem dM_hand_124 : decode cM_hand 124 = .ok (.iconst 0, 1) := by decide +kernel
theorem dM_hand_125 : decode cM_hand 125 = .ok (.istore 11, 2) := by decide +kernel
theorem dM_hand_127 : decode cM_hand 127 = .ok (.aload_n 0, 1) := by decide +kernel
theorem dM_hand_128 : decode cM_hand 128 = .ok (.getfield 36, 3) := by decide +kernel
theorem dM_hand_131 : decode cM_hand 131 = .ok (.iload_n 1, 1) := by decide +kernel
theorem dM_hand_132 : decode cM_hand 132 = .ok (.iconst 1, 1) := by decide +kernel
theorem dM_hand_133 : decode cM_hand 133 = .ok (.bastore, 1) := by decide +kernel
theorem dM_hand_134 : decode cM_hand 134 = .ok (.aload_n 0, 1) := by decide +kernel
theorem dM_hand_135 : decode cM_hand 135 = .ok (.getfield 39, 3) := by decide +kernel
theorem dM_hand_138 : decode cM_hand 138 = .ok (.iconst 4, 1) := by decide +kernel
theorem dM_hand_139 : decode cM_hand 139 = .ok (.iload_n 1, 1) := by decide +kernel
theorem dM_hand_140 : decode cM_hand 140 = .ok (.imul, 1) := by decide +kernel
theorem dM_hand_141 : decode cM_hand 141 = .ok (.iconst 4, 1) := by decide +kernel
theorem dM_hand_142 : decode cM_hand 142 = .ok (.isub, 1) := by decide +kernel
theorem dM_hand_143 : decode cM_hand 143 = .ok (.lload_n 2, 1) := by decide +kernel
theorem dM_hand_144 : decode cM_hand 144 = .ok (.lastore, 1) := by decide +kernel
theorem dM_hand_145 : decode cM_hand 145 = .ok (.aload_n 0, 1) := by decide +kernel
theorem dM_hand_146 : decode cM_hand 146 = .ok (.getfield 39, 3) := by decide +kernel
theorem dM_hand_149 : decode cM_hand 149 = .ok (.iconst 4, 1) := by decide +kernel
theorem dM_hand_150 : decode cM_hand 150 = .ok (.iload_n 1, 1) := by decide +kernel
theorem dM_hand_151 : decode cM_hand 151 = .ok (.imul, 1) := by decide +kernel
theorem dM_hand_152 : decode cM_hand 152 = .ok (.iconst 3, 1) := by decide +kernel
theorem dM_hand_153 : decode cM_hand 153 = .ok (.isub, 1) := by decide +kernel
theorem dM_hand_154 : decode cM_hand 154 = .ok (.lload 4, 2) := by decide +kernel
theorem dM_hand_156 : decode cM_hand 156 = .ok (.lastore, 1) := by decide +kernel
theorem dM_hand_157 : decode cM_hand 157 = .ok (.aload_n 0, 1) := by decide +kernel
theorem dM_hand_158 : decode cM_hand 158 = .ok (.getfield 39, 3) := by decide +kernel
theorem dM_hand_161 : decode cM_hand 161 = .ok (.iconst 4, 1) := by decide +kernel
theorem dM_hand_162 : decode cM_hand 162 = .ok (.iload_n 1, 1) := by decide +kernel
theorem dM_hand_163 : decode cM_hand 163 = .ok (.imul, 1) := by decide +kernel
theorem dM_hand_164 : decode cM_hand 164 = .ok (.iconst 2, 1) := by decide +kernel
theorem dM_hand_165 : decode cM_hand 165 = .ok (.isub, 1) := by decide +kernel
theorem dM_hand_166 : decode cM_hand 166 = .ok (.lload 6, 2) := by decide +kernel
theorem dM_hand_168 : decode cM_hand 168 = .ok (.lastore, 1) := by decide +kernel
theorem dM_hand_169 : decode cM_hand 169 = .ok (.aload_n 0, 1) := by decide +kernel
theorem dM_hand_170 : decode cM_hand 170 = .ok (.getfield 39, 3) := by decide +kernel
theorem dM_hand_173 : decode cM_hand 173 = .ok (.iconst 4, 1) := by decide +kernel
theorem dM_hand_174 : decode cM_hand 174 = .ok (.iload_n 1, 1) := by decide +kernel
theorem dM_hand_175 : decode cM_hand 175 = .ok (.imul, 1) := by decide +kernel
theorem dM_hand_176 : decode cM_hand 176 = .ok (.iconst 1, 1) := by decide +kernel
theorem dM_hand_177 : decode cM_hand 177 = .ok (.isub, 1) := by decide +kernel
theorem dM_hand_178 : decode cM_hand 178 = .ok (.lload 8, 2) := by decide +kernel
theorem dM_hand_180 : decode cM_hand 180 = .ok (.lastore, 1) := by decide +kernel
theorem dM_hand_181 : decode cM_hand 181 = .ok (.iload 11, 2) := by decide +kernel
theorem dM_hand_183 : decode cM_hand 183 = .ok (.ireturn, 1) := by decide +kernel
-- FootprintRulesModel.hand(IJJJJ)Z
abbrev w_M_hand (ad : Nat → Nat → Nat) (a_this : Nat) (a_units : Nat) (a_kinds : Nat) (a_values : Nat) (a_names : Nat) (a_low : Nat) (a_high : Nat) (a_told : Nat) (a_leftOut : Nat) (a_isMade : Nat) (a_hands : Nat) (a_pad : Nat) (a_court : Nat) (a_title : Nat) (a_out : Nat) (k_isMade : ClassId) (k_hands : ClassId) (v_this_thrown : Int32) (v_this_size : Int32) (v_this_families : Int32) (v_this_atHand : Int32) (v_this_family : Int32) (v_this_density : Int32) (v_this_pads : Int32) (v_this_hasThermal : Int32) (v_this_titleSize : Int32) (v_this_written : Int32) (v_this_at : Int32) (v_this_begin : Int32) (v_this_words : Int32) (v_this_paste0 : Int64) (v_isMade : Nat → Int32) (v_hands : Nat → Int64) : va_W := [(a_this, .inr (10, [.int v_this_thrown, .ref a_units, .int v_this_size, .int v_this_families, .ref a_kinds, .ref a_values, .ref a_names, .ref a_low, .ref a_high, .ref a_told, .ref a_leftOut, .ref a_isMade, .ref a_hands, .int v_this_atHand, .int v_this_family, .int v_this_density, .int v_this_pads, .ref a_pad, .ref a_court, .int v_this_hasThermal, .ref a_title, .int v_this_titleSize, .ref a_out, .int v_this_written, .int v_this_at, .int v_this_begin, .int v_this_words, .long v_this_paste0])), (a_isMade, .inl (k_isMade, 81, .inl v_isMade)), (a_hands, .inl (k_hands, 324, .inr (.inl v_hands)))]
def P_M_hand_125 (p1 : Int32) (p2 : Int64) (p4 : Int64) (p6 : Int64) (p8 : Int64) (v_isMade : Nat → Int32) (v_hands : Nat → Int64) (post : Int32 → Int32 → (Nat → Int32) → (Nat → Int64) → Prop) (t0 : Int32) (u_this_thrown : Int32) : Prop := vp_in p1 81 ∧ vp_in ((4 * p1) - 4) 324 ∧ vp_in ((4 * p1) - 3) 324 ∧ vp_in ((4 * p1) - 2) 324 ∧ vp_in ((4 * p1) - 1) 324 ∧ narrow .boolean (.int t0) = .int t0 ∧ post t0 u_this_thrown (upd v_isMade p1.toNatClampNeg (vp_nar .boolean 1)) (vp_updL (vp_updL (vp_updL (vp_updL v_hands ((4 * p1) - 4).toNatClampNeg p2) ((4 * p1) - 3).toNatClampNeg p4) ((4 * p1) - 2).toNatClampNeg p6) ((4 * p1) - 1).toNatClampNeg p8)
set_option maxHeartbeats 4000000 in
set_option maxRecDepth 100000 in
theorem w_M_hand_125 (l : Launch) {p : Program} {e : Env} {s : State} {m : MethodId} {args : Array Value} {below : List Frame} {meth : Method} {c : Code} {dC : Nat → ClassId} {dI : Nat → Nat → Nat} {ad : Nat → Nat → Nat} {A : Nat → Prop} (C0 : zC p s m args meth c cM_hand 12 RM zT (some .boolean) A) (hE : zE ad A s) (a_this : Nat) (a_units : Nat) (a_kinds : Nat) (a_values : Nat) (a_names : Nat) (a_low : Nat) (a_high : Nat) (a_told : Nat) (a_leftOut : Nat) (a_isMade : Nat) (a_hands : Nat) (a_pad : Nat) (a_court : Nat) (a_title : Nat) (a_out : Nat) (k_isMade : ClassId) (k_hands : ClassId) (p1 : Int32) (p2 : Int64) (p4 : Int64) (p6 : Int64) (p8 : Int64) (v_this_thrown : Int32) (v_this_size : Int32) (v_this_families : Int32) (v_this_atHand : Int32) (v_this_family : Int32) (v_this_density : Int32) (v_this_pads : Int32) (v_this_hasThermal : Int32) (v_this_titleSize : Int32) (v_this_written : Int32) (v_this_at : Int32) (v_this_begin : Int32) (v_this_words : Int32) (v_this_paste0 : Int64) (v_isMade : Nat → Int32) (v_hands : Nat → Int64) (post : Int32 → Int32 → (Nat → Int32) → (Nat → Int64) → Prop) (hK : va_K (dC, dI) vwCl [(k_isMade, .boolean), (k_hands, .long)] s) : ∀ (t0 : Int32) (u_this_thrown : Int32) (H : Heap) (locs : List Loc), P_M_hand_125 p1 p2 p4 p6 p8 v_isMade v_hands post t0 u_this_thrown → va_P (dC, dI) vwCl (w_M_hand ad a_this a_units a_kinds a_values a_names a_low a_high a_told a_leftOut a_isMade a_hands a_pad a_court a_title a_out k_isMade k_hands u_this_thrown v_this_size v_this_families v_this_atHand v_this_family v_this_density v_this_pads v_this_hasThermal v_this_titleSize v_this_written v_this_at v_this_begin v_this_words v_this_paste0 v_isMade v_hands) H → va_D A (w_M_hand ad a_this a_units a_kinds a_values a_names a_low a_high a_told a_leftOut a_isMade a_hands a_pad a_court a_title a_out k_isMade k_hands u_this_thrown v_this_size v_this_families v_this_atHand v_this_family v_this_density v_this_pads v_this_hasThermal v_this_titleSize v_this_written v_this_at v_this_begin v_this_words v_this_paste0 v_isMade v_hands) → va_S A s.heap H locs → ∀ ls : Array Slot, lv_has ls 12 [(0, .ref a_this), (1, .int p1), (2, .long p2), (4, .long p4), (6, .long p6), (8, .long p8)] → W p l e (headSpec wsM_hand { frames := 0, cells := 0, slots := 0, locals := 0 }).room s m args below meth c H locs 0 0 (MQ below (va_Qi (fun (r : Int32) (u : Int32 × (Nat → Int32) × (Nat → Int64)) => post r u.1 u.2.1 u.2.2) (zB (dC, dI) A (fun (u : Int32 × (Nat → Int32) × (Nat → Int64)) => (w_M_hand ad a_this a_units a_kinds a_values a_names a_low a_high a_told a_leftOut a_isMade a_hands a_pad a_court a_title a_out k_isMade k_hands u.1 v_this_size v_this_families v_this_atHand v_this_family v_this_density v_this_pads v_this_hasThermal v_this_titleSize v_this_written v_this_at v_this_begin v_this_words v_this_paste0 u.2.1 u.2.2))) A) args s 0 0 A) (F0 m 125 ls [.int t0]) := by
  obtain ⟨hx, hb, hr, hml, hown, hts, hlocks, hA⟩ := id C0
  intro t0 u_this_thrown H locs h hP hD hS ls hl
  unfold P_M_hand_125 at h
  refine lv_istore (lv' := [(11, .int t0), (0, .ref a_this), (1, .int p1), (2, .long p2), (4, .long p4), (6, .long p6), (8, .long p8)]) hx hb dM_hand_125 hl (by decide) rfl (fun ls hl => ?_)
  refine lv_aload_n hx hb dM_hand_127 rfl (lv_at hl 1 rfl) ?_
  refine va_get (D := (dC, dI)) (ci := 10) (v := .ref a_isMade) (C := RM) (T := TM) (N := 28) hx hb hts inZ_M hown hK hP 0 rfl rfl 11 (by decide) (hts _ zw_1055) (fun _ h9 => h9) rfl dM_hand_128 ?_
  refine lv_iload_n hx hb dM_hand_131 rfl (lv_at hl 2 rfl) ?_
  refine lv_iconst (v := 1) hx hb dM_hand_132 (by decide) ?_
  obtain ⟨hn1, h⟩ := h
  refine va_zast hx hb hK hP hD hS 1 0 rfl rfl hn1 dM_hand_133 (fun H locs hP hD hS => ?_)
  have hP : va_P (dC, dI) vwCl (w_M_hand ad a_this a_units a_kinds a_values a_names a_low a_high a_told a_leftOut a_isMade a_hands a_pad a_court a_title a_out k_isMade k_hands u_this_thrown v_this_size v_this_families v_this_atHand v_this_family v_this_density v_this_pads v_this_hasThermal v_this_titleSize v_this_written v_this_at v_this_begin v_this_words v_this_paste0 (upd v_isMade p1.toNatClampNeg (vp_nar .boolean 1)) v_hands) H := hP
  have hD : va_D A (w_M_hand ad a_this a_units a_kinds a_values a_names a_low a_high a_told a_leftOut a_isMade a_hands a_pad a_court a_title a_out k_isMade k_hands u_this_thrown v_this_size v_this_families v_this_atHand v_this_family v_this_density v_this_pads v_this_hasThermal v_this_titleSize v_this_written v_this_at v_this_begin v_this_words v_this_paste0 (upd v_isMade p1.toNatClampNeg (vp_nar .boolean 1)) v_hands) := hD
  refine lv_aload_n hx hb dM_hand_134 rfl (lv_at hl 1 rfl) ?_
  refine va_get (D := (dC, dI)) (ci := 10) (v := .ref a_hands) (C := RM) (T := TM) (N := 28) hx hb hts inZ_M hown hK hP 0 rfl rfl 12 (by decide) (hts _ zw_1056) (fun _ h9 => h9) rfl dM_hand_135 ?_
  refine lv_iconst (v := 4) hx hb dM_hand_138 (by decide) ?_
  refine lv_iload_n hx hb dM_hand_139 rfl (lv_at hl 2 rfl) ?_
  refine lv_imul hx hb dM_hand_140 ?_
  refine lv_iconst (v := 4) hx hb dM_hand_141 (by decide) ?_
  refine lv_isub hx hb dM_hand_142 ?_
  refine lv_lload_n hx hb dM_hand_143 rfl (lv_at hl 3 rfl) ?_
  obtain ⟨hn2, h⟩ := h
  refine va_last hx hb hK hP hD hS 2 1 rfl rfl hn2 dM_hand_144 (fun H locs hP hD hS => ?_)
  have hP : va_P (dC, dI) vwCl (w_M_hand ad a_this a_units a_kinds a_values a_names a_low a_high a_told a_leftOut a_isMade a_hands a_pad a_court a_title a_out k_isMade k_hands u_this_thrown v_this_size v_this_families v_this_atHand v_this_family v_this_density v_this_pads v_this_hasThermal v_this_titleSize v_this_written v_this_at v_this_begin v_this_words v_this_paste0 (upd v_isMade p1.toNatClampNeg (vp_nar .boolean 1)) (vp_updL v_hands ((4 * p1) - 4).toNatClampNeg p2)) H := hP
  have hD : va_D A (w_M_hand ad a_this a_units a_kinds a_values a_names a_low a_high a_told a_leftOut a_isMade a_hands a_pad a_court a_title a_out k_isMade k_hands u_this_thrown v_this_size v_this_families v_this_atHand v_this_family v_this_density v_this_pads v_this_hasThermal v_this_titleSize v_this_written v_this_at v_this_begin v_this_words v_this_paste0 (upd v_isMade p1.toNatClampNeg (vp_nar .boolean 1)) (vp_updL v_hands ((4 * p1) - 4).toNatClampNeg p2)) := hD
  refine lv_aload_n hx hb dM_hand_145 rfl (lv_at hl 1 rfl) ?_
  refine va_get (D := (dC, dI)) (ci := 10) (v := .ref a_hands) (C := RM) (T := TM) (N := 28) hx hb hts inZ_M hown hK hP 0 rfl rfl 12 (by decide) (hts _ zw_1056) (fun _ h9 => h9) rfl dM_hand_146 ?_
  refine lv_iconst (v := 4) hx hb dM_hand_149 (by decide) ?_
  refine lv_iload_n hx hb dM_hand_150 rfl (lv_at hl 2 rfl) ?_
  refine lv_imul hx hb dM_hand_151 ?_
  refine lv_iconst (v := 3) hx hb dM_hand_152 (by decide) ?_
  refine lv_isub hx hb dM_hand_153 ?_
  refine lv_lload hx hb dM_hand_154 (lv_at hl 4 rfl) ?_
  obtain ⟨hn3, h⟩ := h
  refine va_last hx hb hK hP hD hS 2 1 rfl rfl hn3 dM_hand_156 (fun H locs hP hD hS => ?_)
  have hP : va_P (dC, dI) vwCl (w_M_hand ad a_this a_units a_kinds a_values a_names a_low a_high a_told a_leftOut a_isMade a_hands a_pad a_court a_title a_out k_isMade k_hands u_this_thrown v_this_size v_this_families v_this_atHand v_this_family v_this_density v_this_pads v_this_hasThermal v_this_titleSize v_this_written v_this_at v_this_begin v_this_words v_this_paste0 (upd v_isMade p1.toNatClampNeg (vp_nar .boolean 1)) (vp_updL (vp_updL v_hands ((4 * p1) - 4).toNatClampNeg p2) ((4 * p1) - 3).toNatClampNeg p4)) H := hP
  have hD : va_D A (w_M_hand ad a_this a_units a_kinds a_values a_names a_low a_high a_told a_leftOut a_isMade a_hands a_pad a_court a_title a_out k_isMade k_hands u_this_thrown v_this_size v_this_families v_this_atHand v_this_family v_this_density v_this_pads v_this_hasThermal v_this_titleSize v_this_written v_this_at v_this_begin v_this_words v_this_paste0 (upd v_isMade p1.toNatClampNeg (vp_nar .boolean 1)) (vp_updL (vp_updL v_hands ((4 * p1) - 4).toNatClampNeg p2) ((4 * p1) - 3).toNatClampNeg p4)) := hD
  refine lv_aload_n hx hb dM_hand_157 rfl (lv_at hl 1 rfl) ?_
  refine va_get (D := (dC, dI)) (ci := 10) (v := .ref a_hands) (C := RM) (T := TM) (N := 28) hx hb hts inZ_M hown hK hP 0 rfl rfl 12 (by decide) (hts _ zw_1056) (fun _ h9 => h9) rfl dM_hand_158 ?_
  refine lv_iconst (v := 4) hx hb dM_hand_161 (by decide) ?_
  refine lv_iload_n hx hb dM_hand_162 rfl (lv_at hl 2 rfl) ?_
  refine lv_imul hx hb dM_hand_163 ?_
  refine lv_iconst (v := 2) hx hb dM_hand_164 (by decide) ?_
  refine lv_isub hx hb dM_hand_165 ?_
  refine lv_lload hx hb dM_hand_166 (lv_at hl 5 rfl) ?_
  obtain ⟨hn4, h⟩ := h
  refine va_last hx hb hK hP hD hS 2 1 rfl rfl hn4 dM_hand_168 (fun H locs hP hD hS => ?_)
  have hP : va_P (dC, dI) vwCl (w_M_hand ad a_this a_units a_kinds a_values a_names a_low a_high a_told a_leftOut a_isMade a_hands a_pad a_court a_title a_out k_isMade k_hands u_this_thrown v_this_size v_this_families v_this_atHand v_this_family v_this_density v_this_pads v_this_hasThermal v_this_titleSize v_this_written v_this_at v_this_begin v_this_words v_this_paste0 (upd v_isMade p1.toNatClampNeg (vp_nar .boolean 1)) (vp_updL (vp_updL (vp_updL v_hands ((4 * p1) - 4).toNatClampNeg p2) ((4 * p1) - 3).toNatClampNeg p4) ((4 * p1) - 2).toNatClampNeg p6)) H := hP
  have hD : va_D A (w_M_hand ad a_this a_units a_kinds a_values a_names a_low a_high a_told a_leftOut a_isMade a_hands a_pad a_court a_title a_out k_isMade k_hands u_this_thrown v_this_size v_this_families v_this_atHand v_this_family v_this_density v_this_pads v_this_hasThermal v_this_titleSize v_this_written v_this_at v_this_begin v_this_words v_this_paste0 (upd v_isMade p1.toNatClampNeg (vp_nar .boolean 1)) (vp_updL (vp_updL (vp_updL v_hands ((4 * p1) - 4).toNatClampNeg p2) ((4 * p1) - 3).toNatClampNeg p4) ((4 * p1) - 2).toNatClampNeg p6)) := hD
  refine lv_aload_n hx hb dM_hand_169 rfl (lv_at hl 1 rfl) ?_
  refine va_get (D := (dC, dI)) (ci := 10) (v := .ref a_hands) (C := RM) (T := TM) (N := 28) hx hb hts inZ_M hown hK hP 0 rfl rfl 12 (by decide) (hts _ zw_1056) (fun _ h9 => h9) rfl dM_hand_170 ?_
  refine lv_iconst (v := 4) hx hb dM_hand_173 (by decide) ?_
  refine lv_iload_n hx hb dM_hand_174 rfl (lv_at hl 2 rfl) ?_
  refine lv_imul hx hb dM_hand_175 ?_
  refine lv_iconst (v := 1) hx hb dM_hand_176 (by decide) ?_
  refine lv_isub hx hb dM_hand_177 ?_
  refine lv_lload hx hb dM_hand_178 (lv_at hl 6 rfl) ?_
  obtain ⟨hn5, h⟩ := h
  refine va_last hx hb hK hP hD hS 2 1 rfl rfl hn5 dM_hand_180 (fun H locs hP hD hS => ?_)
  have hP : va_P (dC, dI) vwCl (w_M_hand ad a_this a_units a_kinds a_values a_names a_low a_high a_told a_leftOut a_isMade a_hands a_pad a_court a_title a_out k_isMade k_hands u_this_thrown v_this_size v_this_families v_this_atHand v_this_family v_this_density v_this_pads v_this_hasThermal v_this_titleSize v_this_written v_this_at v_this_begin v_this_words v_this_paste0 (upd v_isMade p1.toNatClampNeg (vp_nar .boolean 1)) (vp_updL (vp_updL (vp_updL (vp_updL v_hands ((4 * p1) - 4).toNatClampNeg p2) ((4 * p1) - 3).toNatClampNeg p4) ((4 * p1) - 2).toNatClampNeg p6) ((4 * p1) - 1).toNatClampNeg p8)) H := hP
  have hD : va_D A (w_M_hand ad a_this a_units a_kinds a_values a_names a_low a_high a_told a_leftOut a_isMade a_hands a_pad a_court a_title a_out k_isMade k_hands u_this_thrown v_this_size v_this_families v_this_atHand v_this_family v_this_density v_this_pads v_this_hasThermal v_this_titleSize v_this_written v_this_at v_this_begin v_this_words v_this_paste0 (upd v_isMade p1.toNatClampNeg (vp_nar .boolean 1)) (vp_updL (vp_updL (vp_updL (vp_updL v_hands ((4 * p1) - 4).toNatClampNeg p2) ((4 * p1) - 3).toNatClampNeg p4) ((4 * p1) - 2).toNatClampNeg p6) ((4 * p1) - 1).toNatClampNeg p8)) := hD
  refine lv_iload hx hb dM_hand_181 (lv_at hl 0 rfl) ?_
  obtain ⟨hn6, h⟩ := h
  exact W.zret (v := t0) hx hb hr hn6 (fun t ht hW => ⟨⟨t0, (u_this_thrown, (upd v_isMade p1.toNatClampNeg (vp_nar .boolean 1)), (vp_updL (vp_updL (vp_updL (vp_updL v_hands ((4 * p1) - 4).toNatClampNeg p2) ((4 * p1) - 3).toNatClampNeg p4) ((4 * p1) - 2).toNatClampNeg p6) ((4 * p1) - 1).toNatClampNeg p8)), rfl, h, by rw [ht]; exact hP, hD⟩, hS.F ht⟩) hS.2.2 dM_hand_183
def P_M_hand_99 (p1 : Int32) (p2 : Int64) (p4 : Int64) (p6 : Int64) (p8 : Int64) (v_isMade : Nat → Int32) (v_hands : Nat → Int64) (post : Int32 → Int32 → (Nat → Int32) → (Nat → Int64) → Prop) (t0 : Int32) : Prop := ((t0 = 0 → vp_in p1 81 ∧ ((¬ (v_isMade p1.toNatClampNeg) = 0 → P_M_hand_125 p1 p2 p4 p6 p8 v_isMade v_hands post 0 t0) ∧ ((v_isMade p1.toNatClampNeg) = 0 → P_M_hand_125 p1 p2 p4 p6 p8 v_isMade v_hands post 1 t0))) ∧ (¬ t0 = 0 → post 0 t0 v_isMade v_hands))
set_option maxHeartbeats 4000000 in
set_option maxRecDepth 100000 in
theorem w_M_hand_99 (l : Launch) {p : Program} {e : Env} {s : State} {m : MethodId} {args : Array Value} {below : List Frame} {meth : Method} {c : Code} {dC : Nat → ClassId} {dI : Nat → Nat → Nat} {ad : Nat → Nat → Nat} {A : Nat → Prop} (C0 : zC p s m args meth c cM_hand 12 RM zT (some .boolean) A) (hE : zE ad A s) (a_this : Nat) (a_units : Nat) (a_kinds : Nat) (a_values : Nat) (a_names : Nat) (a_low : Nat) (a_high : Nat) (a_told : Nat) (a_leftOut : Nat) (a_isMade : Nat) (a_hands : Nat) (a_pad : Nat) (a_court : Nat) (a_title : Nat) (a_out : Nat) (k_isMade : ClassId) (k_hands : ClassId) (p1 : Int32) (p2 : Int64) (p4 : Int64) (p6 : Int64) (p8 : Int64) (v_this_thrown : Int32) (v_this_size : Int32) (v_this_families : Int32) (v_this_atHand : Int32) (v_this_family : Int32) (v_this_density : Int32) (v_this_pads : Int32) (v_this_hasThermal : Int32) (v_this_titleSize : Int32) (v_this_written : Int32) (v_this_at : Int32) (v_this_begin : Int32) (v_this_words : Int32) (v_this_paste0 : Int64) (v_isMade : Nat → Int32) (v_hands : Nat → Int64) (post : Int32 → Int32 → (Nat → Int32) → (Nat → Int64) → Prop) (hK : va_K (dC, dI) vwCl [(k_isMade, .boolean), (k_hands, .long)] s) : ∀ (t0 : Int32) (H : Heap) (locs : List Loc), P_M_hand_99 p1 p2 p4 p6 p8 v_isMade v_hands post t0 → va_P (dC, dI) vwCl (w_M_hand ad a_this a_units a_kinds a_values a_names a_low a_high a_told a_leftOut a_isMade a_hands a_pad a_court a_title a_out k_isMade k_hands v_this_thrown v_this_size v_this_families v_this_atHand v_this_family v_this_density v_this_pads v_this_hasThermal v_this_titleSize v_this_written v_this_at v_this_begin v_this_words v_this_paste0 v_isMade v_hands) H → va_D A (w_M_hand ad a_this a_units a_kinds a_values a_names a_low a_high a_told a_leftOut a_isMade a_hands a_pad a_court a_title a_out k_isMade k_hands v_this_thrown v_this_size v_this_families v_this_atHand v_this_family v_this_density v_this_pads v_this_hasThermal v_this_titleSize v_this_written v_this_at v_this_begin v_this_words v_this_paste0 v_isMade v_hands) → va_S A s.heap H locs → ∀ ls : Array Slot, lv_has ls 12 [(0, .ref a_this), (1, .int p1), (2, .long p2), (4, .long p4), (6, .long p6), (8, .long p8)] → W p l e (headSpec wsM_hand { frames := 0, cells := 0, slots := 0, locals := 0 }).room s m args below meth c H locs 0 0 (MQ below (va_Qi (fun (r : Int32) (u : Int32 × (Nat → Int32) × (Nat → Int64)) => post r u.1 u.2.1 u.2.2) (zB (dC, dI) A (fun (u : Int32 × (Nat → Int32) × (Nat → Int64)) => (w_M_hand ad a_this a_units a_kinds a_values a_names a_low a_high a_told a_leftOut a_isMade a_hands a_pad a_court a_title a_out k_isMade k_hands u.1 v_this_size v_this_families v_this_atHand v_this_family v_this_density v_this_pads v_this_hasThermal v_this_titleSize v_this_written v_this_at v_this_begin v_this_words v_this_paste0 u.2.1 u.2.2))) A) args s 0 0 A) (F0 m 99 ls [.int t0, .ref a_this]) := by
  obtain ⟨hx, hb, hr, hml, hown, hts, hlocks, hA⟩ := id C0
  intro t0 H locs h hP hD hS ls hl
  unfold P_M_hand_99 at h
  refine va_put (D := (dC, dI)) (ci := 10) (v := .int t0) (ty := .int) (C := RM) (T := TM) (N := 28) hx hb hts inZ_M tyM tyM_ok nmM hown hK hP hD hS 0 rfl rfl 0 (by decide) (hts _ zw_1044) (fun _ h9 => h9) rfl (by decide +kernel) rfl rfl (Nat.le_of_ble_eq_true rfl) dM_hand_99 (fun H locs hP hD hS => ?_)
  have hP : va_P (dC, dI) vwCl (w_M_hand ad a_this a_units a_kinds a_values a_names a_low a_high a_told a_leftOut a_isMade a_hands a_pad a_court a_title a_out k_isMade k_hands t0 v_this_size v_this_families v_this_atHand v_this_family v_this_density v_this_pads v_this_hasThermal v_this_titleSize v_this_written v_this_at v_this_begin v_this_words v_this_paste0 v_isMade v_hands) H := hP
  have hD : va_D A (w_M_hand ad a_this a_units a_kinds a_values a_names a_low a_high a_told a_leftOut a_isMade a_hands a_pad a_court a_title a_out k_isMade k_hands t0 v_this_size v_this_families v_this_atHand v_this_family v_this_density v_this_pads v_this_hasThermal v_this_titleSize v_this_written v_this_at v_this_begin v_this_words v_this_paste0 v_isMade v_hands) := hD
  refine lv_aload_n hx hb dM_hand_102 rfl (lv_at hl 0 rfl) ?_
  refine va_get (D := (dC, dI)) (ci := 10) (v := .int t0) (C := RM) (T := TM) (N := 28) hx hb hts inZ_M hown hK hP 0 rfl rfl 0 (by decide) (hts _ zw_1044) (fun _ h9 => h9) rfl dM_hand_103 ?_
  refine lv_if_eq (tgt := 111) hx hb dM_hand_106 (by decide) ?_ ?_
  · intro c1
    replace h := h.1 c1
    refine lv_aload_n hx hb dM_hand_111 rfl (lv_at hl 0 rfl) ?_
    refine va_get (D := (dC, dI)) (ci := 10) (v := .ref a_isMade) (C := RM) (T := TM) (N := 28) hx hb hts inZ_M hown hK hP 0 rfl rfl 11 (by decide) (hts _ zw_1055) (fun _ h9 => h9) rfl dM_hand_112 ?_
    refine lv_iload_n hx hb dM_hand_115 rfl (lv_at hl 1 rfl) ?_
    obtain ⟨hn2, h⟩ := h
    refine va_zald hx hb hK hP 1 0 rfl rfl hn2 dM_hand_116 ?_
    refine lv_if_ne (tgt := 124) hx hb dM_hand_117 (by decide) ?_ ?_
    · intro c3
      replace h := h.1 c3
      refine lv_iconst (v := 0) hx hb dM_hand_124 (by decide) ?_
      exact w_M_hand_125 l C0 hE a_this a_units a_kinds a_values a_names a_low a_high a_told a_leftOut a_isMade a_hands a_pad a_court a_title a_out k_isMade k_hands p1 p2 p4 p6 p8 v_this_thrown v_this_size v_this_families v_this_atHand v_this_family v_this_density v_this_pads v_this_hasThermal v_this_titleSize v_this_written v_this_at v_this_begin v_this_words v_this_paste0 v_isMade v_hands post hK 0 t0 _ _ h hP hD hS ls (lv_sub hl [0, 1, 2, 3, 4, 5] rfl)
    · intro c3
      replace h := h.2 c3
      refine lv_iconst (v := 1) hx hb dM_hand_120 (by decide) ?_
      refine lv_goto (tgt := 125) hx hb dM_hand_121 (by decide) ?_
      exact w_M_hand_125 l C0 hE a_this a_units a_kinds a_values a_names a_low a_high a_told a_leftOut a_isMade a_hands a_pad a_court a_title a_out k_isMade k_hands p1 p2 p4 p6 p8 v_this_thrown v_this_size v_this_families v_this_atHand v_this_family v_this_density v_this_pads v_this_hasThermal v_this_titleSize v_this_written v_this_at v_this_begin v_this_words v_this_paste0 v_isMade v_hands post hK 1 t0 _ _ h hP hD hS ls (lv_sub hl [0, 1, 2, 3, 4, 5] rfl)
  · intro c1
    replace h := h.2 c1
    refine lv_iconst (v := 0) hx hb dM_hand_109 (by decide) ?_
    exact W.zret (v := 0) hx hb hr rfl (fun t ht hW => ⟨⟨0, (t0, v_isMade, v_hands), rfl, h, by rw [ht]; exact hP, hD⟩, hS.F ht⟩) hS.2.2 dM_hand_110
def P_M_hand_85 (p1 : Int32) (p2 : Int64) (p4 : Int64) (p6 : Int64) (p8 : Int64) (v_isMade : Nat → Int32) (v_hands : Nat → Int64) (post : Int32 → Int32 → (Nat → Int32) → (Nat → Int64) → Prop)  : Prop := P_M_hand_99 p1 p2 p4 p6 p8 v_isMade v_hands post 1
set_option maxHeartbeats 4000000 in
set_option maxRecDepth 100000 in
theorem w_M_hand_85 (l : Launch) {p : Program} {e : Env} {s : State} {m : MethodId} {args : Array Value} {below : List Frame} {meth : Method} {c : Code} {dC : Nat → ClassId} {dI : Nat → Nat → Nat} {ad : Nat → Nat → Nat} {A : Nat → Prop} (C0 : zC p s m args meth c cM_hand 12 RM zT (some .boolean) A) (hE : zE ad A s) (a_this : Nat) (a_units : Nat) (a_kinds : Nat) (a_values : Nat) (a_names : Nat) (a_low : Nat) (a_high : Nat) (a_told : Nat) (a_leftOut : Nat) (a_isMade : Nat) (a_hands : Nat) (a_pad : Nat) (a_court : Nat) (a_title : Nat) (a_out : Nat) (k_isMade : ClassId) (k_hands : ClassId) (p1 : Int32) (p2 : Int64) (p4 : Int64) (p6 : Int64) (p8 : Int64) (v_this_thrown : Int32) (v_this_size : Int32) (v_this_families : Int32) (v_this_atHand : Int32) (v_this_family : Int32) (v_this_density : Int32) (v_this_pads : Int32) (v_this_hasThermal : Int32) (v_this_titleSize : Int32) (v_this_written : Int32) (v_this_at : Int32) (v_this_begin : Int32) (v_this_words : Int32) (v_this_paste0 : Int64) (v_isMade : Nat → Int32) (v_hands : Nat → Int64) (post : Int32 → Int32 → (Nat → Int32) → (Nat → Int64) → Prop) (hK : va_K (dC, dI) vwCl [(k_isMade, .boolean), (k_hands, .long)] s) : ∀  (H : Heap) (locs : List Loc), P_M_hand_85 p1 p2 p4 p6 p8 v_isMade v_hands post → va_P (dC, dI) vwCl (w_M_hand ad a_this a_units a_kinds a_values a_names a_low a_high a_told a_leftOut a_isMade a_hands a_pad a_court a_title a_out k_isMade k_hands v_this_thrown v_this_size v_this_families v_this_atHand v_this_family v_this_density v_this_pads v_this_hasThermal v_this_titleSize v_this_written v_this_at v_this_begin v_this_words v_this_paste0 v_isMade v_hands) H → va_D A (w_M_hand ad a_this a_units a_kinds a_values a_names a_low a_high a_told a_leftOut a_isMade a_hands a_pad a_court a_title a_out k_isMade k_hands v_this_thrown v_this_size v_this_families v_this_atHand v_this_family v_this_density v_this_pads v_this_hasThermal v_this_titleSize v_this_written v_this_at v_this_begin v_this_words v_this_paste0 v_isMade v_hands) → va_S A s.heap H locs → ∀ ls : Array Slot, lv_has ls 12 [(0, .ref a_this), (1, .int p1), (2, .long p2), (4, .long p4), (6, .long p6), (8, .long p8)] → W p l e (headSpec wsM_hand { frames := 0, cells := 0, slots := 0, locals := 0 }).room s m args below meth c H locs 0 0 (MQ below (va_Qi (fun (r : Int32) (u : Int32 × (Nat → Int32) × (Nat → Int64)) => post r u.1 u.2.1 u.2.2) (zB (dC, dI) A (fun (u : Int32 × (Nat → Int32) × (Nat → Int64)) => (w_M_hand ad a_this a_units a_kinds a_values a_names a_low a_high a_told a_leftOut a_isMade a_hands a_pad a_court a_title a_out k_isMade k_hands u.1 v_this_size v_this_families v_this_atHand v_this_family v_this_density v_this_pads v_this_hasThermal v_this_titleSize v_this_written v_this_at v_this_begin v_this_words v_this_paste0 u.2.1 u.2.2))) A) args s 0 0 A) (F0 m 85 ls [.ref a_this]) := by
  obtain ⟨hx, hb, hr, hml, hown, hts, hlocks, hA⟩ := id C0
  intro  H locs h hP hD hS ls hl
  unfold P_M_hand_85 at h
  refine lv_iconst (v := 1) hx hb dM_hand_85 (by decide) ?_
  refine lv_goto (tgt := 99) hx hb dM_hand_86 (by decide) ?_
  exact w_M_hand_99 l C0 hE a_this a_units a_kinds a_values a_names a_low a_high a_told a_leftOut a_isMade a_hands a_pad a_court a_title a_out k_isMade k_hands p1 p2 p4 p6 p8 v_this_thrown v_this_size v_this_families v_this_atHand v_this_family v_this_density v_this_pads v_this_hasThermal v_this_titleSize v_this_written v_this_at v_this_begin v_this_words v_this_paste0 v_isMade v_hands post hK 1 _ _ h hP hD hS ls (lv_sub hl [0, 1, 2, 3, 4, 5] rfl)
def P_M_hand_71 (p1 : Int32) (p2 : Int64) (p4 : Int64) (p6 : Int64) (p8 : Int64) (v_isMade : Nat → Int32) (v_hands : Nat → Int64) (post : Int32 → Int32 → (Nat → Int32) → (Nat → Int64) → Prop) (t0 : Int32) : Prop := ((p1 < 1 → P_M_hand_85 p1 p2 p4 p6 p8 v_isMade v_hands post) ∧ (¬ p1 < 1 → ((p1 ≤ 80 → ((t0 = 0 → P_M_hand_99 p1 p2 p4 p6 p8 v_isMade v_hands post 2) ∧ (¬ t0 = 0 → P_M_hand_99 p1 p2 p4 p6 p8 v_isMade v_hands post 0))) ∧ (¬ p1 ≤ 80 → P_M_hand_85 p1 p2 p4 p6 p8 v_isMade v_hands post))))
set_option maxHeartbeats 4000000 in
set_option maxRecDepth 100000 in
theorem w_M_hand_71 (l : Launch) {p : Program} {e : Env} {s : State} {m : MethodId} {args : Array Value} {below : List Frame} {meth : Method} {c : Code} {dC : Nat → ClassId} {dI : Nat → Nat → Nat} {ad : Nat → Nat → Nat} {A : Nat → Prop} (C0 : zC p s m args meth c cM_hand 12 RM zT (some .boolean) A) (hE : zE ad A s) (a_this : Nat) (a_units : Nat) (a_kinds : Nat) (a_values : Nat) (a_names : Nat) (a_low : Nat) (a_high : Nat) (a_told : Nat) (a_leftOut : Nat) (a_isMade : Nat) (a_hands : Nat) (a_pad : Nat) (a_court : Nat) (a_title : Nat) (a_out : Nat) (k_isMade : ClassId) (k_hands : ClassId) (p1 : Int32) (p2 : Int64) (p4 : Int64) (p6 : Int64) (p8 : Int64) (v_this_thrown : Int32) (v_this_size : Int32) (v_this_families : Int32) (v_this_atHand : Int32) (v_this_family : Int32) (v_this_density : Int32) (v_this_pads : Int32) (v_this_hasThermal : Int32) (v_this_titleSize : Int32) (v_this_written : Int32) (v_this_at : Int32) (v_this_begin : Int32) (v_this_words : Int32) (v_this_paste0 : Int64) (v_isMade : Nat → Int32) (v_hands : Nat → Int64) (post : Int32 → Int32 → (Nat → Int32) → (Nat → Int64) → Prop) (hK : va_K (dC, dI) vwCl [(k_isMade, .boolean), (k_hands, .long)] s) : ∀ (t0 : Int32) (H : Heap) (locs : List Loc), P_M_hand_71 p1 p2 p4 p6 p8 v_isMade v_hands post t0 → va_P (dC, dI) vwCl (w_M_hand ad a_this a_units a_kinds a_values a_names a_low a_high a_told a_leftOut a_isMade a_hands a_pad a_court a_title a_out k_isMade k_hands v_this_thrown v_this_size v_this_families v_this_atHand v_this_family v_this_density v_this_pads v_this_hasThermal v_this_titleSize v_this_written v_this_at v_this_begin v_this_words v_this_paste0 v_isMade v_hands) H → va_D A (w_M_hand ad a_this a_units a_kinds a_values a_names a_low a_high a_told a_leftOut a_isMade a_hands a_pad a_court a_title a_out k_isMade k_hands v_this_thrown v_this_size v_this_families v_this_atHand v_this_family v_this_density v_this_pads v_this_hasThermal v_this_titleSize v_this_written v_this_at v_this_begin v_this_words v_this_paste0 v_isMade v_hands) → va_S A s.heap H locs → ∀ ls : Array Slot, lv_has ls 12 [(0, .ref a_this), (1, .int p1), (2, .long p2), (4, .long p4), (6, .long p6), (8, .long p8)] → W p l e (headSpec wsM_hand { frames := 0, cells := 0, slots := 0, locals := 0 }).room s m args below meth c H locs 0 0 (MQ below (va_Qi (fun (r : Int32) (u : Int32 × (Nat → Int32) × (Nat → Int64)) => post r u.1 u.2.1 u.2.2) (zB (dC, dI) A (fun (u : Int32 × (Nat → Int32) × (Nat → Int64)) => (w_M_hand ad a_this a_units a_kinds a_values a_names a_low a_high a_told a_leftOut a_isMade a_hands a_pad a_court a_title a_out k_isMade k_hands u.1 v_this_size v_this_families v_this_atHand v_this_family v_this_density v_this_pads v_this_hasThermal v_this_titleSize v_this_written v_this_at v_this_begin v_this_words v_this_paste0 u.2.1 u.2.2))) A) args s 0 0 A) (F0 m 71 ls [.int t0]) := by
  obtain ⟨hx, hb, hr, hml, hown, hts, hlocks, hA⟩ := id C0
  intro t0 H locs h hP hD hS ls hl
  unfold P_M_hand_71 at h
  refine lv_istore (lv' := [(10, .int t0), (0, .ref a_this), (1, .int p1), (2, .long p2), (4, .long p4), (6, .long p6), (8, .long p8)]) hx hb dM_hand_71 hl (by decide) rfl (fun ls hl => ?_)
  refine lv_aload_n hx hb dM_hand_73 rfl (lv_at hl 1 rfl) ?_
  refine lv_iload_n hx hb dM_hand_74 rfl (lv_at hl 2 rfl) ?_
  refine lv_iconst (v := 1) hx hb dM_hand_75 (by decide) ?_
  refine lv_icmp_lt (tgt := 85) hx hb dM_hand_76 (by decide) ?_ ?_
  · intro c1
    replace h := h.1 c1
    exact w_M_hand_85 l C0 hE a_this a_units a_kinds a_values a_names a_low a_high a_told a_leftOut a_isMade a_hands a_pad a_court a_title a_out k_isMade k_hands p1 p2 p4 p6 p8 v_this_thrown v_this_size v_this_families v_this_atHand v_this_family v_this_density v_this_pads v_this_hasThermal v_this_titleSize v_this_written v_this_at v_this_begin v_this_words v_this_paste0 v_isMade v_hands post hK _ _ h hP hD hS ls (lv_sub hl [1, 2, 3, 4, 5, 6] rfl)
  · intro c1
    replace h := h.2 c1
    refine lv_iload_n hx hb dM_hand_79 rfl (lv_at hl 2 rfl) ?_
    refine lv_bipush (v := 80) hx hb dM_hand_80 (by decide) ?_
    refine lv_icmp_le (tgt := 89) hx hb dM_hand_82 (by decide) ?_ ?_
    · intro c2
      replace h := h.1 c2
      refine lv_iload hx hb dM_hand_89 (lv_at hl 0 rfl) ?_
      refine lv_if_eq (tgt := 98) hx hb dM_hand_91 (by decide) ?_ ?_
      · intro c3
        replace h := h.1 c3
        refine lv_iconst (v := 2) hx hb dM_hand_98 (by decide) ?_
        exact w_M_hand_99 l C0 hE a_this a_units a_kinds a_values a_names a_low a_high a_told a_leftOut a_isMade a_hands a_pad a_court a_title a_out k_isMade k_hands p1 p2 p4 p6 p8 v_this_thrown v_this_size v_this_families v_this_atHand v_this_family v_this_density v_this_pads v_this_hasThermal v_this_titleSize v_this_written v_this_at v_this_begin v_this_words v_this_paste0 v_isMade v_hands post hK 2 _ _ h hP hD hS ls (lv_sub hl [1, 2, 3, 4, 5, 6] rfl)
      · intro c3
        replace h := h.2 c3
        refine lv_iconst (v := 0) hx hb dM_hand_94 (by decide) ?_
        refine lv_goto (tgt := 99) hx hb dM_hand_95 (by decide) ?_
        exact w_M_hand_99 l C0 hE a_this a_units a_kinds a_values a_names a_low a_high a_told a_leftOut a_isMade a_hands a_pad a_court a_title a_out k_isMade k_hands p1 p2 p4 p6 p8 v_this_thrown v_this_size v_this_families v_this_atHand v_this_family v_this_density v_this_pads v_this_hasThermal v_this_titleSize v_this_written v_this_at v_this_begin v_this_words v_this_paste0 v_isMade v_hands post hK 0 _ _ h hP hD hS ls (lv_sub hl [1, 2, 3, 4, 5, 6] rfl)
    · intro c2
      replace h := h.2 c2
      exact w_M_hand_85 l C0 hE a_this a_units a_kinds a_values a_names a_low a_high a_told a_leftOut a_isMade a_hands a_pad a_court a_title a_out k_isMade k_hands p1 p2 p4 p6 p8 v_this_thrown v_this_size v_this_families v_this_atHand v_this_family v_this_density v_this_pads v_this_hasThermal v_this_titleSize v_this_written v_this_at v_this_begin v_this_words v_this_paste0 v_isMade v_hands post hK _ _ h hP hD hS ls (lv_sub hl [1, 2, 3, 4, 5, 6] rfl)
def P_M_hand_70 (p1 : Int32) (p2 : Int64) (p4 : Int64) (p6 : Int64) (p8 : Int64) (v_isMade : Nat → Int32) (v_hands : Nat → Int64) (post : Int32 → Int32 → (Nat → Int32) → (Nat → Int64) → Prop)  : Prop := P_M_hand_71 p1 p2 p4 p6 p8 v_isMade v_hands post 0
set_option maxHeartbeats 4000000 in
set_option maxRecDepth 100000 in
theorem w_M_hand_70 (l : Launch) {p : Program} {e : Env} {s : State} {m : MethodId} {args : Array Value} {below : List Frame} {meth : Method} {c : Code} {dC : Nat → ClassId} {dI : Nat → Nat → Nat} {ad : Nat → Nat → Nat} {A : Nat → Prop} (C0 : zC p s m args meth c cM_hand 12 RM zT (some .boolean) A) (hE : zE ad A s) (a_this : Nat) (a_units : Nat) (a_kinds : Nat) (a_values : Nat) (a_names : Nat) (a_low : Nat) (a_high : Nat) (a_told : Nat) (a_leftOut : Nat) (a_isMade : Nat) (a_hands : Nat) (a_pad : Nat) (a_court : Nat) (a_title : Nat) (a_out : Nat) (k_isMade : ClassId) (k_hands : ClassId) (p1 : Int32) (p2 : Int64) (p4 : Int64) (p6 : Int64) (p8 : Int64) (v_this_thrown : Int32) (v_this_size : Int32) (v_this_families : Int32) (v_this_atHand : Int32) (v_this_family : Int32) (v_this_density : Int32) (v_this_pads : Int32) (v_this_hasThermal : Int32) (v_this_titleSize : Int32) (v_this_written : Int32) (v_this_at : Int32) (v_this_begin : Int32) (v_this_words : Int32) (v_this_paste0 : Int64) (v_isMade : Nat → Int32) (v_hands : Nat → Int64) (post : Int32 → Int32 → (Nat → Int32) → (Nat → Int64) → Prop) (hK : va_K (dC, dI) vwCl [(k_isMade, .boolean), (k_hands, .long)] s) : ∀  (H : Heap) (locs : List Loc), P_M_hand_70 p1 p2 p4 p6 p8 v_isMade v_hands post → va_P (dC, dI) vwCl (w_M_hand ad a_this a_units a_kinds a_values a_names a_low a_high a_told a_leftOut a_isMade a_hands a_pad a_court a_title a_out k_isMade k_hands v_this_thrown v_this_size v_this_families v_this_atHand v_this_family v_this_density v_this_pads v_this_hasThermal v_this_titleSize v_this_written v_this_at v_this_begin v_this_words v_this_paste0 v_isMade v_hands) H → va_D A (w_M_hand ad a_this a_units a_kinds a_values a_names a_low a_high a_told a_leftOut a_isMade a_hands a_pad a_court a_title a_out k_isMade k_hands v_this_thrown v_this_size v_this_families v_this_atHand v_this_family v_this_density v_this_pads v_this_hasThermal v_this_titleSize v_this_written v_this_at v_this_begin v_this_words v_this_paste0 v_isMade v_hands) → va_S A s.heap H locs → ∀ ls : Array Slot, lv_has ls 12 [(0, .ref a_this), (1, .int p1), (2, .long p2), (4, .long p4), (6, .long p6), (8, .long p8)] → W p l e (headSpec wsM_hand { frames := 0, cells := 0, slots := 0, locals := 0 }).room s m args below meth c H locs 0 0 (MQ below (va_Qi (fun (r : Int32) (u : Int32 × (Nat → Int32) × (Nat → Int64)) => post r u.1 u.2.1 u.2.2) (zB (dC, dI) A (fun (u : Int32 × (Nat → Int32) × (Nat → Int64)) => (w_M_hand ad a_this a_units a_kinds a_values a_names a_low a_high a_told a_leftOut a_isMade a_hands a_pad a_court a_title a_out k_isMade k_hands u.1 v_this_size v_this_families v_this_atHand v_this_family v_this_density v_this_pads v_this_hasThermal v_this_titleSize v_this_written v_this_at v_this_begin v_this_words v_this_paste0 u.2.1 u.2.2))) A) args s 0 0 A) (F0 m 70 ls []) := by
  obtain ⟨hx, hb, hr, hml, hown, hts, hlocks, hA⟩ := id C0
  intro  H locs h hP hD hS ls hl
  unfold P_M_hand_70 at h
  refine lv_iconst (v := 0) hx hb dM_hand_70 (by decide) ?_
  exact w_M_hand_71 l C0 hE a_this a_units a_kinds a_values a_names a_low a_high a_told a_leftOut a_isMade a_hands a_pad a_court a_title a_out k_isMade k_hands p1 p2 p4 p6 p8 v_this_thrown v_this_size v_this_families v_this_atHand v_this_family v_this_density v_this_pads v_this_hasThermal v_this_titleSize v_this_written v_this_at v_this_begin v_this_words v_this_paste0 v_isMade v_hands post hK 0 _ _ h hP hD hS ls (lv_sub hl [0, 1, 2, 3, 4, 5] rfl)
def P_M_hand (p1 : Int32) (p2 : Int64) (p4 : Int64) (p6 : Int64) (p8 : Int64) (v_isMade : Nat → Int32) (v_hands : Nat → Int64) (post : Int32 → Int32 → (Nat → Int32) → (Nat → Int64) → Prop) : Prop := ((p2 < (-100000000) → P_M_hand_70 p1 p2 p4 p6 p8 v_isMade v_hands post) ∧ (¬ p2 < (-100000000) → ((100000000 < p2 → P_M_hand_70 p1 p2 p4 p6 p8 v_isMade v_hands post) ∧ (¬ 100000000 < p2 → ((p4 < (-100000000) → P_M_hand_70 p1 p2 p4 p6 p8 v_isMade v_hands post) ∧ (¬ p4 < (-100000000) → ((100000000 < p4 → P_M_hand_70 p1 p2 p4 p6 p8 v_isMade v_hands post) ∧ (¬ 100000000 < p4 → ((p6 < 1 → P_M_hand_70 p1 p2 p4 p6 p8 v_isMade v_hands post) ∧ (¬ p6 < 1 → ((100000000 < p6 → P_M_hand_70 p1 p2 p4 p6 p8 v_isMade v_hands post) ∧ (¬ 100000000 < p6 → ((p8 < 1 → P_M_hand_70 p1 p2 p4 p6 p8 v_isMade v_hands post) ∧ (¬ p8 < 1 → ((100000000 < p8 → P_M_hand_70 p1 p2 p4 p6 p8 v_isMade v_hands post) ∧ (¬ 100000000 < p8 → P_M_hand_71 p1 p2 p4 p6 p8 v_isMade v_hands post 1))))))))))))))))
set_option maxHeartbeats 4000000 in
set_option maxRecDepth 100000 in
theorem c_M_hand (l : Launch) (dC : Nat → ClassId) (dI : Nat → Nat → Nat) (ad : Nat → Nat → Nat) (a_this : Nat) (a_units : Nat) (a_kinds : Nat) (a_values : Nat) (a_names : Nat) (a_low : Nat) (a_high : Nat) (a_told : Nat) (a_leftOut : Nat) (a_isMade : Nat) (a_hands : Nat) (a_pad : Nat) (a_court : Nat) (a_title : Nat) (a_out : Nat) (k_isMade : ClassId) (k_hands : ClassId) (sz : Nat) (p1 : Int32) (p2 : Int64) (p4 : Int64) (p6 : Int64) (p8 : Int64) (v_this_thrown : Int32) (v_this_size : Int32) (v_this_families : Int32) (v_this_atHand : Int32) (v_this_family : Int32) (v_this_density : Int32) (v_this_pads : Int32) (v_this_hasThermal : Int32) (v_this_titleSize : Int32) (v_this_written : Int32) (v_this_at : Int32) (v_this_begin : Int32) (v_this_words : Int32) (v_this_paste0 : Int64) (v_isMade : Nat → Int32) (v_hands : Nat → Int64) (post : Int32 → Int32 → (Nat → Int32) → (Nat → Int64) → Prop) (h : P_M_hand p1 p2 p4 p6 p8 v_isMade v_hands post) : zMi l yM_hand wsM_hand { frames := 0, cells := 0, slots := 0, locals := 0 } (dC, dI) ad [.ref a_this, .int p1, .long p2, .long p4, .long p6, .long p8] (w_M_hand ad a_this a_units a_kinds a_values a_names a_low a_high a_told a_leftOut a_isMade a_hands a_pad a_court a_title a_out k_isMade k_hands v_this_thrown v_this_size v_this_families v_this_atHand v_this_family v_this_density v_this_pads v_this_hasThermal v_this_titleSize v_this_written v_this_at v_this_begin v_this_words v_this_paste0 v_isMade v_hands) [(k_isMade, .boolean), (k_hands, .long)] sz (fun (r : Int32) (u : Int32 × (Nat → Int32) × (Nat → Int64)) => post r u.1 u.2.1 u.2.2) (fun (u : Int32 × (Nat → Int32) × (Nat → Int64)) => (w_M_hand ad a_this a_units a_kinds a_values a_names a_low a_high a_told a_leftOut a_isMade a_hands a_pad a_court a_title a_out k_isMade k_hands u.1 v_this_size v_this_families v_this_atHand v_this_family v_this_density v_this_pads v_this_hasThermal v_this_titleSize v_this_written v_this_at v_this_begin v_this_words v_this_paste0 u.2.1 u.2.2)) 0 0 := by
  refine Met.ofW (cc := cM_hand) (maxL := 12) (ret := (some .boolean)) (by decide +kernel) rfl ?_
  intro p e s m args below meth c s₁ B hml hv
  obtain ⟨rfl, hsz, hP, hK, hD0, hE⟩ := hv
  have hx := B.exec
  have hb := B.bytes
  have hr := B.returns
  have hts0 := atoms_spec (ws := wsM_hand) B.pre
  have hts := fun w h => hts0 w (List.mem_cons_of_mem _ h)
  have hown : s.vm.findClass RM = some m.cls := findClass_of_methodNamed B.named
  have hlocks := B.notSynchronized
  subst hsz
  have hD := hD0.self (sz := s.heap.size)
  generalize hAe : va_A (w_M_hand ad a_this a_units a_kinds a_values a_names a_low a_high a_told a_leftOut a_isMade a_hands a_pad a_court a_title a_out k_isMade k_hands v_this_thrown v_this_size v_this_families v_this_atHand v_this_family v_this_density v_this_pads v_this_hasThermal v_this_titleSize v_this_written v_this_at v_this_begin v_this_words v_this_paste0 v_isMade v_hands) s.heap.size = A at hD hE ⊢
  have hA : ∀ q : Nat, s.heap.size ≤ q → A q := fun q h => by rw [← hAe]; exact Or.inr h
  have C0 := zC.mk hx hb hr hml hown hts hlocks hA
  have hS : va_S A s.heap s.heap [] := va_S.rf
  have hl := lv_entry ([.ref a_this, .int p1, .long p2, .long p4, .long p6, .long p8]) (n := 12) (Nat.le_of_ble_eq_true rfl)
  rw [lg_entry_eq]
  generalize (lg_sl ([.ref a_this, .int p1, .long p2, .long p4, .long p6, .long p8]) ++ List.replicate (12 - (lg_sl ([.ref a_this, .int p1, .long p2, .long p4, .long p6, .long p8])).length) Slot.unset).toArray = ls at hl ⊢
  have hl : lv_has ls 12 [(0, .ref a_this), (1, .int p1), (2, .long p2), (4, .long p4), (6, .long p6), (8, .long p8)] := hl
  unfold P_M_hand at h
  refine lv_lload_n hx hb dM_hand_0 rfl (lv_at hl 2 rfl) ?_
  refine lv_ldc2 (own := RM) (index := 122) (v := (-100000000)) hx hb hown (hts _ zw_1192) dM_hand_1 ?_
  refine zz_lcmp_lt (tgt := 70) hx hb dM_hand_4 dM_hand_5 (by decide) ?_ ?_
  · intro c1
    replace h := h.1 c1
    exact w_M_hand_70 l C0 hE a_this a_units a_kinds a_values a_names a_low a_high a_told a_leftOut a_isMade a_hands a_pad a_court a_title a_out k_isMade k_hands p1 p2 p4 p6 p8 v_this_thrown v_this_size v_this_families v_this_atHand v_this_family v_this_density v_this_pads v_this_hasThermal v_this_titleSize v_this_written v_this_at v_this_begin v_this_words v_this_paste0 v_isMade v_hands post hK _ _ h hP hD hS ls (lv_sub hl [0, 1, 2, 3, 4, 5] rfl)
  · intro c1
    replace h := h.2 c1
    refine lv_lload_n hx hb dM_hand_8 rfl (lv_at hl 2 rfl) ?_
    refine lv_ldc2 (own := RM) (index := 82) (v := 100000000) hx hb hown (hts _ zw_1172) dM_hand_9 ?_
    refine zz_lcmp_gt (tgt := 70) hx hb dM_hand_12 dM_hand_13 (by decide) ?_ ?_
    · intro c2
      replace h := h.1 c2
      exact w_M_hand_70 l C0 hE a_this a_units a_kinds a_values a_names a_low a_high a_told a_leftOut a_isMade a_hands a_pad a_court a_title a_out k_isMade k_hands p1 p2 p4 p6 p8 v_this_thrown v_this_size v_this_families v_this_atHand v_this_family v_this_density v_this_pads v_this_hasThermal v_this_titleSize v_this_written v_this_at v_this_begin v_this_words v_this_paste0 v_isMade v_hands post hK _ _ h hP hD hS ls (lv_sub hl [0, 1, 2, 3, 4, 5] rfl)
    · intro c2
      replace h := h.2 c2
      refine lv_lload hx hb dM_hand_16 (lv_at hl 3 rfl) ?_
      refine lv_ldc2 (own := RM) (index := 122) (v := (-100000000)) hx hb hown (hts _ zw_1192) dM_hand_18 ?_
      refine zz_lcmp_lt (tgt := 70) hx hb dM_hand_21 dM_hand_22 (by decide) ?_ ?_
      · intro c3
        replace h := h.1 c3
        exact w_M_hand_70 l C0 hE a_this a_units a_kinds a_values a_names a_low a_high a_told a_leftOut a_isMade a_hands a_pad a_court a_title a_out k_isMade k_hands p1 p2 p4 p6 p8 v_this_thrown v_this_size v_this_families v_this_atHand v_this_family v_this_density v_this_pads v_this_hasThermal v_this_titleSize v_this_written v_this_at v_this_begin v_this_words v_this_paste0 v_isMade v_hands post hK _ _ h hP hD hS ls (lv_sub hl [0, 1, 2, 3, 4, 5] rfl)
      · intro c3
        replace h := h.2 c3
        refine lv_lload hx hb dM_hand_25 (lv_at hl 3 rfl) ?_
        refine lv_ldc2 (own := RM) (index := 82) (v := 100000000) hx hb hown (hts _ zw_1172) dM_hand_27 ?_
        refine zz_lcmp_gt (tgt := 70) hx hb dM_hand_30 dM_hand_31 (by decide) ?_ ?_
        · intro c4
          replace h := h.1 c4
          exact w_M_hand_70 l C0 hE a_this a_units a_kinds a_values a_names a_low a_high a_told a_leftOut a_isMade a_hands a_pad a_court a_title a_out k_isMade k_hands p1 p2 p4 p6 p8 v_this_thrown v_this_size v_this_families v_this_atHand v_this_family v_this_density v_this_pads v_this_hasThermal v_this_titleSize v_this_written v_this_at v_this_begin v_this_words v_this_paste0 v_isMade v_hands post hK _ _ h hP hD hS ls (lv_sub hl [0, 1, 2, 3, 4, 5] rfl)
        · intro c4
          replace h := h.2 c4
          refine lv_lload hx hb dM_hand_34 (lv_at hl 4 rfl) ?_
          refine lv_lconst (v := 1) hx hb dM_hand_36 (by decide) ?_
          refine zz_lcmp_lt (tgt := 70) hx hb dM_hand_37 dM_hand_38 (by decide) ?_ ?_
          · intro c5
            replace h := h.1 c5
            exact w_M_hand_70 l C0 hE a_this a_units a_kinds a_values a_names a_low a_high a_told a_leftOut a_isMade a_hands a_pad a_court a_title a_out k_isMade k_hands p1 p2 p4 p6 p8 v_this_thrown v_this_size v_this_families v_this_atHand v_this_family v_this_density v_this_pads v_this_hasThermal v_this_titleSize v_this_written v_this_at v_this_begin v_this_words v_this_paste0 v_isMade v_hands post hK _ _ h hP hD hS ls (lv_sub hl [0, 1, 2, 3, 4, 5] rfl)
          · intro c5
            replace h := h.2 c5
            refine lv_lload hx hb dM_hand_41 (lv_at hl 4 rfl) ?_
            refine lv_ldc2 (own := RM) (index := 82) (v := 100000000) hx hb hown (hts _ zw_1172) dM_hand_43 ?_
            refine zz_lcmp_gt (tgt := 70) hx hb dM_hand_46 dM_hand_47 (by decide) ?_ ?_
            · intro c6
              replace h := h.1 c6
              exact w_M_hand_70 l C0 hE a_this a_units a_kinds a_values a_names a_low a_high a_told a_leftOut a_isMade a_hands a_pad a_court a_title a_out k_isMade k_hands p1 p2 p4 p6 p8 v_this_thrown v_this_size v_this_families v_this_atHand v_this_family v_this_density v_this_pads v_this_hasThermal v_this_titleSize v_this_written v_this_at v_this_begin v_this_words v_this_paste0 v_isMade v_hands post hK _ _ h hP hD hS ls (lv_sub hl [0, 1, 2, 3, 4, 5] rfl)
            · intro c6
              replace h := h.2 c6
              refine lv_lload hx hb dM_hand_50 (lv_at hl 5 rfl) ?_
              refine lv_lconst (v := 1) hx hb dM_hand_52 (by decide) ?_
              refine zz_lcmp_lt (tgt := 70) hx hb dM_hand_53 dM_hand_54 (by decide) ?_ ?_
              · intro c7
                replace h := h.1 c7
                exact w_M_hand_70 l C0 hE a_this a_units a_kinds a_values a_names a_low a_high a_told a_leftOut a_isMade a_hands a_pad a_court a_title a_out k_isMade k_hands p1 p2 p4 p6 p8 v_this_thrown v_this_size v_this_families v_this_atHand v_this_family v_this_density v_this_pads v_this_hasThermal v_this_titleSize v_this_written v_this_at v_this_begin v_this_words v_this_paste0 v_isMade v_hands post hK _ _ h hP hD hS ls (lv_sub hl [0, 1, 2, 3, 4, 5] rfl)
              · intro c7
                replace h := h.2 c7
                refine lv_lload hx hb dM_hand_57 (lv_at hl 5 rfl) ?_
                refine lv_ldc2 (own := RM) (index := 82) (v := 100000000) hx hb hown (hts _ zw_1172) dM_hand_59 ?_
                refine zz_lcmp_gt (tgt := 70) hx hb dM_hand_62 dM_hand_63 (by decide) ?_ ?_
                · intro c8
                  replace h := h.1 c8
                  exact w_M_hand_70 l C0 hE a_this a_units a_kinds a_values a_names a_low a_high a_told a_leftOut a_isMade a_hands a_pad a_court a_title a_out k_isMade k_hands p1 p2 p4 p6 p8 v_this_thrown v_this_size v_this_families v_this_atHand v_this_family v_this_density v_this_pads v_this_hasThermal v_this_titleSize v_this_written v_this_at v_this_begin v_this_words v_this_paste0 v_isMade v_hands post hK _ _ h hP hD hS ls (lv_sub hl [0, 1, 2, 3, 4, 5] rfl)
                · intro c8
                  replace h := h.2 c8
                  refine lv_iconst (v := 1) hx hb dM_hand_66 (by decide) ?_
                  refine lv_goto (tgt := 71) hx hb dM_hand_67 (by decide) ?_
                  exact w_M_hand_71 l C0 hE a_this a_units a_kinds a_values a_names a_low a_high a_told a_leftOut a_isMade a_hands a_pad a_court a_title a_out k_isMade k_hands p1 p2 p4 p6 p8 v_this_thrown v_this_size v_this_families v_this_atHand v_this_family v_this_density v_this_pads v_this_hasThermal v_this_titleSize v_this_written v_this_at v_this_begin v_this_words v_this_paste0 v_isMade v_hands post hK 1 _ _ h hP hD hS ls (lv_sub hl [0, 1, 2, 3, 4, 5] rfl)
abbrev yM_clear : MethodName := ⟨"FootprintRulesModel", "clear", "()V"⟩
abbrev cM_clear : ByteArray := prog_14_method_17_code
abbrev wsM_clear : List Cond := .code yM_clear cM_clear 2 none :: zT
set_option maxRecDepth 100000 in
theorem zc_M_clear : Cond.code yM_clear cM_clear 2 none ∈ zT := zm 1196 (by rfl) (by rfl)
theorem dM_clear_0 : decode cM_clear 0 = .ok (.aload_n 0, 1) := by decide +kernel
theorem dM_clear_1 : decode cM_clear 1 = .ok (.iconst 0, 1) := by decide +kernel
theorem dM_clear_2 : decode cM_clear 2 = .ok (.putfield 54, 3) := by decide +kernel
theorem dM_clear_5 : decode cM_clear 5 = .ok (.aload_n 0, 1) := by decide +kernel
theorem dM_clear_6 : decode cM_clear 6 = .ok (.iconst 0, 1) := by decide +kernel
theorem dM_clear_7 : decode cM_clear 7 = .ok (.putfield 58, 3) := by decide +kernel
theorem dM_clear_10 : decode cM_clear 10 = .ok (.aload_n 0, 1) := by decide +kernel
theorem dM_clear_11 : decode cM_clear 11 = .ok (.iconst 0, 1) := by decide +kernel
theorem dM_clear_12 : decode cM_clear 12 = .ok (.putfield 124, 3) := by decide +kernel
theorem dM_clear_15 : decode cM_clear 15 = .ok (.iconst 0, 1) := by decide +kernel
theorem dM_clear_16 : decode cM_clear 16 = .ok (.istore_n 1, 1) := by decide +kernel
theorem dM_clear_17 : decode cM_clear 17 = .ok (.iload_n 1, 1) := by decide +kernel
theorem dM_clear_18 : decode cM_clear 18 = .ok (.bipush 12, 2) := by decide +kernel
theorem dM_clear_20 : decode cM_clear 20 = .ok (.if_icmp .ge 16, 3) := by decide +kernel
theorem dM_clear_23 : decode cM_clear 23 = .ok (.aload_n 0, 1) := by decide +kernel
theorem dM_clear_24 : decode cM_clear 24 = .ok (.getfield 29, 3) := by decide +kernel
theorem dM_clear_27 : decode cM_clear 27 = .ok (.iload_n 1, 1) := by decide +kernel
theorem dM_clear_28 : decode cM_clear 28 = .ok (.iconst 0, 1) := by decide +kernel
theorem dM_clear_29 : decode cM_clear 29 = .ok (.bastore, 1) := by decide +kernel
theorem dM_clear_30 : decode cM_clear 30 = .ok (.iinc 1 1, 3) := by decide +kernel
theorem dM_clear_33 : decode cM_clear 33 = .ok (.goto (-16), 3) := by decide +kernel
theorem dM_clear_36 : decode cM_clear 36 = .ok (.iconst 0, 1) := by decide +kernel
theorem dM_clear_37 : decode cM_clear 37 = .ok (.istore_n 1, 1) := by decide +kernel
theorem dM_clear_38 : decode cM_clear 38 = .ok (.iload_n 1, 1) := by decide +kernel
theorem dM_clear_39 : decode cM_clear 39 = .ok (.bipush 65, 2) := by decide +kernel
theorem dM_clear_41 : decode cM_clear 41 = .ok (.if_icmp .ge 16, 3) := by decide +kernel
theorem dM_clear_44 : decode cM_clear 44 = .ok (.aload_n 0, 1) := by decide +kernel
theorem dM_clear_45 : decode cM_clear 45 = .ok (.getfield 33, 3) := by decide +kernel
theorem dM_clear_48 : decode cM_clear 48 = .ok (.iload_n 1, 1) := by decide +kernel
theorem dM_clear_49 : decode cM_clear 49 = .ok (.iconst 0, 1) := by decide +kernel
theorem dM_clear_50 : decode cM_clear 50 = .ok (.bastore, 1) := by decide +kernel
theorem dM_clear_51 : decode cM_clear 51 = .ok (.iinc 1 1, 3) := by decide +kernel
theorem dM_clear_54 : decode cM_clear 54 = .ok (.goto (-16), 3) := by decide +kernel
theorem dM_clear_57 : decode cM_clear 57 = .ok (.iconst 0, 1) := by decide +kernel
theorem dM_clear_58 : decode cM_clear 58 = .ok (.istore_n 1, 1) := by decide +kernel
theorem dM_clear_59 : decode cM_clear 59 = .ok (.iload_n 1, 1) := by decide +kernel
theorem dM_clear_60 : decode cM_clear 60 = .ok (.bipush 81, 2) := by decide +kernel
theorem dM_clear_62 : decode cM_clear 62 = .ok (.if_icmp .ge 16, 3) := by decide +kernel
theorem dM_clear_65 : decode cM_clear 65 = .ok (.aload_n 0, 1) := by decide +kernel
theorem dM_clear_66 : decode cM_clear 66 = .ok (.getfield 36, 3) := by decide +kernel
theorem dM_clear_69 : decode cM_clear 69 = .ok (.iload_n 1, 1) := by decide +kernel
theorem dM_clear_70 : decode cM_clear 70 = .ok (.iconst 0, 1) := by decide +kernel
theorem dM_clear_71 : decode cM_clear 71 = .ok (.bastore, 1) := by decide +kernel
theorem dM_clear_72 : decode cM_clear 72 = .ok (.iinc 1 1, 3) := by decide +kernel
theorem dM_clear_75 : decode cM_clear 75 = .ok (.goto (-16), 3) := by decide +kernel
theorem dM_clear_78 : decode cM_clear 78 = .ok (.return_, 1) := by decide +kernel
-- FootprintRulesModel.clear()V
abbrev w_M_clear (ad : Nat → Nat → Nat) (a_this : Nat) (a_units : Nat) (a_kinds : Nat) (a_values : Nat) (a_names : Nat) (a_low : Nat) (a_high : Nat) (a_told : Nat) (a_leftOut : Nat) (a_isMade : Nat) (a_hands : Nat) (a_pad : Nat) (a_court : Nat) (a_title : Nat) (a_out : Nat) (k_told : ClassId) (k_leftOut : ClassId) (k_isMade : ClassId) (v_this_thrown : Int32) (v_this_size : Int32) (v_this_families : Int32) (v_this_atHand : Int32) (v_this_family : Int32) (v_this_density : Int32) (v_this_pads : Int32) (v_this_hasThermal : Int32) (v_this_titleSize : Int32) (v_this_written : Int32) (v_this_at : Int32) (v_this_begin : Int32) (v_this_words : Int32) (v_this_paste0 : Int64) (v_told : Nat → Int32) (v_leftOut : Nat → Int32) (v_isMade : Nat → Int32) : va_W := [(a_this, .inr (10, [.int v_this_thrown, .ref a_units, .int v_this_size, .int v_this_families, .ref a_kinds, .ref a_values, .ref a_names, .ref a_low, .ref a_high, .ref a_told, .ref a_leftOut, .ref a_isMade, .ref a_hands, .int v_this_atHand, .int v_this_family, .int v_this_density, .int v_this_pads, .ref a_pad, .ref a_court, .int v_this_hasThermal, .ref a_title, .int v_this_titleSize, .ref a_out, .int v_this_written, .int v_this_at, .int v_this_begin, .int v_this_words, .long v_this_paste0])), (a_told, .inl (k_told, 12, .inl v_told)), (a_leftOut, .inl (k_leftOut, 65, .inl v_leftOut)), (a_isMade, .inl (k_isMade, 81, .inl v_isMade))]
def P_M_clear_59  (post : Int32 → Int32 → Int32 → (Nat → Int32) → (Nat → Int32) → (Nat → Int32) → Prop) : Nat → Int32 → Int32 → Int32 → Int32 → (Nat → Int32) → (Nat → Int32) → (Nat → Int32) → Prop
  | 0, _, _, _, _, _, _, _ => False
  | n + 1, y1, u_this_thrown, u_this_size, u_this_atHand, u_told, u_leftOut, u_isMade => ((81 ≤ y1 → post u_this_thrown u_this_size u_this_atHand u_told u_leftOut u_isMade) ∧ (¬ 81 ≤ y1 → vp_in y1 81 ∧ ∀ x3 : Int32, x3 = y1 + 1 → P_M_clear_59 post n x3 u_this_thrown u_this_size u_this_atHand u_told u_leftOut (upd u_isMade y1.toNatClampNeg (vp_nar .boolean 0))))
set_option maxHeartbeats 4000000 in
set_option maxRecDepth 100000 in
theorem w_M_clear_59 (l : Launch) {p : Program} {e : Env} {s : State} {m : MethodId} {args : Array Value} {below : List Frame} {meth : Method} {c : Code} {dC : Nat → ClassId} {dI : Nat → Nat → Nat} {ad : Nat → Nat → Nat} {A : Nat → Prop} (C0 : zC p s m args meth c cM_clear 2 RM zT none A) (hE : zE ad A s) (a_this : Nat) (a_units : Nat) (a_kinds : Nat) (a_values : Nat) (a_names : Nat) (a_low : Nat) (a_high : Nat) (a_told : Nat) (a_leftOut : Nat) (a_isMade : Nat) (a_hands : Nat) (a_pad : Nat) (a_court : Nat) (a_title : Nat) (a_out : Nat) (k_told : ClassId) (k_leftOut : ClassId) (k_isMade : ClassId) (v_this_thrown : Int32) (v_this_size : Int32) (v_this_families : Int32) (v_this_atHand : Int32) (v_this_family : Int32) (v_this_density : Int32) (v_this_pads : Int32) (v_this_hasThermal : Int32) (v_this_titleSize : Int32) (v_this_written : Int32) (v_this_at : Int32) (v_this_begin : Int32) (v_this_words : Int32) (v_this_paste0 : Int64) (v_told : Nat → Int32) (v_leftOut : Nat → Int32) (v_isMade : Nat → Int32) (post : Int32 → Int32 → Int32 → (Nat → Int32) → (Nat → Int32) → (Nat → Int32) → Prop) (hK : va_K (dC, dI) vwCl [(k_told, .boolean), (k_leftOut, .boolean), (k_isMade, .boolean)] s) : ∀ (n : Nat), ∀ (y1 : Int32) (u_this_thrown : Int32) (u_this_size : Int32) (u_this_atHand : Int32) (u_told : Nat → Int32) (u_leftOut : Nat → Int32) (u_isMade : Nat → Int32) (H : Heap) (locs : List Loc), P_M_clear_59 post n y1 u_this_thrown u_this_size u_this_atHand u_told u_leftOut u_isMade → va_P (dC, dI) vwCl (w_M_clear ad a_this a_units a_kinds a_values a_names a_low a_high a_told a_leftOut a_isMade a_hands a_pad a_court a_title a_out k_told k_leftOut k_isMade u_this_thrown u_this_size v_this_families u_this_atHand v_this_family v_this_density v_this_pads v_this_hasThermal v_this_titleSize v_this_written v_this_at v_this_begin v_this_words v_this_paste0 u_told u_leftOut u_isMade) H → va_D A (w_M_clear ad a_this a_units a_kinds a_values a_names a_low a_high a_told a_leftOut a_isMade a_hands a_pad a_court a_title a_out k_told k_leftOut k_isMade u_this_thrown u_this_size v_this_families u_this_atHand v_this_family v_this_density v_this_pads v_this_hasThermal v_this_titleSize v_this_written v_this_at v_this_begin v_this_words v_this_paste0 u_told u_leftOut u_isMade) → va_S A s.heap H locs → ∀ ls : Array Slot, lv_has ls 2 [(0, .ref a_this), (1, .int y1)] → W p l e (headSpec wsM_clear { frames := 0, cells := 0, slots := 0, locals := 0 }).room s m args below meth c H locs 0 0 (MQ below (va_Qv (fun (u : Int32 × Int32 × Int32 × (Nat → Int32) × (Nat → Int32) × (Nat → Int32)) => post u.1 u.2.1 u.2.2.1 u.2.2.2.1 u.2.2.2.2.1 u.2.2.2.2.2) (zB (dC, dI) A (fun (u : Int32 × Int32 × Int32 × (Nat → Int32) × (Nat → Int32) × (Nat → Int32)) => (w_M_clear ad a_this a_units a_kinds a_values a_names a_low a_high a_told a_leftOut a_isMade a_hands a_pad a_court a_title a_out k_told k_leftOut k_isMade u.1 u.2.1 v_this_families u.2.2.1 v_this_family v_this_density v_this_pads v_this_hasThermal v_this_titleSize v_this_written v_this_at v_this_begin v_this_words v_this_paste0 u.2.2.2.1 u.2.2.2.2.1 u.2.2.2.2.2))) A) args s 0 0 A) (F0 m 59 ls []) := by
  obtain ⟨hx, hb, hr, hml, hown, hts, hlocks, hA⟩ := id C0
  intro n
  induction n with
  | zero =>
    intro y1 u_this_thrown u_this_size u_this_atHand u_told u_leftOut u_isMade H locs h
    exact False.elim h
  | succ n ih =>
    intro y1 u_this_thrown u_this_size u_this_atHand u_told u_leftOut u_isMade H locs h hP hD hS ls hl
    rw [P_M_clear_59] at h
    refine lv_iload_n hx hb dM_clear_59 rfl (lv_at hl 1 rfl) ?_
    refine lv_bipush (v := 81) hx hb dM_clear_60 (by decide) ?_
    refine lv_icmp_ge (tgt := 78) hx hb dM_clear_62 (by decide) ?_ ?_
    · intro c1
      replace h := h.1 c1
      exact W.vret hx hb hr (fun t ht hW => ⟨⟨(u_this_thrown, u_this_size, u_this_atHand, u_told, u_leftOut, u_isMade), rfl, h, by rw [ht]; exact hP, hD⟩, hS.F ht⟩) hS.2.2 dM_clear_78
    · intro c1
      replace h := h.2 c1
      refine lv_aload_n hx hb dM_clear_65 rfl (lv_at hl 0 rfl) ?_
      refine va_get (D := (dC, dI)) (ci := 10) (v := .ref a_isMade) (C := RM) (T := TM) (N := 28) hx hb hts inZ_M hown hK hP 0 rfl rfl 11 (by decide) (hts _ zw_1055) (fun _ h9 => h9) rfl dM_clear_66 ?_
      refine lv_iload_n hx hb dM_clear_69 rfl (lv_at hl 1 rfl) ?_
      refine lv_iconst (v := 0) hx hb dM_clear_70 (by decide) ?_
      obtain ⟨hn2, h⟩ := h
      refine va_zast hx hb hK hP hD hS 3 2 rfl rfl hn2 dM_clear_71 (fun H locs hP hD hS => ?_)
      have hP : va_P (dC, dI) vwCl (w_M_clear ad a_this a_units a_kinds a_values a_names a_low a_high a_told a_leftOut a_isMade a_hands a_pad a_court a_title a_out k_told k_leftOut k_isMade u_this_thrown u_this_size v_this_families u_this_atHand v_this_family v_this_density v_this_pads v_this_hasThermal v_this_titleSize v_this_written v_this_at v_this_begin v_this_words v_this_paste0 u_told u_leftOut (upd u_isMade y1.toNatClampNeg (vp_nar .boolean 0))) H := hP
      have hD : va_D A (w_M_clear ad a_this a_units a_kinds a_values a_names a_low a_high a_told a_leftOut a_isMade a_hands a_pad a_court a_title a_out k_told k_leftOut k_isMade u_this_thrown u_this_size v_this_families u_this_atHand v_this_family v_this_density v_this_pads v_this_hasThermal v_this_titleSize v_this_written v_this_at v_this_begin v_this_words v_this_paste0 u_told u_leftOut (upd u_isMade y1.toNatClampNeg (vp_nar .boolean 0))) := hD
      obtain ⟨x3, ex3⟩ : ∃ y : Int32, y = y1 + 1 := ⟨_, rfl⟩
      replace h := h x3 ex3
      refine lv_iinc (v := x3) (lv' := [(1, .int x3), (0, .ref a_this)]) hx hb dM_clear_72 hl (k := 1) rfl (by rw [ex3]; rfl) (by decide) rfl (fun ls hl => ?_)
      refine lv_goto (tgt := 59) hx hb dM_clear_75 (by decide) ?_
      exact ih x3 u_this_thrown u_this_size u_this_atHand u_told u_leftOut (upd u_isMade y1.toNatClampNeg (vp_nar .boolean 0)) _ _ h hP hD hS ls (lv_sub hl [1, 0] rfl)
def P_M_clear_38 (v_isMade : Nat → Int32) (post : Int32 → Int32 → Int32 → (Nat → Int32) → (Nat → Int32) → (Nat → Int32) → Prop) : Nat → Int32 → Int32 → Int32 → Int32 → (Nat → Int32) → (Nat → Int32) → Prop
  | 0, _, _, _, _, _, _ => False
  | n + 1, y1, u_this_thrown, u_this_size, u_this_atHand, u_told, u_leftOut => ((65 ≤ y1 → ∃ n2, P_M_clear_59 post n2 0 u_this_thrown u_this_size u_this_atHand u_told u_leftOut v_isMade) ∧ (¬ 65 ≤ y1 → vp_in y1 65 ∧ ∀ x4 : Int32, x4 = y1 + 1 → P_M_clear_38 v_isMade post n x4 u_this_thrown u_this_size u_this_atHand u_told (upd u_leftOut y1.toNatClampNeg (vp_nar .boolean 0))))
set_option maxHeartbeats 4000000 in
set_option maxRecDepth 100000 in
theorem w_M_clear_38 (l : Launch) {p : Program} {e : Env} {s : State} {m : MethodId} {args : Array Value} {below : List Frame} {meth : Method} {c : Code} {dC : Nat → ClassId} {dI : Nat → Nat → Nat} {ad : Nat → Nat → Nat} {A : Nat → Prop} (C0 : zC p s m args meth c cM_clear 2 RM zT none A) (hE : zE ad A s) (a_this : Nat) (a_units : Nat) (a_kinds : Nat) (a_values : Nat) (a_names : Nat) (a_low : Nat) (a_high : Nat) (a_told : Nat) (a_leftOut : Nat) (a_isMade : Nat) (a_hands : Nat) (a_pad : Nat) (a_court : Nat) (a_title : Nat) (a_out : Nat) (k_told : ClassId) (k_leftOut : ClassId) (k_isMade : ClassId) (v_this_thrown : Int32) (v_this_size : Int32) (v_this_families : Int32) (v_this_atHand : Int32) (v_this_family : Int32) (v_this_density : Int32) (v_this_pads : Int32) (v_this_hasThermal : Int32) (v_this_titleSize : Int32) (v_this_written : Int32) (v_this_at : Int32) (v_this_begin : Int32) (v_this_words : Int32) (v_this_paste0 : Int64) (v_told : Nat → Int32) (v_leftOut : Nat → Int32) (v_isMade : Nat → Int32) (post : Int32 → Int32 → Int32 → (Nat → Int32) → (Nat → Int32) → (Nat → Int32) → Prop) (hK : va_K (dC, dI) vwCl [(k_told, .boolean), (k_leftOut, .boolean), (k_isMade, .boolean)] s) : ∀ (n : Nat), ∀ (y1 : Int32) (u_this_thrown : Int32) (u_this_size : Int32) (u_this_atHand : Int32) (u_told : Nat → Int32) (u_leftOut : Nat → Int32) (H : Heap) (locs : List Loc), P_M_clear_38 v_isMade post n y1 u_this_thrown u_this_size u_this_atHand u_told u_leftOut → va_P (dC, dI) vwCl (w_M_clear ad a_this a_units a_kinds a_values a_names a_low a_high a_told a_leftOut a_isMade a_hands a_pad a_court a_title a_out k_told k_leftOut k_isMade u_this_thrown u_this_size v_this_families u_this_atHand v_this_family v_this_density v_this_pads v_this_hasThermal v_this_titleSize v_this_written v_this_at v_this_begin v_this_words v_this_paste0 u_told u_leftOut v_isMade) H → va_D A (w_M_clear ad a_this a_units a_kinds a_values a_names a_low a_high a_told a_leftOut a_isMade a_hands a_pad a_court a_title a_out k_told k_leftOut k_isMade u_this_thrown u_this_size v_this_families u_this_atHand v_this_family v_this_density v_this_pads v_this_hasThermal v_this_titleSize v_this_written v_this_at v_this_begin v_this_words v_this_paste0 u_told u_leftOut v_isMade) → va_S A s.heap H locs → ∀ ls : Array Slot, lv_has ls 2 [(0, .ref a_this), (1, .int y1)] → W p l e (headSpec wsM_clear { frames := 0, cells := 0, slots := 0, locals := 0 }).room s m args below meth c H locs 0 0 (MQ below (va_Qv (fun (u : Int32 × Int32 × Int32 × (Nat → Int32) × (Nat → Int32) × (Nat → Int32)) => post u.1 u.2.1 u.2.2.1 u.2.2.2.1 u.2.2.2.2.1 u.2.2.2.2.2) (zB (dC, dI) A (fun (u : Int32 × Int32 × Int32 × (Nat → Int32) × (Nat → Int32) × (Nat → Int32)) => (w_M_clear ad a_this a_units a_kinds a_values a_names a_low a_high a_told a_leftOut a_isMade a_hands a_pad a_court a_title a_out k_told k_leftOut k_isMade u.1 u.2.1 v_this_families u.2.2.1 v_this_family v_this_density v_this_pads v_this_hasThermal v_this_titleSize v_this_written v_this_at v_this_begin v_this_words v_this_paste0 u.2.2.2.1 u.2.2.2.2.1 u.2.2.2.2.2))) A) args s 0 0 A) (F0 m 38 ls []) := by
  obtain ⟨hx, hb, hr, hml, hown, hts, hlocks, hA⟩ := id C0
  intro n
  induction n with
  | zero =>
    intro y1 u_this_thrown u_this_size u_this_atHand u_told u_leftOut H locs h
    exact False.elim h
  | succ n ih =>
    intro y1 u_this_thrown u_this_size u_this_atHand u_told u_leftOut H locs h hP hD hS ls hl
    rw [P_M_clear_38] at h
    refine lv_iload_n hx hb dM_clear_38 rfl (lv_at hl 1 rfl) ?_
    refine lv_bipush (v := 65) hx hb dM_clear_39 (by decide) ?_
    refine lv_icmp_ge (tgt := 57) hx hb dM_clear_41 (by decide) ?_ ?_
    · intro c1
      replace h := h.1 c1
      refine lv_iconst (v := 0) hx hb dM_clear_57 (by decide) ?_
      refine lv_istore_n (lv' := [(1, .int 0), (0, .ref a_this)]) hx hb dM_clear_58 rfl hl (by decide) rfl (fun ls hl => ?_)
      obtain ⟨n2, h⟩ := h
      exact w_M_clear_59 l C0 hE a_this a_units a_kinds a_values a_names a_low a_high a_told a_leftOut a_isMade a_hands a_pad a_court a_title a_out k_told k_leftOut k_isMade v_this_thrown v_this_size v_this_families v_this_atHand v_this_family v_this_density v_this_pads v_this_hasThermal v_this_titleSize v_this_written v_this_at v_this_begin v_this_words v_this_paste0 v_told v_leftOut v_isMade post hK n2 0 u_this_thrown u_this_size u_this_atHand u_told u_leftOut v_isMade _ _ h hP hD hS ls (lv_sub hl [1, 0] rfl)
    · intro c1
      replace h := h.2 c1
      refine lv_aload_n hx hb dM_clear_44 rfl (lv_at hl 0 rfl) ?_
      refine va_get (D := (dC, dI)) (ci := 10) (v := .ref a_leftOut) (C := RM) (T := TM) (N := 28) hx hb hts inZ_M hown hK hP 0 rfl rfl 10 (by decide) (hts _ zw_1054) (fun _ h9 => h9) rfl dM_clear_45 ?_
      refine lv_iload_n hx hb dM_clear_48 rfl (lv_at hl 1 rfl) ?_
      refine lv_iconst (v := 0) hx hb dM_clear_49 (by decide) ?_
      obtain ⟨hn3, h⟩ := h
      refine va_zast hx hb hK hP hD hS 2 1 rfl rfl hn3 dM_clear_50 (fun H locs hP hD hS => ?_)
      have hP : va_P (dC, dI) vwCl (w_M_clear ad a_this a_units a_kinds a_values a_names a_low a_high a_told a_leftOut a_isMade a_hands a_pad a_court a_title a_out k_told k_leftOut k_isMade u_this_thrown u_this_size v_this_families u_this_atHand v_this_family v_this_density v_this_pads v_this_hasThermal v_this_titleSize v_this_written v_this_at v_this_begin v_this_words v_this_paste0 u_told (upd u_leftOut y1.toNatClampNeg (vp_nar .boolean 0)) v_isMade) H := hP
      have hD : va_D A (w_M_clear ad a_this a_units a_kinds a_values a_names a_low a_high a_told a_leftOut a_isMade a_hands a_pad a_court a_title a_out k_told k_leftOut k_isMade u_this_thrown u_this_size v_this_families u_this_atHand v_this_family v_this_density v_this_pads v_this_hasThermal v_this_titleSize v_this_written v_this_at v_this_begin v_this_words v_this_paste0 u_told (upd u_leftOut y1.toNatClampNeg (vp_nar .boolean 0)) v_isMade) := hD
      obtain ⟨x4, ex4⟩ : ∃ y : Int32, y = y1 + 1 := ⟨_, rfl⟩
      replace h := h x4 ex4
      refine lv_iinc (v := x4) (lv' := [(1, .int x4), (0, .ref a_this)]) hx hb dM_clear_51 hl (k := 1) rfl (by rw [ex4]; rfl) (by decide) rfl (fun ls hl => ?_)
      refine lv_goto (tgt := 38) hx hb dM_clear_54 (by decide) ?_
      exact ih x4 u_this_thrown u_this_size u_this_atHand u_told (upd u_leftOut y1.toNatClampNeg (vp_nar .boolean 0)) _ _ h hP hD hS ls (lv_sub hl [1, 0] rfl)
def P_M_clear_17 (v_leftOut : Nat → Int32) (v_isMade : Nat → Int32) (post : Int32 → Int32 → Int32 → (Nat → Int32) → (Nat → Int32) → (Nat → Int32) → Prop) : Nat → Int32 → Int32 → Int32 → Int32 → (Nat → Int32) → Prop
  | 0, _, _, _, _, _ => False
  | n + 1, y1, u_this_thrown, u_this_size, u_this_atHand, u_told => ((12 ≤ y1 → ∃ n2, P_M_clear_38 v_isMade post n2 0 u_this_thrown u_this_size u_this_atHand u_told v_leftOut) ∧ (¬ 12 ≤ y1 → vp_in y1 12 ∧ ∀ x4 : Int32, x4 = y1 + 1 → P_M_clear_17 v_leftOut v_isMade post n x4 u_this_thrown u_this_size u_this_atHand (upd u_told y1.toNatClampNeg (vp_nar .boolean 0))))
set_option maxHeartbeats 4000000 in
set_option maxRecDepth 100000 in
theorem w_M_clear_17 (l : Launch) {p : Program} {e : Env} {s : State} {m : MethodId} {args : Array Value} {below : List Frame} {meth : Method} {c : Code} {dC : Nat → ClassId} {dI : Nat → Nat → Nat} {ad : Nat → Nat → Nat} {A : Nat → Prop} (C0 : zC p s m args meth c cM_clear 2 RM zT none A) (hE : zE ad A s) (a_this : Nat) (a_units : Nat) (a_kinds : Nat) (a_values : Nat) (a_names : Nat) (a_low : Nat) (a_high : Nat) (a_told : Nat) (a_leftOut : Nat) (a_isMade : Nat) (a_hands : Nat) (a_pad : Nat) (a_court : Nat) (a_title : Nat) (a_out : Nat) (k_told : ClassId) (k_leftOut : ClassId) (k_isMade : ClassId) (v_this_thrown : Int32) (v_this_size : Int32) (v_this_families : Int32) (v_this_atHand : Int32) (v_this_family : Int32) (v_this_density : Int32) (v_this_pads : Int32) (v_this_hasThermal : Int32) (v_this_titleSize : Int32) (v_this_written : Int32) (v_this_at : Int32) (v_this_begin : Int32) (v_this_words : Int32) (v_this_paste0 : Int64) (v_told : Nat → Int32) (v_leftOut : Nat → Int32) (v_isMade : Nat → Int32) (post : Int32 → Int32 → Int32 → (Nat → Int32) → (Nat → Int32) → (Nat → Int32) → Prop) (hK : va_K (dC, dI) vwCl [(k_told, .boolean), (k_leftOut, .boolean), (k_isMade, .boolean)] s) : ∀ (n : Nat), ∀ (y1 : Int32) (u_this_thrown : Int32) (u_this_size : Int32) (u_this_atHand : Int32) (u_told : Nat → Int32) (H : Heap) (locs : List Loc), P_M_clear_17 v_leftOut v_isMade post n y1 u_this_thrown u_this_size u_this_atHand u_told → va_P (dC, dI) vwCl (w_M_clear ad a_this a_units a_kinds a_values a_names a_low a_high a_told a_leftOut a_isMade a_hands a_pad a_court a_title a_out k_told k_leftOut k_isMade u_this_thrown u_this_size v_this_families u_this_atHand v_this_family v_this_density v_this_pads v_this_hasThermal v_this_titleSize v_this_written v_this_at v_this_begin v_this_words v_this_paste0 u_told v_leftOut v_isMade) H → va_D A (w_M_clear ad a_this a_units a_kinds a_values a_names a_low a_high a_told a_leftOut a_isMade a_hands a_pad a_court a_title a_out k_told k_leftOut k_isMade u_this_thrown u_this_size v_this_families u_this_atHand v_this_family v_this_density v_this_pads v_this_hasThermal v_this_titleSize v_this_written v_this_at v_this_begin v_this_words v_this_paste0 u_told v_leftOut v_isMade) → va_S A s.heap H locs → ∀ ls : Array Slot, lv_has ls 2 [(0, .ref a_this), (1, .int y1)] → W p l e (headSpec wsM_clear { frames := 0, cells := 0, slots := 0, locals := 0 }).room s m args below meth c H locs 0 0 (MQ below (va_Qv (fun (u : Int32 × Int32 × Int32 × (Nat → Int32) × (Nat → Int32) × (Nat → Int32)) => post u.1 u.2.1 u.2.2.1 u.2.2.2.1 u.2.2.2.2.1 u.2.2.2.2.2) (zB (dC, dI) A (fun (u : Int32 × Int32 × Int32 × (Nat → Int32) × (Nat → Int32) × (Nat → Int32)) => (w_M_clear ad a_this a_units a_kinds a_values a_names a_low a_high a_told a_leftOut a_isMade a_hands a_pad a_court a_title a_out k_told k_leftOut k_isMade u.1 u.2.1 v_this_families u.2.2.1 v_this_family v_this_density v_this_pads v_this_hasThermal v_this_titleSize v_this_written v_this_at v_this_begin v_this_words v_this_paste0 u.2.2.2.1 u.2.2.2.2.1 u.2.2.2.2.2))) A) args s 0 0 A) (F0 m 17 ls []) := by
  obtain ⟨hx, hb, hr, hml, hown, hts, hlocks, hA⟩ := id C0
  intro n
  induction n with
  | zero =>
    intro y1 u_this_thrown u_this_size u_this_atHand u_told H locs h
    exact False.elim h
  | succ n ih =>
    intro y1 u_this_thrown u_this_size u_this_atHand u_told H locs h hP hD hS ls hl
    rw [P_M_clear_17] at h
    refine lv_iload_n hx hb dM_clear_17 rfl (lv_at hl 1 rfl) ?_
    refine lv_bipush (v := 12) hx hb dM_clear_18 (by decide) ?_
    refine lv_icmp_ge (tgt := 36) hx hb dM_clear_20 (by decide) ?_ ?_
    · intro c1
      replace h := h.1 c1
      refine lv_iconst (v := 0) hx hb dM_clear_36 (by decide) ?_
      refine lv_istore_n (lv' := [(1, .int 0), (0, .ref a_this)]) hx hb dM_clear_37 rfl hl (by decide) rfl (fun ls hl => ?_)
      obtain ⟨n2, h⟩ := h
      exact w_M_clear_38 l C0 hE a_this a_units a_kinds a_values a_names a_low a_high a_told a_leftOut a_isMade a_hands a_pad a_court a_title a_out k_told k_leftOut k_isMade v_this_thrown v_this_size v_this_families v_this_atHand v_this_family v_this_density v_this_pads v_this_hasThermal v_this_titleSize v_this_written v_this_at v_this_begin v_this_words v_this_paste0 v_told v_leftOut v_isMade post hK n2 0 u_this_thrown u_this_size u_this_atHand u_told v_leftOut _ _ h hP hD hS ls (lv_sub hl [1, 0] rfl)
    · intro c1
      replace h := h.2 c1
      refine lv_aload_n hx hb dM_clear_23 rfl (lv_at hl 0 rfl) ?_
      refine va_get (D := (dC, dI)) (ci := 10) (v := .ref a_told) (C := RM) (T := TM) (N := 28) hx hb hts inZ_M hown hK hP 0 rfl rfl 9 (by decide) (hts _ zw_1053) (fun _ h9 => h9) rfl dM_clear_24 ?_
      refine lv_iload_n hx hb dM_clear_27 rfl (lv_at hl 1 rfl) ?_
      refine lv_iconst (v := 0) hx hb dM_clear_28 (by decide) ?_
      obtain ⟨hn3, h⟩ := h
      refine va_zast hx hb hK hP hD hS 1 0 rfl rfl hn3 dM_clear_29 (fun H locs hP hD hS => ?_)
      have hP : va_P (dC, dI) vwCl (w_M_clear ad a_this a_units a_kinds a_values a_names a_low a_high a_told a_leftOut a_isMade a_hands a_pad a_court a_title a_out k_told k_leftOut k_isMade u_this_thrown u_this_size v_this_families u_this_atHand v_this_family v_this_density v_this_pads v_this_hasThermal v_this_titleSize v_this_written v_this_at v_this_begin v_this_words v_this_paste0 (upd u_told y1.toNatClampNeg (vp_nar .boolean 0)) v_leftOut v_isMade) H := hP
      have hD : va_D A (w_M_clear ad a_this a_units a_kinds a_values a_names a_low a_high a_told a_leftOut a_isMade a_hands a_pad a_court a_title a_out k_told k_leftOut k_isMade u_this_thrown u_this_size v_this_families u_this_atHand v_this_family v_this_density v_this_pads v_this_hasThermal v_this_titleSize v_this_written v_this_at v_this_begin v_this_words v_this_paste0 (upd u_told y1.toNatClampNeg (vp_nar .boolean 0)) v_leftOut v_isMade) := hD
      obtain ⟨x4, ex4⟩ : ∃ y : Int32, y = y1 + 1 := ⟨_, rfl⟩
      replace h := h x4 ex4
      refine lv_iinc (v := x4) (lv' := [(1, .int x4), (0, .ref a_this)]) hx hb dM_clear_30 hl (k := 1) rfl (by rw [ex4]; rfl) (by decide) rfl (fun ls hl => ?_)
      refine lv_goto (tgt := 17) hx hb dM_clear_33 (by decide) ?_
      exact ih x4 u_this_thrown u_this_size u_this_atHand (upd u_told y1.toNatClampNeg (vp_nar .boolean 0)) _ _ h hP hD hS ls (lv_sub hl [1, 0] rfl)
def P_M_clear (v_told : Nat → Int32) (v_leftOut : Nat → Int32) (v_isMade : Nat → Int32) (post : Int32 → Int32 → Int32 → (Nat → Int32) → (Nat → Int32) → (Nat → Int32) → Prop) : Prop := ∃ n1, P_M_clear_17 v_leftOut v_isMade post n1 0 0 0 0 v_told
set_option maxHeartbeats 4000000 in
set_option maxRecDepth 100000 in
theorem c_M_clear (l : Launch) (dC : Nat → ClassId) (dI : Nat → Nat → Nat) (ad : Nat → Nat → Nat) (a_this : Nat) (a_units : Nat) (a_kinds : Nat) (a_values : Nat) (a_names : Nat) (a_low : Nat) (a_high : Nat) (a_told : Nat) (a_leftOut : Nat) (a_isMade : Nat) (a_hands : Nat) (a_pad : Nat) (a_court : Nat) (a_title : Nat) (a_out : Nat) (k_told : ClassId) (k_leftOut : ClassId) (k_isMade : ClassId) (sz : Nat) (v_this_thrown : Int32) (v_this_size : Int32) (v_this_families : Int32) (v_this_atHand : Int32) (v_this_family : Int32) (v_this_density : Int32) (v_this_pads : Int32) (v_this_hasThermal : Int32) (v_this_titleSize : Int32) (v_this_written : Int32) (v_this_at : Int32) (v_this_begin : Int32) (v_this_words : Int32) (v_this_paste0 : Int64) (v_told : Nat → Int32) (v_leftOut : Nat → Int32) (v_isMade : Nat → Int32) (post : Int32 → Int32 → Int32 → (Nat → Int32) → (Nat → Int32) → (Nat → Int32) → Prop) (h : P_M_clear v_told v_leftOut v_isMade post) : zMv l yM_clear wsM_clear { frames := 0, cells := 0, slots := 0, locals := 0 } (dC, dI) ad [.ref a_this] (w_M_clear ad a_this a_units a_kinds a_values a_names a_low a_high a_told a_leftOut a_isMade a_hands a_pad a_court a_title a_out k_told k_leftOut k_isMade v_this_thrown v_this_size v_this_families v_this_atHand v_this_family v_this_density v_this_pads v_this_hasThermal v_this_titleSize v_this_written v_this_at v_this_begin v_this_words v_this_paste0 v_told v_leftOut v_isMade) [(k_told, .boolean), (k_leftOut, .boolean), (k_isMade, .boolean)] sz (fun (u : Int32 × Int32 × Int32 × (Nat → Int32) × (Nat → Int32) × (Nat → Int32)) => post u.1 u.2.1 u.2.2.1 u.2.2.2.1 u.2.2.2.2.1 u.2.2.2.2.2) (fun (u : Int32 × Int32 × Int32 × (Nat → Int32) × (Nat → Int32) × (Nat → Int32)) => (w_M_clear ad a_this a_units a_kinds a_values a_names a_low a_high a_told a_leftOut a_isMade a_hands a_pad a_court a_title a_out k_told k_leftOut k_isMade u.1 u.2.1 v_this_families u.2.2.1 v_this_family v_this_density v_this_pads v_this_hasThermal v_this_titleSize v_this_written v_this_at v_this_begin v_this_words v_this_paste0 u.2.2.2.1 u.2.2.2.2.1 u.2.2.2.2.2)) 0 0 := by
  refine Met.ofW (cc := cM_clear) (maxL := 2) (ret := none) (by decide +kernel) rfl ?_
  intro p e s m args below meth c s₁ B hml hv
  obtain ⟨rfl, hsz, hP, hK, hD0, hE⟩ := hv
  have hx := B.exec
  have hb := B.bytes
  have hr := B.returns
  have hts0 := atoms_spec (ws := wsM_clear) B.pre
  have hts := fun w h => hts0 w (List.mem_cons_of_mem _ h)
  have hown : s.vm.findClass RM = some m.cls := findClass_of_methodNamed B.named
  have hlocks := B.notSynchronized
  subst hsz
  have hD := hD0.self (sz := s.heap.size)
  generalize hAe : va_A (w_M_clear ad a_this a_units a_kinds a_values a_names a_low a_high a_told a_leftOut a_isMade a_hands a_pad a_court a_title a_out k_told k_leftOut k_isMade v_this_thrown v_this_size v_this_families v_this_atHand v_this_family v_this_density v_this_pads v_this_hasThermal v_this_titleSize v_this_written v_this_at v_this_begin v_this_words v_this_paste0 v_told v_leftOut v_isMade) s.heap.size = A at hD hE ⊢
  have hA : ∀ q : Nat, s.heap.size ≤ q → A q := fun q h => by rw [← hAe]; exact Or.inr h
  have C0 := zC.mk hx hb hr hml hown hts hlocks hA
  have hS : va_S A s.heap s.heap [] := va_S.rf
  have hl := lv_entry ([.ref a_this]) (n := 2) (Nat.le_of_ble_eq_true rfl)
  rw [lg_entry_eq]
  generalize (lg_sl ([.ref a_this]) ++ List.replicate (2 - (lg_sl ([.ref a_this])).length) Slot.unset).toArray = ls at hl ⊢
  have hl : lv_has ls 2 [(0, .ref a_this)] := hl
  unfold P_M_clear at h
  refine lv_aload_n hx hb dM_clear_0 rfl (lv_at hl 0 rfl) ?_
  refine lv_iconst (v := 0) hx hb dM_clear_1 (by decide) ?_
  refine va_put (D := (dC, dI)) (ci := 10) (v := .int 0) (ty := .int) (C := RM) (T := TM) (N := 28) hx hb hts inZ_M tyM tyM_ok nmM hown hK hP hD hS 0 rfl rfl 0 (by decide) (hts _ zw_1044) (fun _ h9 => h9) rfl (by decide +kernel) rfl rfl (Nat.le_of_ble_eq_true rfl) dM_clear_2 (fun H locs hP hD hS => ?_)
  have hP : va_P (dC, dI) vwCl (w_M_clear ad a_this a_units a_kinds a_values a_names a_low a_high a_told a_leftOut a_isMade a_hands a_pad a_court a_title a_out k_told k_leftOut k_isMade 0 v_this_size v_this_families v_this_atHand v_this_family v_this_density v_this_pads v_this_hasThermal v_this_titleSize v_this_written v_this_at v_this_begin v_this_words v_this_paste0 v_told v_leftOut v_isMade) H := hP
  have hD : va_D A (w_M_clear ad a_this a_units a_kinds a_values a_names a_low a_high a_told a_leftOut a_isMade a_hands a_pad a_court a_title a_out k_told k_leftOut k_isMade 0 v_this_size v_this_families v_this_atHand v_this_family v_this_density v_this_pads v_this_hasThermal v_this_titleSize v_this_written v_this_at v_this_begin v_this_words v_this_paste0 v_told v_leftOut v_isMade) := hD
  refine lv_aload_n hx hb dM_clear_5 rfl (lv_at hl 0 rfl) ?_
  refine lv_iconst (v := 0) hx hb dM_clear_6 (by decide) ?_
  refine va_put (D := (dC, dI)) (ci := 10) (v := .int 0) (ty := .int) (C := RM) (T := TM) (N := 28) hx hb hts inZ_M tyM tyM_ok nmM hown hK hP hD hS 0 rfl rfl 2 (by decide) (hts _ zw_1046) (fun _ h9 => h9) rfl (by decide +kernel) rfl rfl (Nat.le_of_ble_eq_true rfl) dM_clear_7 (fun H locs hP hD hS => ?_)
  have hP : va_P (dC, dI) vwCl (w_M_clear ad a_this a_units a_kinds a_values a_names a_low a_high a_told a_leftOut a_isMade a_hands a_pad a_court a_title a_out k_told k_leftOut k_isMade 0 0 v_this_families v_this_atHand v_this_family v_this_density v_this_pads v_this_hasThermal v_this_titleSize v_this_written v_this_at v_this_begin v_this_words v_this_paste0 v_told v_leftOut v_isMade) H := hP
  have hD : va_D A (w_M_clear ad a_this a_units a_kinds a_values a_names a_low a_high a_told a_leftOut a_isMade a_hands a_pad a_court a_title a_out k_told k_leftOut k_isMade 0 0 v_this_families v_this_atHand v_this_family v_this_density v_this_pads v_this_hasThermal v_this_titleSize v_this_written v_this_at v_this_begin v_this_words v_this_paste0 v_told v_leftOut v_isMade) := hD
  refine lv_aload_n hx hb dM_clear_10 rfl (lv_at hl 0 rfl) ?_
  refine lv_iconst (v := 0) hx hb dM_clear_11 (by decide) ?_
  refine va_put (D := (dC, dI)) (ci := 10) (v := .int 0) (ty := .boolean) (C := RM) (T := TM) (N := 28) hx hb hts inZ_M tyM tyM_ok nmM hown hK hP hD hS 0 rfl rfl 13 (by decide) (hts _ zw_1057) (fun _ h9 => h9) rfl (by decide +kernel) rfl rfl (Nat.le_of_ble_eq_true rfl) dM_clear_12 (fun H locs hP hD hS => ?_)
  have hP : va_P (dC, dI) vwCl (w_M_clear ad a_this a_units a_kinds a_values a_names a_low a_high a_told a_leftOut a_isMade a_hands a_pad a_court a_title a_out k_told k_leftOut k_isMade 0 0 v_this_families 0 v_this_family v_this_density v_this_pads v_this_hasThermal v_this_titleSize v_this_written v_this_at v_this_begin v_this_words v_this_paste0 v_told v_leftOut v_isMade) H := hP
  have hD : va_D A (w_M_clear ad a_this a_units a_kinds a_values a_names a_low a_high a_told a_leftOut a_isMade a_hands a_pad a_court a_title a_out k_told k_leftOut k_isMade 0 0 v_this_families 0 v_this_family v_this_density v_this_pads v_this_hasThermal v_this_titleSize v_this_written v_this_at v_this_begin v_this_words v_this_paste0 v_told v_leftOut v_isMade) := hD
  refine lv_iconst (v := 0) hx hb dM_clear_15 (by decide) ?_
  refine lv_istore_n (lv' := [(1, .int 0), (0, .ref a_this)]) hx hb dM_clear_16 rfl hl (by decide) rfl (fun ls hl => ?_)
  obtain ⟨n1, h⟩ := h
  exact w_M_clear_17 l C0 hE a_this a_units a_kinds a_values a_names a_low a_high a_told a_leftOut a_isMade a_hands a_pad a_court a_title a_out k_told k_leftOut k_isMade v_this_thrown v_this_size v_this_families v_this_atHand v_this_family v_this_density v_this_pads v_this_hasThermal v_this_titleSize v_this_written v_this_at v_this_begin v_this_words v_this_paste0 v_told v_leftOut v_isMade post hK n1 0 0 0 0 v_told _ _ h hP hD hS ls (lv_sub hl [1, 0] rfl)
abbrev yM_up : MethodName := ⟨"FootprintRulesModel", "up", "(JJ)J"⟩
abbrev cM_up : ByteArray := prog_14_method_18_code
abbrev wsM_up : List Cond := .code yM_up cM_up 6 (some .long) :: zT
set_option maxRecDepth 100000 in
theorem zc_M_up : Cond.code yM_up cM_up 6 (some .long) ∈ zT := zm 1220 (by rfl) (by rfl)
theorem dM_up_0 : decode cM_up 0 = .ok (.lload_n 0, 1) := by decide +kernel
theorem dM_up_1 : decode cM_up 1 = .ok (.lload_n 2, 1) := by decide +kernel
theorem dM_up_2 : decode cM_up 2 = .ok (.lrem, 1) := by decide +kernel
theorem dM_up_3 : decode cM_up 3 = .ok (.lstore 4, 2) := by decide +kernel
theorem dM_up_5 : decode cM_up 5 = .ok (.lload 4, 2) := by decide +kernel
theorem dM_up_7 : decode cM_up 7 = .ok (.lconst 0, 1) := by decide +kernel
theorem dM_up_8 : decode cM_up 8 = .ok (.lcmp, 1) := by decide +kernel
theorem dM_up_9 : decode cM_up 9 = .ok (.ifCond .ne 7, 3) := by decide +kernel
theorem dM_up_12 : decode cM_up 12 = .ok (.lload_n 0, 1) := by decide +kernel
theorem dM_up_13 : decode cM_up 13 = .ok (.goto 23, 3) := by decide +kernel
theorem dM_up_16 : decode cM_up 16 = .ok (.lload 4, 2) := by decide +kernel
theorem dM_up_18 : decode cM_up 18 = .ok (.lconst 0, 1) := by decide +kernel
theorem dM_up_19 : decode cM_up 19 = .ok (.lcmp, 1) := by decide +kernel
theorem dM_up_20 : decode cM_up 20 = .ok (.ifCond .ge 10, 3) := by decide +kernel
theorem dM_up_23 : decode cM_up 23 = .ok (.lload_n 0, 1) := by decide +kernel
theorem dM_up_24 : decode cM_up 24 = .ok (.lload 4, 2) := by decide +kernel
theorem dM_up_26 : decode cM_up 26 = .ok (.lsub, 1) := by decide +kernel
theorem dM_up_27 : decode cM_up 27 = .ok (.goto 9, 3) := by decide +kernel
theorem dM_up_30 : decode cM_up 30 = .ok (.lload_n 0, 1) := by decide +kernel
theorem dM_up_31 : decode cM_up 31 = .ok (.lload 4, 2) := by decide +kernel
theorem dM_up_33 : decode cM_up 33 = .ok (.lsub, 1) := by decide +kernel
theorem dM_up_34 : decode cM_up 34 = .ok (.lload_n 2, 1) := by decide +kernel
theorem dM_up_35 : decode cM_up 35 = .ok (.ladd, 1) := by decide +kernel
theorem dM_up_36 : decode cM_up 36 = .ok (.lreturn, 1) := by decide +kernel
-- FootprintRulesModel.up(JJ)J
abbrev w_M_up (ad : Nat → Nat → Nat)    : va_W := []
def P_M_up (p0 : Int64) (p2 : Int64) (post : Int64 → Prop) : Prop := ¬ p2 = 0 ∧ ∀ x2 : Int64, x2 = p0 - p0 / p2 * p2 → ((¬ x2 = 0 → ((0 ≤ x2 → post ((p0 - x2) + p2)) ∧ (¬ 0 ≤ x2 → post (p0 - x2)))) ∧ (x2 = 0 → post p0))
set_option maxHeartbeats 4000000 in
set_option maxRecDepth 100000 in
theorem c_M_up (l : Launch) (dC : Nat → ClassId) (dI : Nat → Nat → Nat) (ad : Nat → Nat → Nat)   (sz : Nat) (p0 : Int64) (p2 : Int64) (post : Int64 → Prop) (h : P_M_up p0 p2 post) : zMl l yM_up wsM_up { frames := 0, cells := 0, slots := 0, locals := 0 } (dC, dI) ad [.long p0, .long p2] (w_M_up ad ) [] sz (fun (r : Int64) (u : Unit) => post r) (fun (u : Unit) => (w_M_up ad )) 0 0 := by
  refine Met.ofW (cc := cM_up) (maxL := 6) (ret := (some .long)) (by decide +kernel) rfl ?_
  intro p e s m args below meth c s₁ B hml hv
  obtain ⟨rfl, hsz, hP, hK, hD0, hE⟩ := hv
  have hx := B.exec
  have hb := B.bytes
  have hr := B.returns
  have hts0 := atoms_spec (ws := wsM_up) B.pre
  have hts := fun w h => hts0 w (List.mem_cons_of_mem _ h)
  have hown : s.vm.findClass RM = some m.cls := findClass_of_methodNamed B.named
  have hlocks := B.notSynchronized
  subst hsz
  have hD := hD0.self (sz := s.heap.size)
  generalize hAe : va_A (w_M_up ad ) s.heap.size = A at hD hE ⊢
  have hA : ∀ q : Nat, s.heap.size ≤ q → A q := fun q h => by rw [← hAe]; exact Or.inr h
  have C0 := zC.mk hx hb hr hml hown hts hlocks hA
  have hS : va_S A s.heap s.heap [] := va_S.rf
  have hl := lv_entry ([.long p0, .long p2]) (n := 6) (Nat.le_of_ble_eq_true rfl)
  rw [lg_entry_eq]
  generalize (lg_sl ([.long p0, .long p2]) ++ List.replicate (6 - (lg_sl ([.long p0, .long p2])).length) Slot.unset).toArray = ls at hl ⊢
  have hl : lv_has ls 6 [(0, .long p0), (2, .long p2)] := hl
  unfold P_M_up at h
  refine lv_lload_n hx hb dM_up_0 rfl (lv_at hl 0 rfl) ?_
  refine lv_lload_n hx hb dM_up_1 rfl (lv_at hl 1 rfl) ?_
  obtain ⟨hn1, h⟩ := h
  refine lv_lrem hx hb dM_up_2 hn1 ?_
  refine lv_topl (fun x2 ex2 => ?_)
  replace h := h x2 ex2
  refine lv_lstore (lv' := [(4, .long x2), (0, .long p0), (2, .long p2)]) hx hb dM_up_3 hl (by decide) rfl (fun ls hl => ?_)
  refine lv_lload hx hb dM_up_5 (lv_at hl 0 rfl) ?_
  refine lv_lconst (v := 0) hx hb dM_up_7 (by decide) ?_
  refine zz_lcmp_ne (tgt := 16) hx hb dM_up_8 dM_up_9 (by decide) ?_ ?_
  · intro c3
    replace h := h.1 c3
    refine lv_lload hx hb dM_up_16 (lv_at hl 0 rfl) ?_
    refine lv_lconst (v := 0) hx hb dM_up_18 (by decide) ?_
    refine zz_lcmp_ge (tgt := 30) hx hb dM_up_19 dM_up_20 (by decide) ?_ ?_
    · intro c4
      replace h := h.1 c4
      refine lv_lload_n hx hb dM_up_30 rfl (lv_at hl 1 rfl) ?_
      refine lv_lload hx hb dM_up_31 (lv_at hl 0 rfl) ?_
      refine lv_lsub hx hb dM_up_33 ?_
      refine lv_lload_n hx hb dM_up_34 rfl (lv_at hl 2 rfl) ?_
      refine lv_ladd hx hb dM_up_35 ?_
      exact W.lret (v := ((p0 - x2) + p2)) hx hb hr (fun t ht hW => ⟨⟨((p0 - x2) + p2), (()), rfl, h, by rw [ht]; exact hP, hD⟩, hS.F ht⟩) hS.2.2 dM_up_36
    · intro c4
      replace h := h.2 c4
      refine lv_lload_n hx hb dM_up_23 rfl (lv_at hl 1 rfl) ?_
      refine lv_lload hx hb dM_up_24 (lv_at hl 0 rfl) ?_
      refine lv_lsub hx hb dM_up_26 ?_
      refine lv_goto (tgt := 36) hx hb dM_up_27 (by decide) ?_
      exact W.lret (v := (p0 - x2)) hx hb hr (fun t ht hW => ⟨⟨(p0 - x2), (()), rfl, h, by rw [ht]; exact hP, hD⟩, hS.F ht⟩) hS.2.2 dM_up_36
  · intro c3
    replace h := h.2 c3
    refine lv_lload_n hx hb dM_up_12 rfl (lv_at hl 1 rfl) ?_
    refine lv_goto (tgt := 36) hx hb dM_up_13 (by decide) ?_
    exact W.lret (v := p0) hx hb hr (fun t ht hW => ⟨⟨p0, (()), rfl, h, by rw [ht]; exact hP, hD⟩, hS.F ht⟩) hS.2.2 dM_up_36
abbrev yM_down : MethodName := ⟨"FootprintRulesModel", "down", "(JJ)J"⟩
abbrev cM_down : ByteArray := prog_14_method_19_code
abbrev wsM_down : List Cond := .code yM_down cM_down 6 (some .long) :: zT
set_option maxRecDepth 100000 in
theorem zc_M_down : Cond.code yM_down cM_down 6 (some .long) ∈ zT := zm 1243 (by rfl) (by rfl)
theorem dM_down_0 : decode cM_down 0 = .ok (.lload_n 0, 1) := by decide +kernel
theorem dM_down_1 : decode cM_down 1 = .ok (.lload_n 2, 1) := by decide +kernel
theorem dM_down_2 : decode cM_down 2 = .ok (.lrem, 1) := by decide +kernel
theorem dM_down_3 : decode cM_down 3 = .ok (.lstore 4, 2) := by decide +kernel
theorem dM_down_5 : decode cM_down 5 = .ok (.lload 4, 2) := by decide +kernel
theorem dM_down_7 : decode cM_down 7 = .ok (.lconst 0, 1) := by decide +kernel
theorem dM_down_8 : decode cM_down 8 = .ok (.lcmp, 1) := by decide +kernel
theorem dM_down_9 : decode cM_down 9 = .ok (.ifCond .ge 12, 3) := by decide +kernel
theorem dM_down_12 : decode cM_down 12 = .ok (.lload_n 0, 1) := by decide +kernel
theorem dM_down_13 : decode cM_down 13 = .ok (.lload 4, 2) := by decide +kernel
theorem dM_down_15 : decode cM_down 15 = .ok (.lsub, 1) := by decide +kernel
theorem dM_down_16 : decode cM_down 16 = .ok (.lload_n 2, 1) := by decide +kernel
theorem dM_down_17 : decode cM_down 17 = .ok (.lsub, 1) := by decide +kernel
theorem dM_down_18 : decode cM_down 18 = .ok (.goto 7, 3) := by decide +kernel
theorem dM_down_21 : decode cM_down 21 = .ok (.lload_n 0, 1) := by decide +kernel
theorem dM_down_22 : decode cM_down 22 = .ok (.lload 4, 2) := by decide +kernel
theorem dM_down_24 : decode cM_down 24 = .ok (.lsub, 1) := by decide +kernel
theorem dM_down_25 : decode cM_down 25 = .ok (.lreturn, 1) := by decide +kernel
-- FootprintRulesModel.down(JJ)J
abbrev w_M_down (ad : Nat → Nat → Nat)    : va_W := []
def P_M_down (p0 : Int64) (p2 : Int64) (post : Int64 → Prop) : Prop := ¬ p2 = 0 ∧ ∀ x2 : Int64, x2 = p0 - p0 / p2 * p2 → ((0 ≤ x2 → post (p0 - x2)) ∧ (¬ 0 ≤ x2 → post ((p0 - x2) - p2)))
set_option maxHeartbeats 4000000 in
set_option maxRecDepth 100000 in
theorem c_M_down (l : Launch) (dC : Nat → ClassId) (dI : Nat → Nat → Nat) (ad : Nat → Nat → Nat)   (sz : Nat) (p0 : Int64) (p2 : Int64) (post : Int64 → Prop) (h : P_M_down p0 p2 post) : zMl l yM_down wsM_down { frames := 0, cells := 0, slots := 0, locals := 0 } (dC, dI) ad [.long p0, .long p2] (w_M_down ad ) [] sz (fun (r : Int64) (u : Unit) => post r) (fun (u : Unit) => (w_M_down ad )) 0 0 := by
  refine Met.ofW (cc := cM_down) (maxL := 6) (ret := (some .long)) (by decide +kernel) rfl ?_
  intro p e s m args below meth c s₁ B hml hv
  obtain ⟨rfl, hsz, hP, hK, hD0, hE⟩ := hv
  have hx := B.exec
  have hb := B.bytes
  have hr := B.returns
  have hts0 := atoms_spec (ws := wsM_down) B.pre
  have hts := fun w h => hts0 w (List.mem_cons_of_mem _ h)
  have hown : s.vm.findClass RM = some m.cls := findClass_of_methodNamed B.named
  have hlocks := B.notSynchronized
  subst hsz
  have hD := hD0.self (sz := s.heap.size)
  generalize hAe : va_A (w_M_down ad ) s.heap.size = A at hD hE ⊢
  have hA : ∀ q : Nat, s.heap.size ≤ q → A q := fun q h => by rw [← hAe]; exact Or.inr h
  have C0 := zC.mk hx hb hr hml hown hts hlocks hA
  have hS : va_S A s.heap s.heap [] := va_S.rf
  have hl := lv_entry ([.long p0, .long p2]) (n := 6) (Nat.le_of_ble_eq_true rfl)
  rw [lg_entry_eq]
  generalize (lg_sl ([.long p0, .long p2]) ++ List.replicate (6 - (lg_sl ([.long p0, .long p2])).length) Slot.unset).toArray = ls at hl ⊢
  have hl : lv_has ls 6 [(0, .long p0), (2, .long p2)] := hl
  unfold P_M_down at h
  refine lv_lload_n hx hb dM_down_0 rfl (lv_at hl 0 rfl) ?_
  refine lv_lload_n hx hb dM_down_1 rfl (lv_at hl 1 rfl) ?_
  obtain ⟨hn1, h⟩ := h
  refine lv_lrem hx hb dM_down_2 hn1 ?_
  refine lv_topl (fun x2 ex2 => ?_)
  replace h := h x2 ex2
  refine lv_lstore (lv' := [(4, .long x2), (0, .long p0), (2, .long p2)]) hx hb dM_down_3 hl (by decide) rfl (fun ls hl => ?_)
  refine lv_lload hx hb dM_down_5 (lv_at hl 0 rfl) ?_
  refine lv_lconst (v := 0) hx hb dM_down_7 (by decide) ?_
  refine zz_lcmp_ge (tgt := 21) hx hb dM_down_8 dM_down_9 (by decide) ?_ ?_
  · intro c3
    replace h := h.1 c3
    refine lv_lload_n hx hb dM_down_21 rfl (lv_at hl 1 rfl) ?_
    refine lv_lload hx hb dM_down_22 (lv_at hl 0 rfl) ?_
    refine lv_lsub hx hb dM_down_24 ?_
    exact W.lret (v := (p0 - x2)) hx hb hr (fun t ht hW => ⟨⟨(p0 - x2), (()), rfl, h, by rw [ht]; exact hP, hD⟩, hS.F ht⟩) hS.2.2 dM_down_25
  · intro c3
    replace h := h.2 c3
    refine lv_lload_n hx hb dM_down_12 rfl (lv_at hl 1 rfl) ?_
    refine lv_lload hx hb dM_down_13 (lv_at hl 0 rfl) ?_
    refine lv_lsub hx hb dM_down_15 ?_
    refine lv_lload_n hx hb dM_down_16 rfl (lv_at hl 2 rfl) ?_
    refine lv_lsub hx hb dM_down_17 ?_
    refine lv_goto (tgt := 25) hx hb dM_down_18 (by decide) ?_
    exact W.lret (v := ((p0 - x2) - p2)) hx hb hr (fun t ht hW => ⟨⟨((p0 - x2) - p2), (()), rfl, h, by rw [ht]; exact hP, hD⟩, hS.F ht⟩) hS.2.2 dM_down_25
abbrev yM_of : MethodName := ⟨"FootprintRulesModel", "of", "(I)J"⟩
abbrev cM_of : ByteArray := prog_14_method_20_code
abbrev wsM_of : List Cond := .code yM_of cM_of 2 (some .long) :: zT
set_option maxRecDepth 100000 in
theorem zc_M_of : Cond.code yM_of cM_of 2 (some .long) ∈ zT := zm 1204 (by rfl) (by rfl)
theorem dM_of_0 : decode cM_of 0 = .ok (.aload_n 0, 1) := by decide +kernel
theorem dM_of_1 : decode cM_of 1 = .ok (.getfield 16, 3) := by decide +kernel
theorem dM_of_4 : decode cM_of 4 = .ok (.bipush 30, 2) := by decide +kernel
theorem dM_of_6 : decode cM_of 6 = .ok (.aload_n 0, 1) := by decide +kernel
theorem dM_of_7 : decode cM_of 7 = .ok (.getfield 128, 3) := by decide +kernel
theorem dM_of_10 : decode cM_of 10 = .ok (.imul, 1) := by decide +kernel
theorem dM_of_11 : decode cM_of 11 = .ok (.iconst 3, 1) := by decide +kernel
theorem dM_of_12 : decode cM_of 12 = .ok (.iload_n 1, 1) := by decide +kernel
theorem dM_of_13 : decode cM_of 13 = .ok (.imul, 1) := by decide +kernel
theorem dM_of_14 : decode cM_of 14 = .ok (.iadd, 1) := by decide +kernel
theorem dM_of_15 : decode cM_of 15 = .ok (.iload_n 1, 1) := by decide +kernel
theorem dM_of_16 : decode cM_of 16 = .ok (.iconst 4, 1) := by decide +kernel
theorem dM_of_17 : decode cM_of 17 = .ok (.if_icmp .ge 10, 3) := by decide +kernel
theorem dM_of_20 : decode cM_of 20 = .ok (.aload_n 0, 1) := by decide +kernel
theorem dM_of_21 : decode cM_of 21 = .ok (.getfield 131, 3) := by decide +kernel
theorem dM_of_24 : decode cM_of 24 = .ok (.goto 4, 3) := by decide +kernel
theorem dM_of_27 : decode cM_of 27 = .ok (.iconst 0, 1) := by decide +kernel
theorem dM_of_28 : decode cM_of 28 = .ok (.iadd, 1) := by decide +kernel
theorem dM_of_29 : decode cM_of 29 = .ok (.laload, 1) := by decide +kernel
theorem dM_of_30 : decode cM_of 30 = .ok (.lreturn, 1) := by decide +kernel
-- FootprintRulesModel.of(I)J
abbrev w_M_of (ad : Nat → Nat → Nat) (a_this : Nat) (a_units : Nat) (a_kinds : Nat) (a_values : Nat) (a_names : Nat) (a_low : Nat) (a_high : Nat) (a_told : Nat) (a_leftOut : Nat) (a_isMade : Nat) (a_hands : Nat) (a_pad : Nat) (a_court : Nat) (a_title : Nat) (a_out : Nat) (k_values : ClassId) (v_this_thrown : Int32) (v_this_size : Int32) (v_this_families : Int32) (v_this_atHand : Int32) (v_this_family : Int32) (v_this_density : Int32) (v_this_pads : Int32) (v_this_hasThermal : Int32) (v_this_titleSize : Int32) (v_this_written : Int32) (v_this_at : Int32) (v_this_begin : Int32) (v_this_words : Int32) (v_this_paste0 : Int64) (v_values : Nat → Int64) : va_W := [(a_this, .inr (10, [.int v_this_thrown, .ref a_units, .int v_this_size, .int v_this_families, .ref a_kinds, .ref a_values, .ref a_names, .ref a_low, .ref a_high, .ref a_told, .ref a_leftOut, .ref a_isMade, .ref a_hands, .int v_this_atHand, .int v_this_family, .int v_this_density, .int v_this_pads, .ref a_pad, .ref a_court, .int v_this_hasThermal, .ref a_title, .int v_this_titleSize, .ref a_out, .int v_this_written, .int v_this_at, .int v_this_begin, .int v_this_words, .long v_this_paste0])), (a_values, .inl (k_values, 240, .inr (.inl v_values)))]
def P_M_of (p1 : Int32) (v_this_family : Int32) (v_this_density : Int32) (v_values : Nat → Int64) (post : Int64 → Prop) : Prop := ((4 ≤ p1 → vp_in (((30 * v_this_family) + (3 * p1)) + 0) 240 ∧ post (v_values (((30 * v_this_family) + (3 * p1)) + 0).toNatClampNeg)) ∧ (¬ 4 ≤ p1 → vp_in (((30 * v_this_family) + (3 * p1)) + v_this_density) 240 ∧ post (v_values (((30 * v_this_family) + (3 * p1)) + v_this_density).toNatClampNeg)))
set_option maxHeartbeats 4000000 in
set_option maxRecDepth 100000 in
theorem c_M_of (l : Launch) (dC : Nat → ClassId) (dI : Nat → Nat → Nat) (ad : Nat → Nat → Nat) (a_this : Nat) (a_units : Nat) (a_kinds : Nat) (a_values : Nat) (a_names : Nat) (a_low : Nat) (a_high : Nat) (a_told : Nat) (a_leftOut : Nat) (a_isMade : Nat) (a_hands : Nat) (a_pad : Nat) (a_court : Nat) (a_title : Nat) (a_out : Nat) (k_values : ClassId) (sz : Nat) (p1 : Int32) (v_this_thrown : Int32) (v_this_size : Int32) (v_this_families : Int32) (v_this_atHand : Int32) (v_this_family : Int32) (v_this_density : Int32) (v_this_pads : Int32) (v_this_hasThermal : Int32) (v_this_titleSize : Int32) (v_this_written : Int32) (v_this_at : Int32) (v_this_begin : Int32) (v_this_words : Int32) (v_this_paste0 : Int64) (v_values : Nat → Int64) (post : Int64 → Prop) (h : P_M_of p1 v_this_family v_this_density v_values post) : zMl l yM_of wsM_of { frames := 0, cells := 0, slots := 0, locals := 0 } (dC, dI) ad [.ref a_this, .int p1] (w_M_of ad a_this a_units a_kinds a_values a_names a_low a_high a_told a_leftOut a_isMade a_hands a_pad a_court a_title a_out k_values v_this_thrown v_this_size v_this_families v_this_atHand v_this_family v_this_density v_this_pads v_this_hasThermal v_this_titleSize v_this_written v_this_at v_this_begin v_this_words v_this_paste0 v_values) [(k_values, .long)] sz (fun (r : Int64) (u : Unit) => post r) (fun (u : Unit) => (w_M_of ad a_this a_units a_kinds a_values a_names a_low a_high a_told a_leftOut a_isMade a_hands a_pad a_court a_title a_out k_values v_this_thrown v_this_size v_this_families v_this_atHand v_this_family v_this_density v_this_pads v_this_hasThermal v_this_titleSize v_this_written v_this_at v_this_begin v_this_words v_this_paste0 v_values)) 0 0 := by
  refine Met.ofW (cc := cM_of) (maxL := 2) (ret := (some .long)) (by decide +kernel) rfl ?_
  intro p e s m args below meth c s₁ B hml hv
  obtain ⟨rfl, hsz, hP, hK, hD0, hE⟩ := hv
  have hx := B.exec
  have hb := B.bytes
  have hr := B.returns
  have hts0 := atoms_spec (ws := wsM_of) B.pre
  have hts := fun w h => hts0 w (List.mem_cons_of_mem _ h)
  have hown : s.vm.findClass RM = some m.cls := findClass_of_methodNamed B.named
  have hlocks := B.notSynchronized
  subst hsz
  have hD := hD0.self (sz := s.heap.size)
  generalize hAe : va_A (w_M_of ad a_this a_units a_kinds a_values a_names a_low a_high a_told a_leftOut a_isMade a_hands a_pad a_court a_title a_out k_values v_this_thrown v_this_size v_this_families v_this_atHand v_this_family v_this_density v_this_pads v_this_hasThermal v_this_titleSize v_this_written v_this_at v_this_begin v_this_words v_this_paste0 v_values) s.heap.size = A at hD hE ⊢
  have hA : ∀ q : Nat, s.heap.size ≤ q → A q := fun q h => by rw [← hAe]; exact Or.inr h
  have C0 := zC.mk hx hb hr hml hown hts hlocks hA
  have hS : va_S A s.heap s.heap [] := va_S.rf
  have hl := lv_entry ([.ref a_this, .int p1]) (n := 2) (Nat.le_of_ble_eq_true rfl)
  rw [lg_entry_eq]
  generalize (lg_sl ([.ref a_this, .int p1]) ++ List.replicate (2 - (lg_sl ([.ref a_this, .int p1])).length) Slot.unset).toArray = ls at hl ⊢
  have hl : lv_has ls 2 [(0, .ref a_this), (1, .int p1)] := hl
  unfold P_M_of at h
  refine lv_aload_n hx hb dM_of_0 rfl (lv_at hl 0 rfl) ?_
  refine va_get (D := (dC, dI)) (ci := 10) (v := .ref a_values) (C := RM) (T := TM) (N := 28) hx hb hts inZ_M hown hK hP 0 rfl rfl 5 (by decide) (hts _ zw_1049) (fun _ h9 => h9) rfl dM_of_1 ?_
  refine lv_bipush (v := 30) hx hb dM_of_4 (by decide) ?_
  refine lv_aload_n hx hb dM_of_6 rfl (lv_at hl 0 rfl) ?_
  refine va_get (D := (dC, dI)) (ci := 10) (v := .int v_this_family) (C := RM) (T := TM) (N := 28) hx hb hts inZ_M hown hK hP 0 rfl rfl 14 (by decide) (hts _ zw_1058) (fun _ h9 => h9) rfl dM_of_7 ?_
  refine lv_imul hx hb dM_of_10 ?_
  refine lv_iconst (v := 3) hx hb dM_of_11 (by decide) ?_
  refine lv_iload_n hx hb dM_of_12 rfl (lv_at hl 1 rfl) ?_
  refine lv_imul hx hb dM_of_13 ?_
  refine lv_iadd hx hb dM_of_14 ?_
  refine lv_iload_n hx hb dM_of_15 rfl (lv_at hl 1 rfl) ?_
  refine lv_iconst (v := 4) hx hb dM_of_16 (by decide) ?_
  refine lv_icmp_ge (tgt := 27) hx hb dM_of_17 (by decide) ?_ ?_
  · intro c1
    replace h := h.1 c1
    refine lv_iconst (v := 0) hx hb dM_of_27 (by decide) ?_
    refine lv_iadd hx hb dM_of_28 ?_
    obtain ⟨hn2, h⟩ := h
    refine va_lald hx hb hK hP 1 0 rfl rfl hn2 dM_of_29 ?_
    exact W.lret (v := (v_values (((30 * v_this_family) + (3 * p1)) + 0).toNatClampNeg)) hx hb hr (fun t ht hW => ⟨⟨(v_values (((30 * v_this_family) + (3 * p1)) + 0).toNatClampNeg), (()), rfl, h, by rw [ht]; exact hP, hD⟩, hS.F ht⟩) hS.2.2 dM_of_30
  · intro c1
    replace h := h.2 c1
    refine lv_aload_n hx hb dM_of_20 rfl (lv_at hl 0 rfl) ?_
    refine va_get (D := (dC, dI)) (ci := 10) (v := .int v_this_density) (C := RM) (T := TM) (N := 28) hx hb hts inZ_M hown hK hP 0 rfl rfl 15 (by decide) (hts _ zw_1059) (fun _ h9 => h9) rfl dM_of_21 ?_
    refine lv_goto (tgt := 28) hx hb dM_of_24 (by decide) ?_
    refine lv_iadd hx hb dM_of_28 ?_
    obtain ⟨hn3, h⟩ := h
    refine va_lald hx hb hK hP 1 0 rfl rfl hn3 dM_of_29 ?_
    exact W.lret (v := (v_values (((30 * v_this_family) + (3 * p1)) + v_this_density).toNatClampNeg)) hx hb hr (fun t ht hW => ⟨⟨(v_values (((30 * v_this_family) + (3 * p1)) + v_this_density).toNatClampNeg), (()), rfl, h, by rw [ht]; exact hP, hD⟩, hS.F ht⟩) hS.2.2 dM_of_30
