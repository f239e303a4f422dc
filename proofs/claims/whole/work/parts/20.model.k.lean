abbrev yM_mask : MethodName := ⟨"FootprintRulesModel", "mask", "(II)I"⟩
abbrev cM_mask : ByteArray := prog_14_method_42_code
abbrev wsM_mask : List Cond := .code yM_mask cM_mask 5 (some .int) :: zT
set_option maxRecDepth 100000 in
theorem zc_M_mask : Cond.code yM_mask cM_mask 5 (some .int) ∈ zT := zm 1299 (by rfl) (by rfl)
theorem dM_mask_0 : decode cM_mask 0 = .ok (.aload_n 0, 1) := by decide +kernel
theorem dM_mask_1 : decode cM_mask 1 = .ok (.aload_n 0, 1) := by decide +kernel
theorem dM_mask_2 : decode cM_mask 2 = .ok (.iload_n 1, 1) := by decide +kernel
theorem dM_mask_3 : decode cM_mask 3 = .ok (.ifCond .lt 24, 3) := by decide +kernel
theorem dM_mask_6 : decode cM_mask 6 = .ok (.iload_n 1, 1) := by decide +kernel
theorem dM_mask_7 : decode cM_mask 7 = .ok (.aload_n 0, 1) := by decide +kernel
theorem dM_mask_8 : decode cM_mask 8 = .ok (.getfield 134, 3) := by decide +kernel
theorem dM_mask_11 : decode cM_mask 11 = .ok (.if_icmp .ge 16, 3) := by decide +kernel
theorem dM_mask_14 : decode cM_mask 14 = .ok (.iload_n 2, 1) := by decide +kernel
theorem dM_mask_15 : decode cM_mask 15 = .ok (.ifCond .lt 12, 3) := by decide +kernel
theorem dM_mask_18 : decode cM_mask 18 = .ok (.iload_n 2, 1) := by decide +kernel
theorem dM_mask_19 : decode cM_mask 19 = .ok (.iconst 4, 1) := by decide +kernel
theorem dM_mask_20 : decode cM_mask 20 = .ok (.if_icmp .ge 7, 3) := by decide +kernel
theorem dM_mask_23 : decode cM_mask 23 = .ok (.iconst 1, 1) := by decide +kernel
theorem dM_mask_24 : decode cM_mask 24 = .ok (.goto 4, 3) := by decide +kernel
theorem dM_mask_27 : decode cM_mask 27 = .ok (.iconst 0, 1) := by decide +kernel
theorem dM_mask_28 : decode cM_mask 28 = .ok (.invokevirtual 224, 3) := by decide +kernel
theorem dM_mask_31 : decode cM_mask 31 = .ok (.putfield 54, 3) := by decide +kernel
theorem dM_mask_34 : decode cM_mask 34 = .ok (.aload_n 0, 1) := by decide +kernel
theorem dM_mask_35 : decode cM_mask 35 = .ok (.getfield 54, 3) := by decide +kernel
theorem dM_mask_38 : decode cM_mask 38 = .ok (.ifCond .eq 5, 3) := by decide +kernel
theorem dM_mask_41 : decode cM_mask 41 = .ok (.iconst 0, 1) := by decide +kernel
theorem dM_mask_42 : decode cM_mask 42 = .ok (.ireturn, 1) := by decide +kernel
theorem dM_mask_43 : decode cM_mask 43 = .ok (.aload_n 0, 1) := by decide +kernel
theorem dM_mask_44 : decode cM_mask 44 = .ok (.iconst 5, 1) := by decide +kernel
theorem dM_mask_45 : decode cM_mask 45 = .ok (.invokevirtual 142, 3) := by decide +kernel
theorem dM_mask_48 : decode cM_mask 48 = .ok (.lstore_n 3, 1) := by decide +kernel
theorem dM_mask_49 : decode cM_mask 49 = .ok (.iload_n 2, 1) := by decide +kernel
theorem dM_mask_50 : decode cM_mask 50 = .ok (.iconst 2, 1) := by decide +kernel
theorem dM_mask_51 : decode cM_mask 51 = .ok (.if_icmp .ge 21, 3) := by decide +kernel
theorem dM_mask_54 : decode cM_mask 54 = .ok (.aload_n 0, 1) := by decide +kernel
theorem dM_mask_55 : decode cM_mask 55 = .ok (.getfield 42, 3) := by decide +kernel
theorem dM_mask_58 : decode cM_mask 58 = .ok (.bipush 7, 2) := by decide +kernel
theorem dM_mask_60 : decode cM_mask 60 = .ok (.iload_n 1, 1) := by decide +kernel
theorem dM_mask_61 : decode cM_mask 61 = .ok (.imul, 1) := by decide +kernel
theorem dM_mask_62 : decode cM_mask 62 = .ok (.iconst 1, 1) := by decide +kernel
theorem dM_mask_63 : decode cM_mask 63 = .ok (.iadd, 1) := by decide +kernel
theorem dM_mask_64 : decode cM_mask 64 = .ok (.iload_n 2, 1) := by decide +kernel
theorem dM_mask_65 : decode cM_mask 65 = .ok (.iadd, 1) := by decide +kernel
theorem dM_mask_66 : decode cM_mask 66 = .ok (.laload, 1) := by decide +kernel
theorem dM_mask_67 : decode cM_mask 67 = .ok (.lload_n 3, 1) := by decide +kernel
theorem dM_mask_68 : decode cM_mask 68 = .ok (.lsub, 1) := by decide +kernel
theorem dM_mask_69 : decode cM_mask 69 = .ok (.goto 22, 3) := by decide +kernel
theorem dM_mask_72 : decode cM_mask 72 = .ok (.aload_n 0, 1) := by decide +kernel
theorem dM_mask_73 : decode cM_mask 73 = .ok (.getfield 42, 3) := by decide +kernel
theorem dM_mask_76 : decode cM_mask 76 = .ok (.bipush 7, 2) := by decide +kernel
theorem dM_mask_78 : decode cM_mask 78 = .ok (.iload_n 1, 1) := by decide +kernel
theorem dM_mask_79 : decode cM_mask 79 = .ok (.imul, 1) := by decide +kernel
theorem dM_mask_80 : decode cM_mask 80 = .ok (.iconst 1, 1) := by decide +kernel
theorem dM_mask_81 : decode cM_mask 81 = .ok (.iadd, 1) := by decide +kernel
theorem dM_mask_82 : decode cM_mask 82 = .ok (.iload_n 2, 1) := by decide +kernel
theorem dM_mask_83 : decode cM_mask 83 = .ok (.iadd, 1) := by decide +kernel
theorem dM_mask_84 : decode cM_mask 84 = .ok (.laload, 1) := by decide +kernel
theorem dM_mask_85 : decode cM_mask 85 = .ok (.ldc2_w 90, 3) := by decide +kernel
theorem dM_mask_88 : decode cM_mask 88 = .ok (.lload_n 3, 1) := by decide +kernel
theorem dM_mask_89 : decode cM_mask 89 = .ok (.lmul, 1) := by decide +kernel
theorem dM_mask_90 : decode cM_mask 90 = .ok (.ladd, 1) := by decide +kernel
theorem dM_mask_91 : decode cM_mask 91 = .ok (.l2i, 1) := by decide +kernel
theorem dM_mask_92 : decode cM_mask 92 = .ok (.ireturn, 1) := by decide +kernel
-- FootprintRulesModel.mask(II)I
abbrev w_M_mask (ad : Nat → Nat → Nat) (a_this : Nat) (a_units : Nat) (a_kinds : Nat) (a_values : Nat) (a_names : Nat) (a_low : Nat) (a_high : Nat) (a_told : Nat) (a_leftOut : Nat) (a_isMade : Nat) (a_hands : Nat) (a_pad : Nat) (a_court : Nat) (a_title : Nat) (a_out : Nat) (k_values : ClassId) (k_pad : ClassId) (v_this_thrown : Int32) (v_this_size : Int32) (v_this_families : Int32) (v_this_atHand : Int32) (v_this_family : Int32) (v_this_density : Int32) (v_this_pads : Int32) (v_this_hasThermal : Int32) (v_this_titleSize : Int32) (v_this_written : Int32) (v_this_at : Int32) (v_this_begin : Int32) (v_this_words : Int32) (v_this_paste0 : Int64) (v_values : Nat → Int64) (v_pad : Nat → Int64) : va_W := [(a_this, .inr (10, [.int v_this_thrown, .ref a_units, .int v_this_size, .int v_this_families, .ref a_kinds, .ref a_values, .ref a_names, .ref a_low, .ref a_high, .ref a_told, .ref a_leftOut, .ref a_isMade, .ref a_hands, .int v_this_atHand, .int v_this_family, .int v_this_density, .int v_this_pads, .ref a_pad, .ref a_court, .int v_this_hasThermal, .ref a_title, .int v_this_titleSize, .ref a_out, .int v_this_written, .int v_this_at, .int v_this_begin, .int v_this_words, .long v_this_paste0])), (a_values, .inl (k_values, 240, .inr (.inl v_values))), (a_pad, .inl (k_pad, 455, .inr (.inl v_pad)))]
def P_M_mask_28 (p1 : Int32) (p2 : Int32) (v_this_atHand : Int32) (v_this_family : Int32) (v_this_density : Int32) (v_values : Nat → Int64) (v_pad : Nat → Int64) (post : Int32 → Int32 → Prop) (t0 : Int32) : Prop := P_M_refusal t0 v_this_atHand (fun (r1 : Int32) => ((r1 = 0 → P_M_of 5 v_this_family v_this_density v_values (fun (r3 : Int64) => ((2 ≤ p2 → vp_in (((7 * p1) + 1) + p2) 455 ∧ post (((v_pad (((7 * p1) + 1) + p2).toNatClampNeg) + (2 * r3)).toInt32) r1) ∧ (¬ 2 ≤ p2 → vp_in (((7 * p1) + 1) + p2) 455 ∧ post (((v_pad (((7 * p1) + 1) + p2).toNatClampNeg) - r3).toInt32) r1)))) ∧ (¬ r1 = 0 → post 0 r1)))
set_option maxHeartbeats 4000000 in
set_option maxRecDepth 100000 in
theorem w_M_mask_28 (l : Launch) {p : Program} {e : Env} {s : State} {m : MethodId} {args : Array Value} {below : List Frame} {meth : Method} {c : Code} {dC : Nat → ClassId} {dI : Nat → Nat → Nat} {ad : Nat → Nat → Nat} {A : Nat → Prop} (C0 : zC p s m args meth c cM_mask 5 RM zT (some .int) A) (hE : zE ad A s) (a_this : Nat) (a_units : Nat) (a_kinds : Nat) (a_values : Nat) (a_names : Nat) (a_low : Nat) (a_high : Nat) (a_told : Nat) (a_leftOut : Nat) (a_isMade : Nat) (a_hands : Nat) (a_pad : Nat) (a_court : Nat) (a_title : Nat) (a_out : Nat) (k_values : ClassId) (k_pad : ClassId) (p1 : Int32) (p2 : Int32) (v_this_thrown : Int32) (v_this_size : Int32) (v_this_families : Int32) (v_this_atHand : Int32) (v_this_family : Int32) (v_this_density : Int32) (v_this_pads : Int32) (v_this_hasThermal : Int32) (v_this_titleSize : Int32) (v_this_written : Int32) (v_this_at : Int32) (v_this_begin : Int32) (v_this_words : Int32) (v_this_paste0 : Int64) (v_values : Nat → Int64) (v_pad : Nat → Int64) (post : Int32 → Int32 → Prop) (hK : va_K (dC, dI) vwCl [(k_values, .long), (k_pad, .long)] s) : ∀ (t0 : Int32) (H : Heap) (locs : List Loc), P_M_mask_28 p1 p2 v_this_atHand v_this_family v_this_density v_values v_pad post t0 → va_P (dC, dI) vwCl (w_M_mask ad a_this a_units a_kinds a_values a_names a_low a_high a_told a_leftOut a_isMade a_hands a_pad a_court a_title a_out k_values k_pad v_this_thrown v_this_size v_this_families v_this_atHand v_this_family v_this_density v_this_pads v_this_hasThermal v_this_titleSize v_this_written v_this_at v_this_begin v_this_words v_this_paste0 v_values v_pad) H → va_D A (w_M_mask ad a_this a_units a_kinds a_values a_names a_low a_high a_told a_leftOut a_isMade a_hands a_pad a_court a_title a_out k_values k_pad v_this_thrown v_this_size v_this_families v_this_atHand v_this_family v_this_density v_this_pads v_this_hasThermal v_this_titleSize v_this_written v_this_at v_this_begin v_this_words v_this_paste0 v_values v_pad) → va_S A s.heap H locs → ∀ ls : Array Slot, lv_has ls 5 [(0, .ref a_this), (1, .int p1), (2, .int p2)] → W p l e (headSpec wsM_mask { frames := 1, cells := 0, slots := 0, locals := 21 }).room s m args below meth c H locs 0 0 (MQ below (va_Qi (fun (r : Int32) (u : Int32) => post r u) (zB (dC, dI) A (fun (u : Int32) => (w_M_mask ad a_this a_units a_kinds a_values a_names a_low a_high a_told a_leftOut a_isMade a_hands a_pad a_court a_title a_out k_values k_pad u v_this_size v_this_families v_this_atHand v_this_family v_this_density v_this_pads v_this_hasThermal v_this_titleSize v_this_written v_this_at v_this_begin v_this_words v_this_paste0 v_values v_pad))) A) args s 0 0 A) (F0 m 28 ls [.int t0, .ref a_this, .ref a_this]) := by
  obtain ⟨hx, hb, hr, hml, hown, hts, hlocks, hA⟩ := id C0
  intro t0 H locs h hP hD hS ls hl
  unfold P_M_mask_28 at h
  refine zcall_i hP hD hS hA [0] [1, 2] (va_runV (As := [.int t0]) (rest := [.ref a_this]) ⟨hx, hb, hml, hown, hts⟩ (c_M_refusal l dC dI ad a_this a_units a_kinds a_values a_names a_low a_high a_told a_leftOut a_isMade a_hands a_pad a_court a_title a_out _ t0 v_this_thrown v_this_size v_this_families v_this_atHand v_this_family v_this_density v_this_pads v_this_hasThermal v_this_titleSize v_this_written v_this_at v_this_begin v_this_words v_this_paste0 _ h) ⟨callB_of 1 hts (zgood zc_M_refusal) rfl rfl rfl (hts _ zw_107) (hts _ zw_1280) (by decide +kernel) ⟨Nat.le_of_ble_eq_true rfl, Nat.le_of_ble_eq_true rfl⟩, (hts _ zw_1282), (hts _ zw_89)⟩ (zpreV hE hK hP hD hS hA [0] [] (by rfl) (by rfl) (by decide) (ci := 10) (q0 := 0) rfl (by rfl)) rfl rfl hl.1 rfl (lv_room (Nat.le_of_ble_eq_true rfl)) dM_mask_28 ⟨Nat.le_of_ble_eq_true rfl, Nat.le_of_ble_eq_true rfl⟩) (by rfl) (by rfl) (by decide) (by decide) (fun r1 u H locs h hP hD hS => ?_)
  try dsimp only at h
  have hP := hP.sub (ws' := (w_M_mask ad a_this a_units a_kinds a_values a_names a_low a_high a_told a_leftOut a_isMade a_hands a_pad a_court a_title a_out k_values k_pad v_this_thrown v_this_size v_this_families v_this_atHand v_this_family v_this_density v_this_pads v_this_hasThermal v_this_titleSize v_this_written v_this_at v_this_begin v_this_words v_this_paste0 v_values v_pad)) [2, 0, 1] rfl
  have hD := hD.sub (ws' := (w_M_mask ad a_this a_units a_kinds a_values a_names a_low a_high a_told a_leftOut a_isMade a_hands a_pad a_court a_title a_out k_values k_pad v_this_thrown v_this_size v_this_families v_this_atHand v_this_family v_this_density v_this_pads v_this_hasThermal v_this_titleSize v_this_written v_this_at v_this_begin v_this_words v_this_paste0 v_values v_pad)) [2, 0, 1] (by decide) rfl
  refine va_put (D := (dC, dI)) (ci := 10) (v := .int r1) (ty := .int) (C := RM) (T := TM) (N := 28) hx hb hts inZ_M tyM tyM_ok nmM hown hK hP hD hS 0 rfl rfl 0 (by decide) (hts _ zw_1044) (fun _ h9 => h9) rfl (by decide +kernel) rfl rfl (Nat.le_of_ble_eq_true rfl) dM_mask_31 (fun H locs hP hD hS => ?_)
  have hP : va_P (dC, dI) vwCl (w_M_mask ad a_this a_units a_kinds a_values a_names a_low a_high a_told a_leftOut a_isMade a_hands a_pad a_court a_title a_out k_values k_pad r1 v_this_size v_this_families v_this_atHand v_this_family v_this_density v_this_pads v_this_hasThermal v_this_titleSize v_this_written v_this_at v_this_begin v_this_words v_this_paste0 v_values v_pad) H := hP
  have hD : va_D A (w_M_mask ad a_this a_units a_kinds a_values a_names a_low a_high a_told a_leftOut a_isMade a_hands a_pad a_court a_title a_out k_values k_pad r1 v_this_size v_this_families v_this_atHand v_this_family v_this_density v_this_pads v_this_hasThermal v_this_titleSize v_this_written v_this_at v_this_begin v_this_words v_this_paste0 v_values v_pad) := hD
  refine lv_aload_n hx hb dM_mask_34 rfl (lv_at hl 0 rfl) ?_
  refine va_get (D := (dC, dI)) (ci := 10) (v := .int r1) (C := RM) (T := TM) (N := 28) hx hb hts inZ_M hown hK hP 0 rfl rfl 0 (by decide) (hts _ zw_1044) (fun _ h9 => h9) rfl dM_mask_35 ?_
  refine lv_if_eq (tgt := 43) hx hb dM_mask_38 (by decide) ?_ ?_
  · intro c2
    replace h := h.1 c2
    refine lv_aload_n hx hb dM_mask_43 rfl (lv_at hl 0 rfl) ?_
    refine lv_iconst (v := 5) hx hb dM_mask_44 (by decide) ?_
    refine zcall_l hP hD hS hA [0, 1] [2] (va_runV (As := [.int 5]) (rest := []) ⟨hx, hb, hml, hown, hts⟩ (c_M_of l dC dI ad a_this a_units a_kinds a_values a_names a_low a_high a_told a_leftOut a_isMade a_hands a_pad a_court a_title a_out k_values _ 5 r1 v_this_size v_this_families v_this_atHand v_this_family v_this_density v_this_pads v_this_hasThermal v_this_titleSize v_this_written v_this_at v_this_begin v_this_words v_this_paste0 v_values _ h) ⟨callB_of 1 hts (zgood zc_M_of) rfl rfl rfl (hts _ zw_107) (hts _ zw_1201) (by decide +kernel) ⟨Nat.le_of_ble_eq_true rfl, Nat.le_of_ble_eq_true rfl⟩, (hts _ zw_1203), (hts _ zw_74)⟩ (zpreV hE hK hP hD hS hA [0, 1] [0] (by rfl) (by rfl) (by decide) (ci := 10) (q0 := 0) rfl (by rfl)) rfl rfl hl.1 rfl (lv_room (Nat.le_of_ble_eq_true rfl)) dM_mask_45 ⟨Nat.le_of_ble_eq_true rfl, Nat.le_of_ble_eq_true rfl⟩) (by rfl) (by rfl) (by decide) (by decide) (fun r3 u H locs h hP hD hS => ?_)
    try dsimp only at h
    have hP := hP.sub (ws' := (w_M_mask ad a_this a_units a_kinds a_values a_names a_low a_high a_told a_leftOut a_isMade a_hands a_pad a_court a_title a_out k_values k_pad r1 v_this_size v_this_families v_this_atHand v_this_family v_this_density v_this_pads v_this_hasThermal v_this_titleSize v_this_written v_this_at v_this_begin v_this_words v_this_paste0 v_values v_pad)) [1, 2, 0] rfl
    have hD := hD.sub (ws' := (w_M_mask ad a_this a_units a_kinds a_values a_names a_low a_high a_told a_leftOut a_isMade a_hands a_pad a_court a_title a_out k_values k_pad r1 v_this_size v_this_families v_this_atHand v_this_family v_this_density v_this_pads v_this_hasThermal v_this_titleSize v_this_written v_this_at v_this_begin v_this_words v_this_paste0 v_values v_pad)) [1, 2, 0] (by decide) rfl
    refine lv_lstore_n (lv' := [(3, .long r3), (0, .ref a_this), (1, .int p1), (2, .int p2)]) hx hb dM_mask_48 rfl hl (by decide) rfl (fun ls hl => ?_)
    refine lv_iload_n hx hb dM_mask_49 rfl (lv_at hl 3 rfl) ?_
    refine lv_iconst (v := 2) hx hb dM_mask_50 (by decide) ?_
    refine lv_icmp_ge (tgt := 72) hx hb dM_mask_51 (by decide) ?_ ?_
    · intro c4
      replace h := h.1 c4
      refine lv_aload_n hx hb dM_mask_72 rfl (lv_at hl 1 rfl) ?_
      refine va_get (D := (dC, dI)) (ci := 10) (v := .ref a_pad) (C := RM) (T := TM) (N := 28) hx hb hts inZ_M hown hK hP 0 rfl rfl 17 (by decide) (hts _ zw_1061) (fun _ h9 => h9) rfl dM_mask_73 ?_
      refine lv_bipush (v := 7) hx hb dM_mask_76 (by decide) ?_
      refine lv_iload_n hx hb dM_mask_78 rfl (lv_at hl 2 rfl) ?_
      refine lv_imul hx hb dM_mask_79 ?_
      refine lv_iconst (v := 1) hx hb dM_mask_80 (by decide) ?_
      refine lv_iadd hx hb dM_mask_81 ?_
      refine lv_iload_n hx hb dM_mask_82 rfl (lv_at hl 3 rfl) ?_
      refine lv_iadd hx hb dM_mask_83 ?_
      obtain ⟨hn5, h⟩ := h
      refine va_lald hx hb hK hP 2 1 rfl rfl hn5 dM_mask_84 ?_
      refine lv_ldc2 (own := RM) (index := 90) (v := 2) hx hb hown (hts _ zw_1179) dM_mask_85 ?_
      refine lv_lload_n hx hb dM_mask_88 rfl (lv_at hl 0 rfl) ?_
      refine lv_lmul hx hb dM_mask_89 ?_
      refine lv_ladd hx hb dM_mask_90 ?_
      refine lv_l2i hx hb dM_mask_91 rfl ?_
      exact W.iret (v := (((v_pad (((7 * p1) + 1) + p2).toNatClampNeg) + (2 * r3)).toInt32)) hx hb hr (fun t ht hW => ⟨⟨(((v_pad (((7 * p1) + 1) + p2).toNatClampNeg) + (2 * r3)).toInt32), r1, rfl, h, by rw [ht]; exact hP, hD⟩, hS.F ht⟩) hS.2.2 dM_mask_92
    · intro c4
      replace h := h.2 c4
      refine lv_aload_n hx hb dM_mask_54 rfl (lv_at hl 1 rfl) ?_
      refine va_get (D := (dC, dI)) (ci := 10) (v := .ref a_pad) (C := RM) (T := TM) (N := 28) hx hb hts inZ_M hown hK hP 0 rfl rfl 17 (by decide) (hts _ zw_1061) (fun _ h9 => h9) rfl dM_mask_55 ?_
      refine lv_bipush (v := 7) hx hb dM_mask_58 (by decide) ?_
      refine lv_iload_n hx hb dM_mask_60 rfl (lv_at hl 2 rfl) ?_
      refine lv_imul hx hb dM_mask_61 ?_
      refine lv_iconst (v := 1) hx hb dM_mask_62 (by decide) ?_
      refine lv_iadd hx hb dM_mask_63 ?_
      refine lv_iload_n hx hb dM_mask_64 rfl (lv_at hl 3 rfl) ?_
      refine lv_iadd hx hb dM_mask_65 ?_
      obtain ⟨hn6, h⟩ := h
      refine va_lald hx hb hK hP 2 1 rfl rfl hn6 dM_mask_66 ?_
      refine lv_lload_n hx hb dM_mask_67 rfl (lv_at hl 0 rfl) ?_
      refine lv_lsub hx hb dM_mask_68 ?_
      refine lv_goto (tgt := 91) hx hb dM_mask_69 (by decide) ?_
      refine lv_l2i hx hb dM_mask_91 rfl ?_
      exact W.iret (v := (((v_pad (((7 * p1) + 1) + p2).toNatClampNeg) - r3).toInt32)) hx hb hr (fun t ht hW => ⟨⟨(((v_pad (((7 * p1) + 1) + p2).toNatClampNeg) - r3).toInt32), r1, rfl, h, by rw [ht]; exact hP, hD⟩, hS.F ht⟩) hS.2.2 dM_mask_92
  · intro c2
    replace h := h.2 c2
    refine lv_iconst (v := 0) hx hb dM_mask_41 (by decide) ?_
    exact W.iret (v := 0) hx hb hr (fun t ht hW => ⟨⟨0, r1, rfl, h, by rw [ht]; exact hP, hD⟩, hS.F ht⟩) hS.2.2 dM_mask_42
def P_M_mask_27 (p1 : Int32) (p2 : Int32) (v_this_atHand : Int32) (v_this_family : Int32) (v_this_density : Int32) (v_values : Nat → Int64) (v_pad : Nat → Int64) (post : Int32 → Int32 → Prop)  : Prop := P_M_mask_28 p1 p2 v_this_atHand v_this_family v_this_density v_values v_pad post 0
set_option maxHeartbeats 4000000 in
set_option maxRecDepth 100000 in
theorem w_M_mask_27 (l : Launch) {p : Program} {e : Env} {s : State} {m : MethodId} {args : Array Value} {below : List Frame} {meth : Method} {c : Code} {dC : Nat → ClassId} {dI : Nat → Nat → Nat} {ad : Nat → Nat → Nat} {A : Nat → Prop} (C0 : zC p s m args meth c cM_mask 5 RM zT (some .int) A) (hE : zE ad A s) (a_this : Nat) (a_units : Nat) (a_kinds : Nat) (a_values : Nat) (a_names : Nat) (a_low : Nat) (a_high : Nat) (a_told : Nat) (a_leftOut : Nat) (a_isMade : Nat) (a_hands : Nat) (a_pad : Nat) (a_court : Nat) (a_title : Nat) (a_out : Nat) (k_values : ClassId) (k_pad : ClassId) (p1 : Int32) (p2 : Int32) (v_this_thrown : Int32) (v_this_size : Int32) (v_this_families : Int32) (v_this_atHand : Int32) (v_this_family : Int32) (v_this_density : Int32) (v_this_pads : Int32) (v_this_hasThermal : Int32) (v_this_titleSize : Int32) (v_this_written : Int32) (v_this_at : Int32) (v_this_begin : Int32) (v_this_words : Int32) (v_this_paste0 : Int64) (v_values : Nat → Int64) (v_pad : Nat → Int64) (post : Int32 → Int32 → Prop) (hK : va_K (dC, dI) vwCl [(k_values, .long), (k_pad, .long)] s) : ∀  (H : Heap) (locs : List Loc), P_M_mask_27 p1 p2 v_this_atHand v_this_family v_this_density v_values v_pad post → va_P (dC, dI) vwCl (w_M_mask ad a_this a_units a_kinds a_values a_names a_low a_high a_told a_leftOut a_isMade a_hands a_pad a_court a_title a_out k_values k_pad v_this_thrown v_this_size v_this_families v_this_atHand v_this_family v_this_density v_this_pads v_this_hasThermal v_this_titleSize v_this_written v_this_at v_this_begin v_this_words v_this_paste0 v_values v_pad) H → va_D A (w_M_mask ad a_this a_units a_kinds a_values a_names a_low a_high a_told a_leftOut a_isMade a_hands a_pad a_court a_title a_out k_values k_pad v_this_thrown v_this_size v_this_families v_this_atHand v_this_family v_this_density v_this_pads v_this_hasThermal v_this_titleSize v_this_written v_this_at v_this_begin v_this_words v_this_paste0 v_values v_pad) → va_S A s.heap H locs → ∀ ls : Array Slot, lv_has ls 5 [(0, .ref a_this), (1, .int p1), (2, .int p2)] → W p l e (headSpec wsM_mask { frames := 1, cells := 0, slots := 0, locals := 21 }).room s m args below meth c H locs 0 0 (MQ below (va_Qi (fun (r : Int32) (u : Int32) => post r u) (zB (dC, dI) A (fun (u : Int32) => (w_M_mask ad a_this a_units a_kinds a_values a_names a_low a_high a_told a_leftOut a_isMade a_hands a_pad a_court a_title a_out k_values k_pad u v_this_size v_this_families v_this_atHand v_this_family v_this_density v_this_pads v_this_hasThermal v_this_titleSize v_this_written v_this_at v_this_begin v_this_words v_this_paste0 v_values v_pad))) A) args s 0 0 A) (F0 m 27 ls [.ref a_this, .ref a_this]) := by
  obtain ⟨hx, hb, hr, hml, hown, hts, hlocks, hA⟩ := id C0
  intro  H locs h hP hD hS ls hl
  unfold P_M_mask_27 at h
  refine lv_iconst (v := 0) hx hb dM_mask_27 (by decide) ?_
  exact w_M_mask_28 l C0 hE a_this a_units a_kinds a_values a_names a_low a_high a_told a_leftOut a_isMade a_hands a_pad a_court a_title a_out k_values k_pad p1 p2 v_this_thrown v_this_size v_this_families v_this_atHand v_this_family v_this_density v_this_pads v_this_hasThermal v_this_titleSize v_this_written v_this_at v_this_begin v_this_words v_this_paste0 v_values v_pad post hK 0 _ _ h hP hD hS ls (lv_sub hl [0, 1, 2] rfl)
def P_M_mask (p1 : Int32) (p2 : Int32) (v_this_atHand : Int32) (v_this_family : Int32) (v_this_density : Int32) (v_this_pads : Int32) (v_values : Nat → Int64) (v_pad : Nat → Int64) (post : Int32 → Int32 → Prop) : Prop := ((p1 < 0 → P_M_mask_27 p1 p2 v_this_atHand v_this_family v_this_density v_values v_pad post) ∧ (¬ p1 < 0 → ((v_this_pads ≤ p1 → P_M_mask_27 p1 p2 v_this_atHand v_this_family v_this_density v_values v_pad post) ∧ (¬ v_this_pads ≤ p1 → ((p2 < 0 → P_M_mask_27 p1 p2 v_this_atHand v_this_family v_this_density v_values v_pad post) ∧ (¬ p2 < 0 → ((4 ≤ p2 → P_M_mask_27 p1 p2 v_this_atHand v_this_family v_this_density v_values v_pad post) ∧ (¬ 4 ≤ p2 → P_M_mask_28 p1 p2 v_this_atHand v_this_family v_this_density v_values v_pad post 1))))))))
set_option maxHeartbeats 4000000 in
set_option maxRecDepth 100000 in
theorem c_M_mask (l : Launch) (dC : Nat → ClassId) (dI : Nat → Nat → Nat) (ad : Nat → Nat → Nat) (a_this : Nat) (a_units : Nat) (a_kinds : Nat) (a_values : Nat) (a_names : Nat) (a_low : Nat) (a_high : Nat) (a_told : Nat) (a_leftOut : Nat) (a_isMade : Nat) (a_hands : Nat) (a_pad : Nat) (a_court : Nat) (a_title : Nat) (a_out : Nat) (k_values : ClassId) (k_pad : ClassId) (sz : Nat) (p1 : Int32) (p2 : Int32) (v_this_thrown : Int32) (v_this_size : Int32) (v_this_families : Int32) (v_this_atHand : Int32) (v_this_family : Int32) (v_this_density : Int32) (v_this_pads : Int32) (v_this_hasThermal : Int32) (v_this_titleSize : Int32) (v_this_written : Int32) (v_this_at : Int32) (v_this_begin : Int32) (v_this_words : Int32) (v_this_paste0 : Int64) (v_values : Nat → Int64) (v_pad : Nat → Int64) (post : Int32 → Int32 → Prop) (h : P_M_mask p1 p2 v_this_atHand v_this_family v_this_density v_this_pads v_values v_pad post) : zMi l yM_mask wsM_mask { frames := 1, cells := 0, slots := 0, locals := 21 } (dC, dI) ad [.ref a_this, .int p1, .int p2] (w_M_mask ad a_this a_units a_kinds a_values a_names a_low a_high a_told a_leftOut a_isMade a_hands a_pad a_court a_title a_out k_values k_pad v_this_thrown v_this_size v_this_families v_this_atHand v_this_family v_this_density v_this_pads v_this_hasThermal v_this_titleSize v_this_written v_this_at v_this_begin v_this_words v_this_paste0 v_values v_pad) [(k_values, .long), (k_pad, .long)] sz (fun (r : Int32) (u : Int32) => post r u) (fun (u : Int32) => (w_M_mask ad a_this a_units a_kinds a_values a_names a_low a_high a_told a_leftOut a_isMade a_hands a_pad a_court a_title a_out k_values k_pad u v_this_size v_this_families v_this_atHand v_this_family v_this_density v_this_pads v_this_hasThermal v_this_titleSize v_this_written v_this_at v_this_begin v_this_words v_this_paste0 v_values v_pad)) 0 0 := by
  refine Met.ofW (cc := cM_mask) (maxL := 5) (ret := (some .int)) (by decide +kernel) rfl ?_
  intro p e s m args below meth c s₁ B hml hv
  obtain ⟨rfl, hsz, hP, hK, hD0, hE⟩ := hv
  have hx := B.exec
  have hb := B.bytes
  have hr := B.returns
  have hts0 := atoms_spec (ws := wsM_mask) B.pre
  have hts := fun w h => hts0 w (List.mem_cons_of_mem _ h)
  have hown : s.vm.findClass RM = some m.cls := findClass_of_methodNamed B.named
  have hlocks := B.notSynchronized
  subst hsz
  have hD := hD0.self (sz := s.heap.size)
  generalize hAe : va_A (w_M_mask ad a_this a_units a_kinds a_values a_names a_low a_high a_told a_leftOut a_isMade a_hands a_pad a_court a_title a_out k_values k_pad v_this_thrown v_this_size v_this_families v_this_atHand v_this_family v_this_density v_this_pads v_this_hasThermal v_this_titleSize v_this_written v_this_at v_this_begin v_this_words v_this_paste0 v_values v_pad) s.heap.size = A at hD hE ⊢
  have hA : ∀ q : Nat, s.heap.size ≤ q → A q := fun q h => by rw [← hAe]; exact Or.inr h
  have C0 := zC.mk hx hb hr hml hown hts hlocks hA
  have hS : va_S A s.heap s.heap [] := va_S.rf
  have hl := lv_entry ([.ref a_this, .int p1, .int p2]) (n := 5) (Nat.le_of_ble_eq_true rfl)
  rw [lg_entry_eq]
  generalize (lg_sl ([.ref a_this, .int p1, .int p2]) ++ List.replicate (5 - (lg_sl ([.ref a_this, .int p1, .int p2])).length) Slot.unset).toArray = ls at hl ⊢
  have hl : lv_has ls 5 [(0, .ref a_this), (1, .int p1), (2, .int p2)] := hl
  unfold P_M_mask at h
  refine lv_aload_n hx hb dM_mask_0 rfl (lv_at hl 0 rfl) ?_
  refine lv_aload_n hx hb dM_mask_1 rfl (lv_at hl 0 rfl) ?_
  refine lv_iload_n hx hb dM_mask_2 rfl (lv_at hl 1 rfl) ?_
  refine lv_if_lt (tgt := 27) hx hb dM_mask_3 (by decide) ?_ ?_
  · intro c1
    replace h := h.1 c1
    exact w_M_mask_27 l C0 hE a_this a_units a_kinds a_values a_names a_low a_high a_told a_leftOut a_isMade a_hands a_pad a_court a_title a_out k_values k_pad p1 p2 v_this_thrown v_this_size v_this_families v_this_atHand v_this_family v_this_density v_this_pads v_this_hasThermal v_this_titleSize v_this_written v_this_at v_this_begin v_this_words v_this_paste0 v_values v_pad post hK _ _ h hP hD hS ls (lv_sub hl [0, 1, 2] rfl)
  · intro c1
    replace h := h.2 c1
    refine lv_iload_n hx hb dM_mask_6 rfl (lv_at hl 1 rfl) ?_
    refine lv_aload_n hx hb dM_mask_7 rfl (lv_at hl 0 rfl) ?_
    refine va_get (D := (dC, dI)) (ci := 10) (v := .int v_this_pads) (C := RM) (T := TM) (N := 28) hx hb hts inZ_M hown hK hP 0 rfl rfl 16 (by decide) (hts _ zw_1060) (fun _ h9 => h9) rfl dM_mask_8 ?_
    refine lv_icmp_ge (tgt := 27) hx hb dM_mask_11 (by decide) ?_ ?_
    · intro c2
      replace h := h.1 c2
      exact w_M_mask_27 l C0 hE a_this a_units a_kinds a_values a_names a_low a_high a_told a_leftOut a_isMade a_hands a_pad a_court a_title a_out k_values k_pad p1 p2 v_this_thrown v_this_size v_this_families v_this_atHand v_this_family v_this_density v_this_pads v_this_hasThermal v_this_titleSize v_this_written v_this_at v_this_begin v_this_words v_this_paste0 v_values v_pad post hK _ _ h hP hD hS ls (lv_sub hl [0, 1, 2] rfl)
    · intro c2
      replace h := h.2 c2
      refine lv_iload_n hx hb dM_mask_14 rfl (lv_at hl 2 rfl) ?_
      refine lv_if_lt (tgt := 27) hx hb dM_mask_15 (by decide) ?_ ?_
      · intro c3
        replace h := h.1 c3
        exact w_M_mask_27 l C0 hE a_this a_units a_kinds a_values a_names a_low a_high a_told a_leftOut a_isMade a_hands a_pad a_court a_title a_out k_values k_pad p1 p2 v_this_thrown v_this_size v_this_families v_this_atHand v_this_family v_this_density v_this_pads v_this_hasThermal v_this_titleSize v_this_written v_this_at v_this_begin v_this_words v_this_paste0 v_values v_pad post hK _ _ h hP hD hS ls (lv_sub hl [0, 1, 2] rfl)
      · intro c3
        replace h := h.2 c3
        refine lv_iload_n hx hb dM_mask_18 rfl (lv_at hl 2 rfl) ?_
        refine lv_iconst (v := 4) hx hb dM_mask_19 (by decide) ?_
        refine lv_icmp_ge (tgt := 27) hx hb dM_mask_20 (by decide) ?_ ?_
        · intro c4
          replace h := h.1 c4
          exact w_M_mask_27 l C0 hE a_this a_units a_kinds a_values a_names a_low a_high a_told a_leftOut a_isMade a_hands a_pad a_court a_title a_out k_values k_pad p1 p2 v_this_thrown v_this_size v_this_families v_this_atHand v_this_family v_this_density v_this_pads v_this_hasThermal v_this_titleSize v_this_written v_this_at v_this_begin v_this_words v_this_paste0 v_values v_pad post hK _ _ h hP hD hS ls (lv_sub hl [0, 1, 2] rfl)
        · intro c4
          replace h := h.2 c4
          refine lv_iconst (v := 1) hx hb dM_mask_23 (by decide) ?_
          refine lv_goto (tgt := 28) hx hb dM_mask_24 (by decide) ?_
          exact w_M_mask_28 l C0 hE a_this a_units a_kinds a_values a_names a_low a_high a_told a_leftOut a_isMade a_hands a_pad a_court a_title a_out k_values k_pad p1 p2 v_this_thrown v_this_size v_this_families v_this_atHand v_this_family v_this_density v_this_pads v_this_hasThermal v_this_titleSize v_this_written v_this_at v_this_begin v_this_words v_this_paste0 v_values v_pad post hK 1 _ _ h hP hD hS ls (lv_sub hl [0, 1, 2] rfl)
abbrev yM_width : MethodName := ⟨"FootprintRulesModel", "width", "(JJ)J"⟩
abbrev cM_width : ByteArray := prog_14_method_44_code
abbrev wsM_width : List Cond := .code yM_width cM_width 7 (some .long) :: zT
set_option maxRecDepth 100000 in
theorem zc_M_width : Cond.code yM_width cM_width 7 (some .long) ∈ zT := zm 1315 (by rfl) (by rfl)
theorem dM_width_0 : decode cM_width 0 = .ok (.lload_n 1, 1) := by decide +kernel
theorem dM_width_1 : decode cM_width 1 = .ok (.lload_n 3, 1) := by decide +kernel
theorem dM_width_2 : decode cM_width 2 = .ok (.lconst 1, 1) := by decide +kernel
theorem dM_width_3 : decode cM_width 3 = .ok (.lsub, 1) := by decide +kernel
theorem dM_width_4 : decode cM_width 4 = .ok (.aload_n 0, 1) := by decide +kernel
theorem dM_width_5 : decode cM_width 5 = .ok (.bipush 7, 2) := by decide +kernel
theorem dM_width_7 : decode cM_width 7 = .ok (.invokevirtual 142, 3) := by decide +kernel
theorem dM_width_10 : decode cM_width 10 = .ok (.lmul, 1) := by decide +kernel
theorem dM_width_11 : decode cM_width 11 = .ok (.lsub, 1) := by decide +kernel
theorem dM_width_12 : decode cM_width 12 = .ok (.lstore 5, 2) := by decide +kernel
theorem dM_width_14 : decode cM_width 14 = .ok (.lload 5, 2) := by decide +kernel
theorem dM_width_16 : decode cM_width 16 = .ok (.lconst 0, 1) := by decide +kernel
theorem dM_width_17 : decode cM_width 17 = .ok (.lcmp, 1) := by decide +kernel
theorem dM_width_18 : decode cM_width 18 = .ok (.ifCond .ge 7, 3) := by decide +kernel
theorem dM_width_21 : decode cM_width 21 = .ok (.lconst 0, 1) := by decide +kernel
theorem dM_width_22 : decode cM_width 22 = .ok (.goto 7, 3) := by decide +kernel
theorem dM_width_25 : decode cM_width 25 = .ok (.lload 5, 2) := by decide +kernel
theorem dM_width_27 : decode cM_width 27 = .ok (.lload_n 3, 1) := by decide +kernel
theorem dM_width_28 : decode cM_width 28 = .ok (.ldiv, 1) := by decide +kernel
theorem dM_width_29 : decode cM_width 29 = .ok (.lreturn, 1) := by decide +kernel
-- FootprintRulesModel.width(JJ)J
abbrev w_M_width (ad : Nat → Nat → Nat) (a_this : Nat) (a_units : Nat) (a_kinds : Nat) (a_values : Nat) (a_names : Nat) (a_low : Nat) (a_high : Nat) (a_told : Nat) (a_leftOut : Nat) (a_isMade : Nat) (a_hands : Nat) (a_pad : Nat) (a_court : Nat) (a_title : Nat) (a_out : Nat) (k_values : ClassId) (v_this_thrown : Int32) (v_this_size : Int32) (v_this_families : Int32) (v_this_atHand : Int32) (v_this_family : Int32) (v_this_density : Int32) (v_this_pads : Int32) (v_this_hasThermal : Int32) (v_this_titleSize : Int32) (v_this_written : Int32) (v_this_at : Int32) (v_this_begin : Int32) (v_this_words : Int32) (v_this_paste0 : Int64) (v_values : Nat → Int64) : va_W := [(a_this, .inr (10, [.int v_this_thrown, .ref a_units, .int v_this_size, .int v_this_families, .ref a_kinds, .ref a_values, .ref a_names, .ref a_low, .ref a_high, .ref a_told, .ref a_leftOut, .ref a_isMade, .ref a_hands, .int v_this_atHand, .int v_this_family, .int v_this_density, .int v_this_pads, .ref a_pad, .ref a_court, .int v_this_hasThermal, .ref a_title, .int v_this_titleSize, .ref a_out, .int v_this_written, .int v_this_at, .int v_this_begin, .int v_this_words, .long v_this_paste0])), (a_values, .inl (k_values, 240, .inr (.inl v_values)))]
def P_M_width (p1 : Int64) (p3 : Int64) (v_this_family : Int32) (v_this_density : Int32) (v_values : Nat → Int64) (post : Int64 → Prop) : Prop := P_M_of 7 v_this_family v_this_density v_values (fun (r1 : Int64) => ∀ x2 : Int64, x2 = p1 - ((p3 - 1) * r1) → ((0 ≤ x2 → ¬ p3 = 0 ∧ post (x2 / p3)) ∧ (¬ 0 ≤ x2 → post 0)))
set_option maxHeartbeats 4000000 in
set_option maxRecDepth 100000 in
theorem c_M_width (l : Launch) (dC : Nat → ClassId) (dI : Nat → Nat → Nat) (ad : Nat → Nat → Nat) (a_this : Nat) (a_units : Nat) (a_kinds : Nat) (a_values : Nat) (a_names : Nat) (a_low : Nat) (a_high : Nat) (a_told : Nat) (a_leftOut : Nat) (a_isMade : Nat) (a_hands : Nat) (a_pad : Nat) (a_court : Nat) (a_title : Nat) (a_out : Nat) (k_values : ClassId) (sz : Nat) (p1 : Int64) (p3 : Int64) (v_this_thrown : Int32) (v_this_size : Int32) (v_this_families : Int32) (v_this_atHand : Int32) (v_this_family : Int32) (v_this_density : Int32) (v_this_pads : Int32) (v_this_hasThermal : Int32) (v_this_titleSize : Int32) (v_this_written : Int32) (v_this_at : Int32) (v_this_begin : Int32) (v_this_words : Int32) (v_this_paste0 : Int64) (v_values : Nat → Int64) (post : Int64 → Prop) (h : P_M_width p1 p3 v_this_family v_this_density v_values post) : zMl l yM_width wsM_width { frames := 1, cells := 0, slots := 0, locals := 21 } (dC, dI) ad [.ref a_this, .long p1, .long p3] (w_M_width ad a_this a_units a_kinds a_values a_names a_low a_high a_told a_leftOut a_isMade a_hands a_pad a_court a_title a_out k_values v_this_thrown v_this_size v_this_families v_this_atHand v_this_family v_this_density v_this_pads v_this_hasThermal v_this_titleSize v_this_written v_this_at v_this_begin v_this_words v_this_paste0 v_values) [(k_values, .long)] sz (fun (r : Int64) (u : Unit) => post r) (fun (u : Unit) => (w_M_width ad a_this a_units a_kinds a_values a_names a_low a_high a_told a_leftOut a_isMade a_hands a_pad a_court a_title a_out k_values v_this_thrown v_this_size v_this_families v_this_atHand v_this_family v_this_density v_this_pads v_this_hasThermal v_this_titleSize v_this_written v_this_at v_this_begin v_this_words v_this_paste0 v_values)) 0 0 := by
  refine Met.ofW (cc := cM_width) (maxL := 7) (ret := (some .long)) (by decide +kernel) rfl ?_
  intro p e s m args below meth c s₁ B hml hv
  obtain ⟨rfl, hsz, hP, hK, hD0, hE⟩ := hv
  have hx := B.exec
  have hb := B.bytes
  have hr := B.returns
  have hts0 := atoms_spec (ws := wsM_width) B.pre
  have hts := fun w h => hts0 w (List.mem_cons_of_mem _ h)
  have hown : s.vm.findClass RM = some m.cls := findClass_of_methodNamed B.named
  have hlocks := B.notSynchronized
  subst hsz
  have hD := hD0.self (sz := s.heap.size)
  generalize hAe : va_A (w_M_width ad a_this a_units a_kinds a_values a_names a_low a_high a_told a_leftOut a_isMade a_hands a_pad a_court a_title a_out k_values v_this_thrown v_this_size v_this_families v_this_atHand v_this_family v_this_density v_this_pads v_this_hasThermal v_this_titleSize v_this_written v_this_at v_this_begin v_this_words v_this_paste0 v_values) s.heap.size = A at hD hE ⊢
  have hA : ∀ q : Nat, s.heap.size ≤ q → A q := fun q h => by rw [← hAe]; exact Or.inr h
  have C0 := zC.mk hx hb hr hml hown hts hlocks hA
  have hS : va_S A s.heap s.heap [] := va_S.rf
  have hl := lv_entry ([.ref a_this, .long p1, .long p3]) (n := 7) (Nat.le_of_ble_eq_true rfl)
  rw [lg_entry_eq]
  generalize (lg_sl ([.ref a_this, .long p1, .long p3]) ++ List.replicate (7 - (lg_sl ([.ref a_this, .long p1, .long p3])).length) Slot.unset).toArray = ls at hl ⊢
  have hl : lv_has ls 7 [(0, .ref a_this), (1, .long p1), (3, .long p3)] := hl
  unfold P_M_width at h
  refine lv_lload_n hx hb dM_width_0 rfl (lv_at hl 1 rfl) ?_
  refine lv_lload_n hx hb dM_width_1 rfl (lv_at hl 2 rfl) ?_
  refine lv_lconst (v := 1) hx hb dM_width_2 (by decide) ?_
  refine lv_lsub hx hb dM_width_3 ?_
  refine lv_aload_n hx hb dM_width_4 rfl (lv_at hl 0 rfl) ?_
  refine lv_bipush (v := 7) hx hb dM_width_5 (by decide) ?_
  refine zcall_l hP hD hS hA [0, 1] [] (va_runV (As := [.int 7]) (rest := [.long (p3 - 1), .long p1]) ⟨hx, hb, hml, hown, hts⟩ (c_M_of l dC dI ad a_this a_units a_kinds a_values a_names a_low a_high a_told a_leftOut a_isMade a_hands a_pad a_court a_title a_out k_values _ 7 v_this_thrown v_this_size v_this_families v_this_atHand v_this_family v_this_density v_this_pads v_this_hasThermal v_this_titleSize v_this_written v_this_at v_this_begin v_this_words v_this_paste0 v_values _ h) ⟨callB_of 1 hts (zgood zc_M_of) rfl rfl rfl (hts _ zw_107) (hts _ zw_1201) (by decide +kernel) ⟨Nat.le_of_ble_eq_true rfl, Nat.le_of_ble_eq_true rfl⟩, (hts _ zw_1203), (hts _ zw_74)⟩ (zpreV hE hK hP hD hS hA [0, 1] [0] (by rfl) (by rfl) (by decide) (ci := 10) (q0 := 0) rfl (by rfl)) rfl rfl hl.1 rfl (lv_room (Nat.le_of_ble_eq_true rfl)) dM_width_7 ⟨Nat.le_of_ble_eq_true rfl, Nat.le_of_ble_eq_true rfl⟩) (by rfl) (by rfl) (by decide) (by decide) (fun r1 u H locs h hP hD hS => ?_)
  try dsimp only at h
  have hP := hP.sub (ws' := (w_M_width ad a_this a_units a_kinds a_values a_names a_low a_high a_told a_leftOut a_isMade a_hands a_pad a_court a_title a_out k_values v_this_thrown v_this_size v_this_families v_this_atHand v_this_family v_this_density v_this_pads v_this_hasThermal v_this_titleSize v_this_written v_this_at v_this_begin v_this_words v_this_paste0 v_values)) [0, 1] rfl
  have hD := hD.sub (ws' := (w_M_width ad a_this a_units a_kinds a_values a_names a_low a_high a_told a_leftOut a_isMade a_hands a_pad a_court a_title a_out k_values v_this_thrown v_this_size v_this_families v_this_atHand v_this_family v_this_density v_this_pads v_this_hasThermal v_this_titleSize v_this_written v_this_at v_this_begin v_this_words v_this_paste0 v_values)) [0, 1] (by decide) rfl
  refine lv_lmul hx hb dM_width_10 ?_
  refine lv_lsub hx hb dM_width_11 ?_
  refine lv_topl (fun x2 ex2 => ?_)
  replace h := h x2 ex2
  refine lv_lstore (lv' := [(5, .long x2), (0, .ref a_this), (1, .long p1), (3, .long p3)]) hx hb dM_width_12 hl (by decide) rfl (fun ls hl => ?_)
  refine lv_lload hx hb dM_width_14 (lv_at hl 0 rfl) ?_
  refine lv_lconst (v := 0) hx hb dM_width_16 (by decide) ?_
  refine zz_lcmp_ge (tgt := 25) hx hb dM_width_17 dM_width_18 (by decide) ?_ ?_
  · intro c3
    replace h := h.1 c3
    refine lv_lload hx hb dM_width_25 (lv_at hl 0 rfl) ?_
    refine lv_lload_n hx hb dM_width_27 rfl (lv_at hl 3 rfl) ?_
    obtain ⟨hn4, h⟩ := h
    refine lv_ldiv hx hb dM_width_28 hn4 ?_
    exact W.lret (v := (x2 / p3)) hx hb hr (fun t ht hW => ⟨⟨(x2 / p3), (()), rfl, h, by rw [ht]; exact hP, hD⟩, hS.F ht⟩) hS.2.2 dM_width_29
  · intro c3
    replace h := h.2 c3
    refine lv_lconst (v := 0) hx hb dM_width_21 (by decide) ?_
    refine lv_goto (tgt := 29) hx hb dM_width_22 (by decide) ?_
    exact W.lret (v := 0) hx hb hr (fun t ht hW => ⟨⟨0, (()), rfl, h, by rw [ht]; exact hP, hD⟩, hS.F ht⟩) hS.2.2 dM_width_29
abbrev yM_columns : MethodName := ⟨"FootprintRulesModel", "columns", "(IJ)J"⟩
abbrev cM_columns : ByteArray := prog_14_method_43_code
abbrev wsM_columns : List Cond := .code yM_columns cM_columns 10 (some .long) :: zT
set_option maxRecDepth 100000 in
theorem zc_M_columns : Cond.code yM_columns cM_columns 10 (some .long) ∈ zT := zm 1311 (by rfl) (by rfl)
theorem dM_columns_0 : decode cM_columns 0 = .ok (.aload_n 0, 1) := by decide +kernel
theorem dM_columns_1 : decode cM_columns 1 = .ok (.bipush 8, 2) := by decide +kernel
theorem dM_columns_3 : decode cM_columns 3 = .ok (.invokevirtual 142, 3) := by decide +kernel
theorem dM_columns_6 : decode cM_columns 6 = .ok (.lstore 4, 2) := by decide +kernel
theorem dM_columns_8 : decode cM_columns 8 = .ok (.lload_n 2, 1) := by decide +kernel
theorem dM_columns_9 : decode cM_columns 9 = .ok (.lconst 1, 1) := by decide +kernel
theorem dM_columns_10 : decode cM_columns 10 = .ok (.lcmp, 1) := by decide +kernel
theorem dM_columns_11 : decode cM_columns 11 = .ok (.ifCond .ge 5, 3) := by decide +kernel
theorem dM_columns_14 : decode cM_columns 14 = .ok (.lconst 0, 1) := by decide +kernel
theorem dM_columns_15 : decode cM_columns 15 = .ok (.lreturn, 1) := by decide +kernel
theorem dM_columns_16 : decode cM_columns 16 = .ok (.lload 4, 2) := by decide +kernel
theorem dM_columns_18 : decode cM_columns 18 = .ok (.lconst 0, 1) := by decide +kernel
theorem dM_columns_19 : decode cM_columns 19 = .ok (.lcmp, 1) := by decide +kernel
theorem dM_columns_20 : decode cM_columns 20 = .ok (.ifCond .eq 19, 3) := by decide +kernel
theorem dM_columns_23 : decode cM_columns 23 = .ok (.aload_n 0, 1) := by decide +kernel
theorem dM_columns_24 : decode cM_columns 24 = .ok (.getfield 42, 3) := by decide +kernel
theorem dM_columns_27 : decode cM_columns 27 = .ok (.bipush 7, 2) := by decide +kernel
theorem dM_columns_29 : decode cM_columns 29 = .ok (.iload_n 1, 1) := by decide +kernel
theorem dM_columns_30 : decode cM_columns 30 = .ok (.imul, 1) := by decide +kernel
theorem dM_columns_31 : decode cM_columns 31 = .ok (.iconst 5, 1) := by decide +kernel
theorem dM_columns_32 : decode cM_columns 32 = .ok (.iadd, 1) := by decide +kernel
theorem dM_columns_33 : decode cM_columns 33 = .ok (.laload, 1) := by decide +kernel
theorem dM_columns_34 : decode cM_columns 34 = .ok (.lconst 1, 1) := by decide +kernel
theorem dM_columns_35 : decode cM_columns 35 = .ok (.lcmp, 1) := by decide +kernel
theorem dM_columns_36 : decode cM_columns 36 = .ok (.ifCond .ne 5, 3) := by decide +kernel
theorem dM_columns_39 : decode cM_columns 39 = .ok (.lconst 1, 1) := by decide +kernel
theorem dM_columns_40 : decode cM_columns 40 = .ok (.lreturn, 1) := by decide +kernel
theorem dM_columns_41 : decode cM_columns 41 = .ok (.lconst 1, 1) := by decide +kernel
theorem dM_columns_42 : decode cM_columns 42 = .ok (.lstore 6, 2) := by decide +kernel
theorem dM_columns_44 : decode cM_columns 44 = .ok (.aload_n 0, 1) := by decide +kernel
theorem dM_columns_45 : decode cM_columns 45 = .ok (.lload_n 2, 1) := by decide +kernel
theorem dM_columns_46 : decode cM_columns 46 = .ok (.lload 6, 2) := by decide +kernel
theorem dM_columns_48 : decode cM_columns 48 = .ok (.invokevirtual 228, 3) := by decide +kernel
theorem dM_columns_51 : decode cM_columns 51 = .ok (.lload 4, 2) := by decide +kernel
theorem dM_columns_53 : decode cM_columns 53 = .ok (.lcmp, 1) := by decide +kernel
theorem dM_columns_54 : decode cM_columns 54 = .ok (.ifCond .le 57, 3) := by decide +kernel
theorem dM_columns_57 : decode cM_columns 57 = .ok (.lload 6, 2) := by decide +kernel
theorem dM_columns_59 : decode cM_columns 59 = .ok (.lstore 8, 2) := by decide +kernel
theorem dM_columns_61 : decode cM_columns 61 = .ok (.aload_n 0, 1) := by decide +kernel
theorem dM_columns_62 : decode cM_columns 62 = .ok (.lload_n 2, 1) := by decide +kernel
theorem dM_columns_63 : decode cM_columns 63 = .ok (.ldc2_w 90, 3) := by decide +kernel
theorem dM_columns_66 : decode cM_columns 66 = .ok (.lload 8, 2) := by decide +kernel
theorem dM_columns_68 : decode cM_columns 68 = .ok (.lmul, 1) := by decide +kernel
theorem dM_columns_69 : decode cM_columns 69 = .ok (.invokevirtual 228, 3) := by decide +kernel
theorem dM_columns_72 : decode cM_columns 72 = .ok (.lload 4, 2) := by decide +kernel
theorem dM_columns_74 : decode cM_columns 74 = .ok (.lcmp, 1) := by decide +kernel
theorem dM_columns_75 : decode cM_columns 75 = .ok (.ifCond .le 14, 3) := by decide +kernel
theorem dM_columns_78 : decode cM_columns 78 = .ok (.ldc2_w 90, 3) := by decide +kernel
theorem dM_columns_81 : decode cM_columns 81 = .ok (.lload 8, 2) := by decide +kernel
theorem dM_columns_83 : decode cM_columns 83 = .ok (.lmul, 1) := by decide +kernel
theorem dM_columns_84 : decode cM_columns 84 = .ok (.lstore 8, 2) := by decide +kernel
theorem dM_columns_86 : decode cM_columns 86 = .ok (.goto (-25), 3) := by decide +kernel
theorem dM_columns_89 : decode cM_columns 89 = .ok (.lload 8, 2) := by decide +kernel
theorem dM_columns_91 : decode cM_columns 91 = .ok (.lload 6, 2) := by decide +kernel
theorem dM_columns_93 : decode cM_columns 93 = .ok (.lcmp, 1) := by decide +kernel
theorem dM_columns_94 : decode cM_columns 94 = .ok (.ifCond .le 8, 3) := by decide +kernel
theorem dM_columns_97 : decode cM_columns 97 = .ok (.lload 8, 2) := by decide +kernel
theorem dM_columns_99 : decode cM_columns 99 = .ok (.goto 7, 3) := by decide +kernel
theorem dM_columns_102 : decode cM_columns 102 = .ok (.lload 6, 2) := by decide +kernel
theorem dM_columns_104 : decode cM_columns 104 = .ok (.lconst 1, 1) := by decide +kernel
theorem dM_columns_105 : decode cM_columns 105 = .ok (.ladd, 1) := by decide +kernel
theorem dM_columns_106 : decode cM_columns 106 = .ok (.lstore 6, 2) := by decide +kernel
theorem dM_columns_108 : decode cM_columns 108 = .ok (.goto (-64), 3) := by decide +kernel
theorem dM_columns_111 : decode cM_columns 111 = .ok (.aload_n 0, 1) := by decide +kernel
theorem dM_columns_112 : decode cM_columns 112 = .ok (.lload_n 2, 1) := by decide +kernel
theorem dM_columns_113 : decode cM_columns 113 = .ok (.lload 6, 2) := by decide +kernel
theorem dM_columns_115 : decode cM_columns 115 = .ok (.invokevirtual 228, 3) := by decide +kernel
theorem dM_columns_118 : decode cM_columns 118 = .ok (.lconst 1, 1) := by decide +kernel
theorem dM_columns_119 : decode cM_columns 119 = .ok (.lcmp, 1) := by decide +kernel
theorem dM_columns_120 : decode cM_columns 120 = .ok (.ifCond .ge 7, 3) := by decide +kernel
theorem dM_columns_123 : decode cM_columns 123 = .ok (.lconst 0, 1) := by decide +kernel
theorem dM_columns_124 : decode cM_columns 124 = .ok (.goto 5, 3) := by decide +kernel
theorem dM_columns_127 : decode cM_columns 127 = .ok (.lload 6, 2) := by decide +kernel
theorem dM_columns_129 : decode cM_columns 129 = .ok (.lreturn, 1) := by decide +kernel
-- FootprintRulesModel.columns(IJ)J
abbrev w_M_columns (ad : Nat → Nat → Nat) (a_this : Nat) (a_units : Nat) (a_kinds : Nat) (a_values : Nat) (a_names : Nat) (a_low : Nat) (a_high : Nat) (a_told : Nat) (a_leftOut : Nat) (a_isMade : Nat) (a_hands : Nat) (a_pad : Nat) (a_court : Nat) (a_title : Nat) (a_out : Nat) (k_values : ClassId) (k_pad : ClassId) (v_this_thrown : Int32) (v_this_size : Int32) (v_this_families : Int32) (v_this_atHand : Int32) (v_this_family : Int32) (v_this_density : Int32) (v_this_pads : Int32) (v_this_hasThermal : Int32) (v_this_titleSize : Int32) (v_this_written : Int32) (v_this_at : Int32) (v_this_begin : Int32) (v_this_words : Int32) (v_this_paste0 : Int64) (v_values : Nat → Int64) (v_pad : Nat → Int64) : va_W := [(a_this, .inr (10, [.int v_this_thrown, .ref a_units, .int v_this_size, .int v_this_families, .ref a_kinds, .ref a_values, .ref a_names, .ref a_low, .ref a_high, .ref a_told, .ref a_leftOut, .ref a_isMade, .ref a_hands, .int v_this_atHand, .int v_this_family, .int v_this_density, .int v_this_pads, .ref a_pad, .ref a_court, .int v_this_hasThermal, .ref a_title, .int v_this_titleSize, .ref a_out, .int v_this_written, .int v_this_at, .int v_this_begin, .int v_this_words, .long v_this_paste0])), (a_values, .inl (k_values, 240, .inr (.inl v_values))), (a_pad, .inl (k_pad, 455, .inr (.inl v_pad)))]
def P_M_columns_106  (post : Int64 → Prop) (K44 : Int64 → Int64 → Prop) (y4 : Int64) (t0 : Int64) : Prop := K44 y4 t0
set_option maxHeartbeats 4000000 in
set_option maxRecDepth 100000 in
theorem w_M_columns_106 (l : Launch) {p : Program} {e : Env} {s : State} {m : MethodId} {args : Array Value} {below : List Frame} {meth : Method} {c : Code} {dC : Nat → ClassId} {dI : Nat → Nat → Nat} {ad : Nat → Nat → Nat} {A : Nat → Prop} (C0 : zC p s m args meth c cM_columns 10 RM zT (some .long) A) (hE : zE ad A s) (a_this : Nat) (a_units : Nat) (a_kinds : Nat) (a_values : Nat) (a_names : Nat) (a_low : Nat) (a_high : Nat) (a_told : Nat) (a_leftOut : Nat) (a_isMade : Nat) (a_hands : Nat) (a_pad : Nat) (a_court : Nat) (a_title : Nat) (a_out : Nat) (k_values : ClassId) (k_pad : ClassId) (p1 : Int32) (p2 : Int64) (v_this_thrown : Int32) (v_this_size : Int32) (v_this_families : Int32) (v_this_atHand : Int32) (v_this_family : Int32) (v_this_density : Int32) (v_this_pads : Int32) (v_this_hasThermal : Int32) (v_this_titleSize : Int32) (v_this_written : Int32) (v_this_at : Int32) (v_this_begin : Int32) (v_this_words : Int32) (v_this_paste0 : Int64) (v_values : Nat → Int64) (v_pad : Nat → Int64) (post : Int64 → Prop) (K44 : Int64 → Int64 → Prop) (hK44 : ∀ (y4 : Int64) (y6 : Int64) (H : Heap) (locs : List Loc), K44 y4 y6 → va_P (dC, dI) vwCl (w_M_columns ad a_this a_units a_kinds a_values a_names a_low a_high a_told a_leftOut a_isMade a_hands a_pad a_court a_title a_out k_values k_pad v_this_thrown v_this_size v_this_families v_this_atHand v_this_family v_this_density v_this_pads v_this_hasThermal v_this_titleSize v_this_written v_this_at v_this_begin v_this_words v_this_paste0 v_values v_pad) H → va_D A (w_M_columns ad a_this a_units a_kinds a_values a_names a_low a_high a_told a_leftOut a_isMade a_hands a_pad a_court a_title a_out k_values k_pad v_this_thrown v_this_size v_this_families v_this_atHand v_this_family v_this_density v_this_pads v_this_hasThermal v_this_titleSize v_this_written v_this_at v_this_begin v_this_words v_this_paste0 v_values v_pad) → va_S A s.heap H locs → ∀ ls : Array Slot, lv_has ls 10 [(0, .ref a_this), (2, .long p2), (4, .long y4), (6, .long y6)] → W p l e (headSpec wsM_columns { frames := 2, cells := 0, slots := 0, locals := 47 }).room s m args below meth c H locs 0 0 (MQ below (va_Ql (fun (r : Int64) (u : Unit) => post r) (zB (dC, dI) A (fun (u : Unit) => (w_M_columns ad a_this a_units a_kinds a_values a_names a_low a_high a_told a_leftOut a_isMade a_hands a_pad a_court a_title a_out k_values k_pad v_this_thrown v_this_size v_this_families v_this_atHand v_this_family v_this_density v_this_pads v_this_hasThermal v_this_titleSize v_this_written v_this_at v_this_begin v_this_words v_this_paste0 v_values v_pad))) A) args s 0 0 A) (F0 m 44 ls [])) (hK : va_K (dC, dI) vwCl [(k_values, .long), (k_pad, .long)] s) : ∀ (y4 : Int64) (t0 : Int64) (H : Heap) (locs : List Loc), P_M_columns_106 post K44 y4 t0 → va_P (dC, dI) vwCl (w_M_columns ad a_this a_units a_kinds a_values a_names a_low a_high a_told a_leftOut a_isMade a_hands a_pad a_court a_title a_out k_values k_pad v_this_thrown v_this_size v_this_families v_this_atHand v_this_family v_this_density v_this_pads v_this_hasThermal v_this_titleSize v_this_written v_this_at v_this_begin v_this_words v_this_paste0 v_values v_pad) H → va_D A (w_M_columns ad a_this a_units a_kinds a_values a_names a_low a_high a_told a_leftOut a_isMade a_hands a_pad a_court a_title a_out k_values k_pad v_this_thrown v_this_size v_this_families v_this_atHand v_this_family v_this_density v_this_pads v_this_hasThermal v_this_titleSize v_this_written v_this_at v_this_begin v_this_words v_this_paste0 v_values v_pad) → va_S A s.heap H locs → ∀ ls : Array Slot, lv_has ls 10 [(0, .ref a_this), (2, .long p2), (4, .long y4)] → W p l e (headSpec wsM_columns { frames := 2, cells := 0, slots := 0, locals := 47 }).room s m args below meth c H locs 0 0 (MQ below (va_Ql (fun (r : Int64) (u : Unit) => post r) (zB (dC, dI) A (fun (u : Unit) => (w_M_columns ad a_this a_units a_kinds a_values a_names a_low a_high a_told a_leftOut a_isMade a_hands a_pad a_court a_title a_out k_values k_pad v_this_thrown v_this_size v_this_families v_this_atHand v_this_family v_this_density v_this_pads v_this_hasThermal v_this_titleSize v_this_written v_this_at v_this_begin v_this_words v_this_paste0 v_values v_pad))) A) args s 0 0 A) (F0 m 106 ls [.long t0]) := by
  obtain ⟨hx, hb, hr, hml, hown, hts, hlocks, hA⟩ := id C0
  intro y4 t0 H locs h hP hD hS ls hl
  unfold P_M_columns_106 at h
  refine lv_lstore (lv' := [(6, .long t0), (0, .ref a_this), (2, .long p2), (4, .long y4)]) hx hb dM_columns_106 hl (by decide) rfl (fun ls hl => ?_)
  refine lv_goto (tgt := 44) hx hb dM_columns_108 (by decide) ?_
  exact hK44 y4 t0 _ _ h hP hD hS ls (lv_sub hl [1, 2, 3, 0] rfl)
def P_M_columns_61 (p2 : Int64) (v_this_family : Int32) (v_this_density : Int32) (v_values : Nat → Int64) (post : Int64 → Prop) (K44 : Int64 → Int64 → Prop) : Nat → Int64 → Int64 → Int64 → Prop
  | 0, _, _, _ => False
  | n + 1, y4, y6, y8 => P_M_width p2 (2 * y8) v_this_family v_this_density v_values (fun (r1 : Int64) => ((r1 ≤ y4 → ((y8 ≤ y6 → P_M_columns_106 post K44 y4 (y6 + 1)) ∧ (¬ y8 ≤ y6 → P_M_columns_106 post K44 y4 y8))) ∧ (¬ r1 ≤ y4 → ∀ x4 : Int64, x4 = 2 * y8 → P_M_columns_61 p2 v_this_family v_this_density v_values post K44 n y4 y6 x4)))
set_option maxHeartbeats 4000000 in
set_option maxRecDepth 100000 in
theorem w_M_columns_61 (l : Launch) {p : Program} {e : Env} {s : State} {m : MethodId} {args : Array Value} {below : List Frame} {meth : Method} {c : Code} {dC : Nat → ClassId} {dI : Nat → Nat → Nat} {ad : Nat → Nat → Nat} {A : Nat → Prop} (C0 : zC p s m args meth c cM_columns 10 RM zT (some .long) A) (hE : zE ad A s) (a_this : Nat) (a_units : Nat) (a_kinds : Nat) (a_values : Nat) (a_names : Nat) (a_low : Nat) (a_high : Nat) (a_told : Nat) (a_leftOut : Nat) (a_isMade : Nat) (a_hands : Nat) (a_pad : Nat) (a_court : Nat) (a_title : Nat) (a_out : Nat) (k_values : ClassId) (k_pad : ClassId) (p1 : Int32) (p2 : Int64) (v_this_thrown : Int32) (v_this_size : Int32) (v_this_families : Int32) (v_this_atHand : Int32) (v_this_family : Int32) (v_this_density : Int32) (v_this_pads : Int32) (v_this_hasThermal : Int32) (v_this_titleSize : Int32) (v_this_written : Int32) (v_this_at : Int32) (v_this_begin : Int32) (v_this_words : Int32) (v_this_paste0 : Int64) (v_values : Nat → Int64) (v_pad : Nat → Int64) (post : Int64 → Prop) (K44 : Int64 → Int64 → Prop) (hK44 : ∀ (y4 : Int64) (y6 : Int64) (H : Heap) (locs : List Loc), K44 y4 y6 → va_P (dC, dI) vwCl (w_M_columns ad a_this a_units a_kinds a_values a_names a_low a_high a_told a_leftOut a_isMade a_hands a_pad a_court a_title a_out k_values k_pad v_this_thrown v_this_size v_this_families v_this_atHand v_this_family v_this_density v_this_pads v_this_hasThermal v_this_titleSize v_this_written v_this_at v_this_begin v_this_words v_this_paste0 v_values v_pad) H → va_D A (w_M_columns ad a_this a_units a_kinds a_values a_names a_low a_high a_told a_leftOut a_isMade a_hands a_pad a_court a_title a_out k_values k_pad v_this_thrown v_this_size v_this_families v_this_atHand v_this_family v_this_density v_this_pads v_this_hasThermal v_this_titleSize v_this_written v_this_at v_this_begin v_this_words v_this_paste0 v_values v_pad) → va_S A s.heap H locs → ∀ ls : Array Slot, lv_has ls 10 [(0, .ref a_this), (2, .long p2), (4, .long y4), (6, .long y6)] → W p l e (headSpec wsM_columns { frames := 2, cells := 0, slots := 0, locals := 47 }).room s m args below meth c H locs 0 0 (MQ below (va_Ql (fun (r : Int64) (u : Unit) => post r) (zB (dC, dI) A (fun (u : Unit) => (w_M_columns ad a_this a_units a_kinds a_values a_names a_low a_high a_told a_leftOut a_isMade a_hands a_pad a_court a_title a_out k_values k_pad v_this_thrown v_this_size v_this_families v_this_atHand v_this_family v_this_density v_this_pads v_this_hasThermal v_this_titleSize v_this_written v_this_at v_this_begin v_this_words v_this_paste0 v_values v_pad))) A) args s 0 0 A) (F0 m 44 ls [])) (hK : va_K (dC, dI) vwCl [(k_values, .long), (k_pad, .long)] s) : ∀ (n : Nat), ∀ (y4 : Int64) (y6 : Int64) (y8 : Int64) (H : Heap) (locs : List Loc), P_M_columns_61 p2 v_this_family v_this_density v_values post K44 n y4 y6 y8 → va_P (dC, dI) vwCl (w_M_columns ad a_this a_units a_kinds a_values a_names a_low a_high a_told a_leftOut a_isMade a_hands a_pad a_court a_title a_out k_values k_pad v_this_thrown v_this_size v_this_families v_this_atHand v_this_family v_this_density v_this_pads v_this_hasThermal v_this_titleSize v_this_written v_this_at v_this_begin v_this_words v_this_paste0 v_values v_pad) H → va_D A (w_M_columns ad a_this a_units a_kinds a_values a_names a_low a_high a_told a_leftOut a_isMade a_hands a_pad a_court a_title a_out k_values k_pad v_this_thrown v_this_size v_this_families v_this_atHand v_this_family v_this_density v_this_pads v_this_hasThermal v_this_titleSize v_this_written v_this_at v_this_begin v_this_words v_this_paste0 v_values v_pad) → va_S A s.heap H locs → ∀ ls : Array Slot, lv_has ls 10 [(0, .ref a_this), (2, .long p2), (4, .long y4), (6, .long y6), (8, .long y8)] → W p l e (headSpec wsM_columns { frames := 2, cells := 0, slots := 0, locals := 47 }).room s m args below meth c H locs 0 0 (MQ below (va_Ql (fun (r : Int64) (u : Unit) => post r) (zB (dC, dI) A (fun (u : Unit) => (w_M_columns ad a_this a_units a_kinds a_values a_names a_low a_high a_told a_leftOut a_isMade a_hands a_pad a_court a_title a_out k_values k_pad v_this_thrown v_this_size v_this_families v_this_atHand v_this_family v_this_density v_this_pads v_this_hasThermal v_this_titleSize v_this_written v_this_at v_this_begin v_this_words v_this_paste0 v_values v_pad))) A) args s 0 0 A) (F0 m 61 ls []) := by
  obtain ⟨hx, hb, hr, hml, hown, hts, hlocks, hA⟩ := id C0
  intro n
  induction n with
  | zero =>
    intro y4 y6 y8 H locs h
    exact False.elim h
  | succ n ih =>
    intro y4 y6 y8 H locs h hP hD hS ls hl
    rw [P_M_columns_61] at h
    refine lv_aload_n hx hb dM_columns_61 rfl (lv_at hl 0 rfl) ?_
    refine lv_lload_n hx hb dM_columns_62 rfl (lv_at hl 1 rfl) ?_
    refine lv_ldc2 (own := RM) (index := 90) (v := 2) hx hb hown (hts _ zw_1179) dM_columns_63 ?_
    refine lv_lload hx hb dM_columns_66 (lv_at hl 4 rfl) ?_
    refine lv_lmul hx hb dM_columns_68 ?_
    refine zcall_l hP hD hS hA [0, 1] [2] (va_runV (As := [.long p2, .long (2 * y8)]) (rest := []) ⟨hx, hb, hml, hown, hts⟩ (c_M_width l dC dI ad a_this a_units a_kinds a_values a_names a_low a_high a_told a_leftOut a_isMade a_hands a_pad a_court a_title a_out k_values _ p2 (2 * y8) v_this_thrown v_this_size v_this_families v_this_atHand v_this_family v_this_density v_this_pads v_this_hasThermal v_this_titleSize v_this_written v_this_at v_this_begin v_this_words v_this_paste0 v_values _ h) ⟨callB_of 2 hts (zgood zc_M_width) rfl rfl rfl (hts _ zw_107) (hts _ zw_1312) (by decide +kernel) ⟨Nat.le_of_ble_eq_true rfl, Nat.le_of_ble_eq_true rfl⟩, (hts _ zw_1314), (hts _ zw_92)⟩ (zpreV hE hK hP hD hS hA [0, 1] [0] (by rfl) (by rfl) (by decide) (ci := 10) (q0 := 0) rfl (by rfl)) rfl rfl hl.1 rfl (lv_room (Nat.le_of_ble_eq_true rfl)) dM_columns_69 ⟨Nat.le_of_ble_eq_true rfl, Nat.le_of_ble_eq_true rfl⟩) (by rfl) (by rfl) (by decide) (by decide) (fun r1 u H locs h hP hD hS => ?_)
    try dsimp only at h
    have hP := hP.sub (ws' := (w_M_columns ad a_this a_units a_kinds a_values a_names a_low a_high a_told a_leftOut a_isMade a_hands a_pad a_court a_title a_out k_values k_pad v_this_thrown v_this_size v_this_families v_this_atHand v_this_family v_this_density v_this_pads v_this_hasThermal v_this_titleSize v_this_written v_this_at v_this_begin v_this_words v_this_paste0 v_values v_pad)) [1, 2, 0] rfl
    have hD := hD.sub (ws' := (w_M_columns ad a_this a_units a_kinds a_values a_names a_low a_high a_told a_leftOut a_isMade a_hands a_pad a_court a_title a_out k_values k_pad v_this_thrown v_this_size v_this_families v_this_atHand v_this_family v_this_density v_this_pads v_this_hasThermal v_this_titleSize v_this_written v_this_at v_this_begin v_this_words v_this_paste0 v_values v_pad)) [1, 2, 0] (by decide) rfl
    refine lv_lload hx hb dM_columns_72 (lv_at hl 2 rfl) ?_
    refine zz_lcmp_le (tgt := 89) hx hb dM_columns_74 dM_columns_75 (by decide) ?_ ?_
    · intro c2
      replace h := h.1 c2
      refine lv_lload hx hb dM_columns_89 (lv_at hl 4 rfl) ?_
      refine lv_lload hx hb dM_columns_91 (lv_at hl 3 rfl) ?_
      refine zz_lcmp_le (tgt := 102) hx hb dM_columns_93 dM_columns_94 (by decide) ?_ ?_
      · intro c3
        replace h := h.1 c3
        refine lv_lload hx hb dM_columns_102 (lv_at hl 3 rfl) ?_
        refine lv_lconst (v := 1) hx hb dM_columns_104 (by decide) ?_
        refine lv_ladd hx hb dM_columns_105 ?_
        exact w_M_columns_106 l C0 hE a_this a_units a_kinds a_values a_names a_low a_high a_told a_leftOut a_isMade a_hands a_pad a_court a_title a_out k_values k_pad p1 p2 v_this_thrown v_this_size v_this_families v_this_atHand v_this_family v_this_density v_this_pads v_this_hasThermal v_this_titleSize v_this_written v_this_at v_this_begin v_this_words v_this_paste0 v_values v_pad post K44 hK44 hK y4 (y6 + 1) _ _ h hP hD hS ls (lv_sub hl [0, 1, 2] rfl)
      · intro c3
        replace h := h.2 c3
        refine lv_lload hx hb dM_columns_97 (lv_at hl 4 rfl) ?_
        refine lv_goto (tgt := 106) hx hb dM_columns_99 (by decide) ?_
        exact w_M_columns_106 l C0 hE a_this a_units a_kinds a_values a_names a_low a_high a_told a_leftOut a_isMade a_hands a_pad a_court a_title a_out k_values k_pad p1 p2 v_this_thrown v_this_size v_this_families v_this_atHand v_this_family v_this_density v_this_pads v_this_hasThermal v_this_titleSize v_this_written v_this_at v_this_begin v_this_words v_this_paste0 v_values v_pad post K44 hK44 hK y4 y8 _ _ h hP hD hS ls (lv_sub hl [0, 1, 2] rfl)
    · intro c2
      replace h := h.2 c2
      refine lv_ldc2 (own := RM) (index := 90) (v := 2) hx hb hown (hts _ zw_1179) dM_columns_78 ?_
      refine lv_lload hx hb dM_columns_81 (lv_at hl 4 rfl) ?_
      refine lv_lmul hx hb dM_columns_83 ?_
      refine lv_topl (fun x4 ex4 => ?_)
      replace h := h x4 ex4
      refine lv_lstore (lv' := [(8, .long x4), (0, .ref a_this), (2, .long p2), (4, .long y4), (6, .long y6)]) hx hb dM_columns_84 hl (by decide) rfl (fun ls hl => ?_)
      refine lv_goto (tgt := 61) hx hb dM_columns_86 (by decide) ?_
      exact ih y4 y6 x4 _ _ h hP hD hS ls (lv_sub hl [1, 2, 3, 4, 0] rfl)
def P_M_columns_44 (p2 : Int64) (v_this_family : Int32) (v_this_density : Int32) (v_values : Nat → Int64) (post : Int64 → Prop) : Nat → Int64 → Int64 → Prop
  | 0, _, _ => False
  | n + 1, y4, y6 => P_M_width p2 y6 v_this_family v_this_density v_values (fun (r1 : Int64) => ((r1 ≤ y4 → P_M_width p2 y6 v_this_family v_this_density v_values (fun (r3 : Int64) => ((1 ≤ r3 → post y6) ∧ (¬ 1 ≤ r3 → post 0)))) ∧ (¬ r1 ≤ y4 → ∃ n5, P_M_columns_61 p2 v_this_family v_this_density v_values post (P_M_columns_44 p2 v_this_family v_this_density v_values post n) n5 y4 y6 y6)))
set_option maxHeartbeats 4000000 in
set_option maxRecDepth 100000 in
theorem w_M_columns_44 (l : Launch) {p : Program} {e : Env} {s : State} {m : MethodId} {args : Array Value} {below : List Frame} {meth : Method} {c : Code} {dC : Nat → ClassId} {dI : Nat → Nat → Nat} {ad : Nat → Nat → Nat} {A : Nat → Prop} (C0 : zC p s m args meth c cM_columns 10 RM zT (some .long) A) (hE : zE ad A s) (a_this : Nat) (a_units : Nat) (a_kinds : Nat) (a_values : Nat) (a_names : Nat) (a_low : Nat) (a_high : Nat) (a_told : Nat) (a_leftOut : Nat) (a_isMade : Nat) (a_hands : Nat) (a_pad : Nat) (a_court : Nat) (a_title : Nat) (a_out : Nat) (k_values : ClassId) (k_pad : ClassId) (p1 : Int32) (p2 : Int64) (v_this_thrown : Int32) (v_this_size : Int32) (v_this_families : Int32) (v_this_atHand : Int32) (v_this_family : Int32) (v_this_density : Int32) (v_this_pads : Int32) (v_this_hasThermal : Int32) (v_this_titleSize : Int32) (v_this_written : Int32) (v_this_at : Int32) (v_this_begin : Int32) (v_this_words : Int32) (v_this_paste0 : Int64) (v_values : Nat → Int64) (v_pad : Nat → Int64) (post : Int64 → Prop) (hK : va_K (dC, dI) vwCl [(k_values, .long), (k_pad, .long)] s) : ∀ (n : Nat), ∀ (y4 : Int64) (y6 : Int64) (H : Heap) (locs : List Loc), P_M_columns_44 p2 v_this_family v_this_density v_values post n y4 y6 → va_P (dC, dI) vwCl (w_M_columns ad a_this a_units a_kinds a_values a_names a_low a_high a_told a_leftOut a_isMade a_hands a_pad a_court a_title a_out k_values k_pad v_this_thrown v_this_size v_this_families v_this_atHand v_this_family v_this_density v_this_pads v_this_hasThermal v_this_titleSize v_this_written v_this_at v_this_begin v_this_words v_this_paste0 v_values v_pad) H → va_D A (w_M_columns ad a_this a_units a_kinds a_values a_names a_low a_high a_told a_leftOut a_isMade a_hands a_pad a_court a_title a_out k_values k_pad v_this_thrown v_this_size v_this_families v_this_atHand v_this_family v_this_density v_this_pads v_this_hasThermal v_this_titleSize v_this_written v_this_at v_this_begin v_this_words v_this_paste0 v_values v_pad) → va_S A s.heap H locs → ∀ ls : Array Slot, lv_has ls 10 [(0, .ref a_this), (2, .long p2), (4, .long y4), (6, .long y6)] → W p l e (headSpec wsM_columns { frames := 2, cells := 0, slots := 0, locals := 47 }).room s m args below meth c H locs 0 0 (MQ below (va_Ql (fun (r : Int64) (u : Unit) => post r) (zB (dC, dI) A (fun (u : Unit) => (w_M_columns ad a_this a_units a_kinds a_values a_names a_low a_high a_told a_leftOut a_isMade a_hands a_pad a_court a_title a_out k_values k_pad v_this_thrown v_this_size v_this_families v_this_atHand v_this_family v_this_density v_this_pads v_this_hasThermal v_this_titleSize v_this_written v_this_at v_this_begin v_this_words v_this_paste0 v_values v_pad))) A) args s 0 0 A) (F0 m 44 ls []) := by
  obtain ⟨hx, hb, hr, hml, hown, hts, hlocks, hA⟩ := id C0
  intro n
  induction n with
  | zero =>
    intro y4 y6 H locs h
    exact False.elim h
  | succ n ih =>
    intro y4 y6 H locs h hP hD hS ls hl
    rw [P_M_columns_44] at h
    refine lv_aload_n hx hb dM_columns_44 rfl (lv_at hl 0 rfl) ?_
    refine lv_lload_n hx hb dM_columns_45 rfl (lv_at hl 1 rfl) ?_
    refine lv_lload hx hb dM_columns_46 (lv_at hl 3 rfl) ?_
    refine zcall_l hP hD hS hA [0, 1] [2] (va_runV (As := [.long p2, .long y6]) (rest := []) ⟨hx, hb, hml, hown, hts⟩ (c_M_width l dC dI ad a_this a_units a_kinds a_values a_names a_low a_high a_told a_leftOut a_isMade a_hands a_pad a_court a_title a_out k_values _ p2 y6 v_this_thrown v_this_size v_this_families v_this_atHand v_this_family v_this_density v_this_pads v_this_hasThermal v_this_titleSize v_this_written v_this_at v_this_begin v_this_words v_this_paste0 v_values _ h) ⟨callB_of 2 hts (zgood zc_M_width) rfl rfl rfl (hts _ zw_107) (hts _ zw_1312) (by decide +kernel) ⟨Nat.le_of_ble_eq_true rfl, Nat.le_of_ble_eq_true rfl⟩, (hts _ zw_1314), (hts _ zw_92)⟩ (zpreV hE hK hP hD hS hA [0, 1] [0] (by rfl) (by rfl) (by decide) (ci := 10) (q0 := 0) rfl (by rfl)) rfl rfl hl.1 rfl (lv_room (Nat.le_of_ble_eq_true rfl)) dM_columns_48 ⟨Nat.le_of_ble_eq_true rfl, Nat.le_of_ble_eq_true rfl⟩) (by rfl) (by rfl) (by decide) (by decide) (fun r1 u H locs h hP hD hS => ?_)
    try dsimp only at h
    have hP := hP.sub (ws' := (w_M_columns ad a_this a_units a_kinds a_values a_names a_low a_high a_told a_leftOut a_isMade a_hands a_pad a_court a_title a_out k_values k_pad v_this_thrown v_this_size v_this_families v_this_atHand v_this_family v_this_density v_this_pads v_this_hasThermal v_this_titleSize v_this_written v_this_at v_this_begin v_this_words v_this_paste0 v_values v_pad)) [1, 2, 0] rfl
    have hD := hD.sub (ws' := (w_M_columns ad a_this a_units a_kinds a_values a_names a_low a_high a_told a_leftOut a_isMade a_hands a_pad a_court a_title a_out k_values k_pad v_this_thrown v_this_size v_this_families v_this_atHand v_this_family v_this_density v_this_pads v_this_hasThermal v_this_titleSize v_this_written v_this_at v_this_begin v_this_words v_this_paste0 v_values v_pad)) [1, 2, 0] (by decide) rfl
    refine lv_lload hx hb dM_columns_51 (lv_at hl 2 rfl) ?_
    refine zz_lcmp_le (tgt := 111) hx hb dM_columns_53 dM_columns_54 (by decide) ?_ ?_
    · intro c2
      replace h := h.1 c2
      refine lv_aload_n hx hb dM_columns_111 rfl (lv_at hl 0 rfl) ?_
      refine lv_lload_n hx hb dM_columns_112 rfl (lv_at hl 1 rfl) ?_
      refine lv_lload hx hb dM_columns_113 (lv_at hl 3 rfl) ?_
      refine zcall_l hP hD hS hA [0, 1] [2] (va_runV (As := [.long p2, .long y6]) (rest := []) ⟨hx, hb, hml, hown, hts⟩ (c_M_width l dC dI ad a_this a_units a_kinds a_values a_names a_low a_high a_told a_leftOut a_isMade a_hands a_pad a_court a_title a_out k_values _ p2 y6 v_this_thrown v_this_size v_this_families v_this_atHand v_this_family v_this_density v_this_pads v_this_hasThermal v_this_titleSize v_this_written v_this_at v_this_begin v_this_words v_this_paste0 v_values _ h) ⟨callB_of 2 hts (zgood zc_M_width) rfl rfl rfl (hts _ zw_107) (hts _ zw_1312) (by decide +kernel) ⟨Nat.le_of_ble_eq_true rfl, Nat.le_of_ble_eq_true rfl⟩, (hts _ zw_1314), (hts _ zw_92)⟩ (zpreV hE hK hP hD hS hA [0, 1] [0] (by rfl) (by rfl) (by decide) (ci := 10) (q0 := 0) rfl (by rfl)) rfl rfl hl.1 rfl (lv_room (Nat.le_of_ble_eq_true rfl)) dM_columns_115 ⟨Nat.le_of_ble_eq_true rfl, Nat.le_of_ble_eq_true rfl⟩) (by rfl) (by rfl) (by decide) (by decide) (fun r3 u H locs h hP hD hS => ?_)
      try dsimp only at h
      have hP := hP.sub (ws' := (w_M_columns ad a_this a_units a_kinds a_values a_names a_low a_high a_told a_leftOut a_isMade a_hands a_pad a_court a_title a_out k_values k_pad v_this_thrown v_this_size v_this_families v_this_atHand v_this_family v_this_density v_this_pads v_this_hasThermal v_this_titleSize v_this_written v_this_at v_this_begin v_this_words v_this_paste0 v_values v_pad)) [1, 2, 0] rfl
      have hD := hD.sub (ws' := (w_M_columns ad a_this a_units a_kinds a_values a_names a_low a_high a_told a_leftOut a_isMade a_hands a_pad a_court a_title a_out k_values k_pad v_this_thrown v_this_size v_this_families v_this_atHand v_this_family v_this_density v_this_pads v_this_hasThermal v_this_titleSize v_this_written v_this_at v_this_begin v_this_words v_this_paste0 v_values v_pad)) [1, 2, 0] (by decide) rfl
      refine lv_lconst (v := 1) hx hb dM_columns_118 (by decide) ?_
      refine zz_lcmp_ge (tgt := 127) hx hb dM_columns_119 dM_columns_120 (by decide) ?_ ?_
      · intro c4
        replace h := h.1 c4
        refine lv_lload hx hb dM_columns_127 (lv_at hl 3 rfl) ?_
        exact W.lret (v := y6) hx hb hr (fun t ht hW => ⟨⟨y6, (()), rfl, h, by rw [ht]; exact hP, hD⟩, hS.F ht⟩) hS.2.2 dM_columns_129
      · intro c4
        replace h := h.2 c4
        refine lv_lconst (v := 0) hx hb dM_columns_123 (by decide) ?_
        refine lv_goto (tgt := 129) hx hb dM_columns_124 (by decide) ?_
        exact W.lret (v := 0) hx hb hr (fun t ht hW => ⟨⟨0, (()), rfl, h, by rw [ht]; exact hP, hD⟩, hS.F ht⟩) hS.2.2 dM_columns_129
    · intro c2
      replace h := h.2 c2
      refine lv_lload hx hb dM_columns_57 (lv_at hl 3 rfl) ?_
      refine lv_lstore (lv' := [(8, .long y6), (0, .ref a_this), (2, .long p2), (4, .long y4), (6, .long y6)]) hx hb dM_columns_59 hl (by decide) rfl (fun ls hl => ?_)
      obtain ⟨n5, h⟩ := h
      exact w_M_columns_61 l C0 hE a_this a_units a_kinds a_values a_names a_low a_high a_told a_leftOut a_isMade a_hands a_pad a_court a_title a_out k_values k_pad p1 p2 v_this_thrown v_this_size v_this_families v_this_atHand v_this_family v_this_density v_this_pads v_this_hasThermal v_this_titleSize v_this_written v_this_at v_this_begin v_this_words v_this_paste0 v_values v_pad post (P_M_columns_44 p2 v_this_family v_this_density v_values post n) ih hK n5 y4 y6 y6 _ _ h hP hD hS ls (lv_sub hl [1, 2, 3, 4, 0] rfl)
def P_M_columns (p1 : Int32) (p2 : Int64) (v_this_family : Int32) (v_this_density : Int32) (v_values : Nat → Int64) (v_pad : Nat → Int64) (post : Int64 → Prop) : Prop := P_M_of 8 v_this_family v_this_density v_values (fun (r1 : Int64) => ((1 ≤ p2 → ((r1 = 0 → post 1) ∧ (¬ r1 = 0 → vp_in ((7 * p1) + 5) 455 ∧ ((¬ (v_pad ((7 * p1) + 5).toNatClampNeg) = 1 → ∃ n6, P_M_columns_44 p2 v_this_family v_this_density v_values post n6 r1 1) ∧ ((v_pad ((7 * p1) + 5).toNatClampNeg) = 1 → post 1))))) ∧ (¬ 1 ≤ p2 → post 0)))
set_option maxHeartbeats 4000000 in
set_option maxRecDepth 100000 in
theorem c_M_columns (l : Launch) (dC : Nat → ClassId) (dI : Nat → Nat → Nat) (ad : Nat → Nat → Nat) (a_this : Nat) (a_units : Nat) (a_kinds : Nat) (a_values : Nat) (a_names : Nat) (a_low : Nat) (a_high : Nat) (a_told : Nat) (a_leftOut : Nat) (a_isMade : Nat) (a_hands : Nat) (a_pad : Nat) (a_court : Nat) (a_title : Nat) (a_out : Nat) (k_values : ClassId) (k_pad : ClassId) (sz : Nat) (p1 : Int32) (p2 : Int64) (v_this_thrown : Int32) (v_this_size : Int32) (v_this_families : Int32) (v_this_atHand : Int32) (v_this_family : Int32) (v_this_density : Int32) (v_this_pads : Int32) (v_this_hasThermal : Int32) (v_this_titleSize : Int32) (v_this_written : Int32) (v_this_at : Int32) (v_this_begin : Int32) (v_this_words : Int32) (v_this_paste0 : Int64) (v_values : Nat → Int64) (v_pad : Nat → Int64) (post : Int64 → Prop) (h : P_M_columns p1 p2 v_this_family v_this_density v_values v_pad post) : zMl l yM_columns wsM_columns { frames := 2, cells := 0, slots := 0, locals := 47 } (dC, dI) ad [.ref a_this, .int p1, .long p2] (w_M_columns ad a_this a_units a_kinds a_values a_names a_low a_high a_told a_leftOut a_isMade a_hands a_pad a_court a_title a_out k_values k_pad v_this_thrown v_this_size v_this_families v_this_atHand v_this_family v_this_density v_this_pads v_this_hasThermal v_this_titleSize v_this_written v_this_at v_this_begin v_this_words v_this_paste0 v_values v_pad) [(k_values, .long), (k_pad, .long)] sz (fun (r : Int64) (u : Unit) => post r) (fun (u : Unit) => (w_M_columns ad a_this a_units a_kinds a_values a_names a_low a_high a_told a_leftOut a_isMade a_hands a_pad a_court a_title a_out k_values k_pad v_this_thrown v_this_size v_this_families v_this_atHand v_this_family v_this_density v_this_pads v_this_hasThermal v_this_titleSize v_this_written v_this_at v_this_begin v_this_words v_this_paste0 v_values v_pad)) 0 0 := by
  refine Met.ofW (cc := cM_columns) (maxL := 10) (ret := (some .long)) (by decide +kernel) rfl ?_
  intro p e s m args below meth c s₁ B hml hv
  obtain ⟨rfl, hsz, hP, hK, hD0, hE⟩ := hv
  have hx := B.exec
  have hb := B.bytes
  have hr := B.returns
  have hts0 := atoms_spec (ws := wsM_columns) B.pre
  have hts := fun w h => hts0 w (List.mem_cons_of_mem _ h)
  have hown : s.vm.findClass RM = some m.cls := findClass_of_methodNamed B.named
  have hlocks := B.notSynchronized
  subst hsz
  have hD := hD0.self (sz := s.heap.size)
  generalize hAe : va_A (w_M_columns ad a_this a_units a_kinds a_values a_names a_low a_high a_told a_leftOut a_isMade a_hands a_pad a_court a_title a_out k_values k_pad v_this_thrown v_this_size v_this_families v_this_atHand v_this_family v_this_density v_this_pads v_this_hasThermal v_this_titleSize v_this_written v_this_at v_this_begin v_this_words v_this_paste0 v_values v_pad) s.heap.size = A at hD hE ⊢
  have hA : ∀ q : Nat, s.heap.size ≤ q → A q := fun q h => by rw [← hAe]; exact Or.inr h
  have C0 := zC.mk hx hb hr hml hown hts hlocks hA
  have hS : va_S A s.heap s.heap [] := va_S.rf
  have hl := lv_entry ([.ref a_this, .int p1, .long p2]) (n := 10) (Nat.le_of_ble_eq_true rfl)
  rw [lg_entry_eq]
  generalize (lg_sl ([.ref a_this, .int p1, .long p2]) ++ List.replicate (10 - (lg_sl ([.ref a_this, .int p1, .long p2])).length) Slot.unset).toArray = ls at hl ⊢
  have hl : lv_has ls 10 [(0, .ref a_this), (1, .int p1), (2, .long p2)] := hl
  unfold P_M_columns at h
  refine lv_aload_n hx hb dM_columns_0 rfl (lv_at hl 0 rfl) ?_
  refine lv_bipush (v := 8) hx hb dM_columns_1 (by decide) ?_
  refine zcall_l hP hD hS hA [0, 1] [2] (va_runV (As := [.int 8]) (rest := []) ⟨hx, hb, hml, hown, hts⟩ (c_M_of l dC dI ad a_this a_units a_kinds a_values a_names a_low a_high a_told a_leftOut a_isMade a_hands a_pad a_court a_title a_out k_values _ 8 v_this_thrown v_this_size v_this_families v_this_atHand v_this_family v_this_density v_this_pads v_this_hasThermal v_this_titleSize v_this_written v_this_at v_this_begin v_this_words v_this_paste0 v_values _ h) ⟨callB_of 1 hts (zgood zc_M_of) rfl rfl rfl (hts _ zw_107) (hts _ zw_1201) (by decide +kernel) ⟨Nat.le_of_ble_eq_true rfl, Nat.le_of_ble_eq_true rfl⟩, (hts _ zw_1203), (hts _ zw_74)⟩ (zpreV hE hK hP hD hS hA [0, 1] [0] (by rfl) (by rfl) (by decide) (ci := 10) (q0 := 0) rfl (by rfl)) rfl rfl hl.1 rfl (lv_room (Nat.le_of_ble_eq_true rfl)) dM_columns_3 ⟨Nat.le_of_ble_eq_true rfl, Nat.le_of_ble_eq_true rfl⟩) (by rfl) (by rfl) (by decide) (by decide) (fun r1 u H locs h hP hD hS => ?_)
  try dsimp only at h
  have hP := hP.sub (ws' := (w_M_columns ad a_this a_units a_kinds a_values a_names a_low a_high a_told a_leftOut a_isMade a_hands a_pad a_court a_title a_out k_values k_pad v_this_thrown v_this_size v_this_families v_this_atHand v_this_family v_this_density v_this_pads v_this_hasThermal v_this_titleSize v_this_written v_this_at v_this_begin v_this_words v_this_paste0 v_values v_pad)) [1, 2, 0] rfl
  have hD := hD.sub (ws' := (w_M_columns ad a_this a_units a_kinds a_values a_names a_low a_high a_told a_leftOut a_isMade a_hands a_pad a_court a_title a_out k_values k_pad v_this_thrown v_this_size v_this_families v_this_atHand v_this_family v_this_density v_this_pads v_this_hasThermal v_this_titleSize v_this_written v_this_at v_this_begin v_this_words v_this_paste0 v_values v_pad)) [1, 2, 0] (by decide) rfl
  refine lv_lstore (lv' := [(4, .long r1), (0, .ref a_this), (1, .int p1), (2, .long p2)]) hx hb dM_columns_6 hl (by decide) rfl (fun ls hl => ?_)
  refine lv_lload_n hx hb dM_columns_8 rfl (lv_at hl 3 rfl) ?_
  refine lv_lconst (v := 1) hx hb dM_columns_9 (by decide) ?_
  refine zz_lcmp_ge (tgt := 16) hx hb dM_columns_10 dM_columns_11 (by decide) ?_ ?_
  · intro c2
    replace h := h.1 c2
    refine lv_lload hx hb dM_columns_16 (lv_at hl 0 rfl) ?_
    refine lv_lconst (v := 0) hx hb dM_columns_18 (by decide) ?_
    refine zz_lcmp_eq (tgt := 39) hx hb dM_columns_19 dM_columns_20 (by decide) ?_ ?_
    · intro c3
      replace h := h.1 c3
      refine lv_lconst (v := 1) hx hb dM_columns_39 (by decide) ?_
      exact W.lret (v := 1) hx hb hr (fun t ht hW => ⟨⟨1, (()), rfl, h, by rw [ht]; exact hP, hD⟩, hS.F ht⟩) hS.2.2 dM_columns_40
    · intro c3
      replace h := h.2 c3
      refine lv_aload_n hx hb dM_columns_23 rfl (lv_at hl 1 rfl) ?_
      refine va_get (D := (dC, dI)) (ci := 10) (v := .ref a_pad) (C := RM) (T := TM) (N := 28) hx hb hts inZ_M hown hK hP 0 rfl rfl 17 (by decide) (hts _ zw_1061) (fun _ h9 => h9) rfl dM_columns_24 ?_
      refine lv_bipush (v := 7) hx hb dM_columns_27 (by decide) ?_
      refine lv_iload_n hx hb dM_columns_29 rfl (lv_at hl 2 rfl) ?_
      refine lv_imul hx hb dM_columns_30 ?_
      refine lv_iconst (v := 5) hx hb dM_columns_31 (by decide) ?_
      refine lv_iadd hx hb dM_columns_32 ?_
      obtain ⟨hn4, h⟩ := h
      refine va_lald hx hb hK hP 2 1 rfl rfl hn4 dM_columns_33 ?_
      refine lv_lconst (v := 1) hx hb dM_columns_34 (by decide) ?_
      refine zz_lcmp_ne (tgt := 41) hx hb dM_columns_35 dM_columns_36 (by decide) ?_ ?_
      · intro c5
        replace h := h.1 c5
        refine lv_lconst (v := 1) hx hb dM_columns_41 (by decide) ?_
        refine lv_lstore (lv' := [(6, .long 1), (4, .long r1), (0, .ref a_this), (1, .int p1), (2, .long p2)]) hx hb dM_columns_42 hl (by decide) rfl (fun ls hl => ?_)
        obtain ⟨n6, h⟩ := h
        exact w_M_columns_44 l C0 hE a_this a_units a_kinds a_values a_names a_low a_high a_told a_leftOut a_isMade a_hands a_pad a_court a_title a_out k_values k_pad p1 p2 v_this_thrown v_this_size v_this_families v_this_atHand v_this_family v_this_density v_this_pads v_this_hasThermal v_this_titleSize v_this_written v_this_at v_this_begin v_this_words v_this_paste0 v_values v_pad post hK n6 r1 1 _ _ h hP hD hS ls (lv_sub hl [2, 4, 1, 0] rfl)
      · intro c5
        replace h := h.2 c5
        refine lv_lconst (v := 1) hx hb dM_columns_39 (by decide) ?_
        exact W.lret (v := 1) hx hb hr (fun t ht hW => ⟨⟨1, (()), rfl, h, by rw [ht]; exact hP, hD⟩, hS.F ht⟩) hS.2.2 dM_columns_40
  · intro c2
    replace h := h.2 c2
    refine lv_lconst (v := 0) hx hb dM_columns_14 (by decide) ?_
    exact W.lret (v := 0) hx hb hr (fun t ht hW => ⟨⟨0, (()), rfl, h, by rw [ht]; exact hP, hD⟩, hS.F ht⟩) hS.2.2 dM_columns_15
abbrev yM_left : MethodName := ⟨"FootprintRulesModel", "left", "(II)J"⟩
abbrev cM_left : ByteArray := prog_14_method_45_code
abbrev wsM_left : List Cond := .code yM_left cM_left 3 (some .long) :: zT
set_option maxRecDepth 100000 in
theorem zc_M_left : Cond.code yM_left cM_left 3 (some .long) ∈ zT := zm 1307 (by rfl) (by rfl)
theorem dM_left_0 : decode cM_left 0 = .ok (.aload_n 0, 1) := by decide +kernel
theorem dM_left_1 : decode cM_left 1 = .ok (.getfield 42, 3) := by decide +kernel
theorem dM_left_4 : decode cM_left 4 = .ok (.bipush 7, 2) := by decide +kernel
theorem dM_left_6 : decode cM_left 6 = .ok (.iload_n 1, 1) := by decide +kernel
theorem dM_left_7 : decode cM_left 7 = .ok (.imul, 1) := by decide +kernel
theorem dM_left_8 : decode cM_left 8 = .ok (.bipush 6, 2) := by decide +kernel
theorem dM_left_10 : decode cM_left 10 = .ok (.iadd, 1) := by decide +kernel
theorem dM_left_11 : decode cM_left 11 = .ok (.laload, 1) := by decide +kernel
theorem dM_left_12 : decode cM_left 12 = .ok (.lconst 0, 1) := by decide +kernel
theorem dM_left_13 : decode cM_left 13 = .ok (.lcmp, 1) := by decide +kernel
theorem dM_left_14 : decode cM_left 14 = .ok (.ifCond .le 7, 3) := by decide +kernel
theorem dM_left_17 : decode cM_left 17 = .ok (.lconst 0, 1) := by decide +kernel
theorem dM_left_18 : decode cM_left 18 = .ok (.goto 25, 3) := by decide +kernel
theorem dM_left_21 : decode cM_left 21 = .ok (.aload_n 0, 1) := by decide +kernel
theorem dM_left_22 : decode cM_left 22 = .ok (.getfield 42, 3) := by decide +kernel
theorem dM_left_25 : decode cM_left 25 = .ok (.bipush 7, 2) := by decide +kernel
theorem dM_left_27 : decode cM_left 27 = .ok (.iload_n 1, 1) := by decide +kernel
theorem dM_left_28 : decode cM_left 28 = .ok (.imul, 1) := by decide +kernel
theorem dM_left_29 : decode cM_left 29 = .ok (.iconst 3, 1) := by decide +kernel
theorem dM_left_30 : decode cM_left 30 = .ok (.iadd, 1) := by decide +kernel
theorem dM_left_31 : decode cM_left 31 = .ok (.iload_n 2, 1) := by decide +kernel
theorem dM_left_32 : decode cM_left 32 = .ok (.iadd, 1) := by decide +kernel
theorem dM_left_33 : decode cM_left 33 = .ok (.laload, 1) := by decide +kernel
theorem dM_left_34 : decode cM_left 34 = .ok (.ldc2_w 90, 3) := by decide +kernel
theorem dM_left_37 : decode cM_left 37 = .ok (.aload_n 0, 1) := by decide +kernel
theorem dM_left_38 : decode cM_left 38 = .ok (.getfield 199, 3) := by decide +kernel
theorem dM_left_41 : decode cM_left 41 = .ok (.lmul, 1) := by decide +kernel
theorem dM_left_42 : decode cM_left 42 = .ok (.lsub, 1) := by decide +kernel
theorem dM_left_43 : decode cM_left 43 = .ok (.lreturn, 1) := by decide +kernel
-- FootprintRulesModel.left(II)J
abbrev w_M_left (ad : Nat → Nat → Nat) (a_this : Nat) (a_units : Nat) (a_kinds : Nat) (a_values : Nat) (a_names : Nat) (a_low : Nat) (a_high : Nat) (a_told : Nat) (a_leftOut : Nat) (a_isMade : Nat) (a_hands : Nat) (a_pad : Nat) (a_court : Nat) (a_title : Nat) (a_out : Nat) (k_pad : ClassId) (v_this_thrown : Int32) (v_this_size : Int32) (v_this_families : Int32) (v_this_atHand : Int32) (v_this_family : Int32) (v_this_density : Int32) (v_this_pads : Int32) (v_this_hasThermal : Int32) (v_this_titleSize : Int32) (v_this_written : Int32) (v_this_at : Int32) (v_this_begin : Int32) (v_this_words : Int32) (v_this_paste0 : Int64) (v_pad : Nat → Int64) : va_W := [(a_this, .inr (10, [.int v_this_thrown, .ref a_units, .int v_this_size, .int v_this_families, .ref a_kinds, .ref a_values, .ref a_names, .ref a_low, .ref a_high, .ref a_told, .ref a_leftOut, .ref a_isMade, .ref a_hands, .int v_this_atHand, .int v_this_family, .int v_this_density, .int v_this_pads, .ref a_pad, .ref a_court, .int v_this_hasThermal, .ref a_title, .int v_this_titleSize, .ref a_out, .int v_this_written, .int v_this_at, .int v_this_begin, .int v_this_words, .long v_this_paste0])), (a_pad, .inl (k_pad, 455, .inr (.inl v_pad)))]
def P_M_left (p1 : Int32) (p2 : Int32) (v_this_paste0 : Int64) (v_pad : Nat → Int64) (post : Int64 → Prop) : Prop := vp_in ((7 * p1) + 6) 455 ∧ (((v_pad ((7 * p1) + 6).toNatClampNeg) ≤ 0 → vp_in (((7 * p1) + 3) + p2) 455 ∧ post ((v_pad (((7 * p1) + 3) + p2).toNatClampNeg) - (2 * v_this_paste0))) ∧ (¬ (v_pad ((7 * p1) + 6).toNatClampNeg) ≤ 0 → post 0))
set_option maxHeartbeats 4000000 in
set_option maxRecDepth 100000 in
theorem c_M_left (l : Launch) (dC : Nat → ClassId) (dI : Nat → Nat → Nat) (ad : Nat → Nat → Nat) (a_this : Nat) (a_units : Nat) (a_kinds : Nat) (a_values : Nat) (a_names : Nat) (a_low : Nat) (a_high : Nat) (a_told : Nat) (a_leftOut : Nat) (a_isMade : Nat) (a_hands : Nat) (a_pad : Nat) (a_court : Nat) (a_title : Nat) (a_out : Nat) (k_pad : ClassId) (sz : Nat) (p1 : Int32) (p2 : Int32) (v_this_thrown : Int32) (v_this_size : Int32) (v_this_families : Int32) (v_this_atHand : Int32) (v_this_family : Int32) (v_this_density : Int32) (v_this_pads : Int32) (v_this_hasThermal : Int32) (v_this_titleSize : Int32) (v_this_written : Int32) (v_this_at : Int32) (v_this_begin : Int32) (v_this_words : Int32) (v_this_paste0 : Int64) (v_pad : Nat → Int64) (post : Int64 → Prop) (h : P_M_left p1 p2 v_this_paste0 v_pad post) : zMl l yM_left wsM_left { frames := 0, cells := 0, slots := 0, locals := 0 } (dC, dI) ad [.ref a_this, .int p1, .int p2] (w_M_left ad a_this a_units a_kinds a_values a_names a_low a_high a_told a_leftOut a_isMade a_hands a_pad a_court a_title a_out k_pad v_this_thrown v_this_size v_this_families v_this_atHand v_this_family v_this_density v_this_pads v_this_hasThermal v_this_titleSize v_this_written v_this_at v_this_begin v_this_words v_this_paste0 v_pad) [(k_pad, .long)] sz (fun (r : Int64) (u : Unit) => post r) (fun (u : Unit) => (w_M_left ad a_this a_units a_kinds a_values a_names a_low a_high a_told a_leftOut a_isMade a_hands a_pad a_court a_title a_out k_pad v_this_thrown v_this_size v_this_families v_this_atHand v_this_family v_this_density v_this_pads v_this_hasThermal v_this_titleSize v_this_written v_this_at v_this_begin v_this_words v_this_paste0 v_pad)) 0 0 := by
  refine Met.ofW (cc := cM_left) (maxL := 3) (ret := (some .long)) (by decide +kernel) rfl ?_
  intro p e s m args below meth c s₁ B hml hv
  obtain ⟨rfl, hsz, hP, hK, hD0, hE⟩ := hv
  have hx := B.exec
  have hb := B.bytes
  have hr := B.returns
  have hts0 := atoms_spec (ws := wsM_left) B.pre
  have hts := fun w h => hts0 w (List.mem_cons_of_mem _ h)
  have hown : s.vm.findClass RM = some m.cls := findClass_of_methodNamed B.named
  have hlocks := B.notSynchronized
  subst hsz
  have hD := hD0.self (sz := s.heap.size)
  generalize hAe : va_A (w_M_left ad a_this a_units a_kinds a_values a_names a_low a_high a_told a_leftOut a_isMade a_hands a_pad a_court a_title a_out k_pad v_this_thrown v_this_size v_this_families v_this_atHand v_this_family v_this_density v_this_pads v_this_hasThermal v_this_titleSize v_this_written v_this_at v_this_begin v_this_words v_this_paste0 v_pad) s.heap.size = A at hD hE ⊢
  have hA : ∀ q : Nat, s.heap.size ≤ q → A q := fun q h => by rw [← hAe]; exact Or.inr h
  have C0 := zC.mk hx hb hr hml hown hts hlocks hA
  have hS : va_S A s.heap s.heap [] := va_S.rf
  have hl := lv_entry ([.ref a_this, .int p1, .int p2]) (n := 3) (Nat.le_of_ble_eq_true rfl)
  rw [lg_entry_eq]
  generalize (lg_sl ([.ref a_this, .int p1, .int p2]) ++ List.replicate (3 - (lg_sl ([.ref a_this, .int p1, .int p2])).length) Slot.unset).toArray = ls at hl ⊢
  have hl : lv_has ls 3 [(0, .ref a_this), (1, .int p1), (2, .int p2)] := hl
  unfold P_M_left at h
  refine lv_aload_n hx hb dM_left_0 rfl (lv_at hl 0 rfl) ?_
  refine va_get (D := (dC, dI)) (ci := 10) (v := .ref a_pad) (C := RM) (T := TM) (N := 28) hx hb hts inZ_M hown hK hP 0 rfl rfl 17 (by decide) (hts _ zw_1061) (fun _ h9 => h9) rfl dM_left_1 ?_
  refine lv_bipush (v := 7) hx hb dM_left_4 (by decide) ?_
  refine lv_iload_n hx hb dM_left_6 rfl (lv_at hl 1 rfl) ?_
  refine lv_imul hx hb dM_left_7 ?_
  refine lv_bipush (v := 6) hx hb dM_left_8 (by decide) ?_
  refine lv_iadd hx hb dM_left_10 ?_
  obtain ⟨hn1, h⟩ := h
  refine va_lald hx hb hK hP 1 0 rfl rfl hn1 dM_left_11 ?_
  refine lv_lconst (v := 0) hx hb dM_left_12 (by decide) ?_
  refine zz_lcmp_le (tgt := 21) hx hb dM_left_13 dM_left_14 (by decide) ?_ ?_
  · intro c2
    replace h := h.1 c2
    refine lv_aload_n hx hb dM_left_21 rfl (lv_at hl 0 rfl) ?_
    refine va_get (D := (dC, dI)) (ci := 10) (v := .ref a_pad) (C := RM) (T := TM) (N := 28) hx hb hts inZ_M hown hK hP 0 rfl rfl 17 (by decide) (hts _ zw_1061) (fun _ h9 => h9) rfl dM_left_22 ?_
    refine lv_bipush (v := 7) hx hb dM_left_25 (by decide) ?_
    refine lv_iload_n hx hb dM_left_27 rfl (lv_at hl 1 rfl) ?_
    refine lv_imul hx hb dM_left_28 ?_
    refine lv_iconst (v := 3) hx hb dM_left_29 (by decide) ?_
    refine lv_iadd hx hb dM_left_30 ?_
    refine lv_iload_n hx hb dM_left_31 rfl (lv_at hl 2 rfl) ?_
    refine lv_iadd hx hb dM_left_32 ?_
    obtain ⟨hn3, h⟩ := h
    refine va_lald hx hb hK hP 1 0 rfl rfl hn3 dM_left_33 ?_
    refine lv_ldc2 (own := RM) (index := 90) (v := 2) hx hb hown (hts _ zw_1179) dM_left_34 ?_
    refine lv_aload_n hx hb dM_left_37 rfl (lv_at hl 0 rfl) ?_
    refine va_get (D := (dC, dI)) (ci := 10) (v := .long v_this_paste0) (C := RM) (T := TM) (N := 28) hx hb hts inZ_M hown hK hP 0 rfl rfl 27 (by decide) (hts _ zw_1071) (fun _ h9 => h9) rfl dM_left_38 ?_
    refine lv_lmul hx hb dM_left_41 ?_
    refine lv_lsub hx hb dM_left_42 ?_
    exact W.lret (v := ((v_pad (((7 * p1) + 3) + p2).toNatClampNeg) - (2 * v_this_paste0))) hx hb hr (fun t ht hW => ⟨⟨((v_pad (((7 * p1) + 3) + p2).toNatClampNeg) - (2 * v_this_paste0)), (()), rfl, h, by rw [ht]; exact hP, hD⟩, hS.F ht⟩) hS.2.2 dM_left_43
  · intro c2
    replace h := h.2 c2
    refine lv_lconst (v := 0) hx hb dM_left_17 (by decide) ?_
    refine lv_goto (tgt := 43) hx hb dM_left_18 (by decide) ?_
    exact W.lret (v := 0) hx hb hr (fun t ht hW => ⟨⟨0, (()), rfl, h, by rw [ht]; exact hP, hD⟩, hS.F ht⟩) hS.2.2 dM_left_43
abbrev yM_begin : MethodName := ⟨"FootprintRulesModel", "begin", "(JJJJ)J"⟩
abbrev cM_begin : ByteArray := prog_14_method_46_code
abbrev wsM_begin : List Cond := .code yM_begin cM_begin 13 (some .long) :: zT
set_option maxRecDepth 100000 in
theorem zc_M_begin : Cond.code yM_begin cM_begin 13 (some .long) ∈ zT := zm 1319 (by rfl) (by rfl)
theorem dM_begin_0 : decode cM_begin 0 = .ok (.aload_n 0, 1) := by decide +kernel
theorem dM_begin_1 : decode cM_begin 1 = .ok (.lload_n 3, 1) := by decide +kernel
theorem dM_begin_2 : decode cM_begin 2 = .ok (.lload 5, 2) := by decide +kernel
theorem dM_begin_4 : decode cM_begin 4 = .ok (.invokevirtual 228, 3) := by decide +kernel
theorem dM_begin_7 : decode cM_begin 7 = .ok (.lstore 9, 2) := by decide +kernel
theorem dM_begin_9 : decode cM_begin 9 = .ok (.lload_n 3, 1) := by decide +kernel
theorem dM_begin_10 : decode cM_begin 10 = .ok (.lload 5, 2) := by decide +kernel
theorem dM_begin_12 : decode cM_begin 12 = .ok (.lconst 1, 1) := by decide +kernel
theorem dM_begin_13 : decode cM_begin 13 = .ok (.lsub, 1) := by decide +kernel
theorem dM_begin_14 : decode cM_begin 14 = .ok (.aload_n 0, 1) := by decide +kernel
theorem dM_begin_15 : decode cM_begin 15 = .ok (.bipush 7, 2) := by decide +kernel
theorem dM_begin_17 : decode cM_begin 17 = .ok (.invokevirtual 142, 3) := by decide +kernel
theorem dM_begin_20 : decode cM_begin 20 = .ok (.lmul, 1) := by decide +kernel
theorem dM_begin_21 : decode cM_begin 21 = .ok (.lsub, 1) := by decide +kernel
theorem dM_begin_22 : decode cM_begin 22 = .ok (.lload 5, 2) := by decide +kernel
theorem dM_begin_24 : decode cM_begin 24 = .ok (.lload 9, 2) := by decide +kernel
theorem dM_begin_26 : decode cM_begin 26 = .ok (.lmul, 1) := by decide +kernel
theorem dM_begin_27 : decode cM_begin 27 = .ok (.lsub, 1) := by decide +kernel
theorem dM_begin_28 : decode cM_begin 28 = .ok (.lstore 11, 2) := by decide +kernel
theorem dM_begin_30 : decode cM_begin 30 = .ok (.lload_n 1, 1) := by decide +kernel
theorem dM_begin_31 : decode cM_begin 31 = .ok (.lload 11, 2) := by decide +kernel
theorem dM_begin_33 : decode cM_begin 33 = .ok (.ldc2_w 90, 3) := by decide +kernel
theorem dM_begin_36 : decode cM_begin 36 = .ok (.ldiv, 1) := by decide +kernel
theorem dM_begin_37 : decode cM_begin 37 = .ok (.ladd, 1) := by decide +kernel
theorem dM_begin_38 : decode cM_begin 38 = .ok (.lload 7, 2) := by decide +kernel
theorem dM_begin_40 : decode cM_begin 40 = .ok (.lload 9, 2) := by decide +kernel
theorem dM_begin_42 : decode cM_begin 42 = .ok (.aload_n 0, 1) := by decide +kernel
theorem dM_begin_43 : decode cM_begin 43 = .ok (.bipush 7, 2) := by decide +kernel
theorem dM_begin_45 : decode cM_begin 45 = .ok (.invokevirtual 142, 3) := by decide +kernel
theorem dM_begin_48 : decode cM_begin 48 = .ok (.ladd, 1) := by decide +kernel
theorem dM_begin_49 : decode cM_begin 49 = .ok (.lmul, 1) := by decide +kernel
theorem dM_begin_50 : decode cM_begin 50 = .ok (.ladd, 1) := by decide +kernel
theorem dM_begin_51 : decode cM_begin 51 = .ok (.lreturn, 1) := by decide +kernel
-- FootprintRulesModel.begin(JJJJ)J
abbrev w_M_begin (ad : Nat → Nat → Nat) (a_this : Nat) (a_units : Nat) (a_kinds : Nat) (a_values : Nat) (a_names : Nat) (a_low : Nat) (a_high : Nat) (a_told : Nat) (a_leftOut : Nat) (a_isMade : Nat) (a_hands : Nat) (a_pad : Nat) (a_court : Nat) (a_title : Nat) (a_out : Nat) (k_values : ClassId) (v_this_thrown : Int32) (v_this_size : Int32) (v_this_families : Int32) (v_this_atHand : Int32) (v_this_family : Int32) (v_this_density : Int32) (v_this_pads : Int32) (v_this_hasThermal : Int32) (v_this_titleSize : Int32) (v_this_written : Int32) (v_this_at : Int32) (v_this_begin : Int32) (v_this_words : Int32) (v_this_paste0 : Int64) (v_values : Nat → Int64) : va_W := [(a_this, .inr (10, [.int v_this_thrown, .ref a_units, .int v_this_size, .int v_this_families, .ref a_kinds, .ref a_values, .ref a_names, .ref a_low, .ref a_high, .ref a_told, .ref a_leftOut, .ref a_isMade, .ref a_hands, .int v_this_atHand, .int v_this_family, .int v_this_density, .int v_this_pads, .ref a_pad, .ref a_court, .int v_this_hasThermal, .ref a_title, .int v_this_titleSize, .ref a_out, .int v_this_written, .int v_this_at, .int v_this_begin, .int v_this_words, .long v_this_paste0])), (a_values, .inl (k_values, 240, .inr (.inl v_values)))]
def P_M_begin (p1 : Int64) (p3 : Int64) (p5 : Int64) (p7 : Int64) (v_this_family : Int32) (v_this_density : Int32) (v_values : Nat → Int64) (post : Int64 → Prop) : Prop := P_M_width p3 p5 v_this_family v_this_density v_values (fun (r1 : Int64) => P_M_of 7 v_this_family v_this_density v_values (fun (r2 : Int64) => ∀ x3 : Int64, x3 = (p3 - ((p5 - 1) * r2)) - (p5 * r1) → P_M_of 7 v_this_family v_this_density v_values (fun (r4 : Int64) => post ((p1 + (x3 / 2)) + (p7 * (r1 + r4))))))
set_option maxHeartbeats 4000000 in
set_option maxRecDepth 100000 in
theorem c_M_begin (l : Launch) (dC : Nat → ClassId) (dI : Nat → Nat → Nat) (ad : Nat → Nat → Nat) (a_this : Nat) (a_units : Nat) (a_kinds : Nat) (a_values : Nat) (a_names : Nat) (a_low : Nat) (a_high : Nat) (a_told : Nat) (a_leftOut : Nat) (a_isMade : Nat) (a_hands : Nat) (a_pad : Nat) (a_court : Nat) (a_title : Nat) (a_out : Nat) (k_values : ClassId) (sz : Nat) (p1 : Int64) (p3 : Int64) (p5 : Int64) (p7 : Int64) (v_this_thrown : Int32) (v_this_size : Int32) (v_this_families : Int32) (v_this_atHand : Int32) (v_this_family : Int32) (v_this_density : Int32) (v_this_pads : Int32) (v_this_hasThermal : Int32) (v_this_titleSize : Int32) (v_this_written : Int32) (v_this_at : Int32) (v_this_begin : Int32) (v_this_words : Int32) (v_this_paste0 : Int64) (v_values : Nat → Int64) (post : Int64 → Prop) (h : P_M_begin p1 p3 p5 p7 v_this_family v_this_density v_values post) : zMl l yM_begin wsM_begin { frames := 2, cells := 0, slots := 0, locals := 47 } (dC, dI) ad [.ref a_this, .long p1, .long p3, .long p5, .long p7] (w_M_begin ad a_this a_units a_kinds a_values a_names a_low a_high a_told a_leftOut a_isMade a_hands a_pad a_court a_title a_out k_values v_this_thrown v_this_size v_this_families v_this_atHand v_this_family v_this_density v_this_pads v_this_hasThermal v_this_titleSize v_this_written v_this_at v_this_begin v_this_words v_this_paste0 v_values) [(k_values, .long)] sz (fun (r : Int64) (u : Unit) => post r) (fun (u : Unit) => (w_M_begin ad a_this a_units a_kinds a_values a_names a_low a_high a_told a_leftOut a_isMade a_hands a_pad a_court a_title a_out k_values v_this_thrown v_this_size v_this_families v_this_atHand v_this_family v_this_density v_this_pads v_this_hasThermal v_this_titleSize v_this_written v_this_at v_this_begin v_this_words v_this_paste0 v_values)) 0 0 := by
  refine Met.ofW (cc := cM_begin) (maxL := 13) (ret := (some .long)) (by decide +kernel) rfl ?_
  intro p e s m args below meth c s₁ B hml hv
  obtain ⟨rfl, hsz, hP, hK, hD0, hE⟩ := hv
  have hx := B.exec
  have hb := B.bytes
  have hr := B.returns
  have hts0 := atoms_spec (ws := wsM_begin) B.pre
  have hts := fun w h => hts0 w (List.mem_cons_of_mem _ h)
  have hown : s.vm.findClass RM = some m.cls := findClass_of_methodNamed B.named
  have hlocks := B.notSynchronized
  subst hsz
  have hD := hD0.self (sz := s.heap.size)
  generalize hAe : va_A (w_M_begin ad a_this a_units a_kinds a_values a_names a_low a_high a_told a_leftOut a_isMade a_hands a_pad a_court a_title a_out k_values v_this_thrown v_this_size v_this_families v_this_atHand v_this_family v_this_density v_this_pads v_this_hasThermal v_this_titleSize v_this_written v_this_at v_this_begin v_this_words v_this_paste0 v_values) s.heap.size = A at hD hE ⊢
  have hA : ∀ q : Nat, s.heap.size ≤ q → A q := fun q h => by rw [← hAe]; exact Or.inr h
  have C0 := zC.mk hx hb hr hml hown hts hlocks hA
  have hS : va_S A s.heap s.heap [] := va_S.rf
  have hl := lv_entry ([.ref a_this, .long p1, .long p3, .long p5, .long p7]) (n := 13) (Nat.le_of_ble_eq_true rfl)
  rw [lg_entry_eq]
  generalize (lg_sl ([.ref a_this, .long p1, .long p3, .long p5, .long p7]) ++ List.replicate (13 - (lg_sl ([.ref a_this, .long p1, .long p3, .long p5, .long p7])).length) Slot.unset).toArray = ls at hl ⊢
  have hl : lv_has ls 13 [(0, .ref a_this), (1, .long p1), (3, .long p3), (5, .long p5), (7, .long p7)] := hl
  unfold P_M_begin at h
  refine lv_aload_n hx hb dM_begin_0 rfl (lv_at hl 0 rfl) ?_
  refine lv_lload_n hx hb dM_begin_1 rfl (lv_at hl 2 rfl) ?_
  refine lv_lload hx hb dM_begin_2 (lv_at hl 3 rfl) ?_
  refine zcall_l hP hD hS hA [0, 1] [] (va_runV (As := [.long p3, .long p5]) (rest := []) ⟨hx, hb, hml, hown, hts⟩ (c_M_width l dC dI ad a_this a_units a_kinds a_values a_names a_low a_high a_told a_leftOut a_isMade a_hands a_pad a_court a_title a_out k_values _ p3 p5 v_this_thrown v_this_size v_this_families v_this_atHand v_this_family v_this_density v_this_pads v_this_hasThermal v_this_titleSize v_this_written v_this_at v_this_begin v_this_words v_this_paste0 v_values _ h) ⟨callB_of 2 hts (zgood zc_M_width) rfl rfl rfl (hts _ zw_107) (hts _ zw_1312) (by decide +kernel) ⟨Nat.le_of_ble_eq_true rfl, Nat.le_of_ble_eq_true rfl⟩, (hts _ zw_1314), (hts _ zw_92)⟩ (zpreV hE hK hP hD hS hA [0, 1] [0] (by rfl) (by rfl) (by decide) (ci := 10) (q0 := 0) rfl (by rfl)) rfl rfl hl.1 rfl (lv_room (Nat.le_of_ble_eq_true rfl)) dM_begin_4 ⟨Nat.le_of_ble_eq_true rfl, Nat.le_of_ble_eq_true rfl⟩) (by rfl) (by rfl) (by decide) (by decide) (fun r1 u H locs h hP hD hS => ?_)
  try dsimp only at h
  have hP := hP.sub (ws' := (w_M_begin ad a_this a_units a_kinds a_values a_names a_low a_high a_told a_leftOut a_isMade a_hands a_pad a_court a_title a_out k_values v_this_thrown v_this_size v_this_families v_this_atHand v_this_family v_this_density v_this_pads v_this_hasThermal v_this_titleSize v_this_written v_this_at v_this_begin v_this_words v_this_paste0 v_values)) [0, 1] rfl
  have hD := hD.sub (ws' := (w_M_begin ad a_this a_units a_kinds a_values a_names a_low a_high a_told a_leftOut a_isMade a_hands a_pad a_court a_title a_out k_values v_this_thrown v_this_size v_this_families v_this_atHand v_this_family v_this_density v_this_pads v_this_hasThermal v_this_titleSize v_this_written v_this_at v_this_begin v_this_words v_this_paste0 v_values)) [0, 1] (by decide) rfl
  refine lv_lstore (lv' := [(9, .long r1), (0, .ref a_this), (1, .long p1), (3, .long p3), (5, .long p5), (7, .long p7)]) hx hb dM_begin_7 hl (by decide) rfl (fun ls hl => ?_)
  refine lv_lload_n hx hb dM_begin_9 rfl (lv_at hl 3 rfl) ?_
  refine lv_lload hx hb dM_begin_10 (lv_at hl 4 rfl) ?_
  refine lv_lconst (v := 1) hx hb dM_begin_12 (by decide) ?_
  refine lv_lsub hx hb dM_begin_13 ?_
  refine lv_aload_n hx hb dM_begin_14 rfl (lv_at hl 1 rfl) ?_
  refine lv_bipush (v := 7) hx hb dM_begin_15 (by decide) ?_
  refine zcall_l hP hD hS hA [0, 1] [] (va_runV (As := [.int 7]) (rest := [.long (p5 - 1), .long p3]) ⟨hx, hb, hml, hown, hts⟩ (c_M_of l dC dI ad a_this a_units a_kinds a_values a_names a_low a_high a_told a_leftOut a_isMade a_hands a_pad a_court a_title a_out k_values _ 7 v_this_thrown v_this_size v_this_families v_this_atHand v_this_family v_this_density v_this_pads v_this_hasThermal v_this_titleSize v_this_written v_this_at v_this_begin v_this_words v_this_paste0 v_values _ h) ⟨callB_of 1 hts (zgood zc_M_of) rfl rfl rfl (hts _ zw_107) (hts _ zw_1201) (by decide +kernel) ⟨Nat.le_of_ble_eq_true rfl, Nat.le_of_ble_eq_true rfl⟩, (hts _ zw_1203), (hts _ zw_74)⟩ (zpreV hE hK hP hD hS hA [0, 1] [0] (by rfl) (by rfl) (by decide) (ci := 10) (q0 := 0) rfl (by rfl)) rfl rfl hl.1 rfl (lv_room (Nat.le_of_ble_eq_true rfl)) dM_begin_17 ⟨Nat.le_of_ble_eq_true rfl, Nat.le_of_ble_eq_true rfl⟩) (by rfl) (by rfl) (by decide) (by decide) (fun r2 u H locs h hP hD hS => ?_)
  try dsimp only at h
  have hP := hP.sub (ws' := (w_M_begin ad a_this a_units a_kinds a_values a_names a_low a_high a_told a_leftOut a_isMade a_hands a_pad a_court a_title a_out k_values v_this_thrown v_this_size v_this_families v_this_atHand v_this_family v_this_density v_this_pads v_this_hasThermal v_this_titleSize v_this_written v_this_at v_this_begin v_this_words v_this_paste0 v_values)) [0, 1] rfl
  have hD := hD.sub (ws' := (w_M_begin ad a_this a_units a_kinds a_values a_names a_low a_high a_told a_leftOut a_isMade a_hands a_pad a_court a_title a_out k_values v_this_thrown v_this_size v_this_families v_this_atHand v_this_family v_this_density v_this_pads v_this_hasThermal v_this_titleSize v_this_written v_this_at v_this_begin v_this_words v_this_paste0 v_values)) [0, 1] (by decide) rfl
  refine lv_lmul hx hb dM_begin_20 ?_
  refine lv_lsub hx hb dM_begin_21 ?_
  refine lv_lload hx hb dM_begin_22 (lv_at hl 4 rfl) ?_
  refine lv_lload hx hb dM_begin_24 (lv_at hl 0 rfl) ?_
  refine lv_lmul hx hb dM_begin_26 ?_
  refine lv_lsub hx hb dM_begin_27 ?_
  refine lv_topl (fun x3 ex3 => ?_)
  replace h := h x3 ex3
  refine lv_lstore (lv' := [(11, .long x3), (9, .long r1), (0, .ref a_this), (1, .long p1), (3, .long p3), (5, .long p5), (7, .long p7)]) hx hb dM_begin_28 hl (by decide) rfl (fun ls hl => ?_)
  refine lv_lload_n hx hb dM_begin_30 rfl (lv_at hl 3 rfl) ?_
  refine lv_lload hx hb dM_begin_31 (lv_at hl 0 rfl) ?_
  refine lv_ldc2 (own := RM) (index := 90) (v := 2) hx hb hown (hts _ zw_1179) dM_begin_33 ?_
  refine lv_ldiv hx hb dM_begin_36 (by decide) ?_
  refine lv_ladd hx hb dM_begin_37 ?_
  refine lv_lload hx hb dM_begin_38 (lv_at hl 6 rfl) ?_
  refine lv_lload hx hb dM_begin_40 (lv_at hl 1 rfl) ?_
  refine lv_aload_n hx hb dM_begin_42 rfl (lv_at hl 2 rfl) ?_
  refine lv_bipush (v := 7) hx hb dM_begin_43 (by decide) ?_
  refine zcall_l hP hD hS hA [0, 1] [] (va_runV (As := [.int 7]) (rest := [.long r1, .long p7, .long (p1 + (x3 / 2))]) ⟨hx, hb, hml, hown, hts⟩ (c_M_of l dC dI ad a_this a_units a_kinds a_values a_names a_low a_high a_told a_leftOut a_isMade a_hands a_pad a_court a_title a_out k_values _ 7 v_this_thrown v_this_size v_this_families v_this_atHand v_this_family v_this_density v_this_pads v_this_hasThermal v_this_titleSize v_this_written v_this_at v_this_begin v_this_words v_this_paste0 v_values _ h) ⟨callB_of 1 hts (zgood zc_M_of) rfl rfl rfl (hts _ zw_107) (hts _ zw_1201) (by decide +kernel) ⟨Nat.le_of_ble_eq_true rfl, Nat.le_of_ble_eq_true rfl⟩, (hts _ zw_1203), (hts _ zw_74)⟩ (zpreV hE hK hP hD hS hA [0, 1] [0] (by rfl) (by rfl) (by decide) (ci := 10) (q0 := 0) rfl (by rfl)) rfl rfl hl.1 rfl (lv_room (Nat.le_of_ble_eq_true rfl)) dM_begin_45 ⟨Nat.le_of_ble_eq_true rfl, Nat.le_of_ble_eq_true rfl⟩) (by rfl) (by rfl) (by decide) (by decide) (fun r4 u H locs h hP hD hS => ?_)
  try dsimp only at h
  have hP := hP.sub (ws' := (w_M_begin ad a_this a_units a_kinds a_values a_names a_low a_high a_told a_leftOut a_isMade a_hands a_pad a_court a_title a_out k_values v_this_thrown v_this_size v_this_families v_this_atHand v_this_family v_this_density v_this_pads v_this_hasThermal v_this_titleSize v_this_written v_this_at v_this_begin v_this_words v_this_paste0 v_values)) [0, 1] rfl
  have hD := hD.sub (ws' := (w_M_begin ad a_this a_units a_kinds a_values a_names a_low a_high a_told a_leftOut a_isMade a_hands a_pad a_court a_title a_out k_values v_this_thrown v_this_size v_this_families v_this_atHand v_this_family v_this_density v_this_pads v_this_hasThermal v_this_titleSize v_this_written v_this_at v_this_begin v_this_words v_this_paste0 v_values)) [0, 1] (by decide) rfl
  refine lv_ladd hx hb dM_begin_48 ?_
  refine lv_lmul hx hb dM_begin_49 ?_
  refine lv_ladd hx hb dM_begin_50 ?_
  exact W.lret (v := ((p1 + (x3 / 2)) + (p7 * (r1 + r4)))) hx hb hr (fun t ht hW => ⟨⟨((p1 + (x3 / 2)) + (p7 * (r1 + r4))), (()), rfl, h, by rw [ht]; exact hP, hD⟩, hS.F ht⟩) hS.2.2 dM_begin_51
abbrev yM_paste : MethodName := ⟨"FootprintRulesModel", "paste", "(II)I"⟩
abbrev cM_paste : ByteArray := prog_14_method_47_code
abbrev wsM_paste : List Cond := .code yM_paste cM_paste 16 (some .int) :: zT
set_option maxRecDepth 100000 in
theorem zc_M_paste : Cond.code yM_paste cM_paste 16 (some .int) ∈ zT := zm 1303 (by rfl) (by rfl)
theorem dM_paste_0 : decode cM_paste 0 = .ok (.iload_n 1, 1) := by decide +kernel
theorem dM_paste_1 : decode cM_paste 1 = .ok (.ifCond .lt 20, 3) := by decide +kernel
theorem dM_paste_4 : decode cM_paste 4 = .ok (.iload_n 1, 1) := by decide +kernel
theorem dM_paste_5 : decode cM_paste 5 = .ok (.aload_n 0, 1) := by decide +kernel
theorem dM_paste_6 : decode cM_paste 6 = .ok (.getfield 134, 3) := by decide +kernel
theorem dM_paste_9 : decode cM_paste 9 = .ok (.if_icmp .ge 12, 3) := by decide +kernel
theorem dM_paste_12 : decode cM_paste 12 = .ok (.iload_n 2, 1) := by decide +kernel
theorem dM_paste_13 : decode cM_paste 13 = .ok (.iconst (-1), 1) := by decide +kernel
theorem dM_paste_14 : decode cM_paste 14 = .ok (.if_icmp .lt 7, 3) := by decide +kernel
theorem dM_paste_17 : decode cM_paste 17 = .ok (.iconst 1, 1) := by decide +kernel
theorem dM_paste_18 : decode cM_paste 18 = .ok (.goto 4, 3) := by decide +kernel
theorem dM_paste_21 : decode cM_paste 21 = .ok (.iconst 0, 1) := by decide +kernel
theorem dM_paste_22 : decode cM_paste 22 = .ok (.istore_n 3, 1) := by decide +kernel
theorem dM_paste_23 : decode cM_paste 23 = .ok (.aload_n 0, 1) := by decide +kernel
theorem dM_paste_24 : decode cM_paste 24 = .ok (.aload_n 0, 1) := by decide +kernel
theorem dM_paste_25 : decode cM_paste 25 = .ok (.iload_n 3, 1) := by decide +kernel
theorem dM_paste_26 : decode cM_paste 26 = .ok (.invokevirtual 224, 3) := by decide +kernel
theorem dM_paste_29 : decode cM_paste 29 = .ok (.putfield 54, 3) := by decide +kernel
theorem dM_paste_32 : decode cM_paste 32 = .ok (.aload_n 0, 1) := by decide +kernel
theorem dM_paste_33 : decode cM_paste 33 = .ok (.getfield 54, 3) := by decide +kernel
theorem dM_paste_36 : decode cM_paste 36 = .ok (.ifCond .eq 5, 3) := by decide +kernel
theorem dM_paste_39 : decode cM_paste 39 = .ok (.iconst 0, 1) := by decide +kernel
theorem dM_paste_40 : decode cM_paste 40 = .ok (.ireturn, 1) := by decide +kernel
theorem dM_paste_41 : decode cM_paste 41 = .ok (.aload_n 0, 1) := by decide +kernel
theorem dM_paste_42 : decode cM_paste 42 = .ok (.iload_n 1, 1) := by decide +kernel
theorem dM_paste_43 : decode cM_paste 43 = .ok (.iconst 0, 1) := by decide +kernel
theorem dM_paste_44 : decode cM_paste 44 = .ok (.invokevirtual 231, 3) := by decide +kernel
theorem dM_paste_47 : decode cM_paste 47 = .ok (.lstore 4, 2) := by decide +kernel
theorem dM_paste_49 : decode cM_paste 49 = .ok (.aload_n 0, 1) := by decide +kernel
theorem dM_paste_50 : decode cM_paste 50 = .ok (.iload_n 1, 1) := by decide +kernel
theorem dM_paste_51 : decode cM_paste 51 = .ok (.iconst 1, 1) := by decide +kernel
theorem dM_paste_52 : decode cM_paste 52 = .ok (.invokevirtual 231, 3) := by decide +kernel
theorem dM_paste_55 : decode cM_paste 55 = .ok (.lstore 6, 2) := by decide +kernel
theorem dM_paste_57 : decode cM_paste 57 = .ok (.aload_n 0, 1) := by decide +kernel
theorem dM_paste_58 : decode cM_paste 58 = .ok (.iload_n 1, 1) := by decide +kernel
theorem dM_paste_59 : decode cM_paste 59 = .ok (.lload 4, 2) := by decide +kernel
theorem dM_paste_61 : decode cM_paste 61 = .ok (.invokevirtual 234, 3) := by decide +kernel
theorem dM_paste_64 : decode cM_paste 64 = .ok (.lstore 8, 2) := by decide +kernel
theorem dM_paste_66 : decode cM_paste 66 = .ok (.aload_n 0, 1) := by decide +kernel
theorem dM_paste_67 : decode cM_paste 67 = .ok (.iload_n 1, 1) := by decide +kernel
theorem dM_paste_68 : decode cM_paste 68 = .ok (.lload 6, 2) := by decide +kernel
theorem dM_paste_70 : decode cM_paste 70 = .ok (.invokevirtual 234, 3) := by decide +kernel
theorem dM_paste_73 : decode cM_paste 73 = .ok (.lstore 10, 2) := by decide +kernel
theorem dM_paste_75 : decode cM_paste 75 = .ok (.lload 8, 2) := by decide +kernel
theorem dM_paste_77 : decode cM_paste 77 = .ok (.lload 10, 2) := by decide +kernel
theorem dM_paste_79 : decode cM_paste 79 = .ok (.lmul, 1) := by decide +kernel
theorem dM_paste_80 : decode cM_paste 80 = .ok (.lstore 12, 2) := by decide +kernel
theorem dM_paste_82 : decode cM_paste 82 = .ok (.iload_n 2, 1) := by decide +kernel
theorem dM_paste_83 : decode cM_paste 83 = .ok (.iconst (-1), 1) := by decide +kernel
theorem dM_paste_84 : decode cM_paste 84 = .ok (.if_icmp .ne 7, 3) := by decide +kernel
theorem dM_paste_87 : decode cM_paste 87 = .ok (.lload 12, 2) := by decide +kernel
theorem dM_paste_89 : decode cM_paste 89 = .ok (.l2i, 1) := by decide +kernel
theorem dM_paste_90 : decode cM_paste 90 = .ok (.ireturn, 1) := by decide +kernel
theorem dM_paste_91 : decode cM_paste 91 = .ok (.iload_n 2, 1) := by decide +kernel
theorem dM_paste_92 : decode cM_paste 92 = .ok (.iconst 4, 1) := by decide +kernel
theorem dM_paste_93 : decode cM_paste 93 = .ok (.idiv, 1) := by decide +kernel
theorem dM_paste_94 : decode cM_paste 94 = .ok (.i2l, 1) := by decide +kernel
theorem dM_paste_95 : decode cM_paste 95 = .ok (.lstore 14, 2) := by decide +kernel
theorem dM_paste_97 : decode cM_paste 97 = .ok (.aload_n 0, 1) := by decide +kernel
theorem dM_paste_98 : decode cM_paste 98 = .ok (.lload 14, 2) := by decide +kernel
theorem dM_paste_100 : decode cM_paste 100 = .ok (.lload 12, 2) := by decide +kernel
theorem dM_paste_102 : decode cM_paste 102 = .ok (.lcmp, 1) := by decide +kernel
theorem dM_paste_103 : decode cM_paste 103 = .ok (.ifCond .ge 7, 3) := by decide +kernel
theorem dM_paste_106 : decode cM_paste 106 = .ok (.iconst 0, 1) := by decide +kernel
theorem dM_paste_107 : decode cM_paste 107 = .ok (.goto 4, 3) := by decide +kernel
theorem dM_paste_110 : decode cM_paste 110 = .ok (.iconst 2, 1) := by decide +kernel
theorem dM_paste_111 : decode cM_paste 111 = .ok (.putfield 54, 3) := by decide +kernel
theorem dM_paste_114 : decode cM_paste 114 = .ok (.aload_n 0, 1) := by decide +kernel
theorem dM_paste_115 : decode cM_paste 115 = .ok (.getfield 54, 3) := by decide +kernel
theorem dM_paste_118 : decode cM_paste 118 = .ok (.ifCond .eq 5, 3) := by decide +kernel
theorem dM_paste_121 : decode cM_paste 121 = .ok (.iconst 0, 1) := by decide +kernel
theorem dM_paste_122 : decode cM_paste 122 = .ok (.ireturn, 1) := by decide +kernel
theorem dM_paste_123 : decode cM_paste 123 = .ok (.iload_n 2, 1) := by decide +kernel
theorem dM_paste_124 : decode cM_paste 124 = .ok (.iconst 4, 1) := by decide +kernel
theorem dM_paste_125 : decode cM_paste 125 = .ok (.irem, 1) := by decide +kernel
theorem dM_paste_126 : decode cM_paste 126 = .ok (.tableswitch 98 0 2 #[26, 57, 88], 26) := by decide +kernel
theorem dM_paste_152 : decode cM_paste 152 = .ok (.aload_n 0, 1) := by decide +kernel
theorem dM_paste_153 : decode cM_paste 153 = .ok (.aload_n 0, 1) := by decide +kernel
theorem dM_paste_154 : decode cM_paste 154 = .ok (.getfield 42, 3) := by decide +kernel
theorem dM_paste_157 : decode cM_paste 157 = .ok (.bipush 7, 2) := by decide +kernel
theorem dM_paste_159 : decode cM_paste 159 = .ok (.iload_n 1, 1) := by decide +kernel
theorem dM_paste_160 : decode cM_paste 160 = .ok (.imul, 1) := by decide +kernel
theorem dM_paste_161 : decode cM_paste 161 = .ok (.iconst 1, 1) := by decide +kernel
theorem dM_paste_162 : decode cM_paste 162 = .ok (.iadd, 1) := by decide +kernel
theorem dM_paste_163 : decode cM_paste 163 = .ok (.laload, 1) := by decide +kernel
theorem dM_paste_164 : decode cM_paste 164 = .ok (.aload_n 0, 1) := by decide +kernel
theorem dM_paste_165 : decode cM_paste 165 = .ok (.getfield 199, 3) := by decide +kernel
theorem dM_paste_168 : decode cM_paste 168 = .ok (.ladd, 1) := by decide +kernel
theorem dM_paste_169 : decode cM_paste 169 = .ok (.lload 4, 2) := by decide +kernel
theorem dM_paste_171 : decode cM_paste 171 = .ok (.lload 8, 2) := by decide +kernel
theorem dM_paste_173 : decode cM_paste 173 = .ok (.lload 14, 2) := by decide +kernel
theorem dM_paste_175 : decode cM_paste 175 = .ok (.lload 8, 2) := by decide +kernel
theorem dM_paste_177 : decode cM_paste 177 = .ok (.lrem, 1) := by decide +kernel
theorem dM_paste_178 : decode cM_paste 178 = .ok (.invokevirtual 238, 3) := by decide +kernel
theorem dM_paste_181 : decode cM_paste 181 = .ok (.l2i, 1) := by decide +kernel
theorem dM_paste_182 : decode cM_paste 182 = .ok (.ireturn, 1) := by decide +kernel
theorem dM_paste_183 : decode cM_paste 183 = .ok (.aload_n 0, 1) := by decide +kernel
theorem dM_paste_184 : decode cM_paste 184 = .ok (.aload_n 0, 1) := by decide +kernel
theorem dM_paste_185 : decode cM_paste 185 = .ok (.getfield 42, 3) := by decide +kernel
theorem dM_paste_188 : decode cM_paste 188 = .ok (.bipush 7, 2) := by decide +kernel
theorem dM_paste_190 : decode cM_paste 190 = .ok (.iload_n 1, 1) := by decide +kernel
theorem dM_paste_191 : decode cM_paste 191 = .ok (.imul, 1) := by decide +kernel
theorem dM_paste_192 : decode cM_paste 192 = .ok (.iconst 2, 1) := by decide +kernel
theorem dM_paste_193 : decode cM_paste 193 = .ok (.iadd, 1) := by decide +kernel
theorem dM_paste_194 : decode cM_paste 194 = .ok (.laload, 1) := by decide +kernel
theorem dM_paste_195 : decode cM_paste 195 = .ok (.aload_n 0, 1) := by decide +kernel
theorem dM_paste_196 : decode cM_paste 196 = .ok (.getfield 199, 3) := by decide +kernel
theorem dM_paste_199 : decode cM_paste 199 = .ok (.ladd, 1) := by decide +kernel
theorem dM_paste_200 : decode cM_paste 200 = .ok (.lload 6, 2) := by decide +kernel
theorem dM_paste_202 : decode cM_paste 202 = .ok (.lload 10, 2) := by decide +kernel
theorem dM_paste_204 : decode cM_paste 204 = .ok (.lload 14, 2) := by decide +kernel
theorem dM_paste_206 : decode cM_paste 206 = .ok (.lload 8, 2) := by decide +kernel
theorem dM_paste_208 : decode cM_paste 208 = .ok (.ldiv, 1) := by decide +kernel
theorem dM_paste_209 : decode cM_paste 209 = .ok (.invokevirtual 238, 3) := by decide +kernel
theorem dM_paste_212 : decode cM_paste 212 = .ok (.l2i, 1) := by decide +kernel
theorem dM_paste_213 : decode cM_paste 213 = .ok (.ireturn, 1) := by decide +kernel
theorem dM_paste_214 : decode cM_paste 214 = .ok (.aload_n 0, 1) := by decide +kernel
theorem dM_paste_215 : decode cM_paste 215 = .ok (.lload 4, 2) := by decide +kernel
theorem dM_paste_217 : decode cM_paste 217 = .ok (.lload 8, 2) := by decide +kernel
theorem dM_paste_219 : decode cM_paste 219 = .ok (.invokevirtual 228, 3) := by decide +kernel
theorem dM_paste_222 : decode cM_paste 222 = .ok (.l2i, 1) := by decide +kernel
theorem dM_paste_223 : decode cM_paste 223 = .ok (.ireturn, 1) := by decide +kernel
theorem dM_paste_224 : decode cM_paste 224 = .ok (.aload_n 0, 1) := by decide +kernel
theorem dM_paste_225 : decode cM_paste 225 = .ok (.lload 6, 2) := by decide +kernel
theorem dM_paste_227 : decode cM_paste 227 = .ok (.lload 10, 2) := by decide +kernel
theorem dM_paste_229 : decode cM_paste 229 = .ok (.invokevirtual 228, 3) := by decide +kernel
theorem dM_paste_232 : decode cM_paste 232 = .ok (.l2i, 1) := by decide +kernel
theorem dM_paste_233 : decode cM_paste 233 = .ok (.ireturn, 1) := by decide +kernel
-- FootprintRulesModel.paste(II)I
abbrev w_M_paste (ad : Nat → Nat → Nat) (a_this : Nat) (a_units : Nat) (a_kinds : Nat) (a_values : Nat) (a_names : Nat) (a_low : Nat) (a_high : Nat) (a_told : Nat) (a_leftOut : Nat) (a_isMade : Nat) (a_hands : Nat) (a_pad : Nat) (a_court : Nat) (a_title : Nat) (a_out : Nat) (k_pad : ClassId) (k_values : ClassId) (v_this_thrown : Int32) (v_this_size : Int32) (v_this_families : Int32) (v_this_atHand : Int32) (v_this_family : Int32) (v_this_density : Int32) (v_this_pads : Int32) (v_this_hasThermal : Int32) (v_this_titleSize : Int32) (v_this_written : Int32) (v_this_at : Int32) (v_this_begin : Int32) (v_this_words : Int32) (v_this_paste0 : Int64) (v_pad : Nat → Int64) (v_values : Nat → Int64) : va_W := [(a_this, .inr (10, [.int v_this_thrown, .ref a_units, .int v_this_size, .int v_this_families, .ref a_kinds, .ref a_values, .ref a_names, .ref a_low, .ref a_high, .ref a_told, .ref a_leftOut, .ref a_isMade, .ref a_hands, .int v_this_atHand, .int v_this_family, .int v_this_density, .int v_this_pads, .ref a_pad, .ref a_court, .int v_this_hasThermal, .ref a_title, .int v_this_titleSize, .ref a_out, .int v_this_written, .int v_this_at, .int v_this_begin, .int v_this_words, .long v_this_paste0])), (a_pad, .inl (k_pad, 455, .inr (.inl v_pad))), (a_values, .inl (k_values, 240, .inr (.inl v_values)))]
def P_M_paste_111 (p1 : Int32) (p2 : Int32) (v_this_family : Int32) (v_this_density : Int32) (v_this_paste0 : Int64) (v_pad : Nat → Int64) (v_values : Nat → Int64) (post : Int32 → Int32 → Prop) (y4 : Int64) (y6 : Int64) (y8 : Int64) (y10 : Int64) (y14 : Int64) (t0 : Int32) (u_this_thrown : Int32) : Prop := ((t0 = 0 → ∀ x2 : Int32, x2 = p2 - p2 / 4 * 4 → ((x2 = 0 → vp_in ((7 * p1) + 1) 455 ∧ ¬ y8 = 0 ∧ P_M_begin ((v_pad ((7 * p1) + 1).toNatClampNeg) + v_this_paste0) y4 y8 (y14 - y14 / y8 * y8) v_this_family v_this_density v_values (fun (r6 : Int64) => post r6.toInt32 t0)) ∧ (¬ x2 = 0 → ((x2 = 1 → vp_in ((7 * p1) + 2) 455 ∧ ¬ y8 = 0 ∧ P_M_begin ((v_pad ((7 * p1) + 2).toNatClampNeg) + v_this_paste0) y6 y10 (y14 / y8) v_this_family v_this_density v_values (fun (r10 : Int64) => post r10.toInt32 t0)) ∧ (¬ x2 = 1 → ((x2 = 2 → P_M_width y4 y8 v_this_family v_this_density v_values (fun (r12 : Int64) => post r12.toInt32 t0)) ∧ (¬ x2 = 2 → P_M_width y6 y10 v_this_family v_this_density v_values (fun (r13 : Int64) => post r13.toInt32 t0)))))))) ∧ (¬ t0 = 0 → post 0 t0))
set_option maxHeartbeats 4000000 in
set_option maxRecDepth 100000 in
theorem w_M_paste_111 (l : Launch) {p : Program} {e : Env} {s : State} {m : MethodId} {args : Array Value} {below : List Frame} {meth : Method} {c : Code} {dC : Nat → ClassId} {dI : Nat → Nat → Nat} {ad : Nat → Nat → Nat} {A : Nat → Prop} (C0 : zC p s m args meth c cM_paste 16 RM zT (some .int) A) (hE : zE ad A s) (a_this : Nat) (a_units : Nat) (a_kinds : Nat) (a_values : Nat) (a_names : Nat) (a_low : Nat) (a_high : Nat) (a_told : Nat) (a_leftOut : Nat) (a_isMade : Nat) (a_hands : Nat) (a_pad : Nat) (a_court : Nat) (a_title : Nat) (a_out : Nat) (k_pad : ClassId) (k_values : ClassId) (p1 : Int32) (p2 : Int32) (v_this_thrown : Int32) (v_this_size : Int32) (v_this_families : Int32) (v_this_atHand : Int32) (v_this_family : Int32) (v_this_density : Int32) (v_this_pads : Int32) (v_this_hasThermal : Int32) (v_this_titleSize : Int32) (v_this_written : Int32) (v_this_at : Int32) (v_this_begin : Int32) (v_this_words : Int32) (v_this_paste0 : Int64) (v_pad : Nat → Int64) (v_values : Nat → Int64) (post : Int32 → Int32 → Prop) (hK : va_K (dC, dI) vwCl [(k_pad, .long), (k_values, .long)] s) : ∀ (y4 : Int64) (y6 : Int64) (y8 : Int64) (y10 : Int64) (y14 : Int64) (t0 : Int32) (u_this_thrown : Int32) (H : Heap) (locs : List Loc), P_M_paste_111 p1 p2 v_this_family v_this_density v_this_paste0 v_pad v_values post y4 y6 y8 y10 y14 t0 u_this_thrown → va_P (dC, dI) vwCl (w_M_paste ad a_this a_units a_kinds a_values a_names a_low a_high a_told a_leftOut a_isMade a_hands a_pad a_court a_title a_out k_pad k_values u_this_thrown v_this_size v_this_families v_this_atHand v_this_family v_this_density v_this_pads v_this_hasThermal v_this_titleSize v_this_written v_this_at v_this_begin v_this_words v_this_paste0 v_pad v_values) H → va_D A (w_M_paste ad a_this a_units a_kinds a_values a_names a_low a_high a_told a_leftOut a_isMade a_hands a_pad a_court a_title a_out k_pad k_values u_this_thrown v_this_size v_this_families v_this_atHand v_this_family v_this_density v_this_pads v_this_hasThermal v_this_titleSize v_this_written v_this_at v_this_begin v_this_words v_this_paste0 v_pad v_values) → va_S A s.heap H locs → ∀ ls : Array Slot, lv_has ls 16 [(0, .ref a_this), (1, .int p1), (2, .int p2), (4, .long y4), (6, .long y6), (8, .long y8), (10, .long y10), (14, .long y14)] → W p l e (headSpec wsM_paste { frames := 3, cells := 0, slots := 0, locals := 79 }).room s m args below meth c H locs 0 0 (MQ below (va_Qi (fun (r : Int32) (u : Int32) => post r u) (zB (dC, dI) A (fun (u : Int32) => (w_M_paste ad a_this a_units a_kinds a_values a_names a_low a_high a_told a_leftOut a_isMade a_hands a_pad a_court a_title a_out k_pad k_values u v_this_size v_this_families v_this_atHand v_this_family v_this_density v_this_pads v_this_hasThermal v_this_titleSize v_this_written v_this_at v_this_begin v_this_words v_this_paste0 v_pad v_values))) A) args s 0 0 A) (F0 m 111 ls [.int t0, .ref a_this]) := by
  obtain ⟨hx, hb, hr, hml, hown, hts, hlocks, hA⟩ := id C0
  intro y4 y6 y8 y10 y14 t0 u_this_thrown H locs h hP hD hS ls hl
  unfold P_M_paste_111 at h
  refine va_put (D := (dC, dI)) (ci := 10) (v := .int t0) (ty := .int) (C := RM) (T := TM) (N := 28) hx hb hts inZ_M tyM tyM_ok nmM hown hK hP hD hS 0 rfl rfl 0 (by decide) (hts _ zw_1044) (fun _ h9 => h9) rfl (by decide +kernel) rfl rfl (Nat.le_of_ble_eq_true rfl) dM_paste_111 (fun H locs hP hD hS => ?_)
  have hP : va_P (dC, dI) vwCl (w_M_paste ad a_this a_units a_kinds a_values a_names a_low a_high a_told a_leftOut a_isMade a_hands a_pad a_court a_title a_out k_pad k_values t0 v_this_size v_this_families v_this_atHand v_this_family v_this_density v_this_pads v_this_hasThermal v_this_titleSize v_this_written v_this_at v_this_begin v_this_words v_this_paste0 v_pad v_values) H := hP
  have hD : va_D A (w_M_paste ad a_this a_units a_kinds a_values a_names a_low a_high a_told a_leftOut a_isMade a_hands a_pad a_court a_title a_out k_pad k_values t0 v_this_size v_this_families v_this_atHand v_this_family v_this_density v_this_pads v_this_hasThermal v_this_titleSize v_this_written v_this_at v_this_begin v_this_words v_this_paste0 v_pad v_values) := hD
  refine lv_aload_n hx hb dM_paste_114 rfl (lv_at hl 0 rfl) ?_
  refine va_get (D := (dC, dI)) (ci := 10) (v := .int t0) (C := RM) (T := TM) (N := 28) hx hb hts inZ_M hown hK hP 0 rfl rfl 0 (by decide) (hts _ zw_1044) (fun _ h9 => h9) rfl dM_paste_115 ?_
  refine lv_if_eq (tgt := 123) hx hb dM_paste_118 (by decide) ?_ ?_
  · intro c1
    replace h := h.1 c1
    refine lv_iload_n hx hb dM_paste_123 rfl (lv_at hl 2 rfl) ?_
    refine lv_iconst (v := 4) hx hb dM_paste_124 (by decide) ?_
    refine lv_irem hx hb dM_paste_125 (by decide) ?_
    refine lv_topi (fun x2 ex2 => ?_)
    replace h := h x2 ex2
    by_cases c3 : x2 = 0
    · replace h := h.1 c3
      refine lv_tableIn (tgt := 152) hx hb dM_paste_126 (by rw [c3]; decide) (by rw [c3]; decide) (by rw [c3]; rfl) (by decide) ?_
      refine lv_aload_n hx hb dM_paste_152 rfl (lv_at hl 0 rfl) ?_
      refine lv_aload_n hx hb dM_paste_153 rfl (lv_at hl 0 rfl) ?_
      refine va_get (D := (dC, dI)) (ci := 10) (v := .ref a_pad) (C := RM) (T := TM) (N := 28) hx hb hts inZ_M hown hK hP 0 rfl rfl 17 (by decide) (hts _ zw_1061) (fun _ h9 => h9) rfl dM_paste_154 ?_
      refine lv_bipush (v := 7) hx hb dM_paste_157 (by decide) ?_
      refine lv_iload_n hx hb dM_paste_159 rfl (lv_at hl 1 rfl) ?_
      refine lv_imul hx hb dM_paste_160 ?_
      refine lv_iconst (v := 1) hx hb dM_paste_161 (by decide) ?_
      refine lv_iadd hx hb dM_paste_162 ?_
      obtain ⟨hn4, h⟩ := h
      refine va_lald hx hb hK hP 1 0 rfl rfl hn4 dM_paste_163 ?_
      refine lv_aload_n hx hb dM_paste_164 rfl (lv_at hl 0 rfl) ?_
      refine va_get (D := (dC, dI)) (ci := 10) (v := .long v_this_paste0) (C := RM) (T := TM) (N := 28) hx hb hts inZ_M hown hK hP 0 rfl rfl 27 (by decide) (hts _ zw_1071) (fun _ h9 => h9) rfl dM_paste_165 ?_
      refine lv_ladd hx hb dM_paste_168 ?_
      refine lv_lload hx hb dM_paste_169 (lv_at hl 3 rfl) ?_
      refine lv_lload hx hb dM_paste_171 (lv_at hl 5 rfl) ?_
      refine lv_lload hx hb dM_paste_173 (lv_at hl 7 rfl) ?_
      refine lv_lload hx hb dM_paste_175 (lv_at hl 5 rfl) ?_
      obtain ⟨hn5, h⟩ := h
      refine lv_lrem hx hb dM_paste_177 hn5 ?_
      refine zcall_l hP hD hS hA [0, 2] [1] (va_runV (As := [.long ((v_pad ((7 * p1) + 1).toNatClampNeg) + v_this_paste0), .long y4, .long y8, .long (y14 - y14 / y8 * y8)]) (rest := []) ⟨hx, hb, hml, hown, hts⟩ (c_M_begin l dC dI ad a_this a_units a_kinds a_values a_names a_low a_high a_told a_leftOut a_isMade a_hands a_pad a_court a_title a_out k_values _ ((v_pad ((7 * p1) + 1).toNatClampNeg) + v_this_paste0) y4 y8 (y14 - y14 / y8 * y8) t0 v_this_size v_this_families v_this_atHand v_this_family v_this_density v_this_pads v_this_hasThermal v_this_titleSize v_this_written v_this_at v_this_begin v_this_words v_this_paste0 v_values _ h) ⟨callB_of 4 hts (zgood zc_M_begin) rfl rfl rfl (hts _ zw_107) (hts _ zw_1316) (by decide +kernel) ⟨Nat.le_of_ble_eq_true rfl, Nat.le_of_ble_eq_true rfl⟩, (hts _ zw_1318), (hts _ zw_93)⟩ (zpreV hE hK hP hD hS hA [0, 2] [1] (by rfl) (by rfl) (by decide) (ci := 10) (q0 := 0) rfl (by rfl)) rfl rfl hl.1 rfl (lv_room (Nat.le_of_ble_eq_true rfl)) dM_paste_178 ⟨Nat.le_of_ble_eq_true rfl, Nat.le_of_ble_eq_true rfl⟩) (by rfl) (by rfl) (by decide) (by decide) (fun r6 u H locs h hP hD hS => ?_)
      try dsimp only at h
      have hP := hP.sub (ws' := (w_M_paste ad a_this a_units a_kinds a_values a_names a_low a_high a_told a_leftOut a_isMade a_hands a_pad a_court a_title a_out k_pad k_values t0 v_this_size v_this_families v_this_atHand v_this_family v_this_density v_this_pads v_this_hasThermal v_this_titleSize v_this_written v_this_at v_this_begin v_this_words v_this_paste0 v_pad v_values)) [1, 0, 2] rfl
      have hD := hD.sub (ws' := (w_M_paste ad a_this a_units a_kinds a_values a_names a_low a_high a_told a_leftOut a_isMade a_hands a_pad a_court a_title a_out k_pad k_values t0 v_this_size v_this_families v_this_atHand v_this_family v_this_density v_this_pads v_this_hasThermal v_this_titleSize v_this_written v_this_at v_this_begin v_this_words v_this_paste0 v_pad v_values)) [1, 0, 2] (by decide) rfl
      refine lv_l2i hx hb dM_paste_181 rfl ?_
      exact W.iret (v := r6.toInt32) hx hb hr (fun t ht hW => ⟨⟨r6.toInt32, t0, rfl, h, by rw [ht]; exact hP, hD⟩, hS.F ht⟩) hS.2.2 dM_paste_182
    · replace h := h.2 c3
      by_cases c7 : x2 = 1
      · replace h := h.1 c7
        refine lv_tableIn (tgt := 183) hx hb dM_paste_126 (by rw [c7]; decide) (by rw [c7]; decide) (by rw [c7]; rfl) (by decide) ?_
        refine lv_aload_n hx hb dM_paste_183 rfl (lv_at hl 0 rfl) ?_
        refine lv_aload_n hx hb dM_paste_184 rfl (lv_at hl 0 rfl) ?_
        refine va_get (D := (dC, dI)) (ci := 10) (v := .ref a_pad) (C := RM) (T := TM) (N := 28) hx hb hts inZ_M hown hK hP 0 rfl rfl 17 (by decide) (hts _ zw_1061) (fun _ h9 => h9) rfl dM_paste_185 ?_
        refine lv_bipush (v := 7) hx hb dM_paste_188 (by decide) ?_
        refine lv_iload_n hx hb dM_paste_190 rfl (lv_at hl 1 rfl) ?_
        refine lv_imul hx hb dM_paste_191 ?_
        refine lv_iconst (v := 2) hx hb dM_paste_192 (by decide) ?_
        refine lv_iadd hx hb dM_paste_193 ?_
        obtain ⟨hn8, h⟩ := h
        refine va_lald hx hb hK hP 1 0 rfl rfl hn8 dM_paste_194 ?_
        refine lv_aload_n hx hb dM_paste_195 rfl (lv_at hl 0 rfl) ?_
        refine va_get (D := (dC, dI)) (ci := 10) (v := .long v_this_paste0) (C := RM) (T := TM) (N := 28) hx hb hts inZ_M hown hK hP 0 rfl rfl 27 (by decide) (hts _ zw_1071) (fun _ h9 => h9) rfl dM_paste_196 ?_
        refine lv_ladd hx hb dM_paste_199 ?_
        refine lv_lload hx hb dM_paste_200 (lv_at hl 4 rfl) ?_
        refine lv_lload hx hb dM_paste_202 (lv_at hl 6 rfl) ?_
        refine lv_lload hx hb dM_paste_204 (lv_at hl 7 rfl) ?_
        refine lv_lload hx hb dM_paste_206 (lv_at hl 5 rfl) ?_
        obtain ⟨hn9, h⟩ := h
        refine lv_ldiv hx hb dM_paste_208 hn9 ?_
        refine zcall_l hP hD hS hA [0, 2] [1] (va_runV (As := [.long ((v_pad ((7 * p1) + 2).toNatClampNeg) + v_this_paste0), .long y6, .long y10, .long (y14 / y8)]) (rest := []) ⟨hx, hb, hml, hown, hts⟩ (c_M_begin l dC dI ad a_this a_units a_kinds a_values a_names a_low a_high a_told a_leftOut a_isMade a_hands a_pad a_court a_title a_out k_values _ ((v_pad ((7 * p1) + 2).toNatClampNeg) + v_this_paste0) y6 y10 (y14 / y8) t0 v_this_size v_this_families v_this_atHand v_this_family v_this_density v_this_pads v_this_hasThermal v_this_titleSize v_this_written v_this_at v_this_begin v_this_words v_this_paste0 v_values _ h) ⟨callB_of 4 hts (zgood zc_M_begin) rfl rfl rfl (hts _ zw_107) (hts _ zw_1316) (by decide +kernel) ⟨Nat.le_of_ble_eq_true rfl, Nat.le_of_ble_eq_true rfl⟩, (hts _ zw_1318), (hts _ zw_93)⟩ (zpreV hE hK hP hD hS hA [0, 2] [1] (by rfl) (by rfl) (by decide) (ci := 10) (q0 := 0) rfl (by rfl)) rfl rfl hl.1 rfl (lv_room (Nat.le_of_ble_eq_true rfl)) dM_paste_209 ⟨Nat.le_of_ble_eq_true rfl, Nat.le_of_ble_eq_true rfl⟩) (by rfl) (by rfl) (by decide) (by decide) (fun r10 u H locs h hP hD hS => ?_)
        try dsimp only at h
        have hP := hP.sub (ws' := (w_M_paste ad a_this a_units a_kinds a_values a_names a_low a_high a_told a_leftOut a_isMade a_hands a_pad a_court a_title a_out k_pad k_values t0 v_this_size v_this_families v_this_atHand v_this_family v_this_density v_this_pads v_this_hasThermal v_this_titleSize v_this_written v_this_at v_this_begin v_this_words v_this_paste0 v_pad v_values)) [1, 0, 2] rfl
        have hD := hD.sub (ws' := (w_M_paste ad a_this a_units a_kinds a_values a_names a_low a_high a_told a_leftOut a_isMade a_hands a_pad a_court a_title a_out k_pad k_values t0 v_this_size v_this_families v_this_atHand v_this_family v_this_density v_this_pads v_this_hasThermal v_this_titleSize v_this_written v_this_at v_this_begin v_this_words v_this_paste0 v_pad v_values)) [1, 0, 2] (by decide) rfl
        refine lv_l2i hx hb dM_paste_212 rfl ?_
        exact W.iret (v := r10.toInt32) hx hb hr (fun t ht hW => ⟨⟨r10.toInt32, t0, rfl, h, by rw [ht]; exact hP, hD⟩, hS.F ht⟩) hS.2.2 dM_paste_213
      · replace h := h.2 c7
        by_cases c11 : x2 = 2
        · replace h := h.1 c11
          refine lv_tableIn (tgt := 214) hx hb dM_paste_126 (by rw [c11]; decide) (by rw [c11]; decide) (by rw [c11]; rfl) (by decide) ?_
          refine lv_aload_n hx hb dM_paste_214 rfl (lv_at hl 0 rfl) ?_
          refine lv_lload hx hb dM_paste_215 (lv_at hl 3 rfl) ?_
          refine lv_lload hx hb dM_paste_217 (lv_at hl 5 rfl) ?_
          refine zcall_l hP hD hS hA [0, 2] [1] (va_runV (As := [.long y4, .long y8]) (rest := []) ⟨hx, hb, hml, hown, hts⟩ (c_M_width l dC dI ad a_this a_units a_kinds a_values a_names a_low a_high a_told a_leftOut a_isMade a_hands a_pad a_court a_title a_out k_values _ y4 y8 t0 v_this_size v_this_families v_this_atHand v_this_family v_this_density v_this_pads v_this_hasThermal v_this_titleSize v_this_written v_this_at v_this_begin v_this_words v_this_paste0 v_values _ h) ⟨callB_of 2 hts (zgood zc_M_width) rfl rfl rfl (hts _ zw_107) (hts _ zw_1312) (by decide +kernel) ⟨Nat.le_of_ble_eq_true rfl, Nat.le_of_ble_eq_true rfl⟩, (hts _ zw_1314), (hts _ zw_92)⟩ (zpreV hE hK hP hD hS hA [0, 2] [1] (by rfl) (by rfl) (by decide) (ci := 10) (q0 := 0) rfl (by rfl)) rfl rfl hl.1 rfl (lv_room (Nat.le_of_ble_eq_true rfl)) dM_paste_219 ⟨Nat.le_of_ble_eq_true rfl, Nat.le_of_ble_eq_true rfl⟩) (by rfl) (by rfl) (by decide) (by decide) (fun r12 u H locs h hP hD hS => ?_)
          try dsimp only at h
          have hP := hP.sub (ws' := (w_M_paste ad a_this a_units a_kinds a_values a_names a_low a_high a_told a_leftOut a_isMade a_hands a_pad a_court a_title a_out k_pad k_values t0 v_this_size v_this_families v_this_atHand v_this_family v_this_density v_this_pads v_this_hasThermal v_this_titleSize v_this_written v_this_at v_this_begin v_this_words v_this_paste0 v_pad v_values)) [1, 0, 2] rfl
          have hD := hD.sub (ws' := (w_M_paste ad a_this a_units a_kinds a_values a_names a_low a_high a_told a_leftOut a_isMade a_hands a_pad a_court a_title a_out k_pad k_values t0 v_this_size v_this_families v_this_atHand v_this_family v_this_density v_this_pads v_this_hasThermal v_this_titleSize v_this_written v_this_at v_this_begin v_this_words v_this_paste0 v_pad v_values)) [1, 0, 2] (by decide) rfl
          refine lv_l2i hx hb dM_paste_222 rfl ?_
          exact W.iret (v := r12.toInt32) hx hb hr (fun t ht hW => ⟨⟨r12.toInt32, t0, rfl, h, by rw [ht]; exact hP, hD⟩, hS.F ht⟩) hS.2.2 dM_paste_223
        · replace h := h.2 c11
          refine lv_tableOut (tgt := 224) hx hb dM_paste_126 (zz_out0_2 (by assumption) (by assumption) (by assumption)) (by decide) ?_
          refine lv_aload_n hx hb dM_paste_224 rfl (lv_at hl 0 rfl) ?_
          refine lv_lload hx hb dM_paste_225 (lv_at hl 4 rfl) ?_
          refine lv_lload hx hb dM_paste_227 (lv_at hl 6 rfl) ?_
          refine zcall_l hP hD hS hA [0, 2] [1] (va_runV (As := [.long y6, .long y10]) (rest := []) ⟨hx, hb, hml, hown, hts⟩ (c_M_width l dC dI ad a_this a_units a_kinds a_values a_names a_low a_high a_told a_leftOut a_isMade a_hands a_pad a_court a_title a_out k_values _ y6 y10 t0 v_this_size v_this_families v_this_atHand v_this_family v_this_density v_this_pads v_this_hasThermal v_this_titleSize v_this_written v_this_at v_this_begin v_this_words v_this_paste0 v_values _ h) ⟨callB_of 2 hts (zgood zc_M_width) rfl rfl rfl (hts _ zw_107) (hts _ zw_1312) (by decide +kernel) ⟨Nat.le_of_ble_eq_true rfl, Nat.le_of_ble_eq_true rfl⟩, (hts _ zw_1314), (hts _ zw_92)⟩ (zpreV hE hK hP hD hS hA [0, 2] [1] (by rfl) (by rfl) (by decide) (ci := 10) (q0 := 0) rfl (by rfl)) rfl rfl hl.1 rfl (lv_room (Nat.le_of_ble_eq_true rfl)) dM_paste_229 ⟨Nat.le_of_ble_eq_true rfl, Nat.le_of_ble_eq_true rfl⟩) (by rfl) (by rfl) (by decide) (by decide) (fun r13 u H locs h hP hD hS => ?_)
          try dsimp only at h
          have hP := hP.sub (ws' := (w_M_paste ad a_this a_units a_kinds a_values a_names a_low a_high a_told a_leftOut a_isMade a_hands a_pad a_court a_title a_out k_pad k_values t0 v_this_size v_this_families v_this_atHand v_this_family v_this_density v_this_pads v_this_hasThermal v_this_titleSize v_this_written v_this_at v_this_begin v_this_words v_this_paste0 v_pad v_values)) [1, 0, 2] rfl
          have hD := hD.sub (ws' := (w_M_paste ad a_this a_units a_kinds a_values a_names a_low a_high a_told a_leftOut a_isMade a_hands a_pad a_court a_title a_out k_pad k_values t0 v_this_size v_this_families v_this_atHand v_this_family v_this_density v_this_pads v_this_hasThermal v_this_titleSize v_this_written v_this_at v_this_begin v_this_words v_this_paste0 v_pad v_values)) [1, 0, 2] (by decide) rfl
          refine lv_l2i hx hb dM_paste_232 rfl ?_
          exact W.iret (v := r13.toInt32) hx hb hr (fun t ht hW => ⟨⟨r13.toInt32, t0, rfl, h, by rw [ht]; exact hP, hD⟩, hS.F ht⟩) hS.2.2 dM_paste_233
  · intro c1
    replace h := h.2 c1
    refine lv_iconst (v := 0) hx hb dM_paste_121 (by decide) ?_
    exact W.iret (v := 0) hx hb hr (fun t ht hW => ⟨⟨0, t0, rfl, h, by rw [ht]; exact hP, hD⟩, hS.F ht⟩) hS.2.2 dM_paste_122
def P_M_paste_22 (p1 : Int32) (p2 : Int32) (v_this_atHand : Int32) (v_this_family : Int32) (v_this_density : Int32) (v_this_paste0 : Int64) (v_pad : Nat → Int64) (v_values : Nat → Int64) (post : Int32 → Int32 → Prop) (t0 : Int32) : Prop := P_M_refusal t0 v_this_atHand (fun (r1 : Int32) => ((r1 = 0 → P_M_left p1 0 v_this_paste0 v_pad (fun (r3 : Int64) => P_M_left p1 1 v_this_paste0 v_pad (fun (r4 : Int64) => P_M_columns p1 r3 v_this_family v_this_density v_values v_pad (fun (r5 : Int64) => P_M_columns p1 r4 v_this_family v_this_density v_values v_pad (fun (r6 : Int64) => ∀ x7 : Int64, x7 = r5 * r6 → ((¬ p2 = (-1) → ∀ x9 : Int64, x9 = (p2 / 4).toInt64 → ((x7 ≤ x9 → P_M_paste_111 p1 p2 v_this_family v_this_density v_this_paste0 v_pad v_values post r3 r4 r5 r6 x9 2 r1) ∧ (¬ x7 ≤ x9 → P_M_paste_111 p1 p2 v_this_family v_this_density v_this_paste0 v_pad v_values post r3 r4 r5 r6 x9 0 r1))) ∧ (p2 = (-1) → post x7.toInt32 r1))))))) ∧ (¬ r1 = 0 → post 0 r1)))
set_option maxHeartbeats 4000000 in
set_option maxRecDepth 100000 in
theorem w_M_paste_22 (l : Launch) {p : Program} {e : Env} {s : State} {m : MethodId} {args : Array Value} {below : List Frame} {meth : Method} {c : Code} {dC : Nat → ClassId} {dI : Nat → Nat → Nat} {ad : Nat → Nat → Nat} {A : Nat → Prop} (C0 : zC p s m args meth c cM_paste 16 RM zT (some .int) A) (hE : zE ad A s) (a_this : Nat) (a_units : Nat) (a_kinds : Nat) (a_values : Nat) (a_names : Nat) (a_low : Nat) (a_high : Nat) (a_told : Nat) (a_leftOut : Nat) (a_isMade : Nat) (a_hands : Nat) (a_pad : Nat) (a_court : Nat) (a_title : Nat) (a_out : Nat) (k_pad : ClassId) (k_values : ClassId) (p1 : Int32) (p2 : Int32) (v_this_thrown : Int32) (v_this_size : Int32) (v_this_families : Int32) (v_this_atHand : Int32) (v_this_family : Int32) (v_this_density : Int32) (v_this_pads : Int32) (v_this_hasThermal : Int32) (v_this_titleSize : Int32) (v_this_written : Int32) (v_this_at : Int32) (v_this_begin : Int32) (v_this_words : Int32) (v_this_paste0 : Int64) (v_pad : Nat → Int64) (v_values : Nat → Int64) (post : Int32 → Int32 → Prop) (hK : va_K (dC, dI) vwCl [(k_pad, .long), (k_values, .long)] s) : ∀ (t0 : Int32) (H : Heap) (locs : List Loc), P_M_paste_22 p1 p2 v_this_atHand v_this_family v_this_density v_this_paste0 v_pad v_values post t0 → va_P (dC, dI) vwCl (w_M_paste ad a_this a_units a_kinds a_values a_names a_low a_high a_told a_leftOut a_isMade a_hands a_pad a_court a_title a_out k_pad k_values v_this_thrown v_this_size v_this_families v_this_atHand v_this_family v_this_density v_this_pads v_this_hasThermal v_this_titleSize v_this_written v_this_at v_this_begin v_this_words v_this_paste0 v_pad v_values) H → va_D A (w_M_paste ad a_this a_units a_kinds a_values a_names a_low a_high a_told a_leftOut a_isMade a_hands a_pad a_court a_title a_out k_pad k_values v_this_thrown v_this_size v_this_families v_this_atHand v_this_family v_this_density v_this_pads v_this_hasThermal v_this_titleSize v_this_written v_this_at v_this_begin v_this_words v_this_paste0 v_pad v_values) → va_S A s.heap H locs → ∀ ls : Array Slot, lv_has ls 16 [(0, .ref a_this), (1, .int p1), (2, .int p2)] → W p l e (headSpec wsM_paste { frames := 3, cells := 0, slots := 0, locals := 79 }).room s m args below meth c H locs 0 0 (MQ below (va_Qi (fun (r : Int32) (u : Int32) => post r u) (zB (dC, dI) A (fun (u : Int32) => (w_M_paste ad a_this a_units a_kinds a_values a_names a_low a_high a_told a_leftOut a_isMade a_hands a_pad a_court a_title a_out k_pad k_values u v_this_size v_this_families v_this_atHand v_this_family v_this_density v_this_pads v_this_hasThermal v_this_titleSize v_this_written v_this_at v_this_begin v_this_words v_this_paste0 v_pad v_values))) A) args s 0 0 A) (F0 m 22 ls [.int t0]) := by
  obtain ⟨hx, hb, hr, hml, hown, hts, hlocks, hA⟩ := id C0
  intro t0 H locs h hP hD hS ls hl
  unfold P_M_paste_22 at h
  refine lv_istore_n (lv' := [(3, .int t0), (0, .ref a_this), (1, .int p1), (2, .int p2)]) hx hb dM_paste_22 rfl hl (by decide) rfl (fun ls hl => ?_)
  refine lv_aload_n hx hb dM_paste_23 rfl (lv_at hl 1 rfl) ?_
  refine lv_aload_n hx hb dM_paste_24 rfl (lv_at hl 1 rfl) ?_
  refine lv_iload_n hx hb dM_paste_25 rfl (lv_at hl 0 rfl) ?_
  refine zcall_i hP hD hS hA [0] [1, 2] (va_runV (As := [.int t0]) (rest := [.ref a_this]) ⟨hx, hb, hml, hown, hts⟩ (c_M_refusal l dC dI ad a_this a_units a_kinds a_values a_names a_low a_high a_told a_leftOut a_isMade a_hands a_pad a_court a_title a_out _ t0 v_this_thrown v_this_size v_this_families v_this_atHand v_this_family v_this_density v_this_pads v_this_hasThermal v_this_titleSize v_this_written v_this_at v_this_begin v_this_words v_this_paste0 _ h) ⟨callB_of 1 hts (zgood zc_M_refusal) rfl rfl rfl (hts _ zw_107) (hts _ zw_1280) (by decide +kernel) ⟨Nat.le_of_ble_eq_true rfl, Nat.le_of_ble_eq_true rfl⟩, (hts _ zw_1282), (hts _ zw_89)⟩ (zpreV hE hK hP hD hS hA [0] [] (by rfl) (by rfl) (by decide) (ci := 10) (q0 := 0) rfl (by rfl)) rfl rfl hl.1 rfl (lv_room (Nat.le_of_ble_eq_true rfl)) dM_paste_26 ⟨Nat.le_of_ble_eq_true rfl, Nat.le_of_ble_eq_true rfl⟩) (by rfl) (by rfl) (by decide) (by decide) (fun r1 u H locs h hP hD hS => ?_)
  try dsimp only at h
  have hP := hP.sub (ws' := (w_M_paste ad a_this a_units a_kinds a_values a_names a_low a_high a_told a_leftOut a_isMade a_hands a_pad a_court a_title a_out k_pad k_values v_this_thrown v_this_size v_this_families v_this_atHand v_this_family v_this_density v_this_pads v_this_hasThermal v_this_titleSize v_this_written v_this_at v_this_begin v_this_words v_this_paste0 v_pad v_values)) [2, 0, 1] rfl
  have hD := hD.sub (ws' := (w_M_paste ad a_this a_units a_kinds a_values a_names a_low a_high a_told a_leftOut a_isMade a_hands a_pad a_court a_title a_out k_pad k_values v_this_thrown v_this_size v_this_families v_this_atHand v_this_family v_this_density v_this_pads v_this_hasThermal v_this_titleSize v_this_written v_this_at v_this_begin v_this_words v_this_paste0 v_pad v_values)) [2, 0, 1] (by decide) rfl
  refine va_put (D := (dC, dI)) (ci := 10) (v := .int r1) (ty := .int) (C := RM) (T := TM) (N := 28) hx hb hts inZ_M tyM tyM_ok nmM hown hK hP hD hS 0 rfl rfl 0 (by decide) (hts _ zw_1044) (fun _ h9 => h9) rfl (by decide +kernel) rfl rfl (Nat.le_of_ble_eq_true rfl) dM_paste_29 (fun H locs hP hD hS => ?_)
  have hP : va_P (dC, dI) vwCl (w_M_paste ad a_this a_units a_kinds a_values a_names a_low a_high a_told a_leftOut a_isMade a_hands a_pad a_court a_title a_out k_pad k_values r1 v_this_size v_this_families v_this_atHand v_this_family v_this_density v_this_pads v_this_hasThermal v_this_titleSize v_this_written v_this_at v_this_begin v_this_words v_this_paste0 v_pad v_values) H := hP
  have hD : va_D A (w_M_paste ad a_this a_units a_kinds a_values a_names a_low a_high a_told a_leftOut a_isMade a_hands a_pad a_court a_title a_out k_pad k_values r1 v_this_size v_this_families v_this_atHand v_this_family v_this_density v_this_pads v_this_hasThermal v_this_titleSize v_this_written v_this_at v_this_begin v_this_words v_this_paste0 v_pad v_values) := hD
  refine lv_aload_n hx hb dM_paste_32 rfl (lv_at hl 1 rfl) ?_
  refine va_get (D := (dC, dI)) (ci := 10) (v := .int r1) (C := RM) (T := TM) (N := 28) hx hb hts inZ_M hown hK hP 0 rfl rfl 0 (by decide) (hts _ zw_1044) (fun _ h9 => h9) rfl dM_paste_33 ?_
  refine lv_if_eq (tgt := 41) hx hb dM_paste_36 (by decide) ?_ ?_
  · intro c2
    replace h := h.1 c2
    refine lv_aload_n hx hb dM_paste_41 rfl (lv_at hl 1 rfl) ?_
    refine lv_iload_n hx hb dM_paste_42 rfl (lv_at hl 2 rfl) ?_
    refine lv_iconst (v := 0) hx hb dM_paste_43 (by decide) ?_
    refine zcall_l hP hD hS hA [0, 1] [2] (va_runV (As := [.int p1, .int 0]) (rest := []) ⟨hx, hb, hml, hown, hts⟩ (c_M_left l dC dI ad a_this a_units a_kinds a_values a_names a_low a_high a_told a_leftOut a_isMade a_hands a_pad a_court a_title a_out k_pad _ p1 0 r1 v_this_size v_this_families v_this_atHand v_this_family v_this_density v_this_pads v_this_hasThermal v_this_titleSize v_this_written v_this_at v_this_begin v_this_words v_this_paste0 v_pad _ h) ⟨callB_of 2 hts (zgood zc_M_left) rfl rfl rfl (hts _ zw_107) (hts _ zw_1304) (by decide +kernel) ⟨Nat.le_of_ble_eq_true rfl, Nat.le_of_ble_eq_true rfl⟩, (hts _ zw_1306), (hts _ zw_90)⟩ (zpreV hE hK hP hD hS hA [0, 1] [0] (by rfl) (by rfl) (by decide) (ci := 10) (q0 := 0) rfl (by rfl)) rfl rfl hl.1 rfl (lv_room (Nat.le_of_ble_eq_true rfl)) dM_paste_44 ⟨Nat.le_of_ble_eq_true rfl, Nat.le_of_ble_eq_true rfl⟩) (by rfl) (by rfl) (by decide) (by decide) (fun r3 u H locs h hP hD hS => ?_)
    try dsimp only at h
    have hP := hP.sub (ws' := (w_M_paste ad a_this a_units a_kinds a_values a_names a_low a_high a_told a_leftOut a_isMade a_hands a_pad a_court a_title a_out k_pad k_values r1 v_this_size v_this_families v_this_atHand v_this_family v_this_density v_this_pads v_this_hasThermal v_this_titleSize v_this_written v_this_at v_this_begin v_this_words v_this_paste0 v_pad v_values)) [1, 2, 0] rfl
    have hD := hD.sub (ws' := (w_M_paste ad a_this a_units a_kinds a_values a_names a_low a_high a_told a_leftOut a_isMade a_hands a_pad a_court a_title a_out k_pad k_values r1 v_this_size v_this_families v_this_atHand v_this_family v_this_density v_this_pads v_this_hasThermal v_this_titleSize v_this_written v_this_at v_this_begin v_this_words v_this_paste0 v_pad v_values)) [1, 2, 0] (by decide) rfl
    refine lv_lstore (lv' := [(4, .long r3), (3, .int t0), (0, .ref a_this), (1, .int p1), (2, .int p2)]) hx hb dM_paste_47 hl (by decide) rfl (fun ls hl => ?_)
    refine lv_aload_n hx hb dM_paste_49 rfl (lv_at hl 2 rfl) ?_
    refine lv_iload_n hx hb dM_paste_50 rfl (lv_at hl 3 rfl) ?_
    refine lv_iconst (v := 1) hx hb dM_paste_51 (by decide) ?_
    refine zcall_l hP hD hS hA [0, 1] [2] (va_runV (As := [.int p1, .int 1]) (rest := []) ⟨hx, hb, hml, hown, hts⟩ (c_M_left l dC dI ad a_this a_units a_kinds a_values a_names a_low a_high a_told a_leftOut a_isMade a_hands a_pad a_court a_title a_out k_pad _ p1 1 r1 v_this_size v_this_families v_this_atHand v_this_family v_this_density v_this_pads v_this_hasThermal v_this_titleSize v_this_written v_this_at v_this_begin v_this_words v_this_paste0 v_pad _ h) ⟨callB_of 2 hts (zgood zc_M_left) rfl rfl rfl (hts _ zw_107) (hts _ zw_1304) (by decide +kernel) ⟨Nat.le_of_ble_eq_true rfl, Nat.le_of_ble_eq_true rfl⟩, (hts _ zw_1306), (hts _ zw_90)⟩ (zpreV hE hK hP hD hS hA [0, 1] [0] (by rfl) (by rfl) (by decide) (ci := 10) (q0 := 0) rfl (by rfl)) rfl rfl hl.1 rfl (lv_room (Nat.le_of_ble_eq_true rfl)) dM_paste_52 ⟨Nat.le_of_ble_eq_true rfl, Nat.le_of_ble_eq_true rfl⟩) (by rfl) (by rfl) (by decide) (by decide) (fun r4 u H locs h hP hD hS => ?_)
    try dsimp only at h
    have hP := hP.sub (ws' := (w_M_paste ad a_this a_units a_kinds a_values a_names a_low a_high a_told a_leftOut a_isMade a_hands a_pad a_court a_title a_out k_pad k_values r1 v_this_size v_this_families v_this_atHand v_this_family v_this_density v_this_pads v_this_hasThermal v_this_titleSize v_this_written v_this_at v_this_begin v_this_words v_this_paste0 v_pad v_values)) [1, 2, 0] rfl
    have hD := hD.sub (ws' := (w_M_paste ad a_this a_units a_kinds a_values a_names a_low a_high a_told a_leftOut a_isMade a_hands a_pad a_court a_title a_out k_pad k_values r1 v_this_size v_this_families v_this_atHand v_this_family v_this_density v_this_pads v_this_hasThermal v_this_titleSize v_this_written v_this_at v_this_begin v_this_words v_this_paste0 v_pad v_values)) [1, 2, 0] (by decide) rfl
    refine lv_lstore (lv' := [(6, .long r4), (4, .long r3), (3, .int t0), (0, .ref a_this), (1, .int p1), (2, .int p2)]) hx hb dM_paste_55 hl (by decide) rfl (fun ls hl => ?_)
    refine lv_aload_n hx hb dM_paste_57 rfl (lv_at hl 3 rfl) ?_
    refine lv_iload_n hx hb dM_paste_58 rfl (lv_at hl 4 rfl) ?_
    refine lv_lload hx hb dM_paste_59 (lv_at hl 1 rfl) ?_
    refine zcall_l hP hD hS hA [0, 2, 1] [] (va_runV (As := [.int p1, .long r3]) (rest := []) ⟨hx, hb, hml, hown, hts⟩ (c_M_columns l dC dI ad a_this a_units a_kinds a_values a_names a_low a_high a_told a_leftOut a_isMade a_hands a_pad a_court a_title a_out k_values k_pad _ p1 r3 r1 v_this_size v_this_families v_this_atHand v_this_family v_this_density v_this_pads v_this_hasThermal v_this_titleSize v_this_written v_this_at v_this_begin v_this_words v_this_paste0 v_values v_pad _ h) ⟨callB_of 2 hts (zgood zc_M_columns) rfl rfl rfl (hts _ zw_107) (hts _ zw_1308) (by decide +kernel) ⟨Nat.le_of_ble_eq_true rfl, Nat.le_of_ble_eq_true rfl⟩, (hts _ zw_1310), (hts _ zw_91)⟩ (zpreV hE hK hP hD hS hA [0, 2, 1] [1, 0] (by rfl) (by rfl) (by decide) (ci := 10) (q0 := 0) rfl (by rfl)) rfl rfl hl.1 rfl (lv_room (Nat.le_of_ble_eq_true rfl)) dM_paste_61 ⟨Nat.le_of_ble_eq_true rfl, Nat.le_of_ble_eq_true rfl⟩) (by rfl) (by rfl) (by decide) (by decide) (fun r5 u H locs h hP hD hS => ?_)
    try dsimp only at h
    have hP := hP.sub (ws' := (w_M_paste ad a_this a_units a_kinds a_values a_names a_low a_high a_told a_leftOut a_isMade a_hands a_pad a_court a_title a_out k_pad k_values r1 v_this_size v_this_families v_this_atHand v_this_family v_this_density v_this_pads v_this_hasThermal v_this_titleSize v_this_written v_this_at v_this_begin v_this_words v_this_paste0 v_pad v_values)) [0, 2, 1] rfl
    have hD := hD.sub (ws' := (w_M_paste ad a_this a_units a_kinds a_values a_names a_low a_high a_told a_leftOut a_isMade a_hands a_pad a_court a_title a_out k_pad k_values r1 v_this_size v_this_families v_this_atHand v_this_family v_this_density v_this_pads v_this_hasThermal v_this_titleSize v_this_written v_this_at v_this_begin v_this_words v_this_paste0 v_pad v_values)) [0, 2, 1] (by decide) rfl
    refine lv_lstore (lv' := [(8, .long r5), (6, .long r4), (4, .long r3), (3, .int t0), (0, .ref a_this), (1, .int p1), (2, .int p2)]) hx hb dM_paste_64 hl (by decide) rfl (fun ls hl => ?_)
    refine lv_aload_n hx hb dM_paste_66 rfl (lv_at hl 4 rfl) ?_
    refine lv_iload_n hx hb dM_paste_67 rfl (lv_at hl 5 rfl) ?_
    refine lv_lload hx hb dM_paste_68 (lv_at hl 1 rfl) ?_
    refine zcall_l hP hD hS hA [0, 2, 1] [] (va_runV (As := [.int p1, .long r4]) (rest := []) ⟨hx, hb, hml, hown, hts⟩ (c_M_columns l dC dI ad a_this a_units a_kinds a_values a_names a_low a_high a_told a_leftOut a_isMade a_hands a_pad a_court a_title a_out k_values k_pad _ p1 r4 r1 v_this_size v_this_families v_this_atHand v_this_family v_this_density v_this_pads v_this_hasThermal v_this_titleSize v_this_written v_this_at v_this_begin v_this_words v_this_paste0 v_values v_pad _ h) ⟨callB_of 2 hts (zgood zc_M_columns) rfl rfl rfl (hts _ zw_107) (hts _ zw_1308) (by decide +kernel) ⟨Nat.le_of_ble_eq_true rfl, Nat.le_of_ble_eq_true rfl⟩, (hts _ zw_1310), (hts _ zw_91)⟩ (zpreV hE hK hP hD hS hA [0, 2, 1] [1, 0] (by rfl) (by rfl) (by decide) (ci := 10) (q0 := 0) rfl (by rfl)) rfl rfl hl.1 rfl (lv_room (Nat.le_of_ble_eq_true rfl)) dM_paste_70 ⟨Nat.le_of_ble_eq_true rfl, Nat.le_of_ble_eq_true rfl⟩) (by rfl) (by rfl) (by decide) (by decide) (fun r6 u H locs h hP hD hS => ?_)
    try dsimp only at h
    have hP := hP.sub (ws' := (w_M_paste ad a_this a_units a_kinds a_values a_names a_low a_high a_told a_leftOut a_isMade a_hands a_pad a_court a_title a_out k_pad k_values r1 v_this_size v_this_families v_this_atHand v_this_family v_this_density v_this_pads v_this_hasThermal v_this_titleSize v_this_written v_this_at v_this_begin v_this_words v_this_paste0 v_pad v_values)) [0, 2, 1] rfl
    have hD := hD.sub (ws' := (w_M_paste ad a_this a_units a_kinds a_values a_names a_low a_high a_told a_leftOut a_isMade a_hands a_pad a_court a_title a_out k_pad k_values r1 v_this_size v_this_families v_this_atHand v_this_family v_this_density v_this_pads v_this_hasThermal v_this_titleSize v_this_written v_this_at v_this_begin v_this_words v_this_paste0 v_pad v_values)) [0, 2, 1] (by decide) rfl
    refine lv_lstore (lv' := [(10, .long r6), (8, .long r5), (6, .long r4), (4, .long r3), (3, .int t0), (0, .ref a_this), (1, .int p1), (2, .int p2)]) hx hb dM_paste_73 hl (by decide) rfl (fun ls hl => ?_)
    refine lv_lload hx hb dM_paste_75 (lv_at hl 1 rfl) ?_
    refine lv_lload hx hb dM_paste_77 (lv_at hl 0 rfl) ?_
    refine lv_lmul hx hb dM_paste_79 ?_
    refine lv_topl (fun x7 ex7 => ?_)
    replace h := h x7 ex7
    refine lv_lstore (lv' := [(12, .long x7), (10, .long r6), (8, .long r5), (6, .long r4), (4, .long r3), (3, .int t0), (0, .ref a_this), (1, .int p1), (2, .int p2)]) hx hb dM_paste_80 hl (by decide) rfl (fun ls hl => ?_)
    refine lv_iload_n hx hb dM_paste_82 rfl (lv_at hl 8 rfl) ?_
    refine lv_iconst (v := (-1)) hx hb dM_paste_83 (by decide) ?_
    refine lv_icmp_ne (tgt := 91) hx hb dM_paste_84 (by decide) ?_ ?_
    · intro c8
      replace h := h.1 c8
      refine lv_iload_n hx hb dM_paste_91 rfl (lv_at hl 8 rfl) ?_
      refine lv_iconst (v := 4) hx hb dM_paste_92 (by decide) ?_
      refine lv_idiv hx hb dM_paste_93 (by decide) ?_
      refine lv_i2l hx hb dM_paste_94 rfl ?_
      refine lv_topl (fun x9 ex9 => ?_)
      replace h := h x9 ex9
      refine lv_lstore (lv' := [(14, .long x9), (12, .long x7), (10, .long r6), (8, .long r5), (6, .long r4), (4, .long r3), (3, .int t0), (0, .ref a_this), (1, .int p1), (2, .int p2)]) hx hb dM_paste_95 hl (by decide) rfl (fun ls hl => ?_)
      refine lv_aload_n hx hb dM_paste_97 rfl (lv_at hl 7 rfl) ?_
      refine lv_lload hx hb dM_paste_98 (lv_at hl 0 rfl) ?_
      refine lv_lload hx hb dM_paste_100 (lv_at hl 1 rfl) ?_
      refine zz_lcmp_ge (tgt := 110) hx hb dM_paste_102 dM_paste_103 (by decide) ?_ ?_
      · intro c10
        replace h := h.1 c10
        refine lv_iconst (v := 2) hx hb dM_paste_110 (by decide) ?_
        exact w_M_paste_111 l C0 hE a_this a_units a_kinds a_values a_names a_low a_high a_told a_leftOut a_isMade a_hands a_pad a_court a_title a_out k_pad k_values p1 p2 v_this_thrown v_this_size v_this_families v_this_atHand v_this_family v_this_density v_this_pads v_this_hasThermal v_this_titleSize v_this_written v_this_at v_this_begin v_this_words v_this_paste0 v_pad v_values post hK r3 r4 r5 r6 x9 2 r1 _ _ h hP hD hS ls (lv_sub hl [7, 8, 9, 5, 4, 3, 2, 0] rfl)
      · intro c10
        replace h := h.2 c10
        refine lv_iconst (v := 0) hx hb dM_paste_106 (by decide) ?_
        refine lv_goto (tgt := 111) hx hb dM_paste_107 (by decide) ?_
        exact w_M_paste_111 l C0 hE a_this a_units a_kinds a_values a_names a_low a_high a_told a_leftOut a_isMade a_hands a_pad a_court a_title a_out k_pad k_values p1 p2 v_this_thrown v_this_size v_this_families v_this_atHand v_this_family v_this_density v_this_pads v_this_hasThermal v_this_titleSize v_this_written v_this_at v_this_begin v_this_words v_this_paste0 v_pad v_values post hK r3 r4 r5 r6 x9 0 r1 _ _ h hP hD hS ls (lv_sub hl [7, 8, 9, 5, 4, 3, 2, 0] rfl)
    · intro c8
      replace h := h.2 c8
      refine lv_lload hx hb dM_paste_87 (lv_at hl 0 rfl) ?_
      refine lv_l2i hx hb dM_paste_89 rfl ?_
      exact W.iret (v := x7.toInt32) hx hb hr (fun t ht hW => ⟨⟨x7.toInt32, r1, rfl, h, by rw [ht]; exact hP, hD⟩, hS.F ht⟩) hS.2.2 dM_paste_90
  · intro c2
    replace h := h.2 c2
    refine lv_iconst (v := 0) hx hb dM_paste_39 (by decide) ?_
    exact W.iret (v := 0) hx hb hr (fun t ht hW => ⟨⟨0, r1, rfl, h, by rw [ht]; exact hP, hD⟩, hS.F ht⟩) hS.2.2 dM_paste_40
def P_M_paste_21 (p1 : Int32) (p2 : Int32) (v_this_atHand : Int32) (v_this_family : Int32) (v_this_density : Int32) (v_this_paste0 : Int64) (v_pad : Nat → Int64) (v_values : Nat → Int64) (post : Int32 → Int32 → Prop)  : Prop := P_M_paste_22 p1 p2 v_this_atHand v_this_family v_this_density v_this_paste0 v_pad v_values post 0
set_option maxHeartbeats 4000000 in
set_option maxRecDepth 100000 in
theorem w_M_paste_21 (l : Launch) {p : Program} {e : Env} {s : State} {m : MethodId} {args : Array Value} {below : List Frame} {meth : Method} {c : Code} {dC : Nat → ClassId} {dI : Nat → Nat → Nat} {ad : Nat → Nat → Nat} {A : Nat → Prop} (C0 : zC p s m args meth c cM_paste 16 RM zT (some .int) A) (hE : zE ad A s) (a_this : Nat) (a_units : Nat) (a_kinds : Nat) (a_values : Nat) (a_names : Nat) (a_low : Nat) (a_high : Nat) (a_told : Nat) (a_leftOut : Nat) (a_isMade : Nat) (a_hands : Nat) (a_pad : Nat) (a_court : Nat) (a_title : Nat) (a_out : Nat) (k_pad : ClassId) (k_values : ClassId) (p1 : Int32) (p2 : Int32) (v_this_thrown : Int32) (v_this_size : Int32) (v_this_families : Int32) (v_this_atHand : Int32) (v_this_family : Int32) (v_this_density : Int32) (v_this_pads : Int32) (v_this_hasThermal : Int32) (v_this_titleSize : Int32) (v_this_written : Int32) (v_this_at : Int32) (v_this_begin : Int32) (v_this_words : Int32) (v_this_paste0 : Int64) (v_pad : Nat → Int64) (v_values : Nat → Int64) (post : Int32 → Int32 → Prop) (hK : va_K (dC, dI) vwCl [(k_pad, .long), (k_values, .long)] s) : ∀  (H : Heap) (locs : List Loc), P_M_paste_21 p1 p2 v_this_atHand v_this_family v_this_density v_this_paste0 v_pad v_values post → va_P (dC, dI) vwCl (w_M_paste ad a_this a_units a_kinds a_values a_names a_low a_high a_told a_leftOut a_isMade a_hands a_pad a_court a_title a_out k_pad k_values v_this_thrown v_this_size v_this_families v_this_atHand v_this_family v_this_density v_this_pads v_this_hasThermal v_this_titleSize v_this_written v_this_at v_this_begin v_this_words v_this_paste0 v_pad v_values) H → va_D A (w_M_paste ad a_this a_units a_kinds a_values a_names a_low a_high a_told a_leftOut a_isMade a_hands a_pad a_court a_title a_out k_pad k_values v_this_thrown v_this_size v_this_families v_this_atHand v_this_family v_this_density v_this_pads v_this_hasThermal v_this_titleSize v_this_written v_this_at v_this_begin v_this_words v_this_paste0 v_pad v_values) → va_S A s.heap H locs → ∀ ls : Array Slot, lv_has ls 16 [(0, .ref a_this), (1, .int p1), (2, .int p2)] → W p l e (headSpec wsM_paste { frames := 3, cells := 0, slots := 0, locals := 79 }).room s m args below meth c H locs 0 0 (MQ below (va_Qi (fun (r : Int32) (u : Int32) => post r u) (zB (dC, dI) A (fun (u : Int32) => (w_M_paste ad a_this a_units a_kinds a_values a_names a_low a_high a_told a_leftOut a_isMade a_hands a_pad a_court a_title a_out k_pad k_values u v_this_size v_this_families v_this_atHand v_this_family v_this_density v_this_pads v_this_hasThermal v_this_titleSize v_this_written v_this_at v_this_begin v_this_words v_this_paste0 v_pad v_values))) A) args s 0 0 A) (F0 m 21 ls []) := by
  obtain ⟨hx, hb, hr, hml, hown, hts, hlocks, hA⟩ := id C0
  intro  H locs h hP hD hS ls hl
  unfold P_M_paste_21 at h
  refine lv_iconst (v := 0) hx hb dM_paste_21 (by decide) ?_
  exact w_M_paste_22 l C0 hE a_this a_units a_kinds a_values a_names a_low a_high a_told a_leftOut a_isMade a_hands a_pad a_court a_title a_out k_pad k_values p1 p2 v_this_thrown v_this_size v_this_families v_this_atHand v_this_family v_this_density v_this_pads v_this_hasThermal v_this_titleSize v_this_written v_this_at v_this_begin v_this_words v_this_paste0 v_pad v_values post hK 0 _ _ h hP hD hS ls (lv_sub hl [0, 1, 2] rfl)
def P_M_paste (p1 : Int32) (p2 : Int32) (v_this_atHand : Int32) (v_this_family : Int32) (v_this_density : Int32) (v_this_pads : Int32) (v_this_paste0 : Int64) (v_pad : Nat → Int64) (v_values : Nat → Int64) (post : Int32 → Int32 → Prop) : Prop := ((p1 < 0 → P_M_paste_21 p1 p2 v_this_atHand v_this_family v_this_density v_this_paste0 v_pad v_values post) ∧ (¬ p1 < 0 → ((v_this_pads ≤ p1 → P_M_paste_21 p1 p2 v_this_atHand v_this_family v_this_density v_this_paste0 v_pad v_values post) ∧ (¬ v_this_pads ≤ p1 → ((p2 < (-1) → P_M_paste_21 p1 p2 v_this_atHand v_this_family v_this_density v_this_paste0 v_pad v_values post) ∧ (¬ p2 < (-1) → P_M_paste_22 p1 p2 v_this_atHand v_this_family v_this_density v_this_paste0 v_pad v_values post 1))))))
set_option maxHeartbeats 4000000 in
set_option maxRecDepth 100000 in
theorem c_M_paste (l : Launch) (dC : Nat → ClassId) (dI : Nat → Nat → Nat) (ad : Nat → Nat → Nat) (a_this : Nat) (a_units : Nat) (a_kinds : Nat) (a_values : Nat) (a_names : Nat) (a_low : Nat) (a_high : Nat) (a_told : Nat) (a_leftOut : Nat) (a_isMade : Nat) (a_hands : Nat) (a_pad : Nat) (a_court : Nat) (a_title : Nat) (a_out : Nat) (k_pad : ClassId) (k_values : ClassId) (sz : Nat) (p1 : Int32) (p2 : Int32) (v_this_thrown : Int32) (v_this_size : Int32) (v_this_families : Int32) (v_this_atHand : Int32) (v_this_family : Int32) (v_this_density : Int32) (v_this_pads : Int32) (v_this_hasThermal : Int32) (v_this_titleSize : Int32) (v_this_written : Int32) (v_this_at : Int32) (v_this_begin : Int32) (v_this_words : Int32) (v_this_paste0 : Int64) (v_pad : Nat → Int64) (v_values : Nat → Int64) (post : Int32 → Int32 → Prop) (h : P_M_paste p1 p2 v_this_atHand v_this_family v_this_density v_this_pads v_this_paste0 v_pad v_values post) : zMi l yM_paste wsM_paste { frames := 3, cells := 0, slots := 0, locals := 79 } (dC, dI) ad [.ref a_this, .int p1, .int p2] (w_M_paste ad a_this a_units a_kinds a_values a_names a_low a_high a_told a_leftOut a_isMade a_hands a_pad a_court a_title a_out k_pad k_values v_this_thrown v_this_size v_this_families v_this_atHand v_this_family v_this_density v_this_pads v_this_hasThermal v_this_titleSize v_this_written v_this_at v_this_begin v_this_words v_this_paste0 v_pad v_values) [(k_pad, .long), (k_values, .long)] sz (fun (r : Int32) (u : Int32) => post r u) (fun (u : Int32) => (w_M_paste ad a_this a_units a_kinds a_values a_names a_low a_high a_told a_leftOut a_isMade a_hands a_pad a_court a_title a_out k_pad k_values u v_this_size v_this_families v_this_atHand v_this_family v_this_density v_this_pads v_this_hasThermal v_this_titleSize v_this_written v_this_at v_this_begin v_this_words v_this_paste0 v_pad v_values)) 0 0 := by
  refine Met.ofW (cc := cM_paste) (maxL := 16) (ret := (some .int)) (by decide +kernel) rfl ?_
  intro p e s m args below meth c s₁ B hml hv
  obtain ⟨rfl, hsz, hP, hK, hD0, hE⟩ := hv
  have hx := B.exec
  have hb := B.bytes
  have hr := B.returns
  have hts0 := atoms_spec (ws := wsM_paste) B.pre
  have hts := fun w h => hts0 w (List.mem_cons_of_mem _ h)
  have hown : s.vm.findClass RM = some m.cls := findClass_of_methodNamed B.named
  have hlocks := B.notSynchronized
  subst hsz
  have hD := hD0.self (sz := s.heap.size)
  generalize hAe : va_A (w_M_paste ad a_this a_units a_kinds a_values a_names a_low a_high a_told a_leftOut a_isMade a_hands a_pad a_court a_title a_out k_pad k_values v_this_thrown v_this_size v_this_families v_this_atHand v_this_family v_this_density v_this_pads v_this_hasThermal v_this_titleSize v_this_written v_this_at v_this_begin v_this_words v_this_paste0 v_pad v_values) s.heap.size = A at hD hE ⊢
  have hA : ∀ q : Nat, s.heap.size ≤ q → A q := fun q h => by rw [← hAe]; exact Or.inr h
  have C0 := zC.mk hx hb hr hml hown hts hlocks hA
  have hS : va_S A s.heap s.heap [] := va_S.rf
  have hl := lv_entry ([.ref a_this, .int p1, .int p2]) (n := 16) (Nat.le_of_ble_eq_true rfl)
  rw [lg_entry_eq]
  generalize (lg_sl ([.ref a_this, .int p1, .int p2]) ++ List.replicate (16 - (lg_sl ([.ref a_this, .int p1, .int p2])).length) Slot.unset).toArray = ls at hl ⊢
  have hl : lv_has ls 16 [(0, .ref a_this), (1, .int p1), (2, .int p2)] := hl
  unfold P_M_paste at h
  refine lv_iload_n hx hb dM_paste_0 rfl (lv_at hl 1 rfl) ?_
  refine lv_if_lt (tgt := 21) hx hb dM_paste_1 (by decide) ?_ ?_
  · intro c1
    replace h := h.1 c1
    exact w_M_paste_21 l C0 hE a_this a_units a_kinds a_values a_names a_low a_high a_told a_leftOut a_isMade a_hands a_pad a_court a_title a_out k_pad k_values p1 p2 v_this_thrown v_this_size v_this_families v_this_atHand v_this_family v_this_density v_this_pads v_this_hasThermal v_this_titleSize v_this_written v_this_at v_this_begin v_this_words v_this_paste0 v_pad v_values post hK _ _ h hP hD hS ls (lv_sub hl [0, 1, 2] rfl)
  · intro c1
    replace h := h.2 c1
    refine lv_iload_n hx hb dM_paste_4 rfl (lv_at hl 1 rfl) ?_
    refine lv_aload_n hx hb dM_paste_5 rfl (lv_at hl 0 rfl) ?_
    refine va_get (D := (dC, dI)) (ci := 10) (v := .int v_this_pads) (C := RM) (T := TM) (N := 28) hx hb hts inZ_M hown hK hP 0 rfl rfl 16 (by decide) (hts _ zw_1060) (fun _ h9 => h9) rfl dM_paste_6 ?_
    refine lv_icmp_ge (tgt := 21) hx hb dM_paste_9 (by decide) ?_ ?_
    · intro c2
      replace h := h.1 c2
      exact w_M_paste_21 l C0 hE a_this a_units a_kinds a_values a_names a_low a_high a_told a_leftOut a_isMade a_hands a_pad a_court a_title a_out k_pad k_values p1 p2 v_this_thrown v_this_size v_this_families v_this_atHand v_this_family v_this_density v_this_pads v_this_hasThermal v_this_titleSize v_this_written v_this_at v_this_begin v_this_words v_this_paste0 v_pad v_values post hK _ _ h hP hD hS ls (lv_sub hl [0, 1, 2] rfl)
    · intro c2
      replace h := h.2 c2
      refine lv_iload_n hx hb dM_paste_12 rfl (lv_at hl 2 rfl) ?_
      refine lv_iconst (v := (-1)) hx hb dM_paste_13 (by decide) ?_
      refine lv_icmp_lt (tgt := 21) hx hb dM_paste_14 (by decide) ?_ ?_
      · intro c3
        replace h := h.1 c3
        exact w_M_paste_21 l C0 hE a_this a_units a_kinds a_values a_names a_low a_high a_told a_leftOut a_isMade a_hands a_pad a_court a_title a_out k_pad k_values p1 p2 v_this_thrown v_this_size v_this_families v_this_atHand v_this_family v_this_density v_this_pads v_this_hasThermal v_this_titleSize v_this_written v_this_at v_this_begin v_this_words v_this_paste0 v_pad v_values post hK _ _ h hP hD hS ls (lv_sub hl [0, 1, 2] rfl)
      · intro c3
        replace h := h.2 c3
        refine lv_iconst (v := 1) hx hb dM_paste_17 (by decide) ?_
        refine lv_goto (tgt := 22) hx hb dM_paste_18 (by decide) ?_
        exact w_M_paste_22 l C0 hE a_this a_units a_kinds a_values a_names a_low a_high a_told a_leftOut a_isMade a_hands a_pad a_court a_title a_out k_pad k_values p1 p2 v_this_thrown v_this_size v_this_families v_this_atHand v_this_family v_this_density v_this_pads v_this_hasThermal v_this_titleSize v_this_written v_this_at v_this_begin v_this_words v_this_paste0 v_pad v_values post hK 1 _ _ h hP hD hS ls (lv_sub hl [0, 1, 2] rfl)
