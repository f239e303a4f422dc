abbrev yM_wider : MethodName := ⟨"FootprintRulesModel", "wider", "(JJJJ)V"⟩
abbrev cM_wider : ByteArray := prog_14_method_30_code
abbrev wsM_wider : List Cond := .code yM_wider cM_wider 9 none :: zT
set_option maxRecDepth 100000 in
theorem zc_M_wider : Cond.code yM_wider cM_wider 9 none ∈ zT := zm 1258 (by rfl) (by rfl)
theorem dM_wider_0 : decode cM_wider 0 = .ok (.aload_n 0, 1) := by decide +kernel
theorem dM_wider_1 : decode cM_wider 1 = .ok (.getfield 45, 3) := by decide +kernel
theorem dM_wider_4 : decode cM_wider 4 = .ok (.iconst 0, 1) := by decide +kernel
theorem dM_wider_5 : decode cM_wider 5 = .ok (.lload_n 1, 1) := by decide +kernel
theorem dM_wider_6 : decode cM_wider 6 = .ok (.aload_n 0, 1) := by decide +kernel
theorem dM_wider_7 : decode cM_wider 7 = .ok (.getfield 45, 3) := by decide +kernel
theorem dM_wider_10 : decode cM_wider 10 = .ok (.iconst 0, 1) := by decide +kernel
theorem dM_wider_11 : decode cM_wider 11 = .ok (.laload, 1) := by decide +kernel
theorem dM_wider_12 : decode cM_wider 12 = .ok (.lcmp, 1) := by decide +kernel
theorem dM_wider_13 : decode cM_wider 13 = .ok (.ifCond .ge 7, 3) := by decide +kernel
theorem dM_wider_16 : decode cM_wider 16 = .ok (.lload_n 1, 1) := by decide +kernel
theorem dM_wider_17 : decode cM_wider 17 = .ok (.goto 9, 3) := by decide +kernel
theorem dM_wider_20 : decode cM_wider 20 = .ok (.aload_n 0, 1) := by decide +kernel
theorem dM_wider_21 : decode cM_wider 21 = .ok (.getfield 45, 3) := by decide +kernel
theorem dM_wider_24 : decode cM_wider 24 = .ok (.iconst 0, 1) := by decide +kernel
theorem dM_wider_25 : decode cM_wider 25 = .ok (.laload, 1) := by decide +kernel
theorem dM_wider_26 : decode cM_wider 26 = .ok (.lastore, 1) := by decide +kernel
theorem dM_wider_27 : decode cM_wider 27 = .ok (.aload_n 0, 1) := by decide +kernel
theorem dM_wider_28 : decode cM_wider 28 = .ok (.getfield 45, 3) := by decide +kernel
theorem dM_wider_31 : decode cM_wider 31 = .ok (.iconst 1, 1) := by decide +kernel
theorem dM_wider_32 : decode cM_wider 32 = .ok (.lload_n 3, 1) := by decide +kernel
theorem dM_wider_33 : decode cM_wider 33 = .ok (.aload_n 0, 1) := by decide +kernel
theorem dM_wider_34 : decode cM_wider 34 = .ok (.getfield 45, 3) := by decide +kernel
theorem dM_wider_37 : decode cM_wider 37 = .ok (.iconst 1, 1) := by decide +kernel
theorem dM_wider_38 : decode cM_wider 38 = .ok (.laload, 1) := by decide +kernel
theorem dM_wider_39 : decode cM_wider 39 = .ok (.lcmp, 1) := by decide +kernel
theorem dM_wider_40 : decode cM_wider 40 = .ok (.ifCond .ge 7, 3) := by decide +kernel
theorem dM_wider_43 : decode cM_wider 43 = .ok (.lload_n 3, 1) := by decide +kernel
theorem dM_wider_44 : decode cM_wider 44 = .ok (.goto 9, 3) := by decide +kernel
theorem dM_wider_47 : decode cM_wider 47 = .ok (.aload_n 0, 1) := by decide +kernel
theorem dM_wider_48 : decode cM_wider 48 = .ok (.getfield 45, 3) := by decide +kernel
theorem dM_wider_51 : decode cM_wider 51 = .ok (.iconst 1, 1) := by decide +kernel
theorem dM_wider_52 : decode cM_wider 52 = .ok (.laload, 1) := by decide +kernel
theorem dM_wider_53 : decode cM_wider 53 = .ok (.lastore, 1) := by decide +kernel
theorem dM_wider_54 : decode cM_wider 54 = .ok (.aload_n 0, 1) := by decide +kernel
theorem dM_wider_55 : decode cM_wider 55 = .ok (.getfield 45, 3) := by decide +kernel
theorem dM_wider_58 : decode cM_wider 58 = .ok (.iconst 2, 1) := by decide +kernel
theorem dM_wider_59 : decode cM_wider 59 = .ok (.lload 5, 2) := by decide +kernel
theorem dM_wider_61 : decode cM_wider 61 = .ok (.aload_n 0, 1) := by decide +kernel
theorem dM_wider_62 : decode cM_wider 62 = .ok (.getfield 45, 3) := by decide +kernel
theorem dM_wider_65 : decode cM_wider 65 = .ok (.iconst 2, 1) := by decide +kernel
theorem dM_wider_66 : decode cM_wider 66 = .ok (.laload, 1) := by decide +kernel
theorem dM_wider_67 : decode cM_wider 67 = .ok (.lcmp, 1) := by decide +kernel
theorem dM_wider_68 : decode cM_wider 68 = .ok (.ifCond .le 8, 3) := by decide +kernel
theorem dM_wider_71 : decode cM_wider 71 = .ok (.lload 5, 2) := by decide +kernel
theorem dM_wider_73 : decode cM_wider 73 = .ok (.goto 9, 3) := by decide +kernel
theorem dM_wider_76 : decode cM_wider 76 = .ok (.aload_n 0, 1) := by decide +kernel
theorem dM_wider_77 : decode cM_wider 77 = .ok (.getfield 45, 3) := by decide +kernel
theorem dM_wider_80 : decode cM_wider 80 = .ok (.iconst 2, 1) := by decide +kernel
theorem dM_wider_81 : decode cM_wider 81 = .ok (.laload, 1) := by decide +kernel
theorem dM_wider_82 : decode cM_wider 82 = .ok (.lastore, 1) := by decide +kernel
theorem dM_wider_83 : decode cM_wider 83 = .ok (.aload_n 0, 1) := by decide +kernel
theorem dM_wider_84 : decode cM_wider 84 = .ok (.getfield 45, 3) := by decide +kernel
theorem dM_wider_87 : decode cM_wider 87 = .ok (.iconst 3, 1) := by decide +kernel
theorem dM_wider_88 : decode cM_wider 88 = .ok (.lload 7, 2) := by decide +kernel
theorem dM_wider_90 : decode cM_wider 90 = .ok (.aload_n 0, 1) := by decide +kernel
theorem dM_wider_91 : decode cM_wider 91 = .ok (.getfield 45, 3) := by decide +kernel
theorem dM_wider_94 : decode cM_wider 94 = .ok (.iconst 3, 1) := by decide +kernel
theorem dM_wider_95 : decode cM_wider 95 = .ok (.laload, 1) := by decide +kernel
theorem dM_wider_96 : decode cM_wider 96 = .ok (.lcmp, 1) := by decide +kernel
theorem dM_wider_97 : decode cM_wider 97 = .ok (.ifCond .le 8, 3) := by decide +kernel
theorem dM_wider_100 : decode cM_wider 100 = .ok (.lload 7, 2) := by decide +kernel
theorem dM_wider_102 : decode cM_wider 102 = .ok (.goto 9, 3) := by decide +kernel
theorem dM_wider_105 : decode cM_wider 105 = .ok (.aload_n 0, 1) := by decide +kernel
theorem dM_wider_106 : decode cM_wider 106 = .ok (.getfield 45, 3) := by decide +kernel
theorem dM_wider_109 : decode cM_wider 109 = .ok (.iconst 3, 1) := by decide +kernel
theorem dM_wider_110 : decode cM_wider 110 = .ok (.laload, 1) := by decide +kernel
theorem dM_wider_111 : decode cM_wider 111 = .ok (.lastore, 1) := by decide +kernel
theorem dM_wider_112 : decode cM_wider 112 = .ok (.return_, 1) := by decide +kernel
-- FootprintRulesModel.wider(JJJJ)V
abbrev w_M_wider (ad : Nat → Nat → Nat) (a_this : Nat) (a_units : Nat) (a_kinds : Nat) (a_values : Nat) (a_names : Nat) (a_low : Nat) (a_high : Nat) (a_told : Nat) (a_leftOut : Nat) (a_isMade : Nat) (a_hands : Nat) (a_pad : Nat) (a_court : Nat) (a_title : Nat) (a_out : Nat) (k_court : ClassId) (v_this_thrown : Int32) (v_this_size : Int32) (v_this_families : Int32) (v_this_atHand : Int32) (v_this_family : Int32) (v_this_density : Int32) (v_this_pads : Int32) (v_this_hasThermal : Int32) (v_this_titleSize : Int32) (v_this_written : Int32) (v_this_at : Int32) (v_this_begin : Int32) (v_this_words : Int32) (v_this_paste0 : Int64) (v_court : Nat → Int64) : va_W := [(a_this, .inr (10, [.int v_this_thrown, .ref a_units, .int v_this_size, .int v_this_families, .ref a_kinds, .ref a_values, .ref a_names, .ref a_low, .ref a_high, .ref a_told, .ref a_leftOut, .ref a_isMade, .ref a_hands, .int v_this_atHand, .int v_this_family, .int v_this_density, .int v_this_pads, .ref a_pad, .ref a_court, .int v_this_hasThermal, .ref a_title, .int v_this_titleSize, .ref a_out, .int v_this_written, .int v_this_at, .int v_this_begin, .int v_this_words, .long v_this_paste0])), (a_court, .inl (k_court, 4, .inr (.inl v_court)))]
def P_M_wider_111  (post : (Nat → Int64) → Prop) (t0 : Int64) (t1 : Int32) (u_court : Nat → Int64) : Prop := vp_in t1 4 ∧ post (vp_updL u_court t1.toNatClampNeg t0)
set_option maxHeartbeats 4000000 in
set_option maxRecDepth 100000 in
theorem w_M_wider_111 (l : Launch) {p : Program} {e : Env} {s : State} {m : MethodId} {args : Array Value} {below : List Frame} {meth : Method} {c : Code} {dC : Nat → ClassId} {dI : Nat → Nat → Nat} {ad : Nat → Nat → Nat} {A : Nat → Prop} (C0 : zC p s m args meth c cM_wider 9 RM zT none A) (hE : zE ad A s) (a_this : Nat) (a_units : Nat) (a_kinds : Nat) (a_values : Nat) (a_names : Nat) (a_low : Nat) (a_high : Nat) (a_told : Nat) (a_leftOut : Nat) (a_isMade : Nat) (a_hands : Nat) (a_pad : Nat) (a_court : Nat) (a_title : Nat) (a_out : Nat) (k_court : ClassId) (p1 : Int64) (p3 : Int64) (p5 : Int64) (p7 : Int64) (v_this_thrown : Int32) (v_this_size : Int32) (v_this_families : Int32) (v_this_atHand : Int32) (v_this_family : Int32) (v_this_density : Int32) (v_this_pads : Int32) (v_this_hasThermal : Int32) (v_this_titleSize : Int32) (v_this_written : Int32) (v_this_at : Int32) (v_this_begin : Int32) (v_this_words : Int32) (v_this_paste0 : Int64) (v_court : Nat → Int64) (post : (Nat → Int64) → Prop) (hK : va_K (dC, dI) vwCl [(k_court, .long)] s) : ∀ (t0 : Int64) (t1 : Int32) (u_court : Nat → Int64) (H : Heap) (locs : List Loc), P_M_wider_111 post t0 t1 u_court → va_P (dC, dI) vwCl (w_M_wider ad a_this a_units a_kinds a_values a_names a_low a_high a_told a_leftOut a_isMade a_hands a_pad a_court a_title a_out k_court v_this_thrown v_this_size v_this_families v_this_atHand v_this_family v_this_density v_this_pads v_this_hasThermal v_this_titleSize v_this_written v_this_at v_this_begin v_this_words v_this_paste0 u_court) H → va_D A (w_M_wider ad a_this a_units a_kinds a_values a_names a_low a_high a_told a_leftOut a_isMade a_hands a_pad a_court a_title a_out k_court v_this_thrown v_this_size v_this_families v_this_atHand v_this_family v_this_density v_this_pads v_this_hasThermal v_this_titleSize v_this_written v_this_at v_this_begin v_this_words v_this_paste0 u_court) → va_S A s.heap H locs → ∀ ls : Array Slot, lv_has ls 9 [] → W p l e (headSpec wsM_wider { frames := 0, cells := 0, slots := 0, locals := 0 }).room s m args below meth c H locs 0 0 (MQ below (va_Qv (fun (u : (Nat → Int64)) => post u) (zB (dC, dI) A (fun (u : (Nat → Int64)) => (w_M_wider ad a_this a_units a_kinds a_values a_names a_low a_high a_told a_leftOut a_isMade a_hands a_pad a_court a_title a_out k_court v_this_thrown v_this_size v_this_families v_this_atHand v_this_family v_this_density v_this_pads v_this_hasThermal v_this_titleSize v_this_written v_this_at v_this_begin v_this_words v_this_paste0 u))) A) args s 0 0 A) (F0 m 111 ls [.long t0, .int t1, .ref a_court]) := by
  obtain ⟨hx, hb, hr, hml, hown, hts, hlocks, hA⟩ := id C0
  intro t0 t1 u_court H locs h hP hD hS ls hl
  unfold P_M_wider_111 at h
  obtain ⟨hn1, h⟩ := h
  refine va_last hx hb hK hP hD hS 1 0 rfl rfl hn1 dM_wider_111 (fun H locs hP hD hS => ?_)
  have hP : va_P (dC, dI) vwCl (w_M_wider ad a_this a_units a_kinds a_values a_names a_low a_high a_told a_leftOut a_isMade a_hands a_pad a_court a_title a_out k_court v_this_thrown v_this_size v_this_families v_this_atHand v_this_family v_this_density v_this_pads v_this_hasThermal v_this_titleSize v_this_written v_this_at v_this_begin v_this_words v_this_paste0 (vp_updL u_court t1.toNatClampNeg t0)) H := hP
  have hD : va_D A (w_M_wider ad a_this a_units a_kinds a_values a_names a_low a_high a_told a_leftOut a_isMade a_hands a_pad a_court a_title a_out k_court v_this_thrown v_this_size v_this_families v_this_atHand v_this_family v_this_density v_this_pads v_this_hasThermal v_this_titleSize v_this_written v_this_at v_this_begin v_this_words v_this_paste0 (vp_updL u_court t1.toNatClampNeg t0)) := hD
  exact W.vret hx hb hr (fun t ht hW => ⟨⟨(vp_updL u_court t1.toNatClampNeg t0), rfl, h, by rw [ht]; exact hP, hD⟩, hS.F ht⟩) hS.2.2 dM_wider_112
def P_M_wider_82 (p7 : Int64) (post : (Nat → Int64) → Prop) (t0 : Int64) (t1 : Int32) (u_court : Nat → Int64) : Prop := vp_in t1 4 ∧ vp_in 3 4 ∧ ((p7 ≤ ((vp_updL u_court t1.toNatClampNeg t0) (3 : Int32).toNatClampNeg) → vp_in 3 4 ∧ P_M_wider_111 post ((vp_updL u_court t1.toNatClampNeg t0) (3 : Int32).toNatClampNeg) 3 (vp_updL u_court t1.toNatClampNeg t0)) ∧ (¬ p7 ≤ ((vp_updL u_court t1.toNatClampNeg t0) (3 : Int32).toNatClampNeg) → P_M_wider_111 post p7 3 (vp_updL u_court t1.toNatClampNeg t0)))
set_option maxHeartbeats 4000000 in
set_option maxRecDepth 100000 in
theorem w_M_wider_82 (l : Launch) {p : Program} {e : Env} {s : State} {m : MethodId} {args : Array Value} {below : List Frame} {meth : Method} {c : Code} {dC : Nat → ClassId} {dI : Nat → Nat → Nat} {ad : Nat → Nat → Nat} {A : Nat → Prop} (C0 : zC p s m args meth c cM_wider 9 RM zT none A) (hE : zE ad A s) (a_this : Nat) (a_units : Nat) (a_kinds : Nat) (a_values : Nat) (a_names : Nat) (a_low : Nat) (a_high : Nat) (a_told : Nat) (a_leftOut : Nat) (a_isMade : Nat) (a_hands : Nat) (a_pad : Nat) (a_court : Nat) (a_title : Nat) (a_out : Nat) (k_court : ClassId) (p1 : Int64) (p3 : Int64) (p5 : Int64) (p7 : Int64) (v_this_thrown : Int32) (v_this_size : Int32) (v_this_families : Int32) (v_this_atHand : Int32) (v_this_family : Int32) (v_this_density : Int32) (v_this_pads : Int32) (v_this_hasThermal : Int32) (v_this_titleSize : Int32) (v_this_written : Int32) (v_this_at : Int32) (v_this_begin : Int32) (v_this_words : Int32) (v_this_paste0 : Int64) (v_court : Nat → Int64) (post : (Nat → Int64) → Prop) (hK : va_K (dC, dI) vwCl [(k_court, .long)] s) : ∀ (t0 : Int64) (t1 : Int32) (u_court : Nat → Int64) (H : Heap) (locs : List Loc), P_M_wider_82 p7 post t0 t1 u_court → va_P (dC, dI) vwCl (w_M_wider ad a_this a_units a_kinds a_values a_names a_low a_high a_told a_leftOut a_isMade a_hands a_pad a_court a_title a_out k_court v_this_thrown v_this_size v_this_families v_this_atHand v_this_family v_this_density v_this_pads v_this_hasThermal v_this_titleSize v_this_written v_this_at v_this_begin v_this_words v_this_paste0 u_court) H → va_D A (w_M_wider ad a_this a_units a_kinds a_values a_names a_low a_high a_told a_leftOut a_isMade a_hands a_pad a_court a_title a_out k_court v_this_thrown v_this_size v_this_families v_this_atHand v_this_family v_this_density v_this_pads v_this_hasThermal v_this_titleSize v_this_written v_this_at v_this_begin v_this_words v_this_paste0 u_court) → va_S A s.heap H locs → ∀ ls : Array Slot, lv_has ls 9 [(0, .ref a_this), (7, .long p7)] → W p l e (headSpec wsM_wider { frames := 0, cells := 0, slots := 0, locals := 0 }).room s m args below meth c H locs 0 0 (MQ below (va_Qv (fun (u : (Nat → Int64)) => post u) (zB (dC, dI) A (fun (u : (Nat → Int64)) => (w_M_wider ad a_this a_units a_kinds a_values a_names a_low a_high a_told a_leftOut a_isMade a_hands a_pad a_court a_title a_out k_court v_this_thrown v_this_size v_this_families v_this_atHand v_this_family v_this_density v_this_pads v_this_hasThermal v_this_titleSize v_this_written v_this_at v_this_begin v_this_words v_this_paste0 u))) A) args s 0 0 A) (F0 m 82 ls [.long t0, .int t1, .ref a_court]) := by
  obtain ⟨hx, hb, hr, hml, hown, hts, hlocks, hA⟩ := id C0
  intro t0 t1 u_court H locs h hP hD hS ls hl
  unfold P_M_wider_82 at h
  obtain ⟨hn1, h⟩ := h
  refine va_last hx hb hK hP hD hS 1 0 rfl rfl hn1 dM_wider_82 (fun H locs hP hD hS => ?_)
  have hP : va_P (dC, dI) vwCl (w_M_wider ad a_this a_units a_kinds a_values a_names a_low a_high a_told a_leftOut a_isMade a_hands a_pad a_court a_title a_out k_court v_this_thrown v_this_size v_this_families v_this_atHand v_this_family v_this_density v_this_pads v_this_hasThermal v_this_titleSize v_this_written v_this_at v_this_begin v_this_words v_this_paste0 (vp_updL u_court t1.toNatClampNeg t0)) H := hP
  have hD : va_D A (w_M_wider ad a_this a_units a_kinds a_values a_names a_low a_high a_told a_leftOut a_isMade a_hands a_pad a_court a_title a_out k_court v_this_thrown v_this_size v_this_families v_this_atHand v_this_family v_this_density v_this_pads v_this_hasThermal v_this_titleSize v_this_written v_this_at v_this_begin v_this_words v_this_paste0 (vp_updL u_court t1.toNatClampNeg t0)) := hD
  refine lv_aload_n hx hb dM_wider_83 rfl (lv_at hl 0 rfl) ?_
  refine va_get (D := (dC, dI)) (ci := 10) (v := .ref a_court) (C := RM) (T := TM) (N := 28) hx hb hts inZ_M hown hK hP 0 rfl rfl 18 (by decide) (hts _ zw_1062) (fun _ h9 => h9) rfl dM_wider_84 ?_
  refine lv_iconst (v := 3) hx hb dM_wider_87 (by decide) ?_
  refine lv_lload hx hb dM_wider_88 (lv_at hl 1 rfl) ?_
  refine lv_aload_n hx hb dM_wider_90 rfl (lv_at hl 0 rfl) ?_
  refine va_get (D := (dC, dI)) (ci := 10) (v := .ref a_court) (C := RM) (T := TM) (N := 28) hx hb hts inZ_M hown hK hP 0 rfl rfl 18 (by decide) (hts _ zw_1062) (fun _ h9 => h9) rfl dM_wider_91 ?_
  refine lv_iconst (v := 3) hx hb dM_wider_94 (by decide) ?_
  obtain ⟨hn2, h⟩ := h
  refine va_lald hx hb hK hP 1 0 rfl rfl hn2 dM_wider_95 ?_
  refine zz_lcmp_le (tgt := 105) hx hb dM_wider_96 dM_wider_97 (by decide) ?_ ?_
  · intro c3
    replace h := h.1 c3
    refine lv_aload_n hx hb dM_wider_105 rfl (lv_at hl 0 rfl) ?_
    refine va_get (D := (dC, dI)) (ci := 10) (v := .ref a_court) (C := RM) (T := TM) (N := 28) hx hb hts inZ_M hown hK hP 0 rfl rfl 18 (by decide) (hts _ zw_1062) (fun _ h9 => h9) rfl dM_wider_106 ?_
    refine lv_iconst (v := 3) hx hb dM_wider_109 (by decide) ?_
    obtain ⟨hn4, h⟩ := h
    refine va_lald hx hb hK hP 1 0 rfl rfl hn4 dM_wider_110 ?_
    exact w_M_wider_111 l C0 hE a_this a_units a_kinds a_values a_names a_low a_high a_told a_leftOut a_isMade a_hands a_pad a_court a_title a_out k_court p1 p3 p5 p7 v_this_thrown v_this_size v_this_families v_this_atHand v_this_family v_this_density v_this_pads v_this_hasThermal v_this_titleSize v_this_written v_this_at v_this_begin v_this_words v_this_paste0 v_court post hK ((vp_updL u_court t1.toNatClampNeg t0) (3 : Int32).toNatClampNeg) 3 (vp_updL u_court t1.toNatClampNeg t0) _ _ h hP hD hS ls (lv_sub hl [] rfl)
  · intro c3
    replace h := h.2 c3
    refine lv_lload hx hb dM_wider_100 (lv_at hl 1 rfl) ?_
    refine lv_goto (tgt := 111) hx hb dM_wider_102 (by decide) ?_
    exact w_M_wider_111 l C0 hE a_this a_units a_kinds a_values a_names a_low a_high a_told a_leftOut a_isMade a_hands a_pad a_court a_title a_out k_court p1 p3 p5 p7 v_this_thrown v_this_size v_this_families v_this_atHand v_this_family v_this_density v_this_pads v_this_hasThermal v_this_titleSize v_this_written v_this_at v_this_begin v_this_words v_this_paste0 v_court post hK p7 3 (vp_updL u_court t1.toNatClampNeg t0) _ _ h hP hD hS ls (lv_sub hl [] rfl)
def P_M_wider_53 (p5 : Int64) (p7 : Int64) (post : (Nat → Int64) → Prop) (t0 : Int64) (t1 : Int32) (u_court : Nat → Int64) : Prop := vp_in t1 4 ∧ vp_in 2 4 ∧ ((p5 ≤ ((vp_updL u_court t1.toNatClampNeg t0) (2 : Int32).toNatClampNeg) → vp_in 2 4 ∧ P_M_wider_82 p7 post ((vp_updL u_court t1.toNatClampNeg t0) (2 : Int32).toNatClampNeg) 2 (vp_updL u_court t1.toNatClampNeg t0)) ∧ (¬ p5 ≤ ((vp_updL u_court t1.toNatClampNeg t0) (2 : Int32).toNatClampNeg) → P_M_wider_82 p7 post p5 2 (vp_updL u_court t1.toNatClampNeg t0)))
set_option maxHeartbeats 4000000 in
set_option maxRecDepth 100000 in
theorem w_M_wider_53 (l : Launch) {p : Program} {e : Env} {s : State} {m : MethodId} {args : Array Value} {below : List Frame} {meth : Method} {c : Code} {dC : Nat → ClassId} {dI : Nat → Nat → Nat} {ad : Nat → Nat → Nat} {A : Nat → Prop} (C0 : zC p s m args meth c cM_wider 9 RM zT none A) (hE : zE ad A s) (a_this : Nat) (a_units : Nat) (a_kinds : Nat) (a_values : Nat) (a_names : Nat) (a_low : Nat) (a_high : Nat) (a_told : Nat) (a_leftOut : Nat) (a_isMade : Nat) (a_hands : Nat) (a_pad : Nat) (a_court : Nat) (a_title : Nat) (a_out : Nat) (k_court : ClassId) (p1 : Int64) (p3 : Int64) (p5 : Int64) (p7 : Int64) (v_this_thrown : Int32) (v_this_size : Int32) (v_this_families : Int32) (v_this_atHand : Int32) (v_this_family : Int32) (v_this_density : Int32) (v_this_pads : Int32) (v_this_hasThermal : Int32) (v_this_titleSize : Int32) (v_this_written : Int32) (v_this_at : Int32) (v_this_begin : Int32) (v_this_words : Int32) (v_this_paste0 : Int64) (v_court : Nat → Int64) (post : (Nat → Int64) → Prop) (hK : va_K (dC, dI) vwCl [(k_court, .long)] s) : ∀ (t0 : Int64) (t1 : Int32) (u_court : Nat → Int64) (H : Heap) (locs : List Loc), P_M_wider_53 p5 p7 post t0 t1 u_court → va_P (dC, dI) vwCl (w_M_wider ad a_this a_units a_kinds a_values a_names a_low a_high a_told a_leftOut a_isMade a_hands a_pad a_court a_title a_out k_court v_this_thrown v_this_size v_this_families v_this_atHand v_this_family v_this_density v_this_pads v_this_hasThermal v_this_titleSize v_this_written v_this_at v_this_begin v_this_words v_this_paste0 u_court) H → va_D A (w_M_wider ad a_this a_units a_kinds a_values a_names a_low a_high a_told a_leftOut a_isMade a_hands a_pad a_court a_title a_out k_court v_this_thrown v_this_size v_this_families v_this_atHand v_this_family v_this_density v_this_pads v_this_hasThermal v_this_titleSize v_this_written v_this_at v_this_begin v_this_words v_this_paste0 u_court) → va_S A s.heap H locs → ∀ ls : Array Slot, lv_has ls 9 [(0, .ref a_this), (5, .long p5), (7, .long p7)] → W p l e (headSpec wsM_wider { frames := 0, cells := 0, slots := 0, locals := 0 }).room s m args below meth c H locs 0 0 (MQ below (va_Qv (fun (u : (Nat → Int64)) => post u) (zB (dC, dI) A (fun (u : (Nat → Int64)) => (w_M_wider ad a_this a_units a_kinds a_values a_names a_low a_high a_told a_leftOut a_isMade a_hands a_pad a_court a_title a_out k_court v_this_thrown v_this_size v_this_families v_this_atHand v_this_family v_this_density v_this_pads v_this_hasThermal v_this_titleSize v_this_written v_this_at v_this_begin v_this_words v_this_paste0 u))) A) args s 0 0 A) (F0 m 53 ls [.long t0, .int t1, .ref a_court]) := by
  obtain ⟨hx, hb, hr, hml, hown, hts, hlocks, hA⟩ := id C0
  intro t0 t1 u_court H locs h hP hD hS ls hl
  unfold P_M_wider_53 at h
  obtain ⟨hn1, h⟩ := h
  refine va_last hx hb hK hP hD hS 1 0 rfl rfl hn1 dM_wider_53 (fun H locs hP hD hS => ?_)
  have hP : va_P (dC, dI) vwCl (w_M_wider ad a_this a_units a_kinds a_values a_names a_low a_high a_told a_leftOut a_isMade a_hands a_pad a_court a_title a_out k_court v_this_thrown v_this_size v_this_families v_this_atHand v_this_family v_this_density v_this_pads v_this_hasThermal v_this_titleSize v_this_written v_this_at v_this_begin v_this_words v_this_paste0 (vp_updL u_court t1.toNatClampNeg t0)) H := hP
  have hD : va_D A (w_M_wider ad a_this a_units a_kinds a_values a_names a_low a_high a_told a_leftOut a_isMade a_hands a_pad a_court a_title a_out k_court v_this_thrown v_this_size v_this_families v_this_atHand v_this_family v_this_density v_this_pads v_this_hasThermal v_this_titleSize v_this_written v_this_at v_this_begin v_this_words v_this_paste0 (vp_updL u_court t1.toNatClampNeg t0)) := hD
  refine lv_aload_n hx hb dM_wider_54 rfl (lv_at hl 0 rfl) ?_
  refine va_get (D := (dC, dI)) (ci := 10) (v := .ref a_court) (C := RM) (T := TM) (N := 28) hx hb hts inZ_M hown hK hP 0 rfl rfl 18 (by decide) (hts _ zw_1062) (fun _ h9 => h9) rfl dM_wider_55 ?_
  refine lv_iconst (v := 2) hx hb dM_wider_58 (by decide) ?_
  refine lv_lload hx hb dM_wider_59 (lv_at hl 1 rfl) ?_
  refine lv_aload_n hx hb dM_wider_61 rfl (lv_at hl 0 rfl) ?_
  refine va_get (D := (dC, dI)) (ci := 10) (v := .ref a_court) (C := RM) (T := TM) (N := 28) hx hb hts inZ_M hown hK hP 0 rfl rfl 18 (by decide) (hts _ zw_1062) (fun _ h9 => h9) rfl dM_wider_62 ?_
  refine lv_iconst (v := 2) hx hb dM_wider_65 (by decide) ?_
  obtain ⟨hn2, h⟩ := h
  refine va_lald hx hb hK hP 1 0 rfl rfl hn2 dM_wider_66 ?_
  refine zz_lcmp_le (tgt := 76) hx hb dM_wider_67 dM_wider_68 (by decide) ?_ ?_
  · intro c3
    replace h := h.1 c3
    refine lv_aload_n hx hb dM_wider_76 rfl (lv_at hl 0 rfl) ?_
    refine va_get (D := (dC, dI)) (ci := 10) (v := .ref a_court) (C := RM) (T := TM) (N := 28) hx hb hts inZ_M hown hK hP 0 rfl rfl 18 (by decide) (hts _ zw_1062) (fun _ h9 => h9) rfl dM_wider_77 ?_
    refine lv_iconst (v := 2) hx hb dM_wider_80 (by decide) ?_
    obtain ⟨hn4, h⟩ := h
    refine va_lald hx hb hK hP 1 0 rfl rfl hn4 dM_wider_81 ?_
    exact w_M_wider_82 l C0 hE a_this a_units a_kinds a_values a_names a_low a_high a_told a_leftOut a_isMade a_hands a_pad a_court a_title a_out k_court p1 p3 p5 p7 v_this_thrown v_this_size v_this_families v_this_atHand v_this_family v_this_density v_this_pads v_this_hasThermal v_this_titleSize v_this_written v_this_at v_this_begin v_this_words v_this_paste0 v_court post hK ((vp_updL u_court t1.toNatClampNeg t0) (2 : Int32).toNatClampNeg) 2 (vp_updL u_court t1.toNatClampNeg t0) _ _ h hP hD hS ls (lv_sub hl [0, 2] rfl)
  · intro c3
    replace h := h.2 c3
    refine lv_lload hx hb dM_wider_71 (lv_at hl 1 rfl) ?_
    refine lv_goto (tgt := 82) hx hb dM_wider_73 (by decide) ?_
    exact w_M_wider_82 l C0 hE a_this a_units a_kinds a_values a_names a_low a_high a_told a_leftOut a_isMade a_hands a_pad a_court a_title a_out k_court p1 p3 p5 p7 v_this_thrown v_this_size v_this_families v_this_atHand v_this_family v_this_density v_this_pads v_this_hasThermal v_this_titleSize v_this_written v_this_at v_this_begin v_this_words v_this_paste0 v_court post hK p5 2 (vp_updL u_court t1.toNatClampNeg t0) _ _ h hP hD hS ls (lv_sub hl [0, 2] rfl)
def P_M_wider_26 (p3 : Int64) (p5 : Int64) (p7 : Int64) (v_court : Nat → Int64) (post : (Nat → Int64) → Prop) (t0 : Int64) (t1 : Int32) : Prop := vp_in t1 4 ∧ vp_in 1 4 ∧ ((((vp_updL v_court t1.toNatClampNeg t0) (1 : Int32).toNatClampNeg) ≤ p3 → vp_in 1 4 ∧ P_M_wider_53 p5 p7 post ((vp_updL v_court t1.toNatClampNeg t0) (1 : Int32).toNatClampNeg) 1 (vp_updL v_court t1.toNatClampNeg t0)) ∧ (¬ ((vp_updL v_court t1.toNatClampNeg t0) (1 : Int32).toNatClampNeg) ≤ p3 → P_M_wider_53 p5 p7 post p3 1 (vp_updL v_court t1.toNatClampNeg t0)))
set_option maxHeartbeats 4000000 in
set_option maxRecDepth 100000 in
theorem w_M_wider_26 (l : Launch) {p : Program} {e : Env} {s : State} {m : MethodId} {args : Array Value} {below : List Frame} {meth : Method} {c : Code} {dC : Nat → ClassId} {dI : Nat → Nat → Nat} {ad : Nat → Nat → Nat} {A : Nat → Prop} (C0 : zC p s m args meth c cM_wider 9 RM zT none A) (hE : zE ad A s) (a_this : Nat) (a_units : Nat) (a_kinds : Nat) (a_values : Nat) (a_names : Nat) (a_low : Nat) (a_high : Nat) (a_told : Nat) (a_leftOut : Nat) (a_isMade : Nat) (a_hands : Nat) (a_pad : Nat) (a_court : Nat) (a_title : Nat) (a_out : Nat) (k_court : ClassId) (p1 : Int64) (p3 : Int64) (p5 : Int64) (p7 : Int64) (v_this_thrown : Int32) (v_this_size : Int32) (v_this_families : Int32) (v_this_atHand : Int32) (v_this_family : Int32) (v_this_density : Int32) (v_this_pads : Int32) (v_this_hasThermal : Int32) (v_this_titleSize : Int32) (v_this_written : Int32) (v_this_at : Int32) (v_this_begin : Int32) (v_this_words : Int32) (v_this_paste0 : Int64) (v_court : Nat → Int64) (post : (Nat → Int64) → Prop) (hK : va_K (dC, dI) vwCl [(k_court, .long)] s) : ∀ (t0 : Int64) (t1 : Int32) (H : Heap) (locs : List Loc), P_M_wider_26 p3 p5 p7 v_court post t0 t1 → va_P (dC, dI) vwCl (w_M_wider ad a_this a_units a_kinds a_values a_names a_low a_high a_told a_leftOut a_isMade a_hands a_pad a_court a_title a_out k_court v_this_thrown v_this_size v_this_families v_this_atHand v_this_family v_this_density v_this_pads v_this_hasThermal v_this_titleSize v_this_written v_this_at v_this_begin v_this_words v_this_paste0 v_court) H → va_D A (w_M_wider ad a_this a_units a_kinds a_values a_names a_low a_high a_told a_leftOut a_isMade a_hands a_pad a_court a_title a_out k_court v_this_thrown v_this_size v_this_families v_this_atHand v_this_family v_this_density v_this_pads v_this_hasThermal v_this_titleSize v_this_written v_this_at v_this_begin v_this_words v_this_paste0 v_court) → va_S A s.heap H locs → ∀ ls : Array Slot, lv_has ls 9 [(0, .ref a_this), (3, .long p3), (5, .long p5), (7, .long p7)] → W p l e (headSpec wsM_wider { frames := 0, cells := 0, slots := 0, locals := 0 }).room s m args below meth c H locs 0 0 (MQ below (va_Qv (fun (u : (Nat → Int64)) => post u) (zB (dC, dI) A (fun (u : (Nat → Int64)) => (w_M_wider ad a_this a_units a_kinds a_values a_names a_low a_high a_told a_leftOut a_isMade a_hands a_pad a_court a_title a_out k_court v_this_thrown v_this_size v_this_families v_this_atHand v_this_family v_this_density v_this_pads v_this_hasThermal v_this_titleSize v_this_written v_this_at v_this_begin v_this_words v_this_paste0 u))) A) args s 0 0 A) (F0 m 26 ls [.long t0, .int t1, .ref a_court]) := by
  obtain ⟨hx, hb, hr, hml, hown, hts, hlocks, hA⟩ := id C0
  intro t0 t1 H locs h hP hD hS ls hl
  unfold P_M_wider_26 at h
  obtain ⟨hn1, h⟩ := h
  refine va_last hx hb hK hP hD hS 1 0 rfl rfl hn1 dM_wider_26 (fun H locs hP hD hS => ?_)
  have hP : va_P (dC, dI) vwCl (w_M_wider ad a_this a_units a_kinds a_values a_names a_low a_high a_told a_leftOut a_isMade a_hands a_pad a_court a_title a_out k_court v_this_thrown v_this_size v_this_families v_this_atHand v_this_family v_this_density v_this_pads v_this_hasThermal v_this_titleSize v_this_written v_this_at v_this_begin v_this_words v_this_paste0 (vp_updL v_court t1.toNatClampNeg t0)) H := hP
  have hD : va_D A (w_M_wider ad a_this a_units a_kinds a_values a_names a_low a_high a_told a_leftOut a_isMade a_hands a_pad a_court a_title a_out k_court v_this_thrown v_this_size v_this_families v_this_atHand v_this_family v_this_density v_this_pads v_this_hasThermal v_this_titleSize v_this_written v_this_at v_this_begin v_this_words v_this_paste0 (vp_updL v_court t1.toNatClampNeg t0)) := hD
  refine lv_aload_n hx hb dM_wider_27 rfl (lv_at hl 0 rfl) ?_
  refine va_get (D := (dC, dI)) (ci := 10) (v := .ref a_court) (C := RM) (T := TM) (N := 28) hx hb hts inZ_M hown hK hP 0 rfl rfl 18 (by decide) (hts _ zw_1062) (fun _ h9 => h9) rfl dM_wider_28 ?_
  refine lv_iconst (v := 1) hx hb dM_wider_31 (by decide) ?_
  refine lv_lload_n hx hb dM_wider_32 rfl (lv_at hl 1 rfl) ?_
  refine lv_aload_n hx hb dM_wider_33 rfl (lv_at hl 0 rfl) ?_
  refine va_get (D := (dC, dI)) (ci := 10) (v := .ref a_court) (C := RM) (T := TM) (N := 28) hx hb hts inZ_M hown hK hP 0 rfl rfl 18 (by decide) (hts _ zw_1062) (fun _ h9 => h9) rfl dM_wider_34 ?_
  refine lv_iconst (v := 1) hx hb dM_wider_37 (by decide) ?_
  obtain ⟨hn2, h⟩ := h
  refine va_lald hx hb hK hP 1 0 rfl rfl hn2 dM_wider_38 ?_
  refine zz_lcmp_ge (tgt := 47) hx hb dM_wider_39 dM_wider_40 (by decide) ?_ ?_
  · intro c3
    replace h := h.1 c3
    refine lv_aload_n hx hb dM_wider_47 rfl (lv_at hl 0 rfl) ?_
    refine va_get (D := (dC, dI)) (ci := 10) (v := .ref a_court) (C := RM) (T := TM) (N := 28) hx hb hts inZ_M hown hK hP 0 rfl rfl 18 (by decide) (hts _ zw_1062) (fun _ h9 => h9) rfl dM_wider_48 ?_
    refine lv_iconst (v := 1) hx hb dM_wider_51 (by decide) ?_
    obtain ⟨hn4, h⟩ := h
    refine va_lald hx hb hK hP 1 0 rfl rfl hn4 dM_wider_52 ?_
    exact w_M_wider_53 l C0 hE a_this a_units a_kinds a_values a_names a_low a_high a_told a_leftOut a_isMade a_hands a_pad a_court a_title a_out k_court p1 p3 p5 p7 v_this_thrown v_this_size v_this_families v_this_atHand v_this_family v_this_density v_this_pads v_this_hasThermal v_this_titleSize v_this_written v_this_at v_this_begin v_this_words v_this_paste0 v_court post hK ((vp_updL v_court t1.toNatClampNeg t0) (1 : Int32).toNatClampNeg) 1 (vp_updL v_court t1.toNatClampNeg t0) _ _ h hP hD hS ls (lv_sub hl [0, 2, 3] rfl)
  · intro c3
    replace h := h.2 c3
    refine lv_lload_n hx hb dM_wider_43 rfl (lv_at hl 1 rfl) ?_
    refine lv_goto (tgt := 53) hx hb dM_wider_44 (by decide) ?_
    exact w_M_wider_53 l C0 hE a_this a_units a_kinds a_values a_names a_low a_high a_told a_leftOut a_isMade a_hands a_pad a_court a_title a_out k_court p1 p3 p5 p7 v_this_thrown v_this_size v_this_families v_this_atHand v_this_family v_this_density v_this_pads v_this_hasThermal v_this_titleSize v_this_written v_this_at v_this_begin v_this_words v_this_paste0 v_court post hK p3 1 (vp_updL v_court t1.toNatClampNeg t0) _ _ h hP hD hS ls (lv_sub hl [0, 2, 3] rfl)
def P_M_wider (p1 : Int64) (p3 : Int64) (p5 : Int64) (p7 : Int64) (v_court : Nat → Int64) (post : (Nat → Int64) → Prop) : Prop := vp_in 0 4 ∧ (((v_court (0 : Int32).toNatClampNeg) ≤ p1 → vp_in 0 4 ∧ P_M_wider_26 p3 p5 p7 v_court post (v_court (0 : Int32).toNatClampNeg) 0) ∧ (¬ (v_court (0 : Int32).toNatClampNeg) ≤ p1 → P_M_wider_26 p3 p5 p7 v_court post p1 0))
set_option maxHeartbeats 4000000 in
set_option maxRecDepth 100000 in
theorem c_M_wider (l : Launch) (dC : Nat → ClassId) (dI : Nat → Nat → Nat) (ad : Nat → Nat → Nat) (a_this : Nat) (a_units : Nat) (a_kinds : Nat) (a_values : Nat) (a_names : Nat) (a_low : Nat) (a_high : Nat) (a_told : Nat) (a_leftOut : Nat) (a_isMade : Nat) (a_hands : Nat) (a_pad : Nat) (a_court : Nat) (a_title : Nat) (a_out : Nat) (k_court : ClassId) (sz : Nat) (p1 : Int64) (p3 : Int64) (p5 : Int64) (p7 : Int64) (v_this_thrown : Int32) (v_this_size : Int32) (v_this_families : Int32) (v_this_atHand : Int32) (v_this_family : Int32) (v_this_density : Int32) (v_this_pads : Int32) (v_this_hasThermal : Int32) (v_this_titleSize : Int32) (v_this_written : Int32) (v_this_at : Int32) (v_this_begin : Int32) (v_this_words : Int32) (v_this_paste0 : Int64) (v_court : Nat → Int64) (post : (Nat → Int64) → Prop) (h : P_M_wider p1 p3 p5 p7 v_court post) : zMv l yM_wider wsM_wider { frames := 0, cells := 0, slots := 0, locals := 0 } (dC, dI) ad [.ref a_this, .long p1, .long p3, .long p5, .long p7] (w_M_wider ad a_this a_units a_kinds a_values a_names a_low a_high a_told a_leftOut a_isMade a_hands a_pad a_court a_title a_out k_court v_this_thrown v_this_size v_this_families v_this_atHand v_this_family v_this_density v_this_pads v_this_hasThermal v_this_titleSize v_this_written v_this_at v_this_begin v_this_words v_this_paste0 v_court) [(k_court, .long)] sz (fun (u : (Nat → Int64)) => post u) (fun (u : (Nat → Int64)) => (w_M_wider ad a_this a_units a_kinds a_values a_names a_low a_high a_told a_leftOut a_isMade a_hands a_pad a_court a_title a_out k_court v_this_thrown v_this_size v_this_families v_this_atHand v_this_family v_this_density v_this_pads v_this_hasThermal v_this_titleSize v_this_written v_this_at v_this_begin v_this_words v_this_paste0 u)) 0 0 := by
  refine Met.ofW (cc := cM_wider) (maxL := 9) (ret := none) (by decide +kernel) rfl ?_
  intro p e s m args below meth c s₁ B hml hv
  obtain ⟨rfl, hsz, hP, hK, hD0, hE⟩ := hv
  have hx := B.exec
  have hb := B.bytes
  have hr := B.returns
  have hts0 := atoms_spec (ws := wsM_wider) B.pre
  have hts := fun w h => hts0 w (List.mem_cons_of_mem _ h)
  have hown : s.vm.findClass RM = some m.cls := findClass_of_methodNamed B.named
  have hlocks := B.notSynchronized
  subst hsz
  have hD := hD0.self (sz := s.heap.size)
  generalize hAe : va_A (w_M_wider ad a_this a_units a_kinds a_values a_names a_low a_high a_told a_leftOut a_isMade a_hands a_pad a_court a_title a_out k_court v_this_thrown v_this_size v_this_families v_this_atHand v_this_family v_this_density v_this_pads v_this_hasThermal v_this_titleSize v_this_written v_this_at v_this_begin v_this_words v_this_paste0 v_court) s.heap.size = A at hD hE ⊢
  have hA : ∀ q : Nat, s.heap.size ≤ q → A q := fun q h => by rw [← hAe]; exact Or.inr h
  have C0 := zC.mk hx hb hr hml hown hts hlocks hA
  have hS : va_S A s.heap s.heap [] := va_S.rf
  have hl := lv_entry ([.ref a_this, .long p1, .long p3, .long p5, .long p7]) (n := 9) (Nat.le_of_ble_eq_true rfl)
  rw [lg_entry_eq]
  generalize (lg_sl ([.ref a_this, .long p1, .long p3, .long p5, .long p7]) ++ List.replicate (9 - (lg_sl ([.ref a_this, .long p1, .long p3, .long p5, .long p7])).length) Slot.unset).toArray = ls at hl ⊢
  have hl : lv_has ls 9 [(0, .ref a_this), (1, .long p1), (3, .long p3), (5, .long p5), (7, .long p7)] := hl
  unfold P_M_wider at h
  refine lv_aload_n hx hb dM_wider_0 rfl (lv_at hl 0 rfl) ?_
  refine va_get (D := (dC, dI)) (ci := 10) (v := .ref a_court) (C := RM) (T := TM) (N := 28) hx hb hts inZ_M hown hK hP 0 rfl rfl 18 (by decide) (hts _ zw_1062) (fun _ h9 => h9) rfl dM_wider_1 ?_
  refine lv_iconst (v := 0) hx hb dM_wider_4 (by decide) ?_
  refine lv_lload_n hx hb dM_wider_5 rfl (lv_at hl 1 rfl) ?_
  refine lv_aload_n hx hb dM_wider_6 rfl (lv_at hl 0 rfl) ?_
  refine va_get (D := (dC, dI)) (ci := 10) (v := .ref a_court) (C := RM) (T := TM) (N := 28) hx hb hts inZ_M hown hK hP 0 rfl rfl 18 (by decide) (hts _ zw_1062) (fun _ h9 => h9) rfl dM_wider_7 ?_
  refine lv_iconst (v := 0) hx hb dM_wider_10 (by decide) ?_
  obtain ⟨hn1, h⟩ := h
  refine va_lald hx hb hK hP 1 0 rfl rfl hn1 dM_wider_11 ?_
  refine zz_lcmp_ge (tgt := 20) hx hb dM_wider_12 dM_wider_13 (by decide) ?_ ?_
  · intro c2
    replace h := h.1 c2
    refine lv_aload_n hx hb dM_wider_20 rfl (lv_at hl 0 rfl) ?_
    refine va_get (D := (dC, dI)) (ci := 10) (v := .ref a_court) (C := RM) (T := TM) (N := 28) hx hb hts inZ_M hown hK hP 0 rfl rfl 18 (by decide) (hts _ zw_1062) (fun _ h9 => h9) rfl dM_wider_21 ?_
    refine lv_iconst (v := 0) hx hb dM_wider_24 (by decide) ?_
    obtain ⟨hn3, h⟩ := h
    refine va_lald hx hb hK hP 1 0 rfl rfl hn3 dM_wider_25 ?_
    exact w_M_wider_26 l C0 hE a_this a_units a_kinds a_values a_names a_low a_high a_told a_leftOut a_isMade a_hands a_pad a_court a_title a_out k_court p1 p3 p5 p7 v_this_thrown v_this_size v_this_families v_this_atHand v_this_family v_this_density v_this_pads v_this_hasThermal v_this_titleSize v_this_written v_this_at v_this_begin v_this_words v_this_paste0 v_court post hK (v_court (0 : Int32).toNatClampNeg) 0 _ _ h hP hD hS ls (lv_sub hl [0, 2, 3, 4] rfl)
  · intro c2
    replace h := h.2 c2
    refine lv_lload_n hx hb dM_wider_16 rfl (lv_at hl 1 rfl) ?_
    refine lv_goto (tgt := 26) hx hb dM_wider_17 (by decide) ?_
    exact w_M_wider_26 l C0 hE a_this a_units a_kinds a_values a_names a_low a_high a_told a_leftOut a_isMade a_hands a_pad a_court a_title a_out k_court p1 p3 p5 p7 v_this_thrown v_this_size v_this_families v_this_atHand v_this_family v_this_density v_this_pads v_this_hasThermal v_this_titleSize v_this_written v_this_at v_this_begin v_this_words v_this_paste0 v_court post hK p1 0 _ _ h hP hD hS ls (lv_sub hl [0, 2, 3, 4] rfl)
abbrev yM_findCourt : MethodName := ⟨"FootprintRulesModel", "findCourt", "(J)V"⟩
abbrev cM_findCourt : ByteArray := prog_14_method_31_code
abbrev wsM_findCourt : List Cond := .code yM_findCourt cM_findCourt 7 none :: zT
set_option maxRecDepth 100000 in
theorem zc_M_findCourt : Cond.code yM_findCourt cM_findCourt 7 none ∈ zT := zm 1252 (by rfl) (by rfl)
theorem dM_findCourt_0 : decode cM_findCourt 0 = .ok (.iconst 0, 1) := by decide +kernel
theorem dM_findCourt_1 : decode cM_findCourt 1 = .ok (.istore_n 3, 1) := by decide +kernel
theorem dM_findCourt_2 : decode cM_findCourt 2 = .ok (.iload_n 3, 1) := by decide +kernel
theorem dM_findCourt_3 : decode cM_findCourt 3 = .ok (.iconst 4, 1) := by decide +kernel
theorem dM_findCourt_4 : decode cM_findCourt 4 = .ok (.if_icmp .ge 29, 3) := by decide +kernel
theorem dM_findCourt_7 : decode cM_findCourt 7 = .ok (.aload_n 0, 1) := by decide +kernel
theorem dM_findCourt_8 : decode cM_findCourt 8 = .ok (.getfield 45, 3) := by decide +kernel
theorem dM_findCourt_11 : decode cM_findCourt 11 = .ok (.iload_n 3, 1) := by decide +kernel
theorem dM_findCourt_12 : decode cM_findCourt 12 = .ok (.iload_n 3, 1) := by decide +kernel
theorem dM_findCourt_13 : decode cM_findCourt 13 = .ok (.iconst 2, 1) := by decide +kernel
theorem dM_findCourt_14 : decode cM_findCourt 14 = .ok (.if_icmp .ge 9, 3) := by decide +kernel
theorem dM_findCourt_17 : decode cM_findCourt 17 = .ok (.ldc2_w 177, 3) := by decide +kernel
theorem dM_findCourt_20 : decode cM_findCourt 20 = .ok (.goto 6, 3) := by decide +kernel
theorem dM_findCourt_23 : decode cM_findCourt 23 = .ok (.ldc2_w 179, 3) := by decide +kernel
theorem dM_findCourt_26 : decode cM_findCourt 26 = .ok (.lastore, 1) := by decide +kernel
theorem dM_findCourt_27 : decode cM_findCourt 27 = .ok (.iinc 3 1, 3) := by decide +kernel
theorem dM_findCourt_30 : decode cM_findCourt 30 = .ok (.goto (-28), 3) := by decide +kernel
theorem dM_findCourt_33 : decode cM_findCourt 33 = .ok (.iconst 0, 1) := by decide +kernel
theorem dM_findCourt_34 : decode cM_findCourt 34 = .ok (.istore_n 3, 1) := by decide +kernel
theorem dM_findCourt_35 : decode cM_findCourt 35 = .ok (.iload_n 3, 1) := by decide +kernel
theorem dM_findCourt_36 : decode cM_findCourt 36 = .ok (.bipush 7, 2) := by decide +kernel
theorem dM_findCourt_38 : decode cM_findCourt 38 = .ok (.aload_n 0, 1) := by decide +kernel
theorem dM_findCourt_39 : decode cM_findCourt 39 = .ok (.getfield 134, 3) := by decide +kernel
theorem dM_findCourt_42 : decode cM_findCourt 42 = .ok (.imul, 1) := by decide +kernel
theorem dM_findCourt_43 : decode cM_findCourt 43 = .ok (.if_icmp .ge 63, 3) := by decide +kernel
theorem dM_findCourt_46 : decode cM_findCourt 46 = .ok (.aload_n 0, 1) := by decide +kernel
theorem dM_findCourt_47 : decode cM_findCourt 47 = .ok (.aload_n 0, 1) := by decide +kernel
theorem dM_findCourt_48 : decode cM_findCourt 48 = .ok (.getfield 42, 3) := by decide +kernel
theorem dM_findCourt_51 : decode cM_findCourt 51 = .ok (.iload_n 3, 1) := by decide +kernel
theorem dM_findCourt_52 : decode cM_findCourt 52 = .ok (.iconst 1, 1) := by decide +kernel
theorem dM_findCourt_53 : decode cM_findCourt 53 = .ok (.iadd, 1) := by decide +kernel
theorem dM_findCourt_54 : decode cM_findCourt 54 = .ok (.laload, 1) := by decide +kernel
theorem dM_findCourt_55 : decode cM_findCourt 55 = .ok (.aload_n 0, 1) := by decide +kernel
theorem dM_findCourt_56 : decode cM_findCourt 56 = .ok (.getfield 42, 3) := by decide +kernel
theorem dM_findCourt_59 : decode cM_findCourt 59 = .ok (.iload_n 3, 1) := by decide +kernel
theorem dM_findCourt_60 : decode cM_findCourt 60 = .ok (.iconst 2, 1) := by decide +kernel
theorem dM_findCourt_61 : decode cM_findCourt 61 = .ok (.iadd, 1) := by decide +kernel
theorem dM_findCourt_62 : decode cM_findCourt 62 = .ok (.laload, 1) := by decide +kernel
theorem dM_findCourt_63 : decode cM_findCourt 63 = .ok (.aload_n 0, 1) := by decide +kernel
theorem dM_findCourt_64 : decode cM_findCourt 64 = .ok (.getfield 42, 3) := by decide +kernel
theorem dM_findCourt_67 : decode cM_findCourt 67 = .ok (.iload_n 3, 1) := by decide +kernel
theorem dM_findCourt_68 : decode cM_findCourt 68 = .ok (.iconst 1, 1) := by decide +kernel
theorem dM_findCourt_69 : decode cM_findCourt 69 = .ok (.iadd, 1) := by decide +kernel
theorem dM_findCourt_70 : decode cM_findCourt 70 = .ok (.laload, 1) := by decide +kernel
theorem dM_findCourt_71 : decode cM_findCourt 71 = .ok (.aload_n 0, 1) := by decide +kernel
theorem dM_findCourt_72 : decode cM_findCourt 72 = .ok (.getfield 42, 3) := by decide +kernel
theorem dM_findCourt_75 : decode cM_findCourt 75 = .ok (.iload_n 3, 1) := by decide +kernel
theorem dM_findCourt_76 : decode cM_findCourt 76 = .ok (.iconst 3, 1) := by decide +kernel
theorem dM_findCourt_77 : decode cM_findCourt 77 = .ok (.iadd, 1) := by decide +kernel
theorem dM_findCourt_78 : decode cM_findCourt 78 = .ok (.laload, 1) := by decide +kernel
theorem dM_findCourt_79 : decode cM_findCourt 79 = .ok (.ladd, 1) := by decide +kernel
theorem dM_findCourt_80 : decode cM_findCourt 80 = .ok (.aload_n 0, 1) := by decide +kernel
theorem dM_findCourt_81 : decode cM_findCourt 81 = .ok (.getfield 42, 3) := by decide +kernel
theorem dM_findCourt_84 : decode cM_findCourt 84 = .ok (.iload_n 3, 1) := by decide +kernel
theorem dM_findCourt_85 : decode cM_findCourt 85 = .ok (.iconst 2, 1) := by decide +kernel
theorem dM_findCourt_86 : decode cM_findCourt 86 = .ok (.iadd, 1) := by decide +kernel
theorem dM_findCourt_87 : decode cM_findCourt 87 = .ok (.laload, 1) := by decide +kernel
theorem dM_findCourt_88 : decode cM_findCourt 88 = .ok (.aload_n 0, 1) := by decide +kernel
theorem dM_findCourt_89 : decode cM_findCourt 89 = .ok (.getfield 42, 3) := by decide +kernel
theorem dM_findCourt_92 : decode cM_findCourt 92 = .ok (.iload_n 3, 1) := by decide +kernel
theorem dM_findCourt_93 : decode cM_findCourt 93 = .ok (.iconst 4, 1) := by decide +kernel
theorem dM_findCourt_94 : decode cM_findCourt 94 = .ok (.iadd, 1) := by decide +kernel
theorem dM_findCourt_95 : decode cM_findCourt 95 = .ok (.laload, 1) := by decide +kernel
theorem dM_findCourt_96 : decode cM_findCourt 96 = .ok (.ladd, 1) := by decide +kernel
theorem dM_findCourt_97 : decode cM_findCourt 97 = .ok (.invokevirtual 181, 3) := by decide +kernel
theorem dM_findCourt_100 : decode cM_findCourt 100 = .ok (.iinc 3 7, 3) := by decide +kernel
theorem dM_findCourt_103 : decode cM_findCourt 103 = .ok (.goto (-68), 3) := by decide +kernel
theorem dM_findCourt_106 : decode cM_findCourt 106 = .ok (.aload_n 0, 1) := by decide +kernel
theorem dM_findCourt_107 : decode cM_findCourt 107 = .ok (.getfield 29, 3) := by decide +kernel
theorem dM_findCourt_110 : decode cM_findCourt 110 = .ok (.bipush 10, 2) := by decide +kernel
theorem dM_findCourt_112 : decode cM_findCourt 112 = .ok (.baload, 1) := by decide +kernel
theorem dM_findCourt_113 : decode cM_findCourt 113 = .ok (.ifCond .eq 66, 3) := by decide +kernel
theorem dM_findCourt_116 : decode cM_findCourt 116 = .ok (.aload_n 0, 1) := by decide +kernel
theorem dM_findCourt_117 : decode cM_findCourt 117 = .ok (.getfield 29, 3) := by decide +kernel
theorem dM_findCourt_120 : decode cM_findCourt 120 = .ok (.bipush 11, 2) := by decide +kernel
theorem dM_findCourt_122 : decode cM_findCourt 122 = .ok (.baload, 1) := by decide +kernel
theorem dM_findCourt_123 : decode cM_findCourt 123 = .ok (.ifCond .eq 56, 3) := by decide +kernel
theorem dM_findCourt_126 : decode cM_findCourt 126 = .ok (.aload_n 0, 1) := by decide +kernel
theorem dM_findCourt_127 : decode cM_findCourt 127 = .ok (.getfield 26, 3) := by decide +kernel
theorem dM_findCourt_130 : decode cM_findCourt 130 = .ok (.bipush 10, 2) := by decide +kernel
theorem dM_findCourt_132 : decode cM_findCourt 132 = .ok (.laload, 1) := by decide +kernel
theorem dM_findCourt_133 : decode cM_findCourt 133 = .ok (.ldc2_w 90, 3) := by decide +kernel
theorem dM_findCourt_136 : decode cM_findCourt 136 = .ok (.lload_n 1, 1) := by decide +kernel
theorem dM_findCourt_137 : decode cM_findCourt 137 = .ok (.lmul, 1) := by decide +kernel
theorem dM_findCourt_138 : decode cM_findCourt 138 = .ok (.invokestatic 145, 3) := by decide +kernel
theorem dM_findCourt_141 : decode cM_findCourt 141 = .ok (.ldc2_w 90, 3) := by decide +kernel
theorem dM_findCourt_144 : decode cM_findCourt 144 = .ok (.ldiv, 1) := by decide +kernel
theorem dM_findCourt_145 : decode cM_findCourt 145 = .ok (.lstore_n 3, 1) := by decide +kernel
theorem dM_findCourt_146 : decode cM_findCourt 146 = .ok (.aload_n 0, 1) := by decide +kernel
theorem dM_findCourt_147 : decode cM_findCourt 147 = .ok (.getfield 26, 3) := by decide +kernel
theorem dM_findCourt_150 : decode cM_findCourt 150 = .ok (.bipush 11, 2) := by decide +kernel
theorem dM_findCourt_152 : decode cM_findCourt 152 = .ok (.laload, 1) := by decide +kernel
theorem dM_findCourt_153 : decode cM_findCourt 153 = .ok (.ldc2_w 90, 3) := by decide +kernel
theorem dM_findCourt_156 : decode cM_findCourt 156 = .ok (.lload_n 1, 1) := by decide +kernel
theorem dM_findCourt_157 : decode cM_findCourt 157 = .ok (.lmul, 1) := by decide +kernel
theorem dM_findCourt_158 : decode cM_findCourt 158 = .ok (.invokestatic 145, 3) := by decide +kernel
theorem dM_findCourt_161 : decode cM_findCourt 161 = .ok (.ldc2_w 90, 3) := by decide +kernel
theorem dM_findCourt_164 : decode cM_findCourt 164 = .ok (.ldiv, 1) := by decide +kernel
theorem dM_findCourt_165 : decode cM_findCourt 165 = .ok (.lstore 5, 2) := by decide +kernel
theorem dM_findCourt_167 : decode cM_findCourt 167 = .ok (.aload_n 0, 1) := by decide +kernel
theorem dM_findCourt_168 : decode cM_findCourt 168 = .ok (.lload_n 3, 1) := by decide +kernel
theorem dM_findCourt_169 : decode cM_findCourt 169 = .ok (.lneg, 1) := by decide +kernel
theorem dM_findCourt_170 : decode cM_findCourt 170 = .ok (.lload 5, 2) := by decide +kernel
theorem dM_findCourt_172 : decode cM_findCourt 172 = .ok (.lneg, 1) := by decide +kernel
theorem dM_findCourt_173 : decode cM_findCourt 173 = .ok (.lload_n 3, 1) := by decide +kernel
theorem dM_findCourt_174 : decode cM_findCourt 174 = .ok (.lload 5, 2) := by decide +kernel
theorem dM_findCourt_176 : decode cM_findCourt 176 = .ok (.invokevirtual 181, 3) := by decide +kernel
theorem dM_findCourt_179 : decode cM_findCourt 179 = .ok (.iconst 0, 1) := by decide +kernel
theorem dM_findCourt_180 : decode cM_findCourt 180 = .ok (.istore_n 3, 1) := by decide +kernel
theorem dM_findCourt_181 : decode cM_findCourt 181 = .ok (.iload_n 3, 1) := by decide +kernel
theorem dM_findCourt_182 : decode cM_findCourt 182 = .ok (.iconst 4, 1) := by decide +kernel
theorem dM_findCourt_183 : decode cM_findCourt 183 = .ok (.if_icmp .ge 55, 3) := by decide +kernel
theorem dM_findCourt_186 : decode cM_findCourt 186 = .ok (.aload_n 0, 1) := by decide +kernel
theorem dM_findCourt_187 : decode cM_findCourt 187 = .ok (.getfield 45, 3) := by decide +kernel
theorem dM_findCourt_190 : decode cM_findCourt 190 = .ok (.iload_n 3, 1) := by decide +kernel
theorem dM_findCourt_191 : decode cM_findCourt 191 = .ok (.iload_n 3, 1) := by decide +kernel
theorem dM_findCourt_192 : decode cM_findCourt 192 = .ok (.iconst 2, 1) := by decide +kernel
theorem dM_findCourt_193 : decode cM_findCourt 193 = .ok (.if_icmp .ge 22, 3) := by decide +kernel
theorem dM_findCourt_196 : decode cM_findCourt 196 = .ok (.aload_n 0, 1) := by decide +kernel
theorem dM_findCourt_197 : decode cM_findCourt 197 = .ok (.getfield 45, 3) := by decide +kernel
theorem dM_findCourt_200 : decode cM_findCourt 200 = .ok (.iload_n 3, 1) := by decide +kernel
theorem dM_findCourt_201 : decode cM_findCourt 201 = .ok (.laload, 1) := by decide +kernel
theorem dM_findCourt_202 : decode cM_findCourt 202 = .ok (.aload_n 0, 1) := by decide +kernel
theorem dM_findCourt_203 : decode cM_findCourt 203 = .ok (.iconst 3, 1) := by decide +kernel
theorem dM_findCourt_204 : decode cM_findCourt 204 = .ok (.invokevirtual 142, 3) := by decide +kernel
theorem dM_findCourt_207 : decode cM_findCourt 207 = .ok (.lsub, 1) := by decide +kernel
theorem dM_findCourt_208 : decode cM_findCourt 208 = .ok (.lload_n 1, 1) := by decide +kernel
theorem dM_findCourt_209 : decode cM_findCourt 209 = .ok (.invokestatic 149, 3) := by decide +kernel
theorem dM_findCourt_212 : decode cM_findCourt 212 = .ok (.goto 19, 3) := by decide +kernel
theorem dM_findCourt_215 : decode cM_findCourt 215 = .ok (.aload_n 0, 1) := by decide +kernel
theorem dM_findCourt_216 : decode cM_findCourt 216 = .ok (.getfield 45, 3) := by decide +kernel
theorem dM_findCourt_219 : decode cM_findCourt 219 = .ok (.iload_n 3, 1) := by decide +kernel
theorem dM_findCourt_220 : decode cM_findCourt 220 = .ok (.laload, 1) := by decide +kernel
theorem dM_findCourt_221 : decode cM_findCourt 221 = .ok (.aload_n 0, 1) := by decide +kernel
theorem dM_findCourt_222 : decode cM_findCourt 222 = .ok (.iconst 3, 1) := by decide +kernel
theorem dM_findCourt_223 : decode cM_findCourt 223 = .ok (.invokevirtual 142, 3) := by decide +kernel
theorem dM_findCourt_226 : decode cM_findCourt 226 = .ok (.ladd, 1) := by decide +kernel
theorem dM_findCourt_227 : decode cM_findCourt 227 = .ok (.lload_n 1, 1) := by decide +kernel
theorem dM_findCourt_228 : decode cM_findCourt 228 = .ok (.invokestatic 145, 3) := by decide +kernel
theorem dM_findCourt_231 : decode cM_findCourt 231 = .ok (.lastore, 1) := by decide +kernel
theorem dM_findCourt_232 : decode cM_findCourt 232 = .ok (.iinc 3 1, 3) := by decide +kernel
theorem dM_findCourt_235 : decode cM_findCourt 235 = .ok (.goto (-54), 3) := by decide +kernel
theorem dM_findCourt_238 : decode cM_findCourt 238 = .ok (.return_, 1) := by decide +kernel
-- FootprintRulesModel.findCourt(J)V
abbrev w_M_findCourt (ad : Nat → Nat → Nat) (a_this : Nat) (a_units : Nat) (a_kinds : Nat) (a_values : Nat) (a_names : Nat) (a_low : Nat) (a_high : Nat) (a_told : Nat) (a_leftOut : Nat) (a_isMade : Nat) (a_hands : Nat) (a_pad : Nat) (a_court : Nat) (a_title : Nat) (a_out : Nat) (k_court : ClassId) (k_told : ClassId) (k_high : ClassId) (k_pad : ClassId) (k_values : ClassId) (v_this_thrown : Int32) (v_this_size : Int32) (v_this_families : Int32) (v_this_atHand : Int32) (v_this_family : Int32) (v_this_density : Int32) (v_this_pads : Int32) (v_this_hasThermal : Int32) (v_this_titleSize : Int32) (v_this_written : Int32) (v_this_at : Int32) (v_this_begin : Int32) (v_this_words : Int32) (v_this_paste0 : Int64) (v_court : Nat → Int64) (v_told : Nat → Int32) (v_high : Nat → Int64) (v_pad : Nat → Int64) (v_values : Nat → Int64) : va_W := [(a_this, .inr (10, [.int v_this_thrown, .ref a_units, .int v_this_size, .int v_this_families, .ref a_kinds, .ref a_values, .ref a_names, .ref a_low, .ref a_high, .ref a_told, .ref a_leftOut, .ref a_isMade, .ref a_hands, .int v_this_atHand, .int v_this_family, .int v_this_density, .int v_this_pads, .ref a_pad, .ref a_court, .int v_this_hasThermal, .ref a_title, .int v_this_titleSize, .ref a_out, .int v_this_written, .int v_this_at, .int v_this_begin, .int v_this_words, .long v_this_paste0])), (a_court, .inl (k_court, 4, .inr (.inl v_court))), (a_told, .inl (k_told, 12, .inl v_told)), (a_high, .inl (k_high, 12, .inr (.inl v_high))), (a_pad, .inl (k_pad, 455, .inr (.inl v_pad))), (a_values, .inl (k_values, 240, .inr (.inl v_values)))]
def P_M_findCourt_231  (post : (Nat → Int64) → Prop) (K181 : Int32 → (Nat → Int64) → Prop) (y3 : Int32) (t0 : Int64) (t1 : Int32) (u_court : Nat → Int64) : Prop := vp_in t1 4 ∧ ∀ x2 : Int32, x2 = y3 + 1 → K181 x2 (vp_updL u_court t1.toNatClampNeg t0)
set_option maxHeartbeats 4000000 in
set_option maxRecDepth 100000 in
theorem w_M_findCourt_231 (l : Launch) {p : Program} {e : Env} {s : State} {m : MethodId} {args : Array Value} {below : List Frame} {meth : Method} {c : Code} {dC : Nat → ClassId} {dI : Nat → Nat → Nat} {ad : Nat → Nat → Nat} {A : Nat → Prop} (C0 : zC p s m args meth c cM_findCourt 7 RM zT none A) (hE : zE ad A s) (a_this : Nat) (a_units : Nat) (a_kinds : Nat) (a_values : Nat) (a_names : Nat) (a_low : Nat) (a_high : Nat) (a_told : Nat) (a_leftOut : Nat) (a_isMade : Nat) (a_hands : Nat) (a_pad : Nat) (a_court : Nat) (a_title : Nat) (a_out : Nat) (k_court : ClassId) (k_told : ClassId) (k_high : ClassId) (k_pad : ClassId) (k_values : ClassId) (p1 : Int64) (v_this_thrown : Int32) (v_this_size : Int32) (v_this_families : Int32) (v_this_atHand : Int32) (v_this_family : Int32) (v_this_density : Int32) (v_this_pads : Int32) (v_this_hasThermal : Int32) (v_this_titleSize : Int32) (v_this_written : Int32) (v_this_at : Int32) (v_this_begin : Int32) (v_this_words : Int32) (v_this_paste0 : Int64) (v_court : Nat → Int64) (v_told : Nat → Int32) (v_high : Nat → Int64) (v_pad : Nat → Int64) (v_values : Nat → Int64) (post : (Nat → Int64) → Prop) (K181 : Int32 → (Nat → Int64) → Prop) (hK181 : ∀ (y3 : Int32) (u_court : Nat → Int64) (H : Heap) (locs : List Loc), K181 y3 u_court → va_P (dC, dI) vwCl (w_M_findCourt ad a_this a_units a_kinds a_values a_names a_low a_high a_told a_leftOut a_isMade a_hands a_pad a_court a_title a_out k_court k_told k_high k_pad k_values v_this_thrown v_this_size v_this_families v_this_atHand v_this_family v_this_density v_this_pads v_this_hasThermal v_this_titleSize v_this_written v_this_at v_this_begin v_this_words v_this_paste0 u_court v_told v_high v_pad v_values) H → va_D A (w_M_findCourt ad a_this a_units a_kinds a_values a_names a_low a_high a_told a_leftOut a_isMade a_hands a_pad a_court a_title a_out k_court k_told k_high k_pad k_values v_this_thrown v_this_size v_this_families v_this_atHand v_this_family v_this_density v_this_pads v_this_hasThermal v_this_titleSize v_this_written v_this_at v_this_begin v_this_words v_this_paste0 u_court v_told v_high v_pad v_values) → va_S A s.heap H locs → ∀ ls : Array Slot, lv_has ls 7 [(0, .ref a_this), (1, .long p1), (3, .int y3)] → W p l e (headSpec wsM_findCourt { frames := 1, cells := 0, slots := 0, locals := 28 }).room s m args below meth c H locs 0 0 (MQ below (va_Qv (fun (u : (Nat → Int64)) => post u) (zB (dC, dI) A (fun (u : (Nat → Int64)) => (w_M_findCourt ad a_this a_units a_kinds a_values a_names a_low a_high a_told a_leftOut a_isMade a_hands a_pad a_court a_title a_out k_court k_told k_high k_pad k_values v_this_thrown v_this_size v_this_families v_this_atHand v_this_family v_this_density v_this_pads v_this_hasThermal v_this_titleSize v_this_written v_this_at v_this_begin v_this_words v_this_paste0 u v_told v_high v_pad v_values))) A) args s 0 0 A) (F0 m 181 ls [])) (hK : va_K (dC, dI) vwCl [(k_court, .long), (k_told, .boolean), (k_high, .long), (k_pad, .long), (k_values, .long)] s) : ∀ (y3 : Int32) (t0 : Int64) (t1 : Int32) (u_court : Nat → Int64) (H : Heap) (locs : List Loc), P_M_findCourt_231 post K181 y3 t0 t1 u_court → va_P (dC, dI) vwCl (w_M_findCourt ad a_this a_units a_kinds a_values a_names a_low a_high a_told a_leftOut a_isMade a_hands a_pad a_court a_title a_out k_court k_told k_high k_pad k_values v_this_thrown v_this_size v_this_families v_this_atHand v_this_family v_this_density v_this_pads v_this_hasThermal v_this_titleSize v_this_written v_this_at v_this_begin v_this_words v_this_paste0 u_court v_told v_high v_pad v_values) H → va_D A (w_M_findCourt ad a_this a_units a_kinds a_values a_names a_low a_high a_told a_leftOut a_isMade a_hands a_pad a_court a_title a_out k_court k_told k_high k_pad k_values v_this_thrown v_this_size v_this_families v_this_atHand v_this_family v_this_density v_this_pads v_this_hasThermal v_this_titleSize v_this_written v_this_at v_this_begin v_this_words v_this_paste0 u_court v_told v_high v_pad v_values) → va_S A s.heap H locs → ∀ ls : Array Slot, lv_has ls 7 [(0, .ref a_this), (1, .long p1), (3, .int y3)] → W p l e (headSpec wsM_findCourt { frames := 1, cells := 0, slots := 0, locals := 28 }).room s m args below meth c H locs 0 0 (MQ below (va_Qv (fun (u : (Nat → Int64)) => post u) (zB (dC, dI) A (fun (u : (Nat → Int64)) => (w_M_findCourt ad a_this a_units a_kinds a_values a_names a_low a_high a_told a_leftOut a_isMade a_hands a_pad a_court a_title a_out k_court k_told k_high k_pad k_values v_this_thrown v_this_size v_this_families v_this_atHand v_this_family v_this_density v_this_pads v_this_hasThermal v_this_titleSize v_this_written v_this_at v_this_begin v_this_words v_this_paste0 u v_told v_high v_pad v_values))) A) args s 0 0 A) (F0 m 231 ls [.long t0, .int t1, .ref a_court]) := by
  obtain ⟨hx, hb, hr, hml, hown, hts, hlocks, hA⟩ := id C0
  intro y3 t0 t1 u_court H locs h hP hD hS ls hl
  unfold P_M_findCourt_231 at h
  obtain ⟨hn1, h⟩ := h
  refine va_last hx hb hK hP hD hS 1 0 rfl rfl hn1 dM_findCourt_231 (fun H locs hP hD hS => ?_)
  have hP : va_P (dC, dI) vwCl (w_M_findCourt ad a_this a_units a_kinds a_values a_names a_low a_high a_told a_leftOut a_isMade a_hands a_pad a_court a_title a_out k_court k_told k_high k_pad k_values v_this_thrown v_this_size v_this_families v_this_atHand v_this_family v_this_density v_this_pads v_this_hasThermal v_this_titleSize v_this_written v_this_at v_this_begin v_this_words v_this_paste0 (vp_updL u_court t1.toNatClampNeg t0) v_told v_high v_pad v_values) H := hP
  have hD : va_D A (w_M_findCourt ad a_this a_units a_kinds a_values a_names a_low a_high a_told a_leftOut a_isMade a_hands a_pad a_court a_title a_out k_court k_told k_high k_pad k_values v_this_thrown v_this_size v_this_families v_this_atHand v_this_family v_this_density v_this_pads v_this_hasThermal v_this_titleSize v_this_written v_this_at v_this_begin v_this_words v_this_paste0 (vp_updL u_court t1.toNatClampNeg t0) v_told v_high v_pad v_values) := hD
  obtain ⟨x2, ex2⟩ : ∃ y : Int32, y = y3 + 1 := ⟨_, rfl⟩
  replace h := h x2 ex2
  refine lv_iinc (v := x2) (lv' := [(3, .int x2), (0, .ref a_this), (1, .long p1)]) hx hb dM_findCourt_232 hl (k := 2) rfl (by rw [ex2]; rfl) (by decide) rfl (fun ls hl => ?_)
  refine lv_goto (tgt := 181) hx hb dM_findCourt_235 (by decide) ?_
  exact hK181 x2 (vp_updL u_court t1.toNatClampNeg t0) _ _ h hP hD hS ls (lv_sub hl [1, 2, 0] rfl)
def P_M_findCourt_181 (p1 : Int64) (v_this_family : Int32) (v_this_density : Int32) (v_values : Nat → Int64) (post : (Nat → Int64) → Prop) : Nat → Int32 → (Nat → Int64) → Prop
  | 0, _, _ => False
  | n + 1, y3, u_court => ((4 ≤ y3 → post u_court) ∧ (¬ 4 ≤ y3 → ((2 ≤ y3 → vp_in y3 4 ∧ P_M_of 3 v_this_family v_this_density v_values (fun (r4 : Int64) => P_M_up ((u_court y3.toNatClampNeg) + r4) p1 (fun (r5 : Int64) => P_M_findCourt_231 post (P_M_findCourt_181 p1 v_this_family v_this_density v_values post n) y3 r5 y3 u_court))) ∧ (¬ 2 ≤ y3 → vp_in y3 4 ∧ P_M_of 3 v_this_family v_this_density v_values (fun (r7 : Int64) => P_M_down ((u_court y3.toNatClampNeg) - r7) p1 (fun (r8 : Int64) => P_M_findCourt_231 post (P_M_findCourt_181 p1 v_this_family v_this_density v_values post n) y3 r8 y3 u_court))))))
set_option maxHeartbeats 4000000 in
set_option maxRecDepth 100000 in
theorem w_M_findCourt_181 (l : Launch) {p : Program} {e : Env} {s : State} {m : MethodId} {args : Array Value} {below : List Frame} {meth : Method} {c : Code} {dC : Nat → ClassId} {dI : Nat → Nat → Nat} {ad : Nat → Nat → Nat} {A : Nat → Prop} (C0 : zC p s m args meth c cM_findCourt 7 RM zT none A) (hE : zE ad A s) (a_this : Nat) (a_units : Nat) (a_kinds : Nat) (a_values : Nat) (a_names : Nat) (a_low : Nat) (a_high : Nat) (a_told : Nat) (a_leftOut : Nat) (a_isMade : Nat) (a_hands : Nat) (a_pad : Nat) (a_court : Nat) (a_title : Nat) (a_out : Nat) (k_court : ClassId) (k_told : ClassId) (k_high : ClassId) (k_pad : ClassId) (k_values : ClassId) (p1 : Int64) (v_this_thrown : Int32) (v_this_size : Int32) (v_this_families : Int32) (v_this_atHand : Int32) (v_this_family : Int32) (v_this_density : Int32) (v_this_pads : Int32) (v_this_hasThermal : Int32) (v_this_titleSize : Int32) (v_this_written : Int32) (v_this_at : Int32) (v_this_begin : Int32) (v_this_words : Int32) (v_this_paste0 : Int64) (v_court : Nat → Int64) (v_told : Nat → Int32) (v_high : Nat → Int64) (v_pad : Nat → Int64) (v_values : Nat → Int64) (post : (Nat → Int64) → Prop) (hK : va_K (dC, dI) vwCl [(k_court, .long), (k_told, .boolean), (k_high, .long), (k_pad, .long), (k_values, .long)] s) : ∀ (n : Nat), ∀ (y3 : Int32) (u_court : Nat → Int64) (H : Heap) (locs : List Loc), P_M_findCourt_181 p1 v_this_family v_this_density v_values post n y3 u_court → va_P (dC, dI) vwCl (w_M_findCourt ad a_this a_units a_kinds a_values a_names a_low a_high a_told a_leftOut a_isMade a_hands a_pad a_court a_title a_out k_court k_told k_high k_pad k_values v_this_thrown v_this_size v_this_families v_this_atHand v_this_family v_this_density v_this_pads v_this_hasThermal v_this_titleSize v_this_written v_this_at v_this_begin v_this_words v_this_paste0 u_court v_told v_high v_pad v_values) H → va_D A (w_M_findCourt ad a_this a_units a_kinds a_values a_names a_low a_high a_told a_leftOut a_isMade a_hands a_pad a_court a_title a_out k_court k_told k_high k_pad k_values v_this_thrown v_this_size v_this_families v_this_atHand v_this_family v_this_density v_this_pads v_this_hasThermal v_this_titleSize v_this_written v_this_at v_this_begin v_this_words v_this_paste0 u_court v_told v_high v_pad v_values) → va_S A s.heap H locs → ∀ ls : Array Slot, lv_has ls 7 [(0, .ref a_this), (1, .long p1), (3, .int y3)] → W p l e (headSpec wsM_findCourt { frames := 1, cells := 0, slots := 0, locals := 28 }).room s m args below meth c H locs 0 0 (MQ below (va_Qv (fun (u : (Nat → Int64)) => post u) (zB (dC, dI) A (fun (u : (Nat → Int64)) => (w_M_findCourt ad a_this a_units a_kinds a_values a_names a_low a_high a_told a_leftOut a_isMade a_hands a_pad a_court a_title a_out k_court k_told k_high k_pad k_values v_this_thrown v_this_size v_this_families v_this_atHand v_this_family v_this_density v_this_pads v_this_hasThermal v_this_titleSize v_this_written v_this_at v_this_begin v_this_words v_this_paste0 u v_told v_high v_pad v_values))) A) args s 0 0 A) (F0 m 181 ls []) := by
  obtain ⟨hx, hb, hr, hml, hown, hts, hlocks, hA⟩ := id C0
  intro n
  induction n with
  | zero =>
    intro y3 u_court H locs h
    exact False.elim h
  | succ n ih =>
    intro y3 u_court H locs h hP hD hS ls hl
    rw [P_M_findCourt_181] at h
    refine lv_iload_n hx hb dM_findCourt_181 rfl (lv_at hl 2 rfl) ?_
    refine lv_iconst (v := 4) hx hb dM_findCourt_182 (by decide) ?_
    refine lv_icmp_ge (tgt := 238) hx hb dM_findCourt_183 (by decide) ?_ ?_
    · intro c1
      replace h := h.1 c1
      exact W.vret hx hb hr (fun t ht hW => ⟨⟨u_court, rfl, h, by rw [ht]; exact hP, hD⟩, hS.F ht⟩) hS.2.2 dM_findCourt_238
    · intro c1
      replace h := h.2 c1
      refine lv_aload_n hx hb dM_findCourt_186 rfl (lv_at hl 0 rfl) ?_
      refine va_get (D := (dC, dI)) (ci := 10) (v := .ref a_court) (C := RM) (T := TM) (N := 28) hx hb hts inZ_M hown hK hP 0 rfl rfl 18 (by decide) (hts _ zw_1062) (fun _ h9 => h9) rfl dM_findCourt_187 ?_
      refine lv_iload_n hx hb dM_findCourt_190 rfl (lv_at hl 2 rfl) ?_
      refine lv_iload_n hx hb dM_findCourt_191 rfl (lv_at hl 2 rfl) ?_
      refine lv_iconst (v := 2) hx hb dM_findCourt_192 (by decide) ?_
      refine lv_icmp_ge (tgt := 215) hx hb dM_findCourt_193 (by decide) ?_ ?_
      · intro c2
        replace h := h.1 c2
        refine lv_aload_n hx hb dM_findCourt_215 rfl (lv_at hl 0 rfl) ?_
        refine va_get (D := (dC, dI)) (ci := 10) (v := .ref a_court) (C := RM) (T := TM) (N := 28) hx hb hts inZ_M hown hK hP 0 rfl rfl 18 (by decide) (hts _ zw_1062) (fun _ h9 => h9) rfl dM_findCourt_216 ?_
        refine lv_iload_n hx hb dM_findCourt_219 rfl (lv_at hl 2 rfl) ?_
        obtain ⟨hn3, h⟩ := h
        refine va_lald hx hb hK hP 1 0 rfl rfl hn3 dM_findCourt_220 ?_
        refine lv_aload_n hx hb dM_findCourt_221 rfl (lv_at hl 0 rfl) ?_
        refine lv_iconst (v := 3) hx hb dM_findCourt_222 (by decide) ?_
        refine zcall_l hP hD hS hA [0, 5] [1, 2, 3, 4] (va_runV (As := [.int 3]) (rest := [.long (u_court y3.toNatClampNeg), .int y3, .ref a_court]) ⟨hx, hb, hml, hown, hts⟩ (c_M_of l dC dI ad a_this a_units a_kinds a_values a_names a_low a_high a_told a_leftOut a_isMade a_hands a_pad a_court a_title a_out k_values _ 3 v_this_thrown v_this_size v_this_families v_this_atHand v_this_family v_this_density v_this_pads v_this_hasThermal v_this_titleSize v_this_written v_this_at v_this_begin v_this_words v_this_paste0 v_values _ h) ⟨callB_of 1 hts (zgood zc_M_of) rfl rfl rfl (hts _ zw_107) (hts _ zw_1201) (by decide +kernel) ⟨Nat.le_of_ble_eq_true rfl, Nat.le_of_ble_eq_true rfl⟩, (hts _ zw_1203), (hts _ zw_74)⟩ (zpreV hE hK hP hD hS hA [0, 5] [4] (by rfl) (by rfl) (by decide) (ci := 10) (q0 := 0) rfl (by rfl)) rfl rfl hl.1 rfl (lv_room (Nat.le_of_ble_eq_true rfl)) dM_findCourt_223 ⟨Nat.le_of_ble_eq_true rfl, Nat.le_of_ble_eq_true rfl⟩) (by rfl) (by rfl) (by decide) (by decide) (fun r4 u H locs h hP hD hS => ?_)
        try dsimp only at h
        have hP := hP.sub (ws' := (w_M_findCourt ad a_this a_units a_kinds a_values a_names a_low a_high a_told a_leftOut a_isMade a_hands a_pad a_court a_title a_out k_court k_told k_high k_pad k_values v_this_thrown v_this_size v_this_families v_this_atHand v_this_family v_this_density v_this_pads v_this_hasThermal v_this_titleSize v_this_written v_this_at v_this_begin v_this_words v_this_paste0 u_court v_told v_high v_pad v_values)) [4, 0, 1, 2, 3, 5] rfl
        have hD := hD.sub (ws' := (w_M_findCourt ad a_this a_units a_kinds a_values a_names a_low a_high a_told a_leftOut a_isMade a_hands a_pad a_court a_title a_out k_court k_told k_high k_pad k_values v_this_thrown v_this_size v_this_families v_this_atHand v_this_family v_this_density v_this_pads v_this_hasThermal v_this_titleSize v_this_written v_this_at v_this_begin v_this_words v_this_paste0 u_court v_told v_high v_pad v_values)) [4, 0, 1, 2, 3, 5] (by decide) rfl
        refine lv_ladd hx hb dM_findCourt_226 ?_
        refine lv_lload_n hx hb dM_findCourt_227 rfl (lv_at hl 1 rfl) ?_
        refine zcall_l hP hD hS hA [] [0, 1, 2, 3, 4, 5] (va_runS (As := [.long ((u_court y3.toNatClampNeg) + r4), .long p1]) (rest := [.int y3, .ref a_court]) ⟨hx, hb, hml, hown, hts⟩ (c_M_up l dC dI ad _ ((u_court y3.toNatClampNeg) + r4) p1 _ h) ⟨callB_of 2 hts (zgood zc_M_up) rfl rfl rfl (hts _ zw_107) (hts _ zw_1218) (by decide +kernel) ⟨Nat.le_of_ble_eq_true rfl, Nat.le_of_ble_eq_true rfl⟩, (hts _ zw_1219)⟩ (zpreS hE hK hP hD hS hA [] [] (by rfl) (by rfl) (by decide)) rfl rfl hl.1 rfl (lv_room (Nat.le_of_ble_eq_true rfl)) dM_findCourt_228 ⟨Nat.le_of_ble_eq_true rfl, Nat.le_of_ble_eq_true rfl⟩) (by rfl) (by rfl) (by decide) (by decide) (fun r5 u H locs h hP hD hS => ?_)
        try dsimp only at h
        have hP := hP.sub (ws' := (w_M_findCourt ad a_this a_units a_kinds a_values a_names a_low a_high a_told a_leftOut a_isMade a_hands a_pad a_court a_title a_out k_court k_told k_high k_pad k_values v_this_thrown v_this_size v_this_families v_this_atHand v_this_family v_this_density v_this_pads v_this_hasThermal v_this_titleSize v_this_written v_this_at v_this_begin v_this_words v_this_paste0 u_court v_told v_high v_pad v_values)) [0, 1, 2, 3, 4, 5] rfl
        have hD := hD.sub (ws' := (w_M_findCourt ad a_this a_units a_kinds a_values a_names a_low a_high a_told a_leftOut a_isMade a_hands a_pad a_court a_title a_out k_court k_told k_high k_pad k_values v_this_thrown v_this_size v_this_families v_this_atHand v_this_family v_this_density v_this_pads v_this_hasThermal v_this_titleSize v_this_written v_this_at v_this_begin v_this_words v_this_paste0 u_court v_told v_high v_pad v_values)) [0, 1, 2, 3, 4, 5] (by decide) rfl
        exact w_M_findCourt_231 l C0 hE a_this a_units a_kinds a_values a_names a_low a_high a_told a_leftOut a_isMade a_hands a_pad a_court a_title a_out k_court k_told k_high k_pad k_values p1 v_this_thrown v_this_size v_this_families v_this_atHand v_this_family v_this_density v_this_pads v_this_hasThermal v_this_titleSize v_this_written v_this_at v_this_begin v_this_words v_this_paste0 v_court v_told v_high v_pad v_values post (P_M_findCourt_181 p1 v_this_family v_this_density v_values post n) ih hK y3 r5 y3 u_court _ _ h hP hD hS ls (lv_sub hl [0, 1, 2] rfl)
      · intro c2
        replace h := h.2 c2
        refine lv_aload_n hx hb dM_findCourt_196 rfl (lv_at hl 0 rfl) ?_
        refine va_get (D := (dC, dI)) (ci := 10) (v := .ref a_court) (C := RM) (T := TM) (N := 28) hx hb hts inZ_M hown hK hP 0 rfl rfl 18 (by decide) (hts _ zw_1062) (fun _ h9 => h9) rfl dM_findCourt_197 ?_
        refine lv_iload_n hx hb dM_findCourt_200 rfl (lv_at hl 2 rfl) ?_
        obtain ⟨hn6, h⟩ := h
        refine va_lald hx hb hK hP 1 0 rfl rfl hn6 dM_findCourt_201 ?_
        refine lv_aload_n hx hb dM_findCourt_202 rfl (lv_at hl 0 rfl) ?_
        refine lv_iconst (v := 3) hx hb dM_findCourt_203 (by decide) ?_
        refine zcall_l hP hD hS hA [0, 5] [1, 2, 3, 4] (va_runV (As := [.int 3]) (rest := [.long (u_court y3.toNatClampNeg), .int y3, .ref a_court]) ⟨hx, hb, hml, hown, hts⟩ (c_M_of l dC dI ad a_this a_units a_kinds a_values a_names a_low a_high a_told a_leftOut a_isMade a_hands a_pad a_court a_title a_out k_values _ 3 v_this_thrown v_this_size v_this_families v_this_atHand v_this_family v_this_density v_this_pads v_this_hasThermal v_this_titleSize v_this_written v_this_at v_this_begin v_this_words v_this_paste0 v_values _ h) ⟨callB_of 1 hts (zgood zc_M_of) rfl rfl rfl (hts _ zw_107) (hts _ zw_1201) (by decide +kernel) ⟨Nat.le_of_ble_eq_true rfl, Nat.le_of_ble_eq_true rfl⟩, (hts _ zw_1203), (hts _ zw_74)⟩ (zpreV hE hK hP hD hS hA [0, 5] [4] (by rfl) (by rfl) (by decide) (ci := 10) (q0 := 0) rfl (by rfl)) rfl rfl hl.1 rfl (lv_room (Nat.le_of_ble_eq_true rfl)) dM_findCourt_204 ⟨Nat.le_of_ble_eq_true rfl, Nat.le_of_ble_eq_true rfl⟩) (by rfl) (by rfl) (by decide) (by decide) (fun r7 u H locs h hP hD hS => ?_)
        try dsimp only at h
        have hP := hP.sub (ws' := (w_M_findCourt ad a_this a_units a_kinds a_values a_names a_low a_high a_told a_leftOut a_isMade a_hands a_pad a_court a_title a_out k_court k_told k_high k_pad k_values v_this_thrown v_this_size v_this_families v_this_atHand v_this_family v_this_density v_this_pads v_this_hasThermal v_this_titleSize v_this_written v_this_at v_this_begin v_this_words v_this_paste0 u_court v_told v_high v_pad v_values)) [4, 0, 1, 2, 3, 5] rfl
        have hD := hD.sub (ws' := (w_M_findCourt ad a_this a_units a_kinds a_values a_names a_low a_high a_told a_leftOut a_isMade a_hands a_pad a_court a_title a_out k_court k_told k_high k_pad k_values v_this_thrown v_this_size v_this_families v_this_atHand v_this_family v_this_density v_this_pads v_this_hasThermal v_this_titleSize v_this_written v_this_at v_this_begin v_this_words v_this_paste0 u_court v_told v_high v_pad v_values)) [4, 0, 1, 2, 3, 5] (by decide) rfl
        refine lv_lsub hx hb dM_findCourt_207 ?_
        refine lv_lload_n hx hb dM_findCourt_208 rfl (lv_at hl 1 rfl) ?_
        refine zcall_l hP hD hS hA [] [0, 1, 2, 3, 4, 5] (va_runS (As := [.long ((u_court y3.toNatClampNeg) - r7), .long p1]) (rest := [.int y3, .ref a_court]) ⟨hx, hb, hml, hown, hts⟩ (c_M_down l dC dI ad _ ((u_court y3.toNatClampNeg) - r7) p1 _ h) ⟨callB_of 2 hts (zgood zc_M_down) rfl rfl rfl (hts _ zw_107) (hts _ zw_1241) (by decide +kernel) ⟨Nat.le_of_ble_eq_true rfl, Nat.le_of_ble_eq_true rfl⟩, (hts _ zw_1242)⟩ (zpreS hE hK hP hD hS hA [] [] (by rfl) (by rfl) (by decide)) rfl rfl hl.1 rfl (lv_room (Nat.le_of_ble_eq_true rfl)) dM_findCourt_209 ⟨Nat.le_of_ble_eq_true rfl, Nat.le_of_ble_eq_true rfl⟩) (by rfl) (by rfl) (by decide) (by decide) (fun r8 u H locs h hP hD hS => ?_)
        try dsimp only at h
        have hP := hP.sub (ws' := (w_M_findCourt ad a_this a_units a_kinds a_values a_names a_low a_high a_told a_leftOut a_isMade a_hands a_pad a_court a_title a_out k_court k_told k_high k_pad k_values v_this_thrown v_this_size v_this_families v_this_atHand v_this_family v_this_density v_this_pads v_this_hasThermal v_this_titleSize v_this_written v_this_at v_this_begin v_this_words v_this_paste0 u_court v_told v_high v_pad v_values)) [0, 1, 2, 3, 4, 5] rfl
        have hD := hD.sub (ws' := (w_M_findCourt ad a_this a_units a_kinds a_values a_names a_low a_high a_told a_leftOut a_isMade a_hands a_pad a_court a_title a_out k_court k_told k_high k_pad k_values v_this_thrown v_this_size v_this_families v_this_atHand v_this_family v_this_density v_this_pads v_this_hasThermal v_this_titleSize v_this_written v_this_at v_this_begin v_this_words v_this_paste0 u_court v_told v_high v_pad v_values)) [0, 1, 2, 3, 4, 5] (by decide) rfl
        refine lv_goto (tgt := 231) hx hb dM_findCourt_212 (by decide) ?_
        exact w_M_findCourt_231 l C0 hE a_this a_units a_kinds a_values a_names a_low a_high a_told a_leftOut a_isMade a_hands a_pad a_court a_title a_out k_court k_told k_high k_pad k_values p1 v_this_thrown v_this_size v_this_families v_this_atHand v_this_family v_this_density v_this_pads v_this_hasThermal v_this_titleSize v_this_written v_this_at v_this_begin v_this_words v_this_paste0 v_court v_told v_high v_pad v_values post (P_M_findCourt_181 p1 v_this_family v_this_density v_values post n) ih hK y3 r8 y3 u_court _ _ h hP hD hS ls (lv_sub hl [0, 1, 2] rfl)
def P_M_findCourt_179 (p1 : Int64) (v_this_family : Int32) (v_this_density : Int32) (v_values : Nat → Int64) (post : (Nat → Int64) → Prop) (u_court : Nat → Int64) : Prop := ∃ n1, P_M_findCourt_181 p1 v_this_family v_this_density v_values post n1 0 u_court
set_option maxHeartbeats 4000000 in
set_option maxRecDepth 100000 in
theorem w_M_findCourt_179 (l : Launch) {p : Program} {e : Env} {s : State} {m : MethodId} {args : Array Value} {below : List Frame} {meth : Method} {c : Code} {dC : Nat → ClassId} {dI : Nat → Nat → Nat} {ad : Nat → Nat → Nat} {A : Nat → Prop} (C0 : zC p s m args meth c cM_findCourt 7 RM zT none A) (hE : zE ad A s) (a_this : Nat) (a_units : Nat) (a_kinds : Nat) (a_values : Nat) (a_names : Nat) (a_low : Nat) (a_high : Nat) (a_told : Nat) (a_leftOut : Nat) (a_isMade : Nat) (a_hands : Nat) (a_pad : Nat) (a_court : Nat) (a_title : Nat) (a_out : Nat) (k_court : ClassId) (k_told : ClassId) (k_high : ClassId) (k_pad : ClassId) (k_values : ClassId) (p1 : Int64) (v_this_thrown : Int32) (v_this_size : Int32) (v_this_families : Int32) (v_this_atHand : Int32) (v_this_family : Int32) (v_this_density : Int32) (v_this_pads : Int32) (v_this_hasThermal : Int32) (v_this_titleSize : Int32) (v_this_written : Int32) (v_this_at : Int32) (v_this_begin : Int32) (v_this_words : Int32) (v_this_paste0 : Int64) (v_court : Nat → Int64) (v_told : Nat → Int32) (v_high : Nat → Int64) (v_pad : Nat → Int64) (v_values : Nat → Int64) (post : (Nat → Int64) → Prop) (hK : va_K (dC, dI) vwCl [(k_court, .long), (k_told, .boolean), (k_high, .long), (k_pad, .long), (k_values, .long)] s) : ∀ (u_court : Nat → Int64) (H : Heap) (locs : List Loc), P_M_findCourt_179 p1 v_this_family v_this_density v_values post u_court → va_P (dC, dI) vwCl (w_M_findCourt ad a_this a_units a_kinds a_values a_names a_low a_high a_told a_leftOut a_isMade a_hands a_pad a_court a_title a_out k_court k_told k_high k_pad k_values v_this_thrown v_this_size v_this_families v_this_atHand v_this_family v_this_density v_this_pads v_this_hasThermal v_this_titleSize v_this_written v_this_at v_this_begin v_this_words v_this_paste0 u_court v_told v_high v_pad v_values) H → va_D A (w_M_findCourt ad a_this a_units a_kinds a_values a_names a_low a_high a_told a_leftOut a_isMade a_hands a_pad a_court a_title a_out k_court k_told k_high k_pad k_values v_this_thrown v_this_size v_this_families v_this_atHand v_this_family v_this_density v_this_pads v_this_hasThermal v_this_titleSize v_this_written v_this_at v_this_begin v_this_words v_this_paste0 u_court v_told v_high v_pad v_values) → va_S A s.heap H locs → ∀ ls : Array Slot, lv_has ls 7 [(0, .ref a_this), (1, .long p1)] → W p l e (headSpec wsM_findCourt { frames := 1, cells := 0, slots := 0, locals := 28 }).room s m args below meth c H locs 0 0 (MQ below (va_Qv (fun (u : (Nat → Int64)) => post u) (zB (dC, dI) A (fun (u : (Nat → Int64)) => (w_M_findCourt ad a_this a_units a_kinds a_values a_names a_low a_high a_told a_leftOut a_isMade a_hands a_pad a_court a_title a_out k_court k_told k_high k_pad k_values v_this_thrown v_this_size v_this_families v_this_atHand v_this_family v_this_density v_this_pads v_this_hasThermal v_this_titleSize v_this_written v_this_at v_this_begin v_this_words v_this_paste0 u v_told v_high v_pad v_values))) A) args s 0 0 A) (F0 m 179 ls []) := by
  obtain ⟨hx, hb, hr, hml, hown, hts, hlocks, hA⟩ := id C0
  intro u_court H locs h hP hD hS ls hl
  unfold P_M_findCourt_179 at h
  refine lv_iconst (v := 0) hx hb dM_findCourt_179 (by decide) ?_
  refine lv_istore_n (lv' := [(3, .int 0), (0, .ref a_this), (1, .long p1)]) hx hb dM_findCourt_180 rfl hl (by decide) rfl (fun ls hl => ?_)
  obtain ⟨n1, h⟩ := h
  exact w_M_findCourt_181 l C0 hE a_this a_units a_kinds a_values a_names a_low a_high a_told a_leftOut a_isMade a_hands a_pad a_court a_title a_out k_court k_told k_high k_pad k_values p1 v_this_thrown v_this_size v_this_families v_this_atHand v_this_family v_this_density v_this_pads v_this_hasThermal v_this_titleSize v_this_written v_this_at v_this_begin v_this_words v_this_paste0 v_court v_told v_high v_pad v_values post hK n1 0 u_court _ _ h hP hD hS ls (lv_sub hl [1, 2, 0] rfl)
def P_M_findCourt_35 (p1 : Int64) (v_this_family : Int32) (v_this_density : Int32) (v_this_pads : Int32) (v_told : Nat → Int32) (v_high : Nat → Int64) (v_pad : Nat → Int64) (v_values : Nat → Int64) (post : (Nat → Int64) → Prop) : Nat → Int32 → (Nat → Int64) → Prop
  | 0, _, _ => False
  | n + 1, y3, u_court => (((7 * v_this_pads) ≤ y3 → vp_in 10 12 ∧ (((v_told (10 : Int32).toNatClampNeg) = 0 → P_M_findCourt_179 p1 v_this_family v_this_density v_values post u_court) ∧ (¬ (v_told (10 : Int32).toNatClampNeg) = 0 → vp_in 11 12 ∧ (((v_told (11 : Int32).toNatClampNeg) = 0 → P_M_findCourt_179 p1 v_this_family v_this_density v_values post u_court) ∧ (¬ (v_told (11 : Int32).toNatClampNeg) = 0 → vp_in 10 12 ∧ P_M_up (v_high (10 : Int32).toNatClampNeg) (2 * p1) (fun (r7 : Int64) => ∀ x8 : Int64, x8 = r7 / 2 → vp_in 11 12 ∧ P_M_up (v_high (11 : Int32).toNatClampNeg) (2 * p1) (fun (r10 : Int64) => ∀ x11 : Int64, x11 = r10 / 2 → P_M_wider (-x8) (-x11) x8 x11 u_court (fun (u12 : Nat → Int64) => P_M_findCourt_179 p1 v_this_family v_this_density v_values post u12)))))))) ∧ (¬ (7 * v_this_pads) ≤ y3 → vp_in (y3 + 1) 455 ∧ vp_in (y3 + 2) 455 ∧ vp_in (y3 + 1) 455 ∧ vp_in (y3 + 3) 455 ∧ vp_in (y3 + 2) 455 ∧ vp_in (y3 + 4) 455 ∧ P_M_wider (v_pad (y3 + 1).toNatClampNeg) (v_pad (y3 + 2).toNatClampNeg) ((v_pad (y3 + 1).toNatClampNeg) + (v_pad (y3 + 3).toNatClampNeg)) ((v_pad (y3 + 2).toNatClampNeg) + (v_pad (y3 + 4).toNatClampNeg)) u_court (fun (u19 : Nat → Int64) => ∀ x20 : Int32, x20 = y3 + 7 → P_M_findCourt_35 p1 v_this_family v_this_density v_this_pads v_told v_high v_pad v_values post n x20 u19)))
set_option maxHeartbeats 4000000 in
set_option maxRecDepth 100000 in
theorem w_M_findCourt_35 (l : Launch) {p : Program} {e : Env} {s : State} {m : MethodId} {args : Array Value} {below : List Frame} {meth : Method} {c : Code} {dC : Nat → ClassId} {dI : Nat → Nat → Nat} {ad : Nat → Nat → Nat} {A : Nat → Prop} (C0 : zC p s m args meth c cM_findCourt 7 RM zT none A) (hE : zE ad A s) (a_this : Nat) (a_units : Nat) (a_kinds : Nat) (a_values : Nat) (a_names : Nat) (a_low : Nat) (a_high : Nat) (a_told : Nat) (a_leftOut : Nat) (a_isMade : Nat) (a_hands : Nat) (a_pad : Nat) (a_court : Nat) (a_title : Nat) (a_out : Nat) (k_court : ClassId) (k_told : ClassId) (k_high : ClassId) (k_pad : ClassId) (k_values : ClassId) (p1 : Int64) (v_this_thrown : Int32) (v_this_size : Int32) (v_this_families : Int32) (v_this_atHand : Int32) (v_this_family : Int32) (v_this_density : Int32) (v_this_pads : Int32) (v_this_hasThermal : Int32) (v_this_titleSize : Int32) (v_this_written : Int32) (v_this_at : Int32) (v_this_begin : Int32) (v_this_words : Int32) (v_this_paste0 : Int64) (v_court : Nat → Int64) (v_told : Nat → Int32) (v_high : Nat → Int64) (v_pad : Nat → Int64) (v_values : Nat → Int64) (post : (Nat → Int64) → Prop) (hK : va_K (dC, dI) vwCl [(k_court, .long), (k_told, .boolean), (k_high, .long), (k_pad, .long), (k_values, .long)] s) : ∀ (n : Nat), ∀ (y3 : Int32) (u_court : Nat → Int64) (H : Heap) (locs : List Loc), P_M_findCourt_35 p1 v_this_family v_this_density v_this_pads v_told v_high v_pad v_values post n y3 u_court → va_P (dC, dI) vwCl (w_M_findCourt ad a_this a_units a_kinds a_values a_names a_low a_high a_told a_leftOut a_isMade a_hands a_pad a_court a_title a_out k_court k_told k_high k_pad k_values v_this_thrown v_this_size v_this_families v_this_atHand v_this_family v_this_density v_this_pads v_this_hasThermal v_this_titleSize v_this_written v_this_at v_this_begin v_this_words v_this_paste0 u_court v_told v_high v_pad v_values) H → va_D A (w_M_findCourt ad a_this a_units a_kinds a_values a_names a_low a_high a_told a_leftOut a_isMade a_hands a_pad a_court a_title a_out k_court k_told k_high k_pad k_values v_this_thrown v_this_size v_this_families v_this_atHand v_this_family v_this_density v_this_pads v_this_hasThermal v_this_titleSize v_this_written v_this_at v_this_begin v_this_words v_this_paste0 u_court v_told v_high v_pad v_values) → va_S A s.heap H locs → ∀ ls : Array Slot, lv_has ls 7 [(0, .ref a_this), (1, .long p1), (3, .int y3)] → W p l e (headSpec wsM_findCourt { frames := 1, cells := 0, slots := 0, locals := 28 }).room s m args below meth c H locs 0 0 (MQ below (va_Qv (fun (u : (Nat → Int64)) => post u) (zB (dC, dI) A (fun (u : (Nat → Int64)) => (w_M_findCourt ad a_this a_units a_kinds a_values a_names a_low a_high a_told a_leftOut a_isMade a_hands a_pad a_court a_title a_out k_court k_told k_high k_pad k_values v_this_thrown v_this_size v_this_families v_this_atHand v_this_family v_this_density v_this_pads v_this_hasThermal v_this_titleSize v_this_written v_this_at v_this_begin v_this_words v_this_paste0 u v_told v_high v_pad v_values))) A) args s 0 0 A) (F0 m 35 ls []) := by
  obtain ⟨hx, hb, hr, hml, hown, hts, hlocks, hA⟩ := id C0
  intro n
  induction n with
  | zero =>
    intro y3 u_court H locs h
    exact False.elim h
  | succ n ih =>
    intro y3 u_court H locs h hP hD hS ls hl
    rw [P_M_findCourt_35] at h
    refine lv_iload_n hx hb dM_findCourt_35 rfl (lv_at hl 2 rfl) ?_
    refine lv_bipush (v := 7) hx hb dM_findCourt_36 (by decide) ?_
    refine lv_aload_n hx hb dM_findCourt_38 rfl (lv_at hl 0 rfl) ?_
    refine va_get (D := (dC, dI)) (ci := 10) (v := .int v_this_pads) (C := RM) (T := TM) (N := 28) hx hb hts inZ_M hown hK hP 0 rfl rfl 16 (by decide) (hts _ zw_1060) (fun _ h9 => h9) rfl dM_findCourt_39 ?_
    refine lv_imul hx hb dM_findCourt_42 ?_
    refine lv_icmp_ge (tgt := 106) hx hb dM_findCourt_43 (by decide) ?_ ?_
    · intro c1
      replace h := h.1 c1
      refine lv_aload_n hx hb dM_findCourt_106 rfl (lv_at hl 0 rfl) ?_
      refine va_get (D := (dC, dI)) (ci := 10) (v := .ref a_told) (C := RM) (T := TM) (N := 28) hx hb hts inZ_M hown hK hP 0 rfl rfl 9 (by decide) (hts _ zw_1053) (fun _ h9 => h9) rfl dM_findCourt_107 ?_
      refine lv_bipush (v := 10) hx hb dM_findCourt_110 (by decide) ?_
      obtain ⟨hn2, h⟩ := h
      refine va_zald hx hb hK hP 2 1 rfl rfl hn2 dM_findCourt_112 ?_
      refine lv_if_eq (tgt := 179) hx hb dM_findCourt_113 (by decide) ?_ ?_
      · intro c3
        replace h := h.1 c3
        exact w_M_findCourt_179 l C0 hE a_this a_units a_kinds a_values a_names a_low a_high a_told a_leftOut a_isMade a_hands a_pad a_court a_title a_out k_court k_told k_high k_pad k_values p1 v_this_thrown v_this_size v_this_families v_this_atHand v_this_family v_this_density v_this_pads v_this_hasThermal v_this_titleSize v_this_written v_this_at v_this_begin v_this_words v_this_paste0 v_court v_told v_high v_pad v_values post hK u_court _ _ h hP hD hS ls (lv_sub hl [0, 1] rfl)
      · intro c3
        replace h := h.2 c3
        refine lv_aload_n hx hb dM_findCourt_116 rfl (lv_at hl 0 rfl) ?_
        refine va_get (D := (dC, dI)) (ci := 10) (v := .ref a_told) (C := RM) (T := TM) (N := 28) hx hb hts inZ_M hown hK hP 0 rfl rfl 9 (by decide) (hts _ zw_1053) (fun _ h9 => h9) rfl dM_findCourt_117 ?_
        refine lv_bipush (v := 11) hx hb dM_findCourt_120 (by decide) ?_
        obtain ⟨hn4, h⟩ := h
        refine va_zald hx hb hK hP 2 1 rfl rfl hn4 dM_findCourt_122 ?_
        refine lv_if_eq (tgt := 179) hx hb dM_findCourt_123 (by decide) ?_ ?_
        · intro c5
          replace h := h.1 c5
          exact w_M_findCourt_179 l C0 hE a_this a_units a_kinds a_values a_names a_low a_high a_told a_leftOut a_isMade a_hands a_pad a_court a_title a_out k_court k_told k_high k_pad k_values p1 v_this_thrown v_this_size v_this_families v_this_atHand v_this_family v_this_density v_this_pads v_this_hasThermal v_this_titleSize v_this_written v_this_at v_this_begin v_this_words v_this_paste0 v_court v_told v_high v_pad v_values post hK u_court _ _ h hP hD hS ls (lv_sub hl [0, 1] rfl)
        · intro c5
          replace h := h.2 c5
          refine lv_aload_n hx hb dM_findCourt_126 rfl (lv_at hl 0 rfl) ?_
          refine va_get (D := (dC, dI)) (ci := 10) (v := .ref a_high) (C := RM) (T := TM) (N := 28) hx hb hts inZ_M hown hK hP 0 rfl rfl 8 (by decide) (hts _ zw_1052) (fun _ h9 => h9) rfl dM_findCourt_127 ?_
          refine lv_bipush (v := 10) hx hb dM_findCourt_130 (by decide) ?_
          obtain ⟨hn6, h⟩ := h
          refine va_lald hx hb hK hP 3 2 rfl rfl hn6 dM_findCourt_132 ?_
          refine lv_ldc2 (own := RM) (index := 90) (v := 2) hx hb hown (hts _ zw_1179) dM_findCourt_133 ?_
          refine lv_lload_n hx hb dM_findCourt_136 rfl (lv_at hl 1 rfl) ?_
          refine lv_lmul hx hb dM_findCourt_137 ?_
          refine zcall_l hP hD hS hA [] [0, 1, 2, 3, 4, 5] (va_runS (As := [.long (v_high (10 : Int32).toNatClampNeg), .long (2 * p1)]) (rest := []) ⟨hx, hb, hml, hown, hts⟩ (c_M_up l dC dI ad _ (v_high (10 : Int32).toNatClampNeg) (2 * p1) _ h) ⟨callB_of 2 hts (zgood zc_M_up) rfl rfl rfl (hts _ zw_107) (hts _ zw_1218) (by decide +kernel) ⟨Nat.le_of_ble_eq_true rfl, Nat.le_of_ble_eq_true rfl⟩, (hts _ zw_1219)⟩ (zpreS hE hK hP hD hS hA [] [] (by rfl) (by rfl) (by decide)) rfl rfl hl.1 rfl (lv_room (Nat.le_of_ble_eq_true rfl)) dM_findCourt_138 ⟨Nat.le_of_ble_eq_true rfl, Nat.le_of_ble_eq_true rfl⟩) (by rfl) (by rfl) (by decide) (by decide) (fun r7 u H locs h hP hD hS => ?_)
          try dsimp only at h
          have hP := hP.sub (ws' := (w_M_findCourt ad a_this a_units a_kinds a_values a_names a_low a_high a_told a_leftOut a_isMade a_hands a_pad a_court a_title a_out k_court k_told k_high k_pad k_values v_this_thrown v_this_size v_this_families v_this_atHand v_this_family v_this_density v_this_pads v_this_hasThermal v_this_titleSize v_this_written v_this_at v_this_begin v_this_words v_this_paste0 u_court v_told v_high v_pad v_values)) [0, 1, 2, 3, 4, 5] rfl
          have hD := hD.sub (ws' := (w_M_findCourt ad a_this a_units a_kinds a_values a_names a_low a_high a_told a_leftOut a_isMade a_hands a_pad a_court a_title a_out k_court k_told k_high k_pad k_values v_this_thrown v_this_size v_this_families v_this_atHand v_this_family v_this_density v_this_pads v_this_hasThermal v_this_titleSize v_this_written v_this_at v_this_begin v_this_words v_this_paste0 u_court v_told v_high v_pad v_values)) [0, 1, 2, 3, 4, 5] (by decide) rfl
          refine lv_ldc2 (own := RM) (index := 90) (v := 2) hx hb hown (hts _ zw_1179) dM_findCourt_141 ?_
          refine lv_ldiv hx hb dM_findCourt_144 (by decide) ?_
          refine lv_topl (fun x8 ex8 => ?_)
          replace h := h x8 ex8
          refine lv_lstore_n (lv' := [(3, .long x8), (0, .ref a_this), (1, .long p1)]) hx hb dM_findCourt_145 rfl hl (by decide) rfl (fun ls hl => ?_)
          refine lv_aload_n hx hb dM_findCourt_146 rfl (lv_at hl 1 rfl) ?_
          refine va_get (D := (dC, dI)) (ci := 10) (v := .ref a_high) (C := RM) (T := TM) (N := 28) hx hb hts inZ_M hown hK hP 0 rfl rfl 8 (by decide) (hts _ zw_1052) (fun _ h9 => h9) rfl dM_findCourt_147 ?_
          refine lv_bipush (v := 11) hx hb dM_findCourt_150 (by decide) ?_
          obtain ⟨hn9, h⟩ := h
          refine va_lald hx hb hK hP 3 2 rfl rfl hn9 dM_findCourt_152 ?_
          refine lv_ldc2 (own := RM) (index := 90) (v := 2) hx hb hown (hts _ zw_1179) dM_findCourt_153 ?_
          refine lv_lload_n hx hb dM_findCourt_156 rfl (lv_at hl 2 rfl) ?_
          refine lv_lmul hx hb dM_findCourt_157 ?_
          refine zcall_l hP hD hS hA [] [0, 1, 2, 3, 4, 5] (va_runS (As := [.long (v_high (11 : Int32).toNatClampNeg), .long (2 * p1)]) (rest := []) ⟨hx, hb, hml, hown, hts⟩ (c_M_up l dC dI ad _ (v_high (11 : Int32).toNatClampNeg) (2 * p1) _ h) ⟨callB_of 2 hts (zgood zc_M_up) rfl rfl rfl (hts _ zw_107) (hts _ zw_1218) (by decide +kernel) ⟨Nat.le_of_ble_eq_true rfl, Nat.le_of_ble_eq_true rfl⟩, (hts _ zw_1219)⟩ (zpreS hE hK hP hD hS hA [] [] (by rfl) (by rfl) (by decide)) rfl rfl hl.1 rfl (lv_room (Nat.le_of_ble_eq_true rfl)) dM_findCourt_158 ⟨Nat.le_of_ble_eq_true rfl, Nat.le_of_ble_eq_true rfl⟩) (by rfl) (by rfl) (by decide) (by decide) (fun r10 u H locs h hP hD hS => ?_)
          try dsimp only at h
          have hP := hP.sub (ws' := (w_M_findCourt ad a_this a_units a_kinds a_values a_names a_low a_high a_told a_leftOut a_isMade a_hands a_pad a_court a_title a_out k_court k_told k_high k_pad k_values v_this_thrown v_this_size v_this_families v_this_atHand v_this_family v_this_density v_this_pads v_this_hasThermal v_this_titleSize v_this_written v_this_at v_this_begin v_this_words v_this_paste0 u_court v_told v_high v_pad v_values)) [0, 1, 2, 3, 4, 5] rfl
          have hD := hD.sub (ws' := (w_M_findCourt ad a_this a_units a_kinds a_values a_names a_low a_high a_told a_leftOut a_isMade a_hands a_pad a_court a_title a_out k_court k_told k_high k_pad k_values v_this_thrown v_this_size v_this_families v_this_atHand v_this_family v_this_density v_this_pads v_this_hasThermal v_this_titleSize v_this_written v_this_at v_this_begin v_this_words v_this_paste0 u_court v_told v_high v_pad v_values)) [0, 1, 2, 3, 4, 5] (by decide) rfl
          refine lv_ldc2 (own := RM) (index := 90) (v := 2) hx hb hown (hts _ zw_1179) dM_findCourt_161 ?_
          refine lv_ldiv hx hb dM_findCourt_164 (by decide) ?_
          refine lv_topl (fun x11 ex11 => ?_)
          replace h := h x11 ex11
          refine lv_lstore (lv' := [(5, .long x11), (3, .long x8), (0, .ref a_this), (1, .long p1)]) hx hb dM_findCourt_165 hl (by decide) rfl (fun ls hl => ?_)
          refine lv_aload_n hx hb dM_findCourt_167 rfl (lv_at hl 2 rfl) ?_
          refine lv_lload_n hx hb dM_findCourt_168 rfl (lv_at hl 1 rfl) ?_
          refine lv_lneg hx hb dM_findCourt_169 ?_
          refine lv_lload hx hb dM_findCourt_170 (lv_at hl 0 rfl) ?_
          refine lv_lneg hx hb dM_findCourt_172 ?_
          refine lv_lload_n hx hb dM_findCourt_173 rfl (lv_at hl 1 rfl) ?_
          refine lv_lload hx hb dM_findCourt_174 (lv_at hl 0 rfl) ?_
          refine zcall_v hP hD hS hA [0, 1] [2, 3, 4, 5] (va_runV (As := [.long (-x8), .long (-x11), .long x8, .long x11]) (rest := []) ⟨hx, hb, hml, hown, hts⟩ (c_M_wider l dC dI ad a_this a_units a_kinds a_values a_names a_low a_high a_told a_leftOut a_isMade a_hands a_pad a_court a_title a_out k_court _ (-x8) (-x11) x8 x11 v_this_thrown v_this_size v_this_families v_this_atHand v_this_family v_this_density v_this_pads v_this_hasThermal v_this_titleSize v_this_written v_this_at v_this_begin v_this_words v_this_paste0 u_court _ h) ⟨callB_of 4 hts (zgood zc_M_wider) rfl rfl rfl (hts _ zw_107) (hts _ zw_1255) (by decide +kernel) ⟨Nat.le_of_ble_eq_true rfl, Nat.le_of_ble_eq_true rfl⟩, (hts _ zw_1257), (hts _ zw_84)⟩ (zpreV hE hK hP hD hS hA [0, 1] [0] (by rfl) (by rfl) (by decide) (ci := 10) (q0 := 0) rfl (by rfl)) rfl rfl hl.1 rfl (lv_room (Nat.le_of_ble_eq_true rfl)) dM_findCourt_176 ⟨Nat.le_of_ble_eq_true rfl, Nat.le_of_ble_eq_true rfl⟩) (by rfl) (by rfl) (by decide) (by decide) (fun u12 H locs h hP hD hS => ?_)
          try dsimp only at h
          have hP := hP.sub (ws' := (w_M_findCourt ad a_this a_units a_kinds a_values a_names a_low a_high a_told a_leftOut a_isMade a_hands a_pad a_court a_title a_out k_court k_told k_high k_pad k_values v_this_thrown v_this_size v_this_families v_this_atHand v_this_family v_this_density v_this_pads v_this_hasThermal v_this_titleSize v_this_written v_this_at v_this_begin v_this_words v_this_paste0 u12 v_told v_high v_pad v_values)) [4, 5, 0, 1, 2, 3] rfl
          have hD := hD.sub (ws' := (w_M_findCourt ad a_this a_units a_kinds a_values a_names a_low a_high a_told a_leftOut a_isMade a_hands a_pad a_court a_title a_out k_court k_told k_high k_pad k_values v_this_thrown v_this_size v_this_families v_this_atHand v_this_family v_this_density v_this_pads v_this_hasThermal v_this_titleSize v_this_written v_this_at v_this_begin v_this_words v_this_paste0 u12 v_told v_high v_pad v_values)) [4, 5, 0, 1, 2, 3] (by decide) rfl
          exact w_M_findCourt_179 l C0 hE a_this a_units a_kinds a_values a_names a_low a_high a_told a_leftOut a_isMade a_hands a_pad a_court a_title a_out k_court k_told k_high k_pad k_values p1 v_this_thrown v_this_size v_this_families v_this_atHand v_this_family v_this_density v_this_pads v_this_hasThermal v_this_titleSize v_this_written v_this_at v_this_begin v_this_words v_this_paste0 v_court v_told v_high v_pad v_values post hK u12 _ _ h hP hD hS ls (lv_sub hl [2, 3] rfl)
    · intro c1
      replace h := h.2 c1
      refine lv_aload_n hx hb dM_findCourt_46 rfl (lv_at hl 0 rfl) ?_
      refine lv_aload_n hx hb dM_findCourt_47 rfl (lv_at hl 0 rfl) ?_
      refine va_get (D := (dC, dI)) (ci := 10) (v := .ref a_pad) (C := RM) (T := TM) (N := 28) hx hb hts inZ_M hown hK hP 0 rfl rfl 17 (by decide) (hts _ zw_1061) (fun _ h9 => h9) rfl dM_findCourt_48 ?_
      refine lv_iload_n hx hb dM_findCourt_51 rfl (lv_at hl 2 rfl) ?_
      refine lv_iconst (v := 1) hx hb dM_findCourt_52 (by decide) ?_
      refine lv_iadd hx hb dM_findCourt_53 ?_
      obtain ⟨hn13, h⟩ := h
      refine va_lald hx hb hK hP 4 3 rfl rfl hn13 dM_findCourt_54 ?_
      refine lv_aload_n hx hb dM_findCourt_55 rfl (lv_at hl 0 rfl) ?_
      refine va_get (D := (dC, dI)) (ci := 10) (v := .ref a_pad) (C := RM) (T := TM) (N := 28) hx hb hts inZ_M hown hK hP 0 rfl rfl 17 (by decide) (hts _ zw_1061) (fun _ h9 => h9) rfl dM_findCourt_56 ?_
      refine lv_iload_n hx hb dM_findCourt_59 rfl (lv_at hl 2 rfl) ?_
      refine lv_iconst (v := 2) hx hb dM_findCourt_60 (by decide) ?_
      refine lv_iadd hx hb dM_findCourt_61 ?_
      obtain ⟨hn14, h⟩ := h
      refine va_lald hx hb hK hP 4 3 rfl rfl hn14 dM_findCourt_62 ?_
      refine lv_aload_n hx hb dM_findCourt_63 rfl (lv_at hl 0 rfl) ?_
      refine va_get (D := (dC, dI)) (ci := 10) (v := .ref a_pad) (C := RM) (T := TM) (N := 28) hx hb hts inZ_M hown hK hP 0 rfl rfl 17 (by decide) (hts _ zw_1061) (fun _ h9 => h9) rfl dM_findCourt_64 ?_
      refine lv_iload_n hx hb dM_findCourt_67 rfl (lv_at hl 2 rfl) ?_
      refine lv_iconst (v := 1) hx hb dM_findCourt_68 (by decide) ?_
      refine lv_iadd hx hb dM_findCourt_69 ?_
      obtain ⟨hn15, h⟩ := h
      refine va_lald hx hb hK hP 4 3 rfl rfl hn15 dM_findCourt_70 ?_
      refine lv_aload_n hx hb dM_findCourt_71 rfl (lv_at hl 0 rfl) ?_
      refine va_get (D := (dC, dI)) (ci := 10) (v := .ref a_pad) (C := RM) (T := TM) (N := 28) hx hb hts inZ_M hown hK hP 0 rfl rfl 17 (by decide) (hts _ zw_1061) (fun _ h9 => h9) rfl dM_findCourt_72 ?_
      refine lv_iload_n hx hb dM_findCourt_75 rfl (lv_at hl 2 rfl) ?_
      refine lv_iconst (v := 3) hx hb dM_findCourt_76 (by decide) ?_
      refine lv_iadd hx hb dM_findCourt_77 ?_
      obtain ⟨hn16, h⟩ := h
      refine va_lald hx hb hK hP 4 3 rfl rfl hn16 dM_findCourt_78 ?_
      refine lv_ladd hx hb dM_findCourt_79 ?_
      refine lv_aload_n hx hb dM_findCourt_80 rfl (lv_at hl 0 rfl) ?_
      refine va_get (D := (dC, dI)) (ci := 10) (v := .ref a_pad) (C := RM) (T := TM) (N := 28) hx hb hts inZ_M hown hK hP 0 rfl rfl 17 (by decide) (hts _ zw_1061) (fun _ h9 => h9) rfl dM_findCourt_81 ?_
      refine lv_iload_n hx hb dM_findCourt_84 rfl (lv_at hl 2 rfl) ?_
      refine lv_iconst (v := 2) hx hb dM_findCourt_85 (by decide) ?_
      refine lv_iadd hx hb dM_findCourt_86 ?_
      obtain ⟨hn17, h⟩ := h
      refine va_lald hx hb hK hP 4 3 rfl rfl hn17 dM_findCourt_87 ?_
      refine lv_aload_n hx hb dM_findCourt_88 rfl (lv_at hl 0 rfl) ?_
      refine va_get (D := (dC, dI)) (ci := 10) (v := .ref a_pad) (C := RM) (T := TM) (N := 28) hx hb hts inZ_M hown hK hP 0 rfl rfl 17 (by decide) (hts _ zw_1061) (fun _ h9 => h9) rfl dM_findCourt_89 ?_
      refine lv_iload_n hx hb dM_findCourt_92 rfl (lv_at hl 2 rfl) ?_
      refine lv_iconst (v := 4) hx hb dM_findCourt_93 (by decide) ?_
      refine lv_iadd hx hb dM_findCourt_94 ?_
      obtain ⟨hn18, h⟩ := h
      refine va_lald hx hb hK hP 4 3 rfl rfl hn18 dM_findCourt_95 ?_
      refine lv_ladd hx hb dM_findCourt_96 ?_
      refine zcall_v hP hD hS hA [0, 1] [2, 3, 4, 5] (va_runV (As := [.long (v_pad (y3 + 1).toNatClampNeg), .long (v_pad (y3 + 2).toNatClampNeg), .long ((v_pad (y3 + 1).toNatClampNeg) + (v_pad (y3 + 3).toNatClampNeg)), .long ((v_pad (y3 + 2).toNatClampNeg) + (v_pad (y3 + 4).toNatClampNeg))]) (rest := []) ⟨hx, hb, hml, hown, hts⟩ (c_M_wider l dC dI ad a_this a_units a_kinds a_values a_names a_low a_high a_told a_leftOut a_isMade a_hands a_pad a_court a_title a_out k_court _ (v_pad (y3 + 1).toNatClampNeg) (v_pad (y3 + 2).toNatClampNeg) ((v_pad (y3 + 1).toNatClampNeg) + (v_pad (y3 + 3).toNatClampNeg)) ((v_pad (y3 + 2).toNatClampNeg) + (v_pad (y3 + 4).toNatClampNeg)) v_this_thrown v_this_size v_this_families v_this_atHand v_this_family v_this_density v_this_pads v_this_hasThermal v_this_titleSize v_this_written v_this_at v_this_begin v_this_words v_this_paste0 u_court _ h) ⟨callB_of 4 hts (zgood zc_M_wider) rfl rfl rfl (hts _ zw_107) (hts _ zw_1255) (by decide +kernel) ⟨Nat.le_of_ble_eq_true rfl, Nat.le_of_ble_eq_true rfl⟩, (hts _ zw_1257), (hts _ zw_84)⟩ (zpreV hE hK hP hD hS hA [0, 1] [0] (by rfl) (by rfl) (by decide) (ci := 10) (q0 := 0) rfl (by rfl)) rfl rfl hl.1 rfl (lv_room (Nat.le_of_ble_eq_true rfl)) dM_findCourt_97 ⟨Nat.le_of_ble_eq_true rfl, Nat.le_of_ble_eq_true rfl⟩) (by rfl) (by rfl) (by decide) (by decide) (fun u19 H locs h hP hD hS => ?_)
      try dsimp only at h
      have hP := hP.sub (ws' := (w_M_findCourt ad a_this a_units a_kinds a_values a_names a_low a_high a_told a_leftOut a_isMade a_hands a_pad a_court a_title a_out k_court k_told k_high k_pad k_values v_this_thrown v_this_size v_this_families v_this_atHand v_this_family v_this_density v_this_pads v_this_hasThermal v_this_titleSize v_this_written v_this_at v_this_begin v_this_words v_this_paste0 u19 v_told v_high v_pad v_values)) [4, 5, 0, 1, 2, 3] rfl
      have hD := hD.sub (ws' := (w_M_findCourt ad a_this a_units a_kinds a_values a_names a_low a_high a_told a_leftOut a_isMade a_hands a_pad a_court a_title a_out k_court k_told k_high k_pad k_values v_this_thrown v_this_size v_this_families v_this_atHand v_this_family v_this_density v_this_pads v_this_hasThermal v_this_titleSize v_this_written v_this_at v_this_begin v_this_words v_this_paste0 u19 v_told v_high v_pad v_values)) [4, 5, 0, 1, 2, 3] (by decide) rfl
      obtain ⟨x20, ex20⟩ : ∃ y : Int32, y = y3 + 7 := ⟨_, rfl⟩
      replace h := h x20 ex20
      refine lv_iinc (v := x20) (lv' := [(3, .int x20), (0, .ref a_this), (1, .long p1)]) hx hb dM_findCourt_100 hl (k := 2) rfl (by rw [ex20]; rfl) (by decide) rfl (fun ls hl => ?_)
      refine lv_goto (tgt := 35) hx hb dM_findCourt_103 (by decide) ?_
      exact ih x20 u19 _ _ h hP hD hS ls (lv_sub hl [1, 2, 0] rfl)
def P_M_findCourt_26  (post : (Nat → Int64) → Prop) (K2 : Int32 → (Nat → Int64) → Prop) (y3 : Int32) (t0 : Int64) (t1 : Int32) (u_court : Nat → Int64) : Prop := vp_in t1 4 ∧ ∀ x2 : Int32, x2 = y3 + 1 → K2 x2 (vp_updL u_court t1.toNatClampNeg t0)
set_option maxHeartbeats 4000000 in
set_option maxRecDepth 100000 in
theorem w_M_findCourt_26 (l : Launch) {p : Program} {e : Env} {s : State} {m : MethodId} {args : Array Value} {below : List Frame} {meth : Method} {c : Code} {dC : Nat → ClassId} {dI : Nat → Nat → Nat} {ad : Nat → Nat → Nat} {A : Nat → Prop} (C0 : zC p s m args meth c cM_findCourt 7 RM zT none A) (hE : zE ad A s) (a_this : Nat) (a_units : Nat) (a_kinds : Nat) (a_values : Nat) (a_names : Nat) (a_low : Nat) (a_high : Nat) (a_told : Nat) (a_leftOut : Nat) (a_isMade : Nat) (a_hands : Nat) (a_pad : Nat) (a_court : Nat) (a_title : Nat) (a_out : Nat) (k_court : ClassId) (k_told : ClassId) (k_high : ClassId) (k_pad : ClassId) (k_values : ClassId) (p1 : Int64) (v_this_thrown : Int32) (v_this_size : Int32) (v_this_families : Int32) (v_this_atHand : Int32) (v_this_family : Int32) (v_this_density : Int32) (v_this_pads : Int32) (v_this_hasThermal : Int32) (v_this_titleSize : Int32) (v_this_written : Int32) (v_this_at : Int32) (v_this_begin : Int32) (v_this_words : Int32) (v_this_paste0 : Int64) (v_court : Nat → Int64) (v_told : Nat → Int32) (v_high : Nat → Int64) (v_pad : Nat → Int64) (v_values : Nat → Int64) (post : (Nat → Int64) → Prop) (K2 : Int32 → (Nat → Int64) → Prop) (hK2 : ∀ (y3 : Int32) (u_court : Nat → Int64) (H : Heap) (locs : List Loc), K2 y3 u_court → va_P (dC, dI) vwCl (w_M_findCourt ad a_this a_units a_kinds a_values a_names a_low a_high a_told a_leftOut a_isMade a_hands a_pad a_court a_title a_out k_court k_told k_high k_pad k_values v_this_thrown v_this_size v_this_families v_this_atHand v_this_family v_this_density v_this_pads v_this_hasThermal v_this_titleSize v_this_written v_this_at v_this_begin v_this_words v_this_paste0 u_court v_told v_high v_pad v_values) H → va_D A (w_M_findCourt ad a_this a_units a_kinds a_values a_names a_low a_high a_told a_leftOut a_isMade a_hands a_pad a_court a_title a_out k_court k_told k_high k_pad k_values v_this_thrown v_this_size v_this_families v_this_atHand v_this_family v_this_density v_this_pads v_this_hasThermal v_this_titleSize v_this_written v_this_at v_this_begin v_this_words v_this_paste0 u_court v_told v_high v_pad v_values) → va_S A s.heap H locs → ∀ ls : Array Slot, lv_has ls 7 [(0, .ref a_this), (1, .long p1), (3, .int y3)] → W p l e (headSpec wsM_findCourt { frames := 1, cells := 0, slots := 0, locals := 28 }).room s m args below meth c H locs 0 0 (MQ below (va_Qv (fun (u : (Nat → Int64)) => post u) (zB (dC, dI) A (fun (u : (Nat → Int64)) => (w_M_findCourt ad a_this a_units a_kinds a_values a_names a_low a_high a_told a_leftOut a_isMade a_hands a_pad a_court a_title a_out k_court k_told k_high k_pad k_values v_this_thrown v_this_size v_this_families v_this_atHand v_this_family v_this_density v_this_pads v_this_hasThermal v_this_titleSize v_this_written v_this_at v_this_begin v_this_words v_this_paste0 u v_told v_high v_pad v_values))) A) args s 0 0 A) (F0 m 2 ls [])) (hK : va_K (dC, dI) vwCl [(k_court, .long), (k_told, .boolean), (k_high, .long), (k_pad, .long), (k_values, .long)] s) : ∀ (y3 : Int32) (t0 : Int64) (t1 : Int32) (u_court : Nat → Int64) (H : Heap) (locs : List Loc), P_M_findCourt_26 post K2 y3 t0 t1 u_court → va_P (dC, dI) vwCl (w_M_findCourt ad a_this a_units a_kinds a_values a_names a_low a_high a_told a_leftOut a_isMade a_hands a_pad a_court a_title a_out k_court k_told k_high k_pad k_values v_this_thrown v_this_size v_this_families v_this_atHand v_this_family v_this_density v_this_pads v_this_hasThermal v_this_titleSize v_this_written v_this_at v_this_begin v_this_words v_this_paste0 u_court v_told v_high v_pad v_values) H → va_D A (w_M_findCourt ad a_this a_units a_kinds a_values a_names a_low a_high a_told a_leftOut a_isMade a_hands a_pad a_court a_title a_out k_court k_told k_high k_pad k_values v_this_thrown v_this_size v_this_families v_this_atHand v_this_family v_this_density v_this_pads v_this_hasThermal v_this_titleSize v_this_written v_this_at v_this_begin v_this_words v_this_paste0 u_court v_told v_high v_pad v_values) → va_S A s.heap H locs → ∀ ls : Array Slot, lv_has ls 7 [(0, .ref a_this), (1, .long p1), (3, .int y3)] → W p l e (headSpec wsM_findCourt { frames := 1, cells := 0, slots := 0, locals := 28 }).room s m args below meth c H locs 0 0 (MQ below (va_Qv (fun (u : (Nat → Int64)) => post u) (zB (dC, dI) A (fun (u : (Nat → Int64)) => (w_M_findCourt ad a_this a_units a_kinds a_values a_names a_low a_high a_told a_leftOut a_isMade a_hands a_pad a_court a_title a_out k_court k_told k_high k_pad k_values v_this_thrown v_this_size v_this_families v_this_atHand v_this_family v_this_density v_this_pads v_this_hasThermal v_this_titleSize v_this_written v_this_at v_this_begin v_this_words v_this_paste0 u v_told v_high v_pad v_values))) A) args s 0 0 A) (F0 m 26 ls [.long t0, .int t1, .ref a_court]) := by
  obtain ⟨hx, hb, hr, hml, hown, hts, hlocks, hA⟩ := id C0
  intro y3 t0 t1 u_court H locs h hP hD hS ls hl
  unfold P_M_findCourt_26 at h
  obtain ⟨hn1, h⟩ := h
  refine va_last hx hb hK hP hD hS 1 0 rfl rfl hn1 dM_findCourt_26 (fun H locs hP hD hS => ?_)
  have hP : va_P (dC, dI) vwCl (w_M_findCourt ad a_this a_units a_kinds a_values a_names a_low a_high a_told a_leftOut a_isMade a_hands a_pad a_court a_title a_out k_court k_told k_high k_pad k_values v_this_thrown v_this_size v_this_families v_this_atHand v_this_family v_this_density v_this_pads v_this_hasThermal v_this_titleSize v_this_written v_this_at v_this_begin v_this_words v_this_paste0 (vp_updL u_court t1.toNatClampNeg t0) v_told v_high v_pad v_values) H := hP
  have hD : va_D A (w_M_findCourt ad a_this a_units a_kinds a_values a_names a_low a_high a_told a_leftOut a_isMade a_hands a_pad a_court a_title a_out k_court k_told k_high k_pad k_values v_this_thrown v_this_size v_this_families v_this_atHand v_this_family v_this_density v_this_pads v_this_hasThermal v_this_titleSize v_this_written v_this_at v_this_begin v_this_words v_this_paste0 (vp_updL u_court t1.toNatClampNeg t0) v_told v_high v_pad v_values) := hD
  obtain ⟨x2, ex2⟩ : ∃ y : Int32, y = y3 + 1 := ⟨_, rfl⟩
  replace h := h x2 ex2
  refine lv_iinc (v := x2) (lv' := [(3, .int x2), (0, .ref a_this), (1, .long p1)]) hx hb dM_findCourt_27 hl (k := 2) rfl (by rw [ex2]; rfl) (by decide) rfl (fun ls hl => ?_)
  refine lv_goto (tgt := 2) hx hb dM_findCourt_30 (by decide) ?_
  exact hK2 x2 (vp_updL u_court t1.toNatClampNeg t0) _ _ h hP hD hS ls (lv_sub hl [1, 2, 0] rfl)
def P_M_findCourt_2 (p1 : Int64) (v_this_family : Int32) (v_this_density : Int32) (v_this_pads : Int32) (v_told : Nat → Int32) (v_high : Nat → Int64) (v_pad : Nat → Int64) (v_values : Nat → Int64) (post : (Nat → Int64) → Prop) : Nat → Int32 → (Nat → Int64) → Prop
  | 0, _, _ => False
  | n + 1, y3, u_court => ((4 ≤ y3 → ∃ n2, P_M_findCourt_35 p1 v_this_family v_this_density v_this_pads v_told v_high v_pad v_values post n2 0 u_court) ∧ (¬ 4 ≤ y3 → ((2 ≤ y3 → P_M_findCourt_26 post (P_M_findCourt_2 p1 v_this_family v_this_density v_this_pads v_told v_high v_pad v_values post n) y3 (-1000000000) y3 u_court) ∧ (¬ 2 ≤ y3 → P_M_findCourt_26 post (P_M_findCourt_2 p1 v_this_family v_this_density v_this_pads v_told v_high v_pad v_values post n) y3 1000000000 y3 u_court))))
set_option maxHeartbeats 4000000 in
set_option maxRecDepth 100000 in
theorem w_M_findCourt_2 (l : Launch) {p : Program} {e : Env} {s : State} {m : MethodId} {args : Array Value} {below : List Frame} {meth : Method} {c : Code} {dC : Nat → ClassId} {dI : Nat → Nat → Nat} {ad : Nat → Nat → Nat} {A : Nat → Prop} (C0 : zC p s m args meth c cM_findCourt 7 RM zT none A) (hE : zE ad A s) (a_this : Nat) (a_units : Nat) (a_kinds : Nat) (a_values : Nat) (a_names : Nat) (a_low : Nat) (a_high : Nat) (a_told : Nat) (a_leftOut : Nat) (a_isMade : Nat) (a_hands : Nat) (a_pad : Nat) (a_court : Nat) (a_title : Nat) (a_out : Nat) (k_court : ClassId) (k_told : ClassId) (k_high : ClassId) (k_pad : ClassId) (k_values : ClassId) (p1 : Int64) (v_this_thrown : Int32) (v_this_size : Int32) (v_this_families : Int32) (v_this_atHand : Int32) (v_this_family : Int32) (v_this_density : Int32) (v_this_pads : Int32) (v_this_hasThermal : Int32) (v_this_titleSize : Int32) (v_this_written : Int32) (v_this_at : Int32) (v_this_begin : Int32) (v_this_words : Int32) (v_this_paste0 : Int64) (v_court : Nat → Int64) (v_told : Nat → Int32) (v_high : Nat → Int64) (v_pad : Nat → Int64) (v_values : Nat → Int64) (post : (Nat → Int64) → Prop) (hK : va_K (dC, dI) vwCl [(k_court, .long), (k_told, .boolean), (k_high, .long), (k_pad, .long), (k_values, .long)] s) : ∀ (n : Nat), ∀ (y3 : Int32) (u_court : Nat → Int64) (H : Heap) (locs : List Loc), P_M_findCourt_2 p1 v_this_family v_this_density v_this_pads v_told v_high v_pad v_values post n y3 u_court → va_P (dC, dI) vwCl (w_M_findCourt ad a_this a_units a_kinds a_values a_names a_low a_high a_told a_leftOut a_isMade a_hands a_pad a_court a_title a_out k_court k_told k_high k_pad k_values v_this_thrown v_this_size v_this_families v_this_atHand v_this_family v_this_density v_this_pads v_this_hasThermal v_this_titleSize v_this_written v_this_at v_this_begin v_this_words v_this_paste0 u_court v_told v_high v_pad v_values) H → va_D A (w_M_findCourt ad a_this a_units a_kinds a_values a_names a_low a_high a_told a_leftOut a_isMade a_hands a_pad a_court a_title a_out k_court k_told k_high k_pad k_values v_this_thrown v_this_size v_this_families v_this_atHand v_this_family v_this_density v_this_pads v_this_hasThermal v_this_titleSize v_this_written v_this_at v_this_begin v_this_words v_this_paste0 u_court v_told v_high v_pad v_values) → va_S A s.heap H locs → ∀ ls : Array Slot, lv_has ls 7 [(0, .ref a_this), (1, .long p1), (3, .int y3)] → W p l e (headSpec wsM_findCourt { frames := 1, cells := 0, slots := 0, locals := 28 }).room s m args below meth c H locs 0 0 (MQ below (va_Qv (fun (u : (Nat → Int64)) => post u) (zB (dC, dI) A (fun (u : (Nat → Int64)) => (w_M_findCourt ad a_this a_units a_kinds a_values a_names a_low a_high a_told a_leftOut a_isMade a_hands a_pad a_court a_title a_out k_court k_told k_high k_pad k_values v_this_thrown v_this_size v_this_families v_this_atHand v_this_family v_this_density v_this_pads v_this_hasThermal v_this_titleSize v_this_written v_this_at v_this_begin v_this_words v_this_paste0 u v_told v_high v_pad v_values))) A) args s 0 0 A) (F0 m 2 ls []) := by
  obtain ⟨hx, hb, hr, hml, hown, hts, hlocks, hA⟩ := id C0
  intro n
  induction n with
  | zero =>
    intro y3 u_court H locs h
    exact False.elim h
  | succ n ih =>
    intro y3 u_court H locs h hP hD hS ls hl
    rw [P_M_findCourt_2] at h
    refine lv_iload_n hx hb dM_findCourt_2 rfl (lv_at hl 2 rfl) ?_
    refine lv_iconst (v := 4) hx hb dM_findCourt_3 (by decide) ?_
    refine lv_icmp_ge (tgt := 33) hx hb dM_findCourt_4 (by decide) ?_ ?_
    · intro c1
      replace h := h.1 c1
      refine lv_iconst (v := 0) hx hb dM_findCourt_33 (by decide) ?_
      refine lv_istore_n (lv' := [(3, .int 0), (0, .ref a_this), (1, .long p1)]) hx hb dM_findCourt_34 rfl hl (by decide) rfl (fun ls hl => ?_)
      obtain ⟨n2, h⟩ := h
      exact w_M_findCourt_35 l C0 hE a_this a_units a_kinds a_values a_names a_low a_high a_told a_leftOut a_isMade a_hands a_pad a_court a_title a_out k_court k_told k_high k_pad k_values p1 v_this_thrown v_this_size v_this_families v_this_atHand v_this_family v_this_density v_this_pads v_this_hasThermal v_this_titleSize v_this_written v_this_at v_this_begin v_this_words v_this_paste0 v_court v_told v_high v_pad v_values post hK n2 0 u_court _ _ h hP hD hS ls (lv_sub hl [1, 2, 0] rfl)
    · intro c1
      replace h := h.2 c1
      refine lv_aload_n hx hb dM_findCourt_7 rfl (lv_at hl 0 rfl) ?_
      refine va_get (D := (dC, dI)) (ci := 10) (v := .ref a_court) (C := RM) (T := TM) (N := 28) hx hb hts inZ_M hown hK hP 0 rfl rfl 18 (by decide) (hts _ zw_1062) (fun _ h9 => h9) rfl dM_findCourt_8 ?_
      refine lv_iload_n hx hb dM_findCourt_11 rfl (lv_at hl 2 rfl) ?_
      refine lv_iload_n hx hb dM_findCourt_12 rfl (lv_at hl 2 rfl) ?_
      refine lv_iconst (v := 2) hx hb dM_findCourt_13 (by decide) ?_
      refine lv_icmp_ge (tgt := 23) hx hb dM_findCourt_14 (by decide) ?_ ?_
      · intro c3
        replace h := h.1 c3
        refine lv_ldc2 (own := RM) (index := 179) (v := (-1000000000)) hx hb hown (hts _ zw_1254) dM_findCourt_23 ?_
        exact w_M_findCourt_26 l C0 hE a_this a_units a_kinds a_values a_names a_low a_high a_told a_leftOut a_isMade a_hands a_pad a_court a_title a_out k_court k_told k_high k_pad k_values p1 v_this_thrown v_this_size v_this_families v_this_atHand v_this_family v_this_density v_this_pads v_this_hasThermal v_this_titleSize v_this_written v_this_at v_this_begin v_this_words v_this_paste0 v_court v_told v_high v_pad v_values post (P_M_findCourt_2 p1 v_this_family v_this_density v_this_pads v_told v_high v_pad v_values post n) ih hK y3 (-1000000000) y3 u_court _ _ h hP hD hS ls (lv_sub hl [0, 1, 2] rfl)
      · intro c3
        replace h := h.2 c3
        refine lv_ldc2 (own := RM) (index := 177) (v := 1000000000) hx hb hown (hts _ zw_1253) dM_findCourt_17 ?_
        refine lv_goto (tgt := 26) hx hb dM_findCourt_20 (by decide) ?_
        exact w_M_findCourt_26 l C0 hE a_this a_units a_kinds a_values a_names a_low a_high a_told a_leftOut a_isMade a_hands a_pad a_court a_title a_out k_court k_told k_high k_pad k_values p1 v_this_thrown v_this_size v_this_families v_this_atHand v_this_family v_this_density v_this_pads v_this_hasThermal v_this_titleSize v_this_written v_this_at v_this_begin v_this_words v_this_paste0 v_court v_told v_high v_pad v_values post (P_M_findCourt_2 p1 v_this_family v_this_density v_this_pads v_told v_high v_pad v_values post n) ih hK y3 1000000000 y3 u_court _ _ h hP hD hS ls (lv_sub hl [0, 1, 2] rfl)
def P_M_findCourt (p1 : Int64) (v_this_family : Int32) (v_this_density : Int32) (v_this_pads : Int32) (v_court : Nat → Int64) (v_told : Nat → Int32) (v_high : Nat → Int64) (v_pad : Nat → Int64) (v_values : Nat → Int64) (post : (Nat → Int64) → Prop) : Prop := ∃ n1, P_M_findCourt_2 p1 v_this_family v_this_density v_this_pads v_told v_high v_pad v_values post n1 0 v_court
set_option maxHeartbeats 4000000 in
set_option maxRecDepth 100000 in
theorem c_M_findCourt (l : Launch) (dC : Nat → ClassId) (dI : Nat → Nat → Nat) (ad : Nat → Nat → Nat) (a_this : Nat) (a_units : Nat) (a_kinds : Nat) (a_values : Nat) (a_names : Nat) (a_low : Nat) (a_high : Nat) (a_told : Nat) (a_leftOut : Nat) (a_isMade : Nat) (a_hands : Nat) (a_pad : Nat) (a_court : Nat) (a_title : Nat) (a_out : Nat) (k_court : ClassId) (k_told : ClassId) (k_high : ClassId) (k_pad : ClassId) (k_values : ClassId) (sz : Nat) (p1 : Int64) (v_this_thrown : Int32) (v_this_size : Int32) (v_this_families : Int32) (v_this_atHand : Int32) (v_this_family : Int32) (v_this_density : Int32) (v_this_pads : Int32) (v_this_hasThermal : Int32) (v_this_titleSize : Int32) (v_this_written : Int32) (v_this_at : Int32) (v_this_begin : Int32) (v_this_words : Int32) (v_this_paste0 : Int64) (v_court : Nat → Int64) (v_told : Nat → Int32) (v_high : Nat → Int64) (v_pad : Nat → Int64) (v_values : Nat → Int64) (post : (Nat → Int64) → Prop) (h : P_M_findCourt p1 v_this_family v_this_density v_this_pads v_court v_told v_high v_pad v_values post) : zMv l yM_findCourt wsM_findCourt { frames := 1, cells := 0, slots := 0, locals := 28 } (dC, dI) ad [.ref a_this, .long p1] (w_M_findCourt ad a_this a_units a_kinds a_values a_names a_low a_high a_told a_leftOut a_isMade a_hands a_pad a_court a_title a_out k_court k_told k_high k_pad k_values v_this_thrown v_this_size v_this_families v_this_atHand v_this_family v_this_density v_this_pads v_this_hasThermal v_this_titleSize v_this_written v_this_at v_this_begin v_this_words v_this_paste0 v_court v_told v_high v_pad v_values) [(k_court, .long), (k_told, .boolean), (k_high, .long), (k_pad, .long), (k_values, .long)] sz (fun (u : (Nat → Int64)) => post u) (fun (u : (Nat → Int64)) => (w_M_findCourt ad a_this a_units a_kinds a_values a_names a_low a_high a_told a_leftOut a_isMade a_hands a_pad a_court a_title a_out k_court k_told k_high k_pad k_values v_this_thrown v_this_size v_this_families v_this_atHand v_this_family v_this_density v_this_pads v_this_hasThermal v_this_titleSize v_this_written v_this_at v_this_begin v_this_words v_this_paste0 u v_told v_high v_pad v_values)) 0 0 := by
  refine Met.ofW (cc := cM_findCourt) (maxL := 7) (ret := none) (by decide +kernel) rfl ?_
  intro p e s m args below meth c s₁ B hml hv
  obtain ⟨rfl, hsz, hP, hK, hD0, hE⟩ := hv
  have hx := B.exec
  have hb := B.bytes
  have hr := B.returns
  have hts0 := atoms_spec (ws := wsM_findCourt) B.pre
  have hts := fun w h => hts0 w (List.mem_cons_of_mem _ h)
  have hown : s.vm.findClass RM = some m.cls := findClass_of_methodNamed B.named
  have hlocks := B.notSynchronized
  subst hsz
  have hD := hD0.self (sz := s.heap.size)
  generalize hAe : va_A (w_M_findCourt ad a_this a_units a_kinds a_values a_names a_low a_high a_told a_leftOut a_isMade a_hands a_pad a_court a_title a_out k_court k_told k_high k_pad k_values v_this_thrown v_this_size v_this_families v_this_atHand v_this_family v_this_density v_this_pads v_this_hasThermal v_this_titleSize v_this_written v_this_at v_this_begin v_this_words v_this_paste0 v_court v_told v_high v_pad v_values) s.heap.size = A at hD hE ⊢
  have hA : ∀ q : Nat, s.heap.size ≤ q → A q := fun q h => by rw [← hAe]; exact Or.inr h
  have C0 := zC.mk hx hb hr hml hown hts hlocks hA
  have hS : va_S A s.heap s.heap [] := va_S.rf
  have hl := lv_entry ([.ref a_this, .long p1]) (n := 7) (Nat.le_of_ble_eq_true rfl)
  rw [lg_entry_eq]
  generalize (lg_sl ([.ref a_this, .long p1]) ++ List.replicate (7 - (lg_sl ([.ref a_this, .long p1])).length) Slot.unset).toArray = ls at hl ⊢
  have hl : lv_has ls 7 [(0, .ref a_this), (1, .long p1)] := hl
  unfold P_M_findCourt at h
  refine lv_iconst (v := 0) hx hb dM_findCourt_0 (by decide) ?_
  refine lv_istore_n (lv' := [(3, .int 0), (0, .ref a_this), (1, .long p1)]) hx hb dM_findCourt_1 rfl hl (by decide) rfl (fun ls hl => ?_)
  obtain ⟨n1, h⟩ := h
  exact w_M_findCourt_2 l C0 hE a_this a_units a_kinds a_values a_names a_low a_high a_told a_leftOut a_isMade a_hands a_pad a_court a_title a_out k_court k_told k_high k_pad k_values p1 v_this_thrown v_this_size v_this_families v_this_atHand v_this_family v_this_density v_this_pads v_this_hasThermal v_this_titleSize v_this_written v_this_at v_this_begin v_this_words v_this_paste0 v_court v_told v_high v_pad v_values post hK n1 0 v_court _ _ h hP hD hS ls (lv_sub hl [1, 2, 0] rfl)
abbrev yM_say : MethodName := ⟨"FootprintRulesModel", "say", "(I)V"⟩
abbrev cM_say : ByteArray := prog_14_method_33_code
abbrev wsM_say : List Cond := .code yM_say cM_say 2 none :: zT
set_option maxRecDepth 100000 in
theorem zc_M_say : Cond.code yM_say cM_say 2 none ∈ zT := zm 1266 (by rfl) (by rfl)
theorem dM_say_0 : decode cM_say 0 = .ok (.aload_n 0, 1) := by decide +kernel
theorem dM_say_1 : decode cM_say 1 = .ok (.getfield 51, 3) := by decide +kernel
theorem dM_say_4 : decode cM_say 4 = .ok (.aload_n 0, 1) := by decide +kernel
theorem dM_say_5 : decode cM_say 5 = .ok (.getfield 209, 3) := by decide +kernel
theorem dM_say_8 : decode cM_say 8 = .ok (.iload_n 1, 1) := by decide +kernel
theorem dM_say_9 : decode cM_say 9 = .ok (.iastore, 1) := by decide +kernel
theorem dM_say_10 : decode cM_say 10 = .ok (.aload_n 0, 1) := by decide +kernel
theorem dM_say_11 : decode cM_say 11 = .ok (.dup, 1) := by decide +kernel
theorem dM_say_12 : decode cM_say 12 = .ok (.getfield 209, 3) := by decide +kernel
theorem dM_say_15 : decode cM_say 15 = .ok (.iconst 1, 1) := by decide +kernel
theorem dM_say_16 : decode cM_say 16 = .ok (.iadd, 1) := by decide +kernel
theorem dM_say_17 : decode cM_say 17 = .ok (.putfield 209, 3) := by decide +kernel
theorem dM_say_20 : decode cM_say 20 = .ok (.return_, 1) := by decide +kernel
-- FootprintRulesModel.say(I)V
abbrev w_M_say (ad : Nat → Nat → Nat) (a_this : Nat) (a_units : Nat) (a_kinds : Nat) (a_values : Nat) (a_names : Nat) (a_low : Nat) (a_high : Nat) (a_told : Nat) (a_leftOut : Nat) (a_isMade : Nat) (a_hands : Nat) (a_pad : Nat) (a_court : Nat) (a_title : Nat) (a_out : Nat) (k_out : ClassId) (v_this_thrown : Int32) (v_this_size : Int32) (v_this_families : Int32) (v_this_atHand : Int32) (v_this_family : Int32) (v_this_density : Int32) (v_this_pads : Int32) (v_this_hasThermal : Int32) (v_this_titleSize : Int32) (v_this_written : Int32) (v_this_at : Int32) (v_this_begin : Int32) (v_this_words : Int32) (v_this_paste0 : Int64) (v_out : Nat → Int32) : va_W := [(a_this, .inr (10, [.int v_this_thrown, .ref a_units, .int v_this_size, .int v_this_families, .ref a_kinds, .ref a_values, .ref a_names, .ref a_low, .ref a_high, .ref a_told, .ref a_leftOut, .ref a_isMade, .ref a_hands, .int v_this_atHand, .int v_this_family, .int v_this_density, .int v_this_pads, .ref a_pad, .ref a_court, .int v_this_hasThermal, .ref a_title, .int v_this_titleSize, .ref a_out, .int v_this_written, .int v_this_at, .int v_this_begin, .int v_this_words, .long v_this_paste0])), (a_out, .inl (k_out, 8000, .inl v_out))]
def P_M_say (p1 : Int32) (v_this_written : Int32) (v_out : Nat → Int32) (post : Int32 → (Nat → Int32) → Prop) : Prop := vp_in v_this_written 8000 ∧ ∀ x2 : Int32, x2 = v_this_written + 1 → post x2 (upd v_out v_this_written.toNatClampNeg p1)
set_option maxHeartbeats 4000000 in
set_option maxRecDepth 100000 in
theorem c_M_say (l : Launch) (dC : Nat → ClassId) (dI : Nat → Nat → Nat) (ad : Nat → Nat → Nat) (a_this : Nat) (a_units : Nat) (a_kinds : Nat) (a_values : Nat) (a_names : Nat) (a_low : Nat) (a_high : Nat) (a_told : Nat) (a_leftOut : Nat) (a_isMade : Nat) (a_hands : Nat) (a_pad : Nat) (a_court : Nat) (a_title : Nat) (a_out : Nat) (k_out : ClassId) (sz : Nat) (p1 : Int32) (v_this_thrown : Int32) (v_this_size : Int32) (v_this_families : Int32) (v_this_atHand : Int32) (v_this_family : Int32) (v_this_density : Int32) (v_this_pads : Int32) (v_this_hasThermal : Int32) (v_this_titleSize : Int32) (v_this_written : Int32) (v_this_at : Int32) (v_this_begin : Int32) (v_this_words : Int32) (v_this_paste0 : Int64) (v_out : Nat → Int32) (post : Int32 → (Nat → Int32) → Prop) (h : P_M_say p1 v_this_written v_out post) : zMv l yM_say wsM_say { frames := 0, cells := 0, slots := 0, locals := 0 } (dC, dI) ad [.ref a_this, .int p1] (w_M_say ad a_this a_units a_kinds a_values a_names a_low a_high a_told a_leftOut a_isMade a_hands a_pad a_court a_title a_out k_out v_this_thrown v_this_size v_this_families v_this_atHand v_this_family v_this_density v_this_pads v_this_hasThermal v_this_titleSize v_this_written v_this_at v_this_begin v_this_words v_this_paste0 v_out) [(k_out, .int)] sz (fun (u : Int32 × (Nat → Int32)) => post u.1 u.2) (fun (u : Int32 × (Nat → Int32)) => (w_M_say ad a_this a_units a_kinds a_values a_names a_low a_high a_told a_leftOut a_isMade a_hands a_pad a_court a_title a_out k_out v_this_thrown v_this_size v_this_families v_this_atHand v_this_family v_this_density v_this_pads v_this_hasThermal v_this_titleSize u.1 v_this_at v_this_begin v_this_words v_this_paste0 u.2)) 0 0 := by
  refine Met.ofW (cc := cM_say) (maxL := 2) (ret := none) (by decide +kernel) rfl ?_
  intro p e s m args below meth c s₁ B hml hv
  obtain ⟨rfl, hsz, hP, hK, hD0, hE⟩ := hv
  have hx := B.exec
  have hb := B.bytes
  have hr := B.returns
  have hts0 := atoms_spec (ws := wsM_say) B.pre
  have hts := fun w h => hts0 w (List.mem_cons_of_mem _ h)
  have hown : s.vm.findClass RM = some m.cls := findClass_of_methodNamed B.named
  have hlocks := B.notSynchronized
  subst hsz
  have hD := hD0.self (sz := s.heap.size)
  generalize hAe : va_A (w_M_say ad a_this a_units a_kinds a_values a_names a_low a_high a_told a_leftOut a_isMade a_hands a_pad a_court a_title a_out k_out v_this_thrown v_this_size v_this_families v_this_atHand v_this_family v_this_density v_this_pads v_this_hasThermal v_this_titleSize v_this_written v_this_at v_this_begin v_this_words v_this_paste0 v_out) s.heap.size = A at hD hE ⊢
  have hA : ∀ q : Nat, s.heap.size ≤ q → A q := fun q h => by rw [← hAe]; exact Or.inr h
  have C0 := zC.mk hx hb hr hml hown hts hlocks hA
  have hS : va_S A s.heap s.heap [] := va_S.rf
  have hl := lv_entry ([.ref a_this, .int p1]) (n := 2) (Nat.le_of_ble_eq_true rfl)
  rw [lg_entry_eq]
  generalize (lg_sl ([.ref a_this, .int p1]) ++ List.replicate (2 - (lg_sl ([.ref a_this, .int p1])).length) Slot.unset).toArray = ls at hl ⊢
  have hl : lv_has ls 2 [(0, .ref a_this), (1, .int p1)] := hl
  unfold P_M_say at h
  refine lv_aload_n hx hb dM_say_0 rfl (lv_at hl 0 rfl) ?_
  refine va_get (D := (dC, dI)) (ci := 10) (v := .ref a_out) (C := RM) (T := TM) (N := 28) hx hb hts inZ_M hown hK hP 0 rfl rfl 22 (by decide) (hts _ zw_1066) (fun _ h9 => h9) rfl dM_say_1 ?_
  refine lv_aload_n hx hb dM_say_4 rfl (lv_at hl 0 rfl) ?_
  refine va_get (D := (dC, dI)) (ci := 10) (v := .int v_this_written) (C := RM) (T := TM) (N := 28) hx hb hts inZ_M hown hK hP 0 rfl rfl 23 (by decide) (hts _ zw_1067) (fun _ h9 => h9) rfl dM_say_5 ?_
  refine lv_iload_n hx hb dM_say_8 rfl (lv_at hl 1 rfl) ?_
  obtain ⟨hn1, h⟩ := h
  refine va_iast hx hb hK hP hD hS 1 0 rfl rfl hn1 dM_say_9 (fun H locs hP hD hS => ?_)
  have hP : va_P (dC, dI) vwCl (w_M_say ad a_this a_units a_kinds a_values a_names a_low a_high a_told a_leftOut a_isMade a_hands a_pad a_court a_title a_out k_out v_this_thrown v_this_size v_this_families v_this_atHand v_this_family v_this_density v_this_pads v_this_hasThermal v_this_titleSize v_this_written v_this_at v_this_begin v_this_words v_this_paste0 (upd v_out v_this_written.toNatClampNeg p1)) H := hP
  have hD : va_D A (w_M_say ad a_this a_units a_kinds a_values a_names a_low a_high a_told a_leftOut a_isMade a_hands a_pad a_court a_title a_out k_out v_this_thrown v_this_size v_this_families v_this_atHand v_this_family v_this_density v_this_pads v_this_hasThermal v_this_titleSize v_this_written v_this_at v_this_begin v_this_words v_this_paste0 (upd v_out v_this_written.toNatClampNeg p1)) := hD
  refine lv_aload_n hx hb dM_say_10 rfl (lv_at hl 0 rfl) ?_
  refine lv_dup hx hb dM_say_11 rfl ?_
  refine va_get (D := (dC, dI)) (ci := 10) (v := .int v_this_written) (C := RM) (T := TM) (N := 28) hx hb hts inZ_M hown hK hP 0 rfl rfl 23 (by decide) (hts _ zw_1067) (fun _ h9 => h9) rfl dM_say_12 ?_
  refine lv_iconst (v := 1) hx hb dM_say_15 (by decide) ?_
  refine lv_iadd hx hb dM_say_16 ?_
  refine lv_topi (fun x2 ex2 => ?_)
  replace h := h x2 ex2
  refine va_put (D := (dC, dI)) (ci := 10) (v := .int x2) (ty := .int) (C := RM) (T := TM) (N := 28) hx hb hts inZ_M tyM tyM_ok nmM hown hK hP hD hS 0 rfl rfl 23 (by decide) (hts _ zw_1067) (fun _ h9 => h9) rfl (by decide +kernel) rfl rfl (Nat.le_of_ble_eq_true rfl) dM_say_17 (fun H locs hP hD hS => ?_)
  have hP : va_P (dC, dI) vwCl (w_M_say ad a_this a_units a_kinds a_values a_names a_low a_high a_told a_leftOut a_isMade a_hands a_pad a_court a_title a_out k_out v_this_thrown v_this_size v_this_families v_this_atHand v_this_family v_this_density v_this_pads v_this_hasThermal v_this_titleSize x2 v_this_at v_this_begin v_this_words v_this_paste0 (upd v_out v_this_written.toNatClampNeg p1)) H := hP
  have hD : va_D A (w_M_say ad a_this a_units a_kinds a_values a_names a_low a_high a_told a_leftOut a_isMade a_hands a_pad a_court a_title a_out k_out v_this_thrown v_this_size v_this_families v_this_atHand v_this_family v_this_density v_this_pads v_this_hasThermal v_this_titleSize x2 v_this_at v_this_begin v_this_words v_this_paste0 (upd v_out v_this_written.toNatClampNeg p1)) := hD
  exact W.vret hx hb hr (fun t ht hW => ⟨⟨(x2, (upd v_out v_this_written.toNatClampNeg p1)), rfl, h, by rw [ht]; exact hP, hD⟩, hS.F ht⟩) hS.2.2 dM_say_20
abbrev yM_sayNumber : MethodName := ⟨"FootprintRulesModel", "sayNumber", "(J)V"⟩
abbrev cM_sayNumber : ByteArray := prog_14_method_34_code
abbrev wsM_sayNumber : List Cond := .code yM_sayNumber cM_sayNumber 7 none :: zT
set_option maxRecDepth 100000 in
theorem zc_M_sayNumber : Cond.code yM_sayNumber cM_sayNumber 7 none ∈ zT := zm 1270 (by rfl) (by rfl)
theorem dM_sayNumber_0 : decode cM_sayNumber 0 = .ok (.lload_n 1, 1) := by decide +kernel
theorem dM_sayNumber_1 : decode cM_sayNumber 1 = .ok (.lconst 0, 1) := by decide +kernel
theorem dM_sayNumber_2 : decode cM_sayNumber 2 = .ok (.lcmp, 1) := by decide +kernel
theorem dM_sayNumber_3 : decode cM_sayNumber 3 = .ok (.ifCond .ge 9, 3) := by decide +kernel
theorem dM_sayNumber_6 : decode cM_sayNumber 6 = .ok (.lconst 0, 1) := by decide +kernel
theorem dM_sayNumber_7 : decode cM_sayNumber 7 = .ok (.lload_n 1, 1) := by decide +kernel
theorem dM_sayNumber_8 : decode cM_sayNumber 8 = .ok (.lsub, 1) := by decide +kernel
theorem dM_sayNumber_9 : decode cM_sayNumber 9 = .ok (.goto 4, 3) := by decide +kernel
theorem dM_sayNumber_12 : decode cM_sayNumber 12 = .ok (.lload_n 1, 1) := by decide +kernel
theorem dM_sayNumber_13 : decode cM_sayNumber 13 = .ok (.lstore_n 3, 1) := by decide +kernel
theorem dM_sayNumber_14 : decode cM_sayNumber 14 = .ok (.lload_n 1, 1) := by decide +kernel
theorem dM_sayNumber_15 : decode cM_sayNumber 15 = .ok (.lconst 0, 1) := by decide +kernel
theorem dM_sayNumber_16 : decode cM_sayNumber 16 = .ok (.lcmp, 1) := by decide +kernel
theorem dM_sayNumber_17 : decode cM_sayNumber 17 = .ok (.ifCond .ge 9, 3) := by decide +kernel
theorem dM_sayNumber_20 : decode cM_sayNumber 20 = .ok (.aload_n 0, 1) := by decide +kernel
theorem dM_sayNumber_21 : decode cM_sayNumber 21 = .ok (.bipush 45, 2) := by decide +kernel
theorem dM_sayNumber_23 : decode cM_sayNumber 23 = .ok (.invokevirtual 212, 3) := by decide +kernel
theorem dM_sayNumber_26 : decode cM_sayNumber 26 = .ok (.lconst 1, 1) := by decide +kernel
theorem dM_sayNumber_27 : decode cM_sayNumber 27 = .ok (.lstore 5, 2) := by decide +kernel
theorem dM_sayNumber_29 : decode cM_sayNumber 29 = .ok (.lload_n 3, 1) := by decide +kernel
theorem dM_sayNumber_30 : decode cM_sayNumber 30 = .ok (.lload 5, 2) := by decide +kernel
theorem dM_sayNumber_32 : decode cM_sayNumber 32 = .ok (.ldiv, 1) := by decide +kernel
theorem dM_sayNumber_33 : decode cM_sayNumber 33 = .ok (.ldc2_w 84, 3) := by decide +kernel
theorem dM_sayNumber_36 : decode cM_sayNumber 36 = .ok (.lcmp, 1) := by decide +kernel
theorem dM_sayNumber_37 : decode cM_sayNumber 37 = .ok (.ifCond .lt 14, 3) := by decide +kernel
theorem dM_sayNumber_40 : decode cM_sayNumber 40 = .ok (.ldc2_w 84, 3) := by decide +kernel
theorem dM_sayNumber_43 : decode cM_sayNumber 43 = .ok (.lload 5, 2) := by decide +kernel
theorem dM_sayNumber_45 : decode cM_sayNumber 45 = .ok (.lmul, 1) := by decide +kernel
theorem dM_sayNumber_46 : decode cM_sayNumber 46 = .ok (.lstore 5, 2) := by decide +kernel
theorem dM_sayNumber_48 : decode cM_sayNumber 48 = .ok (.goto (-19), 3) := by decide +kernel
theorem dM_sayNumber_51 : decode cM_sayNumber 51 = .ok (.lload 5, 2) := by decide +kernel
theorem dM_sayNumber_53 : decode cM_sayNumber 53 = .ok (.lconst 0, 1) := by decide +kernel
theorem dM_sayNumber_54 : decode cM_sayNumber 54 = .ok (.lcmp, 1) := by decide +kernel
theorem dM_sayNumber_55 : decode cM_sayNumber 55 = .ok (.ifCond .le 30, 3) := by decide +kernel
theorem dM_sayNumber_58 : decode cM_sayNumber 58 = .ok (.aload_n 0, 1) := by decide +kernel
theorem dM_sayNumber_59 : decode cM_sayNumber 59 = .ok (.lload_n 3, 1) := by decide +kernel
theorem dM_sayNumber_60 : decode cM_sayNumber 60 = .ok (.lload 5, 2) := by decide +kernel
theorem dM_sayNumber_62 : decode cM_sayNumber 62 = .ok (.ldiv, 1) := by decide +kernel
theorem dM_sayNumber_63 : decode cM_sayNumber 63 = .ok (.ldc2_w 84, 3) := by decide +kernel
theorem dM_sayNumber_66 : decode cM_sayNumber 66 = .ok (.lrem, 1) := by decide +kernel
theorem dM_sayNumber_67 : decode cM_sayNumber 67 = .ok (.l2i, 1) := by decide +kernel
theorem dM_sayNumber_68 : decode cM_sayNumber 68 = .ok (.bipush 48, 2) := by decide +kernel
theorem dM_sayNumber_70 : decode cM_sayNumber 70 = .ok (.iadd, 1) := by decide +kernel
theorem dM_sayNumber_71 : decode cM_sayNumber 71 = .ok (.invokevirtual 212, 3) := by decide +kernel
theorem dM_sayNumber_74 : decode cM_sayNumber 74 = .ok (.lload 5, 2) := by decide +kernel
theorem dM_sayNumber_76 : decode cM_sayNumber 76 = .ok (.ldc2_w 84, 3) := by decide +kernel
theorem dM_sayNumber_79 : decode cM_sayNumber 79 = .ok (.ldiv, 1) := by decide +kernel
theorem dM_sayNumber_80 : decode cM_sayNumber 80 = .ok (.lstore 5, 2) := by decide +kernel
theorem dM_sayNumber_82 : decode cM_sayNumber 82 = .ok (.goto (-31), 3) := by decide +kernel
theorem dM_sayNumber_85 : decode cM_sayNumber 85 = .ok (.return_, 1) := by decide +kernel
-- FootprintRulesModel.sayNumber(J)V
abbrev w_M_sayNumber (ad : Nat → Nat → Nat) (a_this : Nat) (a_units : Nat) (a_kinds : Nat) (a_values : Nat) (a_names : Nat) (a_low : Nat) (a_high : Nat) (a_told : Nat) (a_leftOut : Nat) (a_isMade : Nat) (a_hands : Nat) (a_pad : Nat) (a_court : Nat) (a_title : Nat) (a_out : Nat) (k_out : ClassId) (v_this_thrown : Int32) (v_this_size : Int32) (v_this_families : Int32) (v_this_atHand : Int32) (v_this_family : Int32) (v_this_density : Int32) (v_this_pads : Int32) (v_this_hasThermal : Int32) (v_this_titleSize : Int32) (v_this_written : Int32) (v_this_at : Int32) (v_this_begin : Int32) (v_this_words : Int32) (v_this_paste0 : Int64) (v_out : Nat → Int32) : va_W := [(a_this, .inr (10, [.int v_this_thrown, .ref a_units, .int v_this_size, .int v_this_families, .ref a_kinds, .ref a_values, .ref a_names, .ref a_low, .ref a_high, .ref a_told, .ref a_leftOut, .ref a_isMade, .ref a_hands, .int v_this_atHand, .int v_this_family, .int v_this_density, .int v_this_pads, .ref a_pad, .ref a_court, .int v_this_hasThermal, .ref a_title, .int v_this_titleSize, .ref a_out, .int v_this_written, .int v_this_at, .int v_this_begin, .int v_this_words, .long v_this_paste0])), (a_out, .inl (k_out, 8000, .inl v_out))]
def P_M_sayNumber_51  (post : Int32 → (Nat → Int32) → Prop) : Nat → Int64 → Int64 → Int32 → (Nat → Int32) → Prop
  | 0, _, _, _, _ => False
  | n + 1, y3, y5, u_this_written, u_out => ((y5 ≤ 0 → post u_this_written u_out) ∧ (¬ y5 ≤ 0 → ¬ y5 = 0 ∧ P_M_say ((((y3 / y5) - (y3 / y5) / 10 * 10).toInt32) + 48) u_this_written u_out (fun (u3 : Int32) (u4 : Nat → Int32) => ∀ x5 : Int64, x5 = y5 / 10 → P_M_sayNumber_51 post n y3 x5 u3 u4)))
set_option maxHeartbeats 4000000 in
set_option maxRecDepth 100000 in
theorem w_M_sayNumber_51 (l : Launch) {p : Program} {e : Env} {s : State} {m : MethodId} {args : Array Value} {below : List Frame} {meth : Method} {c : Code} {dC : Nat → ClassId} {dI : Nat → Nat → Nat} {ad : Nat → Nat → Nat} {A : Nat → Prop} (C0 : zC p s m args meth c cM_sayNumber 7 RM zT none A) (hE : zE ad A s) (a_this : Nat) (a_units : Nat) (a_kinds : Nat) (a_values : Nat) (a_names : Nat) (a_low : Nat) (a_high : Nat) (a_told : Nat) (a_leftOut : Nat) (a_isMade : Nat) (a_hands : Nat) (a_pad : Nat) (a_court : Nat) (a_title : Nat) (a_out : Nat) (k_out : ClassId) (p1 : Int64) (v_this_thrown : Int32) (v_this_size : Int32) (v_this_families : Int32) (v_this_atHand : Int32) (v_this_family : Int32) (v_this_density : Int32) (v_this_pads : Int32) (v_this_hasThermal : Int32) (v_this_titleSize : Int32) (v_this_written : Int32) (v_this_at : Int32) (v_this_begin : Int32) (v_this_words : Int32) (v_this_paste0 : Int64) (v_out : Nat → Int32) (post : Int32 → (Nat → Int32) → Prop) (hK : va_K (dC, dI) vwCl [(k_out, .int)] s) : ∀ (n : Nat), ∀ (y3 : Int64) (y5 : Int64) (u_this_written : Int32) (u_out : Nat → Int32) (H : Heap) (locs : List Loc), P_M_sayNumber_51 post n y3 y5 u_this_written u_out → va_P (dC, dI) vwCl (w_M_sayNumber ad a_this a_units a_kinds a_values a_names a_low a_high a_told a_leftOut a_isMade a_hands a_pad a_court a_title a_out k_out v_this_thrown v_this_size v_this_families v_this_atHand v_this_family v_this_density v_this_pads v_this_hasThermal v_this_titleSize u_this_written v_this_at v_this_begin v_this_words v_this_paste0 u_out) H → va_D A (w_M_sayNumber ad a_this a_units a_kinds a_values a_names a_low a_high a_told a_leftOut a_isMade a_hands a_pad a_court a_title a_out k_out v_this_thrown v_this_size v_this_families v_this_atHand v_this_family v_this_density v_this_pads v_this_hasThermal v_this_titleSize u_this_written v_this_at v_this_begin v_this_words v_this_paste0 u_out) → va_S A s.heap H locs → ∀ ls : Array Slot, lv_has ls 7 [(0, .ref a_this), (3, .long y3), (5, .long y5)] → W p l e (headSpec wsM_sayNumber { frames := 1, cells := 0, slots := 0, locals := 21 }).room s m args below meth c H locs 0 0 (MQ below (va_Qv (fun (u : Int32 × (Nat → Int32)) => post u.1 u.2) (zB (dC, dI) A (fun (u : Int32 × (Nat → Int32)) => (w_M_sayNumber ad a_this a_units a_kinds a_values a_names a_low a_high a_told a_leftOut a_isMade a_hands a_pad a_court a_title a_out k_out v_this_thrown v_this_size v_this_families v_this_atHand v_this_family v_this_density v_this_pads v_this_hasThermal v_this_titleSize u.1 v_this_at v_this_begin v_this_words v_this_paste0 u.2))) A) args s 0 0 A) (F0 m 51 ls []) := by
  obtain ⟨hx, hb, hr, hml, hown, hts, hlocks, hA⟩ := id C0
  intro n
  induction n with
  | zero =>
    intro y3 y5 u_this_written u_out H locs h
    exact False.elim h
  | succ n ih =>
    intro y3 y5 u_this_written u_out H locs h hP hD hS ls hl
    rw [P_M_sayNumber_51] at h
    refine lv_lload hx hb dM_sayNumber_51 (lv_at hl 2 rfl) ?_
    refine lv_lconst (v := 0) hx hb dM_sayNumber_53 (by decide) ?_
    refine zz_lcmp_le (tgt := 85) hx hb dM_sayNumber_54 dM_sayNumber_55 (by decide) ?_ ?_
    · intro c1
      replace h := h.1 c1
      exact W.vret hx hb hr (fun t ht hW => ⟨⟨(u_this_written, u_out), rfl, h, by rw [ht]; exact hP, hD⟩, hS.F ht⟩) hS.2.2 dM_sayNumber_85
    · intro c1
      replace h := h.2 c1
      refine lv_aload_n hx hb dM_sayNumber_58 rfl (lv_at hl 0 rfl) ?_
      refine lv_lload_n hx hb dM_sayNumber_59 rfl (lv_at hl 1 rfl) ?_
      refine lv_lload hx hb dM_sayNumber_60 (lv_at hl 2 rfl) ?_
      obtain ⟨hn2, h⟩ := h
      refine lv_ldiv hx hb dM_sayNumber_62 hn2 ?_
      refine lv_ldc2 (own := RM) (index := 84) (v := 10) hx hb hown (hts _ zw_1173) dM_sayNumber_63 ?_
      refine lv_lrem hx hb dM_sayNumber_66 (by decide) ?_
      refine lv_l2i hx hb dM_sayNumber_67 rfl ?_
      refine lv_bipush (v := 48) hx hb dM_sayNumber_68 (by decide) ?_
      refine lv_iadd hx hb dM_sayNumber_70 ?_
      refine zcall_v hP hD hS hA [0, 1] [] (va_runV (As := [.int ((((y3 / y5) - (y3 / y5) / 10 * 10).toInt32) + 48)]) (rest := []) ⟨hx, hb, hml, hown, hts⟩ (c_M_say l dC dI ad a_this a_units a_kinds a_values a_names a_low a_high a_told a_leftOut a_isMade a_hands a_pad a_court a_title a_out k_out _ ((((y3 / y5) - (y3 / y5) / 10 * 10).toInt32) + 48) v_this_thrown v_this_size v_this_families v_this_atHand v_this_family v_this_density v_this_pads v_this_hasThermal v_this_titleSize u_this_written v_this_at v_this_begin v_this_words v_this_paste0 u_out _ h) ⟨callB_of 1 hts (zgood zc_M_say) rfl rfl rfl (hts _ zw_107) (hts _ zw_1263) (by decide +kernel) ⟨Nat.le_of_ble_eq_true rfl, Nat.le_of_ble_eq_true rfl⟩, (hts _ zw_1265), (hts _ zw_86)⟩ (zpreV hE hK hP hD hS hA [0, 1] [0] (by rfl) (by rfl) (by decide) (ci := 10) (q0 := 0) rfl (by rfl)) rfl rfl hl.1 rfl (lv_room (Nat.le_of_ble_eq_true rfl)) dM_sayNumber_71 ⟨Nat.le_of_ble_eq_true rfl, Nat.le_of_ble_eq_true rfl⟩) (by rfl) (by rfl) (by decide) (by decide) (fun u H locs h hP hD hS => ?_)
      obtain ⟨u3, u4⟩ := u
      try dsimp only at h
      have hP := hP.sub (ws' := (w_M_sayNumber ad a_this a_units a_kinds a_values a_names a_low a_high a_told a_leftOut a_isMade a_hands a_pad a_court a_title a_out k_out v_this_thrown v_this_size v_this_families v_this_atHand v_this_family v_this_density v_this_pads v_this_hasThermal v_this_titleSize u3 v_this_at v_this_begin v_this_words v_this_paste0 u4)) [0, 1] rfl
      have hD := hD.sub (ws' := (w_M_sayNumber ad a_this a_units a_kinds a_values a_names a_low a_high a_told a_leftOut a_isMade a_hands a_pad a_court a_title a_out k_out v_this_thrown v_this_size v_this_families v_this_atHand v_this_family v_this_density v_this_pads v_this_hasThermal v_this_titleSize u3 v_this_at v_this_begin v_this_words v_this_paste0 u4)) [0, 1] (by decide) rfl
      refine lv_lload hx hb dM_sayNumber_74 (lv_at hl 2 rfl) ?_
      refine lv_ldc2 (own := RM) (index := 84) (v := 10) hx hb hown (hts _ zw_1173) dM_sayNumber_76 ?_
      refine lv_ldiv hx hb dM_sayNumber_79 (by decide) ?_
      refine lv_topl (fun x5 ex5 => ?_)
      replace h := h x5 ex5
      refine lv_lstore (lv' := [(5, .long x5), (0, .ref a_this), (3, .long y3)]) hx hb dM_sayNumber_80 hl (by decide) rfl (fun ls hl => ?_)
      refine lv_goto (tgt := 51) hx hb dM_sayNumber_82 (by decide) ?_
      exact ih y3 x5 u3 u4 _ _ h hP hD hS ls (lv_sub hl [1, 2, 0] rfl)
def P_M_sayNumber_29  (post : Int32 → (Nat → Int32) → Prop) : Nat → Int64 → Int64 → Int32 → (Nat → Int32) → Prop
  | 0, _, _, _, _ => False
  | n + 1, y3, y5, u_this_written, u_out => ¬ y5 = 0 ∧ (((y3 / y5) < 10 → ∃ n3, P_M_sayNumber_51 post n3 y3 y5 u_this_written u_out) ∧ (¬ (y3 / y5) < 10 → ∀ x4 : Int64, x4 = 10 * y5 → P_M_sayNumber_29 post n y3 x4 u_this_written u_out))
set_option maxHeartbeats 4000000 in
set_option maxRecDepth 100000 in
theorem w_M_sayNumber_29 (l : Launch) {p : Program} {e : Env} {s : State} {m : MethodId} {args : Array Value} {below : List Frame} {meth : Method} {c : Code} {dC : Nat → ClassId} {dI : Nat → Nat → Nat} {ad : Nat → Nat → Nat} {A : Nat → Prop} (C0 : zC p s m args meth c cM_sayNumber 7 RM zT none A) (hE : zE ad A s) (a_this : Nat) (a_units : Nat) (a_kinds : Nat) (a_values : Nat) (a_names : Nat) (a_low : Nat) (a_high : Nat) (a_told : Nat) (a_leftOut : Nat) (a_isMade : Nat) (a_hands : Nat) (a_pad : Nat) (a_court : Nat) (a_title : Nat) (a_out : Nat) (k_out : ClassId) (p1 : Int64) (v_this_thrown : Int32) (v_this_size : Int32) (v_this_families : Int32) (v_this_atHand : Int32) (v_this_family : Int32) (v_this_density : Int32) (v_this_pads : Int32) (v_this_hasThermal : Int32) (v_this_titleSize : Int32) (v_this_written : Int32) (v_this_at : Int32) (v_this_begin : Int32) (v_this_words : Int32) (v_this_paste0 : Int64) (v_out : Nat → Int32) (post : Int32 → (Nat → Int32) → Prop) (hK : va_K (dC, dI) vwCl [(k_out, .int)] s) : ∀ (n : Nat), ∀ (y3 : Int64) (y5 : Int64) (u_this_written : Int32) (u_out : Nat → Int32) (H : Heap) (locs : List Loc), P_M_sayNumber_29 post n y3 y5 u_this_written u_out → va_P (dC, dI) vwCl (w_M_sayNumber ad a_this a_units a_kinds a_values a_names a_low a_high a_told a_leftOut a_isMade a_hands a_pad a_court a_title a_out k_out v_this_thrown v_this_size v_this_families v_this_atHand v_this_family v_this_density v_this_pads v_this_hasThermal v_this_titleSize u_this_written v_this_at v_this_begin v_this_words v_this_paste0 u_out) H → va_D A (w_M_sayNumber ad a_this a_units a_kinds a_values a_names a_low a_high a_told a_leftOut a_isMade a_hands a_pad a_court a_title a_out k_out v_this_thrown v_this_size v_this_families v_this_atHand v_this_family v_this_density v_this_pads v_this_hasThermal v_this_titleSize u_this_written v_this_at v_this_begin v_this_words v_this_paste0 u_out) → va_S A s.heap H locs → ∀ ls : Array Slot, lv_has ls 7 [(0, .ref a_this), (3, .long y3), (5, .long y5)] → W p l e (headSpec wsM_sayNumber { frames := 1, cells := 0, slots := 0, locals := 21 }).room s m args below meth c H locs 0 0 (MQ below (va_Qv (fun (u : Int32 × (Nat → Int32)) => post u.1 u.2) (zB (dC, dI) A (fun (u : Int32 × (Nat → Int32)) => (w_M_sayNumber ad a_this a_units a_kinds a_values a_names a_low a_high a_told a_leftOut a_isMade a_hands a_pad a_court a_title a_out k_out v_this_thrown v_this_size v_this_families v_this_atHand v_this_family v_this_density v_this_pads v_this_hasThermal v_this_titleSize u.1 v_this_at v_this_begin v_this_words v_this_paste0 u.2))) A) args s 0 0 A) (F0 m 29 ls []) := by
  obtain ⟨hx, hb, hr, hml, hown, hts, hlocks, hA⟩ := id C0
  intro n
  induction n with
  | zero =>
    intro y3 y5 u_this_written u_out H locs h
    exact False.elim h
  | succ n ih =>
    intro y3 y5 u_this_written u_out H locs h hP hD hS ls hl
    rw [P_M_sayNumber_29] at h
    refine lv_lload_n hx hb dM_sayNumber_29 rfl (lv_at hl 1 rfl) ?_
    refine lv_lload hx hb dM_sayNumber_30 (lv_at hl 2 rfl) ?_
    obtain ⟨hn1, h⟩ := h
    refine lv_ldiv hx hb dM_sayNumber_32 hn1 ?_
    refine lv_ldc2 (own := RM) (index := 84) (v := 10) hx hb hown (hts _ zw_1173) dM_sayNumber_33 ?_
    refine zz_lcmp_lt (tgt := 51) hx hb dM_sayNumber_36 dM_sayNumber_37 (by decide) ?_ ?_
    · intro c2
      replace h := h.1 c2
      obtain ⟨n3, h⟩ := h
      exact w_M_sayNumber_51 l C0 hE a_this a_units a_kinds a_values a_names a_low a_high a_told a_leftOut a_isMade a_hands a_pad a_court a_title a_out k_out p1 v_this_thrown v_this_size v_this_families v_this_atHand v_this_family v_this_density v_this_pads v_this_hasThermal v_this_titleSize v_this_written v_this_at v_this_begin v_this_words v_this_paste0 v_out post hK n3 y3 y5 u_this_written u_out _ _ h hP hD hS ls (lv_sub hl [0, 1, 2] rfl)
    · intro c2
      replace h := h.2 c2
      refine lv_ldc2 (own := RM) (index := 84) (v := 10) hx hb hown (hts _ zw_1173) dM_sayNumber_40 ?_
      refine lv_lload hx hb dM_sayNumber_43 (lv_at hl 2 rfl) ?_
      refine lv_lmul hx hb dM_sayNumber_45 ?_
      refine lv_topl (fun x4 ex4 => ?_)
      replace h := h x4 ex4
      refine lv_lstore (lv' := [(5, .long x4), (0, .ref a_this), (3, .long y3)]) hx hb dM_sayNumber_46 hl (by decide) rfl (fun ls hl => ?_)
      refine lv_goto (tgt := 29) hx hb dM_sayNumber_48 (by decide) ?_
      exact ih y3 x4 u_this_written u_out _ _ h hP hD hS ls (lv_sub hl [1, 2, 0] rfl)
def P_M_sayNumber_26  (post : Int32 → (Nat → Int32) → Prop) (y3 : Int64) (u_this_written : Int32) (u_out : Nat → Int32) : Prop := ∃ n1, P_M_sayNumber_29 post n1 y3 1 u_this_written u_out
set_option maxHeartbeats 4000000 in
set_option maxRecDepth 100000 in
theorem w_M_sayNumber_26 (l : Launch) {p : Program} {e : Env} {s : State} {m : MethodId} {args : Array Value} {below : List Frame} {meth : Method} {c : Code} {dC : Nat → ClassId} {dI : Nat → Nat → Nat} {ad : Nat → Nat → Nat} {A : Nat → Prop} (C0 : zC p s m args meth c cM_sayNumber 7 RM zT none A) (hE : zE ad A s) (a_this : Nat) (a_units : Nat) (a_kinds : Nat) (a_values : Nat) (a_names : Nat) (a_low : Nat) (a_high : Nat) (a_told : Nat) (a_leftOut : Nat) (a_isMade : Nat) (a_hands : Nat) (a_pad : Nat) (a_court : Nat) (a_title : Nat) (a_out : Nat) (k_out : ClassId) (p1 : Int64) (v_this_thrown : Int32) (v_this_size : Int32) (v_this_families : Int32) (v_this_atHand : Int32) (v_this_family : Int32) (v_this_density : Int32) (v_this_pads : Int32) (v_this_hasThermal : Int32) (v_this_titleSize : Int32) (v_this_written : Int32) (v_this_at : Int32) (v_this_begin : Int32) (v_this_words : Int32) (v_this_paste0 : Int64) (v_out : Nat → Int32) (post : Int32 → (Nat → Int32) → Prop) (hK : va_K (dC, dI) vwCl [(k_out, .int)] s) : ∀ (y3 : Int64) (u_this_written : Int32) (u_out : Nat → Int32) (H : Heap) (locs : List Loc), P_M_sayNumber_26 post y3 u_this_written u_out → va_P (dC, dI) vwCl (w_M_sayNumber ad a_this a_units a_kinds a_values a_names a_low a_high a_told a_leftOut a_isMade a_hands a_pad a_court a_title a_out k_out v_this_thrown v_this_size v_this_families v_this_atHand v_this_family v_this_density v_this_pads v_this_hasThermal v_this_titleSize u_this_written v_this_at v_this_begin v_this_words v_this_paste0 u_out) H → va_D A (w_M_sayNumber ad a_this a_units a_kinds a_values a_names a_low a_high a_told a_leftOut a_isMade a_hands a_pad a_court a_title a_out k_out v_this_thrown v_this_size v_this_families v_this_atHand v_this_family v_this_density v_this_pads v_this_hasThermal v_this_titleSize u_this_written v_this_at v_this_begin v_this_words v_this_paste0 u_out) → va_S A s.heap H locs → ∀ ls : Array Slot, lv_has ls 7 [(0, .ref a_this), (3, .long y3)] → W p l e (headSpec wsM_sayNumber { frames := 1, cells := 0, slots := 0, locals := 21 }).room s m args below meth c H locs 0 0 (MQ below (va_Qv (fun (u : Int32 × (Nat → Int32)) => post u.1 u.2) (zB (dC, dI) A (fun (u : Int32 × (Nat → Int32)) => (w_M_sayNumber ad a_this a_units a_kinds a_values a_names a_low a_high a_told a_leftOut a_isMade a_hands a_pad a_court a_title a_out k_out v_this_thrown v_this_size v_this_families v_this_atHand v_this_family v_this_density v_this_pads v_this_hasThermal v_this_titleSize u.1 v_this_at v_this_begin v_this_words v_this_paste0 u.2))) A) args s 0 0 A) (F0 m 26 ls []) := by
  obtain ⟨hx, hb, hr, hml, hown, hts, hlocks, hA⟩ := id C0
  intro y3 u_this_written u_out H locs h hP hD hS ls hl
  unfold P_M_sayNumber_26 at h
  refine lv_lconst (v := 1) hx hb dM_sayNumber_26 (by decide) ?_
  refine lv_lstore (lv' := [(5, .long 1), (0, .ref a_this), (3, .long y3)]) hx hb dM_sayNumber_27 hl (by decide) rfl (fun ls hl => ?_)
  obtain ⟨n1, h⟩ := h
  exact w_M_sayNumber_29 l C0 hE a_this a_units a_kinds a_values a_names a_low a_high a_told a_leftOut a_isMade a_hands a_pad a_court a_title a_out k_out p1 v_this_thrown v_this_size v_this_families v_this_atHand v_this_family v_this_density v_this_pads v_this_hasThermal v_this_titleSize v_this_written v_this_at v_this_begin v_this_words v_this_paste0 v_out post hK n1 y3 1 u_this_written u_out _ _ h hP hD hS ls (lv_sub hl [1, 2, 0] rfl)
def P_M_sayNumber_13 (p1 : Int64) (v_this_written : Int32) (v_out : Nat → Int32) (post : Int32 → (Nat → Int32) → Prop) (t0 : Int64) : Prop := ((0 ≤ p1 → P_M_sayNumber_26 post t0 v_this_written v_out) ∧ (¬ 0 ≤ p1 → P_M_say 45 v_this_written v_out (fun (u2 : Int32) (u3 : Nat → Int32) => P_M_sayNumber_26 post t0 u2 u3)))
set_option maxHeartbeats 4000000 in
set_option maxRecDepth 100000 in
theorem w_M_sayNumber_13 (l : Launch) {p : Program} {e : Env} {s : State} {m : MethodId} {args : Array Value} {below : List Frame} {meth : Method} {c : Code} {dC : Nat → ClassId} {dI : Nat → Nat → Nat} {ad : Nat → Nat → Nat} {A : Nat → Prop} (C0 : zC p s m args meth c cM_sayNumber 7 RM zT none A) (hE : zE ad A s) (a_this : Nat) (a_units : Nat) (a_kinds : Nat) (a_values : Nat) (a_names : Nat) (a_low : Nat) (a_high : Nat) (a_told : Nat) (a_leftOut : Nat) (a_isMade : Nat) (a_hands : Nat) (a_pad : Nat) (a_court : Nat) (a_title : Nat) (a_out : Nat) (k_out : ClassId) (p1 : Int64) (v_this_thrown : Int32) (v_this_size : Int32) (v_this_families : Int32) (v_this_atHand : Int32) (v_this_family : Int32) (v_this_density : Int32) (v_this_pads : Int32) (v_this_hasThermal : Int32) (v_this_titleSize : Int32) (v_this_written : Int32) (v_this_at : Int32) (v_this_begin : Int32) (v_this_words : Int32) (v_this_paste0 : Int64) (v_out : Nat → Int32) (post : Int32 → (Nat → Int32) → Prop) (hK : va_K (dC, dI) vwCl [(k_out, .int)] s) : ∀ (t0 : Int64) (H : Heap) (locs : List Loc), P_M_sayNumber_13 p1 v_this_written v_out post t0 → va_P (dC, dI) vwCl (w_M_sayNumber ad a_this a_units a_kinds a_values a_names a_low a_high a_told a_leftOut a_isMade a_hands a_pad a_court a_title a_out k_out v_this_thrown v_this_size v_this_families v_this_atHand v_this_family v_this_density v_this_pads v_this_hasThermal v_this_titleSize v_this_written v_this_at v_this_begin v_this_words v_this_paste0 v_out) H → va_D A (w_M_sayNumber ad a_this a_units a_kinds a_values a_names a_low a_high a_told a_leftOut a_isMade a_hands a_pad a_court a_title a_out k_out v_this_thrown v_this_size v_this_families v_this_atHand v_this_family v_this_density v_this_pads v_this_hasThermal v_this_titleSize v_this_written v_this_at v_this_begin v_this_words v_this_paste0 v_out) → va_S A s.heap H locs → ∀ ls : Array Slot, lv_has ls 7 [(0, .ref a_this), (1, .long p1)] → W p l e (headSpec wsM_sayNumber { frames := 1, cells := 0, slots := 0, locals := 21 }).room s m args below meth c H locs 0 0 (MQ below (va_Qv (fun (u : Int32 × (Nat → Int32)) => post u.1 u.2) (zB (dC, dI) A (fun (u : Int32 × (Nat → Int32)) => (w_M_sayNumber ad a_this a_units a_kinds a_values a_names a_low a_high a_told a_leftOut a_isMade a_hands a_pad a_court a_title a_out k_out v_this_thrown v_this_size v_this_families v_this_atHand v_this_family v_this_density v_this_pads v_this_hasThermal v_this_titleSize u.1 v_this_at v_this_begin v_this_words v_this_paste0 u.2))) A) args s 0 0 A) (F0 m 13 ls [.long t0]) := by
  obtain ⟨hx, hb, hr, hml, hown, hts, hlocks, hA⟩ := id C0
  intro t0 H locs h hP hD hS ls hl
  unfold P_M_sayNumber_13 at h
  refine lv_lstore_n (lv' := [(3, .long t0), (0, .ref a_this), (1, .long p1)]) hx hb dM_sayNumber_13 rfl hl (by decide) rfl (fun ls hl => ?_)
  refine lv_lload_n hx hb dM_sayNumber_14 rfl (lv_at hl 2 rfl) ?_
  refine lv_lconst (v := 0) hx hb dM_sayNumber_15 (by decide) ?_
  refine zz_lcmp_ge (tgt := 26) hx hb dM_sayNumber_16 dM_sayNumber_17 (by decide) ?_ ?_
  · intro c1
    replace h := h.1 c1
    exact w_M_sayNumber_26 l C0 hE a_this a_units a_kinds a_values a_names a_low a_high a_told a_leftOut a_isMade a_hands a_pad a_court a_title a_out k_out p1 v_this_thrown v_this_size v_this_families v_this_atHand v_this_family v_this_density v_this_pads v_this_hasThermal v_this_titleSize v_this_written v_this_at v_this_begin v_this_words v_this_paste0 v_out post hK t0 v_this_written v_out _ _ h hP hD hS ls (lv_sub hl [1, 0] rfl)
  · intro c1
    replace h := h.2 c1
    refine lv_aload_n hx hb dM_sayNumber_20 rfl (lv_at hl 1 rfl) ?_
    refine lv_bipush (v := 45) hx hb dM_sayNumber_21 (by decide) ?_
    refine zcall_v hP hD hS hA [0, 1] [] (va_runV (As := [.int 45]) (rest := []) ⟨hx, hb, hml, hown, hts⟩ (c_M_say l dC dI ad a_this a_units a_kinds a_values a_names a_low a_high a_told a_leftOut a_isMade a_hands a_pad a_court a_title a_out k_out _ 45 v_this_thrown v_this_size v_this_families v_this_atHand v_this_family v_this_density v_this_pads v_this_hasThermal v_this_titleSize v_this_written v_this_at v_this_begin v_this_words v_this_paste0 v_out _ h) ⟨callB_of 1 hts (zgood zc_M_say) rfl rfl rfl (hts _ zw_107) (hts _ zw_1263) (by decide +kernel) ⟨Nat.le_of_ble_eq_true rfl, Nat.le_of_ble_eq_true rfl⟩, (hts _ zw_1265), (hts _ zw_86)⟩ (zpreV hE hK hP hD hS hA [0, 1] [0] (by rfl) (by rfl) (by decide) (ci := 10) (q0 := 0) rfl (by rfl)) rfl rfl hl.1 rfl (lv_room (Nat.le_of_ble_eq_true rfl)) dM_sayNumber_23 ⟨Nat.le_of_ble_eq_true rfl, Nat.le_of_ble_eq_true rfl⟩) (by rfl) (by rfl) (by decide) (by decide) (fun u H locs h hP hD hS => ?_)
    obtain ⟨u2, u3⟩ := u
    try dsimp only at h
    have hP := hP.sub (ws' := (w_M_sayNumber ad a_this a_units a_kinds a_values a_names a_low a_high a_told a_leftOut a_isMade a_hands a_pad a_court a_title a_out k_out v_this_thrown v_this_size v_this_families v_this_atHand v_this_family v_this_density v_this_pads v_this_hasThermal v_this_titleSize u2 v_this_at v_this_begin v_this_words v_this_paste0 u3)) [0, 1] rfl
    have hD := hD.sub (ws' := (w_M_sayNumber ad a_this a_units a_kinds a_values a_names a_low a_high a_told a_leftOut a_isMade a_hands a_pad a_court a_title a_out k_out v_this_thrown v_this_size v_this_families v_this_atHand v_this_family v_this_density v_this_pads v_this_hasThermal v_this_titleSize u2 v_this_at v_this_begin v_this_words v_this_paste0 u3)) [0, 1] (by decide) rfl
    exact w_M_sayNumber_26 l C0 hE a_this a_units a_kinds a_values a_names a_low a_high a_told a_leftOut a_isMade a_hands a_pad a_court a_title a_out k_out p1 v_this_thrown v_this_size v_this_families v_this_atHand v_this_family v_this_density v_this_pads v_this_hasThermal v_this_titleSize v_this_written v_this_at v_this_begin v_this_words v_this_paste0 v_out post hK t0 u2 u3 _ _ h hP hD hS ls (lv_sub hl [1, 0] rfl)
def P_M_sayNumber (p1 : Int64) (v_this_written : Int32) (v_out : Nat → Int32) (post : Int32 → (Nat → Int32) → Prop) : Prop := ((0 ≤ p1 → P_M_sayNumber_13 p1 v_this_written v_out post p1) ∧ (¬ 0 ≤ p1 → P_M_sayNumber_13 p1 v_this_written v_out post (0 - p1)))
set_option maxHeartbeats 4000000 in
set_option maxRecDepth 100000 in
theorem c_M_sayNumber (l : Launch) (dC : Nat → ClassId) (dI : Nat → Nat → Nat) (ad : Nat → Nat → Nat) (a_this : Nat) (a_units : Nat) (a_kinds : Nat) (a_values : Nat) (a_names : Nat) (a_low : Nat) (a_high : Nat) (a_told : Nat) (a_leftOut : Nat) (a_isMade : Nat) (a_hands : Nat) (a_pad : Nat) (a_court : Nat) (a_title : Nat) (a_out : Nat) (k_out : ClassId) (sz : Nat) (p1 : Int64) (v_this_thrown : Int32) (v_this_size : Int32) (v_this_families : Int32) (v_this_atHand : Int32) (v_this_family : Int32) (v_this_density : Int32) (v_this_pads : Int32) (v_this_hasThermal : Int32) (v_this_titleSize : Int32) (v_this_written : Int32) (v_this_at : Int32) (v_this_begin : Int32) (v_this_words : Int32) (v_this_paste0 : Int64) (v_out : Nat → Int32) (post : Int32 → (Nat → Int32) → Prop) (h : P_M_sayNumber p1 v_this_written v_out post) : zMv l yM_sayNumber wsM_sayNumber { frames := 1, cells := 0, slots := 0, locals := 21 } (dC, dI) ad [.ref a_this, .long p1] (w_M_sayNumber ad a_this a_units a_kinds a_values a_names a_low a_high a_told a_leftOut a_isMade a_hands a_pad a_court a_title a_out k_out v_this_thrown v_this_size v_this_families v_this_atHand v_this_family v_this_density v_this_pads v_this_hasThermal v_this_titleSize v_this_written v_this_at v_this_begin v_this_words v_this_paste0 v_out) [(k_out, .int)] sz (fun (u : Int32 × (Nat → Int32)) => post u.1 u.2) (fun (u : Int32 × (Nat → Int32)) => (w_M_sayNumber ad a_this a_units a_kinds a_values a_names a_low a_high a_told a_leftOut a_isMade a_hands a_pad a_court a_title a_out k_out v_this_thrown v_this_size v_this_families v_this_atHand v_this_family v_this_density v_this_pads v_this_hasThermal v_this_titleSize u.1 v_this_at v_this_begin v_this_words v_this_paste0 u.2)) 0 0 := by
  refine Met.ofW (cc := cM_sayNumber) (maxL := 7) (ret := none) (by decide +kernel) rfl ?_
  intro p e s m args below meth c s₁ B hml hv
  obtain ⟨rfl, hsz, hP, hK, hD0, hE⟩ := hv
  have hx := B.exec
  have hb := B.bytes
  have hr := B.returns
  have hts0 := atoms_spec (ws := wsM_sayNumber) B.pre
  have hts := fun w h => hts0 w (List.mem_cons_of_mem _ h)
  have hown : s.vm.findClass RM = some m.cls := findClass_of_methodNamed B.named
  have hlocks := B.notSynchronized
  subst hsz
  have hD := hD0.self (sz := s.heap.size)
  generalize hAe : va_A (w_M_sayNumber ad a_this a_units a_kinds a_values a_names a_low a_high a_told a_leftOut a_isMade a_hands a_pad a_court a_title a_out k_out v_this_thrown v_this_size v_this_families v_this_atHand v_this_family v_this_density v_this_pads v_this_hasThermal v_this_titleSize v_this_written v_this_at v_this_begin v_this_words v_this_paste0 v_out) s.heap.size = A at hD hE ⊢
  have hA : ∀ q : Nat, s.heap.size ≤ q → A q := fun q h => by rw [← hAe]; exact Or.inr h
  have C0 := zC.mk hx hb hr hml hown hts hlocks hA
  have hS : va_S A s.heap s.heap [] := va_S.rf
  have hl := lv_entry ([.ref a_this, .long p1]) (n := 7) (Nat.le_of_ble_eq_true rfl)
  rw [lg_entry_eq]
  generalize (lg_sl ([.ref a_this, .long p1]) ++ List.replicate (7 - (lg_sl ([.ref a_this, .long p1])).length) Slot.unset).toArray = ls at hl ⊢
  have hl : lv_has ls 7 [(0, .ref a_this), (1, .long p1)] := hl
  unfold P_M_sayNumber at h
  refine lv_lload_n hx hb dM_sayNumber_0 rfl (lv_at hl 1 rfl) ?_
  refine lv_lconst (v := 0) hx hb dM_sayNumber_1 (by decide) ?_
  refine zz_lcmp_ge (tgt := 12) hx hb dM_sayNumber_2 dM_sayNumber_3 (by decide) ?_ ?_
  · intro c1
    replace h := h.1 c1
    refine lv_lload_n hx hb dM_sayNumber_12 rfl (lv_at hl 1 rfl) ?_
    exact w_M_sayNumber_13 l C0 hE a_this a_units a_kinds a_values a_names a_low a_high a_told a_leftOut a_isMade a_hands a_pad a_court a_title a_out k_out p1 v_this_thrown v_this_size v_this_families v_this_atHand v_this_family v_this_density v_this_pads v_this_hasThermal v_this_titleSize v_this_written v_this_at v_this_begin v_this_words v_this_paste0 v_out post hK p1 _ _ h hP hD hS ls (lv_sub hl [0, 1] rfl)
  · intro c1
    replace h := h.2 c1
    refine lv_lconst (v := 0) hx hb dM_sayNumber_6 (by decide) ?_
    refine lv_lload_n hx hb dM_sayNumber_7 rfl (lv_at hl 1 rfl) ?_
    refine lv_lsub hx hb dM_sayNumber_8 ?_
    refine lv_goto (tgt := 13) hx hb dM_sayNumber_9 (by decide) ?_
    exact w_M_sayNumber_13 l C0 hE a_this a_units a_kinds a_values a_names a_low a_high a_told a_leftOut a_isMade a_hands a_pad a_court a_title a_out k_out p1 v_this_thrown v_this_size v_this_families v_this_atHand v_this_family v_this_density v_this_pads v_this_hasThermal v_this_titleSize v_this_written v_this_at v_this_begin v_this_words v_this_paste0 v_out post hK (0 - p1) _ _ h hP hD hS ls (lv_sub hl [0, 1] rfl)
