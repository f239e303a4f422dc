abbrev yM_isExact : MethodName := ⟨"FootprintRulesModel", "isExact", "(I)Z"⟩
abbrev cM_isExact : ByteArray := prog_14_method_21_code
abbrev wsM_isExact : List Cond := .code yM_isExact cM_isExact 2 (some .boolean) :: zT
set_option maxRecDepth 100000 in
theorem zc_M_isExact : Cond.code yM_isExact cM_isExact 2 (some .boolean) ∈ zT := zm 1216 (by rfl) (by rfl)
theorem dM_isExact_0 : decode cM_isExact 0 = .ok (.aload_n 0, 1) := by decide +kernel
theorem dM_isExact_1 : decode cM_isExact 1 = .ok (.getfield 29, 3) := by decide +kernel
theorem dM_isExact_4 : decode cM_isExact 4 = .ok (.iload_n 1, 1) := by decide +kernel
theorem dM_isExact_5 : decode cM_isExact 5 = .ok (.baload, 1) := by decide +kernel
theorem dM_isExact_6 : decode cM_isExact 6 = .ok (.ifCond .eq 23, 3) := by decide +kernel
theorem dM_isExact_9 : decode cM_isExact 9 = .ok (.aload_n 0, 1) := by decide +kernel
theorem dM_isExact_10 : decode cM_isExact 10 = .ok (.getfield 23, 3) := by decide +kernel
theorem dM_isExact_13 : decode cM_isExact 13 = .ok (.iload_n 1, 1) := by decide +kernel
theorem dM_isExact_14 : decode cM_isExact 14 = .ok (.laload, 1) := by decide +kernel
theorem dM_isExact_15 : decode cM_isExact 15 = .ok (.aload_n 0, 1) := by decide +kernel
theorem dM_isExact_16 : decode cM_isExact 16 = .ok (.getfield 26, 3) := by decide +kernel
theorem dM_isExact_19 : decode cM_isExact 19 = .ok (.iload_n 1, 1) := by decide +kernel
theorem dM_isExact_20 : decode cM_isExact 20 = .ok (.laload, 1) := by decide +kernel
theorem dM_isExact_21 : decode cM_isExact 21 = .ok (.lcmp, 1) := by decide +kernel
theorem dM_isExact_22 : decode cM_isExact 22 = .ok (.ifCond .ne 7, 3) := by decide +kernel
theorem dM_isExact_25 : decode cM_isExact 25 = .ok (.iconst 1, 1) := by decide +kernel
theorem dM_isExact_26 : decode cM_isExact 26 = .ok (.goto 4, 3) := by decide +kernel
theorem dM_isExact_29 : decode cM_isExact 29 = .ok (.iconst 0, 1) := by decide +kernel
theorem dM_isExact_30 : decode cM_isExact 30 = .ok (.ireturn, 1) := by decide +kernel
-- FootprintRulesModel.isExact(I)Z
abbrev w_M_isExact (ad : Nat → Nat → Nat) (a_this : Nat) (a_units : Nat) (a_kinds : Nat) (a_values : Nat) (a_names : Nat) (a_low : Nat) (a_high : Nat) (a_told : Nat) (a_leftOut : Nat) (a_isMade : Nat) (a_hands : Nat) (a_pad : Nat) (a_court : Nat) (a_title : Nat) (a_out : Nat) (k_told : ClassId) (k_low : ClassId) (k_high : ClassId) (v_this_thrown : Int32) (v_this_size : Int32) (v_this_families : Int32) (v_this_atHand : Int32) (v_this_family : Int32) (v_this_density : Int32) (v_this_pads : Int32) (v_this_hasThermal : Int32) (v_this_titleSize : Int32) (v_this_written : Int32) (v_this_at : Int32) (v_this_begin : Int32) (v_this_words : Int32) (v_this_paste0 : Int64) (v_told : Nat → Int32) (v_low : Nat → Int64) (v_high : Nat → Int64) : va_W := [(a_this, .inr (10, [.int v_this_thrown, .ref a_units, .int v_this_size, .int v_this_families, .ref a_kinds, .ref a_values, .ref a_names, .ref a_low, .ref a_high, .ref a_told, .ref a_leftOut, .ref a_isMade, .ref a_hands, .int v_this_atHand, .int v_this_family, .int v_this_density, .int v_this_pads, .ref a_pad, .ref a_court, .int v_this_hasThermal, .ref a_title, .int v_this_titleSize, .ref a_out, .int v_this_written, .int v_this_at, .int v_this_begin, .int v_this_words, .long v_this_paste0])), (a_told, .inl (k_told, 12, .inl v_told)), (a_low, .inl (k_low, 12, .inr (.inl v_low))), (a_high, .inl (k_high, 12, .inr (.inl v_high)))]
def P_M_isExact (p1 : Int32) (v_told : Nat → Int32) (v_low : Nat → Int64) (v_high : Nat → Int64) (post : Int32 → Prop) : Prop := vp_in p1 12 ∧ (((v_told p1.toNatClampNeg) = 0 → post 0) ∧ (¬ (v_told p1.toNatClampNeg) = 0 → vp_in p1 12 ∧ vp_in p1 12 ∧ ((¬ (v_low p1.toNatClampNeg) = (v_high p1.toNatClampNeg) → post 0) ∧ ((v_low p1.toNatClampNeg) = (v_high p1.toNatClampNeg) → post 1))))
set_option maxHeartbeats 4000000 in
set_option maxRecDepth 100000 in
theorem c_M_isExact (l : Launch) (dC : Nat → ClassId) (dI : Nat → Nat → Nat) (ad : Nat → Nat → Nat) (a_this : Nat) (a_units : Nat) (a_kinds : Nat) (a_values : Nat) (a_names : Nat) (a_low : Nat) (a_high : Nat) (a_told : Nat) (a_leftOut : Nat) (a_isMade : Nat) (a_hands : Nat) (a_pad : Nat) (a_court : Nat) (a_title : Nat) (a_out : Nat) (k_told : ClassId) (k_low : ClassId) (k_high : ClassId) (sz : Nat) (p1 : Int32) (v_this_thrown : Int32) (v_this_size : Int32) (v_this_families : Int32) (v_this_atHand : Int32) (v_this_family : Int32) (v_this_density : Int32) (v_this_pads : Int32) (v_this_hasThermal : Int32) (v_this_titleSize : Int32) (v_this_written : Int32) (v_this_at : Int32) (v_this_begin : Int32) (v_this_words : Int32) (v_this_paste0 : Int64) (v_told : Nat → Int32) (v_low : Nat → Int64) (v_high : Nat → Int64) (post : Int32 → Prop) (h : P_M_isExact p1 v_told v_low v_high post) : zMi l yM_isExact wsM_isExact { frames := 0, cells := 0, slots := 0, locals := 0 } (dC, dI) ad [.ref a_this, .int p1] (w_M_isExact ad a_this a_units a_kinds a_values a_names a_low a_high a_told a_leftOut a_isMade a_hands a_pad a_court a_title a_out k_told k_low k_high v_this_thrown v_this_size v_this_families v_this_atHand v_this_family v_this_density v_this_pads v_this_hasThermal v_this_titleSize v_this_written v_this_at v_this_begin v_this_words v_this_paste0 v_told v_low v_high) [(k_told, .boolean), (k_low, .long), (k_high, .long)] sz (fun (r : Int32) (u : Unit) => post r) (fun (u : Unit) => (w_M_isExact ad a_this a_units a_kinds a_values a_names a_low a_high a_told a_leftOut a_isMade a_hands a_pad a_court a_title a_out k_told k_low k_high v_this_thrown v_this_size v_this_families v_this_atHand v_this_family v_this_density v_this_pads v_this_hasThermal v_this_titleSize v_this_written v_this_at v_this_begin v_this_words v_this_paste0 v_told v_low v_high)) 0 0 := by
  refine Met.ofW (cc := cM_isExact) (maxL := 2) (ret := (some .boolean)) (by decide +kernel) rfl ?_
  intro p e s m args below meth c s₁ B hml hv
  obtain ⟨rfl, hsz, hP, hK, hD0, hE⟩ := hv
  have hx := B.exec
  have hb := B.bytes
  have hr := B.returns
  have hts0 := atoms_spec (ws := wsM_isExact) B.pre
  have hts := fun w h => hts0 w (List.mem_cons_of_mem _ h)
  have hown : s.vm.findClass RM = some m.cls := findClass_of_methodNamed B.named
  have hlocks := B.notSynchronized
  subst hsz
  have hD := hD0.self (sz := s.heap.size)
  generalize hAe : va_A (w_M_isExact ad a_this a_units a_kinds a_values a_names a_low a_high a_told a_leftOut a_isMade a_hands a_pad a_court a_title a_out k_told k_low k_high v_this_thrown v_this_size v_this_families v_this_atHand v_this_family v_this_density v_this_pads v_this_hasThermal v_this_titleSize v_this_written v_this_at v_this_begin v_this_words v_this_paste0 v_told v_low v_high) s.heap.size = A at hD hE ⊢
  have hA : ∀ q : Nat, s.heap.size ≤ q → A q := fun q h => by rw [← hAe]; exact Or.inr h
  have C0 := zC.mk hx hb hr hml hown hts hlocks hA
  have hS : va_S A s.heap s.heap [] := va_S.rf
  have hl := lv_entry ([.ref a_this, .int p1]) (n := 2) (Nat.le_of_ble_eq_true rfl)
  rw [lg_entry_eq]
  generalize (lg_sl ([.ref a_this, .int p1]) ++ List.replicate (2 - (lg_sl ([.ref a_this, .int p1])).length) Slot.unset).toArray = ls at hl ⊢
  have hl : lv_has ls 2 [(0, .ref a_this), (1, .int p1)] := hl
  unfold P_M_isExact at h
  refine lv_aload_n hx hb dM_isExact_0 rfl (lv_at hl 0 rfl) ?_
  refine va_get (D := (dC, dI)) (ci := 10) (v := .ref a_told) (C := RM) (T := TM) (N := 28) hx hb hts inZ_M hown hK hP 0 rfl rfl 9 (by decide) (hts _ zw_1053) (fun _ h9 => h9) rfl dM_isExact_1 ?_
  refine lv_iload_n hx hb dM_isExact_4 rfl (lv_at hl 1 rfl) ?_
  obtain ⟨hn1, h⟩ := h
  refine va_zald hx hb hK hP 1 0 rfl rfl hn1 dM_isExact_5 ?_
  refine lv_if_eq (tgt := 29) hx hb dM_isExact_6 (by decide) ?_ ?_
  · intro c2
    replace h := h.1 c2
    refine lv_iconst (v := 0) hx hb dM_isExact_29 (by decide) ?_
    exact W.zret (v := 0) hx hb hr rfl (fun t ht hW => ⟨⟨0, (()), rfl, h, by rw [ht]; exact hP, hD⟩, hS.F ht⟩) hS.2.2 dM_isExact_30
  · intro c2
    replace h := h.2 c2
    refine lv_aload_n hx hb dM_isExact_9 rfl (lv_at hl 0 rfl) ?_
    refine va_get (D := (dC, dI)) (ci := 10) (v := .ref a_low) (C := RM) (T := TM) (N := 28) hx hb hts inZ_M hown hK hP 0 rfl rfl 7 (by decide) (hts _ zw_1051) (fun _ h9 => h9) rfl dM_isExact_10 ?_
    refine lv_iload_n hx hb dM_isExact_13 rfl (lv_at hl 1 rfl) ?_
    obtain ⟨hn3, h⟩ := h
    refine va_lald hx hb hK hP 2 1 rfl rfl hn3 dM_isExact_14 ?_
    refine lv_aload_n hx hb dM_isExact_15 rfl (lv_at hl 0 rfl) ?_
    refine va_get (D := (dC, dI)) (ci := 10) (v := .ref a_high) (C := RM) (T := TM) (N := 28) hx hb hts inZ_M hown hK hP 0 rfl rfl 8 (by decide) (hts _ zw_1052) (fun _ h9 => h9) rfl dM_isExact_16 ?_
    refine lv_iload_n hx hb dM_isExact_19 rfl (lv_at hl 1 rfl) ?_
    obtain ⟨hn4, h⟩ := h
    refine va_lald hx hb hK hP 3 2 rfl rfl hn4 dM_isExact_20 ?_
    refine zz_lcmp_ne (tgt := 29) hx hb dM_isExact_21 dM_isExact_22 (by decide) ?_ ?_
    · intro c5
      replace h := h.1 c5
      refine lv_iconst (v := 0) hx hb dM_isExact_29 (by decide) ?_
      exact W.zret (v := 0) hx hb hr rfl (fun t ht hW => ⟨⟨0, (()), rfl, h, by rw [ht]; exact hP, hD⟩, hS.F ht⟩) hS.2.2 dM_isExact_30
    · intro c5
      replace h := h.2 c5
      refine lv_iconst (v := 1) hx hb dM_isExact_25 (by decide) ?_
      refine lv_goto (tgt := 30) hx hb dM_isExact_26 (by decide) ?_
      exact W.zret (v := 1) hx hb hr rfl (fun t ht hW => ⟨⟨1, (()), rfl, h, by rw [ht]; exact hP, hD⟩, hS.F ht⟩) hS.2.2 dM_isExact_30
abbrev yM_addPad : MethodName := ⟨"FootprintRulesModel", "addPad", "(IJJJJZJ)V"⟩
abbrev cM_addPad : ByteArray := prog_14_method_22_code
abbrev wsM_addPad : List Cond := .code yM_addPad cM_addPad 14 none :: zT
set_option maxRecDepth 100000 in
theorem zc_M_addPad : Cond.code yM_addPad cM_addPad 14 none ∈ zT := zm 1227 (by rfl) (by rfl)
theorem dM_addPad_0 : decode cM_addPad 0 = .ok (.bipush 7, 2) := by decide +kernel
theorem dM_addPad_2 : decode cM_addPad 2 = .ok (.aload_n 0, 1) := by decide +kernel
theorem dM_addPad_3 : decode cM_addPad 3 = .ok (.getfield 134, 3) := by decide +kernel
theorem dM_addPad_6 : decode cM_addPad 6 = .ok (.imul, 1) := by decide +kernel
theorem dM_addPad_7 : decode cM_addPad 7 = .ok (.istore 13, 2) := by decide +kernel
theorem dM_addPad_9 : decode cM_addPad 9 = .ok (.aload_n 0, 1) := by decide +kernel
theorem dM_addPad_10 : decode cM_addPad 10 = .ok (.getfield 42, 3) := by decide +kernel
theorem dM_addPad_13 : decode cM_addPad 13 = .ok (.iload 13, 2) := by decide +kernel
theorem dM_addPad_15 : decode cM_addPad 15 = .ok (.iload_n 1, 1) := by decide +kernel
theorem dM_addPad_16 : decode cM_addPad 16 = .ok (.i2l, 1) := by decide +kernel
theorem dM_addPad_17 : decode cM_addPad 17 = .ok (.lastore, 1) := by decide +kernel
theorem dM_addPad_18 : decode cM_addPad 18 = .ok (.aload_n 0, 1) := by decide +kernel
theorem dM_addPad_19 : decode cM_addPad 19 = .ok (.getfield 42, 3) := by decide +kernel
theorem dM_addPad_22 : decode cM_addPad 22 = .ok (.iload 13, 2) := by decide +kernel
theorem dM_addPad_24 : decode cM_addPad 24 = .ok (.iconst 1, 1) := by decide +kernel
theorem dM_addPad_25 : decode cM_addPad 25 = .ok (.iadd, 1) := by decide +kernel
theorem dM_addPad_26 : decode cM_addPad 26 = .ok (.lload_n 2, 1) := by decide +kernel
theorem dM_addPad_27 : decode cM_addPad 27 = .ok (.lastore, 1) := by decide +kernel
theorem dM_addPad_28 : decode cM_addPad 28 = .ok (.aload_n 0, 1) := by decide +kernel
theorem dM_addPad_29 : decode cM_addPad 29 = .ok (.getfield 42, 3) := by decide +kernel
theorem dM_addPad_32 : decode cM_addPad 32 = .ok (.iload 13, 2) := by decide +kernel
theorem dM_addPad_34 : decode cM_addPad 34 = .ok (.iconst 2, 1) := by decide +kernel
theorem dM_addPad_35 : decode cM_addPad 35 = .ok (.iadd, 1) := by decide +kernel
theorem dM_addPad_36 : decode cM_addPad 36 = .ok (.lload 4, 2) := by decide +kernel
theorem dM_addPad_38 : decode cM_addPad 38 = .ok (.lastore, 1) := by decide +kernel
theorem dM_addPad_39 : decode cM_addPad 39 = .ok (.aload_n 0, 1) := by decide +kernel
theorem dM_addPad_40 : decode cM_addPad 40 = .ok (.getfield 42, 3) := by decide +kernel
theorem dM_addPad_43 : decode cM_addPad 43 = .ok (.iload 13, 2) := by decide +kernel
theorem dM_addPad_45 : decode cM_addPad 45 = .ok (.iconst 3, 1) := by decide +kernel
theorem dM_addPad_46 : decode cM_addPad 46 = .ok (.iadd, 1) := by decide +kernel
theorem dM_addPad_47 : decode cM_addPad 47 = .ok (.lload 6, 2) := by decide +kernel
theorem dM_addPad_49 : decode cM_addPad 49 = .ok (.lastore, 1) := by decide +kernel
theorem dM_addPad_50 : decode cM_addPad 50 = .ok (.aload_n 0, 1) := by decide +kernel
theorem dM_addPad_51 : decode cM_addPad 51 = .ok (.getfield 42, 3) := by decide +kernel
theorem dM_addPad_54 : decode cM_addPad 54 = .ok (.iload 13, 2) := by decide +kernel
theorem dM_addPad_56 : decode cM_addPad 56 = .ok (.iconst 4, 1) := by decide +kernel
theorem dM_addPad_57 : decode cM_addPad 57 = .ok (.iadd, 1) := by decide +kernel
theorem dM_addPad_58 : decode cM_addPad 58 = .ok (.lload 8, 2) := by decide +kernel
theorem dM_addPad_60 : decode cM_addPad 60 = .ok (.lastore, 1) := by decide +kernel
theorem dM_addPad_61 : decode cM_addPad 61 = .ok (.aload_n 0, 1) := by decide +kernel
theorem dM_addPad_62 : decode cM_addPad 62 = .ok (.getfield 42, 3) := by decide +kernel
theorem dM_addPad_65 : decode cM_addPad 65 = .ok (.iload 13, 2) := by decide +kernel
theorem dM_addPad_67 : decode cM_addPad 67 = .ok (.iconst 5, 1) := by decide +kernel
theorem dM_addPad_68 : decode cM_addPad 68 = .ok (.iadd, 1) := by decide +kernel
theorem dM_addPad_69 : decode cM_addPad 69 = .ok (.iload 10, 2) := by decide +kernel
theorem dM_addPad_71 : decode cM_addPad 71 = .ok (.ifCond .eq 7, 3) := by decide +kernel
theorem dM_addPad_74 : decode cM_addPad 74 = .ok (.lconst 1, 1) := by decide +kernel
theorem dM_addPad_75 : decode cM_addPad 75 = .ok (.goto 4, 3) := by decide +kernel
theorem dM_addPad_78 : decode cM_addPad 78 = .ok (.lconst 0, 1) := by decide +kernel
theorem dM_addPad_79 : decode cM_addPad 79 = .ok (.lastore, 1) := by decide +kernel
theorem dM_addPad_80 : decode cM_addPad 80 = .ok (.aload_n 0, 1) := by decide +kernel
theorem dM_addPad_81 : decode cM_addPad 81 = .ok (.getfield 42, 3) := by decide +kernel
theorem dM_addPad_84 : decode cM_addPad 84 = .ok (.iload 13, 2) := by decide +kernel
theorem dM_addPad_86 : decode cM_addPad 86 = .ok (.bipush 6, 2) := by decide +kernel
theorem dM_addPad_88 : decode cM_addPad 88 = .ok (.iadd, 1) := by decide +kernel
theorem dM_addPad_89 : decode cM_addPad 89 = .ok (.lload 11, 2) := by decide +kernel
theorem dM_addPad_91 : decode cM_addPad 91 = .ok (.lastore, 1) := by decide +kernel
theorem dM_addPad_92 : decode cM_addPad 92 = .ok (.aload_n 0, 1) := by decide +kernel
theorem dM_addPad_93 : decode cM_addPad 93 = .ok (.dup, 1) := by decide +kernel
theorem dM_addPad_94 : decode cM_addPad 94 = .ok (.getfield 134, 3) := by decide +kernel
theorem dM_addPad_97 : decode cM_addPad 97 = .ok (.iconst 1, 1) := by decide +kernel
theorem dM_addPad_98 : decode cM_addPad 98 = .ok (.iadd, 1) := by decide +kernel
theorem dM_addPad_99 : decode cM_addPad 99 = .ok (.putfield 134, 3) := by decide +kernel
theorem dM_addPad_102 : decode cM_addPad 102 = .ok (.return_, 1) := by decide +kernel
-- FootprintRulesModel.addPad(IJJJJZJ)V
abbrev w_M_addPad (ad : Nat → Nat → Nat) (a_this : Nat) (a_units : Nat) (a_kinds : Nat) (a_values : Nat) (a_names : Nat) (a_low : Nat) (a_high : Nat) (a_told : Nat) (a_leftOut : Nat) (a_isMade : Nat) (a_hands : Nat) (a_pad : Nat) (a_court : Nat) (a_title : Nat) (a_out : Nat) (k_pad : ClassId) (v_this_thrown : Int32) (v_this_size : Int32) (v_this_families : Int32) (v_this_atHand : Int32) (v_this_family : Int32) (v_this_density : Int32) (v_this_pads : Int32) (v_this_hasThermal : Int32) (v_this_titleSize : Int32) (v_this_written : Int32) (v_this_at : Int32) (v_this_begin : Int32) (v_this_words : Int32) (v_this_paste0 : Int64) (v_pad : Nat → Int64) : va_W := [(a_this, .inr (10, [.int v_this_thrown, .ref a_units, .int v_this_size, .int v_this_families, .ref a_kinds, .ref a_values, .ref a_names, .ref a_low, .ref a_high, .ref a_told, .ref a_leftOut, .ref a_isMade, .ref a_hands, .int v_this_atHand, .int v_this_family, .int v_this_density, .int v_this_pads, .ref a_pad, .ref a_court, .int v_this_hasThermal, .ref a_title, .int v_this_titleSize, .ref a_out, .int v_this_written, .int v_this_at, .int v_this_begin, .int v_this_words, .long v_this_paste0])), (a_pad, .inl (k_pad, 455, .inr (.inl v_pad)))]
def P_M_addPad_79 (p11 : Int64) (v_this_pads : Int32) (post : Int32 → (Nat → Int64) → Prop) (y13 : Int32) (t0 : Int64) (t1 : Int32) (u_pad : Nat → Int64) : Prop := vp_in t1 455 ∧ vp_in (y13 + 6) 455 ∧ ∀ x3 : Int32, x3 = v_this_pads + 1 → post x3 (vp_updL (vp_updL u_pad t1.toNatClampNeg t0) (y13 + 6).toNatClampNeg p11)
set_option maxHeartbeats 4000000 in
set_option maxRecDepth 100000 in
theorem w_M_addPad_79 (l : Launch) {p : Program} {e : Env} {s : State} {m : MethodId} {args : Array Value} {below : List Frame} {meth : Method} {c : Code} {dC : Nat → ClassId} {dI : Nat → Nat → Nat} {ad : Nat → Nat → Nat} {A : Nat → Prop} (C0 : zC p s m args meth c cM_addPad 14 RM zT none A) (hE : zE ad A s) (a_this : Nat) (a_units : Nat) (a_kinds : Nat) (a_values : Nat) (a_names : Nat) (a_low : Nat) (a_high : Nat) (a_told : Nat) (a_leftOut : Nat) (a_isMade : Nat) (a_hands : Nat) (a_pad : Nat) (a_court : Nat) (a_title : Nat) (a_out : Nat) (k_pad : ClassId) (p1 : Int32) (p2 : Int64) (p4 : Int64) (p6 : Int64) (p8 : Int64) (p10 : Int32) (p11 : Int64) (v_this_thrown : Int32) (v_this_size : Int32) (v_this_families : Int32) (v_this_atHand : Int32) (v_this_family : Int32) (v_this_density : Int32) (v_this_pads : Int32) (v_this_hasThermal : Int32) (v_this_titleSize : Int32) (v_this_written : Int32) (v_this_at : Int32) (v_this_begin : Int32) (v_this_words : Int32) (v_this_paste0 : Int64) (v_pad : Nat → Int64) (post : Int32 → (Nat → Int64) → Prop) (hK : va_K (dC, dI) vwCl [(k_pad, .long)] s) : ∀ (y13 : Int32) (t0 : Int64) (t1 : Int32) (u_pad : Nat → Int64) (H : Heap) (locs : List Loc), P_M_addPad_79 p11 v_this_pads post y13 t0 t1 u_pad → va_P (dC, dI) vwCl (w_M_addPad ad a_this a_units a_kinds a_values a_names a_low a_high a_told a_leftOut a_isMade a_hands a_pad a_court a_title a_out k_pad v_this_thrown v_this_size v_this_families v_this_atHand v_this_family v_this_density v_this_pads v_this_hasThermal v_this_titleSize v_this_written v_this_at v_this_begin v_this_words v_this_paste0 u_pad) H → va_D A (w_M_addPad ad a_this a_units a_kinds a_values a_names a_low a_high a_told a_leftOut a_isMade a_hands a_pad a_court a_title a_out k_pad v_this_thrown v_this_size v_this_families v_this_atHand v_this_family v_this_density v_this_pads v_this_hasThermal v_this_titleSize v_this_written v_this_at v_this_begin v_this_words v_this_paste0 u_pad) → va_S A s.heap H locs → ∀ ls : Array Slot, lv_has ls 14 [(0, .ref a_this), (11, .long p11), (13, .int y13)] → W p l e (headSpec wsM_addPad { frames := 0, cells := 0, slots := 0, locals := 0 }).room s m args below meth c H locs 0 0 (MQ below (va_Qv (fun (u : Int32 × (Nat → Int64)) => post u.1 u.2) (zB (dC, dI) A (fun (u : Int32 × (Nat → Int64)) => (w_M_addPad ad a_this a_units a_kinds a_values a_names a_low a_high a_told a_leftOut a_isMade a_hands a_pad a_court a_title a_out k_pad v_this_thrown v_this_size v_this_families v_this_atHand v_this_family v_this_density u.1 v_this_hasThermal v_this_titleSize v_this_written v_this_at v_this_begin v_this_words v_this_paste0 u.2))) A) args s 0 0 A) (F0 m 79 ls [.long t0, .int t1, .ref a_pad]) := by
  obtain ⟨hx, hb, hr, hml, hown, hts, hlocks, hA⟩ := id C0
  intro y13 t0 t1 u_pad H locs h hP hD hS ls hl
  unfold P_M_addPad_79 at h
  obtain ⟨hn1, h⟩ := h
  refine va_last hx hb hK hP hD hS 1 0 rfl rfl hn1 dM_addPad_79 (fun H locs hP hD hS => ?_)
  have hP : va_P (dC, dI) vwCl (w_M_addPad ad a_this a_units a_kinds a_values a_names a_low a_high a_told a_leftOut a_isMade a_hands a_pad a_court a_title a_out k_pad v_this_thrown v_this_size v_this_families v_this_atHand v_this_family v_this_density v_this_pads v_this_hasThermal v_this_titleSize v_this_written v_this_at v_this_begin v_this_words v_this_paste0 (vp_updL u_pad t1.toNatClampNeg t0)) H := hP
  have hD : va_D A (w_M_addPad ad a_this a_units a_kinds a_values a_names a_low a_high a_told a_leftOut a_isMade a_hands a_pad a_court a_title a_out k_pad v_this_thrown v_this_size v_this_families v_this_atHand v_this_family v_this_density v_this_pads v_this_hasThermal v_this_titleSize v_this_written v_this_at v_this_begin v_this_words v_this_paste0 (vp_updL u_pad t1.toNatClampNeg t0)) := hD
  refine lv_aload_n hx hb dM_addPad_80 rfl (lv_at hl 0 rfl) ?_
  refine va_get (D := (dC, dI)) (ci := 10) (v := .ref a_pad) (C := RM) (T := TM) (N := 28) hx hb hts inZ_M hown hK hP 0 rfl rfl 17 (by decide) (hts _ zw_1061) (fun _ h9 => h9) rfl dM_addPad_81 ?_
  refine lv_iload hx hb dM_addPad_84 (lv_at hl 2 rfl) ?_
  refine lv_bipush (v := 6) hx hb dM_addPad_86 (by decide) ?_
  refine lv_iadd hx hb dM_addPad_88 ?_
  refine lv_lload hx hb dM_addPad_89 (lv_at hl 1 rfl) ?_
  obtain ⟨hn2, h⟩ := h
  refine va_last hx hb hK hP hD hS 1 0 rfl rfl hn2 dM_addPad_91 (fun H locs hP hD hS => ?_)
  have hP : va_P (dC, dI) vwCl (w_M_addPad ad a_this a_units a_kinds a_values a_names a_low a_high a_told a_leftOut a_isMade a_hands a_pad a_court a_title a_out k_pad v_this_thrown v_this_size v_this_families v_this_atHand v_this_family v_this_density v_this_pads v_this_hasThermal v_this_titleSize v_this_written v_this_at v_this_begin v_this_words v_this_paste0 (vp_updL (vp_updL u_pad t1.toNatClampNeg t0) (y13 + 6).toNatClampNeg p11)) H := hP
  have hD : va_D A (w_M_addPad ad a_this a_units a_kinds a_values a_names a_low a_high a_told a_leftOut a_isMade a_hands a_pad a_court a_title a_out k_pad v_this_thrown v_this_size v_this_families v_this_atHand v_this_family v_this_density v_this_pads v_this_hasThermal v_this_titleSize v_this_written v_this_at v_this_begin v_this_words v_this_paste0 (vp_updL (vp_updL u_pad t1.toNatClampNeg t0) (y13 + 6).toNatClampNeg p11)) := hD
  refine lv_aload_n hx hb dM_addPad_92 rfl (lv_at hl 0 rfl) ?_
  refine lv_dup hx hb dM_addPad_93 rfl ?_
  refine va_get (D := (dC, dI)) (ci := 10) (v := .int v_this_pads) (C := RM) (T := TM) (N := 28) hx hb hts inZ_M hown hK hP 0 rfl rfl 16 (by decide) (hts _ zw_1060) (fun _ h9 => h9) rfl dM_addPad_94 ?_
  refine lv_iconst (v := 1) hx hb dM_addPad_97 (by decide) ?_
  refine lv_iadd hx hb dM_addPad_98 ?_
  refine lv_topi (fun x3 ex3 => ?_)
  replace h := h x3 ex3
  refine va_put (D := (dC, dI)) (ci := 10) (v := .int x3) (ty := .int) (C := RM) (T := TM) (N := 28) hx hb hts inZ_M tyM tyM_ok nmM hown hK hP hD hS 0 rfl rfl 16 (by decide) (hts _ zw_1060) (fun _ h9 => h9) rfl (by decide +kernel) rfl rfl (Nat.le_of_ble_eq_true rfl) dM_addPad_99 (fun H locs hP hD hS => ?_)
  have hP : va_P (dC, dI) vwCl (w_M_addPad ad a_this a_units a_kinds a_values a_names a_low a_high a_told a_leftOut a_isMade a_hands a_pad a_court a_title a_out k_pad v_this_thrown v_this_size v_this_families v_this_atHand v_this_family v_this_density x3 v_this_hasThermal v_this_titleSize v_this_written v_this_at v_this_begin v_this_words v_this_paste0 (vp_updL (vp_updL u_pad t1.toNatClampNeg t0) (y13 + 6).toNatClampNeg p11)) H := hP
  have hD : va_D A (w_M_addPad ad a_this a_units a_kinds a_values a_names a_low a_high a_told a_leftOut a_isMade a_hands a_pad a_court a_title a_out k_pad v_this_thrown v_this_size v_this_families v_this_atHand v_this_family v_this_density x3 v_this_hasThermal v_this_titleSize v_this_written v_this_at v_this_begin v_this_words v_this_paste0 (vp_updL (vp_updL u_pad t1.toNatClampNeg t0) (y13 + 6).toNatClampNeg p11)) := hD
  exact W.vret hx hb hr (fun t ht hW => ⟨⟨(x3, (vp_updL (vp_updL u_pad t1.toNatClampNeg t0) (y13 + 6).toNatClampNeg p11)), rfl, h, by rw [ht]; exact hP, hD⟩, hS.F ht⟩) hS.2.2 dM_addPad_102
def P_M_addPad (p1 : Int32) (p2 : Int64) (p4 : Int64) (p6 : Int64) (p8 : Int64) (p10 : Int32) (p11 : Int64) (v_this_pads : Int32) (v_pad : Nat → Int64) (post : Int32 → (Nat → Int64) → Prop) : Prop := ∀ x1 : Int32, x1 = 7 * v_this_pads → ∀ x2 : Int64, x2 = p1.toInt64 → vp_in x1 455 ∧ vp_in (x1 + 1) 455 ∧ vp_in (x1 + 2) 455 ∧ vp_in (x1 + 3) 455 ∧ vp_in (x1 + 4) 455 ∧ ((p10 = 0 → P_M_addPad_79 p11 v_this_pads post x1 0 (x1 + 5) (vp_updL (vp_updL (vp_updL (vp_updL (vp_updL v_pad x1.toNatClampNeg x2) (x1 + 1).toNatClampNeg p2) (x1 + 2).toNatClampNeg p4) (x1 + 3).toNatClampNeg p6) (x1 + 4).toNatClampNeg p8)) ∧ (¬ p10 = 0 → P_M_addPad_79 p11 v_this_pads post x1 1 (x1 + 5) (vp_updL (vp_updL (vp_updL (vp_updL (vp_updL v_pad x1.toNatClampNeg x2) (x1 + 1).toNatClampNeg p2) (x1 + 2).toNatClampNeg p4) (x1 + 3).toNatClampNeg p6) (x1 + 4).toNatClampNeg p8)))
set_option maxHeartbeats 4000000 in
set_option maxRecDepth 100000 in
theorem c_M_addPad (l : Launch) (dC : Nat → ClassId) (dI : Nat → Nat → Nat) (ad : Nat → Nat → Nat) (a_this : Nat) (a_units : Nat) (a_kinds : Nat) (a_values : Nat) (a_names : Nat) (a_low : Nat) (a_high : Nat) (a_told : Nat) (a_leftOut : Nat) (a_isMade : Nat) (a_hands : Nat) (a_pad : Nat) (a_court : Nat) (a_title : Nat) (a_out : Nat) (k_pad : ClassId) (sz : Nat) (p1 : Int32) (p2 : Int64) (p4 : Int64) (p6 : Int64) (p8 : Int64) (p10 : Int32) (p11 : Int64) (v_this_thrown : Int32) (v_this_size : Int32) (v_this_families : Int32) (v_this_atHand : Int32) (v_this_family : Int32) (v_this_density : Int32) (v_this_pads : Int32) (v_this_hasThermal : Int32) (v_this_titleSize : Int32) (v_this_written : Int32) (v_this_at : Int32) (v_this_begin : Int32) (v_this_words : Int32) (v_this_paste0 : Int64) (v_pad : Nat → Int64) (post : Int32 → (Nat → Int64) → Prop) (h : P_M_addPad p1 p2 p4 p6 p8 p10 p11 v_this_pads v_pad post) : zMv l yM_addPad wsM_addPad { frames := 0, cells := 0, slots := 0, locals := 0 } (dC, dI) ad [.ref a_this, .int p1, .long p2, .long p4, .long p6, .long p8, .int p10, .long p11] (w_M_addPad ad a_this a_units a_kinds a_values a_names a_low a_high a_told a_leftOut a_isMade a_hands a_pad a_court a_title a_out k_pad v_this_thrown v_this_size v_this_families v_this_atHand v_this_family v_this_density v_this_pads v_this_hasThermal v_this_titleSize v_this_written v_this_at v_this_begin v_this_words v_this_paste0 v_pad) [(k_pad, .long)] sz (fun (u : Int32 × (Nat → Int64)) => post u.1 u.2) (fun (u : Int32 × (Nat → Int64)) => (w_M_addPad ad a_this a_units a_kinds a_values a_names a_low a_high a_told a_leftOut a_isMade a_hands a_pad a_court a_title a_out k_pad v_this_thrown v_this_size v_this_families v_this_atHand v_this_family v_this_density u.1 v_this_hasThermal v_this_titleSize v_this_written v_this_at v_this_begin v_this_words v_this_paste0 u.2)) 0 0 := by
  refine Met.ofW (cc := cM_addPad) (maxL := 14) (ret := none) (by decide +kernel) rfl ?_
  intro p e s m args below meth c s₁ B hml hv
  obtain ⟨rfl, hsz, hP, hK, hD0, hE⟩ := hv
  have hx := B.exec
  have hb := B.bytes
  have hr := B.returns
  have hts0 := atoms_spec (ws := wsM_addPad) B.pre
  have hts := fun w h => hts0 w (List.mem_cons_of_mem _ h)
  have hown : s.vm.findClass RM = some m.cls := findClass_of_methodNamed B.named
  have hlocks := B.notSynchronized
  subst hsz
  have hD := hD0.self (sz := s.heap.size)
  generalize hAe : va_A (w_M_addPad ad a_this a_units a_kinds a_values a_names a_low a_high a_told a_leftOut a_isMade a_hands a_pad a_court a_title a_out k_pad v_this_thrown v_this_size v_this_families v_this_atHand v_this_family v_this_density v_this_pads v_this_hasThermal v_this_titleSize v_this_written v_this_at v_this_begin v_this_words v_this_paste0 v_pad) s.heap.size = A at hD hE ⊢
  have hA : ∀ q : Nat, s.heap.size ≤ q → A q := fun q h => by rw [← hAe]; exact Or.inr h
  have C0 := zC.mk hx hb hr hml hown hts hlocks hA
  have hS : va_S A s.heap s.heap [] := va_S.rf
  have hl := lv_entry ([.ref a_this, .int p1, .long p2, .long p4, .long p6, .long p8, .int p10, .long p11]) (n := 14) (Nat.le_of_ble_eq_true rfl)
  rw [lg_entry_eq]
  generalize (lg_sl ([.ref a_this, .int p1, .long p2, .long p4, .long p6, .long p8, .int p10, .long p11]) ++ List.replicate (14 - (lg_sl ([.ref a_this, .int p1, .long p2, .long p4, .long p6, .long p8, .int p10, .long p11])).length) Slot.unset).toArray = ls at hl ⊢
  have hl : lv_has ls 14 [(0, .ref a_this), (1, .int p1), (2, .long p2), (4, .long p4), (6, .long p6), (8, .long p8), (10, .int p10), (11, .long p11)] := hl
  unfold P_M_addPad at h
  refine lv_bipush (v := 7) hx hb dM_addPad_0 (by decide) ?_
  refine lv_aload_n hx hb dM_addPad_2 rfl (lv_at hl 0 rfl) ?_
  refine va_get (D := (dC, dI)) (ci := 10) (v := .int v_this_pads) (C := RM) (T := TM) (N := 28) hx hb hts inZ_M hown hK hP 0 rfl rfl 16 (by decide) (hts _ zw_1060) (fun _ h9 => h9) rfl dM_addPad_3 ?_
  refine lv_imul hx hb dM_addPad_6 ?_
  refine lv_topi (fun x1 ex1 => ?_)
  replace h := h x1 ex1
  refine lv_istore (lv' := [(13, .int x1), (0, .ref a_this), (1, .int p1), (2, .long p2), (4, .long p4), (6, .long p6), (8, .long p8), (10, .int p10), (11, .long p11)]) hx hb dM_addPad_7 hl (by decide) rfl (fun ls hl => ?_)
  refine lv_aload_n hx hb dM_addPad_9 rfl (lv_at hl 1 rfl) ?_
  refine va_get (D := (dC, dI)) (ci := 10) (v := .ref a_pad) (C := RM) (T := TM) (N := 28) hx hb hts inZ_M hown hK hP 0 rfl rfl 17 (by decide) (hts _ zw_1061) (fun _ h9 => h9) rfl dM_addPad_10 ?_
  refine lv_iload hx hb dM_addPad_13 (lv_at hl 0 rfl) ?_
  refine lv_iload_n hx hb dM_addPad_15 rfl (lv_at hl 2 rfl) ?_
  refine lv_i2l hx hb dM_addPad_16 rfl ?_
  refine lv_topl (fun x2 ex2 => ?_)
  replace h := h x2 ex2
  obtain ⟨hn3, h⟩ := h
  refine va_last hx hb hK hP hD hS 1 0 rfl rfl hn3 dM_addPad_17 (fun H locs hP hD hS => ?_)
  have hP : va_P (dC, dI) vwCl (w_M_addPad ad a_this a_units a_kinds a_values a_names a_low a_high a_told a_leftOut a_isMade a_hands a_pad a_court a_title a_out k_pad v_this_thrown v_this_size v_this_families v_this_atHand v_this_family v_this_density v_this_pads v_this_hasThermal v_this_titleSize v_this_written v_this_at v_this_begin v_this_words v_this_paste0 (vp_updL v_pad x1.toNatClampNeg x2)) H := hP
  have hD : va_D A (w_M_addPad ad a_this a_units a_kinds a_values a_names a_low a_high a_told a_leftOut a_isMade a_hands a_pad a_court a_title a_out k_pad v_this_thrown v_this_size v_this_families v_this_atHand v_this_family v_this_density v_this_pads v_this_hasThermal v_this_titleSize v_this_written v_this_at v_this_begin v_this_words v_this_paste0 (vp_updL v_pad x1.toNatClampNeg x2)) := hD
  refine lv_aload_n hx hb dM_addPad_18 rfl (lv_at hl 1 rfl) ?_
  refine va_get (D := (dC, dI)) (ci := 10) (v := .ref a_pad) (C := RM) (T := TM) (N := 28) hx hb hts inZ_M hown hK hP 0 rfl rfl 17 (by decide) (hts _ zw_1061) (fun _ h9 => h9) rfl dM_addPad_19 ?_
  refine lv_iload hx hb dM_addPad_22 (lv_at hl 0 rfl) ?_
  refine lv_iconst (v := 1) hx hb dM_addPad_24 (by decide) ?_
  refine lv_iadd hx hb dM_addPad_25 ?_
  refine lv_lload_n hx hb dM_addPad_26 rfl (lv_at hl 3 rfl) ?_
  obtain ⟨hn4, h⟩ := h
  refine va_last hx hb hK hP hD hS 1 0 rfl rfl hn4 dM_addPad_27 (fun H locs hP hD hS => ?_)
  have hP : va_P (dC, dI) vwCl (w_M_addPad ad a_this a_units a_kinds a_values a_names a_low a_high a_told a_leftOut a_isMade a_hands a_pad a_court a_title a_out k_pad v_this_thrown v_this_size v_this_families v_this_atHand v_this_family v_this_density v_this_pads v_this_hasThermal v_this_titleSize v_this_written v_this_at v_this_begin v_this_words v_this_paste0 (vp_updL (vp_updL v_pad x1.toNatClampNeg x2) (x1 + 1).toNatClampNeg p2)) H := hP
  have hD : va_D A (w_M_addPad ad a_this a_units a_kinds a_values a_names a_low a_high a_told a_leftOut a_isMade a_hands a_pad a_court a_title a_out k_pad v_this_thrown v_this_size v_this_families v_this_atHand v_this_family v_this_density v_this_pads v_this_hasThermal v_this_titleSize v_this_written v_this_at v_this_begin v_this_words v_this_paste0 (vp_updL (vp_updL v_pad x1.toNatClampNeg x2) (x1 + 1).toNatClampNeg p2)) := hD
  refine lv_aload_n hx hb dM_addPad_28 rfl (lv_at hl 1 rfl) ?_
  refine va_get (D := (dC, dI)) (ci := 10) (v := .ref a_pad) (C := RM) (T := TM) (N := 28) hx hb hts inZ_M hown hK hP 0 rfl rfl 17 (by decide) (hts _ zw_1061) (fun _ h9 => h9) rfl dM_addPad_29 ?_
  refine lv_iload hx hb dM_addPad_32 (lv_at hl 0 rfl) ?_
  refine lv_iconst (v := 2) hx hb dM_addPad_34 (by decide) ?_
  refine lv_iadd hx hb dM_addPad_35 ?_
  refine lv_lload hx hb dM_addPad_36 (lv_at hl 4 rfl) ?_
  obtain ⟨hn5, h⟩ := h
  refine va_last hx hb hK hP hD hS 1 0 rfl rfl hn5 dM_addPad_38 (fun H locs hP hD hS => ?_)
  have hP : va_P (dC, dI) vwCl (w_M_addPad ad a_this a_units a_kinds a_values a_names a_low a_high a_told a_leftOut a_isMade a_hands a_pad a_court a_title a_out k_pad v_this_thrown v_this_size v_this_families v_this_atHand v_this_family v_this_density v_this_pads v_this_hasThermal v_this_titleSize v_this_written v_this_at v_this_begin v_this_words v_this_paste0 (vp_updL (vp_updL (vp_updL v_pad x1.toNatClampNeg x2) (x1 + 1).toNatClampNeg p2) (x1 + 2).toNatClampNeg p4)) H := hP
  have hD : va_D A (w_M_addPad ad a_this a_units a_kinds a_values a_names a_low a_high a_told a_leftOut a_isMade a_hands a_pad a_court a_title a_out k_pad v_this_thrown v_this_size v_this_families v_this_atHand v_this_family v_this_density v_this_pads v_this_hasThermal v_this_titleSize v_this_written v_this_at v_this_begin v_this_words v_this_paste0 (vp_updL (vp_updL (vp_updL v_pad x1.toNatClampNeg x2) (x1 + 1).toNatClampNeg p2) (x1 + 2).toNatClampNeg p4)) := hD
  refine lv_aload_n hx hb dM_addPad_39 rfl (lv_at hl 1 rfl) ?_
  refine va_get (D := (dC, dI)) (ci := 10) (v := .ref a_pad) (C := RM) (T := TM) (N := 28) hx hb hts inZ_M hown hK hP 0 rfl rfl 17 (by decide) (hts _ zw_1061) (fun _ h9 => h9) rfl dM_addPad_40 ?_
  refine lv_iload hx hb dM_addPad_43 (lv_at hl 0 rfl) ?_
  refine lv_iconst (v := 3) hx hb dM_addPad_45 (by decide) ?_
  refine lv_iadd hx hb dM_addPad_46 ?_
  refine lv_lload hx hb dM_addPad_47 (lv_at hl 5 rfl) ?_
  obtain ⟨hn6, h⟩ := h
  refine va_last hx hb hK hP hD hS 1 0 rfl rfl hn6 dM_addPad_49 (fun H locs hP hD hS => ?_)
  have hP : va_P (dC, dI) vwCl (w_M_addPad ad a_this a_units a_kinds a_values a_names a_low a_high a_told a_leftOut a_isMade a_hands a_pad a_court a_title a_out k_pad v_this_thrown v_this_size v_this_families v_this_atHand v_this_family v_this_density v_this_pads v_this_hasThermal v_this_titleSize v_this_written v_this_at v_this_begin v_this_words v_this_paste0 (vp_updL (vp_updL (vp_updL (vp_updL v_pad x1.toNatClampNeg x2) (x1 + 1).toNatClampNeg p2) (x1 + 2).toNatClampNeg p4) (x1 + 3).toNatClampNeg p6)) H := hP
  have hD : va_D A (w_M_addPad ad a_this a_units a_kinds a_values a_names a_low a_high a_told a_leftOut a_isMade a_hands a_pad a_court a_title a_out k_pad v_this_thrown v_this_size v_this_families v_this_atHand v_this_family v_this_density v_this_pads v_this_hasThermal v_this_titleSize v_this_written v_this_at v_this_begin v_this_words v_this_paste0 (vp_updL (vp_updL (vp_updL (vp_updL v_pad x1.toNatClampNeg x2) (x1 + 1).toNatClampNeg p2) (x1 + 2).toNatClampNeg p4) (x1 + 3).toNatClampNeg p6)) := hD
  refine lv_aload_n hx hb dM_addPad_50 rfl (lv_at hl 1 rfl) ?_
  refine va_get (D := (dC, dI)) (ci := 10) (v := .ref a_pad) (C := RM) (T := TM) (N := 28) hx hb hts inZ_M hown hK hP 0 rfl rfl 17 (by decide) (hts _ zw_1061) (fun _ h9 => h9) rfl dM_addPad_51 ?_
  refine lv_iload hx hb dM_addPad_54 (lv_at hl 0 rfl) ?_
  refine lv_iconst (v := 4) hx hb dM_addPad_56 (by decide) ?_
  refine lv_iadd hx hb dM_addPad_57 ?_
  refine lv_lload hx hb dM_addPad_58 (lv_at hl 6 rfl) ?_
  obtain ⟨hn7, h⟩ := h
  refine va_last hx hb hK hP hD hS 1 0 rfl rfl hn7 dM_addPad_60 (fun H locs hP hD hS => ?_)
  have hP : va_P (dC, dI) vwCl (w_M_addPad ad a_this a_units a_kinds a_values a_names a_low a_high a_told a_leftOut a_isMade a_hands a_pad a_court a_title a_out k_pad v_this_thrown v_this_size v_this_families v_this_atHand v_this_family v_this_density v_this_pads v_this_hasThermal v_this_titleSize v_this_written v_this_at v_this_begin v_this_words v_this_paste0 (vp_updL (vp_updL (vp_updL (vp_updL (vp_updL v_pad x1.toNatClampNeg x2) (x1 + 1).toNatClampNeg p2) (x1 + 2).toNatClampNeg p4) (x1 + 3).toNatClampNeg p6) (x1 + 4).toNatClampNeg p8)) H := hP
  have hD : va_D A (w_M_addPad ad a_this a_units a_kinds a_values a_names a_low a_high a_told a_leftOut a_isMade a_hands a_pad a_court a_title a_out k_pad v_this_thrown v_this_size v_this_families v_this_atHand v_this_family v_this_density v_this_pads v_this_hasThermal v_this_titleSize v_this_written v_this_at v_this_begin v_this_words v_this_paste0 (vp_updL (vp_updL (vp_updL (vp_updL (vp_updL v_pad x1.toNatClampNeg x2) (x1 + 1).toNatClampNeg p2) (x1 + 2).toNatClampNeg p4) (x1 + 3).toNatClampNeg p6) (x1 + 4).toNatClampNeg p8)) := hD
  refine lv_aload_n hx hb dM_addPad_61 rfl (lv_at hl 1 rfl) ?_
  refine va_get (D := (dC, dI)) (ci := 10) (v := .ref a_pad) (C := RM) (T := TM) (N := 28) hx hb hts inZ_M hown hK hP 0 rfl rfl 17 (by decide) (hts _ zw_1061) (fun _ h9 => h9) rfl dM_addPad_62 ?_
  refine lv_iload hx hb dM_addPad_65 (lv_at hl 0 rfl) ?_
  refine lv_iconst (v := 5) hx hb dM_addPad_67 (by decide) ?_
  refine lv_iadd hx hb dM_addPad_68 ?_
  refine lv_iload hx hb dM_addPad_69 (lv_at hl 7 rfl) ?_
  refine lv_if_eq (tgt := 78) hx hb dM_addPad_71 (by decide) ?_ ?_
  · intro c8
    replace h := h.1 c8
    refine lv_lconst (v := 0) hx hb dM_addPad_78 (by decide) ?_
    exact w_M_addPad_79 l C0 hE a_this a_units a_kinds a_values a_names a_low a_high a_told a_leftOut a_isMade a_hands a_pad a_court a_title a_out k_pad p1 p2 p4 p6 p8 p10 p11 v_this_thrown v_this_size v_this_families v_this_atHand v_this_family v_this_density v_this_pads v_this_hasThermal v_this_titleSize v_this_written v_this_at v_this_begin v_this_words v_this_paste0 v_pad post hK x1 0 (x1 + 5) (vp_updL (vp_updL (vp_updL (vp_updL (vp_updL v_pad x1.toNatClampNeg x2) (x1 + 1).toNatClampNeg p2) (x1 + 2).toNatClampNeg p4) (x1 + 3).toNatClampNeg p6) (x1 + 4).toNatClampNeg p8) _ _ h hP hD hS ls (lv_sub hl [1, 8, 0] rfl)
  · intro c8
    replace h := h.2 c8
    refine lv_lconst (v := 1) hx hb dM_addPad_74 (by decide) ?_
    refine lv_goto (tgt := 79) hx hb dM_addPad_75 (by decide) ?_
    exact w_M_addPad_79 l C0 hE a_this a_units a_kinds a_values a_names a_low a_high a_told a_leftOut a_isMade a_hands a_pad a_court a_title a_out k_pad p1 p2 p4 p6 p8 p10 p11 v_this_thrown v_this_size v_this_families v_this_atHand v_this_family v_this_density v_this_pads v_this_hasThermal v_this_titleSize v_this_written v_this_at v_this_begin v_this_words v_this_paste0 v_pad post hK x1 1 (x1 + 5) (vp_updL (vp_updL (vp_updL (vp_updL (vp_updL v_pad x1.toNatClampNeg x2) (x1 + 1).toNatClampNeg p2) (x1 + 2).toNatClampNeg p4) (x1 + 3).toNatClampNeg p6) (x1 + 4).toNatClampNeg p8) _ _ h hP hD hS ls (lv_sub hl [1, 8, 0] rfl)
abbrev yM_middle : MethodName := ⟨"FootprintRulesModel", "middle", "(JJJ)J"⟩
abbrev cM_middle : ByteArray := prog_14_method_23_code
abbrev wsM_middle : List Cond := .code yM_middle cM_middle 6 (some .long) :: zT
set_option maxRecDepth 100000 in
theorem zc_M_middle : Cond.code yM_middle cM_middle 6 (some .long) ∈ zT := zm 1223 (by rfl) (by rfl)
theorem dM_middle_0 : decode cM_middle 0 = .ok (.lload_n 2, 1) := by decide +kernel
theorem dM_middle_1 : decode cM_middle 1 = .ok (.lload 4, 2) := by decide +kernel
theorem dM_middle_3 : decode cM_middle 3 = .ok (.lmul, 1) := by decide +kernel
theorem dM_middle_4 : decode cM_middle 4 = .ok (.lload_n 0, 1) := by decide +kernel
theorem dM_middle_5 : decode cM_middle 5 = .ok (.lconst 1, 1) := by decide +kernel
theorem dM_middle_6 : decode cM_middle 6 = .ok (.lsub, 1) := by decide +kernel
theorem dM_middle_7 : decode cM_middle 7 = .ok (.lload 4, 2) := by decide +kernel
theorem dM_middle_9 : decode cM_middle 9 = .ok (.lmul, 1) := by decide +kernel
theorem dM_middle_10 : decode cM_middle 10 = .ok (.ldc2_w 90, 3) := by decide +kernel
theorem dM_middle_13 : decode cM_middle 13 = .ok (.ldiv, 1) := by decide +kernel
theorem dM_middle_14 : decode cM_middle 14 = .ok (.lsub, 1) := by decide +kernel
theorem dM_middle_15 : decode cM_middle 15 = .ok (.lreturn, 1) := by decide +kernel
-- FootprintRulesModel.middle(JJJ)J
abbrev w_M_middle (ad : Nat → Nat → Nat)    : va_W := []
def P_M_middle (p0 : Int64) (p2 : Int64) (p4 : Int64) (post : Int64 → Prop) : Prop := post ((p2 * p4) - (((p0 - 1) * p4) / 2))
set_option maxHeartbeats 4000000 in
set_option maxRecDepth 100000 in
theorem c_M_middle (l : Launch) (dC : Nat → ClassId) (dI : Nat → Nat → Nat) (ad : Nat → Nat → Nat)   (sz : Nat) (p0 : Int64) (p2 : Int64) (p4 : Int64) (post : Int64 → Prop) (h : P_M_middle p0 p2 p4 post) : zMl l yM_middle wsM_middle { frames := 0, cells := 0, slots := 0, locals := 0 } (dC, dI) ad [.long p0, .long p2, .long p4] (w_M_middle ad ) [] sz (fun (r : Int64) (u : Unit) => post r) (fun (u : Unit) => (w_M_middle ad )) 0 0 := by
  refine Met.ofW (cc := cM_middle) (maxL := 6) (ret := (some .long)) (by decide +kernel) rfl ?_
  intro p e s m args below meth c s₁ B hml hv
  obtain ⟨rfl, hsz, hP, hK, hD0, hE⟩ := hv
  have hx := B.exec
  have hb := B.bytes
  have hr := B.returns
  have hts0 := atoms_spec (ws := wsM_middle) B.pre
  have hts := fun w h => hts0 w (List.mem_cons_of_mem _ h)
  have hown : s.vm.findClass RM = some m.cls := findClass_of_methodNamed B.named
  have hlocks := B.notSynchronized
  subst hsz
  have hD := hD0.self (sz := s.heap.size)
  generalize hAe : va_A (w_M_middle ad ) s.heap.size = A at hD hE ⊢
  have hA : ∀ q : Nat, s.heap.size ≤ q → A q := fun q h => by rw [← hAe]; exact Or.inr h
  have C0 := zC.mk hx hb hr hml hown hts hlocks hA
  have hS : va_S A s.heap s.heap [] := va_S.rf
  have hl := lv_entry ([.long p0, .long p2, .long p4]) (n := 6) (Nat.le_of_ble_eq_true rfl)
  rw [lg_entry_eq]
  generalize (lg_sl ([.long p0, .long p2, .long p4]) ++ List.replicate (6 - (lg_sl ([.long p0, .long p2, .long p4])).length) Slot.unset).toArray = ls at hl ⊢
  have hl : lv_has ls 6 [(0, .long p0), (2, .long p2), (4, .long p4)] := hl
  unfold P_M_middle at h
  refine lv_lload_n hx hb dM_middle_0 rfl (lv_at hl 1 rfl) ?_
  refine lv_lload hx hb dM_middle_1 (lv_at hl 2 rfl) ?_
  refine lv_lmul hx hb dM_middle_3 ?_
  refine lv_lload_n hx hb dM_middle_4 rfl (lv_at hl 0 rfl) ?_
  refine lv_lconst (v := 1) hx hb dM_middle_5 (by decide) ?_
  refine lv_lsub hx hb dM_middle_6 ?_
  refine lv_lload hx hb dM_middle_7 (lv_at hl 2 rfl) ?_
  refine lv_lmul hx hb dM_middle_9 ?_
  refine lv_ldc2 (own := RM) (index := 90) (v := 2) hx hb hown (hts _ zw_1179) dM_middle_10 ?_
  refine lv_ldiv hx hb dM_middle_13 (by decide) ?_
  refine lv_lsub hx hb dM_middle_14 ?_
  exact W.lret (v := ((p2 * p4) - (((p0 - 1) * p4) / 2))) hx hb hr (fun t ht hW => ⟨⟨((p2 * p4) - (((p0 - 1) * p4) / 2)), (()), rfl, h, by rw [ht]; exact hP, hD⟩, hS.F ht⟩) hS.2.2 dM_middle_15
abbrev yM_hasPitch : MethodName := ⟨"FootprintRulesModel", "hasPitch", "()Z"⟩
abbrev cM_hasPitch : ByteArray := prog_14_method_24_code
abbrev wsM_hasPitch : List Cond := .code yM_hasPitch cM_hasPitch 1 (some .boolean) :: zT
set_option maxRecDepth 100000 in
theorem zc_M_hasPitch : Cond.code yM_hasPitch cM_hasPitch 1 (some .boolean) ∈ zT := zm 1212 (by rfl) (by rfl)
theorem dM_hasPitch_0 : decode cM_hasPitch 0 = .ok (.aload_n 0, 1) := by decide +kernel
theorem dM_hasPitch_1 : decode cM_hasPitch 1 = .ok (.iconst 3, 1) := by decide +kernel
theorem dM_hasPitch_2 : decode cM_hasPitch 2 = .ok (.invokevirtual 137, 3) := by decide +kernel
theorem dM_hasPitch_5 : decode cM_hasPitch 5 = .ok (.ifCond .eq 33, 3) := by decide +kernel
theorem dM_hasPitch_8 : decode cM_hasPitch 8 = .ok (.aload_n 0, 1) := by decide +kernel
theorem dM_hasPitch_9 : decode cM_hasPitch 9 = .ok (.getfield 26, 3) := by decide +kernel
theorem dM_hasPitch_12 : decode cM_hasPitch 12 = .ok (.iconst 3, 1) := by decide +kernel
theorem dM_hasPitch_13 : decode cM_hasPitch 13 = .ok (.laload, 1) := by decide +kernel
theorem dM_hasPitch_14 : decode cM_hasPitch 14 = .ok (.lconst 0, 1) := by decide +kernel
theorem dM_hasPitch_15 : decode cM_hasPitch 15 = .ok (.lcmp, 1) := by decide +kernel
theorem dM_hasPitch_16 : decode cM_hasPitch 16 = .ok (.ifCond .le 22, 3) := by decide +kernel
theorem dM_hasPitch_19 : decode cM_hasPitch 19 = .ok (.aload_n 0, 1) := by decide +kernel
theorem dM_hasPitch_20 : decode cM_hasPitch 20 = .ok (.getfield 26, 3) := by decide +kernel
theorem dM_hasPitch_23 : decode cM_hasPitch 23 = .ok (.iconst 3, 1) := by decide +kernel
theorem dM_hasPitch_24 : decode cM_hasPitch 24 = .ok (.laload, 1) := by decide +kernel
theorem dM_hasPitch_25 : decode cM_hasPitch 25 = .ok (.ldc2_w 90, 3) := by decide +kernel
theorem dM_hasPitch_28 : decode cM_hasPitch 28 = .ok (.lrem, 1) := by decide +kernel
theorem dM_hasPitch_29 : decode cM_hasPitch 29 = .ok (.lconst 0, 1) := by decide +kernel
theorem dM_hasPitch_30 : decode cM_hasPitch 30 = .ok (.lcmp, 1) := by decide +kernel
theorem dM_hasPitch_31 : decode cM_hasPitch 31 = .ok (.ifCond .ne 7, 3) := by decide +kernel
theorem dM_hasPitch_34 : decode cM_hasPitch 34 = .ok (.iconst 1, 1) := by decide +kernel
theorem dM_hasPitch_35 : decode cM_hasPitch 35 = .ok (.goto 4, 3) := by decide +kernel
theorem dM_hasPitch_38 : decode cM_hasPitch 38 = .ok (.iconst 0, 1) := by decide +kernel
theorem dM_hasPitch_39 : decode cM_hasPitch 39 = .ok (.ireturn, 1) := by decide +kernel
-- FootprintRulesModel.hasPitch()Z
abbrev w_M_hasPitch (ad : Nat → Nat → Nat) (a_this : Nat) (a_units : Nat) (a_kinds : Nat) (a_values : Nat) (a_names : Nat) (a_low : Nat) (a_high : Nat) (a_told : Nat) (a_leftOut : Nat) (a_isMade : Nat) (a_hands : Nat) (a_pad : Nat) (a_court : Nat) (a_title : Nat) (a_out : Nat) (k_told : ClassId) (k_low : ClassId) (k_high : ClassId) (v_this_thrown : Int32) (v_this_size : Int32) (v_this_families : Int32) (v_this_atHand : Int32) (v_this_family : Int32) (v_this_density : Int32) (v_this_pads : Int32) (v_this_hasThermal : Int32) (v_this_titleSize : Int32) (v_this_written : Int32) (v_this_at : Int32) (v_this_begin : Int32) (v_this_words : Int32) (v_this_paste0 : Int64) (v_told : Nat → Int32) (v_low : Nat → Int64) (v_high : Nat → Int64) : va_W := [(a_this, .inr (10, [.int v_this_thrown, .ref a_units, .int v_this_size, .int v_this_families, .ref a_kinds, .ref a_values, .ref a_names, .ref a_low, .ref a_high, .ref a_told, .ref a_leftOut, .ref a_isMade, .ref a_hands, .int v_this_atHand, .int v_this_family, .int v_this_density, .int v_this_pads, .ref a_pad, .ref a_court, .int v_this_hasThermal, .ref a_title, .int v_this_titleSize, .ref a_out, .int v_this_written, .int v_this_at, .int v_this_begin, .int v_this_words, .long v_this_paste0])), (a_told, .inl (k_told, 12, .inl v_told)), (a_low, .inl (k_low, 12, .inr (.inl v_low))), (a_high, .inl (k_high, 12, .inr (.inl v_high)))]
def P_M_hasPitch (v_told : Nat → Int32) (v_low : Nat → Int64) (v_high : Nat → Int64) (post : Int32 → Prop) : Prop := P_M_isExact 3 v_told v_low v_high (fun (r1 : Int32) => ((r1 = 0 → post 0) ∧ (¬ r1 = 0 → vp_in 3 12 ∧ (((v_high (3 : Int32).toNatClampNeg) ≤ 0 → post 0) ∧ (¬ (v_high (3 : Int32).toNatClampNeg) ≤ 0 → vp_in 3 12 ∧ ((¬ ((v_high (3 : Int32).toNatClampNeg) - (v_high (3 : Int32).toNatClampNeg) / 2 * 2) = 0 → post 0) ∧ (((v_high (3 : Int32).toNatClampNeg) - (v_high (3 : Int32).toNatClampNeg) / 2 * 2) = 0 → post 1)))))))
set_option maxHeartbeats 4000000 in
set_option maxRecDepth 100000 in
theorem c_M_hasPitch (l : Launch) (dC : Nat → ClassId) (dI : Nat → Nat → Nat) (ad : Nat → Nat → Nat) (a_this : Nat) (a_units : Nat) (a_kinds : Nat) (a_values : Nat) (a_names : Nat) (a_low : Nat) (a_high : Nat) (a_told : Nat) (a_leftOut : Nat) (a_isMade : Nat) (a_hands : Nat) (a_pad : Nat) (a_court : Nat) (a_title : Nat) (a_out : Nat) (k_told : ClassId) (k_low : ClassId) (k_high : ClassId) (sz : Nat) (v_this_thrown : Int32) (v_this_size : Int32) (v_this_families : Int32) (v_this_atHand : Int32) (v_this_family : Int32) (v_this_density : Int32) (v_this_pads : Int32) (v_this_hasThermal : Int32) (v_this_titleSize : Int32) (v_this_written : Int32) (v_this_at : Int32) (v_this_begin : Int32) (v_this_words : Int32) (v_this_paste0 : Int64) (v_told : Nat → Int32) (v_low : Nat → Int64) (v_high : Nat → Int64) (post : Int32 → Prop) (h : P_M_hasPitch v_told v_low v_high post) : zMi l yM_hasPitch wsM_hasPitch { frames := 1, cells := 0, slots := 0, locals := 21 } (dC, dI) ad [.ref a_this] (w_M_hasPitch ad a_this a_units a_kinds a_values a_names a_low a_high a_told a_leftOut a_isMade a_hands a_pad a_court a_title a_out k_told k_low k_high v_this_thrown v_this_size v_this_families v_this_atHand v_this_family v_this_density v_this_pads v_this_hasThermal v_this_titleSize v_this_written v_this_at v_this_begin v_this_words v_this_paste0 v_told v_low v_high) [(k_told, .boolean), (k_low, .long), (k_high, .long)] sz (fun (r : Int32) (u : Unit) => post r) (fun (u : Unit) => (w_M_hasPitch ad a_this a_units a_kinds a_values a_names a_low a_high a_told a_leftOut a_isMade a_hands a_pad a_court a_title a_out k_told k_low k_high v_this_thrown v_this_size v_this_families v_this_atHand v_this_family v_this_density v_this_pads v_this_hasThermal v_this_titleSize v_this_written v_this_at v_this_begin v_this_words v_this_paste0 v_told v_low v_high)) 0 0 := by
  refine Met.ofW (cc := cM_hasPitch) (maxL := 1) (ret := (some .boolean)) (by decide +kernel) rfl ?_
  intro p e s m args below meth c s₁ B hml hv
  obtain ⟨rfl, hsz, hP, hK, hD0, hE⟩ := hv
  have hx := B.exec
  have hb := B.bytes
  have hr := B.returns
  have hts0 := atoms_spec (ws := wsM_hasPitch) B.pre
  have hts := fun w h => hts0 w (List.mem_cons_of_mem _ h)
  have hown : s.vm.findClass RM = some m.cls := findClass_of_methodNamed B.named
  have hlocks := B.notSynchronized
  subst hsz
  have hD := hD0.self (sz := s.heap.size)
  generalize hAe : va_A (w_M_hasPitch ad a_this a_units a_kinds a_values a_names a_low a_high a_told a_leftOut a_isMade a_hands a_pad a_court a_title a_out k_told k_low k_high v_this_thrown v_this_size v_this_families v_this_atHand v_this_family v_this_density v_this_pads v_this_hasThermal v_this_titleSize v_this_written v_this_at v_this_begin v_this_words v_this_paste0 v_told v_low v_high) s.heap.size = A at hD hE ⊢
  have hA : ∀ q : Nat, s.heap.size ≤ q → A q := fun q h => by rw [← hAe]; exact Or.inr h
  have C0 := zC.mk hx hb hr hml hown hts hlocks hA
  have hS : va_S A s.heap s.heap [] := va_S.rf
  have hl := lv_entry ([.ref a_this]) (n := 1) (Nat.le_of_ble_eq_true rfl)
  rw [lg_entry_eq]
  generalize (lg_sl ([.ref a_this]) ++ List.replicate (1 - (lg_sl ([.ref a_this])).length) Slot.unset).toArray = ls at hl ⊢
  have hl : lv_has ls 1 [(0, .ref a_this)] := hl
  unfold P_M_hasPitch at h
  refine lv_aload_n hx hb dM_hasPitch_0 rfl (lv_at hl 0 rfl) ?_
  refine lv_iconst (v := 3) hx hb dM_hasPitch_1 (by decide) ?_
  refine zcall_i hP hD hS hA [0, 1, 2, 3] [] (va_runV (As := [.int 3]) (rest := []) ⟨hx, hb, hml, hown, hts⟩ (c_M_isExact l dC dI ad a_this a_units a_kinds a_values a_names a_low a_high a_told a_leftOut a_isMade a_hands a_pad a_court a_title a_out k_told k_low k_high _ 3 v_this_thrown v_this_size v_this_families v_this_atHand v_this_family v_this_density v_this_pads v_this_hasThermal v_this_titleSize v_this_written v_this_at v_this_begin v_this_words v_this_paste0 v_told v_low v_high _ h) ⟨callB_of 1 hts (zgood zc_M_isExact) rfl rfl rfl (hts _ zw_107) (hts _ zw_1213) (by decide +kernel) ⟨Nat.le_of_ble_eq_true rfl, Nat.le_of_ble_eq_true rfl⟩, (hts _ zw_1215), (hts _ zw_77)⟩ (zpreV hE hK hP hD hS hA [0, 1, 2, 3] [0, 1, 2] (by rfl) (by rfl) (by decide) (ci := 10) (q0 := 0) rfl (by rfl)) rfl rfl hl.1 rfl (lv_room (Nat.le_of_ble_eq_true rfl)) dM_hasPitch_2 ⟨Nat.le_of_ble_eq_true rfl, Nat.le_of_ble_eq_true rfl⟩) (by rfl) (by rfl) (by decide) (by decide) (fun r1 u H locs h hP hD hS => ?_)
  try dsimp only at h
  have hP := hP.sub (ws' := (w_M_hasPitch ad a_this a_units a_kinds a_values a_names a_low a_high a_told a_leftOut a_isMade a_hands a_pad a_court a_title a_out k_told k_low k_high v_this_thrown v_this_size v_this_families v_this_atHand v_this_family v_this_density v_this_pads v_this_hasThermal v_this_titleSize v_this_written v_this_at v_this_begin v_this_words v_this_paste0 v_told v_low v_high)) [0, 1, 2, 3] rfl
  have hD := hD.sub (ws' := (w_M_hasPitch ad a_this a_units a_kinds a_values a_names a_low a_high a_told a_leftOut a_isMade a_hands a_pad a_court a_title a_out k_told k_low k_high v_this_thrown v_this_size v_this_families v_this_atHand v_this_family v_this_density v_this_pads v_this_hasThermal v_this_titleSize v_this_written v_this_at v_this_begin v_this_words v_this_paste0 v_told v_low v_high)) [0, 1, 2, 3] (by decide) rfl
  refine lv_if_eq (tgt := 38) hx hb dM_hasPitch_5 (by decide) ?_ ?_
  · intro c2
    replace h := h.1 c2
    refine lv_iconst (v := 0) hx hb dM_hasPitch_38 (by decide) ?_
    exact W.zret (v := 0) hx hb hr rfl (fun t ht hW => ⟨⟨0, (()), rfl, h, by rw [ht]; exact hP, hD⟩, hS.F ht⟩) hS.2.2 dM_hasPitch_39
  · intro c2
    replace h := h.2 c2
    refine lv_aload_n hx hb dM_hasPitch_8 rfl (lv_at hl 0 rfl) ?_
    refine va_get (D := (dC, dI)) (ci := 10) (v := .ref a_high) (C := RM) (T := TM) (N := 28) hx hb hts inZ_M hown hK hP 0 rfl rfl 8 (by decide) (hts _ zw_1052) (fun _ h9 => h9) rfl dM_hasPitch_9 ?_
    refine lv_iconst (v := 3) hx hb dM_hasPitch_12 (by decide) ?_
    obtain ⟨hn3, h⟩ := h
    refine va_lald hx hb hK hP 3 2 rfl rfl hn3 dM_hasPitch_13 ?_
    refine lv_lconst (v := 0) hx hb dM_hasPitch_14 (by decide) ?_
    refine zz_lcmp_le (tgt := 38) hx hb dM_hasPitch_15 dM_hasPitch_16 (by decide) ?_ ?_
    · intro c4
      replace h := h.1 c4
      refine lv_iconst (v := 0) hx hb dM_hasPitch_38 (by decide) ?_
      exact W.zret (v := 0) hx hb hr rfl (fun t ht hW => ⟨⟨0, (()), rfl, h, by rw [ht]; exact hP, hD⟩, hS.F ht⟩) hS.2.2 dM_hasPitch_39
    · intro c4
      replace h := h.2 c4
      refine lv_aload_n hx hb dM_hasPitch_19 rfl (lv_at hl 0 rfl) ?_
      refine va_get (D := (dC, dI)) (ci := 10) (v := .ref a_high) (C := RM) (T := TM) (N := 28) hx hb hts inZ_M hown hK hP 0 rfl rfl 8 (by decide) (hts _ zw_1052) (fun _ h9 => h9) rfl dM_hasPitch_20 ?_
      refine lv_iconst (v := 3) hx hb dM_hasPitch_23 (by decide) ?_
      obtain ⟨hn5, h⟩ := h
      refine va_lald hx hb hK hP 3 2 rfl rfl hn5 dM_hasPitch_24 ?_
      refine lv_ldc2 (own := RM) (index := 90) (v := 2) hx hb hown (hts _ zw_1179) dM_hasPitch_25 ?_
      refine lv_lrem hx hb dM_hasPitch_28 (by decide) ?_
      refine lv_lconst (v := 0) hx hb dM_hasPitch_29 (by decide) ?_
      refine zz_lcmp_ne (tgt := 38) hx hb dM_hasPitch_30 dM_hasPitch_31 (by decide) ?_ ?_
      · intro c6
        replace h := h.1 c6
        refine lv_iconst (v := 0) hx hb dM_hasPitch_38 (by decide) ?_
        exact W.zret (v := 0) hx hb hr rfl (fun t ht hW => ⟨⟨0, (()), rfl, h, by rw [ht]; exact hP, hD⟩, hS.F ht⟩) hS.2.2 dM_hasPitch_39
      · intro c6
        replace h := h.2 c6
        refine lv_iconst (v := 1) hx hb dM_hasPitch_34 (by decide) ?_
        refine lv_goto (tgt := 39) hx hb dM_hasPitch_35 (by decide) ?_
        exact W.zret (v := 1) hx hb hr rfl (fun t ht hW => ⟨⟨1, (()), rfl, h, by rw [ht]; exact hP, hD⟩, hS.F ht⟩) hS.2.2 dM_hasPitch_39
abbrev yM_hasCount : MethodName := ⟨"FootprintRulesModel", "hasCount", "(JJ)Z"⟩
abbrev cM_hasCount : ByteArray := prog_14_method_25_code
abbrev wsM_hasCount : List Cond := .code yM_hasCount cM_hasCount 5 (some .boolean) :: zT
set_option maxRecDepth 100000 in
theorem zc_M_hasCount : Cond.code yM_hasCount cM_hasCount 5 (some .boolean) ∈ zT := zm 1235 (by rfl) (by rfl)
theorem dM_hasCount_0 : decode cM_hasCount 0 = .ok (.aload_n 0, 1) := by decide +kernel
theorem dM_hasCount_1 : decode cM_hasCount 1 = .ok (.iconst 4, 1) := by decide +kernel
theorem dM_hasCount_2 : decode cM_hasCount 2 = .ok (.invokevirtual 137, 3) := by decide +kernel
theorem dM_hasCount_5 : decode cM_hasCount 5 = .ok (.ifCond .eq 44, 3) := by decide +kernel
theorem dM_hasCount_8 : decode cM_hasCount 8 = .ok (.aload_n 0, 1) := by decide +kernel
theorem dM_hasCount_9 : decode cM_hasCount 9 = .ok (.getfield 26, 3) := by decide +kernel
theorem dM_hasCount_12 : decode cM_hasCount 12 = .ok (.iconst 4, 1) := by decide +kernel
theorem dM_hasCount_13 : decode cM_hasCount 13 = .ok (.laload, 1) := by decide +kernel
theorem dM_hasCount_14 : decode cM_hasCount 14 = .ok (.lload_n 1, 1) := by decide +kernel
theorem dM_hasCount_15 : decode cM_hasCount 15 = .ok (.lcmp, 1) := by decide +kernel
theorem dM_hasCount_16 : decode cM_hasCount 16 = .ok (.ifCond .lt 33, 3) := by decide +kernel
theorem dM_hasCount_19 : decode cM_hasCount 19 = .ok (.aload_n 0, 1) := by decide +kernel
theorem dM_hasCount_20 : decode cM_hasCount 20 = .ok (.getfield 26, 3) := by decide +kernel
theorem dM_hasCount_23 : decode cM_hasCount 23 = .ok (.iconst 4, 1) := by decide +kernel
theorem dM_hasCount_24 : decode cM_hasCount 24 = .ok (.laload, 1) := by decide +kernel
theorem dM_hasCount_25 : decode cM_hasCount 25 = .ok (.ldc2_w 140, 3) := by decide +kernel
theorem dM_hasCount_28 : decode cM_hasCount 28 = .ok (.lcmp, 1) := by decide +kernel
theorem dM_hasCount_29 : decode cM_hasCount 29 = .ok (.ifCond .gt 20, 3) := by decide +kernel
theorem dM_hasCount_32 : decode cM_hasCount 32 = .ok (.aload_n 0, 1) := by decide +kernel
theorem dM_hasCount_33 : decode cM_hasCount 33 = .ok (.getfield 26, 3) := by decide +kernel
theorem dM_hasCount_36 : decode cM_hasCount 36 = .ok (.iconst 4, 1) := by decide +kernel
theorem dM_hasCount_37 : decode cM_hasCount 37 = .ok (.laload, 1) := by decide +kernel
theorem dM_hasCount_38 : decode cM_hasCount 38 = .ok (.lload_n 3, 1) := by decide +kernel
theorem dM_hasCount_39 : decode cM_hasCount 39 = .ok (.lrem, 1) := by decide +kernel
theorem dM_hasCount_40 : decode cM_hasCount 40 = .ok (.lconst 0, 1) := by decide +kernel
theorem dM_hasCount_41 : decode cM_hasCount 41 = .ok (.lcmp, 1) := by decide +kernel
theorem dM_hasCount_42 : decode cM_hasCount 42 = .ok (.ifCond .ne 7, 3) := by decide +kernel
theorem dM_hasCount_45 : decode cM_hasCount 45 = .ok (.iconst 1, 1) := by decide +kernel
theorem dM_hasCount_46 : decode cM_hasCount 46 = .ok (.goto 4, 3) := by decide +kernel
theorem dM_hasCount_49 : decode cM_hasCount 49 = .ok (.iconst 0, 1) := by decide +kernel
theorem dM_hasCount_50 : decode cM_hasCount 50 = .ok (.ireturn, 1) := by decide +kernel
-- FootprintRulesModel.hasCount(JJ)Z
abbrev w_M_hasCount (ad : Nat → Nat → Nat) (a_this : Nat) (a_units : Nat) (a_kinds : Nat) (a_values : Nat) (a_names : Nat) (a_low : Nat) (a_high : Nat) (a_told : Nat) (a_leftOut : Nat) (a_isMade : Nat) (a_hands : Nat) (a_pad : Nat) (a_court : Nat) (a_title : Nat) (a_out : Nat) (k_told : ClassId) (k_low : ClassId) (k_high : ClassId) (v_this_thrown : Int32) (v_this_size : Int32) (v_this_families : Int32) (v_this_atHand : Int32) (v_this_family : Int32) (v_this_density : Int32) (v_this_pads : Int32) (v_this_hasThermal : Int32) (v_this_titleSize : Int32) (v_this_written : Int32) (v_this_at : Int32) (v_this_begin : Int32) (v_this_words : Int32) (v_this_paste0 : Int64) (v_told : Nat → Int32) (v_low : Nat → Int64) (v_high : Nat → Int64) : va_W := [(a_this, .inr (10, [.int v_this_thrown, .ref a_units, .int v_this_size, .int v_this_families, .ref a_kinds, .ref a_values, .ref a_names, .ref a_low, .ref a_high, .ref a_told, .ref a_leftOut, .ref a_isMade, .ref a_hands, .int v_this_atHand, .int v_this_family, .int v_this_density, .int v_this_pads, .ref a_pad, .ref a_court, .int v_this_hasThermal, .ref a_title, .int v_this_titleSize, .ref a_out, .int v_this_written, .int v_this_at, .int v_this_begin, .int v_this_words, .long v_this_paste0])), (a_told, .inl (k_told, 12, .inl v_told)), (a_low, .inl (k_low, 12, .inr (.inl v_low))), (a_high, .inl (k_high, 12, .inr (.inl v_high)))]
def P_M_hasCount (p1 : Int64) (p3 : Int64) (v_told : Nat → Int32) (v_low : Nat → Int64) (v_high : Nat → Int64) (post : Int32 → Prop) : Prop := P_M_isExact 4 v_told v_low v_high (fun (r1 : Int32) => ((r1 = 0 → post 0) ∧ (¬ r1 = 0 → vp_in 4 12 ∧ (((v_high (4 : Int32).toNatClampNeg) < p1 → post 0) ∧ (¬ (v_high (4 : Int32).toNatClampNeg) < p1 → vp_in 4 12 ∧ ((64 < (v_high (4 : Int32).toNatClampNeg) → post 0) ∧ (¬ 64 < (v_high (4 : Int32).toNatClampNeg) → vp_in 4 12 ∧ ¬ p3 = 0 ∧ ((¬ ((v_high (4 : Int32).toNatClampNeg) - (v_high (4 : Int32).toNatClampNeg) / p3 * p3) = 0 → post 0) ∧ (((v_high (4 : Int32).toNatClampNeg) - (v_high (4 : Int32).toNatClampNeg) / p3 * p3) = 0 → post 1)))))))))
set_option maxHeartbeats 4000000 in
set_option maxRecDepth 100000 in
theorem c_M_hasCount (l : Launch) (dC : Nat → ClassId) (dI : Nat → Nat → Nat) (ad : Nat → Nat → Nat) (a_this : Nat) (a_units : Nat) (a_kinds : Nat) (a_values : Nat) (a_names : Nat) (a_low : Nat) (a_high : Nat) (a_told : Nat) (a_leftOut : Nat) (a_isMade : Nat) (a_hands : Nat) (a_pad : Nat) (a_court : Nat) (a_title : Nat) (a_out : Nat) (k_told : ClassId) (k_low : ClassId) (k_high : ClassId) (sz : Nat) (p1 : Int64) (p3 : Int64) (v_this_thrown : Int32) (v_this_size : Int32) (v_this_families : Int32) (v_this_atHand : Int32) (v_this_family : Int32) (v_this_density : Int32) (v_this_pads : Int32) (v_this_hasThermal : Int32) (v_this_titleSize : Int32) (v_this_written : Int32) (v_this_at : Int32) (v_this_begin : Int32) (v_this_words : Int32) (v_this_paste0 : Int64) (v_told : Nat → Int32) (v_low : Nat → Int64) (v_high : Nat → Int64) (post : Int32 → Prop) (h : P_M_hasCount p1 p3 v_told v_low v_high post) : zMi l yM_hasCount wsM_hasCount { frames := 1, cells := 0, slots := 0, locals := 21 } (dC, dI) ad [.ref a_this, .long p1, .long p3] (w_M_hasCount ad a_this a_units a_kinds a_values a_names a_low a_high a_told a_leftOut a_isMade a_hands a_pad a_court a_title a_out k_told k_low k_high v_this_thrown v_this_size v_this_families v_this_atHand v_this_family v_this_density v_this_pads v_this_hasThermal v_this_titleSize v_this_written v_this_at v_this_begin v_this_words v_this_paste0 v_told v_low v_high) [(k_told, .boolean), (k_low, .long), (k_high, .long)] sz (fun (r : Int32) (u : Unit) => post r) (fun (u : Unit) => (w_M_hasCount ad a_this a_units a_kinds a_values a_names a_low a_high a_told a_leftOut a_isMade a_hands a_pad a_court a_title a_out k_told k_low k_high v_this_thrown v_this_size v_this_families v_this_atHand v_this_family v_this_density v_this_pads v_this_hasThermal v_this_titleSize v_this_written v_this_at v_this_begin v_this_words v_this_paste0 v_told v_low v_high)) 0 0 := by
  refine Met.ofW (cc := cM_hasCount) (maxL := 5) (ret := (some .boolean)) (by decide +kernel) rfl ?_
  intro p e s m args below meth c s₁ B hml hv
  obtain ⟨rfl, hsz, hP, hK, hD0, hE⟩ := hv
  have hx := B.exec
  have hb := B.bytes
  have hr := B.returns
  have hts0 := atoms_spec (ws := wsM_hasCount) B.pre
  have hts := fun w h => hts0 w (List.mem_cons_of_mem _ h)
  have hown : s.vm.findClass RM = some m.cls := findClass_of_methodNamed B.named
  have hlocks := B.notSynchronized
  subst hsz
  have hD := hD0.self (sz := s.heap.size)
  generalize hAe : va_A (w_M_hasCount ad a_this a_units a_kinds a_values a_names a_low a_high a_told a_leftOut a_isMade a_hands a_pad a_court a_title a_out k_told k_low k_high v_this_thrown v_this_size v_this_families v_this_atHand v_this_family v_this_density v_this_pads v_this_hasThermal v_this_titleSize v_this_written v_this_at v_this_begin v_this_words v_this_paste0 v_told v_low v_high) s.heap.size = A at hD hE ⊢
  have hA : ∀ q : Nat, s.heap.size ≤ q → A q := fun q h => by rw [← hAe]; exact Or.inr h
  have C0 := zC.mk hx hb hr hml hown hts hlocks hA
  have hS : va_S A s.heap s.heap [] := va_S.rf
  have hl := lv_entry ([.ref a_this, .long p1, .long p3]) (n := 5) (Nat.le_of_ble_eq_true rfl)
  rw [lg_entry_eq]
  generalize (lg_sl ([.ref a_this, .long p1, .long p3]) ++ List.replicate (5 - (lg_sl ([.ref a_this, .long p1, .long p3])).length) Slot.unset).toArray = ls at hl ⊢
  have hl : lv_has ls 5 [(0, .ref a_this), (1, .long p1), (3, .long p3)] := hl
  unfold P_M_hasCount at h
  refine lv_aload_n hx hb dM_hasCount_0 rfl (lv_at hl 0 rfl) ?_
  refine lv_iconst (v := 4) hx hb dM_hasCount_1 (by decide) ?_
  refine zcall_i hP hD hS hA [0, 1, 2, 3] [] (va_runV (As := [.int 4]) (rest := []) ⟨hx, hb, hml, hown, hts⟩ (c_M_isExact l dC dI ad a_this a_units a_kinds a_values a_names a_low a_high a_told a_leftOut a_isMade a_hands a_pad a_court a_title a_out k_told k_low k_high _ 4 v_this_thrown v_this_size v_this_families v_this_atHand v_this_family v_this_density v_this_pads v_this_hasThermal v_this_titleSize v_this_written v_this_at v_this_begin v_this_words v_this_paste0 v_told v_low v_high _ h) ⟨callB_of 1 hts (zgood zc_M_isExact) rfl rfl rfl (hts _ zw_107) (hts _ zw_1213) (by decide +kernel) ⟨Nat.le_of_ble_eq_true rfl, Nat.le_of_ble_eq_true rfl⟩, (hts _ zw_1215), (hts _ zw_77)⟩ (zpreV hE hK hP hD hS hA [0, 1, 2, 3] [0, 1, 2] (by rfl) (by rfl) (by decide) (ci := 10) (q0 := 0) rfl (by rfl)) rfl rfl hl.1 rfl (lv_room (Nat.le_of_ble_eq_true rfl)) dM_hasCount_2 ⟨Nat.le_of_ble_eq_true rfl, Nat.le_of_ble_eq_true rfl⟩) (by rfl) (by rfl) (by decide) (by decide) (fun r1 u H locs h hP hD hS => ?_)
  try dsimp only at h
  have hP := hP.sub (ws' := (w_M_hasCount ad a_this a_units a_kinds a_values a_names a_low a_high a_told a_leftOut a_isMade a_hands a_pad a_court a_title a_out k_told k_low k_high v_this_thrown v_this_size v_this_families v_this_atHand v_this_family v_this_density v_this_pads v_this_hasThermal v_this_titleSize v_this_written v_this_at v_this_begin v_this_words v_this_paste0 v_told v_low v_high)) [0, 1, 2, 3] rfl
  have hD := hD.sub (ws' := (w_M_hasCount ad a_this a_units a_kinds a_values a_names a_low a_high a_told a_leftOut a_isMade a_hands a_pad a_court a_title a_out k_told k_low k_high v_this_thrown v_this_size v_this_families v_this_atHand v_this_family v_this_density v_this_pads v_this_hasThermal v_this_titleSize v_this_written v_this_at v_this_begin v_this_words v_this_paste0 v_told v_low v_high)) [0, 1, 2, 3] (by decide) rfl
  refine lv_if_eq (tgt := 49) hx hb dM_hasCount_5 (by decide) ?_ ?_
  · intro c2
    replace h := h.1 c2
    refine lv_iconst (v := 0) hx hb dM_hasCount_49 (by decide) ?_
    exact W.zret (v := 0) hx hb hr rfl (fun t ht hW => ⟨⟨0, (()), rfl, h, by rw [ht]; exact hP, hD⟩, hS.F ht⟩) hS.2.2 dM_hasCount_50
  · intro c2
    replace h := h.2 c2
    refine lv_aload_n hx hb dM_hasCount_8 rfl (lv_at hl 0 rfl) ?_
    refine va_get (D := (dC, dI)) (ci := 10) (v := .ref a_high) (C := RM) (T := TM) (N := 28) hx hb hts inZ_M hown hK hP 0 rfl rfl 8 (by decide) (hts _ zw_1052) (fun _ h9 => h9) rfl dM_hasCount_9 ?_
    refine lv_iconst (v := 4) hx hb dM_hasCount_12 (by decide) ?_
    obtain ⟨hn3, h⟩ := h
    refine va_lald hx hb hK hP 3 2 rfl rfl hn3 dM_hasCount_13 ?_
    refine lv_lload_n hx hb dM_hasCount_14 rfl (lv_at hl 1 rfl) ?_
    refine zz_lcmp_lt (tgt := 49) hx hb dM_hasCount_15 dM_hasCount_16 (by decide) ?_ ?_
    · intro c4
      replace h := h.1 c4
      refine lv_iconst (v := 0) hx hb dM_hasCount_49 (by decide) ?_
      exact W.zret (v := 0) hx hb hr rfl (fun t ht hW => ⟨⟨0, (()), rfl, h, by rw [ht]; exact hP, hD⟩, hS.F ht⟩) hS.2.2 dM_hasCount_50
    · intro c4
      replace h := h.2 c4
      refine lv_aload_n hx hb dM_hasCount_19 rfl (lv_at hl 0 rfl) ?_
      refine va_get (D := (dC, dI)) (ci := 10) (v := .ref a_high) (C := RM) (T := TM) (N := 28) hx hb hts inZ_M hown hK hP 0 rfl rfl 8 (by decide) (hts _ zw_1052) (fun _ h9 => h9) rfl dM_hasCount_20 ?_
      refine lv_iconst (v := 4) hx hb dM_hasCount_23 (by decide) ?_
      obtain ⟨hn5, h⟩ := h
      refine va_lald hx hb hK hP 3 2 rfl rfl hn5 dM_hasCount_24 ?_
      refine lv_ldc2 (own := RM) (index := 140) (v := 64) hx hb hown (hts _ zw_1236) dM_hasCount_25 ?_
      refine zz_lcmp_gt (tgt := 49) hx hb dM_hasCount_28 dM_hasCount_29 (by decide) ?_ ?_
      · intro c6
        replace h := h.1 c6
        refine lv_iconst (v := 0) hx hb dM_hasCount_49 (by decide) ?_
        exact W.zret (v := 0) hx hb hr rfl (fun t ht hW => ⟨⟨0, (()), rfl, h, by rw [ht]; exact hP, hD⟩, hS.F ht⟩) hS.2.2 dM_hasCount_50
      · intro c6
        replace h := h.2 c6
        refine lv_aload_n hx hb dM_hasCount_32 rfl (lv_at hl 0 rfl) ?_
        refine va_get (D := (dC, dI)) (ci := 10) (v := .ref a_high) (C := RM) (T := TM) (N := 28) hx hb hts inZ_M hown hK hP 0 rfl rfl 8 (by decide) (hts _ zw_1052) (fun _ h9 => h9) rfl dM_hasCount_33 ?_
        refine lv_iconst (v := 4) hx hb dM_hasCount_36 (by decide) ?_
        obtain ⟨hn7, h⟩ := h
        refine va_lald hx hb hK hP 3 2 rfl rfl hn7 dM_hasCount_37 ?_
        refine lv_lload_n hx hb dM_hasCount_38 rfl (lv_at hl 2 rfl) ?_
        obtain ⟨hn8, h⟩ := h
        refine lv_lrem hx hb dM_hasCount_39 hn8 ?_
        refine lv_lconst (v := 0) hx hb dM_hasCount_40 (by decide) ?_
        refine zz_lcmp_ne (tgt := 49) hx hb dM_hasCount_41 dM_hasCount_42 (by decide) ?_ ?_
        · intro c9
          replace h := h.1 c9
          refine lv_iconst (v := 0) hx hb dM_hasCount_49 (by decide) ?_
          exact W.zret (v := 0) hx hb hr rfl (fun t ht hW => ⟨⟨0, (()), rfl, h, by rw [ht]; exact hP, hD⟩, hS.F ht⟩) hS.2.2 dM_hasCount_50
        · intro c9
          replace h := h.2 c9
          refine lv_iconst (v := 1) hx hb dM_hasCount_45 (by decide) ?_
          refine lv_goto (tgt := 50) hx hb dM_hasCount_46 (by decide) ?_
          exact W.zret (v := 1) hx hb hr rfl (fun t ht hW => ⟨⟨1, (()), rfl, h, by rw [ht]; exact hP, hD⟩, hS.F ht⟩) hS.2.2 dM_hasCount_50
abbrev yM_makeThermal : MethodName := ⟨"FootprintRulesModel", "makeThermal", "(JJ)Z"⟩
abbrev cM_makeThermal : ByteArray := prog_14_method_27_code
abbrev wsM_makeThermal : List Cond := .code yM_makeThermal cM_makeThermal 9 (some .boolean) :: zT
set_option maxRecDepth 100000 in
theorem zc_M_makeThermal : Cond.code yM_makeThermal cM_makeThermal 9 (some .boolean) ∈ zT := zm 1248 (by rfl) (by rfl)
theorem dM_makeThermal_0 : decode cM_makeThermal 0 = .ok (.aload_n 0, 1) := by decide +kernel
theorem dM_makeThermal_1 : decode cM_makeThermal 1 = .ok (.getfield 29, 3) := by decide +kernel
theorem dM_makeThermal_4 : decode cM_makeThermal 4 = .ok (.bipush 8, 2) := by decide +kernel
theorem dM_makeThermal_6 : decode cM_makeThermal 6 = .ok (.baload, 1) := by decide +kernel
theorem dM_makeThermal_7 : decode cM_makeThermal 7 = .ok (.ifCond .eq 13, 3) := by decide +kernel
theorem dM_makeThermal_10 : decode cM_makeThermal 10 = .ok (.aload_n 0, 1) := by decide +kernel
theorem dM_makeThermal_11 : decode cM_makeThermal 11 = .ok (.getfield 29, 3) := by decide +kernel
theorem dM_makeThermal_14 : decode cM_makeThermal 14 = .ok (.bipush 9, 2) := by decide +kernel
theorem dM_makeThermal_16 : decode cM_makeThermal 16 = .ok (.baload, 1) := by decide +kernel
theorem dM_makeThermal_17 : decode cM_makeThermal 17 = .ok (.ifCond .ne 5, 3) := by decide +kernel
theorem dM_makeThermal_20 : decode cM_makeThermal 20 = .ok (.iconst 1, 1) := by decide +kernel
theorem dM_makeThermal_21 : decode cM_makeThermal 21 = .ok (.ireturn, 1) := by decide +kernel
theorem dM_makeThermal_22 : decode cM_makeThermal 22 = .ok (.aload_n 0, 1) := by decide +kernel
theorem dM_makeThermal_23 : decode cM_makeThermal 23 = .ok (.getfield 26, 3) := by decide +kernel
theorem dM_makeThermal_26 : decode cM_makeThermal 26 = .ok (.bipush 8, 2) := by decide +kernel
theorem dM_makeThermal_28 : decode cM_makeThermal 28 = .ok (.laload, 1) := by decide +kernel
theorem dM_makeThermal_29 : decode cM_makeThermal 29 = .ok (.ldc2_w 90, 3) := by decide +kernel
theorem dM_makeThermal_32 : decode cM_makeThermal 32 = .ok (.lload_n 1, 1) := by decide +kernel
theorem dM_makeThermal_33 : decode cM_makeThermal 33 = .ok (.lmul, 1) := by decide +kernel
theorem dM_makeThermal_34 : decode cM_makeThermal 34 = .ok (.invokestatic 145, 3) := by decide +kernel
theorem dM_makeThermal_37 : decode cM_makeThermal 37 = .ok (.lstore 5, 2) := by decide +kernel
theorem dM_makeThermal_39 : decode cM_makeThermal 39 = .ok (.aload_n 0, 1) := by decide +kernel
theorem dM_makeThermal_40 : decode cM_makeThermal 40 = .ok (.getfield 26, 3) := by decide +kernel
theorem dM_makeThermal_43 : decode cM_makeThermal 43 = .ok (.bipush 9, 2) := by decide +kernel
theorem dM_makeThermal_45 : decode cM_makeThermal 45 = .ok (.laload, 1) := by decide +kernel
theorem dM_makeThermal_46 : decode cM_makeThermal 46 = .ok (.ldc2_w 90, 3) := by decide +kernel
theorem dM_makeThermal_49 : decode cM_makeThermal 49 = .ok (.lload_n 1, 1) := by decide +kernel
theorem dM_makeThermal_50 : decode cM_makeThermal 50 = .ok (.lmul, 1) := by decide +kernel
theorem dM_makeThermal_51 : decode cM_makeThermal 51 = .ok (.invokestatic 145, 3) := by decide +kernel
theorem dM_makeThermal_54 : decode cM_makeThermal 54 = .ok (.lstore 7, 2) := by decide +kernel
theorem dM_makeThermal_56 : decode cM_makeThermal 56 = .ok (.lload 5, 2) := by decide +kernel
theorem dM_makeThermal_58 : decode cM_makeThermal 58 = .ok (.lconst 0, 1) := by decide +kernel
theorem dM_makeThermal_59 : decode cM_makeThermal 59 = .ok (.lcmp, 1) := by decide +kernel
theorem dM_makeThermal_60 : decode cM_makeThermal 60 = .ok (.ifCond .le 24, 3) := by decide +kernel
theorem dM_makeThermal_63 : decode cM_makeThermal 63 = .ok (.lload 7, 2) := by decide +kernel
theorem dM_makeThermal_65 : decode cM_makeThermal 65 = .ok (.lconst 0, 1) := by decide +kernel
theorem dM_makeThermal_66 : decode cM_makeThermal 66 = .ok (.lcmp, 1) := by decide +kernel
theorem dM_makeThermal_67 : decode cM_makeThermal 67 = .ok (.ifCond .le 17, 3) := by decide +kernel
theorem dM_makeThermal_70 : decode cM_makeThermal 70 = .ok (.lload 5, 2) := by decide +kernel
theorem dM_makeThermal_72 : decode cM_makeThermal 72 = .ok (.lload_n 3, 1) := by decide +kernel
theorem dM_makeThermal_73 : decode cM_makeThermal 73 = .ok (.lcmp, 1) := by decide +kernel
theorem dM_makeThermal_74 : decode cM_makeThermal 74 = .ok (.ifCond .ge 10, 3) := by decide +kernel
theorem dM_makeThermal_77 : decode cM_makeThermal 77 = .ok (.lload 7, 2) := by decide +kernel
theorem dM_makeThermal_79 : decode cM_makeThermal 79 = .ok (.lload_n 3, 1) := by decide +kernel
theorem dM_makeThermal_80 : decode cM_makeThermal 80 = .ok (.lcmp, 1) := by decide +kernel
theorem dM_makeThermal_81 : decode cM_makeThermal 81 = .ok (.ifCond .lt 5, 3) := by decide +kernel
theorem dM_makeThermal_84 : decode cM_makeThermal 84 = .ok (.iconst 0, 1) := by decide +kernel
theorem dM_makeThermal_85 : decode cM_makeThermal 85 = .ok (.ireturn, 1) := by decide +kernel
theorem dM_makeThermal_86 : decode cM_makeThermal 86 = .ok (.aload_n 0, 1) := by decide +kernel
theorem dM_makeThermal_87 : decode cM_makeThermal 87 = .ok (.iconst 1, 1) := by decide +kernel
theorem dM_makeThermal_88 : decode cM_makeThermal 88 = .ok (.putfield 172, 3) := by decide +kernel
theorem dM_makeThermal_91 : decode cM_makeThermal 91 = .ok (.aload_n 0, 1) := by decide +kernel
theorem dM_makeThermal_92 : decode cM_makeThermal 92 = .ok (.aload_n 0, 1) := by decide +kernel
theorem dM_makeThermal_93 : decode cM_makeThermal 93 = .ok (.getfield 134, 3) := by decide +kernel
theorem dM_makeThermal_96 : decode cM_makeThermal 96 = .ok (.iconst 1, 1) := by decide +kernel
theorem dM_makeThermal_97 : decode cM_makeThermal 97 = .ok (.iadd, 1) := by decide +kernel
theorem dM_makeThermal_98 : decode cM_makeThermal 98 = .ok (.lload 5, 2) := by decide +kernel
theorem dM_makeThermal_100 : decode cM_makeThermal 100 = .ok (.lneg, 1) := by decide +kernel
theorem dM_makeThermal_101 : decode cM_makeThermal 101 = .ok (.ldc2_w 90, 3) := by decide +kernel
theorem dM_makeThermal_104 : decode cM_makeThermal 104 = .ok (.ldiv, 1) := by decide +kernel
theorem dM_makeThermal_105 : decode cM_makeThermal 105 = .ok (.lload 7, 2) := by decide +kernel
theorem dM_makeThermal_107 : decode cM_makeThermal 107 = .ok (.lneg, 1) := by decide +kernel
theorem dM_makeThermal_108 : decode cM_makeThermal 108 = .ok (.ldc2_w 90, 3) := by decide +kernel
theorem dM_makeThermal_111 : decode cM_makeThermal 111 = .ok (.ldiv, 1) := by decide +kernel
theorem dM_makeThermal_112 : decode cM_makeThermal 112 = .ok (.lload 5, 2) := by decide +kernel
theorem dM_makeThermal_114 : decode cM_makeThermal 114 = .ok (.lload 7, 2) := by decide +kernel
theorem dM_makeThermal_116 : decode cM_makeThermal 116 = .ok (.iconst 0, 1) := by decide +kernel
theorem dM_makeThermal_117 : decode cM_makeThermal 117 = .ok (.lconst 0, 1) := by decide +kernel
theorem dM_makeThermal_118 : decode cM_makeThermal 118 = .ok (.invokevirtual 165, 3) := by decide +kernel
theorem dM_makeThermal_121 : decode cM_makeThermal 121 = .ok (.iconst 1, 1) := by decide +kernel
theorem dM_makeThermal_122 : decode cM_makeThermal 122 = .ok (.ireturn, 1) := by decide +kernel
-- FootprintRulesModel.makeThermal(JJ)Z
abbrev w_M_makeThermal (ad : Nat → Nat → Nat) (a_this : Nat) (a_units : Nat) (a_kinds : Nat) (a_values : Nat) (a_names : Nat) (a_low : Nat) (a_high : Nat) (a_told : Nat) (a_leftOut : Nat) (a_isMade : Nat) (a_hands : Nat) (a_pad : Nat) (a_court : Nat) (a_title : Nat) (a_out : Nat) (k_told : ClassId) (k_high : ClassId) (k_pad : ClassId) (v_this_thrown : Int32) (v_this_size : Int32) (v_this_families : Int32) (v_this_atHand : Int32) (v_this_family : Int32) (v_this_density : Int32) (v_this_pads : Int32) (v_this_hasThermal : Int32) (v_this_titleSize : Int32) (v_this_written : Int32) (v_this_at : Int32) (v_this_begin : Int32) (v_this_words : Int32) (v_this_paste0 : Int64) (v_told : Nat → Int32) (v_high : Nat → Int64) (v_pad : Nat → Int64) : va_W := [(a_this, .inr (10, [.int v_this_thrown, .ref a_units, .int v_this_size, .int v_this_families, .ref a_kinds, .ref a_values, .ref a_names, .ref a_low, .ref a_high, .ref a_told, .ref a_leftOut, .ref a_isMade, .ref a_hands, .int v_this_atHand, .int v_this_family, .int v_this_density, .int v_this_pads, .ref a_pad, .ref a_court, .int v_this_hasThermal, .ref a_title, .int v_this_titleSize, .ref a_out, .int v_this_written, .int v_this_at, .int v_this_begin, .int v_this_words, .long v_this_paste0])), (a_told, .inl (k_told, 12, .inl v_told)), (a_high, .inl (k_high, 12, .inr (.inl v_high))), (a_pad, .inl (k_pad, 455, .inr (.inl v_pad)))]
def P_M_makeThermal (p1 : Int64) (p3 : Int64) (v_this_pads : Int32) (v_this_hasThermal : Int32) (v_told : Nat → Int32) (v_high : Nat → Int64) (v_pad : Nat → Int64) (post : Int32 → Int32 → Int32 → (Nat → Int64) → Prop) : Prop := vp_in 8 12 ∧ (((v_told (8 : Int32).toNatClampNeg) = 0 → post 1 v_this_pads v_this_hasThermal v_pad) ∧ (¬ (v_told (8 : Int32).toNatClampNeg) = 0 → vp_in 9 12 ∧ ((¬ (v_told (9 : Int32).toNatClampNeg) = 0 → vp_in 8 12 ∧ P_M_up (v_high (8 : Int32).toNatClampNeg) (2 * p1) (fun (r6 : Int64) => vp_in 9 12 ∧ P_M_up (v_high (9 : Int32).toNatClampNeg) (2 * p1) (fun (r8 : Int64) => ((r6 ≤ 0 → post 0 v_this_pads v_this_hasThermal v_pad) ∧ (¬ r6 ≤ 0 → ((r8 ≤ 0 → post 0 v_this_pads v_this_hasThermal v_pad) ∧ (¬ r8 ≤ 0 → ((p3 ≤ r6 → post 0 v_this_pads v_this_hasThermal v_pad) ∧ (¬ p3 ≤ r6 → ((r8 < p3 → P_M_addPad (v_this_pads + 1) ((-r6) / 2) ((-r8) / 2) r6 r8 0 0 v_this_pads v_pad (fun (u13 : Int32) (u14 : Nat → Int64) => post 1 u13 1 u14)) ∧ (¬ r8 < p3 → post 0 v_this_pads v_this_hasThermal v_pad))))))))))) ∧ ((v_told (9 : Int32).toNatClampNeg) = 0 → post 1 v_this_pads v_this_hasThermal v_pad))))
set_option maxHeartbeats 4000000 in
set_option maxRecDepth 100000 in
theorem c_M_makeThermal (l : Launch) (dC : Nat → ClassId) (dI : Nat → Nat → Nat) (ad : Nat → Nat → Nat) (a_this : Nat) (a_units : Nat) (a_kinds : Nat) (a_values : Nat) (a_names : Nat) (a_low : Nat) (a_high : Nat) (a_told : Nat) (a_leftOut : Nat) (a_isMade : Nat) (a_hands : Nat) (a_pad : Nat) (a_court : Nat) (a_title : Nat) (a_out : Nat) (k_told : ClassId) (k_high : ClassId) (k_pad : ClassId) (sz : Nat) (p1 : Int64) (p3 : Int64) (v_this_thrown : Int32) (v_this_size : Int32) (v_this_families : Int32) (v_this_atHand : Int32) (v_this_family : Int32) (v_this_density : Int32) (v_this_pads : Int32) (v_this_hasThermal : Int32) (v_this_titleSize : Int32) (v_this_written : Int32) (v_this_at : Int32) (v_this_begin : Int32) (v_this_words : Int32) (v_this_paste0 : Int64) (v_told : Nat → Int32) (v_high : Nat → Int64) (v_pad : Nat → Int64) (post : Int32 → Int32 → Int32 → (Nat → Int64) → Prop) (h : P_M_makeThermal p1 p3 v_this_pads v_this_hasThermal v_told v_high v_pad post) : zMi l yM_makeThermal wsM_makeThermal { frames := 1, cells := 0, slots := 0, locals := 33 } (dC, dI) ad [.ref a_this, .long p1, .long p3] (w_M_makeThermal ad a_this a_units a_kinds a_values a_names a_low a_high a_told a_leftOut a_isMade a_hands a_pad a_court a_title a_out k_told k_high k_pad v_this_thrown v_this_size v_this_families v_this_atHand v_this_family v_this_density v_this_pads v_this_hasThermal v_this_titleSize v_this_written v_this_at v_this_begin v_this_words v_this_paste0 v_told v_high v_pad) [(k_told, .boolean), (k_high, .long), (k_pad, .long)] sz (fun (r : Int32) (u : Int32 × Int32 × (Nat → Int64)) => post r u.1 u.2.1 u.2.2) (fun (u : Int32 × Int32 × (Nat → Int64)) => (w_M_makeThermal ad a_this a_units a_kinds a_values a_names a_low a_high a_told a_leftOut a_isMade a_hands a_pad a_court a_title a_out k_told k_high k_pad v_this_thrown v_this_size v_this_families v_this_atHand v_this_family v_this_density u.1 u.2.1 v_this_titleSize v_this_written v_this_at v_this_begin v_this_words v_this_paste0 v_told v_high u.2.2)) 0 0 := by
  refine Met.ofW (cc := cM_makeThermal) (maxL := 9) (ret := (some .boolean)) (by decide +kernel) rfl ?_
  intro p e s m args below meth c s₁ B hml hv
  obtain ⟨rfl, hsz, hP, hK, hD0, hE⟩ := hv
  have hx := B.exec
  have hb := B.bytes
  have hr := B.returns
  have hts0 := atoms_spec (ws := wsM_makeThermal) B.pre
  have hts := fun w h => hts0 w (List.mem_cons_of_mem _ h)
  have hown : s.vm.findClass RM = some m.cls := findClass_of_methodNamed B.named
  have hlocks := B.notSynchronized
  subst hsz
  have hD := hD0.self (sz := s.heap.size)
  generalize hAe : va_A (w_M_makeThermal ad a_this a_units a_kinds a_values a_names a_low a_high a_told a_leftOut a_isMade a_hands a_pad a_court a_title a_out k_told k_high k_pad v_this_thrown v_this_size v_this_families v_this_atHand v_this_family v_this_density v_this_pads v_this_hasThermal v_this_titleSize v_this_written v_this_at v_this_begin v_this_words v_this_paste0 v_told v_high v_pad) s.heap.size = A at hD hE ⊢
  have hA : ∀ q : Nat, s.heap.size ≤ q → A q := fun q h => by rw [← hAe]; exact Or.inr h
  have C0 := zC.mk hx hb hr hml hown hts hlocks hA
  have hS : va_S A s.heap s.heap [] := va_S.rf
  have hl := lv_entry ([.ref a_this, .long p1, .long p3]) (n := 9) (Nat.le_of_ble_eq_true rfl)
  rw [lg_entry_eq]
  generalize (lg_sl ([.ref a_this, .long p1, .long p3]) ++ List.replicate (9 - (lg_sl ([.ref a_this, .long p1, .long p3])).length) Slot.unset).toArray = ls at hl ⊢
  have hl : lv_has ls 9 [(0, .ref a_this), (1, .long p1), (3, .long p3)] := hl
  unfold P_M_makeThermal at h
  refine lv_aload_n hx hb dM_makeThermal_0 rfl (lv_at hl 0 rfl) ?_
  refine va_get (D := (dC, dI)) (ci := 10) (v := .ref a_told) (C := RM) (T := TM) (N := 28) hx hb hts inZ_M hown hK hP 0 rfl rfl 9 (by decide) (hts _ zw_1053) (fun _ h9 => h9) rfl dM_makeThermal_1 ?_
  refine lv_bipush (v := 8) hx hb dM_makeThermal_4 (by decide) ?_
  obtain ⟨hn1, h⟩ := h
  refine va_zald hx hb hK hP 1 0 rfl rfl hn1 dM_makeThermal_6 ?_
  refine lv_if_eq (tgt := 20) hx hb dM_makeThermal_7 (by decide) ?_ ?_
  · intro c2
    replace h := h.1 c2
    refine lv_iconst (v := 1) hx hb dM_makeThermal_20 (by decide) ?_
    exact W.zret (v := 1) hx hb hr rfl (fun t ht hW => ⟨⟨1, (v_this_pads, v_this_hasThermal, v_pad), rfl, h, by rw [ht]; exact hP, hD⟩, hS.F ht⟩) hS.2.2 dM_makeThermal_21
  · intro c2
    replace h := h.2 c2
    refine lv_aload_n hx hb dM_makeThermal_10 rfl (lv_at hl 0 rfl) ?_
    refine va_get (D := (dC, dI)) (ci := 10) (v := .ref a_told) (C := RM) (T := TM) (N := 28) hx hb hts inZ_M hown hK hP 0 rfl rfl 9 (by decide) (hts _ zw_1053) (fun _ h9 => h9) rfl dM_makeThermal_11 ?_
    refine lv_bipush (v := 9) hx hb dM_makeThermal_14 (by decide) ?_
    obtain ⟨hn3, h⟩ := h
    refine va_zald hx hb hK hP 1 0 rfl rfl hn3 dM_makeThermal_16 ?_
    refine lv_if_ne (tgt := 22) hx hb dM_makeThermal_17 (by decide) ?_ ?_
    · intro c4
      replace h := h.1 c4
      refine lv_aload_n hx hb dM_makeThermal_22 rfl (lv_at hl 0 rfl) ?_
      refine va_get (D := (dC, dI)) (ci := 10) (v := .ref a_high) (C := RM) (T := TM) (N := 28) hx hb hts inZ_M hown hK hP 0 rfl rfl 8 (by decide) (hts _ zw_1052) (fun _ h9 => h9) rfl dM_makeThermal_23 ?_
      refine lv_bipush (v := 8) hx hb dM_makeThermal_26 (by decide) ?_
      obtain ⟨hn5, h⟩ := h
      refine va_lald hx hb hK hP 2 1 rfl rfl hn5 dM_makeThermal_28 ?_
      refine lv_ldc2 (own := RM) (index := 90) (v := 2) hx hb hown (hts _ zw_1179) dM_makeThermal_29 ?_
      refine lv_lload_n hx hb dM_makeThermal_32 rfl (lv_at hl 1 rfl) ?_
      refine lv_lmul hx hb dM_makeThermal_33 ?_
      refine zcall_l hP hD hS hA [] [0, 1, 2, 3] (va_runS (As := [.long (v_high (8 : Int32).toNatClampNeg), .long (2 * p1)]) (rest := []) ⟨hx, hb, hml, hown, hts⟩ (c_M_up l dC dI ad _ (v_high (8 : Int32).toNatClampNeg) (2 * p1) _ h) ⟨callB_of 2 hts (zgood zc_M_up) rfl rfl rfl (hts _ zw_107) (hts _ zw_1218) (by decide +kernel) ⟨Nat.le_of_ble_eq_true rfl, Nat.le_of_ble_eq_true rfl⟩, (hts _ zw_1219)⟩ (zpreS hE hK hP hD hS hA [] [] (by rfl) (by rfl) (by decide)) rfl rfl hl.1 rfl (lv_room (Nat.le_of_ble_eq_true rfl)) dM_makeThermal_34 ⟨Nat.le_of_ble_eq_true rfl, Nat.le_of_ble_eq_true rfl⟩) (by rfl) (by rfl) (by decide) (by decide) (fun r6 u H locs h hP hD hS => ?_)
      try dsimp only at h
      have hP := hP.sub (ws' := (w_M_makeThermal ad a_this a_units a_kinds a_values a_names a_low a_high a_told a_leftOut a_isMade a_hands a_pad a_court a_title a_out k_told k_high k_pad v_this_thrown v_this_size v_this_families v_this_atHand v_this_family v_this_density v_this_pads v_this_hasThermal v_this_titleSize v_this_written v_this_at v_this_begin v_this_words v_this_paste0 v_told v_high v_pad)) [0, 1, 2, 3] rfl
      have hD := hD.sub (ws' := (w_M_makeThermal ad a_this a_units a_kinds a_values a_names a_low a_high a_told a_leftOut a_isMade a_hands a_pad a_court a_title a_out k_told k_high k_pad v_this_thrown v_this_size v_this_families v_this_atHand v_this_family v_this_density v_this_pads v_this_hasThermal v_this_titleSize v_this_written v_this_at v_this_begin v_this_words v_this_paste0 v_told v_high v_pad)) [0, 1, 2, 3] (by decide) rfl
      refine lv_lstore (lv' := [(5, .long r6), (0, .ref a_this), (1, .long p1), (3, .long p3)]) hx hb dM_makeThermal_37 hl (by decide) rfl (fun ls hl => ?_)
      refine lv_aload_n hx hb dM_makeThermal_39 rfl (lv_at hl 1 rfl) ?_
      refine va_get (D := (dC, dI)) (ci := 10) (v := .ref a_high) (C := RM) (T := TM) (N := 28) hx hb hts inZ_M hown hK hP 0 rfl rfl 8 (by decide) (hts _ zw_1052) (fun _ h9 => h9) rfl dM_makeThermal_40 ?_
      refine lv_bipush (v := 9) hx hb dM_makeThermal_43 (by decide) ?_
      obtain ⟨hn7, h⟩ := h
      refine va_lald hx hb hK hP 2 1 rfl rfl hn7 dM_makeThermal_45 ?_
      refine lv_ldc2 (own := RM) (index := 90) (v := 2) hx hb hown (hts _ zw_1179) dM_makeThermal_46 ?_
      refine lv_lload_n hx hb dM_makeThermal_49 rfl (lv_at hl 2 rfl) ?_
      refine lv_lmul hx hb dM_makeThermal_50 ?_
      refine zcall_l hP hD hS hA [] [0, 1, 2, 3] (va_runS (As := [.long (v_high (9 : Int32).toNatClampNeg), .long (2 * p1)]) (rest := []) ⟨hx, hb, hml, hown, hts⟩ (c_M_up l dC dI ad _ (v_high (9 : Int32).toNatClampNeg) (2 * p1) _ h) ⟨callB_of 2 hts (zgood zc_M_up) rfl rfl rfl (hts _ zw_107) (hts _ zw_1218) (by decide +kernel) ⟨Nat.le_of_ble_eq_true rfl, Nat.le_of_ble_eq_true rfl⟩, (hts _ zw_1219)⟩ (zpreS hE hK hP hD hS hA [] [] (by rfl) (by rfl) (by decide)) rfl rfl hl.1 rfl (lv_room (Nat.le_of_ble_eq_true rfl)) dM_makeThermal_51 ⟨Nat.le_of_ble_eq_true rfl, Nat.le_of_ble_eq_true rfl⟩) (by rfl) (by rfl) (by decide) (by decide) (fun r8 u H locs h hP hD hS => ?_)
      try dsimp only at h
      have hP := hP.sub (ws' := (w_M_makeThermal ad a_this a_units a_kinds a_values a_names a_low a_high a_told a_leftOut a_isMade a_hands a_pad a_court a_title a_out k_told k_high k_pad v_this_thrown v_this_size v_this_families v_this_atHand v_this_family v_this_density v_this_pads v_this_hasThermal v_this_titleSize v_this_written v_this_at v_this_begin v_this_words v_this_paste0 v_told v_high v_pad)) [0, 1, 2, 3] rfl
      have hD := hD.sub (ws' := (w_M_makeThermal ad a_this a_units a_kinds a_values a_names a_low a_high a_told a_leftOut a_isMade a_hands a_pad a_court a_title a_out k_told k_high k_pad v_this_thrown v_this_size v_this_families v_this_atHand v_this_family v_this_density v_this_pads v_this_hasThermal v_this_titleSize v_this_written v_this_at v_this_begin v_this_words v_this_paste0 v_told v_high v_pad)) [0, 1, 2, 3] (by decide) rfl
      refine lv_lstore (lv' := [(7, .long r8), (5, .long r6), (0, .ref a_this), (1, .long p1), (3, .long p3)]) hx hb dM_makeThermal_54 hl (by decide) rfl (fun ls hl => ?_)
      refine lv_lload hx hb dM_makeThermal_56 (lv_at hl 1 rfl) ?_
      refine lv_lconst (v := 0) hx hb dM_makeThermal_58 (by decide) ?_
      refine zz_lcmp_le (tgt := 84) hx hb dM_makeThermal_59 dM_makeThermal_60 (by decide) ?_ ?_
      · intro c9
        replace h := h.1 c9
        refine lv_iconst (v := 0) hx hb dM_makeThermal_84 (by decide) ?_
        exact W.zret (v := 0) hx hb hr rfl (fun t ht hW => ⟨⟨0, (v_this_pads, v_this_hasThermal, v_pad), rfl, h, by rw [ht]; exact hP, hD⟩, hS.F ht⟩) hS.2.2 dM_makeThermal_85
      · intro c9
        replace h := h.2 c9
        refine lv_lload hx hb dM_makeThermal_63 (lv_at hl 0 rfl) ?_
        refine lv_lconst (v := 0) hx hb dM_makeThermal_65 (by decide) ?_
        refine zz_lcmp_le (tgt := 84) hx hb dM_makeThermal_66 dM_makeThermal_67 (by decide) ?_ ?_
        · intro c10
          replace h := h.1 c10
          refine lv_iconst (v := 0) hx hb dM_makeThermal_84 (by decide) ?_
          exact W.zret (v := 0) hx hb hr rfl (fun t ht hW => ⟨⟨0, (v_this_pads, v_this_hasThermal, v_pad), rfl, h, by rw [ht]; exact hP, hD⟩, hS.F ht⟩) hS.2.2 dM_makeThermal_85
        · intro c10
          replace h := h.2 c10
          refine lv_lload hx hb dM_makeThermal_70 (lv_at hl 1 rfl) ?_
          refine lv_lload_n hx hb dM_makeThermal_72 rfl (lv_at hl 4 rfl) ?_
          refine zz_lcmp_ge (tgt := 84) hx hb dM_makeThermal_73 dM_makeThermal_74 (by decide) ?_ ?_
          · intro c11
            replace h := h.1 c11
            refine lv_iconst (v := 0) hx hb dM_makeThermal_84 (by decide) ?_
            exact W.zret (v := 0) hx hb hr rfl (fun t ht hW => ⟨⟨0, (v_this_pads, v_this_hasThermal, v_pad), rfl, h, by rw [ht]; exact hP, hD⟩, hS.F ht⟩) hS.2.2 dM_makeThermal_85
          · intro c11
            replace h := h.2 c11
            refine lv_lload hx hb dM_makeThermal_77 (lv_at hl 0 rfl) ?_
            refine lv_lload_n hx hb dM_makeThermal_79 rfl (lv_at hl 4 rfl) ?_
            refine zz_lcmp_lt (tgt := 86) hx hb dM_makeThermal_80 dM_makeThermal_81 (by decide) ?_ ?_
            · intro c12
              replace h := h.1 c12
              refine lv_aload_n hx hb dM_makeThermal_86 rfl (lv_at hl 2 rfl) ?_
              refine lv_iconst (v := 1) hx hb dM_makeThermal_87 (by decide) ?_
              refine va_put (D := (dC, dI)) (ci := 10) (v := .int 1) (ty := .boolean) (C := RM) (T := TM) (N := 28) hx hb hts inZ_M tyM tyM_ok nmM hown hK hP hD hS 0 rfl rfl 19 (by decide) (hts _ zw_1063) (fun _ h9 => h9) rfl (by decide +kernel) rfl rfl (Nat.le_of_ble_eq_true rfl) dM_makeThermal_88 (fun H locs hP hD hS => ?_)
              have hP : va_P (dC, dI) vwCl (w_M_makeThermal ad a_this a_units a_kinds a_values a_names a_low a_high a_told a_leftOut a_isMade a_hands a_pad a_court a_title a_out k_told k_high k_pad v_this_thrown v_this_size v_this_families v_this_atHand v_this_family v_this_density v_this_pads 1 v_this_titleSize v_this_written v_this_at v_this_begin v_this_words v_this_paste0 v_told v_high v_pad) H := hP
              have hD : va_D A (w_M_makeThermal ad a_this a_units a_kinds a_values a_names a_low a_high a_told a_leftOut a_isMade a_hands a_pad a_court a_title a_out k_told k_high k_pad v_this_thrown v_this_size v_this_families v_this_atHand v_this_family v_this_density v_this_pads 1 v_this_titleSize v_this_written v_this_at v_this_begin v_this_words v_this_paste0 v_told v_high v_pad) := hD
              refine lv_aload_n hx hb dM_makeThermal_91 rfl (lv_at hl 2 rfl) ?_
              refine lv_aload_n hx hb dM_makeThermal_92 rfl (lv_at hl 2 rfl) ?_
              refine va_get (D := (dC, dI)) (ci := 10) (v := .int v_this_pads) (C := RM) (T := TM) (N := 28) hx hb hts inZ_M hown hK hP 0 rfl rfl 16 (by decide) (hts _ zw_1060) (fun _ h9 => h9) rfl dM_makeThermal_93 ?_
              refine lv_iconst (v := 1) hx hb dM_makeThermal_96 (by decide) ?_
              refine lv_iadd hx hb dM_makeThermal_97 ?_
              refine lv_lload hx hb dM_makeThermal_98 (lv_at hl 1 rfl) ?_
              refine lv_lneg hx hb dM_makeThermal_100 ?_
              refine lv_ldc2 (own := RM) (index := 90) (v := 2) hx hb hown (hts _ zw_1179) dM_makeThermal_101 ?_
              refine lv_ldiv hx hb dM_makeThermal_104 (by decide) ?_
              refine lv_lload hx hb dM_makeThermal_105 (lv_at hl 0 rfl) ?_
              refine lv_lneg hx hb dM_makeThermal_107 ?_
              refine lv_ldc2 (own := RM) (index := 90) (v := 2) hx hb hown (hts _ zw_1179) dM_makeThermal_108 ?_
              refine lv_ldiv hx hb dM_makeThermal_111 (by decide) ?_
              refine lv_lload hx hb dM_makeThermal_112 (lv_at hl 1 rfl) ?_
              refine lv_lload hx hb dM_makeThermal_114 (lv_at hl 0 rfl) ?_
              refine lv_iconst (v := 0) hx hb dM_makeThermal_116 (by decide) ?_
              refine lv_lconst (v := 0) hx hb dM_makeThermal_117 (by decide) ?_
              refine zcall_v hP hD hS hA [0, 3] [1, 2] (va_runV (As := [.int (v_this_pads + 1), .long ((-r6) / 2), .long ((-r8) / 2), .long r6, .long r8, .int 0, .long 0]) (rest := []) ⟨hx, hb, hml, hown, hts⟩ (c_M_addPad l dC dI ad a_this a_units a_kinds a_values a_names a_low a_high a_told a_leftOut a_isMade a_hands a_pad a_court a_title a_out k_pad _ (v_this_pads + 1) ((-r6) / 2) ((-r8) / 2) r6 r8 0 0 v_this_thrown v_this_size v_this_families v_this_atHand v_this_family v_this_density v_this_pads 1 v_this_titleSize v_this_written v_this_at v_this_begin v_this_words v_this_paste0 v_pad _ h) ⟨callB_of 7 hts (zgood zc_M_addPad) rfl rfl rfl (hts _ zw_107) (hts _ zw_1224) (by decide +kernel) ⟨Nat.le_of_ble_eq_true rfl, Nat.le_of_ble_eq_true rfl⟩, (hts _ zw_1226), (hts _ zw_78)⟩ (zpreV hE hK hP hD hS hA [0, 3] [2] (by rfl) (by rfl) (by decide) (ci := 10) (q0 := 0) rfl (by rfl)) rfl rfl hl.1 rfl (lv_room (Nat.le_of_ble_eq_true rfl)) dM_makeThermal_118 ⟨Nat.le_of_ble_eq_true rfl, Nat.le_of_ble_eq_true rfl⟩) (by rfl) (by rfl) (by decide) (by decide) (fun u H locs h hP hD hS => ?_)
              obtain ⟨u13, u14⟩ := u
              try dsimp only at h
              have hP := hP.sub (ws' := (w_M_makeThermal ad a_this a_units a_kinds a_values a_names a_low a_high a_told a_leftOut a_isMade a_hands a_pad a_court a_title a_out k_told k_high k_pad v_this_thrown v_this_size v_this_families v_this_atHand v_this_family v_this_density u13 1 v_this_titleSize v_this_written v_this_at v_this_begin v_this_words v_this_paste0 v_told v_high u14)) [2, 0, 1, 3] rfl
              have hD := hD.sub (ws' := (w_M_makeThermal ad a_this a_units a_kinds a_values a_names a_low a_high a_told a_leftOut a_isMade a_hands a_pad a_court a_title a_out k_told k_high k_pad v_this_thrown v_this_size v_this_families v_this_atHand v_this_family v_this_density u13 1 v_this_titleSize v_this_written v_this_at v_this_begin v_this_words v_this_paste0 v_told v_high u14)) [2, 0, 1, 3] (by decide) rfl
              refine lv_iconst (v := 1) hx hb dM_makeThermal_121 (by decide) ?_
              exact W.zret (v := 1) hx hb hr rfl (fun t ht hW => ⟨⟨1, (u13, 1, u14), rfl, h, by rw [ht]; exact hP, hD⟩, hS.F ht⟩) hS.2.2 dM_makeThermal_122
            · intro c12
              replace h := h.2 c12
              refine lv_iconst (v := 0) hx hb dM_makeThermal_84 (by decide) ?_
              exact W.zret (v := 0) hx hb hr rfl (fun t ht hW => ⟨⟨0, (v_this_pads, v_this_hasThermal, v_pad), rfl, h, by rw [ht]; exact hP, hD⟩, hS.F ht⟩) hS.2.2 dM_makeThermal_85
    · intro c4
      replace h := h.2 c4
      refine lv_iconst (v := 1) hx hb dM_makeThermal_20 (by decide) ?_
      exact W.zret (v := 1) hx hb hr rfl (fun t ht hW => ⟨⟨1, (v_this_pads, v_this_hasThermal, v_pad), rfl, h, by rw [ht]; exact hP, hD⟩, hS.F ht⟩) hS.2.2 dM_makeThermal_21
