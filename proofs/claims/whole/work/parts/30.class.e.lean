abbrev yMa_padsOfSide : MethodName := ⟨"FootprintRules$Maker", "padsOfSide", "(LFootprintRules$Kind;)I"⟩
abbrev cMa_padsOfSide : ByteArray := prog_10_method_13_code
abbrev wsMa_padsOfSide : List Cond := .code yMa_padsOfSide cMa_padsOfSide 2 (some .int) :: zT
set_option maxRecDepth 100000 in
theorem zc_Ma_padsOfSide : Cond.code yMa_padsOfSide cMa_padsOfSide 2 (some .int) ∈ zT := zm 792 (by rfl) (by rfl)
theorem dMa_padsOfSide_0 : decode cMa_padsOfSide 0 = .ok (.aload_n 1, 1) := by decide +kernel
theorem dMa_padsOfSide_1 : decode cMa_padsOfSide 1 = .ok (.getstatic 207, 3) := by decide +kernel
theorem dMa_padsOfSide_4 : decode cMa_padsOfSide 4 = .ok (.if_acmp .ne 5, 3) := by decide +kernel
theorem dMa_padsOfSide_7 : decode cMa_padsOfSide 7 = .ok (.iconst 1, 1) := by decide +kernel
theorem dMa_padsOfSide_8 : decode cMa_padsOfSide 8 = .ok (.ireturn, 1) := by decide +kernel
theorem dMa_padsOfSide_9 : decode cMa_padsOfSide 9 = .ok (.aload_n 0, 1) := by decide +kernel
theorem dMa_padsOfSide_10 : decode cMa_padsOfSide 10 = .ok (.getfield 12, 3) := by decide +kernel
theorem dMa_padsOfSide_13 : decode cMa_padsOfSide 13 = .ok (.iconst 4, 1) := by decide +kernel
theorem dMa_padsOfSide_14 : decode cMa_padsOfSide 14 = .ok (.invokevirtual 42, 3) := by decide +kernel
theorem dMa_padsOfSide_17 : decode cMa_padsOfSide 17 = .ok (.aload_n 1, 1) := by decide +kernel
theorem dMa_padsOfSide_18 : decode cMa_padsOfSide 18 = .ok (.getstatic 176, 3) := by decide +kernel
theorem dMa_padsOfSide_21 : decode cMa_padsOfSide 21 = .ok (.if_acmp .ne 7, 3) := by decide +kernel
theorem dMa_padsOfSide_24 : decode cMa_padsOfSide 24 = .ok (.iconst 4, 1) := by decide +kernel
theorem dMa_padsOfSide_25 : decode cMa_padsOfSide 25 = .ok (.goto 4, 3) := by decide +kernel
theorem dMa_padsOfSide_28 : decode cMa_padsOfSide 28 = .ok (.iconst 2, 1) := by decide +kernel
theorem dMa_padsOfSide_29 : decode cMa_padsOfSide 29 = .ok (.i2l, 1) := by decide +kernel
theorem dMa_padsOfSide_30 : decode cMa_padsOfSide 30 = .ok (.ldiv, 1) := by decide +kernel
theorem dMa_padsOfSide_31 : decode cMa_padsOfSide 31 = .ok (.l2i, 1) := by decide +kernel
theorem dMa_padsOfSide_32 : decode cMa_padsOfSide 32 = .ok (.ireturn, 1) := by decide +kernel
-- FootprintRules$Maker.padsOfSide(LFootprintRules$Kind;)I
abbrev w_Ma_padsOfSide (ad : Nat → Nat → Nat) (a_this : Nat) (a_spans : Nat) (a_leftOut : Nat) (a_print : Nat) (a_spans_lows : Nat) (a_spans_highs : Nat) (k_spans_highs : ClassId) (v_this_rounding : Int64) (v_this_toe : Int64) (v_this_heel : Int64) (v_this_side : Int64) (v_this_pitch : Int64) (v_this_outer : Int64) (v_this_inner : Int64) (v_this_across : Int64) (v_this_hole : Int64) (v_spans_toldBits : Int32) (v_spans_exactBits : Int32) (v_spans_highs : Nat → Int64) : va_W := [(a_this, .inr (4, [.ref a_spans, .ref a_leftOut, .ref a_print, .long v_this_rounding, .long v_this_toe, .long v_this_heel, .long v_this_side, .long v_this_pitch, .long v_this_outer, .long v_this_inner, .long v_this_across, .long v_this_hole])), (a_spans, .inr (3, [.ref a_spans_lows, .ref a_spans_highs, .int v_spans_toldBits, .int v_spans_exactBits])), (a_spans_highs, .inl (k_spans_highs, 12, .inr (.inl v_spans_highs)))]
def P_Ma_padsOfSide (p1 : Nat) (v_spans_toldBits : Int32) (v_spans_highs : Nat → Int64) (post : Int32 → Prop) : Prop := p1 < 5 ∧ ((¬ p1 = 0 → P_Sp_highOf 4 v_spans_toldBits v_spans_highs (fun (r3 : Int64) => p1 < 5 ∧ ((¬ p1 = 2 → ¬ ((2 : Int32).toInt64) = 0 ∧ post ((r3 / ((2 : Int32).toInt64)).toInt32)) ∧ (p1 = 2 → ¬ ((4 : Int32).toInt64) = 0 ∧ post ((r3 / ((4 : Int32).toInt64)).toInt32))))) ∧ (p1 = 0 → post 1))
set_option maxHeartbeats 4000000 in
set_option maxRecDepth 100000 in
theorem c_Ma_padsOfSide (l : Launch) (dC : Nat → ClassId) (dI : Nat → Nat → Nat) (ad : Nat → Nat → Nat) (a_this : Nat) (a_spans : Nat) (a_leftOut : Nat) (a_print : Nat) (a_spans_lows : Nat) (a_spans_highs : Nat) (k_spans_highs : ClassId) (sz : Nat) (p1 : Nat) (v_this_rounding : Int64) (v_this_toe : Int64) (v_this_heel : Int64) (v_this_side : Int64) (v_this_pitch : Int64) (v_this_outer : Int64) (v_this_inner : Int64) (v_this_across : Int64) (v_this_hole : Int64) (v_spans_toldBits : Int32) (v_spans_exactBits : Int32) (v_spans_highs : Nat → Int64) (post : Int32 → Prop) (h : P_Ma_padsOfSide p1 v_spans_toldBits v_spans_highs post) : zMi l yMa_padsOfSide wsMa_padsOfSide { frames := 3, cells := 0, slots := 0, locals := 63 } (dC, dI) ad [.ref a_this, .ref (ad 0 p1)] (w_Ma_padsOfSide ad a_this a_spans a_leftOut a_print a_spans_lows a_spans_highs k_spans_highs v_this_rounding v_this_toe v_this_heel v_this_side v_this_pitch v_this_outer v_this_inner v_this_across v_this_hole v_spans_toldBits v_spans_exactBits v_spans_highs) [(k_spans_highs, .long)] sz (fun (r : Int32) (u : Unit) => post r) (fun (u : Unit) => (w_Ma_padsOfSide ad a_this a_spans a_leftOut a_print a_spans_lows a_spans_highs k_spans_highs v_this_rounding v_this_toe v_this_heel v_this_side v_this_pitch v_this_outer v_this_inner v_this_across v_this_hole v_spans_toldBits v_spans_exactBits v_spans_highs)) 0 0 := by
  refine Met.ofW (cc := cMa_padsOfSide) (maxL := 2) (ret := (some .int)) (by decide +kernel) rfl ?_
  intro p e s m args below meth c s₁ B hml hv
  obtain ⟨rfl, hsz, hP, hK, hD0, hE⟩ := hv
  have hx := B.exec
  have hb := B.bytes
  have hr := B.returns
  have hts0 := atoms_spec (ws := wsMa_padsOfSide) B.pre
  have hts := fun w h => hts0 w (List.mem_cons_of_mem _ h)
  have hown : s.vm.findClass RMa = some m.cls := findClass_of_methodNamed B.named
  have hlocks := B.notSynchronized
  subst hsz
  have hD := hD0.self (sz := s.heap.size)
  generalize hAe : va_A (w_Ma_padsOfSide ad a_this a_spans a_leftOut a_print a_spans_lows a_spans_highs k_spans_highs v_this_rounding v_this_toe v_this_heel v_this_side v_this_pitch v_this_outer v_this_inner v_this_across v_this_hole v_spans_toldBits v_spans_exactBits v_spans_highs) s.heap.size = A at hD hE ⊢
  have hA : ∀ q : Nat, s.heap.size ≤ q → A q := fun q h => by rw [← hAe]; exact Or.inr h
  have C0 := zC.mk hx hb hr hml hown hts hlocks hA
  have hS : va_S A s.heap s.heap [] := va_S.rf
  have hl := lv_entry ([.ref a_this, .ref (ad 0 p1)]) (n := 2) (Nat.le_of_ble_eq_true rfl)
  rw [lg_entry_eq]
  generalize (lg_sl ([.ref a_this, .ref (ad 0 p1)]) ++ List.replicate (2 - (lg_sl ([.ref a_this, .ref (ad 0 p1)])).length) Slot.unset).toArray = ls at hl ⊢
  have hl : lv_has ls 2 [(0, .ref a_this), (1, .ref (ad 0 p1))] := hl
  unfold P_Ma_padsOfSide at h
  refine lv_aload_n hx hb dMa_padsOfSide_0 rfl (lv_at hl 1 rfl) ?_
  refine va_gets (C := "FootprintRules$Kind") (n := "CHIP") (d := "LFootprintRules$Kind;") hx hb (hE.enKind.1 0 (by decide)).1 hS hown (hts _ zw_784) (fun _ h9 => h9) dMa_padsOfSide_1 ?_
  obtain ⟨hn1, h⟩ := h
  refine zz_acmp_ne (tgt := 9) hx hb dMa_padsOfSide_4 (by decide) (hE.inj_Kind hn1 (by decide)) ?_ ?_
  · intro c2
    replace h := h.1 c2
    refine lv_aload_n hx hb dMa_padsOfSide_9 rfl (lv_at hl 0 rfl) ?_
    refine va_get (D := (dC, dI)) (ci := 4) (v := .ref a_spans) (C := RMa) (T := TMa) (N := 12) hx hb hts inZ_Ma hown hK hP 0 rfl rfl 0 (by decide) (hts _ zw_331) (fun _ h9 => h9) rfl dMa_padsOfSide_10 ?_
    refine lv_iconst (v := 4) hx hb dMa_padsOfSide_13 (by decide) ?_
    refine zcall_l hP hD hS hA [1, 2] [0] (va_runVN (As := [.int 4]) (rest := []) ⟨hx, hb, hml, hown, hts⟩ (c_Sp_highOf l dC dI ad a_spans a_spans_lows a_spans_highs k_spans_highs _ 4 v_spans_toldBits v_spans_exactBits v_spans_highs _ h) ⟨va_cnB 1 hts (zgood zc_Sp_highOf) rfl rfl rfl (hE.nw _ zn_692) (hts _ zw_100) (by decide +kernel) ⟨Nat.le_of_ble_eq_true rfl, Nat.le_of_ble_eq_true rfl⟩, (hts _ zw_694), (hts _ zw_24)⟩ (zpreV hE hK hP hD hS hA [1, 2] [0] (by rfl) (by rfl) (by decide) (ci := 3) (q0 := 1) rfl (by rfl)) rfl rfl hl.1 rfl (lv_room (Nat.le_of_ble_eq_true rfl)) dMa_padsOfSide_14 ⟨Nat.le_of_ble_eq_true rfl, Nat.le_of_ble_eq_true rfl⟩) (by rfl) (by rfl) (by decide) (by decide) (fun r3 u H locs h hP hD hS => ?_)
    try dsimp only at h
    have hP := hP.sub (ws' := (w_Ma_padsOfSide ad a_this a_spans a_leftOut a_print a_spans_lows a_spans_highs k_spans_highs v_this_rounding v_this_toe v_this_heel v_this_side v_this_pitch v_this_outer v_this_inner v_this_across v_this_hole v_spans_toldBits v_spans_exactBits v_spans_highs)) [0, 1, 2] rfl
    have hD := hD.sub (ws' := (w_Ma_padsOfSide ad a_this a_spans a_leftOut a_print a_spans_lows a_spans_highs k_spans_highs v_this_rounding v_this_toe v_this_heel v_this_side v_this_pitch v_this_outer v_this_inner v_this_across v_this_hole v_spans_toldBits v_spans_exactBits v_spans_highs)) [0, 1, 2] (by decide) rfl
    refine lv_aload_n hx hb dMa_padsOfSide_17 rfl (lv_at hl 1 rfl) ?_
    refine va_gets (C := "FootprintRules$Kind") (n := "LESS") (d := "LFootprintRules$Kind;") hx hb (hE.enKind.1 2 (by decide)).1 hS hown (hts _ zw_785) (fun _ h9 => h9) dMa_padsOfSide_18 ?_
    obtain ⟨hn4, h⟩ := h
    refine zz_acmp_ne (tgt := 28) hx hb dMa_padsOfSide_21 (by decide) (hE.inj_Kind hn4 (by decide)) ?_ ?_
    · intro c5
      replace h := h.1 c5
      refine lv_iconst (v := 2) hx hb dMa_padsOfSide_28 (by decide) ?_
      refine lv_i2l hx hb dMa_padsOfSide_29 rfl ?_
      obtain ⟨hn6, h⟩ := h
      refine lv_ldiv hx hb dMa_padsOfSide_30 hn6 ?_
      refine lv_l2i hx hb dMa_padsOfSide_31 rfl ?_
      exact W.iret (v := ((r3 / ((2 : Int32).toInt64)).toInt32)) hx hb hr (fun t ht hW => ⟨⟨((r3 / ((2 : Int32).toInt64)).toInt32), (()), rfl, h, by rw [ht]; exact hP, hD⟩, hS.F ht⟩) hS.2.2 dMa_padsOfSide_32
    · intro c5
      replace h := h.2 c5
      refine lv_iconst (v := 4) hx hb dMa_padsOfSide_24 (by decide) ?_
      refine lv_goto (tgt := 29) hx hb dMa_padsOfSide_25 (by decide) ?_
      refine lv_i2l hx hb dMa_padsOfSide_29 rfl ?_
      obtain ⟨hn7, h⟩ := h
      refine lv_ldiv hx hb dMa_padsOfSide_30 hn7 ?_
      refine lv_l2i hx hb dMa_padsOfSide_31 rfl ?_
      exact W.iret (v := ((r3 / ((4 : Int32).toInt64)).toInt32)) hx hb hr (fun t ht hW => ⟨⟨((r3 / ((4 : Int32).toInt64)).toInt32), (()), rfl, h, by rw [ht]; exact hP, hD⟩, hS.F ht⟩) hS.2.2 dMa_padsOfSide_32
  · intro c2
    replace h := h.2 c2
    refine lv_iconst (v := 1) hx hb dMa_padsOfSide_7 (by decide) ?_
    exact W.iret (v := 1) hx hb hr (fun t ht hW => ⟨⟨1, (()), rfl, h, by rw [ht]; exact hP, hD⟩, hS.F ht⟩) hS.2.2 dMa_padsOfSide_8
abbrev yMa_addUpright : MethodName := ⟨"FootprintRules$Maker", "addUpright", "(IZ)V"⟩
abbrev cMa_addUpright : ByteArray := prog_10_method_14_code
abbrev wsMa_addUpright : List Cond := .code yMa_addUpright cMa_addUpright 8 none :: zT
set_option maxRecDepth 100000 in
theorem zc_Ma_addUpright : Cond.code yMa_addUpright cMa_addUpright 8 none ∈ zT := zm 796 (by rfl) (by rfl)
theorem dMa_addUpright_0 : decode cMa_addUpright 0 = .ok (.iload_n 2, 1) := by decide +kernel
theorem dMa_addUpright_1 : decode cMa_addUpright 1 = .ok (.ifCond .eq 15, 3) := by decide +kernel
theorem dMa_addUpright_4 : decode cMa_addUpright 4 = .ok (.aload_n 0, 1) := by decide +kernel
theorem dMa_addUpright_5 : decode cMa_addUpright 5 = .ok (.getfield 189, 3) := by decide +kernel
theorem dMa_addUpright_8 : decode cMa_addUpright 8 = .ok (.lneg, 1) := by decide +kernel
theorem dMa_addUpright_9 : decode cMa_addUpright 9 = .ok (.ldc2_w 129, 3) := by decide +kernel
theorem dMa_addUpright_12 : decode cMa_addUpright 12 = .ok (.ldiv, 1) := by decide +kernel
theorem dMa_addUpright_13 : decode cMa_addUpright 13 = .ok (.goto 11, 3) := by decide +kernel
theorem dMa_addUpright_16 : decode cMa_addUpright 16 = .ok (.aload_n 0, 1) := by decide +kernel
theorem dMa_addUpright_17 : decode cMa_addUpright 17 = .ok (.getfield 198, 3) := by decide +kernel
theorem dMa_addUpright_20 : decode cMa_addUpright 20 = .ok (.ldc2_w 129, 3) := by decide +kernel
theorem dMa_addUpright_23 : decode cMa_addUpright 23 = .ok (.ldiv, 1) := by decide +kernel
theorem dMa_addUpright_24 : decode cMa_addUpright 24 = .ok (.lstore_n 3, 1) := by decide +kernel
theorem dMa_addUpright_25 : decode cMa_addUpright 25 = .ok (.iconst 0, 1) := by decide +kernel
theorem dMa_addUpright_26 : decode cMa_addUpright 26 = .ok (.istore 5, 2) := by decide +kernel
theorem dMa_addUpright_28 : decode cMa_addUpright 28 = .ok (.iload 5, 2) := by decide +kernel
theorem dMa_addUpright_30 : decode cMa_addUpright 30 = .ok (.iload_n 1, 1) := by decide +kernel
theorem dMa_addUpright_31 : decode cMa_addUpright 31 = .ok (.if_icmp .ge 100, 3) := by decide +kernel
theorem dMa_addUpright_34 : decode cMa_addUpright 34 = .ok (.iload_n 2, 1) := by decide +kernel
theorem dMa_addUpright_35 : decode cMa_addUpright 35 = .ok (.ifCond .eq 13, 3) := by decide +kernel
theorem dMa_addUpright_38 : decode cMa_addUpright 38 = .ok (.iload_n 1, 1) := by decide +kernel
theorem dMa_addUpright_39 : decode cMa_addUpright 39 = .ok (.iconst 1, 1) := by decide +kernel
theorem dMa_addUpright_40 : decode cMa_addUpright 40 = .ok (.isub, 1) := by decide +kernel
theorem dMa_addUpright_41 : decode cMa_addUpright 41 = .ok (.iload 5, 2) := by decide +kernel
theorem dMa_addUpright_43 : decode cMa_addUpright 43 = .ok (.isub, 1) := by decide +kernel
theorem dMa_addUpright_44 : decode cMa_addUpright 44 = .ok (.i2l, 1) := by decide +kernel
theorem dMa_addUpright_45 : decode cMa_addUpright 45 = .ok (.goto 6, 3) := by decide +kernel
theorem dMa_addUpright_48 : decode cMa_addUpright 48 = .ok (.iload 5, 2) := by decide +kernel
theorem dMa_addUpright_50 : decode cMa_addUpright 50 = .ok (.i2l, 1) := by decide +kernel
theorem dMa_addUpright_51 : decode cMa_addUpright 51 = .ok (.iload_n 1, 1) := by decide +kernel
theorem dMa_addUpright_52 : decode cMa_addUpright 52 = .ok (.i2l, 1) := by decide +kernel
theorem dMa_addUpright_53 : decode cMa_addUpright 53 = .ok (.aload_n 0, 1) := by decide +kernel
theorem dMa_addUpright_54 : decode cMa_addUpright 54 = .ok (.getfield 102, 3) := by decide +kernel
theorem dMa_addUpright_57 : decode cMa_addUpright 57 = .ok (.invokestatic 152, 3) := by decide +kernel
theorem dMa_addUpright_60 : decode cMa_addUpright 60 = .ok (.aload_n 0, 1) := by decide +kernel
theorem dMa_addUpright_61 : decode cMa_addUpright 61 = .ok (.getfield 201, 3) := by decide +kernel
theorem dMa_addUpright_64 : decode cMa_addUpright 64 = .ok (.ldc2_w 129, 3) := by decide +kernel
theorem dMa_addUpright_67 : decode cMa_addUpright 67 = .ok (.ldiv, 1) := by decide +kernel
theorem dMa_addUpright_68 : decode cMa_addUpright 68 = .ok (.lsub, 1) := by decide +kernel
theorem dMa_addUpright_69 : decode cMa_addUpright 69 = .ok (.lstore 6, 2) := by decide +kernel
theorem dMa_addUpright_71 : decode cMa_addUpright 71 = .ok (.aload_n 0, 1) := by decide +kernel
theorem dMa_addUpright_72 : decode cMa_addUpright 72 = .ok (.getfield 25, 3) := by decide +kernel
theorem dMa_addUpright_75 : decode cMa_addUpright 75 = .ok (.aload_n 0, 1) := by decide +kernel
theorem dMa_addUpright_76 : decode cMa_addUpright 76 = .ok (.getfield 25, 3) := by decide +kernel
theorem dMa_addUpright_79 : decode cMa_addUpright 79 = .ok (.getfield 116, 3) := by decide +kernel
theorem dMa_addUpright_82 : decode cMa_addUpright 82 = .ok (.iconst 1, 1) := by decide +kernel
theorem dMa_addUpright_83 : decode cMa_addUpright 83 = .ok (.iadd, 1) := by decide +kernel
theorem dMa_addUpright_84 : decode cMa_addUpright 84 = .ok (.lload_n 3, 1) := by decide +kernel
theorem dMa_addUpright_85 : decode cMa_addUpright 85 = .ok (.lload 6, 2) := by decide +kernel
theorem dMa_addUpright_87 : decode cMa_addUpright 87 = .ok (.aload_n 0, 1) := by decide +kernel
theorem dMa_addUpright_88 : decode cMa_addUpright 88 = .ok (.getfield 189, 3) := by decide +kernel
theorem dMa_addUpright_91 : decode cMa_addUpright 91 = .ok (.aload_n 0, 1) := by decide +kernel
theorem dMa_addUpright_92 : decode cMa_addUpright 92 = .ok (.getfield 198, 3) := by decide +kernel
theorem dMa_addUpright_95 : decode cMa_addUpright 95 = .ok (.lsub, 1) := by decide +kernel
theorem dMa_addUpright_96 : decode cMa_addUpright 96 = .ok (.ldc2_w 129, 3) := by decide +kernel
theorem dMa_addUpright_99 : decode cMa_addUpright 99 = .ok (.ldiv, 1) := by decide +kernel
theorem dMa_addUpright_100 : decode cMa_addUpright 100 = .ok (.aload_n 0, 1) := by decide +kernel
theorem dMa_addUpright_101 : decode cMa_addUpright 101 = .ok (.getfield 201, 3) := by decide +kernel
theorem dMa_addUpright_104 : decode cMa_addUpright 104 = .ok (.aload_n 0, 1) := by decide +kernel
theorem dMa_addUpright_105 : decode cMa_addUpright 105 = .ok (.getfield 204, 3) := by decide +kernel
theorem dMa_addUpright_108 : decode cMa_addUpright 108 = .ok (.lconst 0, 1) := by decide +kernel
theorem dMa_addUpright_109 : decode cMa_addUpright 109 = .ok (.lcmp, 1) := by decide +kernel
theorem dMa_addUpright_110 : decode cMa_addUpright 110 = .ok (.ifCond .le 7, 3) := by decide +kernel
theorem dMa_addUpright_113 : decode cMa_addUpright 113 = .ok (.iconst 1, 1) := by decide +kernel
theorem dMa_addUpright_114 : decode cMa_addUpright 114 = .ok (.goto 4, 3) := by decide +kernel
theorem dMa_addUpright_117 : decode cMa_addUpright 117 = .ok (.iconst 0, 1) := by decide +kernel
theorem dMa_addUpright_118 : decode cMa_addUpright 118 = .ok (.aload_n 0, 1) := by decide +kernel
theorem dMa_addUpright_119 : decode cMa_addUpright 119 = .ok (.getfield 204, 3) := by decide +kernel
theorem dMa_addUpright_122 : decode cMa_addUpright 122 = .ok (.invokevirtual 156, 3) := by decide +kernel
theorem dMa_addUpright_125 : decode cMa_addUpright 125 = .ok (.iinc 5 1, 3) := by decide +kernel
theorem dMa_addUpright_128 : decode cMa_addUpright 128 = .ok (.goto (-100), 3) := by decide +kernel
theorem dMa_addUpright_131 : decode cMa_addUpright 131 = .ok (.return_, 1) := by decide +kernel
-- FootprintRules$Maker.addUpright(IZ)V
abbrev w_Ma_addUpright (ad : Nat → Nat → Nat) (a_this : Nat) (a_spans : Nat) (a_leftOut : Nat) (a_print : Nat) (a_print_cells : Nat) (a_print_family : Nat) (a_print_yard : Nat) (a_print_columns : Nat) (a_print_rows : Nat) (a_print_line : Nat) (k_print_cells : ClassId) (v_this_rounding : Int64) (v_this_toe : Int64) (v_this_heel : Int64) (v_this_side : Int64) (v_this_pitch : Int64) (v_this_outer : Int64) (v_this_inner : Int64) (v_this_across : Int64) (v_this_hole : Int64) (v_print_atHand : Int32) (v_print_count : Int32) (v_print_thermal : Int32) (v_print_density : Int32) (v_print_outerHigh : Int64) (v_print_pasteLeft : Int64) (v_print_pasteLow : Int64) (v_print_nameLength : Int32) (v_print_isWritten : Int32) (v_print_cells : Nat → Int64) : va_W := [(a_this, .inr (4, [.ref a_spans, .ref a_leftOut, .ref a_print, .long v_this_rounding, .long v_this_toe, .long v_this_heel, .long v_this_side, .long v_this_pitch, .long v_this_outer, .long v_this_inner, .long v_this_across, .long v_this_hole])), (a_print, .inr (6, [.int v_print_atHand, .ref a_print_cells, .int v_print_count, .int v_print_thermal, .ref a_print_family, .int v_print_density, .long v_print_outerHigh, .ref a_print_yard, .ref a_print_columns, .ref a_print_rows, .long v_print_pasteLeft, .long v_print_pasteLow, .ref a_print_line, .int v_print_nameLength, .int v_print_isWritten])), (a_print_cells, .inl (k_print_cells, 455, .inr (.inl v_print_cells)))]
def P_Ma_addUpright_118 (v_this_hole : Int64) (post : Int32 → (Nat → Int64) → Prop) (K28 : Int64 → Int32 → Int32 → (Nat → Int64) → Prop) (y3 : Int64) (y5 : Int32) (t0 : Int32) (t1 : Int64) (t2 : Int64) (t3 : Int64) (t4 : Int64) (t5 : Int32) (u_print_count : Int32) (u_print_cells : Nat → Int64) : Prop := P_Fp_add t5 t4 t3 t2 t1 t0 v_this_hole u_print_count u_print_cells (fun (u1 : Int32) (u2 : Nat → Int64) => ∀ x3 : Int32, x3 = y5 + 1 → K28 y3 x3 u1 u2)
set_option maxHeartbeats 4000000 in
set_option maxRecDepth 100000 in
theorem w_Ma_addUpright_118 (l : Launch) {p : Program} {e : Env} {s : State} {m : MethodId} {args : Array Value} {below : List Frame} {meth : Method} {c : Code} {dC : Nat → ClassId} {dI : Nat → Nat → Nat} {ad : Nat → Nat → Nat} {A : Nat → Prop} (C0 : zC p s m args meth c cMa_addUpright 8 RMa zT none A) (hE : zE ad A s) (a_this : Nat) (a_spans : Nat) (a_leftOut : Nat) (a_print : Nat) (a_print_cells : Nat) (a_print_family : Nat) (a_print_yard : Nat) (a_print_columns : Nat) (a_print_rows : Nat) (a_print_line : Nat) (k_print_cells : ClassId) (p1 : Int32) (p2 : Int32) (v_this_rounding : Int64) (v_this_toe : Int64) (v_this_heel : Int64) (v_this_side : Int64) (v_this_pitch : Int64) (v_this_outer : Int64) (v_this_inner : Int64) (v_this_across : Int64) (v_this_hole : Int64) (v_print_atHand : Int32) (v_print_count : Int32) (v_print_thermal : Int32) (v_print_density : Int32) (v_print_outerHigh : Int64) (v_print_pasteLeft : Int64) (v_print_pasteLow : Int64) (v_print_nameLength : Int32) (v_print_isWritten : Int32) (v_print_cells : Nat → Int64) (post : Int32 → (Nat → Int64) → Prop) (K28 : Int64 → Int32 → Int32 → (Nat → Int64) → Prop) (hK28 : ∀ (y3 : Int64) (y5 : Int32) (u_print_count : Int32) (u_print_cells : Nat → Int64) (H : Heap) (locs : List Loc), K28 y3 y5 u_print_count u_print_cells → va_P (dC, dI) vwCl (w_Ma_addUpright ad a_this a_spans a_leftOut a_print a_print_cells a_print_family a_print_yard a_print_columns a_print_rows a_print_line k_print_cells v_this_rounding v_this_toe v_this_heel v_this_side v_this_pitch v_this_outer v_this_inner v_this_across v_this_hole v_print_atHand u_print_count v_print_thermal v_print_density v_print_outerHigh v_print_pasteLeft v_print_pasteLow v_print_nameLength v_print_isWritten u_print_cells) H → va_D A (w_Ma_addUpright ad a_this a_spans a_leftOut a_print a_print_cells a_print_family a_print_yard a_print_columns a_print_rows a_print_line k_print_cells v_this_rounding v_this_toe v_this_heel v_this_side v_this_pitch v_this_outer v_this_inner v_this_across v_this_hole v_print_atHand u_print_count v_print_thermal v_print_density v_print_outerHigh v_print_pasteLeft v_print_pasteLow v_print_nameLength v_print_isWritten u_print_cells) → va_S A s.heap H locs → ∀ ls : Array Slot, lv_has ls 8 [(0, .ref a_this), (1, .int p1), (2, .int p2), (3, .long y3), (5, .int y5)] → W p l e (headSpec wsMa_addUpright { frames := 1, cells := 0, slots := 0, locals := 33 }).room s m args below meth c H locs 0 0 (MQ below (va_Qv (fun (u : Int32 × (Nat → Int64)) => post u.1 u.2) (zB (dC, dI) A (fun (u : Int32 × (Nat → Int64)) => (w_Ma_addUpright ad a_this a_spans a_leftOut a_print a_print_cells a_print_family a_print_yard a_print_columns a_print_rows a_print_line k_print_cells v_this_rounding v_this_toe v_this_heel v_this_side v_this_pitch v_this_outer v_this_inner v_this_across v_this_hole v_print_atHand u.1 v_print_thermal v_print_density v_print_outerHigh v_print_pasteLeft v_print_pasteLow v_print_nameLength v_print_isWritten u.2))) A) args s 0 0 A) (F0 m 28 ls [])) (hK : va_K (dC, dI) vwCl [(k_print_cells, .long)] s) : ∀ (y3 : Int64) (y5 : Int32) (t0 : Int32) (t1 : Int64) (t2 : Int64) (t3 : Int64) (t4 : Int64) (t5 : Int32) (u_print_count : Int32) (u_print_cells : Nat → Int64) (H : Heap) (locs : List Loc), P_Ma_addUpright_118 v_this_hole post K28 y3 y5 t0 t1 t2 t3 t4 t5 u_print_count u_print_cells → va_P (dC, dI) vwCl (w_Ma_addUpright ad a_this a_spans a_leftOut a_print a_print_cells a_print_family a_print_yard a_print_columns a_print_rows a_print_line k_print_cells v_this_rounding v_this_toe v_this_heel v_this_side v_this_pitch v_this_outer v_this_inner v_this_across v_this_hole v_print_atHand u_print_count v_print_thermal v_print_density v_print_outerHigh v_print_pasteLeft v_print_pasteLow v_print_nameLength v_print_isWritten u_print_cells) H → va_D A (w_Ma_addUpright ad a_this a_spans a_leftOut a_print a_print_cells a_print_family a_print_yard a_print_columns a_print_rows a_print_line k_print_cells v_this_rounding v_this_toe v_this_heel v_this_side v_this_pitch v_this_outer v_this_inner v_this_across v_this_hole v_print_atHand u_print_count v_print_thermal v_print_density v_print_outerHigh v_print_pasteLeft v_print_pasteLow v_print_nameLength v_print_isWritten u_print_cells) → va_S A s.heap H locs → ∀ ls : Array Slot, lv_has ls 8 [(0, .ref a_this), (1, .int p1), (2, .int p2), (3, .long y3), (5, .int y5)] → W p l e (headSpec wsMa_addUpright { frames := 1, cells := 0, slots := 0, locals := 33 }).room s m args below meth c H locs 0 0 (MQ below (va_Qv (fun (u : Int32 × (Nat → Int64)) => post u.1 u.2) (zB (dC, dI) A (fun (u : Int32 × (Nat → Int64)) => (w_Ma_addUpright ad a_this a_spans a_leftOut a_print a_print_cells a_print_family a_print_yard a_print_columns a_print_rows a_print_line k_print_cells v_this_rounding v_this_toe v_this_heel v_this_side v_this_pitch v_this_outer v_this_inner v_this_across v_this_hole v_print_atHand u.1 v_print_thermal v_print_density v_print_outerHigh v_print_pasteLeft v_print_pasteLow v_print_nameLength v_print_isWritten u.2))) A) args s 0 0 A) (F0 m 118 ls [.int t0, .long t1, .long t2, .long t3, .long t4, .int t5, .ref a_print]) := by
  obtain ⟨hx, hb, hr, hml, hown, hts, hlocks, hA⟩ := id C0
  intro y3 y5 t0 t1 t2 t3 t4 t5 u_print_count u_print_cells H locs h hP hD hS ls hl
  unfold P_Ma_addUpright_118 at h
  refine lv_aload_n hx hb dMa_addUpright_118 rfl (lv_at hl 0 rfl) ?_
  refine va_get (D := (dC, dI)) (ci := 4) (v := .long v_this_hole) (C := RMa) (T := TMa) (N := 12) hx hb hts inZ_Ma hown hK hP 0 rfl rfl 11 (by decide) (hts _ zw_345) (fun _ h9 => h9) rfl dMa_addUpright_119 ?_
  refine zcall_v hP hD hS hA [1, 2] [0] (va_runVN (As := [.int t5, .long t4, .long t3, .long t2, .long t1, .int t0, .long v_this_hole]) (rest := []) ⟨hx, hb, hml, hown, hts⟩ (c_Fp_add l dC dI ad a_print a_print_cells a_print_family a_print_yard a_print_columns a_print_rows a_print_line k_print_cells _ t5 t4 t3 t2 t1 t0 v_this_hole v_print_atHand u_print_count v_print_thermal v_print_density v_print_outerHigh v_print_pasteLeft v_print_pasteLow v_print_nameLength v_print_isWritten u_print_cells _ h) ⟨va_cnB 7 hts (zgood zc_Fp_add) rfl rfl rfl (hE.nw _ zn_755) (hts _ zw_101) (by decide +kernel) ⟨Nat.le_of_ble_eq_true rfl, Nat.le_of_ble_eq_true rfl⟩, (hts _ zw_757), (hts _ zw_33)⟩ (zpreV hE hK hP hD hS hA [1, 2] [0] (by rfl) (by rfl) (by decide) (ci := 6) (q0 := 1) rfl (by rfl)) rfl rfl hl.1 rfl (lv_room (Nat.le_of_ble_eq_true rfl)) dMa_addUpright_122 ⟨Nat.le_of_ble_eq_true rfl, Nat.le_of_ble_eq_true rfl⟩) (by rfl) (by rfl) (by decide) (by decide) (fun u H locs h hP hD hS => ?_)
  obtain ⟨u1, u2⟩ := u
  try dsimp only at h
  have hP := hP.sub (ws' := (w_Ma_addUpright ad a_this a_spans a_leftOut a_print a_print_cells a_print_family a_print_yard a_print_columns a_print_rows a_print_line k_print_cells v_this_rounding v_this_toe v_this_heel v_this_side v_this_pitch v_this_outer v_this_inner v_this_across v_this_hole v_print_atHand u1 v_print_thermal v_print_density v_print_outerHigh v_print_pasteLeft v_print_pasteLow v_print_nameLength v_print_isWritten u2)) [0, 1, 2] rfl
  have hD := hD.sub (ws' := (w_Ma_addUpright ad a_this a_spans a_leftOut a_print a_print_cells a_print_family a_print_yard a_print_columns a_print_rows a_print_line k_print_cells v_this_rounding v_this_toe v_this_heel v_this_side v_this_pitch v_this_outer v_this_inner v_this_across v_this_hole v_print_atHand u1 v_print_thermal v_print_density v_print_outerHigh v_print_pasteLeft v_print_pasteLow v_print_nameLength v_print_isWritten u2)) [0, 1, 2] (by decide) rfl
  obtain ⟨x3, ex3⟩ : ∃ y : Int32, y = y5 + 1 := ⟨_, rfl⟩
  replace h := h x3 ex3
  refine lv_iinc (v := x3) (lv' := [(5, .int x3), (0, .ref a_this), (1, .int p1), (2, .int p2), (3, .long y3)]) hx hb dMa_addUpright_125 hl (k := 4) rfl (by rw [ex3]; rfl) (by decide) rfl (fun ls hl => ?_)
  refine lv_goto (tgt := 28) hx hb dMa_addUpright_128 (by decide) ?_
  exact hK28 y3 x3 u1 u2 _ _ h hP hD hS ls (lv_sub hl [1, 2, 3, 4, 0] rfl)
def P_Ma_addUpright_51 (p1 : Int32) (v_this_pitch : Int64) (v_this_outer : Int64) (v_this_inner : Int64) (v_this_across : Int64) (v_this_hole : Int64) (post : Int32 → (Nat → Int64) → Prop) (K28 : Int64 → Int32 → Int32 → (Nat → Int64) → Prop) (y3 : Int64) (y5 : Int32) (t0 : Int64) (u_print_count : Int32) (u_print_cells : Nat → Int64) : Prop := P_F_middle t0 p1.toInt64 v_this_pitch (fun (r1 : Int64) => ∀ x2 : Int64, x2 = r1 - (v_this_across / 2) → ((v_this_hole ≤ 0 → P_Ma_addUpright_118 v_this_hole post K28 y3 y5 0 v_this_across ((v_this_outer - v_this_inner) / 2) x2 y3 (u_print_count + 1) u_print_count u_print_cells) ∧ (¬ v_this_hole ≤ 0 → P_Ma_addUpright_118 v_this_hole post K28 y3 y5 1 v_this_across ((v_this_outer - v_this_inner) / 2) x2 y3 (u_print_count + 1) u_print_count u_print_cells)))
set_option maxHeartbeats 4000000 in
set_option maxRecDepth 100000 in
theorem w_Ma_addUpright_51 (l : Launch) {p : Program} {e : Env} {s : State} {m : MethodId} {args : Array Value} {below : List Frame} {meth : Method} {c : Code} {dC : Nat → ClassId} {dI : Nat → Nat → Nat} {ad : Nat → Nat → Nat} {A : Nat → Prop} (C0 : zC p s m args meth c cMa_addUpright 8 RMa zT none A) (hE : zE ad A s) (a_this : Nat) (a_spans : Nat) (a_leftOut : Nat) (a_print : Nat) (a_print_cells : Nat) (a_print_family : Nat) (a_print_yard : Nat) (a_print_columns : Nat) (a_print_rows : Nat) (a_print_line : Nat) (k_print_cells : ClassId) (p1 : Int32) (p2 : Int32) (v_this_rounding : Int64) (v_this_toe : Int64) (v_this_heel : Int64) (v_this_side : Int64) (v_this_pitch : Int64) (v_this_outer : Int64) (v_this_inner : Int64) (v_this_across : Int64) (v_this_hole : Int64) (v_print_atHand : Int32) (v_print_count : Int32) (v_print_thermal : Int32) (v_print_density : Int32) (v_print_outerHigh : Int64) (v_print_pasteLeft : Int64) (v_print_pasteLow : Int64) (v_print_nameLength : Int32) (v_print_isWritten : Int32) (v_print_cells : Nat → Int64) (post : Int32 → (Nat → Int64) → Prop) (K28 : Int64 → Int32 → Int32 → (Nat → Int64) → Prop) (hK28 : ∀ (y3 : Int64) (y5 : Int32) (u_print_count : Int32) (u_print_cells : Nat → Int64) (H : Heap) (locs : List Loc), K28 y3 y5 u_print_count u_print_cells → va_P (dC, dI) vwCl (w_Ma_addUpright ad a_this a_spans a_leftOut a_print a_print_cells a_print_family a_print_yard a_print_columns a_print_rows a_print_line k_print_cells v_this_rounding v_this_toe v_this_heel v_this_side v_this_pitch v_this_outer v_this_inner v_this_across v_this_hole v_print_atHand u_print_count v_print_thermal v_print_density v_print_outerHigh v_print_pasteLeft v_print_pasteLow v_print_nameLength v_print_isWritten u_print_cells) H → va_D A (w_Ma_addUpright ad a_this a_spans a_leftOut a_print a_print_cells a_print_family a_print_yard a_print_columns a_print_rows a_print_line k_print_cells v_this_rounding v_this_toe v_this_heel v_this_side v_this_pitch v_this_outer v_this_inner v_this_across v_this_hole v_print_atHand u_print_count v_print_thermal v_print_density v_print_outerHigh v_print_pasteLeft v_print_pasteLow v_print_nameLength v_print_isWritten u_print_cells) → va_S A s.heap H locs → ∀ ls : Array Slot, lv_has ls 8 [(0, .ref a_this), (1, .int p1), (2, .int p2), (3, .long y3), (5, .int y5)] → W p l e (headSpec wsMa_addUpright { frames := 1, cells := 0, slots := 0, locals := 33 }).room s m args below meth c H locs 0 0 (MQ below (va_Qv (fun (u : Int32 × (Nat → Int64)) => post u.1 u.2) (zB (dC, dI) A (fun (u : Int32 × (Nat → Int64)) => (w_Ma_addUpright ad a_this a_spans a_leftOut a_print a_print_cells a_print_family a_print_yard a_print_columns a_print_rows a_print_line k_print_cells v_this_rounding v_this_toe v_this_heel v_this_side v_this_pitch v_this_outer v_this_inner v_this_across v_this_hole v_print_atHand u.1 v_print_thermal v_print_density v_print_outerHigh v_print_pasteLeft v_print_pasteLow v_print_nameLength v_print_isWritten u.2))) A) args s 0 0 A) (F0 m 28 ls [])) (hK : va_K (dC, dI) vwCl [(k_print_cells, .long)] s) : ∀ (y3 : Int64) (y5 : Int32) (t0 : Int64) (u_print_count : Int32) (u_print_cells : Nat → Int64) (H : Heap) (locs : List Loc), P_Ma_addUpright_51 p1 v_this_pitch v_this_outer v_this_inner v_this_across v_this_hole post K28 y3 y5 t0 u_print_count u_print_cells → va_P (dC, dI) vwCl (w_Ma_addUpright ad a_this a_spans a_leftOut a_print a_print_cells a_print_family a_print_yard a_print_columns a_print_rows a_print_line k_print_cells v_this_rounding v_this_toe v_this_heel v_this_side v_this_pitch v_this_outer v_this_inner v_this_across v_this_hole v_print_atHand u_print_count v_print_thermal v_print_density v_print_outerHigh v_print_pasteLeft v_print_pasteLow v_print_nameLength v_print_isWritten u_print_cells) H → va_D A (w_Ma_addUpright ad a_this a_spans a_leftOut a_print a_print_cells a_print_family a_print_yard a_print_columns a_print_rows a_print_line k_print_cells v_this_rounding v_this_toe v_this_heel v_this_side v_this_pitch v_this_outer v_this_inner v_this_across v_this_hole v_print_atHand u_print_count v_print_thermal v_print_density v_print_outerHigh v_print_pasteLeft v_print_pasteLow v_print_nameLength v_print_isWritten u_print_cells) → va_S A s.heap H locs → ∀ ls : Array Slot, lv_has ls 8 [(0, .ref a_this), (1, .int p1), (2, .int p2), (3, .long y3), (5, .int y5)] → W p l e (headSpec wsMa_addUpright { frames := 1, cells := 0, slots := 0, locals := 33 }).room s m args below meth c H locs 0 0 (MQ below (va_Qv (fun (u : Int32 × (Nat → Int64)) => post u.1 u.2) (zB (dC, dI) A (fun (u : Int32 × (Nat → Int64)) => (w_Ma_addUpright ad a_this a_spans a_leftOut a_print a_print_cells a_print_family a_print_yard a_print_columns a_print_rows a_print_line k_print_cells v_this_rounding v_this_toe v_this_heel v_this_side v_this_pitch v_this_outer v_this_inner v_this_across v_this_hole v_print_atHand u.1 v_print_thermal v_print_density v_print_outerHigh v_print_pasteLeft v_print_pasteLow v_print_nameLength v_print_isWritten u.2))) A) args s 0 0 A) (F0 m 51 ls [.long t0]) := by
  obtain ⟨hx, hb, hr, hml, hown, hts, hlocks, hA⟩ := id C0
  intro y3 y5 t0 u_print_count u_print_cells H locs h hP hD hS ls hl
  unfold P_Ma_addUpright_51 at h
  refine lv_iload_n hx hb dMa_addUpright_51 rfl (lv_at hl 1 rfl) ?_
  refine lv_i2l hx hb dMa_addUpright_52 rfl ?_
  refine lv_aload_n hx hb dMa_addUpright_53 rfl (lv_at hl 0 rfl) ?_
  refine va_get (D := (dC, dI)) (ci := 4) (v := .long v_this_pitch) (C := RMa) (T := TMa) (N := 12) hx hb hts inZ_Ma hown hK hP 0 rfl rfl 7 (by decide) (hts _ zw_341) (fun _ h9 => h9) rfl dMa_addUpright_54 ?_
  refine zcall_l hP hD hS hA [] [0, 1, 2] (va_runSN (As := [.long t0, .long p1.toInt64, .long v_this_pitch]) (rest := []) ⟨hx, hb, hml, hown, hts⟩ (c_F_middle l dC dI ad _ t0 p1.toInt64 v_this_pitch _ h) ⟨va_cnB 3 hts (zgood zc_F_middle) rfl rfl rfl (hE.nw _ zn_751) (hts _ zw_95) (by decide +kernel) ⟨Nat.le_of_ble_eq_true rfl, Nat.le_of_ble_eq_true rfl⟩, (hts _ zw_752), trivial⟩ (zpreS hE hK hP hD hS hA [] [] (by rfl) (by rfl) (by decide)) rfl rfl hl.1 rfl (lv_room (Nat.le_of_ble_eq_true rfl)) dMa_addUpright_57 ⟨Nat.le_of_ble_eq_true rfl, Nat.le_of_ble_eq_true rfl⟩) (by rfl) (by rfl) (by decide) (by decide) (fun r1 u H locs h hP hD hS => ?_)
  try dsimp only at h
  have hP := hP.sub (ws' := (w_Ma_addUpright ad a_this a_spans a_leftOut a_print a_print_cells a_print_family a_print_yard a_print_columns a_print_rows a_print_line k_print_cells v_this_rounding v_this_toe v_this_heel v_this_side v_this_pitch v_this_outer v_this_inner v_this_across v_this_hole v_print_atHand u_print_count v_print_thermal v_print_density v_print_outerHigh v_print_pasteLeft v_print_pasteLow v_print_nameLength v_print_isWritten u_print_cells)) [0, 1, 2] rfl
  have hD := hD.sub (ws' := (w_Ma_addUpright ad a_this a_spans a_leftOut a_print a_print_cells a_print_family a_print_yard a_print_columns a_print_rows a_print_line k_print_cells v_this_rounding v_this_toe v_this_heel v_this_side v_this_pitch v_this_outer v_this_inner v_this_across v_this_hole v_print_atHand u_print_count v_print_thermal v_print_density v_print_outerHigh v_print_pasteLeft v_print_pasteLow v_print_nameLength v_print_isWritten u_print_cells)) [0, 1, 2] (by decide) rfl
  refine lv_aload_n hx hb dMa_addUpright_60 rfl (lv_at hl 0 rfl) ?_
  refine va_get (D := (dC, dI)) (ci := 4) (v := .long v_this_across) (C := RMa) (T := TMa) (N := 12) hx hb hts inZ_Ma hown hK hP 0 rfl rfl 10 (by decide) (hts _ zw_344) (fun _ h9 => h9) rfl dMa_addUpright_61 ?_
  refine lv_ldc2 (own := RMa) (index := 129) (v := 2) hx hb hown (hts _ zw_735) dMa_addUpright_64 ?_
  refine lv_ldiv hx hb dMa_addUpright_67 (by decide) ?_
  refine lv_lsub hx hb dMa_addUpright_68 ?_
  refine lv_topl (fun x2 ex2 => ?_)
  replace h := h x2 ex2
  refine lv_lstore (lv' := [(6, .long x2), (0, .ref a_this), (1, .int p1), (2, .int p2), (3, .long y3), (5, .int y5)]) hx hb dMa_addUpright_69 hl (by decide) rfl (fun ls hl => ?_)
  refine lv_aload_n hx hb dMa_addUpright_71 rfl (lv_at hl 1 rfl) ?_
  refine va_get (D := (dC, dI)) (ci := 4) (v := .ref a_print) (C := RMa) (T := TMa) (N := 12) hx hb hts inZ_Ma hown hK hP 0 rfl rfl 2 (by decide) (hts _ zw_335) (fun _ h9 => h9) rfl dMa_addUpright_72 ?_
  refine lv_aload_n hx hb dMa_addUpright_75 rfl (lv_at hl 1 rfl) ?_
  refine va_get (D := (dC, dI)) (ci := 4) (v := .ref a_print) (C := RMa) (T := TMa) (N := 12) hx hb hts inZ_Ma hown hK hP 0 rfl rfl 2 (by decide) (hts _ zw_335) (fun _ h9 => h9) rfl dMa_addUpright_76 ?_
  refine va_getN (D := (dC, dI)) (ci := 6) (v := .int u_print_count) (C := RFp) (T := TFp) (N := 15) hx hb hts inZ_Fp hown hK hP 1 rfl rfl 2 (by decide) ((hE.nw _ zn_283).use rfl) (fun _ h9 => h9) rfl dMa_addUpright_79 ?_
  refine lv_iconst (v := 1) hx hb dMa_addUpright_82 (by decide) ?_
  refine lv_iadd hx hb dMa_addUpright_83 ?_
  refine lv_lload_n hx hb dMa_addUpright_84 rfl (lv_at hl 4 rfl) ?_
  refine lv_lload hx hb dMa_addUpright_85 (lv_at hl 0 rfl) ?_
  refine lv_aload_n hx hb dMa_addUpright_87 rfl (lv_at hl 1 rfl) ?_
  refine va_get (D := (dC, dI)) (ci := 4) (v := .long v_this_outer) (C := RMa) (T := TMa) (N := 12) hx hb hts inZ_Ma hown hK hP 0 rfl rfl 8 (by decide) (hts _ zw_342) (fun _ h9 => h9) rfl dMa_addUpright_88 ?_
  refine lv_aload_n hx hb dMa_addUpright_91 rfl (lv_at hl 1 rfl) ?_
  refine va_get (D := (dC, dI)) (ci := 4) (v := .long v_this_inner) (C := RMa) (T := TMa) (N := 12) hx hb hts inZ_Ma hown hK hP 0 rfl rfl 9 (by decide) (hts _ zw_343) (fun _ h9 => h9) rfl dMa_addUpright_92 ?_
  refine lv_lsub hx hb dMa_addUpright_95 ?_
  refine lv_ldc2 (own := RMa) (index := 129) (v := 2) hx hb hown (hts _ zw_735) dMa_addUpright_96 ?_
  refine lv_ldiv hx hb dMa_addUpright_99 (by decide) ?_
  refine lv_aload_n hx hb dMa_addUpright_100 rfl (lv_at hl 1 rfl) ?_
  refine va_get (D := (dC, dI)) (ci := 4) (v := .long v_this_across) (C := RMa) (T := TMa) (N := 12) hx hb hts inZ_Ma hown hK hP 0 rfl rfl 10 (by decide) (hts _ zw_344) (fun _ h9 => h9) rfl dMa_addUpright_101 ?_
  refine lv_aload_n hx hb dMa_addUpright_104 rfl (lv_at hl 1 rfl) ?_
  refine va_get (D := (dC, dI)) (ci := 4) (v := .long v_this_hole) (C := RMa) (T := TMa) (N := 12) hx hb hts inZ_Ma hown hK hP 0 rfl rfl 11 (by decide) (hts _ zw_345) (fun _ h9 => h9) rfl dMa_addUpright_105 ?_
  refine lv_lconst (v := 0) hx hb dMa_addUpright_108 (by decide) ?_
  refine zz_lcmp_le (tgt := 117) hx hb dMa_addUpright_109 dMa_addUpright_110 (by decide) ?_ ?_
  · intro c3
    replace h := h.1 c3
    refine lv_iconst (v := 0) hx hb dMa_addUpright_117 (by decide) ?_
    exact w_Ma_addUpright_118 l C0 hE a_this a_spans a_leftOut a_print a_print_cells a_print_family a_print_yard a_print_columns a_print_rows a_print_line k_print_cells p1 p2 v_this_rounding v_this_toe v_this_heel v_this_side v_this_pitch v_this_outer v_this_inner v_this_across v_this_hole v_print_atHand v_print_count v_print_thermal v_print_density v_print_outerHigh v_print_pasteLeft v_print_pasteLow v_print_nameLength v_print_isWritten v_print_cells post K28 hK28 hK y3 y5 0 v_this_across ((v_this_outer - v_this_inner) / 2) x2 y3 (u_print_count + 1) u_print_count u_print_cells _ _ h hP hD hS ls (lv_sub hl [1, 2, 3, 4, 5] rfl)
  · intro c3
    replace h := h.2 c3
    refine lv_iconst (v := 1) hx hb dMa_addUpright_113 (by decide) ?_
    refine lv_goto (tgt := 118) hx hb dMa_addUpright_114 (by decide) ?_
    exact w_Ma_addUpright_118 l C0 hE a_this a_spans a_leftOut a_print a_print_cells a_print_family a_print_yard a_print_columns a_print_rows a_print_line k_print_cells p1 p2 v_this_rounding v_this_toe v_this_heel v_this_side v_this_pitch v_this_outer v_this_inner v_this_across v_this_hole v_print_atHand v_print_count v_print_thermal v_print_density v_print_outerHigh v_print_pasteLeft v_print_pasteLow v_print_nameLength v_print_isWritten v_print_cells post K28 hK28 hK y3 y5 1 v_this_across ((v_this_outer - v_this_inner) / 2) x2 y3 (u_print_count + 1) u_print_count u_print_cells _ _ h hP hD hS ls (lv_sub hl [1, 2, 3, 4, 5] rfl)
def P_Ma_addUpright_28 (p1 : Int32) (p2 : Int32) (v_this_pitch : Int64) (v_this_outer : Int64) (v_this_inner : Int64) (v_this_across : Int64) (v_this_hole : Int64) (post : Int32 → (Nat → Int64) → Prop) : Nat → Int64 → Int32 → Int32 → (Nat → Int64) → Prop
  | 0, _, _, _, _ => False
  | n + 1, y3, y5, u_print_count, u_print_cells => ((p1 ≤ y5 → post u_print_count u_print_cells) ∧ (¬ p1 ≤ y5 → ((p2 = 0 → P_Ma_addUpright_51 p1 v_this_pitch v_this_outer v_this_inner v_this_across v_this_hole post (P_Ma_addUpright_28 p1 p2 v_this_pitch v_this_outer v_this_inner v_this_across v_this_hole post n) y3 y5 y5.toInt64 u_print_count u_print_cells) ∧ (¬ p2 = 0 → P_Ma_addUpright_51 p1 v_this_pitch v_this_outer v_this_inner v_this_across v_this_hole post (P_Ma_addUpright_28 p1 p2 v_this_pitch v_this_outer v_this_inner v_this_across v_this_hole post n) y3 y5 (((p1 - 1) - y5).toInt64) u_print_count u_print_cells))))
set_option maxHeartbeats 4000000 in
set_option maxRecDepth 100000 in
theorem w_Ma_addUpright_28 (l : Launch) {p : Program} {e : Env} {s : State} {m : MethodId} {args : Array Value} {below : List Frame} {meth : Method} {c : Code} {dC : Nat → ClassId} {dI : Nat → Nat → Nat} {ad : Nat → Nat → Nat} {A : Nat → Prop} (C0 : zC p s m args meth c cMa_addUpright 8 RMa zT none A) (hE : zE ad A s) (a_this : Nat) (a_spans : Nat) (a_leftOut : Nat) (a_print : Nat) (a_print_cells : Nat) (a_print_family : Nat) (a_print_yard : Nat) (a_print_columns : Nat) (a_print_rows : Nat) (a_print_line : Nat) (k_print_cells : ClassId) (p1 : Int32) (p2 : Int32) (v_this_rounding : Int64) (v_this_toe : Int64) (v_this_heel : Int64) (v_this_side : Int64) (v_this_pitch : Int64) (v_this_outer : Int64) (v_this_inner : Int64) (v_this_across : Int64) (v_this_hole : Int64) (v_print_atHand : Int32) (v_print_count : Int32) (v_print_thermal : Int32) (v_print_density : Int32) (v_print_outerHigh : Int64) (v_print_pasteLeft : Int64) (v_print_pasteLow : Int64) (v_print_nameLength : Int32) (v_print_isWritten : Int32) (v_print_cells : Nat → Int64) (post : Int32 → (Nat → Int64) → Prop) (hK : va_K (dC, dI) vwCl [(k_print_cells, .long)] s) : ∀ (n : Nat), ∀ (y3 : Int64) (y5 : Int32) (u_print_count : Int32) (u_print_cells : Nat → Int64) (H : Heap) (locs : List Loc), P_Ma_addUpright_28 p1 p2 v_this_pitch v_this_outer v_this_inner v_this_across v_this_hole post n y3 y5 u_print_count u_print_cells → va_P (dC, dI) vwCl (w_Ma_addUpright ad a_this a_spans a_leftOut a_print a_print_cells a_print_family a_print_yard a_print_columns a_print_rows a_print_line k_print_cells v_this_rounding v_this_toe v_this_heel v_this_side v_this_pitch v_this_outer v_this_inner v_this_across v_this_hole v_print_atHand u_print_count v_print_thermal v_print_density v_print_outerHigh v_print_pasteLeft v_print_pasteLow v_print_nameLength v_print_isWritten u_print_cells) H → va_D A (w_Ma_addUpright ad a_this a_spans a_leftOut a_print a_print_cells a_print_family a_print_yard a_print_columns a_print_rows a_print_line k_print_cells v_this_rounding v_this_toe v_this_heel v_this_side v_this_pitch v_this_outer v_this_inner v_this_across v_this_hole v_print_atHand u_print_count v_print_thermal v_print_density v_print_outerHigh v_print_pasteLeft v_print_pasteLow v_print_nameLength v_print_isWritten u_print_cells) → va_S A s.heap H locs → ∀ ls : Array Slot, lv_has ls 8 [(0, .ref a_this), (1, .int p1), (2, .int p2), (3, .long y3), (5, .int y5)] → W p l e (headSpec wsMa_addUpright { frames := 1, cells := 0, slots := 0, locals := 33 }).room s m args below meth c H locs 0 0 (MQ below (va_Qv (fun (u : Int32 × (Nat → Int64)) => post u.1 u.2) (zB (dC, dI) A (fun (u : Int32 × (Nat → Int64)) => (w_Ma_addUpright ad a_this a_spans a_leftOut a_print a_print_cells a_print_family a_print_yard a_print_columns a_print_rows a_print_line k_print_cells v_this_rounding v_this_toe v_this_heel v_this_side v_this_pitch v_this_outer v_this_inner v_this_across v_this_hole v_print_atHand u.1 v_print_thermal v_print_density v_print_outerHigh v_print_pasteLeft v_print_pasteLow v_print_nameLength v_print_isWritten u.2))) A) args s 0 0 A) (F0 m 28 ls []) := by
  obtain ⟨hx, hb, hr, hml, hown, hts, hlocks, hA⟩ := id C0
  intro n
  induction n with
  | zero =>
    intro y3 y5 u_print_count u_print_cells H locs h
    exact False.elim h
  | succ n ih =>
    intro y3 y5 u_print_count u_print_cells H locs h hP hD hS ls hl
    rw [P_Ma_addUpright_28] at h
    refine lv_iload hx hb dMa_addUpright_28 (lv_at hl 4 rfl) ?_
    refine lv_iload_n hx hb dMa_addUpright_30 rfl (lv_at hl 1 rfl) ?_
    refine lv_icmp_ge (tgt := 131) hx hb dMa_addUpright_31 (by decide) ?_ ?_
    · intro c1
      replace h := h.1 c1
      exact W.vret hx hb hr (fun t ht hW => ⟨⟨(u_print_count, u_print_cells), rfl, h, by rw [ht]; exact hP, hD⟩, hS.F ht⟩) hS.2.2 dMa_addUpright_131
    · intro c1
      replace h := h.2 c1
      refine lv_iload_n hx hb dMa_addUpright_34 rfl (lv_at hl 2 rfl) ?_
      refine lv_if_eq (tgt := 48) hx hb dMa_addUpright_35 (by decide) ?_ ?_
      · intro c2
        replace h := h.1 c2
        refine lv_iload hx hb dMa_addUpright_48 (lv_at hl 4 rfl) ?_
        refine lv_i2l hx hb dMa_addUpright_50 rfl ?_
        exact w_Ma_addUpright_51 l C0 hE a_this a_spans a_leftOut a_print a_print_cells a_print_family a_print_yard a_print_columns a_print_rows a_print_line k_print_cells p1 p2 v_this_rounding v_this_toe v_this_heel v_this_side v_this_pitch v_this_outer v_this_inner v_this_across v_this_hole v_print_atHand v_print_count v_print_thermal v_print_density v_print_outerHigh v_print_pasteLeft v_print_pasteLow v_print_nameLength v_print_isWritten v_print_cells post (P_Ma_addUpright_28 p1 p2 v_this_pitch v_this_outer v_this_inner v_this_across v_this_hole post n) ih hK y3 y5 y5.toInt64 u_print_count u_print_cells _ _ h hP hD hS ls (lv_sub hl [0, 1, 2, 3, 4] rfl)
      · intro c2
        replace h := h.2 c2
        refine lv_iload_n hx hb dMa_addUpright_38 rfl (lv_at hl 1 rfl) ?_
        refine lv_iconst (v := 1) hx hb dMa_addUpright_39 (by decide) ?_
        refine lv_isub hx hb dMa_addUpright_40 ?_
        refine lv_iload hx hb dMa_addUpright_41 (lv_at hl 4 rfl) ?_
        refine lv_isub hx hb dMa_addUpright_43 ?_
        refine lv_i2l hx hb dMa_addUpright_44 rfl ?_
        refine lv_goto (tgt := 51) hx hb dMa_addUpright_45 (by decide) ?_
        exact w_Ma_addUpright_51 l C0 hE a_this a_spans a_leftOut a_print a_print_cells a_print_family a_print_yard a_print_columns a_print_rows a_print_line k_print_cells p1 p2 v_this_rounding v_this_toe v_this_heel v_this_side v_this_pitch v_this_outer v_this_inner v_this_across v_this_hole v_print_atHand v_print_count v_print_thermal v_print_density v_print_outerHigh v_print_pasteLeft v_print_pasteLow v_print_nameLength v_print_isWritten v_print_cells post (P_Ma_addUpright_28 p1 p2 v_this_pitch v_this_outer v_this_inner v_this_across v_this_hole post n) ih hK y3 y5 (((p1 - 1) - y5).toInt64) u_print_count u_print_cells _ _ h hP hD hS ls (lv_sub hl [0, 1, 2, 3, 4] rfl)
def P_Ma_addUpright_24 (p1 : Int32) (p2 : Int32) (v_this_pitch : Int64) (v_this_outer : Int64) (v_this_inner : Int64) (v_this_across : Int64) (v_this_hole : Int64) (v_print_count : Int32) (v_print_cells : Nat → Int64) (post : Int32 → (Nat → Int64) → Prop) (t0 : Int64) : Prop := ∃ n1, P_Ma_addUpright_28 p1 p2 v_this_pitch v_this_outer v_this_inner v_this_across v_this_hole post n1 t0 0 v_print_count v_print_cells
set_option maxHeartbeats 4000000 in
set_option maxRecDepth 100000 in
theorem w_Ma_addUpright_24 (l : Launch) {p : Program} {e : Env} {s : State} {m : MethodId} {args : Array Value} {below : List Frame} {meth : Method} {c : Code} {dC : Nat → ClassId} {dI : Nat → Nat → Nat} {ad : Nat → Nat → Nat} {A : Nat → Prop} (C0 : zC p s m args meth c cMa_addUpright 8 RMa zT none A) (hE : zE ad A s) (a_this : Nat) (a_spans : Nat) (a_leftOut : Nat) (a_print : Nat) (a_print_cells : Nat) (a_print_family : Nat) (a_print_yard : Nat) (a_print_columns : Nat) (a_print_rows : Nat) (a_print_line : Nat) (k_print_cells : ClassId) (p1 : Int32) (p2 : Int32) (v_this_rounding : Int64) (v_this_toe : Int64) (v_this_heel : Int64) (v_this_side : Int64) (v_this_pitch : Int64) (v_this_outer : Int64) (v_this_inner : Int64) (v_this_across : Int64) (v_this_hole : Int64) (v_print_atHand : Int32) (v_print_count : Int32) (v_print_thermal : Int32) (v_print_density : Int32) (v_print_outerHigh : Int64) (v_print_pasteLeft : Int64) (v_print_pasteLow : Int64) (v_print_nameLength : Int32) (v_print_isWritten : Int32) (v_print_cells : Nat → Int64) (post : Int32 → (Nat → Int64) → Prop) (hK : va_K (dC, dI) vwCl [(k_print_cells, .long)] s) : ∀ (t0 : Int64) (H : Heap) (locs : List Loc), P_Ma_addUpright_24 p1 p2 v_this_pitch v_this_outer v_this_inner v_this_across v_this_hole v_print_count v_print_cells post t0 → va_P (dC, dI) vwCl (w_Ma_addUpright ad a_this a_spans a_leftOut a_print a_print_cells a_print_family a_print_yard a_print_columns a_print_rows a_print_line k_print_cells v_this_rounding v_this_toe v_this_heel v_this_side v_this_pitch v_this_outer v_this_inner v_this_across v_this_hole v_print_atHand v_print_count v_print_thermal v_print_density v_print_outerHigh v_print_pasteLeft v_print_pasteLow v_print_nameLength v_print_isWritten v_print_cells) H → va_D A (w_Ma_addUpright ad a_this a_spans a_leftOut a_print a_print_cells a_print_family a_print_yard a_print_columns a_print_rows a_print_line k_print_cells v_this_rounding v_this_toe v_this_heel v_this_side v_this_pitch v_this_outer v_this_inner v_this_across v_this_hole v_print_atHand v_print_count v_print_thermal v_print_density v_print_outerHigh v_print_pasteLeft v_print_pasteLow v_print_nameLength v_print_isWritten v_print_cells) → va_S A s.heap H locs → ∀ ls : Array Slot, lv_has ls 8 [(0, .ref a_this), (1, .int p1), (2, .int p2)] → W p l e (headSpec wsMa_addUpright { frames := 1, cells := 0, slots := 0, locals := 33 }).room s m args below meth c H locs 0 0 (MQ below (va_Qv (fun (u : Int32 × (Nat → Int64)) => post u.1 u.2) (zB (dC, dI) A (fun (u : Int32 × (Nat → Int64)) => (w_Ma_addUpright ad a_this a_spans a_leftOut a_print a_print_cells a_print_family a_print_yard a_print_columns a_print_rows a_print_line k_print_cells v_this_rounding v_this_toe v_this_heel v_this_side v_this_pitch v_this_outer v_this_inner v_this_across v_this_hole v_print_atHand u.1 v_print_thermal v_print_density v_print_outerHigh v_print_pasteLeft v_print_pasteLow v_print_nameLength v_print_isWritten u.2))) A) args s 0 0 A) (F0 m 24 ls [.long t0]) := by
  obtain ⟨hx, hb, hr, hml, hown, hts, hlocks, hA⟩ := id C0
  intro t0 H locs h hP hD hS ls hl
  unfold P_Ma_addUpright_24 at h
  refine lv_lstore_n (lv' := [(3, .long t0), (0, .ref a_this), (1, .int p1), (2, .int p2)]) hx hb dMa_addUpright_24 rfl hl (by decide) rfl (fun ls hl => ?_)
  refine lv_iconst (v := 0) hx hb dMa_addUpright_25 (by decide) ?_
  refine lv_istore (lv' := [(5, .int 0), (3, .long t0), (0, .ref a_this), (1, .int p1), (2, .int p2)]) hx hb dMa_addUpright_26 hl (by decide) rfl (fun ls hl => ?_)
  obtain ⟨n1, h⟩ := h
  exact w_Ma_addUpright_28 l C0 hE a_this a_spans a_leftOut a_print a_print_cells a_print_family a_print_yard a_print_columns a_print_rows a_print_line k_print_cells p1 p2 v_this_rounding v_this_toe v_this_heel v_this_side v_this_pitch v_this_outer v_this_inner v_this_across v_this_hole v_print_atHand v_print_count v_print_thermal v_print_density v_print_outerHigh v_print_pasteLeft v_print_pasteLow v_print_nameLength v_print_isWritten v_print_cells post hK n1 t0 0 v_print_count v_print_cells _ _ h hP hD hS ls (lv_sub hl [2, 3, 4, 1, 0] rfl)
def P_Ma_addUpright (p1 : Int32) (p2 : Int32) (v_this_pitch : Int64) (v_this_outer : Int64) (v_this_inner : Int64) (v_this_across : Int64) (v_this_hole : Int64) (v_print_count : Int32) (v_print_cells : Nat → Int64) (post : Int32 → (Nat → Int64) → Prop) : Prop := ((p2 = 0 → P_Ma_addUpright_24 p1 p2 v_this_pitch v_this_outer v_this_inner v_this_across v_this_hole v_print_count v_print_cells post (v_this_inner / 2)) ∧ (¬ p2 = 0 → P_Ma_addUpright_24 p1 p2 v_this_pitch v_this_outer v_this_inner v_this_across v_this_hole v_print_count v_print_cells post ((-v_this_outer) / 2)))
set_option maxHeartbeats 4000000 in
set_option maxRecDepth 100000 in
theorem c_Ma_addUpright (l : Launch) (dC : Nat → ClassId) (dI : Nat → Nat → Nat) (ad : Nat → Nat → Nat) (a_this : Nat) (a_spans : Nat) (a_leftOut : Nat) (a_print : Nat) (a_print_cells : Nat) (a_print_family : Nat) (a_print_yard : Nat) (a_print_columns : Nat) (a_print_rows : Nat) (a_print_line : Nat) (k_print_cells : ClassId) (sz : Nat) (p1 : Int32) (p2 : Int32) (v_this_rounding : Int64) (v_this_toe : Int64) (v_this_heel : Int64) (v_this_side : Int64) (v_this_pitch : Int64) (v_this_outer : Int64) (v_this_inner : Int64) (v_this_across : Int64) (v_this_hole : Int64) (v_print_atHand : Int32) (v_print_count : Int32) (v_print_thermal : Int32) (v_print_density : Int32) (v_print_outerHigh : Int64) (v_print_pasteLeft : Int64) (v_print_pasteLow : Int64) (v_print_nameLength : Int32) (v_print_isWritten : Int32) (v_print_cells : Nat → Int64) (post : Int32 → (Nat → Int64) → Prop) (h : P_Ma_addUpright p1 p2 v_this_pitch v_this_outer v_this_inner v_this_across v_this_hole v_print_count v_print_cells post) : zMv l yMa_addUpright wsMa_addUpright { frames := 1, cells := 0, slots := 0, locals := 33 } (dC, dI) ad [.ref a_this, .int p1, .int p2] (w_Ma_addUpright ad a_this a_spans a_leftOut a_print a_print_cells a_print_family a_print_yard a_print_columns a_print_rows a_print_line k_print_cells v_this_rounding v_this_toe v_this_heel v_this_side v_this_pitch v_this_outer v_this_inner v_this_across v_this_hole v_print_atHand v_print_count v_print_thermal v_print_density v_print_outerHigh v_print_pasteLeft v_print_pasteLow v_print_nameLength v_print_isWritten v_print_cells) [(k_print_cells, .long)] sz (fun (u : Int32 × (Nat → Int64)) => post u.1 u.2) (fun (u : Int32 × (Nat → Int64)) => (w_Ma_addUpright ad a_this a_spans a_leftOut a_print a_print_cells a_print_family a_print_yard a_print_columns a_print_rows a_print_line k_print_cells v_this_rounding v_this_toe v_this_heel v_this_side v_this_pitch v_this_outer v_this_inner v_this_across v_this_hole v_print_atHand u.1 v_print_thermal v_print_density v_print_outerHigh v_print_pasteLeft v_print_pasteLow v_print_nameLength v_print_isWritten u.2)) 0 0 := by
  refine Met.ofW (cc := cMa_addUpright) (maxL := 8) (ret := none) (by decide +kernel) rfl ?_
  intro p e s m args below meth c s₁ B hml hv
  obtain ⟨rfl, hsz, hP, hK, hD0, hE⟩ := hv
  have hx := B.exec
  have hb := B.bytes
  have hr := B.returns
  have hts0 := atoms_spec (ws := wsMa_addUpright) B.pre
  have hts := fun w h => hts0 w (List.mem_cons_of_mem _ h)
  have hown : s.vm.findClass RMa = some m.cls := findClass_of_methodNamed B.named
  have hlocks := B.notSynchronized
  subst hsz
  have hD := hD0.self (sz := s.heap.size)
  generalize hAe : va_A (w_Ma_addUpright ad a_this a_spans a_leftOut a_print a_print_cells a_print_family a_print_yard a_print_columns a_print_rows a_print_line k_print_cells v_this_rounding v_this_toe v_this_heel v_this_side v_this_pitch v_this_outer v_this_inner v_this_across v_this_hole v_print_atHand v_print_count v_print_thermal v_print_density v_print_outerHigh v_print_pasteLeft v_print_pasteLow v_print_nameLength v_print_isWritten v_print_cells) s.heap.size = A at hD hE ⊢
  have hA : ∀ q : Nat, s.heap.size ≤ q → A q := fun q h => by rw [← hAe]; exact Or.inr h
  have C0 := zC.mk hx hb hr hml hown hts hlocks hA
  have hS : va_S A s.heap s.heap [] := va_S.rf
  have hl := lv_entry ([.ref a_this, .int p1, .int p2]) (n := 8) (Nat.le_of_ble_eq_true rfl)
  rw [lg_entry_eq]
  generalize (lg_sl ([.ref a_this, .int p1, .int p2]) ++ List.replicate (8 - (lg_sl ([.ref a_this, .int p1, .int p2])).length) Slot.unset).toArray = ls at hl ⊢
  have hl : lv_has ls 8 [(0, .ref a_this), (1, .int p1), (2, .int p2)] := hl
  unfold P_Ma_addUpright at h
  refine lv_iload_n hx hb dMa_addUpright_0 rfl (lv_at hl 2 rfl) ?_
  refine lv_if_eq (tgt := 16) hx hb dMa_addUpright_1 (by decide) ?_ ?_
  · intro c1
    replace h := h.1 c1
    refine lv_aload_n hx hb dMa_addUpright_16 rfl (lv_at hl 0 rfl) ?_
    refine va_get (D := (dC, dI)) (ci := 4) (v := .long v_this_inner) (C := RMa) (T := TMa) (N := 12) hx hb hts inZ_Ma hown hK hP 0 rfl rfl 9 (by decide) (hts _ zw_343) (fun _ h9 => h9) rfl dMa_addUpright_17 ?_
    refine lv_ldc2 (own := RMa) (index := 129) (v := 2) hx hb hown (hts _ zw_735) dMa_addUpright_20 ?_
    refine lv_ldiv hx hb dMa_addUpright_23 (by decide) ?_
    exact w_Ma_addUpright_24 l C0 hE a_this a_spans a_leftOut a_print a_print_cells a_print_family a_print_yard a_print_columns a_print_rows a_print_line k_print_cells p1 p2 v_this_rounding v_this_toe v_this_heel v_this_side v_this_pitch v_this_outer v_this_inner v_this_across v_this_hole v_print_atHand v_print_count v_print_thermal v_print_density v_print_outerHigh v_print_pasteLeft v_print_pasteLow v_print_nameLength v_print_isWritten v_print_cells post hK (v_this_inner / 2) _ _ h hP hD hS ls (lv_sub hl [0, 1, 2] rfl)
  · intro c1
    replace h := h.2 c1
    refine lv_aload_n hx hb dMa_addUpright_4 rfl (lv_at hl 0 rfl) ?_
    refine va_get (D := (dC, dI)) (ci := 4) (v := .long v_this_outer) (C := RMa) (T := TMa) (N := 12) hx hb hts inZ_Ma hown hK hP 0 rfl rfl 8 (by decide) (hts _ zw_342) (fun _ h9 => h9) rfl dMa_addUpright_5 ?_
    refine lv_lneg hx hb dMa_addUpright_8 ?_
    refine lv_ldc2 (own := RMa) (index := 129) (v := 2) hx hb hown (hts _ zw_735) dMa_addUpright_9 ?_
    refine lv_ldiv hx hb dMa_addUpright_12 (by decide) ?_
    refine lv_goto (tgt := 24) hx hb dMa_addUpright_13 (by decide) ?_
    exact w_Ma_addUpright_24 l C0 hE a_this a_spans a_leftOut a_print a_print_cells a_print_family a_print_yard a_print_columns a_print_rows a_print_line k_print_cells p1 p2 v_this_rounding v_this_toe v_this_heel v_this_side v_this_pitch v_this_outer v_this_inner v_this_across v_this_hole v_print_atHand v_print_count v_print_thermal v_print_density v_print_outerHigh v_print_pasteLeft v_print_pasteLow v_print_nameLength v_print_isWritten v_print_cells post hK ((-v_this_outer) / 2) _ _ h hP hD hS ls (lv_sub hl [0, 1, 2] rfl)
abbrev yMa_addLying : MethodName := ⟨"FootprintRules$Maker", "addLying", "(IZ)V"⟩
abbrev cMa_addLying : ByteArray := prog_10_method_15_code
abbrev wsMa_addLying : List Cond := .code yMa_addLying cMa_addLying 8 none :: zT
set_option maxRecDepth 100000 in
theorem zc_Ma_addLying : Cond.code yMa_addLying cMa_addLying 8 none ∈ zT := zm 800 (by rfl) (by rfl)
theorem dMa_addLying_0 : decode cMa_addLying 0 = .ok (.iload_n 2, 1) := by decide +kernel
theorem dMa_addLying_1 : decode cMa_addLying 1 = .ok (.ifCond .eq 14, 3) := by decide +kernel
theorem dMa_addLying_4 : decode cMa_addLying 4 = .ok (.aload_n 0, 1) := by decide +kernel
theorem dMa_addLying_5 : decode cMa_addLying 5 = .ok (.getfield 198, 3) := by decide +kernel
theorem dMa_addLying_8 : decode cMa_addLying 8 = .ok (.ldc2_w 129, 3) := by decide +kernel
theorem dMa_addLying_11 : decode cMa_addLying 11 = .ok (.ldiv, 1) := by decide +kernel
theorem dMa_addLying_12 : decode cMa_addLying 12 = .ok (.goto 12, 3) := by decide +kernel
theorem dMa_addLying_15 : decode cMa_addLying 15 = .ok (.aload_n 0, 1) := by decide +kernel
theorem dMa_addLying_16 : decode cMa_addLying 16 = .ok (.getfield 189, 3) := by decide +kernel
theorem dMa_addLying_19 : decode cMa_addLying 19 = .ok (.lneg, 1) := by decide +kernel
theorem dMa_addLying_20 : decode cMa_addLying 20 = .ok (.ldc2_w 129, 3) := by decide +kernel
theorem dMa_addLying_23 : decode cMa_addLying 23 = .ok (.ldiv, 1) := by decide +kernel
theorem dMa_addLying_24 : decode cMa_addLying 24 = .ok (.lstore_n 3, 1) := by decide +kernel
theorem dMa_addLying_25 : decode cMa_addLying 25 = .ok (.iconst 0, 1) := by decide +kernel
theorem dMa_addLying_26 : decode cMa_addLying 26 = .ok (.istore 5, 2) := by decide +kernel
theorem dMa_addLying_28 : decode cMa_addLying 28 = .ok (.iload 5, 2) := by decide +kernel
theorem dMa_addLying_30 : decode cMa_addLying 30 = .ok (.iload_n 1, 1) := by decide +kernel
theorem dMa_addLying_31 : decode cMa_addLying 31 = .ok (.if_icmp .ge 84, 3) := by decide +kernel
theorem dMa_addLying_34 : decode cMa_addLying 34 = .ok (.iload_n 2, 1) := by decide +kernel
theorem dMa_addLying_35 : decode cMa_addLying 35 = .ok (.ifCond .eq 13, 3) := by decide +kernel
theorem dMa_addLying_38 : decode cMa_addLying 38 = .ok (.iload_n 1, 1) := by decide +kernel
theorem dMa_addLying_39 : decode cMa_addLying 39 = .ok (.iconst 1, 1) := by decide +kernel
theorem dMa_addLying_40 : decode cMa_addLying 40 = .ok (.isub, 1) := by decide +kernel
theorem dMa_addLying_41 : decode cMa_addLying 41 = .ok (.iload 5, 2) := by decide +kernel
theorem dMa_addLying_43 : decode cMa_addLying 43 = .ok (.isub, 1) := by decide +kernel
theorem dMa_addLying_44 : decode cMa_addLying 44 = .ok (.i2l, 1) := by decide +kernel
theorem dMa_addLying_45 : decode cMa_addLying 45 = .ok (.goto 6, 3) := by decide +kernel
theorem dMa_addLying_48 : decode cMa_addLying 48 = .ok (.iload 5, 2) := by decide +kernel
theorem dMa_addLying_50 : decode cMa_addLying 50 = .ok (.i2l, 1) := by decide +kernel
theorem dMa_addLying_51 : decode cMa_addLying 51 = .ok (.iload_n 1, 1) := by decide +kernel
theorem dMa_addLying_52 : decode cMa_addLying 52 = .ok (.i2l, 1) := by decide +kernel
theorem dMa_addLying_53 : decode cMa_addLying 53 = .ok (.aload_n 0, 1) := by decide +kernel
theorem dMa_addLying_54 : decode cMa_addLying 54 = .ok (.getfield 102, 3) := by decide +kernel
theorem dMa_addLying_57 : decode cMa_addLying 57 = .ok (.invokestatic 152, 3) := by decide +kernel
theorem dMa_addLying_60 : decode cMa_addLying 60 = .ok (.aload_n 0, 1) := by decide +kernel
theorem dMa_addLying_61 : decode cMa_addLying 61 = .ok (.getfield 201, 3) := by decide +kernel
theorem dMa_addLying_64 : decode cMa_addLying 64 = .ok (.ldc2_w 129, 3) := by decide +kernel
theorem dMa_addLying_67 : decode cMa_addLying 67 = .ok (.ldiv, 1) := by decide +kernel
theorem dMa_addLying_68 : decode cMa_addLying 68 = .ok (.lsub, 1) := by decide +kernel
theorem dMa_addLying_69 : decode cMa_addLying 69 = .ok (.lstore 6, 2) := by decide +kernel
theorem dMa_addLying_71 : decode cMa_addLying 71 = .ok (.aload_n 0, 1) := by decide +kernel
theorem dMa_addLying_72 : decode cMa_addLying 72 = .ok (.getfield 25, 3) := by decide +kernel
theorem dMa_addLying_75 : decode cMa_addLying 75 = .ok (.aload_n 0, 1) := by decide +kernel
theorem dMa_addLying_76 : decode cMa_addLying 76 = .ok (.getfield 25, 3) := by decide +kernel
theorem dMa_addLying_79 : decode cMa_addLying 79 = .ok (.getfield 116, 3) := by decide +kernel
theorem dMa_addLying_82 : decode cMa_addLying 82 = .ok (.iconst 1, 1) := by decide +kernel
theorem dMa_addLying_83 : decode cMa_addLying 83 = .ok (.iadd, 1) := by decide +kernel
theorem dMa_addLying_84 : decode cMa_addLying 84 = .ok (.lload 6, 2) := by decide +kernel
theorem dMa_addLying_86 : decode cMa_addLying 86 = .ok (.lload_n 3, 1) := by decide +kernel
theorem dMa_addLying_87 : decode cMa_addLying 87 = .ok (.aload_n 0, 1) := by decide +kernel
theorem dMa_addLying_88 : decode cMa_addLying 88 = .ok (.getfield 201, 3) := by decide +kernel
theorem dMa_addLying_91 : decode cMa_addLying 91 = .ok (.aload_n 0, 1) := by decide +kernel
theorem dMa_addLying_92 : decode cMa_addLying 92 = .ok (.getfield 189, 3) := by decide +kernel
theorem dMa_addLying_95 : decode cMa_addLying 95 = .ok (.aload_n 0, 1) := by decide +kernel
theorem dMa_addLying_96 : decode cMa_addLying 96 = .ok (.getfield 198, 3) := by decide +kernel
theorem dMa_addLying_99 : decode cMa_addLying 99 = .ok (.lsub, 1) := by decide +kernel
theorem dMa_addLying_100 : decode cMa_addLying 100 = .ok (.ldc2_w 129, 3) := by decide +kernel
theorem dMa_addLying_103 : decode cMa_addLying 103 = .ok (.ldiv, 1) := by decide +kernel
theorem dMa_addLying_104 : decode cMa_addLying 104 = .ok (.iconst 0, 1) := by decide +kernel
theorem dMa_addLying_105 : decode cMa_addLying 105 = .ok (.lconst 0, 1) := by decide +kernel
theorem dMa_addLying_106 : decode cMa_addLying 106 = .ok (.invokevirtual 156, 3) := by decide +kernel
theorem dMa_addLying_109 : decode cMa_addLying 109 = .ok (.iinc 5 1, 3) := by decide +kernel
theorem dMa_addLying_112 : decode cMa_addLying 112 = .ok (.goto (-84), 3) := by decide +kernel
theorem dMa_addLying_115 : decode cMa_addLying 115 = .ok (.return_, 1) := by decide +kernel
-- FootprintRules$Maker.addLying(IZ)V
abbrev w_Ma_addLying (ad : Nat → Nat → Nat) (a_this : Nat) (a_spans : Nat) (a_leftOut : Nat) (a_print : Nat) (a_print_cells : Nat) (a_print_family : Nat) (a_print_yard : Nat) (a_print_columns : Nat) (a_print_rows : Nat) (a_print_line : Nat) (k_print_cells : ClassId) (v_this_rounding : Int64) (v_this_toe : Int64) (v_this_heel : Int64) (v_this_side : Int64) (v_this_pitch : Int64) (v_this_outer : Int64) (v_this_inner : Int64) (v_this_across : Int64) (v_this_hole : Int64) (v_print_atHand : Int32) (v_print_count : Int32) (v_print_thermal : Int32) (v_print_density : Int32) (v_print_outerHigh : Int64) (v_print_pasteLeft : Int64) (v_print_pasteLow : Int64) (v_print_nameLength : Int32) (v_print_isWritten : Int32) (v_print_cells : Nat → Int64) : va_W := [(a_this, .inr (4, [.ref a_spans, .ref a_leftOut, .ref a_print, .long v_this_rounding, .long v_this_toe, .long v_this_heel, .long v_this_side, .long v_this_pitch, .long v_this_outer, .long v_this_inner, .long v_this_across, .long v_this_hole])), (a_print, .inr (6, [.int v_print_atHand, .ref a_print_cells, .int v_print_count, .int v_print_thermal, .ref a_print_family, .int v_print_density, .long v_print_outerHigh, .ref a_print_yard, .ref a_print_columns, .ref a_print_rows, .long v_print_pasteLeft, .long v_print_pasteLow, .ref a_print_line, .int v_print_nameLength, .int v_print_isWritten])), (a_print_cells, .inl (k_print_cells, 455, .inr (.inl v_print_cells)))]
def P_Ma_addLying_51 (p1 : Int32) (v_this_pitch : Int64) (v_this_outer : Int64) (v_this_inner : Int64) (v_this_across : Int64) (post : Int32 → (Nat → Int64) → Prop) (K28 : Int64 → Int32 → Int32 → (Nat → Int64) → Prop) (y3 : Int64) (y5 : Int32) (t0 : Int64) (u_print_count : Int32) (u_print_cells : Nat → Int64) : Prop := P_F_middle t0 p1.toInt64 v_this_pitch (fun (r1 : Int64) => ∀ x2 : Int64, x2 = r1 - (v_this_across / 2) → P_Fp_add (u_print_count + 1) x2 y3 v_this_across ((v_this_outer - v_this_inner) / 2) 0 0 u_print_count u_print_cells (fun (u3 : Int32) (u4 : Nat → Int64) => ∀ x5 : Int32, x5 = y5 + 1 → K28 y3 x5 u3 u4))
set_option maxHeartbeats 4000000 in
set_option maxRecDepth 100000 in
theorem w_Ma_addLying_51 (l : Launch) {p : Program} {e : Env} {s : State} {m : MethodId} {args : Array Value} {below : List Frame} {meth : Method} {c : Code} {dC : Nat → ClassId} {dI : Nat → Nat → Nat} {ad : Nat → Nat → Nat} {A : Nat → Prop} (C0 : zC p s m args meth c cMa_addLying 8 RMa zT none A) (hE : zE ad A s) (a_this : Nat) (a_spans : Nat) (a_leftOut : Nat) (a_print : Nat) (a_print_cells : Nat) (a_print_family : Nat) (a_print_yard : Nat) (a_print_columns : Nat) (a_print_rows : Nat) (a_print_line : Nat) (k_print_cells : ClassId) (p1 : Int32) (p2 : Int32) (v_this_rounding : Int64) (v_this_toe : Int64) (v_this_heel : Int64) (v_this_side : Int64) (v_this_pitch : Int64) (v_this_outer : Int64) (v_this_inner : Int64) (v_this_across : Int64) (v_this_hole : Int64) (v_print_atHand : Int32) (v_print_count : Int32) (v_print_thermal : Int32) (v_print_density : Int32) (v_print_outerHigh : Int64) (v_print_pasteLeft : Int64) (v_print_pasteLow : Int64) (v_print_nameLength : Int32) (v_print_isWritten : Int32) (v_print_cells : Nat → Int64) (post : Int32 → (Nat → Int64) → Prop) (K28 : Int64 → Int32 → Int32 → (Nat → Int64) → Prop) (hK28 : ∀ (y3 : Int64) (y5 : Int32) (u_print_count : Int32) (u_print_cells : Nat → Int64) (H : Heap) (locs : List Loc), K28 y3 y5 u_print_count u_print_cells → va_P (dC, dI) vwCl (w_Ma_addLying ad a_this a_spans a_leftOut a_print a_print_cells a_print_family a_print_yard a_print_columns a_print_rows a_print_line k_print_cells v_this_rounding v_this_toe v_this_heel v_this_side v_this_pitch v_this_outer v_this_inner v_this_across v_this_hole v_print_atHand u_print_count v_print_thermal v_print_density v_print_outerHigh v_print_pasteLeft v_print_pasteLow v_print_nameLength v_print_isWritten u_print_cells) H → va_D A (w_Ma_addLying ad a_this a_spans a_leftOut a_print a_print_cells a_print_family a_print_yard a_print_columns a_print_rows a_print_line k_print_cells v_this_rounding v_this_toe v_this_heel v_this_side v_this_pitch v_this_outer v_this_inner v_this_across v_this_hole v_print_atHand u_print_count v_print_thermal v_print_density v_print_outerHigh v_print_pasteLeft v_print_pasteLow v_print_nameLength v_print_isWritten u_print_cells) → va_S A s.heap H locs → ∀ ls : Array Slot, lv_has ls 8 [(0, .ref a_this), (1, .int p1), (2, .int p2), (3, .long y3), (5, .int y5)] → W p l e (headSpec wsMa_addLying { frames := 1, cells := 0, slots := 0, locals := 33 }).room s m args below meth c H locs 0 0 (MQ below (va_Qv (fun (u : Int32 × (Nat → Int64)) => post u.1 u.2) (zB (dC, dI) A (fun (u : Int32 × (Nat → Int64)) => (w_Ma_addLying ad a_this a_spans a_leftOut a_print a_print_cells a_print_family a_print_yard a_print_columns a_print_rows a_print_line k_print_cells v_this_rounding v_this_toe v_this_heel v_this_side v_this_pitch v_this_outer v_this_inner v_this_across v_this_hole v_print_atHand u.1 v_print_thermal v_print_density v_print_outerHigh v_print_pasteLeft v_print_pasteLow v_print_nameLength v_print_isWritten u.2))) A) args s 0 0 A) (F0 m 28 ls [])) (hK : va_K (dC, dI) vwCl [(k_print_cells, .long)] s) : ∀ (y3 : Int64) (y5 : Int32) (t0 : Int64) (u_print_count : Int32) (u_print_cells : Nat → Int64) (H : Heap) (locs : List Loc), P_Ma_addLying_51 p1 v_this_pitch v_this_outer v_this_inner v_this_across post K28 y3 y5 t0 u_print_count u_print_cells → va_P (dC, dI) vwCl (w_Ma_addLying ad a_this a_spans a_leftOut a_print a_print_cells a_print_family a_print_yard a_print_columns a_print_rows a_print_line k_print_cells v_this_rounding v_this_toe v_this_heel v_this_side v_this_pitch v_this_outer v_this_inner v_this_across v_this_hole v_print_atHand u_print_count v_print_thermal v_print_density v_print_outerHigh v_print_pasteLeft v_print_pasteLow v_print_nameLength v_print_isWritten u_print_cells) H → va_D A (w_Ma_addLying ad a_this a_spans a_leftOut a_print a_print_cells a_print_family a_print_yard a_print_columns a_print_rows a_print_line k_print_cells v_this_rounding v_this_toe v_this_heel v_this_side v_this_pitch v_this_outer v_this_inner v_this_across v_this_hole v_print_atHand u_print_count v_print_thermal v_print_density v_print_outerHigh v_print_pasteLeft v_print_pasteLow v_print_nameLength v_print_isWritten u_print_cells) → va_S A s.heap H locs → ∀ ls : Array Slot, lv_has ls 8 [(0, .ref a_this), (1, .int p1), (2, .int p2), (3, .long y3), (5, .int y5)] → W p l e (headSpec wsMa_addLying { frames := 1, cells := 0, slots := 0, locals := 33 }).room s m args below meth c H locs 0 0 (MQ below (va_Qv (fun (u : Int32 × (Nat → Int64)) => post u.1 u.2) (zB (dC, dI) A (fun (u : Int32 × (Nat → Int64)) => (w_Ma_addLying ad a_this a_spans a_leftOut a_print a_print_cells a_print_family a_print_yard a_print_columns a_print_rows a_print_line k_print_cells v_this_rounding v_this_toe v_this_heel v_this_side v_this_pitch v_this_outer v_this_inner v_this_across v_this_hole v_print_atHand u.1 v_print_thermal v_print_density v_print_outerHigh v_print_pasteLeft v_print_pasteLow v_print_nameLength v_print_isWritten u.2))) A) args s 0 0 A) (F0 m 51 ls [.long t0]) := by
  obtain ⟨hx, hb, hr, hml, hown, hts, hlocks, hA⟩ := id C0
  intro y3 y5 t0 u_print_count u_print_cells H locs h hP hD hS ls hl
  unfold P_Ma_addLying_51 at h
  refine lv_iload_n hx hb dMa_addLying_51 rfl (lv_at hl 1 rfl) ?_
  refine lv_i2l hx hb dMa_addLying_52 rfl ?_
  refine lv_aload_n hx hb dMa_addLying_53 rfl (lv_at hl 0 rfl) ?_
  refine va_get (D := (dC, dI)) (ci := 4) (v := .long v_this_pitch) (C := RMa) (T := TMa) (N := 12) hx hb hts inZ_Ma hown hK hP 0 rfl rfl 7 (by decide) (hts _ zw_341) (fun _ h9 => h9) rfl dMa_addLying_54 ?_
  refine zcall_l hP hD hS hA [] [0, 1, 2] (va_runSN (As := [.long t0, .long p1.toInt64, .long v_this_pitch]) (rest := []) ⟨hx, hb, hml, hown, hts⟩ (c_F_middle l dC dI ad _ t0 p1.toInt64 v_this_pitch _ h) ⟨va_cnB 3 hts (zgood zc_F_middle) rfl rfl rfl (hE.nw _ zn_751) (hts _ zw_95) (by decide +kernel) ⟨Nat.le_of_ble_eq_true rfl, Nat.le_of_ble_eq_true rfl⟩, (hts _ zw_752), trivial⟩ (zpreS hE hK hP hD hS hA [] [] (by rfl) (by rfl) (by decide)) rfl rfl hl.1 rfl (lv_room (Nat.le_of_ble_eq_true rfl)) dMa_addLying_57 ⟨Nat.le_of_ble_eq_true rfl, Nat.le_of_ble_eq_true rfl⟩) (by rfl) (by rfl) (by decide) (by decide) (fun r1 u H locs h hP hD hS => ?_)
  try dsimp only at h
  have hP := hP.sub (ws' := (w_Ma_addLying ad a_this a_spans a_leftOut a_print a_print_cells a_print_family a_print_yard a_print_columns a_print_rows a_print_line k_print_cells v_this_rounding v_this_toe v_this_heel v_this_side v_this_pitch v_this_outer v_this_inner v_this_across v_this_hole v_print_atHand u_print_count v_print_thermal v_print_density v_print_outerHigh v_print_pasteLeft v_print_pasteLow v_print_nameLength v_print_isWritten u_print_cells)) [0, 1, 2] rfl
  have hD := hD.sub (ws' := (w_Ma_addLying ad a_this a_spans a_leftOut a_print a_print_cells a_print_family a_print_yard a_print_columns a_print_rows a_print_line k_print_cells v_this_rounding v_this_toe v_this_heel v_this_side v_this_pitch v_this_outer v_this_inner v_this_across v_this_hole v_print_atHand u_print_count v_print_thermal v_print_density v_print_outerHigh v_print_pasteLeft v_print_pasteLow v_print_nameLength v_print_isWritten u_print_cells)) [0, 1, 2] (by decide) rfl
  refine lv_aload_n hx hb dMa_addLying_60 rfl (lv_at hl 0 rfl) ?_
  refine va_get (D := (dC, dI)) (ci := 4) (v := .long v_this_across) (C := RMa) (T := TMa) (N := 12) hx hb hts inZ_Ma hown hK hP 0 rfl rfl 10 (by decide) (hts _ zw_344) (fun _ h9 => h9) rfl dMa_addLying_61 ?_
  refine lv_ldc2 (own := RMa) (index := 129) (v := 2) hx hb hown (hts _ zw_735) dMa_addLying_64 ?_
  refine lv_ldiv hx hb dMa_addLying_67 (by decide) ?_
  refine lv_lsub hx hb dMa_addLying_68 ?_
  refine lv_topl (fun x2 ex2 => ?_)
  replace h := h x2 ex2
  refine lv_lstore (lv' := [(6, .long x2), (0, .ref a_this), (1, .int p1), (2, .int p2), (3, .long y3), (5, .int y5)]) hx hb dMa_addLying_69 hl (by decide) rfl (fun ls hl => ?_)
  refine lv_aload_n hx hb dMa_addLying_71 rfl (lv_at hl 1 rfl) ?_
  refine va_get (D := (dC, dI)) (ci := 4) (v := .ref a_print) (C := RMa) (T := TMa) (N := 12) hx hb hts inZ_Ma hown hK hP 0 rfl rfl 2 (by decide) (hts _ zw_335) (fun _ h9 => h9) rfl dMa_addLying_72 ?_
  refine lv_aload_n hx hb dMa_addLying_75 rfl (lv_at hl 1 rfl) ?_
  refine va_get (D := (dC, dI)) (ci := 4) (v := .ref a_print) (C := RMa) (T := TMa) (N := 12) hx hb hts inZ_Ma hown hK hP 0 rfl rfl 2 (by decide) (hts _ zw_335) (fun _ h9 => h9) rfl dMa_addLying_76 ?_
  refine va_getN (D := (dC, dI)) (ci := 6) (v := .int u_print_count) (C := RFp) (T := TFp) (N := 15) hx hb hts inZ_Fp hown hK hP 1 rfl rfl 2 (by decide) ((hE.nw _ zn_283).use rfl) (fun _ h9 => h9) rfl dMa_addLying_79 ?_
  refine lv_iconst (v := 1) hx hb dMa_addLying_82 (by decide) ?_
  refine lv_iadd hx hb dMa_addLying_83 ?_
  refine lv_lload hx hb dMa_addLying_84 (lv_at hl 0 rfl) ?_
  refine lv_lload_n hx hb dMa_addLying_86 rfl (lv_at hl 4 rfl) ?_
  refine lv_aload_n hx hb dMa_addLying_87 rfl (lv_at hl 1 rfl) ?_
  refine va_get (D := (dC, dI)) (ci := 4) (v := .long v_this_across) (C := RMa) (T := TMa) (N := 12) hx hb hts inZ_Ma hown hK hP 0 rfl rfl 10 (by decide) (hts _ zw_344) (fun _ h9 => h9) rfl dMa_addLying_88 ?_
  refine lv_aload_n hx hb dMa_addLying_91 rfl (lv_at hl 1 rfl) ?_
  refine va_get (D := (dC, dI)) (ci := 4) (v := .long v_this_outer) (C := RMa) (T := TMa) (N := 12) hx hb hts inZ_Ma hown hK hP 0 rfl rfl 8 (by decide) (hts _ zw_342) (fun _ h9 => h9) rfl dMa_addLying_92 ?_
  refine lv_aload_n hx hb dMa_addLying_95 rfl (lv_at hl 1 rfl) ?_
  refine va_get (D := (dC, dI)) (ci := 4) (v := .long v_this_inner) (C := RMa) (T := TMa) (N := 12) hx hb hts inZ_Ma hown hK hP 0 rfl rfl 9 (by decide) (hts _ zw_343) (fun _ h9 => h9) rfl dMa_addLying_96 ?_
  refine lv_lsub hx hb dMa_addLying_99 ?_
  refine lv_ldc2 (own := RMa) (index := 129) (v := 2) hx hb hown (hts _ zw_735) dMa_addLying_100 ?_
  refine lv_ldiv hx hb dMa_addLying_103 (by decide) ?_
  refine lv_iconst (v := 0) hx hb dMa_addLying_104 (by decide) ?_
  refine lv_lconst (v := 0) hx hb dMa_addLying_105 (by decide) ?_
  refine zcall_v hP hD hS hA [1, 2] [0] (va_runVN (As := [.int (u_print_count + 1), .long x2, .long y3, .long v_this_across, .long ((v_this_outer - v_this_inner) / 2), .int 0, .long 0]) (rest := []) ⟨hx, hb, hml, hown, hts⟩ (c_Fp_add l dC dI ad a_print a_print_cells a_print_family a_print_yard a_print_columns a_print_rows a_print_line k_print_cells _ (u_print_count + 1) x2 y3 v_this_across ((v_this_outer - v_this_inner) / 2) 0 0 v_print_atHand u_print_count v_print_thermal v_print_density v_print_outerHigh v_print_pasteLeft v_print_pasteLow v_print_nameLength v_print_isWritten u_print_cells _ h) ⟨va_cnB 7 hts (zgood zc_Fp_add) rfl rfl rfl (hE.nw _ zn_755) (hts _ zw_101) (by decide +kernel) ⟨Nat.le_of_ble_eq_true rfl, Nat.le_of_ble_eq_true rfl⟩, (hts _ zw_757), (hts _ zw_33)⟩ (zpreV hE hK hP hD hS hA [1, 2] [0] (by rfl) (by rfl) (by decide) (ci := 6) (q0 := 1) rfl (by rfl)) rfl rfl hl.1 rfl (lv_room (Nat.le_of_ble_eq_true rfl)) dMa_addLying_106 ⟨Nat.le_of_ble_eq_true rfl, Nat.le_of_ble_eq_true rfl⟩) (by rfl) (by rfl) (by decide) (by decide) (fun u H locs h hP hD hS => ?_)
  obtain ⟨u3, u4⟩ := u
  try dsimp only at h
  have hP := hP.sub (ws' := (w_Ma_addLying ad a_this a_spans a_leftOut a_print a_print_cells a_print_family a_print_yard a_print_columns a_print_rows a_print_line k_print_cells v_this_rounding v_this_toe v_this_heel v_this_side v_this_pitch v_this_outer v_this_inner v_this_across v_this_hole v_print_atHand u3 v_print_thermal v_print_density v_print_outerHigh v_print_pasteLeft v_print_pasteLow v_print_nameLength v_print_isWritten u4)) [0, 1, 2] rfl
  have hD := hD.sub (ws' := (w_Ma_addLying ad a_this a_spans a_leftOut a_print a_print_cells a_print_family a_print_yard a_print_columns a_print_rows a_print_line k_print_cells v_this_rounding v_this_toe v_this_heel v_this_side v_this_pitch v_this_outer v_this_inner v_this_across v_this_hole v_print_atHand u3 v_print_thermal v_print_density v_print_outerHigh v_print_pasteLeft v_print_pasteLow v_print_nameLength v_print_isWritten u4)) [0, 1, 2] (by decide) rfl
  obtain ⟨x5, ex5⟩ : ∃ y : Int32, y = y5 + 1 := ⟨_, rfl⟩
  replace h := h x5 ex5
  refine lv_iinc (v := x5) (lv' := [(5, .int x5), (6, .long x2), (0, .ref a_this), (1, .int p1), (2, .int p2), (3, .long y3)]) hx hb dMa_addLying_109 hl (k := 5) rfl (by rw [ex5]; rfl) (by decide) rfl (fun ls hl => ?_)
  refine lv_goto (tgt := 28) hx hb dMa_addLying_112 (by decide) ?_
  exact hK28 y3 x5 u3 u4 _ _ h hP hD hS ls (lv_sub hl [2, 3, 4, 5, 0] rfl)
def P_Ma_addLying_28 (p1 : Int32) (p2 : Int32) (v_this_pitch : Int64) (v_this_outer : Int64) (v_this_inner : Int64) (v_this_across : Int64) (post : Int32 → (Nat → Int64) → Prop) : Nat → Int64 → Int32 → Int32 → (Nat → Int64) → Prop
  | 0, _, _, _, _ => False
  | n + 1, y3, y5, u_print_count, u_print_cells => ((p1 ≤ y5 → post u_print_count u_print_cells) ∧ (¬ p1 ≤ y5 → ((p2 = 0 → P_Ma_addLying_51 p1 v_this_pitch v_this_outer v_this_inner v_this_across post (P_Ma_addLying_28 p1 p2 v_this_pitch v_this_outer v_this_inner v_this_across post n) y3 y5 y5.toInt64 u_print_count u_print_cells) ∧ (¬ p2 = 0 → P_Ma_addLying_51 p1 v_this_pitch v_this_outer v_this_inner v_this_across post (P_Ma_addLying_28 p1 p2 v_this_pitch v_this_outer v_this_inner v_this_across post n) y3 y5 (((p1 - 1) - y5).toInt64) u_print_count u_print_cells))))
set_option maxHeartbeats 4000000 in
set_option maxRecDepth 100000 in
theorem w_Ma_addLying_28 (l : Launch) {p : Program} {e : Env} {s : State} {m : MethodId} {args : Array Value} {below : List Frame} {meth : Method} {c : Code} {dC : Nat → ClassId} {dI : Nat → Nat → Nat} {ad : Nat → Nat → Nat} {A : Nat → Prop} (C0 : zC p s m args meth c cMa_addLying 8 RMa zT none A) (hE : zE ad A s) (a_this : Nat) (a_spans : Nat) (a_leftOut : Nat) (a_print : Nat) (a_print_cells : Nat) (a_print_family : Nat) (a_print_yard : Nat) (a_print_columns : Nat) (a_print_rows : Nat) (a_print_line : Nat) (k_print_cells : ClassId) (p1 : Int32) (p2 : Int32) (v_this_rounding : Int64) (v_this_toe : Int64) (v_this_heel : Int64) (v_this_side : Int64) (v_this_pitch : Int64) (v_this_outer : Int64) (v_this_inner : Int64) (v_this_across : Int64) (v_this_hole : Int64) (v_print_atHand : Int32) (v_print_count : Int32) (v_print_thermal : Int32) (v_print_density : Int32) (v_print_outerHigh : Int64) (v_print_pasteLeft : Int64) (v_print_pasteLow : Int64) (v_print_nameLength : Int32) (v_print_isWritten : Int32) (v_print_cells : Nat → Int64) (post : Int32 → (Nat → Int64) → Prop) (hK : va_K (dC, dI) vwCl [(k_print_cells, .long)] s) : ∀ (n : Nat), ∀ (y3 : Int64) (y5 : Int32) (u_print_count : Int32) (u_print_cells : Nat → Int64) (H : Heap) (locs : List Loc), P_Ma_addLying_28 p1 p2 v_this_pitch v_this_outer v_this_inner v_this_across post n y3 y5 u_print_count u_print_cells → va_P (dC, dI) vwCl (w_Ma_addLying ad a_this a_spans a_leftOut a_print a_print_cells a_print_family a_print_yard a_print_columns a_print_rows a_print_line k_print_cells v_this_rounding v_this_toe v_this_heel v_this_side v_this_pitch v_this_outer v_this_inner v_this_across v_this_hole v_print_atHand u_print_count v_print_thermal v_print_density v_print_outerHigh v_print_pasteLeft v_print_pasteLow v_print_nameLength v_print_isWritten u_print_cells) H → va_D A (w_Ma_addLying ad a_this a_spans a_leftOut a_print a_print_cells a_print_family a_print_yard a_print_columns a_print_rows a_print_line k_print_cells v_this_rounding v_this_toe v_this_heel v_this_side v_this_pitch v_this_outer v_this_inner v_this_across v_this_hole v_print_atHand u_print_count v_print_thermal v_print_density v_print_outerHigh v_print_pasteLeft v_print_pasteLow v_print_nameLength v_print_isWritten u_print_cells) → va_S A s.heap H locs → ∀ ls : Array Slot, lv_has ls 8 [(0, .ref a_this), (1, .int p1), (2, .int p2), (3, .long y3), (5, .int y5)] → W p l e (headSpec wsMa_addLying { frames := 1, cells := 0, slots := 0, locals := 33 }).room s m args below meth c H locs 0 0 (MQ below (va_Qv (fun (u : Int32 × (Nat → Int64)) => post u.1 u.2) (zB (dC, dI) A (fun (u : Int32 × (Nat → Int64)) => (w_Ma_addLying ad a_this a_spans a_leftOut a_print a_print_cells a_print_family a_print_yard a_print_columns a_print_rows a_print_line k_print_cells v_this_rounding v_this_toe v_this_heel v_this_side v_this_pitch v_this_outer v_this_inner v_this_across v_this_hole v_print_atHand u.1 v_print_thermal v_print_density v_print_outerHigh v_print_pasteLeft v_print_pasteLow v_print_nameLength v_print_isWritten u.2))) A) args s 0 0 A) (F0 m 28 ls []) := by
  obtain ⟨hx, hb, hr, hml, hown, hts, hlocks, hA⟩ := id C0
  intro n
  induction n with
  | zero =>
    intro y3 y5 u_print_count u_print_cells H locs h
    exact False.elim h
  | succ n ih =>
    intro y3 y5 u_print_count u_print_cells H locs h hP hD hS ls hl
    rw [P_Ma_addLying_28] at h
    refine lv_iload hx hb dMa_addLying_28 (lv_at hl 4 rfl) ?_
    refine lv_iload_n hx hb dMa_addLying_30 rfl (lv_at hl 1 rfl) ?_
    refine lv_icmp_ge (tgt := 115) hx hb dMa_addLying_31 (by decide) ?_ ?_
    · intro c1
      replace h := h.1 c1
      exact W.vret hx hb hr (fun t ht hW => ⟨⟨(u_print_count, u_print_cells), rfl, h, by rw [ht]; exact hP, hD⟩, hS.F ht⟩) hS.2.2 dMa_addLying_115
    · intro c1
      replace h := h.2 c1
      refine lv_iload_n hx hb dMa_addLying_34 rfl (lv_at hl 2 rfl) ?_
      refine lv_if_eq (tgt := 48) hx hb dMa_addLying_35 (by decide) ?_ ?_
      · intro c2
        replace h := h.1 c2
        refine lv_iload hx hb dMa_addLying_48 (lv_at hl 4 rfl) ?_
        refine lv_i2l hx hb dMa_addLying_50 rfl ?_
        exact w_Ma_addLying_51 l C0 hE a_this a_spans a_leftOut a_print a_print_cells a_print_family a_print_yard a_print_columns a_print_rows a_print_line k_print_cells p1 p2 v_this_rounding v_this_toe v_this_heel v_this_side v_this_pitch v_this_outer v_this_inner v_this_across v_this_hole v_print_atHand v_print_count v_print_thermal v_print_density v_print_outerHigh v_print_pasteLeft v_print_pasteLow v_print_nameLength v_print_isWritten v_print_cells post (P_Ma_addLying_28 p1 p2 v_this_pitch v_this_outer v_this_inner v_this_across post n) ih hK y3 y5 y5.toInt64 u_print_count u_print_cells _ _ h hP hD hS ls (lv_sub hl [0, 1, 2, 3, 4] rfl)
      · intro c2
        replace h := h.2 c2
        refine lv_iload_n hx hb dMa_addLying_38 rfl (lv_at hl 1 rfl) ?_
        refine lv_iconst (v := 1) hx hb dMa_addLying_39 (by decide) ?_
        refine lv_isub hx hb dMa_addLying_40 ?_
        refine lv_iload hx hb dMa_addLying_41 (lv_at hl 4 rfl) ?_
        refine lv_isub hx hb dMa_addLying_43 ?_
        refine lv_i2l hx hb dMa_addLying_44 rfl ?_
        refine lv_goto (tgt := 51) hx hb dMa_addLying_45 (by decide) ?_
        exact w_Ma_addLying_51 l C0 hE a_this a_spans a_leftOut a_print a_print_cells a_print_family a_print_yard a_print_columns a_print_rows a_print_line k_print_cells p1 p2 v_this_rounding v_this_toe v_this_heel v_this_side v_this_pitch v_this_outer v_this_inner v_this_across v_this_hole v_print_atHand v_print_count v_print_thermal v_print_density v_print_outerHigh v_print_pasteLeft v_print_pasteLow v_print_nameLength v_print_isWritten v_print_cells post (P_Ma_addLying_28 p1 p2 v_this_pitch v_this_outer v_this_inner v_this_across post n) ih hK y3 y5 (((p1 - 1) - y5).toInt64) u_print_count u_print_cells _ _ h hP hD hS ls (lv_sub hl [0, 1, 2, 3, 4] rfl)
def P_Ma_addLying_24 (p1 : Int32) (p2 : Int32) (v_this_pitch : Int64) (v_this_outer : Int64) (v_this_inner : Int64) (v_this_across : Int64) (v_print_count : Int32) (v_print_cells : Nat → Int64) (post : Int32 → (Nat → Int64) → Prop) (t0 : Int64) : Prop := ∃ n1, P_Ma_addLying_28 p1 p2 v_this_pitch v_this_outer v_this_inner v_this_across post n1 t0 0 v_print_count v_print_cells
set_option maxHeartbeats 4000000 in
set_option maxRecDepth 100000 in
theorem w_Ma_addLying_24 (l : Launch) {p : Program} {e : Env} {s : State} {m : MethodId} {args : Array Value} {below : List Frame} {meth : Method} {c : Code} {dC : Nat → ClassId} {dI : Nat → Nat → Nat} {ad : Nat → Nat → Nat} {A : Nat → Prop} (C0 : zC p s m args meth c cMa_addLying 8 RMa zT none A) (hE : zE ad A s) (a_this : Nat) (a_spans : Nat) (a_leftOut : Nat) (a_print : Nat) (a_print_cells : Nat) (a_print_family : Nat) (a_print_yard : Nat) (a_print_columns : Nat) (a_print_rows : Nat) (a_print_line : Nat) (k_print_cells : ClassId) (p1 : Int32) (p2 : Int32) (v_this_rounding : Int64) (v_this_toe : Int64) (v_this_heel : Int64) (v_this_side : Int64) (v_this_pitch : Int64) (v_this_outer : Int64) (v_this_inner : Int64) (v_this_across : Int64) (v_this_hole : Int64) (v_print_atHand : Int32) (v_print_count : Int32) (v_print_thermal : Int32) (v_print_density : Int32) (v_print_outerHigh : Int64) (v_print_pasteLeft : Int64) (v_print_pasteLow : Int64) (v_print_nameLength : Int32) (v_print_isWritten : Int32) (v_print_cells : Nat → Int64) (post : Int32 → (Nat → Int64) → Prop) (hK : va_K (dC, dI) vwCl [(k_print_cells, .long)] s) : ∀ (t0 : Int64) (H : Heap) (locs : List Loc), P_Ma_addLying_24 p1 p2 v_this_pitch v_this_outer v_this_inner v_this_across v_print_count v_print_cells post t0 → va_P (dC, dI) vwCl (w_Ma_addLying ad a_this a_spans a_leftOut a_print a_print_cells a_print_family a_print_yard a_print_columns a_print_rows a_print_line k_print_cells v_this_rounding v_this_toe v_this_heel v_this_side v_this_pitch v_this_outer v_this_inner v_this_across v_this_hole v_print_atHand v_print_count v_print_thermal v_print_density v_print_outerHigh v_print_pasteLeft v_print_pasteLow v_print_nameLength v_print_isWritten v_print_cells) H → va_D A (w_Ma_addLying ad a_this a_spans a_leftOut a_print a_print_cells a_print_family a_print_yard a_print_columns a_print_rows a_print_line k_print_cells v_this_rounding v_this_toe v_this_heel v_this_side v_this_pitch v_this_outer v_this_inner v_this_across v_this_hole v_print_atHand v_print_count v_print_thermal v_print_density v_print_outerHigh v_print_pasteLeft v_print_pasteLow v_print_nameLength v_print_isWritten v_print_cells) → va_S A s.heap H locs → ∀ ls : Array Slot, lv_has ls 8 [(0, .ref a_this), (1, .int p1), (2, .int p2)] → W p l e (headSpec wsMa_addLying { frames := 1, cells := 0, slots := 0, locals := 33 }).room s m args below meth c H locs 0 0 (MQ below (va_Qv (fun (u : Int32 × (Nat → Int64)) => post u.1 u.2) (zB (dC, dI) A (fun (u : Int32 × (Nat → Int64)) => (w_Ma_addLying ad a_this a_spans a_leftOut a_print a_print_cells a_print_family a_print_yard a_print_columns a_print_rows a_print_line k_print_cells v_this_rounding v_this_toe v_this_heel v_this_side v_this_pitch v_this_outer v_this_inner v_this_across v_this_hole v_print_atHand u.1 v_print_thermal v_print_density v_print_outerHigh v_print_pasteLeft v_print_pasteLow v_print_nameLength v_print_isWritten u.2))) A) args s 0 0 A) (F0 m 24 ls [.long t0]) := by
  obtain ⟨hx, hb, hr, hml, hown, hts, hlocks, hA⟩ := id C0
  intro t0 H locs h hP hD hS ls hl
  unfold P_Ma_addLying_24 at h
  refine lv_lstore_n (lv' := [(3, .long t0), (0, .ref a_this), (1, .int p1), (2, .int p2)]) hx hb dMa_addLying_24 rfl hl (by decide) rfl (fun ls hl => ?_)
  refine lv_iconst (v := 0) hx hb dMa_addLying_25 (by decide) ?_
  refine lv_istore (lv' := [(5, .int 0), (3, .long t0), (0, .ref a_this), (1, .int p1), (2, .int p2)]) hx hb dMa_addLying_26 hl (by decide) rfl (fun ls hl => ?_)
  obtain ⟨n1, h⟩ := h
  exact w_Ma_addLying_28 l C0 hE a_this a_spans a_leftOut a_print a_print_cells a_print_family a_print_yard a_print_columns a_print_rows a_print_line k_print_cells p1 p2 v_this_rounding v_this_toe v_this_heel v_this_side v_this_pitch v_this_outer v_this_inner v_this_across v_this_hole v_print_atHand v_print_count v_print_thermal v_print_density v_print_outerHigh v_print_pasteLeft v_print_pasteLow v_print_nameLength v_print_isWritten v_print_cells post hK n1 t0 0 v_print_count v_print_cells _ _ h hP hD hS ls (lv_sub hl [2, 3, 4, 1, 0] rfl)
def P_Ma_addLying (p1 : Int32) (p2 : Int32) (v_this_pitch : Int64) (v_this_outer : Int64) (v_this_inner : Int64) (v_this_across : Int64) (v_print_count : Int32) (v_print_cells : Nat → Int64) (post : Int32 → (Nat → Int64) → Prop) : Prop := ((p2 = 0 → P_Ma_addLying_24 p1 p2 v_this_pitch v_this_outer v_this_inner v_this_across v_print_count v_print_cells post ((-v_this_outer) / 2)) ∧ (¬ p2 = 0 → P_Ma_addLying_24 p1 p2 v_this_pitch v_this_outer v_this_inner v_this_across v_print_count v_print_cells post (v_this_inner / 2)))
set_option maxHeartbeats 4000000 in
set_option maxRecDepth 100000 in
theorem c_Ma_addLying (l : Launch) (dC : Nat → ClassId) (dI : Nat → Nat → Nat) (ad : Nat → Nat → Nat) (a_this : Nat) (a_spans : Nat) (a_leftOut : Nat) (a_print : Nat) (a_print_cells : Nat) (a_print_family : Nat) (a_print_yard : Nat) (a_print_columns : Nat) (a_print_rows : Nat) (a_print_line : Nat) (k_print_cells : ClassId) (sz : Nat) (p1 : Int32) (p2 : Int32) (v_this_rounding : Int64) (v_this_toe : Int64) (v_this_heel : Int64) (v_this_side : Int64) (v_this_pitch : Int64) (v_this_outer : Int64) (v_this_inner : Int64) (v_this_across : Int64) (v_this_hole : Int64) (v_print_atHand : Int32) (v_print_count : Int32) (v_print_thermal : Int32) (v_print_density : Int32) (v_print_outerHigh : Int64) (v_print_pasteLeft : Int64) (v_print_pasteLow : Int64) (v_print_nameLength : Int32) (v_print_isWritten : Int32) (v_print_cells : Nat → Int64) (post : Int32 → (Nat → Int64) → Prop) (h : P_Ma_addLying p1 p2 v_this_pitch v_this_outer v_this_inner v_this_across v_print_count v_print_cells post) : zMv l yMa_addLying wsMa_addLying { frames := 1, cells := 0, slots := 0, locals := 33 } (dC, dI) ad [.ref a_this, .int p1, .int p2] (w_Ma_addLying ad a_this a_spans a_leftOut a_print a_print_cells a_print_family a_print_yard a_print_columns a_print_rows a_print_line k_print_cells v_this_rounding v_this_toe v_this_heel v_this_side v_this_pitch v_this_outer v_this_inner v_this_across v_this_hole v_print_atHand v_print_count v_print_thermal v_print_density v_print_outerHigh v_print_pasteLeft v_print_pasteLow v_print_nameLength v_print_isWritten v_print_cells) [(k_print_cells, .long)] sz (fun (u : Int32 × (Nat → Int64)) => post u.1 u.2) (fun (u : Int32 × (Nat → Int64)) => (w_Ma_addLying ad a_this a_spans a_leftOut a_print a_print_cells a_print_family a_print_yard a_print_columns a_print_rows a_print_line k_print_cells v_this_rounding v_this_toe v_this_heel v_this_side v_this_pitch v_this_outer v_this_inner v_this_across v_this_hole v_print_atHand u.1 v_print_thermal v_print_density v_print_outerHigh v_print_pasteLeft v_print_pasteLow v_print_nameLength v_print_isWritten u.2)) 0 0 := by
  refine Met.ofW (cc := cMa_addLying) (maxL := 8) (ret := none) (by decide +kernel) rfl ?_
  intro p e s m args below meth c s₁ B hml hv
  obtain ⟨rfl, hsz, hP, hK, hD0, hE⟩ := hv
  have hx := B.exec
  have hb := B.bytes
  have hr := B.returns
  have hts0 := atoms_spec (ws := wsMa_addLying) B.pre
  have hts := fun w h => hts0 w (List.mem_cons_of_mem _ h)
  have hown : s.vm.findClass RMa = some m.cls := findClass_of_methodNamed B.named
  have hlocks := B.notSynchronized
  subst hsz
  have hD := hD0.self (sz := s.heap.size)
  generalize hAe : va_A (w_Ma_addLying ad a_this a_spans a_leftOut a_print a_print_cells a_print_family a_print_yard a_print_columns a_print_rows a_print_line k_print_cells v_this_rounding v_this_toe v_this_heel v_this_side v_this_pitch v_this_outer v_this_inner v_this_across v_this_hole v_print_atHand v_print_count v_print_thermal v_print_density v_print_outerHigh v_print_pasteLeft v_print_pasteLow v_print_nameLength v_print_isWritten v_print_cells) s.heap.size = A at hD hE ⊢
  have hA : ∀ q : Nat, s.heap.size ≤ q → A q := fun q h => by rw [← hAe]; exact Or.inr h
  have C0 := zC.mk hx hb hr hml hown hts hlocks hA
  have hS : va_S A s.heap s.heap [] := va_S.rf
  have hl := lv_entry ([.ref a_this, .int p1, .int p2]) (n := 8) (Nat.le_of_ble_eq_true rfl)
  rw [lg_entry_eq]
  generalize (lg_sl ([.ref a_this, .int p1, .int p2]) ++ List.replicate (8 - (lg_sl ([.ref a_this, .int p1, .int p2])).length) Slot.unset).toArray = ls at hl ⊢
  have hl : lv_has ls 8 [(0, .ref a_this), (1, .int p1), (2, .int p2)] := hl
  unfold P_Ma_addLying at h
  refine lv_iload_n hx hb dMa_addLying_0 rfl (lv_at hl 2 rfl) ?_
  refine lv_if_eq (tgt := 15) hx hb dMa_addLying_1 (by decide) ?_ ?_
  · intro c1
    replace h := h.1 c1
    refine lv_aload_n hx hb dMa_addLying_15 rfl (lv_at hl 0 rfl) ?_
    refine va_get (D := (dC, dI)) (ci := 4) (v := .long v_this_outer) (C := RMa) (T := TMa) (N := 12) hx hb hts inZ_Ma hown hK hP 0 rfl rfl 8 (by decide) (hts _ zw_342) (fun _ h9 => h9) rfl dMa_addLying_16 ?_
    refine lv_lneg hx hb dMa_addLying_19 ?_
    refine lv_ldc2 (own := RMa) (index := 129) (v := 2) hx hb hown (hts _ zw_735) dMa_addLying_20 ?_
    refine lv_ldiv hx hb dMa_addLying_23 (by decide) ?_
    exact w_Ma_addLying_24 l C0 hE a_this a_spans a_leftOut a_print a_print_cells a_print_family a_print_yard a_print_columns a_print_rows a_print_line k_print_cells p1 p2 v_this_rounding v_this_toe v_this_heel v_this_side v_this_pitch v_this_outer v_this_inner v_this_across v_this_hole v_print_atHand v_print_count v_print_thermal v_print_density v_print_outerHigh v_print_pasteLeft v_print_pasteLow v_print_nameLength v_print_isWritten v_print_cells post hK ((-v_this_outer) / 2) _ _ h hP hD hS ls (lv_sub hl [0, 1, 2] rfl)
  · intro c1
    replace h := h.2 c1
    refine lv_aload_n hx hb dMa_addLying_4 rfl (lv_at hl 0 rfl) ?_
    refine va_get (D := (dC, dI)) (ci := 4) (v := .long v_this_inner) (C := RMa) (T := TMa) (N := 12) hx hb hts inZ_Ma hown hK hP 0 rfl rfl 9 (by decide) (hts _ zw_343) (fun _ h9 => h9) rfl dMa_addLying_5 ?_
    refine lv_ldc2 (own := RMa) (index := 129) (v := 2) hx hb hown (hts _ zw_735) dMa_addLying_8 ?_
    refine lv_ldiv hx hb dMa_addLying_11 (by decide) ?_
    refine lv_goto (tgt := 24) hx hb dMa_addLying_12 (by decide) ?_
    exact w_Ma_addLying_24 l C0 hE a_this a_spans a_leftOut a_print a_print_cells a_print_family a_print_yard a_print_columns a_print_rows a_print_line k_print_cells p1 p2 v_this_rounding v_this_toe v_this_heel v_this_side v_this_pitch v_this_outer v_this_inner v_this_across v_this_hole v_print_atHand v_print_count v_print_thermal v_print_density v_print_outerHigh v_print_pasteLeft v_print_pasteLow v_print_nameLength v_print_isWritten v_print_cells post hK (v_this_inner / 2) _ _ h hP hD hS ls (lv_sub hl [0, 1, 2] rfl)
abbrev yMa_addThermal : MethodName := ⟨"FootprintRules$Maker", "addThermal", "()Z"⟩
abbrev cMa_addThermal : ByteArray := prog_10_method_16_code
abbrev wsMa_addThermal : List Cond := .code yMa_addThermal cMa_addThermal 5 (some .boolean) :: zT
set_option maxRecDepth 100000 in
theorem zc_Ma_addThermal : Cond.code yMa_addThermal cMa_addThermal 5 (some .boolean) ∈ zT := zm 804 (by rfl) (by rfl)
theorem dMa_addThermal_0 : decode cMa_addThermal 0 = .ok (.aload_n 0, 1) := by decide +kernel
theorem dMa_addThermal_1 : decode cMa_addThermal 1 = .ok (.getfield 12, 3) := by decide +kernel
theorem dMa_addThermal_4 : decode cMa_addThermal 4 = .ok (.bipush 8, 2) := by decide +kernel
theorem dMa_addThermal_6 : decode cMa_addThermal 6 = .ok (.invokevirtual 135, 3) := by decide +kernel
theorem dMa_addThermal_9 : decode cMa_addThermal 9 = .ok (.ifCond .eq 15, 3) := by decide +kernel
theorem dMa_addThermal_12 : decode cMa_addThermal 12 = .ok (.aload_n 0, 1) := by decide +kernel
theorem dMa_addThermal_13 : decode cMa_addThermal 13 = .ok (.getfield 12, 3) := by decide +kernel
theorem dMa_addThermal_16 : decode cMa_addThermal 16 = .ok (.bipush 9, 2) := by decide +kernel
theorem dMa_addThermal_18 : decode cMa_addThermal 18 = .ok (.invokevirtual 135, 3) := by decide +kernel
theorem dMa_addThermal_21 : decode cMa_addThermal 21 = .ok (.ifCond .ne 5, 3) := by decide +kernel
theorem dMa_addThermal_24 : decode cMa_addThermal 24 = .ok (.iconst 1, 1) := by decide +kernel
theorem dMa_addThermal_25 : decode cMa_addThermal 25 = .ok (.ireturn, 1) := by decide +kernel
theorem dMa_addThermal_26 : decode cMa_addThermal 26 = .ok (.aload_n 0, 1) := by decide +kernel
theorem dMa_addThermal_27 : decode cMa_addThermal 27 = .ok (.aload_n 0, 1) := by decide +kernel
theorem dMa_addThermal_28 : decode cMa_addThermal 28 = .ok (.getfield 12, 3) := by decide +kernel
theorem dMa_addThermal_31 : decode cMa_addThermal 31 = .ok (.bipush 8, 2) := by decide +kernel
theorem dMa_addThermal_33 : decode cMa_addThermal 33 = .ok (.invokevirtual 42, 3) := by decide +kernel
theorem dMa_addThermal_36 : decode cMa_addThermal 36 = .ok (.invokevirtual 138, 3) := by decide +kernel
theorem dMa_addThermal_39 : decode cMa_addThermal 39 = .ok (.lstore_n 1, 1) := by decide +kernel
theorem dMa_addThermal_40 : decode cMa_addThermal 40 = .ok (.aload_n 0, 1) := by decide +kernel
theorem dMa_addThermal_41 : decode cMa_addThermal 41 = .ok (.aload_n 0, 1) := by decide +kernel
theorem dMa_addThermal_42 : decode cMa_addThermal 42 = .ok (.getfield 12, 3) := by decide +kernel
theorem dMa_addThermal_45 : decode cMa_addThermal 45 = .ok (.bipush 9, 2) := by decide +kernel
theorem dMa_addThermal_47 : decode cMa_addThermal 47 = .ok (.invokevirtual 42, 3) := by decide +kernel
theorem dMa_addThermal_50 : decode cMa_addThermal 50 = .ok (.invokevirtual 138, 3) := by decide +kernel
theorem dMa_addThermal_53 : decode cMa_addThermal 53 = .ok (.lstore_n 3, 1) := by decide +kernel
theorem dMa_addThermal_54 : decode cMa_addThermal 54 = .ok (.lload_n 1, 1) := by decide +kernel
theorem dMa_addThermal_55 : decode cMa_addThermal 55 = .ok (.lconst 0, 1) := by decide +kernel
theorem dMa_addThermal_56 : decode cMa_addThermal 56 = .ok (.lcmp, 1) := by decide +kernel
theorem dMa_addThermal_57 : decode cMa_addThermal 57 = .ok (.ifCond .le 27, 3) := by decide +kernel
theorem dMa_addThermal_60 : decode cMa_addThermal 60 = .ok (.lload_n 1, 1) := by decide +kernel
theorem dMa_addThermal_61 : decode cMa_addThermal 61 = .ok (.aload_n 0, 1) := by decide +kernel
theorem dMa_addThermal_62 : decode cMa_addThermal 62 = .ok (.getfield 198, 3) := by decide +kernel
theorem dMa_addThermal_65 : decode cMa_addThermal 65 = .ok (.lcmp, 1) := by decide +kernel
theorem dMa_addThermal_66 : decode cMa_addThermal 66 = .ok (.ifCond .ge 18, 3) := by decide +kernel
theorem dMa_addThermal_69 : decode cMa_addThermal 69 = .ok (.lload_n 3, 1) := by decide +kernel
theorem dMa_addThermal_70 : decode cMa_addThermal 70 = .ok (.lconst 0, 1) := by decide +kernel
theorem dMa_addThermal_71 : decode cMa_addThermal 71 = .ok (.lcmp, 1) := by decide +kernel
theorem dMa_addThermal_72 : decode cMa_addThermal 72 = .ok (.ifCond .le 12, 3) := by decide +kernel
theorem dMa_addThermal_75 : decode cMa_addThermal 75 = .ok (.lload_n 3, 1) := by decide +kernel
theorem dMa_addThermal_76 : decode cMa_addThermal 76 = .ok (.aload_n 0, 1) := by decide +kernel
theorem dMa_addThermal_77 : decode cMa_addThermal 77 = .ok (.getfield 198, 3) := by decide +kernel
theorem dMa_addThermal_80 : decode cMa_addThermal 80 = .ok (.lcmp, 1) := by decide +kernel
theorem dMa_addThermal_81 : decode cMa_addThermal 81 = .ok (.ifCond .lt 5, 3) := by decide +kernel
theorem dMa_addThermal_84 : decode cMa_addThermal 84 = .ok (.iconst 0, 1) := by decide +kernel
theorem dMa_addThermal_85 : decode cMa_addThermal 85 = .ok (.ireturn, 1) := by decide +kernel
theorem dMa_addThermal_86 : decode cMa_addThermal 86 = .ok (.aload_n 0, 1) := by decide +kernel
theorem dMa_addThermal_87 : decode cMa_addThermal 87 = .ok (.getfield 25, 3) := by decide +kernel
theorem dMa_addThermal_90 : decode cMa_addThermal 90 = .ok (.aload_n 0, 1) := by decide +kernel
theorem dMa_addThermal_91 : decode cMa_addThermal 91 = .ok (.getfield 25, 3) := by decide +kernel
theorem dMa_addThermal_94 : decode cMa_addThermal 94 = .ok (.getfield 116, 3) := by decide +kernel
theorem dMa_addThermal_97 : decode cMa_addThermal 97 = .ok (.putfield 214, 3) := by decide +kernel
theorem dMa_addThermal_100 : decode cMa_addThermal 100 = .ok (.aload_n 0, 1) := by decide +kernel
theorem dMa_addThermal_101 : decode cMa_addThermal 101 = .ok (.getfield 25, 3) := by decide +kernel
theorem dMa_addThermal_104 : decode cMa_addThermal 104 = .ok (.aload_n 0, 1) := by decide +kernel
theorem dMa_addThermal_105 : decode cMa_addThermal 105 = .ok (.getfield 25, 3) := by decide +kernel
theorem dMa_addThermal_108 : decode cMa_addThermal 108 = .ok (.getfield 116, 3) := by decide +kernel
theorem dMa_addThermal_111 : decode cMa_addThermal 111 = .ok (.iconst 1, 1) := by decide +kernel
theorem dMa_addThermal_112 : decode cMa_addThermal 112 = .ok (.iadd, 1) := by decide +kernel
theorem dMa_addThermal_113 : decode cMa_addThermal 113 = .ok (.lload_n 1, 1) := by decide +kernel
theorem dMa_addThermal_114 : decode cMa_addThermal 114 = .ok (.lneg, 1) := by decide +kernel
theorem dMa_addThermal_115 : decode cMa_addThermal 115 = .ok (.ldc2_w 129, 3) := by decide +kernel
theorem dMa_addThermal_118 : decode cMa_addThermal 118 = .ok (.ldiv, 1) := by decide +kernel
theorem dMa_addThermal_119 : decode cMa_addThermal 119 = .ok (.lload_n 3, 1) := by decide +kernel
theorem dMa_addThermal_120 : decode cMa_addThermal 120 = .ok (.lneg, 1) := by decide +kernel
theorem dMa_addThermal_121 : decode cMa_addThermal 121 = .ok (.ldc2_w 129, 3) := by decide +kernel
theorem dMa_addThermal_124 : decode cMa_addThermal 124 = .ok (.ldiv, 1) := by decide +kernel
theorem dMa_addThermal_125 : decode cMa_addThermal 125 = .ok (.lload_n 1, 1) := by decide +kernel
theorem dMa_addThermal_126 : decode cMa_addThermal 126 = .ok (.lload_n 3, 1) := by decide +kernel
theorem dMa_addThermal_127 : decode cMa_addThermal 127 = .ok (.iconst 0, 1) := by decide +kernel
theorem dMa_addThermal_128 : decode cMa_addThermal 128 = .ok (.lconst 0, 1) := by decide +kernel
theorem dMa_addThermal_129 : decode cMa_addThermal 129 = .ok (.invokevirtual 156, 3) := by decide +kernel
theorem dMa_addThermal_132 : decode cMa_addThermal 132 = .ok (.iconst 1, 1) := by decide +kernel
theorem dMa_addThermal_133 : decode cMa_addThermal 133 = .ok (.ireturn, 1) := by decide +kernel
-- FootprintRules$Maker.addThermal()Z
abbrev w_Ma_addThermal (ad : Nat → Nat → Nat) (a_this : Nat) (a_spans : Nat) (a_leftOut : Nat) (a_print : Nat) (a_spans_lows : Nat) (a_spans_highs : Nat) (a_print_cells : Nat) (a_print_family : Nat) (a_print_yard : Nat) (a_print_columns : Nat) (a_print_rows : Nat) (a_print_line : Nat) (k_spans_highs : ClassId) (k_print_cells : ClassId) (v_this_rounding : Int64) (v_this_toe : Int64) (v_this_heel : Int64) (v_this_side : Int64) (v_this_pitch : Int64) (v_this_outer : Int64) (v_this_inner : Int64) (v_this_across : Int64) (v_this_hole : Int64) (v_spans_toldBits : Int32) (v_spans_exactBits : Int32) (v_spans_highs : Nat → Int64) (v_print_atHand : Int32) (v_print_count : Int32) (v_print_thermal : Int32) (v_print_density : Int32) (v_print_outerHigh : Int64) (v_print_pasteLeft : Int64) (v_print_pasteLow : Int64) (v_print_nameLength : Int32) (v_print_isWritten : Int32) (v_print_cells : Nat → Int64) : va_W := [(a_this, .inr (4, [.ref a_spans, .ref a_leftOut, .ref a_print, .long v_this_rounding, .long v_this_toe, .long v_this_heel, .long v_this_side, .long v_this_pitch, .long v_this_outer, .long v_this_inner, .long v_this_across, .long v_this_hole])), (a_spans, .inr (3, [.ref a_spans_lows, .ref a_spans_highs, .int v_spans_toldBits, .int v_spans_exactBits])), (a_spans_highs, .inl (k_spans_highs, 12, .inr (.inl v_spans_highs))), (a_print, .inr (6, [.int v_print_atHand, .ref a_print_cells, .int v_print_count, .int v_print_thermal, .ref a_print_family, .int v_print_density, .long v_print_outerHigh, .ref a_print_yard, .ref a_print_columns, .ref a_print_rows, .long v_print_pasteLeft, .long v_print_pasteLow, .ref a_print_line, .int v_print_nameLength, .int v_print_isWritten])), (a_print_cells, .inl (k_print_cells, 455, .inr (.inl v_print_cells)))]
def P_Ma_addThermal (v_this_rounding : Int64) (v_this_inner : Int64) (v_spans_toldBits : Int32) (v_spans_highs : Nat → Int64) (v_print_count : Int32) (v_print_thermal : Int32) (v_print_cells : Nat → Int64) (post : Int32 → Int32 → Int32 → (Nat → Int64) → Prop) : Prop := P_Sp_isTold 8 v_spans_toldBits (fun (r1 : Int32) => ((r1 = 0 → post 1 v_print_count v_print_thermal v_print_cells) ∧ (¬ r1 = 0 → P_Sp_isTold 9 v_spans_toldBits (fun (r3 : Int32) => ((¬ r3 = 0 → P_Sp_highOf 8 v_spans_toldBits v_spans_highs (fun (r5 : Int64) => P_Ma_upTwice r5 v_this_rounding (fun (r6 : Int64) => P_Sp_highOf 9 v_spans_toldBits v_spans_highs (fun (r7 : Int64) => P_Ma_upTwice r7 v_this_rounding (fun (r8 : Int64) => ((r6 ≤ 0 → post 0 v_print_count v_print_thermal v_print_cells) ∧ (¬ r6 ≤ 0 → ((v_this_inner ≤ r6 → post 0 v_print_count v_print_thermal v_print_cells) ∧ (¬ v_this_inner ≤ r6 → ((r8 ≤ 0 → post 0 v_print_count v_print_thermal v_print_cells) ∧ (¬ r8 ≤ 0 → ((r8 < v_this_inner → P_Fp_add (v_print_count + 1) ((-r6) / 2) ((-r8) / 2) r6 r8 0 0 v_print_count v_print_cells (fun (u13 : Int32) (u14 : Nat → Int64) => post 1 u13 v_print_count u14)) ∧ (¬ r8 < v_this_inner → post 0 v_print_count v_print_thermal v_print_cells))))))))))))) ∧ (r3 = 0 → post 1 v_print_count v_print_thermal v_print_cells))))))
set_option maxHeartbeats 4000000 in
set_option maxRecDepth 100000 in
theorem c_Ma_addThermal (l : Launch) (dC : Nat → ClassId) (dI : Nat → Nat → Nat) (ad : Nat → Nat → Nat) (a_this : Nat) (a_spans : Nat) (a_leftOut : Nat) (a_print : Nat) (a_spans_lows : Nat) (a_spans_highs : Nat) (a_print_cells : Nat) (a_print_family : Nat) (a_print_yard : Nat) (a_print_columns : Nat) (a_print_rows : Nat) (a_print_line : Nat) (k_spans_highs : ClassId) (k_print_cells : ClassId) (sz : Nat) (v_this_rounding : Int64) (v_this_toe : Int64) (v_this_heel : Int64) (v_this_side : Int64) (v_this_pitch : Int64) (v_this_outer : Int64) (v_this_inner : Int64) (v_this_across : Int64) (v_this_hole : Int64) (v_spans_toldBits : Int32) (v_spans_exactBits : Int32) (v_spans_highs : Nat → Int64) (v_print_atHand : Int32) (v_print_count : Int32) (v_print_thermal : Int32) (v_print_density : Int32) (v_print_outerHigh : Int64) (v_print_pasteLeft : Int64) (v_print_pasteLow : Int64) (v_print_nameLength : Int32) (v_print_isWritten : Int32) (v_print_cells : Nat → Int64) (post : Int32 → Int32 → Int32 → (Nat → Int64) → Prop) (h : P_Ma_addThermal v_this_rounding v_this_inner v_spans_toldBits v_spans_highs v_print_count v_print_thermal v_print_cells post) : zMi l yMa_addThermal wsMa_addThermal { frames := 3, cells := 0, slots := 0, locals := 70 } (dC, dI) ad [.ref a_this] (w_Ma_addThermal ad a_this a_spans a_leftOut a_print a_spans_lows a_spans_highs a_print_cells a_print_family a_print_yard a_print_columns a_print_rows a_print_line k_spans_highs k_print_cells v_this_rounding v_this_toe v_this_heel v_this_side v_this_pitch v_this_outer v_this_inner v_this_across v_this_hole v_spans_toldBits v_spans_exactBits v_spans_highs v_print_atHand v_print_count v_print_thermal v_print_density v_print_outerHigh v_print_pasteLeft v_print_pasteLow v_print_nameLength v_print_isWritten v_print_cells) [(k_spans_highs, .long), (k_print_cells, .long)] sz (fun (r : Int32) (u : Int32 × Int32 × (Nat → Int64)) => post r u.1 u.2.1 u.2.2) (fun (u : Int32 × Int32 × (Nat → Int64)) => (w_Ma_addThermal ad a_this a_spans a_leftOut a_print a_spans_lows a_spans_highs a_print_cells a_print_family a_print_yard a_print_columns a_print_rows a_print_line k_spans_highs k_print_cells v_this_rounding v_this_toe v_this_heel v_this_side v_this_pitch v_this_outer v_this_inner v_this_across v_this_hole v_spans_toldBits v_spans_exactBits v_spans_highs v_print_atHand u.1 u.2.1 v_print_density v_print_outerHigh v_print_pasteLeft v_print_pasteLow v_print_nameLength v_print_isWritten u.2.2)) 0 0 := by
  refine Met.ofW (cc := cMa_addThermal) (maxL := 5) (ret := (some .boolean)) (by decide +kernel) rfl ?_
  intro p e s m args below meth c s₁ B hml hv
  obtain ⟨rfl, hsz, hP, hK, hD0, hE⟩ := hv
  have hx := B.exec
  have hb := B.bytes
  have hr := B.returns
  have hts0 := atoms_spec (ws := wsMa_addThermal) B.pre
  have hts := fun w h => hts0 w (List.mem_cons_of_mem _ h)
  have hown : s.vm.findClass RMa = some m.cls := findClass_of_methodNamed B.named
  have hlocks := B.notSynchronized
  subst hsz
  have hD := hD0.self (sz := s.heap.size)
  generalize hAe : va_A (w_Ma_addThermal ad a_this a_spans a_leftOut a_print a_spans_lows a_spans_highs a_print_cells a_print_family a_print_yard a_print_columns a_print_rows a_print_line k_spans_highs k_print_cells v_this_rounding v_this_toe v_this_heel v_this_side v_this_pitch v_this_outer v_this_inner v_this_across v_this_hole v_spans_toldBits v_spans_exactBits v_spans_highs v_print_atHand v_print_count v_print_thermal v_print_density v_print_outerHigh v_print_pasteLeft v_print_pasteLow v_print_nameLength v_print_isWritten v_print_cells) s.heap.size = A at hD hE ⊢
  have hA : ∀ q : Nat, s.heap.size ≤ q → A q := fun q h => by rw [← hAe]; exact Or.inr h
  have C0 := zC.mk hx hb hr hml hown hts hlocks hA
  have hS : va_S A s.heap s.heap [] := va_S.rf
  have hl := lv_entry ([.ref a_this]) (n := 5) (Nat.le_of_ble_eq_true rfl)
  rw [lg_entry_eq]
  generalize (lg_sl ([.ref a_this]) ++ List.replicate (5 - (lg_sl ([.ref a_this])).length) Slot.unset).toArray = ls at hl ⊢
  have hl : lv_has ls 5 [(0, .ref a_this)] := hl
  unfold P_Ma_addThermal at h
  refine lv_aload_n hx hb dMa_addThermal_0 rfl (lv_at hl 0 rfl) ?_
  refine va_get (D := (dC, dI)) (ci := 4) (v := .ref a_spans) (C := RMa) (T := TMa) (N := 12) hx hb hts inZ_Ma hown hK hP 0 rfl rfl 0 (by decide) (hts _ zw_331) (fun _ h9 => h9) rfl dMa_addThermal_1 ?_
  refine lv_bipush (v := 8) hx hb dMa_addThermal_4 (by decide) ?_
  refine zcall_i hP hD hS hA [1] [0, 2, 3, 4] (va_runVN (As := [.int 8]) (rest := []) ⟨hx, hb, hml, hown, hts⟩ (c_Sp_isTold l dC dI ad a_spans a_spans_lows a_spans_highs _ 8 v_spans_toldBits v_spans_exactBits _ h) ⟨va_cnB 1 hts (zgood zc_Sp_isTold) rfl rfl rfl (hE.nw _ zn_805) (hts _ zw_100) (by decide +kernel) ⟨Nat.le_of_ble_eq_true rfl, Nat.le_of_ble_eq_true rfl⟩, (hts _ zw_698), (hts _ zw_25)⟩ (zpreV hE hK hP hD hS hA [1] [] (by rfl) (by rfl) (by decide) (ci := 3) (q0 := 1) rfl (by rfl)) rfl rfl hl.1 rfl (lv_room (Nat.le_of_ble_eq_true rfl)) dMa_addThermal_6 ⟨Nat.le_of_ble_eq_true rfl, Nat.le_of_ble_eq_true rfl⟩) (by rfl) (by rfl) (by decide) (by decide) (fun r1 u H locs h hP hD hS => ?_)
  try dsimp only at h
  have hP := hP.sub (ws' := (w_Ma_addThermal ad a_this a_spans a_leftOut a_print a_spans_lows a_spans_highs a_print_cells a_print_family a_print_yard a_print_columns a_print_rows a_print_line k_spans_highs k_print_cells v_this_rounding v_this_toe v_this_heel v_this_side v_this_pitch v_this_outer v_this_inner v_this_across v_this_hole v_spans_toldBits v_spans_exactBits v_spans_highs v_print_atHand v_print_count v_print_thermal v_print_density v_print_outerHigh v_print_pasteLeft v_print_pasteLow v_print_nameLength v_print_isWritten v_print_cells)) [0, 4, 1, 2, 3] rfl
  have hD := hD.sub (ws' := (w_Ma_addThermal ad a_this a_spans a_leftOut a_print a_spans_lows a_spans_highs a_print_cells a_print_family a_print_yard a_print_columns a_print_rows a_print_line k_spans_highs k_print_cells v_this_rounding v_this_toe v_this_heel v_this_side v_this_pitch v_this_outer v_this_inner v_this_across v_this_hole v_spans_toldBits v_spans_exactBits v_spans_highs v_print_atHand v_print_count v_print_thermal v_print_density v_print_outerHigh v_print_pasteLeft v_print_pasteLow v_print_nameLength v_print_isWritten v_print_cells)) [0, 4, 1, 2, 3] (by decide) rfl
  refine lv_if_eq (tgt := 24) hx hb dMa_addThermal_9 (by decide) ?_ ?_
  · intro c2
    replace h := h.1 c2
    refine lv_iconst (v := 1) hx hb dMa_addThermal_24 (by decide) ?_
    exact W.zret (v := 1) hx hb hr rfl (fun t ht hW => ⟨⟨1, (v_print_count, v_print_thermal, v_print_cells), rfl, h, by rw [ht]; exact hP, hD⟩, hS.F ht⟩) hS.2.2 dMa_addThermal_25
  · intro c2
    replace h := h.2 c2
    refine lv_aload_n hx hb dMa_addThermal_12 rfl (lv_at hl 0 rfl) ?_
    refine va_get (D := (dC, dI)) (ci := 4) (v := .ref a_spans) (C := RMa) (T := TMa) (N := 12) hx hb hts inZ_Ma hown hK hP 0 rfl rfl 0 (by decide) (hts _ zw_331) (fun _ h9 => h9) rfl dMa_addThermal_13 ?_
    refine lv_bipush (v := 9) hx hb dMa_addThermal_16 (by decide) ?_
    refine zcall_i hP hD hS hA [1] [0, 2, 3, 4] (va_runVN (As := [.int 9]) (rest := []) ⟨hx, hb, hml, hown, hts⟩ (c_Sp_isTold l dC dI ad a_spans a_spans_lows a_spans_highs _ 9 v_spans_toldBits v_spans_exactBits _ h) ⟨va_cnB 1 hts (zgood zc_Sp_isTold) rfl rfl rfl (hE.nw _ zn_805) (hts _ zw_100) (by decide +kernel) ⟨Nat.le_of_ble_eq_true rfl, Nat.le_of_ble_eq_true rfl⟩, (hts _ zw_698), (hts _ zw_25)⟩ (zpreV hE hK hP hD hS hA [1] [] (by rfl) (by rfl) (by decide) (ci := 3) (q0 := 1) rfl (by rfl)) rfl rfl hl.1 rfl (lv_room (Nat.le_of_ble_eq_true rfl)) dMa_addThermal_18 ⟨Nat.le_of_ble_eq_true rfl, Nat.le_of_ble_eq_true rfl⟩) (by rfl) (by rfl) (by decide) (by decide) (fun r3 u H locs h hP hD hS => ?_)
    try dsimp only at h
    have hP := hP.sub (ws' := (w_Ma_addThermal ad a_this a_spans a_leftOut a_print a_spans_lows a_spans_highs a_print_cells a_print_family a_print_yard a_print_columns a_print_rows a_print_line k_spans_highs k_print_cells v_this_rounding v_this_toe v_this_heel v_this_side v_this_pitch v_this_outer v_this_inner v_this_across v_this_hole v_spans_toldBits v_spans_exactBits v_spans_highs v_print_atHand v_print_count v_print_thermal v_print_density v_print_outerHigh v_print_pasteLeft v_print_pasteLow v_print_nameLength v_print_isWritten v_print_cells)) [0, 4, 1, 2, 3] rfl
    have hD := hD.sub (ws' := (w_Ma_addThermal ad a_this a_spans a_leftOut a_print a_spans_lows a_spans_highs a_print_cells a_print_family a_print_yard a_print_columns a_print_rows a_print_line k_spans_highs k_print_cells v_this_rounding v_this_toe v_this_heel v_this_side v_this_pitch v_this_outer v_this_inner v_this_across v_this_hole v_spans_toldBits v_spans_exactBits v_spans_highs v_print_atHand v_print_count v_print_thermal v_print_density v_print_outerHigh v_print_pasteLeft v_print_pasteLow v_print_nameLength v_print_isWritten v_print_cells)) [0, 4, 1, 2, 3] (by decide) rfl
    refine lv_if_ne (tgt := 26) hx hb dMa_addThermal_21 (by decide) ?_ ?_
    · intro c4
      replace h := h.1 c4
      refine lv_aload_n hx hb dMa_addThermal_26 rfl (lv_at hl 0 rfl) ?_
      refine lv_aload_n hx hb dMa_addThermal_27 rfl (lv_at hl 0 rfl) ?_
      refine va_get (D := (dC, dI)) (ci := 4) (v := .ref a_spans) (C := RMa) (T := TMa) (N := 12) hx hb hts inZ_Ma hown hK hP 0 rfl rfl 0 (by decide) (hts _ zw_331) (fun _ h9 => h9) rfl dMa_addThermal_28 ?_
      refine lv_bipush (v := 8) hx hb dMa_addThermal_31 (by decide) ?_
      refine zcall_l hP hD hS hA [1, 2] [0, 3, 4] (va_runVN (As := [.int 8]) (rest := [.ref a_this]) ⟨hx, hb, hml, hown, hts⟩ (c_Sp_highOf l dC dI ad a_spans a_spans_lows a_spans_highs k_spans_highs _ 8 v_spans_toldBits v_spans_exactBits v_spans_highs _ h) ⟨va_cnB 1 hts (zgood zc_Sp_highOf) rfl rfl rfl (hE.nw _ zn_692) (hts _ zw_100) (by decide +kernel) ⟨Nat.le_of_ble_eq_true rfl, Nat.le_of_ble_eq_true rfl⟩, (hts _ zw_694), (hts _ zw_24)⟩ (zpreV hE hK hP hD hS hA [1, 2] [0] (by rfl) (by rfl) (by decide) (ci := 3) (q0 := 1) rfl (by rfl)) rfl rfl hl.1 rfl (lv_room (Nat.le_of_ble_eq_true rfl)) dMa_addThermal_33 ⟨Nat.le_of_ble_eq_true rfl, Nat.le_of_ble_eq_true rfl⟩) (by rfl) (by rfl) (by decide) (by decide) (fun r5 u H locs h hP hD hS => ?_)
      try dsimp only at h
      have hP := hP.sub (ws' := (w_Ma_addThermal ad a_this a_spans a_leftOut a_print a_spans_lows a_spans_highs a_print_cells a_print_family a_print_yard a_print_columns a_print_rows a_print_line k_spans_highs k_print_cells v_this_rounding v_this_toe v_this_heel v_this_side v_this_pitch v_this_outer v_this_inner v_this_across v_this_hole v_spans_toldBits v_spans_exactBits v_spans_highs v_print_atHand v_print_count v_print_thermal v_print_density v_print_outerHigh v_print_pasteLeft v_print_pasteLow v_print_nameLength v_print_isWritten v_print_cells)) [0, 3, 4, 1, 2] rfl
      have hD := hD.sub (ws' := (w_Ma_addThermal ad a_this a_spans a_leftOut a_print a_spans_lows a_spans_highs a_print_cells a_print_family a_print_yard a_print_columns a_print_rows a_print_line k_spans_highs k_print_cells v_this_rounding v_this_toe v_this_heel v_this_side v_this_pitch v_this_outer v_this_inner v_this_across v_this_hole v_spans_toldBits v_spans_exactBits v_spans_highs v_print_atHand v_print_count v_print_thermal v_print_density v_print_outerHigh v_print_pasteLeft v_print_pasteLow v_print_nameLength v_print_isWritten v_print_cells)) [0, 3, 4, 1, 2] (by decide) rfl
      refine zcall_l hP hD hS hA [0] [1, 2, 3, 4] (va_runV (As := [.long r5]) (rest := []) ⟨hx, hb, hml, hown, hts⟩ (c_Ma_upTwice l dC dI ad a_this a_spans a_leftOut a_print _ r5 v_this_rounding v_this_toe v_this_heel v_this_side v_this_pitch v_this_outer v_this_inner v_this_across v_this_hole _ h) ⟨callB_of 1 hts (zgood zc_Ma_upTwice) rfl rfl rfl (hts _ zw_99) (hts _ zw_736) (by decide +kernel) ⟨Nat.le_of_ble_eq_true rfl, Nat.le_of_ble_eq_true rfl⟩, (hts _ zw_738), (hts _ zw_32)⟩ (zpreV hE hK hP hD hS hA [0] [] (by rfl) (by rfl) (by decide) (ci := 4) (q0 := 0) rfl (by rfl)) rfl rfl hl.1 rfl (lv_room (Nat.le_of_ble_eq_true rfl)) dMa_addThermal_36 ⟨Nat.le_of_ble_eq_true rfl, Nat.le_of_ble_eq_true rfl⟩) (by rfl) (by rfl) (by decide) (by decide) (fun r6 u H locs h hP hD hS => ?_)
      try dsimp only at h
      have hP := hP.sub (ws' := (w_Ma_addThermal ad a_this a_spans a_leftOut a_print a_spans_lows a_spans_highs a_print_cells a_print_family a_print_yard a_print_columns a_print_rows a_print_line k_spans_highs k_print_cells v_this_rounding v_this_toe v_this_heel v_this_side v_this_pitch v_this_outer v_this_inner v_this_across v_this_hole v_spans_toldBits v_spans_exactBits v_spans_highs v_print_atHand v_print_count v_print_thermal v_print_density v_print_outerHigh v_print_pasteLeft v_print_pasteLow v_print_nameLength v_print_isWritten v_print_cells)) [4, 0, 1, 2, 3] rfl
      have hD := hD.sub (ws' := (w_Ma_addThermal ad a_this a_spans a_leftOut a_print a_spans_lows a_spans_highs a_print_cells a_print_family a_print_yard a_print_columns a_print_rows a_print_line k_spans_highs k_print_cells v_this_rounding v_this_toe v_this_heel v_this_side v_this_pitch v_this_outer v_this_inner v_this_across v_this_hole v_spans_toldBits v_spans_exactBits v_spans_highs v_print_atHand v_print_count v_print_thermal v_print_density v_print_outerHigh v_print_pasteLeft v_print_pasteLow v_print_nameLength v_print_isWritten v_print_cells)) [4, 0, 1, 2, 3] (by decide) rfl
      refine lv_lstore_n (lv' := [(1, .long r6), (0, .ref a_this)]) hx hb dMa_addThermal_39 rfl hl (by decide) rfl (fun ls hl => ?_)
      refine lv_aload_n hx hb dMa_addThermal_40 rfl (lv_at hl 1 rfl) ?_
      refine lv_aload_n hx hb dMa_addThermal_41 rfl (lv_at hl 1 rfl) ?_
      refine va_get (D := (dC, dI)) (ci := 4) (v := .ref a_spans) (C := RMa) (T := TMa) (N := 12) hx hb hts inZ_Ma hown hK hP 0 rfl rfl 0 (by decide) (hts _ zw_331) (fun _ h9 => h9) rfl dMa_addThermal_42 ?_
      refine lv_bipush (v := 9) hx hb dMa_addThermal_45 (by decide) ?_
      refine zcall_l hP hD hS hA [1, 2] [0, 3, 4] (va_runVN (As := [.int 9]) (rest := [.ref a_this]) ⟨hx, hb, hml, hown, hts⟩ (c_Sp_highOf l dC dI ad a_spans a_spans_lows a_spans_highs k_spans_highs _ 9 v_spans_toldBits v_spans_exactBits v_spans_highs _ h) ⟨va_cnB 1 hts (zgood zc_Sp_highOf) rfl rfl rfl (hE.nw _ zn_692) (hts _ zw_100) (by decide +kernel) ⟨Nat.le_of_ble_eq_true rfl, Nat.le_of_ble_eq_true rfl⟩, (hts _ zw_694), (hts _ zw_24)⟩ (zpreV hE hK hP hD hS hA [1, 2] [0] (by rfl) (by rfl) (by decide) (ci := 3) (q0 := 1) rfl (by rfl)) rfl rfl hl.1 rfl (lv_room (Nat.le_of_ble_eq_true rfl)) dMa_addThermal_47 ⟨Nat.le_of_ble_eq_true rfl, Nat.le_of_ble_eq_true rfl⟩) (by rfl) (by rfl) (by decide) (by decide) (fun r7 u H locs h hP hD hS => ?_)
      try dsimp only at h
      have hP := hP.sub (ws' := (w_Ma_addThermal ad a_this a_spans a_leftOut a_print a_spans_lows a_spans_highs a_print_cells a_print_family a_print_yard a_print_columns a_print_rows a_print_line k_spans_highs k_print_cells v_this_rounding v_this_toe v_this_heel v_this_side v_this_pitch v_this_outer v_this_inner v_this_across v_this_hole v_spans_toldBits v_spans_exactBits v_spans_highs v_print_atHand v_print_count v_print_thermal v_print_density v_print_outerHigh v_print_pasteLeft v_print_pasteLow v_print_nameLength v_print_isWritten v_print_cells)) [0, 3, 4, 1, 2] rfl
      have hD := hD.sub (ws' := (w_Ma_addThermal ad a_this a_spans a_leftOut a_print a_spans_lows a_spans_highs a_print_cells a_print_family a_print_yard a_print_columns a_print_rows a_print_line k_spans_highs k_print_cells v_this_rounding v_this_toe v_this_heel v_this_side v_this_pitch v_this_outer v_this_inner v_this_across v_this_hole v_spans_toldBits v_spans_exactBits v_spans_highs v_print_atHand v_print_count v_print_thermal v_print_density v_print_outerHigh v_print_pasteLeft v_print_pasteLow v_print_nameLength v_print_isWritten v_print_cells)) [0, 3, 4, 1, 2] (by decide) rfl
      refine zcall_l hP hD hS hA [0] [1, 2, 3, 4] (va_runV (As := [.long r7]) (rest := []) ⟨hx, hb, hml, hown, hts⟩ (c_Ma_upTwice l dC dI ad a_this a_spans a_leftOut a_print _ r7 v_this_rounding v_this_toe v_this_heel v_this_side v_this_pitch v_this_outer v_this_inner v_this_across v_this_hole _ h) ⟨callB_of 1 hts (zgood zc_Ma_upTwice) rfl rfl rfl (hts _ zw_99) (hts _ zw_736) (by decide +kernel) ⟨Nat.le_of_ble_eq_true rfl, Nat.le_of_ble_eq_true rfl⟩, (hts _ zw_738), (hts _ zw_32)⟩ (zpreV hE hK hP hD hS hA [0] [] (by rfl) (by rfl) (by decide) (ci := 4) (q0 := 0) rfl (by rfl)) rfl rfl hl.1 rfl (lv_room (Nat.le_of_ble_eq_true rfl)) dMa_addThermal_50 ⟨Nat.le_of_ble_eq_true rfl, Nat.le_of_ble_eq_true rfl⟩) (by rfl) (by rfl) (by decide) (by decide) (fun r8 u H locs h hP hD hS => ?_)
      try dsimp only at h
      have hP := hP.sub (ws' := (w_Ma_addThermal ad a_this a_spans a_leftOut a_print a_spans_lows a_spans_highs a_print_cells a_print_family a_print_yard a_print_columns a_print_rows a_print_line k_spans_highs k_print_cells v_this_rounding v_this_toe v_this_heel v_this_side v_this_pitch v_this_outer v_this_inner v_this_across v_this_hole v_spans_toldBits v_spans_exactBits v_spans_highs v_print_atHand v_print_count v_print_thermal v_print_density v_print_outerHigh v_print_pasteLeft v_print_pasteLow v_print_nameLength v_print_isWritten v_print_cells)) [4, 0, 1, 2, 3] rfl
      have hD := hD.sub (ws' := (w_Ma_addThermal ad a_this a_spans a_leftOut a_print a_spans_lows a_spans_highs a_print_cells a_print_family a_print_yard a_print_columns a_print_rows a_print_line k_spans_highs k_print_cells v_this_rounding v_this_toe v_this_heel v_this_side v_this_pitch v_this_outer v_this_inner v_this_across v_this_hole v_spans_toldBits v_spans_exactBits v_spans_highs v_print_atHand v_print_count v_print_thermal v_print_density v_print_outerHigh v_print_pasteLeft v_print_pasteLow v_print_nameLength v_print_isWritten v_print_cells)) [4, 0, 1, 2, 3] (by decide) rfl
      refine lv_lstore_n (lv' := [(3, .long r8), (1, .long r6), (0, .ref a_this)]) hx hb dMa_addThermal_53 rfl hl (by decide) rfl (fun ls hl => ?_)
      refine lv_lload_n hx hb dMa_addThermal_54 rfl (lv_at hl 1 rfl) ?_
      refine lv_lconst (v := 0) hx hb dMa_addThermal_55 (by decide) ?_
      refine zz_lcmp_le (tgt := 84) hx hb dMa_addThermal_56 dMa_addThermal_57 (by decide) ?_ ?_
      · intro c9
        replace h := h.1 c9
        refine lv_iconst (v := 0) hx hb dMa_addThermal_84 (by decide) ?_
        exact W.zret (v := 0) hx hb hr rfl (fun t ht hW => ⟨⟨0, (v_print_count, v_print_thermal, v_print_cells), rfl, h, by rw [ht]; exact hP, hD⟩, hS.F ht⟩) hS.2.2 dMa_addThermal_85
      · intro c9
        replace h := h.2 c9
        refine lv_lload_n hx hb dMa_addThermal_60 rfl (lv_at hl 1 rfl) ?_
        refine lv_aload_n hx hb dMa_addThermal_61 rfl (lv_at hl 2 rfl) ?_
        refine va_get (D := (dC, dI)) (ci := 4) (v := .long v_this_inner) (C := RMa) (T := TMa) (N := 12) hx hb hts inZ_Ma hown hK hP 0 rfl rfl 9 (by decide) (hts _ zw_343) (fun _ h9 => h9) rfl dMa_addThermal_62 ?_
        refine zz_lcmp_ge (tgt := 84) hx hb dMa_addThermal_65 dMa_addThermal_66 (by decide) ?_ ?_
        · intro c10
          replace h := h.1 c10
          refine lv_iconst (v := 0) hx hb dMa_addThermal_84 (by decide) ?_
          exact W.zret (v := 0) hx hb hr rfl (fun t ht hW => ⟨⟨0, (v_print_count, v_print_thermal, v_print_cells), rfl, h, by rw [ht]; exact hP, hD⟩, hS.F ht⟩) hS.2.2 dMa_addThermal_85
        · intro c10
          replace h := h.2 c10
          refine lv_lload_n hx hb dMa_addThermal_69 rfl (lv_at hl 0 rfl) ?_
          refine lv_lconst (v := 0) hx hb dMa_addThermal_70 (by decide) ?_
          refine zz_lcmp_le (tgt := 84) hx hb dMa_addThermal_71 dMa_addThermal_72 (by decide) ?_ ?_
          · intro c11
            replace h := h.1 c11
            refine lv_iconst (v := 0) hx hb dMa_addThermal_84 (by decide) ?_
            exact W.zret (v := 0) hx hb hr rfl (fun t ht hW => ⟨⟨0, (v_print_count, v_print_thermal, v_print_cells), rfl, h, by rw [ht]; exact hP, hD⟩, hS.F ht⟩) hS.2.2 dMa_addThermal_85
          · intro c11
            replace h := h.2 c11
            refine lv_lload_n hx hb dMa_addThermal_75 rfl (lv_at hl 0 rfl) ?_
            refine lv_aload_n hx hb dMa_addThermal_76 rfl (lv_at hl 2 rfl) ?_
            refine va_get (D := (dC, dI)) (ci := 4) (v := .long v_this_inner) (C := RMa) (T := TMa) (N := 12) hx hb hts inZ_Ma hown hK hP 0 rfl rfl 9 (by decide) (hts _ zw_343) (fun _ h9 => h9) rfl dMa_addThermal_77 ?_
            refine zz_lcmp_lt (tgt := 86) hx hb dMa_addThermal_80 dMa_addThermal_81 (by decide) ?_ ?_
            · intro c12
              replace h := h.1 c12
              refine lv_aload_n hx hb dMa_addThermal_86 rfl (lv_at hl 2 rfl) ?_
              refine va_get (D := (dC, dI)) (ci := 4) (v := .ref a_print) (C := RMa) (T := TMa) (N := 12) hx hb hts inZ_Ma hown hK hP 0 rfl rfl 2 (by decide) (hts _ zw_335) (fun _ h9 => h9) rfl dMa_addThermal_87 ?_
              refine lv_aload_n hx hb dMa_addThermal_90 rfl (lv_at hl 2 rfl) ?_
              refine va_get (D := (dC, dI)) (ci := 4) (v := .ref a_print) (C := RMa) (T := TMa) (N := 12) hx hb hts inZ_Ma hown hK hP 0 rfl rfl 2 (by decide) (hts _ zw_335) (fun _ h9 => h9) rfl dMa_addThermal_91 ?_
              refine va_getN (D := (dC, dI)) (ci := 6) (v := .int v_print_count) (C := RFp) (T := TFp) (N := 15) hx hb hts inZ_Fp hown hK hP 3 rfl rfl 2 (by decide) ((hE.nw _ zn_283).use rfl) (fun _ h9 => h9) rfl dMa_addThermal_94 ?_
              refine va_putN (D := (dC, dI)) (ci := 6) (v := .int v_print_count) (ty := .int) (C := RFp) (T := TFp) (N := 15) hx hb hts inZ_Fp tyFp tyFp_ok nmFp hown hK hP hD hS 3 rfl rfl 3 (by decide) ((hE.nw _ zn_287).use rfl) (fun _ h9 => h9) rfl (by decide +kernel) rfl rfl (Nat.le_of_ble_eq_true rfl) dMa_addThermal_97 (fun H locs hP hD hS => ?_)
              have hP : va_P (dC, dI) vwCl (w_Ma_addThermal ad a_this a_spans a_leftOut a_print a_spans_lows a_spans_highs a_print_cells a_print_family a_print_yard a_print_columns a_print_rows a_print_line k_spans_highs k_print_cells v_this_rounding v_this_toe v_this_heel v_this_side v_this_pitch v_this_outer v_this_inner v_this_across v_this_hole v_spans_toldBits v_spans_exactBits v_spans_highs v_print_atHand v_print_count v_print_count v_print_density v_print_outerHigh v_print_pasteLeft v_print_pasteLow v_print_nameLength v_print_isWritten v_print_cells) H := hP
              have hD : va_D A (w_Ma_addThermal ad a_this a_spans a_leftOut a_print a_spans_lows a_spans_highs a_print_cells a_print_family a_print_yard a_print_columns a_print_rows a_print_line k_spans_highs k_print_cells v_this_rounding v_this_toe v_this_heel v_this_side v_this_pitch v_this_outer v_this_inner v_this_across v_this_hole v_spans_toldBits v_spans_exactBits v_spans_highs v_print_atHand v_print_count v_print_count v_print_density v_print_outerHigh v_print_pasteLeft v_print_pasteLow v_print_nameLength v_print_isWritten v_print_cells) := hD
              refine lv_aload_n hx hb dMa_addThermal_100 rfl (lv_at hl 2 rfl) ?_
              refine va_get (D := (dC, dI)) (ci := 4) (v := .ref a_print) (C := RMa) (T := TMa) (N := 12) hx hb hts inZ_Ma hown hK hP 0 rfl rfl 2 (by decide) (hts _ zw_335) (fun _ h9 => h9) rfl dMa_addThermal_101 ?_
              refine lv_aload_n hx hb dMa_addThermal_104 rfl (lv_at hl 2 rfl) ?_
              refine va_get (D := (dC, dI)) (ci := 4) (v := .ref a_print) (C := RMa) (T := TMa) (N := 12) hx hb hts inZ_Ma hown hK hP 0 rfl rfl 2 (by decide) (hts _ zw_335) (fun _ h9 => h9) rfl dMa_addThermal_105 ?_
              refine va_getN (D := (dC, dI)) (ci := 6) (v := .int v_print_count) (C := RFp) (T := TFp) (N := 15) hx hb hts inZ_Fp hown hK hP 3 rfl rfl 2 (by decide) ((hE.nw _ zn_283).use rfl) (fun _ h9 => h9) rfl dMa_addThermal_108 ?_
              refine lv_iconst (v := 1) hx hb dMa_addThermal_111 (by decide) ?_
              refine lv_iadd hx hb dMa_addThermal_112 ?_
              refine lv_lload_n hx hb dMa_addThermal_113 rfl (lv_at hl 1 rfl) ?_
              refine lv_lneg hx hb dMa_addThermal_114 ?_
              refine lv_ldc2 (own := RMa) (index := 129) (v := 2) hx hb hown (hts _ zw_735) dMa_addThermal_115 ?_
              refine lv_ldiv hx hb dMa_addThermal_118 (by decide) ?_
              refine lv_lload_n hx hb dMa_addThermal_119 rfl (lv_at hl 0 rfl) ?_
              refine lv_lneg hx hb dMa_addThermal_120 ?_
              refine lv_ldc2 (own := RMa) (index := 129) (v := 2) hx hb hown (hts _ zw_735) dMa_addThermal_121 ?_
              refine lv_ldiv hx hb dMa_addThermal_124 (by decide) ?_
              refine lv_lload_n hx hb dMa_addThermal_125 rfl (lv_at hl 1 rfl) ?_
              refine lv_lload_n hx hb dMa_addThermal_126 rfl (lv_at hl 0 rfl) ?_
              refine lv_iconst (v := 0) hx hb dMa_addThermal_127 (by decide) ?_
              refine lv_lconst (v := 0) hx hb dMa_addThermal_128 (by decide) ?_
              refine zcall_v hP hD hS hA [3, 4] [0, 1, 2] (va_runVN (As := [.int (v_print_count + 1), .long ((-r6) / 2), .long ((-r8) / 2), .long r6, .long r8, .int 0, .long 0]) (rest := []) ⟨hx, hb, hml, hown, hts⟩ (c_Fp_add l dC dI ad a_print a_print_cells a_print_family a_print_yard a_print_columns a_print_rows a_print_line k_print_cells _ (v_print_count + 1) ((-r6) / 2) ((-r8) / 2) r6 r8 0 0 v_print_atHand v_print_count v_print_count v_print_density v_print_outerHigh v_print_pasteLeft v_print_pasteLow v_print_nameLength v_print_isWritten v_print_cells _ h) ⟨va_cnB 7 hts (zgood zc_Fp_add) rfl rfl rfl (hE.nw _ zn_755) (hts _ zw_101) (by decide +kernel) ⟨Nat.le_of_ble_eq_true rfl, Nat.le_of_ble_eq_true rfl⟩, (hts _ zw_757), (hts _ zw_33)⟩ (zpreV hE hK hP hD hS hA [3, 4] [1] (by rfl) (by rfl) (by decide) (ci := 6) (q0 := 3) rfl (by rfl)) rfl rfl hl.1 rfl (lv_room (Nat.le_of_ble_eq_true rfl)) dMa_addThermal_129 ⟨Nat.le_of_ble_eq_true rfl, Nat.le_of_ble_eq_true rfl⟩) (by rfl) (by rfl) (by decide) (by decide) (fun u H locs h hP hD hS => ?_)
              obtain ⟨u13, u14⟩ := u
              try dsimp only at h
              have hP := hP.sub (ws' := (w_Ma_addThermal ad a_this a_spans a_leftOut a_print a_spans_lows a_spans_highs a_print_cells a_print_family a_print_yard a_print_columns a_print_rows a_print_line k_spans_highs k_print_cells v_this_rounding v_this_toe v_this_heel v_this_side v_this_pitch v_this_outer v_this_inner v_this_across v_this_hole v_spans_toldBits v_spans_exactBits v_spans_highs v_print_atHand u13 v_print_count v_print_density v_print_outerHigh v_print_pasteLeft v_print_pasteLow v_print_nameLength v_print_isWritten u14)) [0, 1, 2, 3, 4] rfl
              have hD := hD.sub (ws' := (w_Ma_addThermal ad a_this a_spans a_leftOut a_print a_spans_lows a_spans_highs a_print_cells a_print_family a_print_yard a_print_columns a_print_rows a_print_line k_spans_highs k_print_cells v_this_rounding v_this_toe v_this_heel v_this_side v_this_pitch v_this_outer v_this_inner v_this_across v_this_hole v_spans_toldBits v_spans_exactBits v_spans_highs v_print_atHand u13 v_print_count v_print_density v_print_outerHigh v_print_pasteLeft v_print_pasteLow v_print_nameLength v_print_isWritten u14)) [0, 1, 2, 3, 4] (by decide) rfl
              refine lv_iconst (v := 1) hx hb dMa_addThermal_132 (by decide) ?_
              exact W.zret (v := 1) hx hb hr rfl (fun t ht hW => ⟨⟨1, (u13, v_print_count, u14), rfl, h, by rw [ht]; exact hP, hD⟩, hS.F ht⟩) hS.2.2 dMa_addThermal_133
            · intro c12
              replace h := h.2 c12
              refine lv_iconst (v := 0) hx hb dMa_addThermal_84 (by decide) ?_
              exact W.zret (v := 0) hx hb hr rfl (fun t ht hW => ⟨⟨0, (v_print_count, v_print_thermal, v_print_cells), rfl, h, by rw [ht]; exact hP, hD⟩, hS.F ht⟩) hS.2.2 dMa_addThermal_85
    · intro c4
      replace h := h.2 c4
      refine lv_iconst (v := 1) hx hb dMa_addThermal_24 (by decide) ?_
      exact W.zret (v := 1) hx hb hr rfl (fun t ht hW => ⟨⟨1, (v_print_count, v_print_thermal, v_print_cells), rfl, h, by rw [ht]; exact hP, hD⟩, hS.F ht⟩) hS.2.2 dMa_addThermal_25
