abbrev yMa_makeSides : MethodName := ⟨"FootprintRules$Maker", "makeSides", "(LFootprintRules$Kind;)Z"⟩
abbrev cMa_makeSides : ByteArray := prog_10_method_9_code
abbrev wsMa_makeSides : List Cond := .code yMa_makeSides cMa_makeSides 4 (some .boolean) :: zT
set_option maxRecDepth 100000 in
theorem zc_Ma_makeSides : Cond.code yMa_makeSides cMa_makeSides 4 (some .boolean) ∈ zT := zm 762 (by rfl) (by rfl)
theorem dMa_makeSides_0 : decode cMa_makeSides 0 = .ok (.aload_n 1, 1) := by decide +kernel
theorem dMa_makeSides_1 : decode cMa_makeSides 1 = .ok (.getstatic 160, 3) := by decide +kernel
theorem dMa_makeSides_4 : decode cMa_makeSides 4 = .ok (.if_acmp .ne 10, 3) := by decide +kernel
theorem dMa_makeSides_7 : decode cMa_makeSides 7 = .ok (.aload_n 0, 1) := by decide +kernel
theorem dMa_makeSides_8 : decode cMa_makeSides 8 = .ok (.invokevirtual 163, 3) := by decide +kernel
theorem dMa_makeSides_11 : decode cMa_makeSides 11 = .ok (.goto 7, 3) := by decide +kernel
theorem dMa_makeSides_14 : decode cMa_makeSides 14 = .ok (.aload_n 0, 1) := by decide +kernel
theorem dMa_makeSides_15 : decode cMa_makeSides 15 = .ok (.invokevirtual 166, 3) := by decide +kernel
theorem dMa_makeSides_18 : decode cMa_makeSides 18 = .ok (.istore_n 2, 1) := by decide +kernel
theorem dMa_makeSides_19 : decode cMa_makeSides 19 = .ok (.iload_n 2, 1) := by decide +kernel
theorem dMa_makeSides_20 : decode cMa_makeSides 20 = .ok (.ifCond .eq 11, 3) := by decide +kernel
theorem dMa_makeSides_23 : decode cMa_makeSides 23 = .ok (.aload_n 0, 1) := by decide +kernel
theorem dMa_makeSides_24 : decode cMa_makeSides 24 = .ok (.aload_n 1, 1) := by decide +kernel
theorem dMa_makeSides_25 : decode cMa_makeSides 25 = .ok (.invokevirtual 169, 3) := by decide +kernel
theorem dMa_makeSides_28 : decode cMa_makeSides 28 = .ok (.ifCond .ne 5, 3) := by decide +kernel
theorem dMa_makeSides_31 : decode cMa_makeSides 31 = .ok (.iconst 0, 1) := by decide +kernel
theorem dMa_makeSides_32 : decode cMa_makeSides 32 = .ok (.ireturn, 1) := by decide +kernel
theorem dMa_makeSides_33 : decode cMa_makeSides 33 = .ok (.aload_n 0, 1) := by decide +kernel
theorem dMa_makeSides_34 : decode cMa_makeSides 34 = .ok (.aload_n 1, 1) := by decide +kernel
theorem dMa_makeSides_35 : decode cMa_makeSides 35 = .ok (.invokevirtual 172, 3) := by decide +kernel
theorem dMa_makeSides_38 : decode cMa_makeSides 38 = .ok (.istore_n 3, 1) := by decide +kernel
theorem dMa_makeSides_39 : decode cMa_makeSides 39 = .ok (.aload_n 1, 1) := by decide +kernel
theorem dMa_makeSides_40 : decode cMa_makeSides 40 = .ok (.getstatic 176, 3) := by decide +kernel
theorem dMa_makeSides_43 : decode cMa_makeSides 43 = .ok (.if_acmp .ne 32, 3) := by decide +kernel
theorem dMa_makeSides_46 : decode cMa_makeSides 46 = .ok (.aload_n 0, 1) := by decide +kernel
theorem dMa_makeSides_47 : decode cMa_makeSides 47 = .ok (.iload_n 3, 1) := by decide +kernel
theorem dMa_makeSides_48 : decode cMa_makeSides 48 = .ok (.iconst 1, 1) := by decide +kernel
theorem dMa_makeSides_49 : decode cMa_makeSides 49 = .ok (.invokevirtual 179, 3) := by decide +kernel
theorem dMa_makeSides_52 : decode cMa_makeSides 52 = .ok (.aload_n 0, 1) := by decide +kernel
theorem dMa_makeSides_53 : decode cMa_makeSides 53 = .ok (.iload_n 3, 1) := by decide +kernel
theorem dMa_makeSides_54 : decode cMa_makeSides 54 = .ok (.iconst 0, 1) := by decide +kernel
theorem dMa_makeSides_55 : decode cMa_makeSides 55 = .ok (.invokevirtual 183, 3) := by decide +kernel
theorem dMa_makeSides_58 : decode cMa_makeSides 58 = .ok (.aload_n 0, 1) := by decide +kernel
theorem dMa_makeSides_59 : decode cMa_makeSides 59 = .ok (.iload_n 3, 1) := by decide +kernel
theorem dMa_makeSides_60 : decode cMa_makeSides 60 = .ok (.iconst 0, 1) := by decide +kernel
theorem dMa_makeSides_61 : decode cMa_makeSides 61 = .ok (.invokevirtual 179, 3) := by decide +kernel
theorem dMa_makeSides_64 : decode cMa_makeSides 64 = .ok (.aload_n 0, 1) := by decide +kernel
theorem dMa_makeSides_65 : decode cMa_makeSides 65 = .ok (.iload_n 3, 1) := by decide +kernel
theorem dMa_makeSides_66 : decode cMa_makeSides 66 = .ok (.iconst 1, 1) := by decide +kernel
theorem dMa_makeSides_67 : decode cMa_makeSides 67 = .ok (.invokevirtual 183, 3) := by decide +kernel
theorem dMa_makeSides_70 : decode cMa_makeSides 70 = .ok (.aload_n 0, 1) := by decide +kernel
theorem dMa_makeSides_71 : decode cMa_makeSides 71 = .ok (.invokevirtual 186, 3) := by decide +kernel
theorem dMa_makeSides_74 : decode cMa_makeSides 74 = .ok (.ireturn, 1) := by decide +kernel
theorem dMa_makeSides_75 : decode cMa_makeSides 75 = .ok (.aload_n 0, 1) := by decide +kernel
theorem dMa_makeSides_76 : decode cMa_makeSides 76 = .ok (.iload_n 3, 1) := by decide +kernel
theorem dMa_makeSides_77 : decode cMa_makeSides 77 = .ok (.iconst 1, 1) := by decide +kernel
theorem dMa_makeSides_78 : decode cMa_makeSides 78 = .ok (.invokevirtual 179, 3) := by decide +kernel
theorem dMa_makeSides_81 : decode cMa_makeSides 81 = .ok (.aload_n 0, 1) := by decide +kernel
theorem dMa_makeSides_82 : decode cMa_makeSides 82 = .ok (.iload_n 3, 1) := by decide +kernel
theorem dMa_makeSides_83 : decode cMa_makeSides 83 = .ok (.iconst 0, 1) := by decide +kernel
theorem dMa_makeSides_84 : decode cMa_makeSides 84 = .ok (.invokevirtual 179, 3) := by decide +kernel
theorem dMa_makeSides_87 : decode cMa_makeSides 87 = .ok (.iconst 1, 1) := by decide +kernel
theorem dMa_makeSides_88 : decode cMa_makeSides 88 = .ok (.ireturn, 1) := by decide +kernel
-- FootprintRules$Maker.makeSides(LFootprintRules$Kind;)Z
abbrev w_Ma_makeSides (ad : Nat → Nat → Nat) (a_this : Nat) (a_spans : Nat) (a_leftOut : Nat) (a_print : Nat) (a_spans_lows : Nat) (a_spans_highs : Nat) (a_print_cells : Nat) (a_print_family : Nat) (a_print_yard : Nat) (a_print_columns : Nat) (a_print_rows : Nat) (a_print_line : Nat) (k_spans_highs : ClassId) (k_spans_lows : ClassId) (k_print_cells : ClassId) (v_this_rounding : Int64) (v_this_toe : Int64) (v_this_heel : Int64) (v_this_side : Int64) (v_this_pitch : Int64) (v_this_outer : Int64) (v_this_inner : Int64) (v_this_across : Int64) (v_this_hole : Int64) (v_spans_toldBits : Int32) (v_spans_exactBits : Int32) (v_spans_highs : Nat → Int64) (v_spans_lows : Nat → Int64) (v_print_atHand : Int32) (v_print_count : Int32) (v_print_thermal : Int32) (v_print_density : Int32) (v_print_outerHigh : Int64) (v_print_pasteLeft : Int64) (v_print_pasteLow : Int64) (v_print_nameLength : Int32) (v_print_isWritten : Int32) (v_print_cells : Nat → Int64) : va_W := [(a_this, .inr (4, [.ref a_spans, .ref a_leftOut, .ref a_print, .long v_this_rounding, .long v_this_toe, .long v_this_heel, .long v_this_side, .long v_this_pitch, .long v_this_outer, .long v_this_inner, .long v_this_across, .long v_this_hole])), (a_spans, .inr (3, [.ref a_spans_lows, .ref a_spans_highs, .int v_spans_toldBits, .int v_spans_exactBits])), (a_spans_highs, .inl (k_spans_highs, 12, .inr (.inl v_spans_highs))), (a_spans_lows, .inl (k_spans_lows, 12, .inr (.inl v_spans_lows))), (a_print, .inr (6, [.int v_print_atHand, .ref a_print_cells, .int v_print_count, .int v_print_thermal, .ref a_print_family, .int v_print_density, .long v_print_outerHigh, .ref a_print_yard, .ref a_print_columns, .ref a_print_rows, .long v_print_pasteLeft, .long v_print_pasteLow, .ref a_print_line, .int v_print_nameLength, .int v_print_isWritten])), (a_print_cells, .inl (k_print_cells, 455, .inr (.inl v_print_cells)))]
def P_Ma_makeSides_18 (p1 : Nat) (v_this_rounding : Int64) (v_this_pitch : Int64) (v_spans_toldBits : Int32) (v_spans_highs : Nat → Int64) (v_print_count : Int32) (v_print_thermal : Int32) (v_print_cells : Nat → Int64) (post : Int32 → Int64 → Int64 → Int64 → Int64 → Int32 → Int32 → (Nat → Int64) → Prop) (t0 : Int32) (u_this_outer : Int64) (u_this_inner : Int64) (u_this_across : Int64) (u_this_hole : Int64) : Prop := ((t0 = 0 → post 0 u_this_outer u_this_inner u_this_across u_this_hole v_print_count v_print_thermal v_print_cells) ∧ (¬ t0 = 0 → P_Ma_rowsFit p1 v_this_pitch u_this_outer u_this_inner u_this_across v_spans_toldBits v_spans_highs (fun (r2 : Int32) => ((¬ r2 = 0 → P_Ma_padsOfSide p1 v_spans_toldBits v_spans_highs (fun (r4 : Int32) => p1 < 5 ∧ ((¬ p1 = 2 → P_Ma_addUpright r4 1 v_this_pitch u_this_outer u_this_inner u_this_across u_this_hole v_print_count v_print_cells (fun (u7 : Int32) (u8 : Nat → Int64) => P_Ma_addUpright r4 0 v_this_pitch u_this_outer u_this_inner u_this_across u_this_hole u7 u8 (fun (u9 : Int32) (u10 : Nat → Int64) => post 1 u_this_outer u_this_inner u_this_across u_this_hole u9 v_print_thermal u10))) ∧ (p1 = 2 → P_Ma_addUpright r4 1 v_this_pitch u_this_outer u_this_inner u_this_across u_this_hole v_print_count v_print_cells (fun (u11 : Int32) (u12 : Nat → Int64) => P_Ma_addLying r4 0 v_this_pitch u_this_outer u_this_inner u_this_across u11 u12 (fun (u13 : Int32) (u14 : Nat → Int64) => P_Ma_addUpright r4 0 v_this_pitch u_this_outer u_this_inner u_this_across u_this_hole u13 u14 (fun (u15 : Int32) (u16 : Nat → Int64) => P_Ma_addLying r4 1 v_this_pitch u_this_outer u_this_inner u_this_across u15 u16 (fun (u17 : Int32) (u18 : Nat → Int64) => P_Ma_addThermal v_this_rounding u_this_inner v_spans_toldBits v_spans_highs u17 v_print_thermal u18 (fun (r22 : Int32) (u19 : Int32) (u20 : Int32) (u21 : Nat → Int64) => narrow .boolean (.int r22) = .int r22 ∧ post r22 u_this_outer u_this_inner u_this_across u_this_hole u19 u20 u21))))))))) ∧ (r2 = 0 → post 0 u_this_outer u_this_inner u_this_across u_this_hole v_print_count v_print_thermal v_print_cells)))))
set_option maxHeartbeats 4000000 in
set_option maxRecDepth 100000 in
theorem w_Ma_makeSides_18 (l : Launch) {p : Program} {e : Env} {s : State} {m : MethodId} {args : Array Value} {below : List Frame} {meth : Method} {c : Code} {dC : Nat → ClassId} {dI : Nat → Nat → Nat} {ad : Nat → Nat → Nat} {A : Nat → Prop} (C0 : zC p s m args meth c cMa_makeSides 4 RMa zT (some .boolean) A) (hE : zE ad A s) (a_this : Nat) (a_spans : Nat) (a_leftOut : Nat) (a_print : Nat) (a_spans_lows : Nat) (a_spans_highs : Nat) (a_print_cells : Nat) (a_print_family : Nat) (a_print_yard : Nat) (a_print_columns : Nat) (a_print_rows : Nat) (a_print_line : Nat) (k_spans_highs : ClassId) (k_spans_lows : ClassId) (k_print_cells : ClassId) (p1 : Nat) (v_this_rounding : Int64) (v_this_toe : Int64) (v_this_heel : Int64) (v_this_side : Int64) (v_this_pitch : Int64) (v_this_outer : Int64) (v_this_inner : Int64) (v_this_across : Int64) (v_this_hole : Int64) (v_spans_toldBits : Int32) (v_spans_exactBits : Int32) (v_spans_highs : Nat → Int64) (v_spans_lows : Nat → Int64) (v_print_atHand : Int32) (v_print_count : Int32) (v_print_thermal : Int32) (v_print_density : Int32) (v_print_outerHigh : Int64) (v_print_pasteLeft : Int64) (v_print_pasteLow : Int64) (v_print_nameLength : Int32) (v_print_isWritten : Int32) (v_print_cells : Nat → Int64) (post : Int32 → Int64 → Int64 → Int64 → Int64 → Int32 → Int32 → (Nat → Int64) → Prop) (hK : va_K (dC, dI) vwCl [(k_spans_highs, .long), (k_spans_lows, .long), (k_print_cells, .long)] s) : ∀ (t0 : Int32) (u_this_outer : Int64) (u_this_inner : Int64) (u_this_across : Int64) (u_this_hole : Int64) (H : Heap) (locs : List Loc), P_Ma_makeSides_18 p1 v_this_rounding v_this_pitch v_spans_toldBits v_spans_highs v_print_count v_print_thermal v_print_cells post t0 u_this_outer u_this_inner u_this_across u_this_hole → va_P (dC, dI) vwCl (w_Ma_makeSides ad a_this a_spans a_leftOut a_print a_spans_lows a_spans_highs a_print_cells a_print_family a_print_yard a_print_columns a_print_rows a_print_line k_spans_highs k_spans_lows k_print_cells v_this_rounding v_this_toe v_this_heel v_this_side v_this_pitch u_this_outer u_this_inner u_this_across u_this_hole v_spans_toldBits v_spans_exactBits v_spans_highs v_spans_lows v_print_atHand v_print_count v_print_thermal v_print_density v_print_outerHigh v_print_pasteLeft v_print_pasteLow v_print_nameLength v_print_isWritten v_print_cells) H → va_D A (w_Ma_makeSides ad a_this a_spans a_leftOut a_print a_spans_lows a_spans_highs a_print_cells a_print_family a_print_yard a_print_columns a_print_rows a_print_line k_spans_highs k_spans_lows k_print_cells v_this_rounding v_this_toe v_this_heel v_this_side v_this_pitch u_this_outer u_this_inner u_this_across u_this_hole v_spans_toldBits v_spans_exactBits v_spans_highs v_spans_lows v_print_atHand v_print_count v_print_thermal v_print_density v_print_outerHigh v_print_pasteLeft v_print_pasteLow v_print_nameLength v_print_isWritten v_print_cells) → va_S A s.heap H locs → ∀ ls : Array Slot, lv_has ls 4 [(0, .ref a_this), (1, .ref (ad 0 p1))] → W p l e (headSpec wsMa_makeSides { frames := 4, cells := 0, slots := 0, locals := 94 }).room s m args below meth c H locs 0 0 (MQ below (va_Qi (fun (r : Int32) (u : Int64 × Int64 × Int64 × Int64 × Int32 × Int32 × (Nat → Int64)) => post r u.1 u.2.1 u.2.2.1 u.2.2.2.1 u.2.2.2.2.1 u.2.2.2.2.2.1 u.2.2.2.2.2.2) (zB (dC, dI) A (fun (u : Int64 × Int64 × Int64 × Int64 × Int32 × Int32 × (Nat → Int64)) => (w_Ma_makeSides ad a_this a_spans a_leftOut a_print a_spans_lows a_spans_highs a_print_cells a_print_family a_print_yard a_print_columns a_print_rows a_print_line k_spans_highs k_spans_lows k_print_cells v_this_rounding v_this_toe v_this_heel v_this_side v_this_pitch u.1 u.2.1 u.2.2.1 u.2.2.2.1 v_spans_toldBits v_spans_exactBits v_spans_highs v_spans_lows v_print_atHand u.2.2.2.2.1 u.2.2.2.2.2.1 v_print_density v_print_outerHigh v_print_pasteLeft v_print_pasteLow v_print_nameLength v_print_isWritten u.2.2.2.2.2.2))) A) args s 0 0 A) (F0 m 18 ls [.int t0]) := by
  obtain ⟨hx, hb, hr, hml, hown, hts, hlocks, hA⟩ := id C0
  intro t0 u_this_outer u_this_inner u_this_across u_this_hole H locs h hP hD hS ls hl
  unfold P_Ma_makeSides_18 at h
  refine lv_istore_n (lv' := [(2, .int t0), (0, .ref a_this), (1, .ref (ad 0 p1))]) hx hb dMa_makeSides_18 rfl hl (by decide) rfl (fun ls hl => ?_)
  refine lv_iload_n hx hb dMa_makeSides_19 rfl (lv_at hl 0 rfl) ?_
  refine lv_if_eq (tgt := 31) hx hb dMa_makeSides_20 (by decide) ?_ ?_
  · intro c1
    replace h := h.1 c1
    refine lv_iconst (v := 0) hx hb dMa_makeSides_31 (by decide) ?_
    exact W.zret (v := 0) hx hb hr rfl (fun t ht hW => ⟨⟨0, (u_this_outer, u_this_inner, u_this_across, u_this_hole, v_print_count, v_print_thermal, v_print_cells), rfl, h, by rw [ht]; exact hP, hD⟩, hS.F ht⟩) hS.2.2 dMa_makeSides_32
  · intro c1
    replace h := h.2 c1
    refine lv_aload_n hx hb dMa_makeSides_23 rfl (lv_at hl 1 rfl) ?_
    refine lv_aload_n hx hb dMa_makeSides_24 rfl (lv_at hl 2 rfl) ?_
    refine zcall_i hP hD hS hA [0, 1, 2] [3, 4, 5] (va_runV (As := [.ref (ad 0 p1)]) (rest := []) ⟨hx, hb, hml, hown, hts⟩ (c_Ma_rowsFit l dC dI ad a_this a_spans a_leftOut a_print a_spans_lows a_spans_highs k_spans_highs _ p1 v_this_rounding v_this_toe v_this_heel v_this_side v_this_pitch u_this_outer u_this_inner u_this_across u_this_hole v_spans_toldBits v_spans_exactBits v_spans_highs _ h) ⟨callB_of 1 hts (zgood zc_Ma_rowsFit) rfl rfl rfl (hts _ zw_99) (hts _ zw_780) (by decide +kernel) ⟨Nat.le_of_ble_eq_true rfl, Nat.le_of_ble_eq_true rfl⟩, (hts _ zw_782), (hts _ zw_38)⟩ (zpreV hE hK hP hD hS hA [0, 1, 2] [0] (by rfl) (by rfl) (by decide) (ci := 4) (q0 := 0) rfl (by rfl)) rfl rfl hl.1 rfl (lv_room (Nat.le_of_ble_eq_true rfl)) dMa_makeSides_25 ⟨Nat.le_of_ble_eq_true rfl, Nat.le_of_ble_eq_true rfl⟩) (by rfl) (by rfl) (by decide) (by decide) (fun r2 u H locs h hP hD hS => ?_)
    try dsimp only at h
    have hP := hP.sub (ws' := (w_Ma_makeSides ad a_this a_spans a_leftOut a_print a_spans_lows a_spans_highs a_print_cells a_print_family a_print_yard a_print_columns a_print_rows a_print_line k_spans_highs k_spans_lows k_print_cells v_this_rounding v_this_toe v_this_heel v_this_side v_this_pitch u_this_outer u_this_inner u_this_across u_this_hole v_spans_toldBits v_spans_exactBits v_spans_highs v_spans_lows v_print_atHand v_print_count v_print_thermal v_print_density v_print_outerHigh v_print_pasteLeft v_print_pasteLow v_print_nameLength v_print_isWritten v_print_cells)) [3, 4, 5, 0, 1, 2] rfl
    have hD := hD.sub (ws' := (w_Ma_makeSides ad a_this a_spans a_leftOut a_print a_spans_lows a_spans_highs a_print_cells a_print_family a_print_yard a_print_columns a_print_rows a_print_line k_spans_highs k_spans_lows k_print_cells v_this_rounding v_this_toe v_this_heel v_this_side v_this_pitch u_this_outer u_this_inner u_this_across u_this_hole v_spans_toldBits v_spans_exactBits v_spans_highs v_spans_lows v_print_atHand v_print_count v_print_thermal v_print_density v_print_outerHigh v_print_pasteLeft v_print_pasteLow v_print_nameLength v_print_isWritten v_print_cells)) [3, 4, 5, 0, 1, 2] (by decide) rfl
    refine lv_if_ne (tgt := 33) hx hb dMa_makeSides_28 (by decide) ?_ ?_
    · intro c3
      replace h := h.1 c3
      refine lv_aload_n hx hb dMa_makeSides_33 rfl (lv_at hl 1 rfl) ?_
      refine lv_aload_n hx hb dMa_makeSides_34 rfl (lv_at hl 2 rfl) ?_
      refine zcall_i hP hD hS hA [0, 1, 2] [3, 4, 5] (va_runV (As := [.ref (ad 0 p1)]) (rest := []) ⟨hx, hb, hml, hown, hts⟩ (c_Ma_padsOfSide l dC dI ad a_this a_spans a_leftOut a_print a_spans_lows a_spans_highs k_spans_highs _ p1 v_this_rounding v_this_toe v_this_heel v_this_side v_this_pitch u_this_outer u_this_inner u_this_across u_this_hole v_spans_toldBits v_spans_exactBits v_spans_highs _ h) ⟨callB_of 1 hts (zgood zc_Ma_padsOfSide) rfl rfl rfl (hts _ zw_99) (hts _ zw_789) (by decide +kernel) ⟨Nat.le_of_ble_eq_true rfl, Nat.le_of_ble_eq_true rfl⟩, (hts _ zw_791), (hts _ zw_39)⟩ (zpreV hE hK hP hD hS hA [0, 1, 2] [0] (by rfl) (by rfl) (by decide) (ci := 4) (q0 := 0) rfl (by rfl)) rfl rfl hl.1 rfl (lv_room (Nat.le_of_ble_eq_true rfl)) dMa_makeSides_35 ⟨Nat.le_of_ble_eq_true rfl, Nat.le_of_ble_eq_true rfl⟩) (by rfl) (by rfl) (by decide) (by decide) (fun r4 u H locs h hP hD hS => ?_)
      try dsimp only at h
      have hP := hP.sub (ws' := (w_Ma_makeSides ad a_this a_spans a_leftOut a_print a_spans_lows a_spans_highs a_print_cells a_print_family a_print_yard a_print_columns a_print_rows a_print_line k_spans_highs k_spans_lows k_print_cells v_this_rounding v_this_toe v_this_heel v_this_side v_this_pitch u_this_outer u_this_inner u_this_across u_this_hole v_spans_toldBits v_spans_exactBits v_spans_highs v_spans_lows v_print_atHand v_print_count v_print_thermal v_print_density v_print_outerHigh v_print_pasteLeft v_print_pasteLow v_print_nameLength v_print_isWritten v_print_cells)) [3, 4, 5, 0, 1, 2] rfl
      have hD := hD.sub (ws' := (w_Ma_makeSides ad a_this a_spans a_leftOut a_print a_spans_lows a_spans_highs a_print_cells a_print_family a_print_yard a_print_columns a_print_rows a_print_line k_spans_highs k_spans_lows k_print_cells v_this_rounding v_this_toe v_this_heel v_this_side v_this_pitch u_this_outer u_this_inner u_this_across u_this_hole v_spans_toldBits v_spans_exactBits v_spans_highs v_spans_lows v_print_atHand v_print_count v_print_thermal v_print_density v_print_outerHigh v_print_pasteLeft v_print_pasteLow v_print_nameLength v_print_isWritten v_print_cells)) [3, 4, 5, 0, 1, 2] (by decide) rfl
      refine lv_istore_n (lv' := [(3, .int r4), (2, .int t0), (0, .ref a_this), (1, .ref (ad 0 p1))]) hx hb dMa_makeSides_38 rfl hl (by decide) rfl (fun ls hl => ?_)
      refine lv_aload_n hx hb dMa_makeSides_39 rfl (lv_at hl 3 rfl) ?_
      refine va_gets (C := "FootprintRules$Kind") (n := "LESS") (d := "LFootprintRules$Kind;") hx hb (hE.enKind.1 2 (by decide)).1 hS hown (hts _ zw_785) (fun _ h9 => h9) dMa_makeSides_40 ?_
      obtain ⟨hn5, h⟩ := h
      refine zz_acmp_ne (tgt := 75) hx hb dMa_makeSides_43 (by decide) (hE.inj_Kind hn5 (by decide)) ?_ ?_
      · intro c6
        replace h := h.1 c6
        refine lv_aload_n hx hb dMa_makeSides_75 rfl (lv_at hl 2 rfl) ?_
        refine lv_iload_n hx hb dMa_makeSides_76 rfl (lv_at hl 0 rfl) ?_
        refine lv_iconst (v := 1) hx hb dMa_makeSides_77 (by decide) ?_
        refine zcall_v hP hD hS hA [0, 4, 5] [1, 2, 3] (va_runV (As := [.int r4, .int 1]) (rest := []) ⟨hx, hb, hml, hown, hts⟩ (c_Ma_addUpright l dC dI ad a_this a_spans a_leftOut a_print a_print_cells a_print_family a_print_yard a_print_columns a_print_rows a_print_line k_print_cells _ r4 1 v_this_rounding v_this_toe v_this_heel v_this_side v_this_pitch u_this_outer u_this_inner u_this_across u_this_hole v_print_atHand v_print_count v_print_thermal v_print_density v_print_outerHigh v_print_pasteLeft v_print_pasteLow v_print_nameLength v_print_isWritten v_print_cells _ h) ⟨callB_of 2 hts (zgood zc_Ma_addUpright) rfl rfl rfl (hts _ zw_99) (hts _ zw_793) (by decide +kernel) ⟨Nat.le_of_ble_eq_true rfl, Nat.le_of_ble_eq_true rfl⟩, (hts _ zw_795), (hts _ zw_40)⟩ (zpreV hE hK hP hD hS hA [0, 4, 5] [2] (by rfl) (by rfl) (by decide) (ci := 4) (q0 := 0) rfl (by rfl)) rfl rfl hl.1 rfl (lv_room (Nat.le_of_ble_eq_true rfl)) dMa_makeSides_78 ⟨Nat.le_of_ble_eq_true rfl, Nat.le_of_ble_eq_true rfl⟩) (by rfl) (by rfl) (by decide) (by decide) (fun u H locs h hP hD hS => ?_)
        obtain ⟨u7, u8⟩ := u
        try dsimp only at h
        have hP := hP.sub (ws' := (w_Ma_makeSides ad a_this a_spans a_leftOut a_print a_spans_lows a_spans_highs a_print_cells a_print_family a_print_yard a_print_columns a_print_rows a_print_line k_spans_highs k_spans_lows k_print_cells v_this_rounding v_this_toe v_this_heel v_this_side v_this_pitch u_this_outer u_this_inner u_this_across u_this_hole v_spans_toldBits v_spans_exactBits v_spans_highs v_spans_lows v_print_atHand u7 v_print_thermal v_print_density v_print_outerHigh v_print_pasteLeft v_print_pasteLow v_print_nameLength v_print_isWritten u8)) [3, 0, 1, 2, 4, 5] rfl
        have hD := hD.sub (ws' := (w_Ma_makeSides ad a_this a_spans a_leftOut a_print a_spans_lows a_spans_highs a_print_cells a_print_family a_print_yard a_print_columns a_print_rows a_print_line k_spans_highs k_spans_lows k_print_cells v_this_rounding v_this_toe v_this_heel v_this_side v_this_pitch u_this_outer u_this_inner u_this_across u_this_hole v_spans_toldBits v_spans_exactBits v_spans_highs v_spans_lows v_print_atHand u7 v_print_thermal v_print_density v_print_outerHigh v_print_pasteLeft v_print_pasteLow v_print_nameLength v_print_isWritten u8)) [3, 0, 1, 2, 4, 5] (by decide) rfl
        refine lv_aload_n hx hb dMa_makeSides_81 rfl (lv_at hl 2 rfl) ?_
        refine lv_iload_n hx hb dMa_makeSides_82 rfl (lv_at hl 0 rfl) ?_
        refine lv_iconst (v := 0) hx hb dMa_makeSides_83 (by decide) ?_
        refine zcall_v hP hD hS hA [0, 4, 5] [1, 2, 3] (va_runV (As := [.int r4, .int 0]) (rest := []) ⟨hx, hb, hml, hown, hts⟩ (c_Ma_addUpright l dC dI ad a_this a_spans a_leftOut a_print a_print_cells a_print_family a_print_yard a_print_columns a_print_rows a_print_line k_print_cells _ r4 0 v_this_rounding v_this_toe v_this_heel v_this_side v_this_pitch u_this_outer u_this_inner u_this_across u_this_hole v_print_atHand u7 v_print_thermal v_print_density v_print_outerHigh v_print_pasteLeft v_print_pasteLow v_print_nameLength v_print_isWritten u8 _ h) ⟨callB_of 2 hts (zgood zc_Ma_addUpright) rfl rfl rfl (hts _ zw_99) (hts _ zw_793) (by decide +kernel) ⟨Nat.le_of_ble_eq_true rfl, Nat.le_of_ble_eq_true rfl⟩, (hts _ zw_795), (hts _ zw_40)⟩ (zpreV hE hK hP hD hS hA [0, 4, 5] [2] (by rfl) (by rfl) (by decide) (ci := 4) (q0 := 0) rfl (by rfl)) rfl rfl hl.1 rfl (lv_room (Nat.le_of_ble_eq_true rfl)) dMa_makeSides_84 ⟨Nat.le_of_ble_eq_true rfl, Nat.le_of_ble_eq_true rfl⟩) (by rfl) (by rfl) (by decide) (by decide) (fun u H locs h hP hD hS => ?_)
        obtain ⟨u9, u10⟩ := u
        try dsimp only at h
        have hP := hP.sub (ws' := (w_Ma_makeSides ad a_this a_spans a_leftOut a_print a_spans_lows a_spans_highs a_print_cells a_print_family a_print_yard a_print_columns a_print_rows a_print_line k_spans_highs k_spans_lows k_print_cells v_this_rounding v_this_toe v_this_heel v_this_side v_this_pitch u_this_outer u_this_inner u_this_across u_this_hole v_spans_toldBits v_spans_exactBits v_spans_highs v_spans_lows v_print_atHand u9 v_print_thermal v_print_density v_print_outerHigh v_print_pasteLeft v_print_pasteLow v_print_nameLength v_print_isWritten u10)) [3, 0, 1, 2, 4, 5] rfl
        have hD := hD.sub (ws' := (w_Ma_makeSides ad a_this a_spans a_leftOut a_print a_spans_lows a_spans_highs a_print_cells a_print_family a_print_yard a_print_columns a_print_rows a_print_line k_spans_highs k_spans_lows k_print_cells v_this_rounding v_this_toe v_this_heel v_this_side v_this_pitch u_this_outer u_this_inner u_this_across u_this_hole v_spans_toldBits v_spans_exactBits v_spans_highs v_spans_lows v_print_atHand u9 v_print_thermal v_print_density v_print_outerHigh v_print_pasteLeft v_print_pasteLow v_print_nameLength v_print_isWritten u10)) [3, 0, 1, 2, 4, 5] (by decide) rfl
        refine lv_iconst (v := 1) hx hb dMa_makeSides_87 (by decide) ?_
        exact W.zret (v := 1) hx hb hr rfl (fun t ht hW => ⟨⟨1, (u_this_outer, u_this_inner, u_this_across, u_this_hole, u9, v_print_thermal, u10), rfl, h, by rw [ht]; exact hP, hD⟩, hS.F ht⟩) hS.2.2 dMa_makeSides_88
      · intro c6
        replace h := h.2 c6
        refine lv_aload_n hx hb dMa_makeSides_46 rfl (lv_at hl 2 rfl) ?_
        refine lv_iload_n hx hb dMa_makeSides_47 rfl (lv_at hl 0 rfl) ?_
        refine lv_iconst (v := 1) hx hb dMa_makeSides_48 (by decide) ?_
        refine zcall_v hP hD hS hA [0, 4, 5] [1, 2, 3] (va_runV (As := [.int r4, .int 1]) (rest := []) ⟨hx, hb, hml, hown, hts⟩ (c_Ma_addUpright l dC dI ad a_this a_spans a_leftOut a_print a_print_cells a_print_family a_print_yard a_print_columns a_print_rows a_print_line k_print_cells _ r4 1 v_this_rounding v_this_toe v_this_heel v_this_side v_this_pitch u_this_outer u_this_inner u_this_across u_this_hole v_print_atHand v_print_count v_print_thermal v_print_density v_print_outerHigh v_print_pasteLeft v_print_pasteLow v_print_nameLength v_print_isWritten v_print_cells _ h) ⟨callB_of 2 hts (zgood zc_Ma_addUpright) rfl rfl rfl (hts _ zw_99) (hts _ zw_793) (by decide +kernel) ⟨Nat.le_of_ble_eq_true rfl, Nat.le_of_ble_eq_true rfl⟩, (hts _ zw_795), (hts _ zw_40)⟩ (zpreV hE hK hP hD hS hA [0, 4, 5] [2] (by rfl) (by rfl) (by decide) (ci := 4) (q0 := 0) rfl (by rfl)) rfl rfl hl.1 rfl (lv_room (Nat.le_of_ble_eq_true rfl)) dMa_makeSides_49 ⟨Nat.le_of_ble_eq_true rfl, Nat.le_of_ble_eq_true rfl⟩) (by rfl) (by rfl) (by decide) (by decide) (fun u H locs h hP hD hS => ?_)
        obtain ⟨u11, u12⟩ := u
        try dsimp only at h
        have hP := hP.sub (ws' := (w_Ma_makeSides ad a_this a_spans a_leftOut a_print a_spans_lows a_spans_highs a_print_cells a_print_family a_print_yard a_print_columns a_print_rows a_print_line k_spans_highs k_spans_lows k_print_cells v_this_rounding v_this_toe v_this_heel v_this_side v_this_pitch u_this_outer u_this_inner u_this_across u_this_hole v_spans_toldBits v_spans_exactBits v_spans_highs v_spans_lows v_print_atHand u11 v_print_thermal v_print_density v_print_outerHigh v_print_pasteLeft v_print_pasteLow v_print_nameLength v_print_isWritten u12)) [3, 0, 1, 2, 4, 5] rfl
        have hD := hD.sub (ws' := (w_Ma_makeSides ad a_this a_spans a_leftOut a_print a_spans_lows a_spans_highs a_print_cells a_print_family a_print_yard a_print_columns a_print_rows a_print_line k_spans_highs k_spans_lows k_print_cells v_this_rounding v_this_toe v_this_heel v_this_side v_this_pitch u_this_outer u_this_inner u_this_across u_this_hole v_spans_toldBits v_spans_exactBits v_spans_highs v_spans_lows v_print_atHand u11 v_print_thermal v_print_density v_print_outerHigh v_print_pasteLeft v_print_pasteLow v_print_nameLength v_print_isWritten u12)) [3, 0, 1, 2, 4, 5] (by decide) rfl
        refine lv_aload_n hx hb dMa_makeSides_52 rfl (lv_at hl 2 rfl) ?_
        refine lv_iload_n hx hb dMa_makeSides_53 rfl (lv_at hl 0 rfl) ?_
        refine lv_iconst (v := 0) hx hb dMa_makeSides_54 (by decide) ?_
        refine zcall_v hP hD hS hA [0, 4, 5] [1, 2, 3] (va_runV (As := [.int r4, .int 0]) (rest := []) ⟨hx, hb, hml, hown, hts⟩ (c_Ma_addLying l dC dI ad a_this a_spans a_leftOut a_print a_print_cells a_print_family a_print_yard a_print_columns a_print_rows a_print_line k_print_cells _ r4 0 v_this_rounding v_this_toe v_this_heel v_this_side v_this_pitch u_this_outer u_this_inner u_this_across u_this_hole v_print_atHand u11 v_print_thermal v_print_density v_print_outerHigh v_print_pasteLeft v_print_pasteLow v_print_nameLength v_print_isWritten u12 _ h) ⟨callB_of 2 hts (zgood zc_Ma_addLying) rfl rfl rfl (hts _ zw_99) (hts _ zw_797) (by decide +kernel) ⟨Nat.le_of_ble_eq_true rfl, Nat.le_of_ble_eq_true rfl⟩, (hts _ zw_799), (hts _ zw_41)⟩ (zpreV hE hK hP hD hS hA [0, 4, 5] [2] (by rfl) (by rfl) (by decide) (ci := 4) (q0 := 0) rfl (by rfl)) rfl rfl hl.1 rfl (lv_room (Nat.le_of_ble_eq_true rfl)) dMa_makeSides_55 ⟨Nat.le_of_ble_eq_true rfl, Nat.le_of_ble_eq_true rfl⟩) (by rfl) (by rfl) (by decide) (by decide) (fun u H locs h hP hD hS => ?_)
        obtain ⟨u13, u14⟩ := u
        try dsimp only at h
        have hP := hP.sub (ws' := (w_Ma_makeSides ad a_this a_spans a_leftOut a_print a_spans_lows a_spans_highs a_print_cells a_print_family a_print_yard a_print_columns a_print_rows a_print_line k_spans_highs k_spans_lows k_print_cells v_this_rounding v_this_toe v_this_heel v_this_side v_this_pitch u_this_outer u_this_inner u_this_across u_this_hole v_spans_toldBits v_spans_exactBits v_spans_highs v_spans_lows v_print_atHand u13 v_print_thermal v_print_density v_print_outerHigh v_print_pasteLeft v_print_pasteLow v_print_nameLength v_print_isWritten u14)) [3, 0, 1, 2, 4, 5] rfl
        have hD := hD.sub (ws' := (w_Ma_makeSides ad a_this a_spans a_leftOut a_print a_spans_lows a_spans_highs a_print_cells a_print_family a_print_yard a_print_columns a_print_rows a_print_line k_spans_highs k_spans_lows k_print_cells v_this_rounding v_this_toe v_this_heel v_this_side v_this_pitch u_this_outer u_this_inner u_this_across u_this_hole v_spans_toldBits v_spans_exactBits v_spans_highs v_spans_lows v_print_atHand u13 v_print_thermal v_print_density v_print_outerHigh v_print_pasteLeft v_print_pasteLow v_print_nameLength v_print_isWritten u14)) [3, 0, 1, 2, 4, 5] (by decide) rfl
        refine lv_aload_n hx hb dMa_makeSides_58 rfl (lv_at hl 2 rfl) ?_
        refine lv_iload_n hx hb dMa_makeSides_59 rfl (lv_at hl 0 rfl) ?_
        refine lv_iconst (v := 0) hx hb dMa_makeSides_60 (by decide) ?_
        refine zcall_v hP hD hS hA [0, 4, 5] [1, 2, 3] (va_runV (As := [.int r4, .int 0]) (rest := []) ⟨hx, hb, hml, hown, hts⟩ (c_Ma_addUpright l dC dI ad a_this a_spans a_leftOut a_print a_print_cells a_print_family a_print_yard a_print_columns a_print_rows a_print_line k_print_cells _ r4 0 v_this_rounding v_this_toe v_this_heel v_this_side v_this_pitch u_this_outer u_this_inner u_this_across u_this_hole v_print_atHand u13 v_print_thermal v_print_density v_print_outerHigh v_print_pasteLeft v_print_pasteLow v_print_nameLength v_print_isWritten u14 _ h) ⟨callB_of 2 hts (zgood zc_Ma_addUpright) rfl rfl rfl (hts _ zw_99) (hts _ zw_793) (by decide +kernel) ⟨Nat.le_of_ble_eq_true rfl, Nat.le_of_ble_eq_true rfl⟩, (hts _ zw_795), (hts _ zw_40)⟩ (zpreV hE hK hP hD hS hA [0, 4, 5] [2] (by rfl) (by rfl) (by decide) (ci := 4) (q0 := 0) rfl (by rfl)) rfl rfl hl.1 rfl (lv_room (Nat.le_of_ble_eq_true rfl)) dMa_makeSides_61 ⟨Nat.le_of_ble_eq_true rfl, Nat.le_of_ble_eq_true rfl⟩) (by rfl) (by rfl) (by decide) (by decide) (fun u H locs h hP hD hS => ?_)
        obtain ⟨u15, u16⟩ := u
        try dsimp only at h
        have hP := hP.sub (ws' := (w_Ma_makeSides ad a_this a_spans a_leftOut a_print a_spans_lows a_spans_highs a_print_cells a_print_family a_print_yard a_print_columns a_print_rows a_print_line k_spans_highs k_spans_lows k_print_cells v_this_rounding v_this_toe v_this_heel v_this_side v_this_pitch u_this_outer u_this_inner u_this_across u_this_hole v_spans_toldBits v_spans_exactBits v_spans_highs v_spans_lows v_print_atHand u15 v_print_thermal v_print_density v_print_outerHigh v_print_pasteLeft v_print_pasteLow v_print_nameLength v_print_isWritten u16)) [3, 0, 1, 2, 4, 5] rfl
        have hD := hD.sub (ws' := (w_Ma_makeSides ad a_this a_spans a_leftOut a_print a_spans_lows a_spans_highs a_print_cells a_print_family a_print_yard a_print_columns a_print_rows a_print_line k_spans_highs k_spans_lows k_print_cells v_this_rounding v_this_toe v_this_heel v_this_side v_this_pitch u_this_outer u_this_inner u_this_across u_this_hole v_spans_toldBits v_spans_exactBits v_spans_highs v_spans_lows v_print_atHand u15 v_print_thermal v_print_density v_print_outerHigh v_print_pasteLeft v_print_pasteLow v_print_nameLength v_print_isWritten u16)) [3, 0, 1, 2, 4, 5] (by decide) rfl
        refine lv_aload_n hx hb dMa_makeSides_64 rfl (lv_at hl 2 rfl) ?_
        refine lv_iload_n hx hb dMa_makeSides_65 rfl (lv_at hl 0 rfl) ?_
        refine lv_iconst (v := 1) hx hb dMa_makeSides_66 (by decide) ?_
        refine zcall_v hP hD hS hA [0, 4, 5] [1, 2, 3] (va_runV (As := [.int r4, .int 1]) (rest := []) ⟨hx, hb, hml, hown, hts⟩ (c_Ma_addLying l dC dI ad a_this a_spans a_leftOut a_print a_print_cells a_print_family a_print_yard a_print_columns a_print_rows a_print_line k_print_cells _ r4 1 v_this_rounding v_this_toe v_this_heel v_this_side v_this_pitch u_this_outer u_this_inner u_this_across u_this_hole v_print_atHand u15 v_print_thermal v_print_density v_print_outerHigh v_print_pasteLeft v_print_pasteLow v_print_nameLength v_print_isWritten u16 _ h) ⟨callB_of 2 hts (zgood zc_Ma_addLying) rfl rfl rfl (hts _ zw_99) (hts _ zw_797) (by decide +kernel) ⟨Nat.le_of_ble_eq_true rfl, Nat.le_of_ble_eq_true rfl⟩, (hts _ zw_799), (hts _ zw_41)⟩ (zpreV hE hK hP hD hS hA [0, 4, 5] [2] (by rfl) (by rfl) (by decide) (ci := 4) (q0 := 0) rfl (by rfl)) rfl rfl hl.1 rfl (lv_room (Nat.le_of_ble_eq_true rfl)) dMa_makeSides_67 ⟨Nat.le_of_ble_eq_true rfl, Nat.le_of_ble_eq_true rfl⟩) (by rfl) (by rfl) (by decide) (by decide) (fun u H locs h hP hD hS => ?_)
        obtain ⟨u17, u18⟩ := u
        try dsimp only at h
        have hP := hP.sub (ws' := (w_Ma_makeSides ad a_this a_spans a_leftOut a_print a_spans_lows a_spans_highs a_print_cells a_print_family a_print_yard a_print_columns a_print_rows a_print_line k_spans_highs k_spans_lows k_print_cells v_this_rounding v_this_toe v_this_heel v_this_side v_this_pitch u_this_outer u_this_inner u_this_across u_this_hole v_spans_toldBits v_spans_exactBits v_spans_highs v_spans_lows v_print_atHand u17 v_print_thermal v_print_density v_print_outerHigh v_print_pasteLeft v_print_pasteLow v_print_nameLength v_print_isWritten u18)) [3, 0, 1, 2, 4, 5] rfl
        have hD := hD.sub (ws' := (w_Ma_makeSides ad a_this a_spans a_leftOut a_print a_spans_lows a_spans_highs a_print_cells a_print_family a_print_yard a_print_columns a_print_rows a_print_line k_spans_highs k_spans_lows k_print_cells v_this_rounding v_this_toe v_this_heel v_this_side v_this_pitch u_this_outer u_this_inner u_this_across u_this_hole v_spans_toldBits v_spans_exactBits v_spans_highs v_spans_lows v_print_atHand u17 v_print_thermal v_print_density v_print_outerHigh v_print_pasteLeft v_print_pasteLow v_print_nameLength v_print_isWritten u18)) [3, 0, 1, 2, 4, 5] (by decide) rfl
        refine lv_aload_n hx hb dMa_makeSides_70 rfl (lv_at hl 2 rfl) ?_
        refine zcall_i hP hD hS hA [0, 1, 2, 4, 5] [3] (va_runV (As := []) (rest := []) ⟨hx, hb, hml, hown, hts⟩ (c_Ma_addThermal l dC dI ad a_this a_spans a_leftOut a_print a_spans_lows a_spans_highs a_print_cells a_print_family a_print_yard a_print_columns a_print_rows a_print_line k_spans_highs k_print_cells _ v_this_rounding v_this_toe v_this_heel v_this_side v_this_pitch u_this_outer u_this_inner u_this_across u_this_hole v_spans_toldBits v_spans_exactBits v_spans_highs v_print_atHand u17 v_print_thermal v_print_density v_print_outerHigh v_print_pasteLeft v_print_pasteLow v_print_nameLength v_print_isWritten u18 _ h) ⟨callB_of 0 hts (zgood zc_Ma_addThermal) rfl rfl rfl (hts _ zw_99) (hts _ zw_801) (by decide +kernel) ⟨Nat.le_of_ble_eq_true rfl, Nat.le_of_ble_eq_true rfl⟩, (hts _ zw_803), (hts _ zw_42)⟩ (zpreV hE hK hP hD hS hA [0, 1, 2, 4, 5] [0, 2] (by rfl) (by rfl) (by decide) (ci := 4) (q0 := 0) rfl (by rfl)) rfl rfl hl.1 rfl (lv_room (Nat.le_of_ble_eq_true rfl)) dMa_makeSides_71 ⟨Nat.le_of_ble_eq_true rfl, Nat.le_of_ble_eq_true rfl⟩) (by rfl) (by rfl) (by decide) (by decide) (fun r22 u H locs h hP hD hS => ?_)
        obtain ⟨u19, u20, u21⟩ := u
        try dsimp only at h
        have hP := hP.sub (ws' := (w_Ma_makeSides ad a_this a_spans a_leftOut a_print a_spans_lows a_spans_highs a_print_cells a_print_family a_print_yard a_print_columns a_print_rows a_print_line k_spans_highs k_spans_lows k_print_cells v_this_rounding v_this_toe v_this_heel v_this_side v_this_pitch u_this_outer u_this_inner u_this_across u_this_hole v_spans_toldBits v_spans_exactBits v_spans_highs v_spans_lows v_print_atHand u19 u20 v_print_density v_print_outerHigh v_print_pasteLeft v_print_pasteLow v_print_nameLength v_print_isWritten u21)) [1, 2, 3, 0, 4, 5] rfl
        have hD := hD.sub (ws' := (w_Ma_makeSides ad a_this a_spans a_leftOut a_print a_spans_lows a_spans_highs a_print_cells a_print_family a_print_yard a_print_columns a_print_rows a_print_line k_spans_highs k_spans_lows k_print_cells v_this_rounding v_this_toe v_this_heel v_this_side v_this_pitch u_this_outer u_this_inner u_this_across u_this_hole v_spans_toldBits v_spans_exactBits v_spans_highs v_spans_lows v_print_atHand u19 u20 v_print_density v_print_outerHigh v_print_pasteLeft v_print_pasteLow v_print_nameLength v_print_isWritten u21)) [1, 2, 3, 0, 4, 5] (by decide) rfl
        obtain ⟨hn23, h⟩ := h
        exact W.zret (v := r22) hx hb hr hn23 (fun t ht hW => ⟨⟨r22, (u_this_outer, u_this_inner, u_this_across, u_this_hole, u19, u20, u21), rfl, h, by rw [ht]; exact hP, hD⟩, hS.F ht⟩) hS.2.2 dMa_makeSides_74
    · intro c3
      replace h := h.2 c3
      refine lv_iconst (v := 0) hx hb dMa_makeSides_31 (by decide) ?_
      exact W.zret (v := 0) hx hb hr rfl (fun t ht hW => ⟨⟨0, (u_this_outer, u_this_inner, u_this_across, u_this_hole, v_print_count, v_print_thermal, v_print_cells), rfl, h, by rw [ht]; exact hP, hD⟩, hS.F ht⟩) hS.2.2 dMa_makeSides_32
def P_Ma_makeSides (p1 : Nat) (v_this_rounding : Int64) (v_this_toe : Int64) (v_this_heel : Int64) (v_this_side : Int64) (v_this_pitch : Int64) (v_spans_toldBits : Int32) (v_spans_highs : Nat → Int64) (v_spans_lows : Nat → Int64) (v_print_count : Int32) (v_print_thermal : Int32) (v_print_cells : Nat → Int64) (post : Int32 → Int64 → Int64 → Int64 → Int64 → Int32 → Int32 → (Nat → Int64) → Prop) : Prop := p1 < 5 ∧ ((¬ p1 = 4 → P_Ma_sizeFlat v_this_rounding v_this_toe v_this_heel v_this_side v_spans_toldBits v_spans_highs v_spans_lows (fun (r7 : Int32) (u3 : Int64) (u4 : Int64) (u5 : Int64) (u6 : Int64) => P_Ma_makeSides_18 p1 v_this_rounding v_this_pitch v_spans_toldBits v_spans_highs v_print_count v_print_thermal v_print_cells post r7 u3 u4 u5 u6)) ∧ (p1 = 4 → P_Ma_sizeHoles v_this_rounding v_this_heel v_this_side v_spans_toldBits v_spans_highs (fun (r12 : Int32) (u8 : Int64) (u9 : Int64) (u10 : Int64) (u11 : Int64) => P_Ma_makeSides_18 p1 v_this_rounding v_this_pitch v_spans_toldBits v_spans_highs v_print_count v_print_thermal v_print_cells post r12 u8 u9 u10 u11)))
set_option maxHeartbeats 4000000 in
set_option maxRecDepth 100000 in
theorem c_Ma_makeSides (l : Launch) (dC : Nat → ClassId) (dI : Nat → Nat → Nat) (ad : Nat → Nat → Nat) (a_this : Nat) (a_spans : Nat) (a_leftOut : Nat) (a_print : Nat) (a_spans_lows : Nat) (a_spans_highs : Nat) (a_print_cells : Nat) (a_print_family : Nat) (a_print_yard : Nat) (a_print_columns : Nat) (a_print_rows : Nat) (a_print_line : Nat) (k_spans_highs : ClassId) (k_spans_lows : ClassId) (k_print_cells : ClassId) (sz : Nat) (p1 : Nat) (v_this_rounding : Int64) (v_this_toe : Int64) (v_this_heel : Int64) (v_this_side : Int64) (v_this_pitch : Int64) (v_this_outer : Int64) (v_this_inner : Int64) (v_this_across : Int64) (v_this_hole : Int64) (v_spans_toldBits : Int32) (v_spans_exactBits : Int32) (v_spans_highs : Nat → Int64) (v_spans_lows : Nat → Int64) (v_print_atHand : Int32) (v_print_count : Int32) (v_print_thermal : Int32) (v_print_density : Int32) (v_print_outerHigh : Int64) (v_print_pasteLeft : Int64) (v_print_pasteLow : Int64) (v_print_nameLength : Int32) (v_print_isWritten : Int32) (v_print_cells : Nat → Int64) (post : Int32 → Int64 → Int64 → Int64 → Int64 → Int32 → Int32 → (Nat → Int64) → Prop) (h : P_Ma_makeSides p1 v_this_rounding v_this_toe v_this_heel v_this_side v_this_pitch v_spans_toldBits v_spans_highs v_spans_lows v_print_count v_print_thermal v_print_cells post) : zMi l yMa_makeSides wsMa_makeSides { frames := 4, cells := 0, slots := 0, locals := 94 } (dC, dI) ad [.ref a_this, .ref (ad 0 p1)] (w_Ma_makeSides ad a_this a_spans a_leftOut a_print a_spans_lows a_spans_highs a_print_cells a_print_family a_print_yard a_print_columns a_print_rows a_print_line k_spans_highs k_spans_lows k_print_cells v_this_rounding v_this_toe v_this_heel v_this_side v_this_pitch v_this_outer v_this_inner v_this_across v_this_hole v_spans_toldBits v_spans_exactBits v_spans_highs v_spans_lows v_print_atHand v_print_count v_print_thermal v_print_density v_print_outerHigh v_print_pasteLeft v_print_pasteLow v_print_nameLength v_print_isWritten v_print_cells) [(k_spans_highs, .long), (k_spans_lows, .long), (k_print_cells, .long)] sz (fun (r : Int32) (u : Int64 × Int64 × Int64 × Int64 × Int32 × Int32 × (Nat → Int64)) => post r u.1 u.2.1 u.2.2.1 u.2.2.2.1 u.2.2.2.2.1 u.2.2.2.2.2.1 u.2.2.2.2.2.2) (fun (u : Int64 × Int64 × Int64 × Int64 × Int32 × Int32 × (Nat → Int64)) => (w_Ma_makeSides ad a_this a_spans a_leftOut a_print a_spans_lows a_spans_highs a_print_cells a_print_family a_print_yard a_print_columns a_print_rows a_print_line k_spans_highs k_spans_lows k_print_cells v_this_rounding v_this_toe v_this_heel v_this_side v_this_pitch u.1 u.2.1 u.2.2.1 u.2.2.2.1 v_spans_toldBits v_spans_exactBits v_spans_highs v_spans_lows v_print_atHand u.2.2.2.2.1 u.2.2.2.2.2.1 v_print_density v_print_outerHigh v_print_pasteLeft v_print_pasteLow v_print_nameLength v_print_isWritten u.2.2.2.2.2.2)) 0 0 := by
  refine Met.ofW (cc := cMa_makeSides) (maxL := 4) (ret := (some .boolean)) (by decide +kernel) rfl ?_
  intro p e s m args below meth c s₁ B hml hv
  obtain ⟨rfl, hsz, hP, hK, hD0, hE⟩ := hv
  have hx := B.exec
  have hb := B.bytes
  have hr := B.returns
  have hts0 := atoms_spec (ws := wsMa_makeSides) B.pre
  have hts := fun w h => hts0 w (List.mem_cons_of_mem _ h)
  have hown : s.vm.findClass RMa = some m.cls := findClass_of_methodNamed B.named
  have hlocks := B.notSynchronized
  subst hsz
  have hD := hD0.self (sz := s.heap.size)
  generalize hAe : va_A (w_Ma_makeSides ad a_this a_spans a_leftOut a_print a_spans_lows a_spans_highs a_print_cells a_print_family a_print_yard a_print_columns a_print_rows a_print_line k_spans_highs k_spans_lows k_print_cells v_this_rounding v_this_toe v_this_heel v_this_side v_this_pitch v_this_outer v_this_inner v_this_across v_this_hole v_spans_toldBits v_spans_exactBits v_spans_highs v_spans_lows v_print_atHand v_print_count v_print_thermal v_print_density v_print_outerHigh v_print_pasteLeft v_print_pasteLow v_print_nameLength v_print_isWritten v_print_cells) s.heap.size = A at hD hE ⊢
  have hA : ∀ q : Nat, s.heap.size ≤ q → A q := fun q h => by rw [← hAe]; exact Or.inr h
  have C0 := zC.mk hx hb hr hml hown hts hlocks hA
  have hS : va_S A s.heap s.heap [] := va_S.rf
  have hl := lv_entry ([.ref a_this, .ref (ad 0 p1)]) (n := 4) (Nat.le_of_ble_eq_true rfl)
  rw [lg_entry_eq]
  generalize (lg_sl ([.ref a_this, .ref (ad 0 p1)]) ++ List.replicate (4 - (lg_sl ([.ref a_this, .ref (ad 0 p1)])).length) Slot.unset).toArray = ls at hl ⊢
  have hl : lv_has ls 4 [(0, .ref a_this), (1, .ref (ad 0 p1))] := hl
  unfold P_Ma_makeSides at h
  refine lv_aload_n hx hb dMa_makeSides_0 rfl (lv_at hl 1 rfl) ?_
  refine va_gets (C := "FootprintRules$Kind") (n := "HOLES") (d := "LFootprintRules$Kind;") hx hb (hE.enKind.1 4 (by decide)).1 hS hown (hts _ zw_763) (fun _ h9 => h9) dMa_makeSides_1 ?_
  obtain ⟨hn1, h⟩ := h
  refine zz_acmp_ne (tgt := 14) hx hb dMa_makeSides_4 (by decide) (hE.inj_Kind hn1 (by decide)) ?_ ?_
  · intro c2
    replace h := h.1 c2
    refine lv_aload_n hx hb dMa_makeSides_14 rfl (lv_at hl 0 rfl) ?_
    refine zcall_i hP hD hS hA [0, 1, 2, 3] [4, 5] (va_runV (As := []) (rest := []) ⟨hx, hb, hml, hown, hts⟩ (c_Ma_sizeFlat l dC dI ad a_this a_spans a_leftOut a_print a_spans_lows a_spans_highs k_spans_highs k_spans_lows _ v_this_rounding v_this_toe v_this_heel v_this_side v_this_pitch v_this_outer v_this_inner v_this_across v_this_hole v_spans_toldBits v_spans_exactBits v_spans_highs v_spans_lows _ h) ⟨callB_of 0 hts (zgood zc_Ma_sizeFlat) rfl rfl rfl (hts _ zw_99) (hts _ zw_769) (by decide +kernel) ⟨Nat.le_of_ble_eq_true rfl, Nat.le_of_ble_eq_true rfl⟩, (hts _ zw_771), (hts _ zw_36)⟩ (zpreV hE hK hP hD hS hA [0, 1, 2, 3] [0, 1] (by rfl) (by rfl) (by decide) (ci := 4) (q0 := 0) rfl (by rfl)) rfl rfl hl.1 rfl (lv_room (Nat.le_of_ble_eq_true rfl)) dMa_makeSides_15 ⟨Nat.le_of_ble_eq_true rfl, Nat.le_of_ble_eq_true rfl⟩) (by rfl) (by rfl) (by decide) (by decide) (fun r7 u H locs h hP hD hS => ?_)
    obtain ⟨u3, u4, u5, u6⟩ := u
    try dsimp only at h
    have hP := hP.sub (ws' := (w_Ma_makeSides ad a_this a_spans a_leftOut a_print a_spans_lows a_spans_highs a_print_cells a_print_family a_print_yard a_print_columns a_print_rows a_print_line k_spans_highs k_spans_lows k_print_cells v_this_rounding v_this_toe v_this_heel v_this_side v_this_pitch u3 u4 u5 u6 v_spans_toldBits v_spans_exactBits v_spans_highs v_spans_lows v_print_atHand v_print_count v_print_thermal v_print_density v_print_outerHigh v_print_pasteLeft v_print_pasteLow v_print_nameLength v_print_isWritten v_print_cells)) [2, 3, 4, 5, 0, 1] rfl
    have hD := hD.sub (ws' := (w_Ma_makeSides ad a_this a_spans a_leftOut a_print a_spans_lows a_spans_highs a_print_cells a_print_family a_print_yard a_print_columns a_print_rows a_print_line k_spans_highs k_spans_lows k_print_cells v_this_rounding v_this_toe v_this_heel v_this_side v_this_pitch u3 u4 u5 u6 v_spans_toldBits v_spans_exactBits v_spans_highs v_spans_lows v_print_atHand v_print_count v_print_thermal v_print_density v_print_outerHigh v_print_pasteLeft v_print_pasteLow v_print_nameLength v_print_isWritten v_print_cells)) [2, 3, 4, 5, 0, 1] (by decide) rfl
    exact w_Ma_makeSides_18 l C0 hE a_this a_spans a_leftOut a_print a_spans_lows a_spans_highs a_print_cells a_print_family a_print_yard a_print_columns a_print_rows a_print_line k_spans_highs k_spans_lows k_print_cells p1 v_this_rounding v_this_toe v_this_heel v_this_side v_this_pitch v_this_outer v_this_inner v_this_across v_this_hole v_spans_toldBits v_spans_exactBits v_spans_highs v_spans_lows v_print_atHand v_print_count v_print_thermal v_print_density v_print_outerHigh v_print_pasteLeft v_print_pasteLow v_print_nameLength v_print_isWritten v_print_cells post hK r7 u3 u4 u5 u6 _ _ h hP hD hS ls (lv_sub hl [0, 1] rfl)
  · intro c2
    replace h := h.2 c2
    refine lv_aload_n hx hb dMa_makeSides_7 rfl (lv_at hl 0 rfl) ?_
    refine zcall_i hP hD hS hA [0, 1, 2] [3, 4, 5] (va_runV (As := []) (rest := []) ⟨hx, hb, hml, hown, hts⟩ (c_Ma_sizeHoles l dC dI ad a_this a_spans a_leftOut a_print a_spans_lows a_spans_highs k_spans_highs _ v_this_rounding v_this_toe v_this_heel v_this_side v_this_pitch v_this_outer v_this_inner v_this_across v_this_hole v_spans_toldBits v_spans_exactBits v_spans_highs _ h) ⟨callB_of 0 hts (zgood zc_Ma_sizeHoles) rfl rfl rfl (hts _ zw_99) (hts _ zw_765) (by decide +kernel) ⟨Nat.le_of_ble_eq_true rfl, Nat.le_of_ble_eq_true rfl⟩, (hts _ zw_767), (hts _ zw_35)⟩ (zpreV hE hK hP hD hS hA [0, 1, 2] [0] (by rfl) (by rfl) (by decide) (ci := 4) (q0 := 0) rfl (by rfl)) rfl rfl hl.1 rfl (lv_room (Nat.le_of_ble_eq_true rfl)) dMa_makeSides_8 ⟨Nat.le_of_ble_eq_true rfl, Nat.le_of_ble_eq_true rfl⟩) (by rfl) (by rfl) (by decide) (by decide) (fun r12 u H locs h hP hD hS => ?_)
    obtain ⟨u8, u9, u10, u11⟩ := u
    try dsimp only at h
    have hP := hP.sub (ws' := (w_Ma_makeSides ad a_this a_spans a_leftOut a_print a_spans_lows a_spans_highs a_print_cells a_print_family a_print_yard a_print_columns a_print_rows a_print_line k_spans_highs k_spans_lows k_print_cells v_this_rounding v_this_toe v_this_heel v_this_side v_this_pitch u8 u9 u10 u11 v_spans_toldBits v_spans_exactBits v_spans_highs v_spans_lows v_print_atHand v_print_count v_print_thermal v_print_density v_print_outerHigh v_print_pasteLeft v_print_pasteLow v_print_nameLength v_print_isWritten v_print_cells)) [3, 4, 5, 0, 1, 2] rfl
    have hD := hD.sub (ws' := (w_Ma_makeSides ad a_this a_spans a_leftOut a_print a_spans_lows a_spans_highs a_print_cells a_print_family a_print_yard a_print_columns a_print_rows a_print_line k_spans_highs k_spans_lows k_print_cells v_this_rounding v_this_toe v_this_heel v_this_side v_this_pitch u8 u9 u10 u11 v_spans_toldBits v_spans_exactBits v_spans_highs v_spans_lows v_print_atHand v_print_count v_print_thermal v_print_density v_print_outerHigh v_print_pasteLeft v_print_pasteLow v_print_nameLength v_print_isWritten v_print_cells)) [3, 4, 5, 0, 1, 2] (by decide) rfl
    refine lv_goto (tgt := 18) hx hb dMa_makeSides_11 (by decide) ?_
    exact w_Ma_makeSides_18 l C0 hE a_this a_spans a_leftOut a_print a_spans_lows a_spans_highs a_print_cells a_print_family a_print_yard a_print_columns a_print_rows a_print_line k_spans_highs k_spans_lows k_print_cells p1 v_this_rounding v_this_toe v_this_heel v_this_side v_this_pitch v_this_outer v_this_inner v_this_across v_this_hole v_spans_toldBits v_spans_exactBits v_spans_highs v_spans_lows v_print_atHand v_print_count v_print_thermal v_print_density v_print_outerHigh v_print_pasteLeft v_print_pasteLow v_print_nameLength v_print_isWritten v_print_cells post hK r12 u8 u9 u10 u11 _ _ h hP hD hS ls (lv_sub hl [0, 1] rfl)
abbrev yMa_makeGrid : MethodName := ⟨"FootprintRules$Maker", "makeGrid", "()Z"⟩
abbrev cMa_makeGrid : ByteArray := prog_10_method_8_code
abbrev wsMa_makeGrid : List Cond := .code yMa_makeGrid cMa_makeGrid 14 (some .boolean) :: zT
set_option maxRecDepth 100000 in
theorem zc_Ma_makeGrid : Cond.code yMa_makeGrid cMa_makeGrid 14 (some .boolean) ∈ zT := zm 734 (by rfl) (by rfl)
theorem dMa_makeGrid_0 : decode cMa_makeGrid 0 = .ok (.aload_n 0, 1) := by decide +kernel
theorem dMa_makeGrid_1 : decode cMa_makeGrid 1 = .ok (.getfield 12, 3) := by decide +kernel
theorem dMa_makeGrid_4 : decode cMa_makeGrid 4 = .ok (.iconst 5, 1) := by decide +kernel
theorem dMa_makeGrid_5 : decode cMa_makeGrid 5 = .ok (.invokevirtual 42, 3) := by decide +kernel
theorem dMa_makeGrid_8 : decode cMa_makeGrid 8 = .ok (.lstore_n 1, 1) := by decide +kernel
theorem dMa_makeGrid_9 : decode cMa_makeGrid 9 = .ok (.aload_n 0, 1) := by decide +kernel
theorem dMa_makeGrid_10 : decode cMa_makeGrid 10 = .ok (.getfield 12, 3) := by decide +kernel
theorem dMa_makeGrid_13 : decode cMa_makeGrid 13 = .ok (.bipush 6, 2) := by decide +kernel
theorem dMa_makeGrid_15 : decode cMa_makeGrid 15 = .ok (.invokevirtual 42, 3) := by decide +kernel
theorem dMa_makeGrid_18 : decode cMa_makeGrid 18 = .ok (.lstore_n 3, 1) := by decide +kernel
theorem dMa_makeGrid_19 : decode cMa_makeGrid 19 = .ok (.aload_n 0, 1) := by decide +kernel
theorem dMa_makeGrid_20 : decode cMa_makeGrid 20 = .ok (.aload_n 0, 1) := by decide +kernel
theorem dMa_makeGrid_21 : decode cMa_makeGrid 21 = .ok (.getfield 12, 3) := by decide +kernel
theorem dMa_makeGrid_24 : decode cMa_makeGrid 24 = .ok (.bipush 7, 2) := by decide +kernel
theorem dMa_makeGrid_26 : decode cMa_makeGrid 26 = .ok (.invokevirtual 42, 3) := by decide +kernel
theorem dMa_makeGrid_29 : decode cMa_makeGrid 29 = .ok (.ldc2_w 129, 3) := by decide +kernel
theorem dMa_makeGrid_32 : decode cMa_makeGrid 32 = .ok (.aload_n 0, 1) := by decide +kernel
theorem dMa_makeGrid_33 : decode cMa_makeGrid 33 = .ok (.getfield 99, 3) := by decide +kernel
theorem dMa_makeGrid_36 : decode cMa_makeGrid 36 = .ok (.lmul, 1) := by decide +kernel
theorem dMa_makeGrid_37 : decode cMa_makeGrid 37 = .ok (.ladd, 1) := by decide +kernel
theorem dMa_makeGrid_38 : decode cMa_makeGrid 38 = .ok (.invokevirtual 138, 3) := by decide +kernel
theorem dMa_makeGrid_41 : decode cMa_makeGrid 41 = .ok (.lstore 5, 2) := by decide +kernel
theorem dMa_makeGrid_43 : decode cMa_makeGrid 43 = .ok (.aload_n 0, 1) := by decide +kernel
theorem dMa_makeGrid_44 : decode cMa_makeGrid 44 = .ok (.getfield 102, 3) := by decide +kernel
theorem dMa_makeGrid_47 : decode cMa_makeGrid 47 = .ok (.invokestatic 142, 3) := by decide +kernel
theorem dMa_makeGrid_50 : decode cMa_makeGrid 50 = .ok (.ifCond .eq 42, 3) := by decide +kernel
theorem dMa_makeGrid_53 : decode cMa_makeGrid 53 = .ok (.lload 5, 2) := by decide +kernel
theorem dMa_makeGrid_55 : decode cMa_makeGrid 55 = .ok (.lconst 0, 1) := by decide +kernel
theorem dMa_makeGrid_56 : decode cMa_makeGrid 56 = .ok (.lcmp, 1) := by decide +kernel
theorem dMa_makeGrid_57 : decode cMa_makeGrid 57 = .ok (.ifCond .le 35, 3) := by decide +kernel
theorem dMa_makeGrid_60 : decode cMa_makeGrid 60 = .ok (.lload 5, 2) := by decide +kernel
theorem dMa_makeGrid_62 : decode cMa_makeGrid 62 = .ok (.aload_n 0, 1) := by decide +kernel
theorem dMa_makeGrid_63 : decode cMa_makeGrid 63 = .ok (.getfield 102, 3) := by decide +kernel
theorem dMa_makeGrid_66 : decode cMa_makeGrid 66 = .ok (.lcmp, 1) := by decide +kernel
theorem dMa_makeGrid_67 : decode cMa_makeGrid 67 = .ok (.ifCond .ge 25, 3) := by decide +kernel
theorem dMa_makeGrid_70 : decode cMa_makeGrid 70 = .ok (.lload_n 1, 1) := by decide +kernel
theorem dMa_makeGrid_71 : decode cMa_makeGrid 71 = .ok (.lconst 1, 1) := by decide +kernel
theorem dMa_makeGrid_72 : decode cMa_makeGrid 72 = .ok (.ldc2_w 146, 3) := by decide +kernel
theorem dMa_makeGrid_75 : decode cMa_makeGrid 75 = .ok (.invokestatic 148, 3) := by decide +kernel
theorem dMa_makeGrid_78 : decode cMa_makeGrid 78 = .ok (.ifCond .eq 14, 3) := by decide +kernel
theorem dMa_makeGrid_81 : decode cMa_makeGrid 81 = .ok (.lload_n 3, 1) := by decide +kernel
theorem dMa_makeGrid_82 : decode cMa_makeGrid 82 = .ok (.lconst 1, 1) := by decide +kernel
theorem dMa_makeGrid_83 : decode cMa_makeGrid 83 = .ok (.ldc2_w 146, 3) := by decide +kernel
theorem dMa_makeGrid_86 : decode cMa_makeGrid 86 = .ok (.invokestatic 148, 3) := by decide +kernel
theorem dMa_makeGrid_89 : decode cMa_makeGrid 89 = .ok (.ifCond .ne 5, 3) := by decide +kernel
theorem dMa_makeGrid_92 : decode cMa_makeGrid 92 = .ok (.iconst 0, 1) := by decide +kernel
theorem dMa_makeGrid_93 : decode cMa_makeGrid 93 = .ok (.ireturn, 1) := by decide +kernel
theorem dMa_makeGrid_94 : decode cMa_makeGrid 94 = .ok (.iconst 0, 1) := by decide +kernel
theorem dMa_makeGrid_95 : decode cMa_makeGrid 95 = .ok (.istore 7, 2) := by decide +kernel
theorem dMa_makeGrid_97 : decode cMa_makeGrid 97 = .ok (.iconst 0, 1) := by decide +kernel
theorem dMa_makeGrid_98 : decode cMa_makeGrid 98 = .ok (.istore 8, 2) := by decide +kernel
theorem dMa_makeGrid_100 : decode cMa_makeGrid 100 = .ok (.iload 8, 2) := by decide +kernel
theorem dMa_makeGrid_102 : decode cMa_makeGrid 102 = .ok (.i2l, 1) := by decide +kernel
theorem dMa_makeGrid_103 : decode cMa_makeGrid 103 = .ok (.lload_n 1, 1) := by decide +kernel
theorem dMa_makeGrid_104 : decode cMa_makeGrid 104 = .ok (.lcmp, 1) := by decide +kernel
theorem dMa_makeGrid_105 : decode cMa_makeGrid 105 = .ok (.ifCond .ge 109, 3) := by decide +kernel
theorem dMa_makeGrid_108 : decode cMa_makeGrid 108 = .ok (.iconst 0, 1) := by decide +kernel
theorem dMa_makeGrid_109 : decode cMa_makeGrid 109 = .ok (.istore 9, 2) := by decide +kernel
theorem dMa_makeGrid_111 : decode cMa_makeGrid 111 = .ok (.iload 9, 2) := by decide +kernel
theorem dMa_makeGrid_113 : decode cMa_makeGrid 113 = .ok (.i2l, 1) := by decide +kernel
theorem dMa_makeGrid_114 : decode cMa_makeGrid 114 = .ok (.lload_n 3, 1) := by decide +kernel
theorem dMa_makeGrid_115 : decode cMa_makeGrid 115 = .ok (.lcmp, 1) := by decide +kernel
theorem dMa_makeGrid_116 : decode cMa_makeGrid 116 = .ok (.ifCond .ge 92, 3) := by decide +kernel
theorem dMa_makeGrid_119 : decode cMa_makeGrid 119 = .ok (.iinc 7 1, 3) := by decide +kernel
theorem dMa_makeGrid_122 : decode cMa_makeGrid 122 = .ok (.iload 7, 2) := by decide +kernel
theorem dMa_makeGrid_124 : decode cMa_makeGrid 124 = .ok (.aload_n 0, 1) := by decide +kernel
theorem dMa_makeGrid_125 : decode cMa_makeGrid 125 = .ok (.getfield 18, 3) := by decide +kernel
theorem dMa_makeGrid_128 : decode cMa_makeGrid 128 = .ok (.arraylength, 1) := by decide +kernel
theorem dMa_makeGrid_129 : decode cMa_makeGrid 129 = .ok (.if_icmp .ge 73, 3) := by decide +kernel
theorem dMa_makeGrid_132 : decode cMa_makeGrid 132 = .ok (.aload_n 0, 1) := by decide +kernel
theorem dMa_makeGrid_133 : decode cMa_makeGrid 133 = .ok (.getfield 18, 3) := by decide +kernel
theorem dMa_makeGrid_136 : decode cMa_makeGrid 136 = .ok (.iload 7, 2) := by decide +kernel
theorem dMa_makeGrid_138 : decode cMa_makeGrid 138 = .ok (.baload, 1) := by decide +kernel
theorem dMa_makeGrid_139 : decode cMa_makeGrid 139 = .ok (.ifCond .ne 63, 3) := by decide +kernel
theorem dMa_makeGrid_142 : decode cMa_makeGrid 142 = .ok (.iload 9, 2) := by decide +kernel
theorem dMa_makeGrid_144 : decode cMa_makeGrid 144 = .ok (.i2l, 1) := by decide +kernel
theorem dMa_makeGrid_145 : decode cMa_makeGrid 145 = .ok (.lload_n 3, 1) := by decide +kernel
theorem dMa_makeGrid_146 : decode cMa_makeGrid 146 = .ok (.aload_n 0, 1) := by decide +kernel
theorem dMa_makeGrid_147 : decode cMa_makeGrid 147 = .ok (.getfield 102, 3) := by decide +kernel
theorem dMa_makeGrid_150 : decode cMa_makeGrid 150 = .ok (.invokestatic 152, 3) := by decide +kernel
theorem dMa_makeGrid_153 : decode cMa_makeGrid 153 = .ok (.lload 5, 2) := by decide +kernel
theorem dMa_makeGrid_155 : decode cMa_makeGrid 155 = .ok (.ldc2_w 129, 3) := by decide +kernel
theorem dMa_makeGrid_158 : decode cMa_makeGrid 158 = .ok (.ldiv, 1) := by decide +kernel
theorem dMa_makeGrid_159 : decode cMa_makeGrid 159 = .ok (.lsub, 1) := by decide +kernel
theorem dMa_makeGrid_160 : decode cMa_makeGrid 160 = .ok (.lstore 10, 2) := by decide +kernel
theorem dMa_makeGrid_162 : decode cMa_makeGrid 162 = .ok (.iload 8, 2) := by decide +kernel
theorem dMa_makeGrid_164 : decode cMa_makeGrid 164 = .ok (.i2l, 1) := by decide +kernel
theorem dMa_makeGrid_165 : decode cMa_makeGrid 165 = .ok (.lload_n 1, 1) := by decide +kernel
theorem dMa_makeGrid_166 : decode cMa_makeGrid 166 = .ok (.aload_n 0, 1) := by decide +kernel
theorem dMa_makeGrid_167 : decode cMa_makeGrid 167 = .ok (.getfield 102, 3) := by decide +kernel
theorem dMa_makeGrid_170 : decode cMa_makeGrid 170 = .ok (.invokestatic 152, 3) := by decide +kernel
theorem dMa_makeGrid_173 : decode cMa_makeGrid 173 = .ok (.lneg, 1) := by decide +kernel
theorem dMa_makeGrid_174 : decode cMa_makeGrid 174 = .ok (.lload 5, 2) := by decide +kernel
theorem dMa_makeGrid_176 : decode cMa_makeGrid 176 = .ok (.ldc2_w 129, 3) := by decide +kernel
theorem dMa_makeGrid_179 : decode cMa_makeGrid 179 = .ok (.ldiv, 1) := by decide +kernel
theorem dMa_makeGrid_180 : decode cMa_makeGrid 180 = .ok (.lsub, 1) := by decide +kernel
theorem dMa_makeGrid_181 : decode cMa_makeGrid 181 = .ok (.lstore 12, 2) := by decide +kernel
theorem dMa_makeGrid_183 : decode cMa_makeGrid 183 = .ok (.aload_n 0, 1) := by decide +kernel
theorem dMa_makeGrid_184 : decode cMa_makeGrid 184 = .ok (.getfield 25, 3) := by decide +kernel
theorem dMa_makeGrid_187 : decode cMa_makeGrid 187 = .ok (.iload 7, 2) := by decide +kernel
theorem dMa_makeGrid_189 : decode cMa_makeGrid 189 = .ok (.lload 10, 2) := by decide +kernel
theorem dMa_makeGrid_191 : decode cMa_makeGrid 191 = .ok (.lload 12, 2) := by decide +kernel
theorem dMa_makeGrid_193 : decode cMa_makeGrid 193 = .ok (.lload 5, 2) := by decide +kernel
theorem dMa_makeGrid_195 : decode cMa_makeGrid 195 = .ok (.lload 5, 2) := by decide +kernel
theorem dMa_makeGrid_197 : decode cMa_makeGrid 197 = .ok (.iconst 1, 1) := by decide +kernel
theorem dMa_makeGrid_198 : decode cMa_makeGrid 198 = .ok (.lconst 0, 1) := by decide +kernel
theorem dMa_makeGrid_199 : decode cMa_makeGrid 199 = .ok (.invokevirtual 156, 3) := by decide +kernel
theorem dMa_makeGrid_202 : decode cMa_makeGrid 202 = .ok (.iinc 9 1, 3) := by decide +kernel
theorem dMa_makeGrid_205 : decode cMa_makeGrid 205 = .ok (.goto (-94), 3) := by decide +kernel
theorem dMa_makeGrid_208 : decode cMa_makeGrid 208 = .ok (.iinc 8 1, 3) := by decide +kernel
theorem dMa_makeGrid_211 : decode cMa_makeGrid 211 = .ok (.goto (-111), 3) := by decide +kernel
theorem dMa_makeGrid_214 : decode cMa_makeGrid 214 = .ok (.iconst 1, 1) := by decide +kernel
theorem dMa_makeGrid_215 : decode cMa_makeGrid 215 = .ok (.ireturn, 1) := by decide +kernel
-- FootprintRules$Maker.makeGrid()Z
abbrev w_Ma_makeGrid (ad : Nat → Nat → Nat) (a_this : Nat) (a_spans : Nat) (a_leftOut : Nat) (a_print : Nat) (a_spans_lows : Nat) (a_spans_highs : Nat) (a_print_cells : Nat) (a_print_family : Nat) (a_print_yard : Nat) (a_print_columns : Nat) (a_print_rows : Nat) (a_print_line : Nat) (k_spans_highs : ClassId) (k_leftOut : ClassId) (k_print_cells : ClassId) (v_this_rounding : Int64) (v_this_toe : Int64) (v_this_heel : Int64) (v_this_side : Int64) (v_this_pitch : Int64) (v_this_outer : Int64) (v_this_inner : Int64) (v_this_across : Int64) (v_this_hole : Int64) (v_spans_toldBits : Int32) (v_spans_exactBits : Int32) (v_spans_highs : Nat → Int64) (v_leftOut : Nat → Int32) (v_print_atHand : Int32) (v_print_count : Int32) (v_print_thermal : Int32) (v_print_density : Int32) (v_print_outerHigh : Int64) (v_print_pasteLeft : Int64) (v_print_pasteLow : Int64) (v_print_nameLength : Int32) (v_print_isWritten : Int32) (v_print_cells : Nat → Int64) : va_W := [(a_this, .inr (4, [.ref a_spans, .ref a_leftOut, .ref a_print, .long v_this_rounding, .long v_this_toe, .long v_this_heel, .long v_this_side, .long v_this_pitch, .long v_this_outer, .long v_this_inner, .long v_this_across, .long v_this_hole])), (a_spans, .inr (3, [.ref a_spans_lows, .ref a_spans_highs, .int v_spans_toldBits, .int v_spans_exactBits])), (a_spans_highs, .inl (k_spans_highs, 12, .inr (.inl v_spans_highs))), (a_leftOut, .inl (k_leftOut, 65, .inl v_leftOut)), (a_print, .inr (6, [.int v_print_atHand, .ref a_print_cells, .int v_print_count, .int v_print_thermal, .ref a_print_family, .int v_print_density, .long v_print_outerHigh, .ref a_print_yard, .ref a_print_columns, .ref a_print_rows, .long v_print_pasteLeft, .long v_print_pasteLow, .ref a_print_line, .int v_print_nameLength, .int v_print_isWritten])), (a_print_cells, .inl (k_print_cells, 455, .inr (.inl v_print_cells)))]
def P_Ma_makeGrid_202  (post : Int32 → Int32 → (Nat → Int64) → Prop) (K111 : Int64 → Int64 → Int64 → Int32 → Int32 → Int32 → Int32 → (Nat → Int64) → Prop) (y1 : Int64) (y3 : Int64) (y5 : Int64) (y7 : Int32) (y8 : Int32) (y9 : Int32) (u_print_count : Int32) (u_print_cells : Nat → Int64) : Prop := ∀ x1 : Int32, x1 = y9 + 1 → K111 y1 y3 y5 y7 y8 x1 u_print_count u_print_cells
set_option maxHeartbeats 4000000 in
set_option maxRecDepth 100000 in
theorem w_Ma_makeGrid_202 (l : Launch) {p : Program} {e : Env} {s : State} {m : MethodId} {args : Array Value} {below : List Frame} {meth : Method} {c : Code} {dC : Nat → ClassId} {dI : Nat → Nat → Nat} {ad : Nat → Nat → Nat} {A : Nat → Prop} (C0 : zC p s m args meth c cMa_makeGrid 14 RMa zT (some .boolean) A) (hE : zE ad A s) (a_this : Nat) (a_spans : Nat) (a_leftOut : Nat) (a_print : Nat) (a_spans_lows : Nat) (a_spans_highs : Nat) (a_print_cells : Nat) (a_print_family : Nat) (a_print_yard : Nat) (a_print_columns : Nat) (a_print_rows : Nat) (a_print_line : Nat) (k_spans_highs : ClassId) (k_leftOut : ClassId) (k_print_cells : ClassId) (v_this_rounding : Int64) (v_this_toe : Int64) (v_this_heel : Int64) (v_this_side : Int64) (v_this_pitch : Int64) (v_this_outer : Int64) (v_this_inner : Int64) (v_this_across : Int64) (v_this_hole : Int64) (v_spans_toldBits : Int32) (v_spans_exactBits : Int32) (v_spans_highs : Nat → Int64) (v_leftOut : Nat → Int32) (v_print_atHand : Int32) (v_print_count : Int32) (v_print_thermal : Int32) (v_print_density : Int32) (v_print_outerHigh : Int64) (v_print_pasteLeft : Int64) (v_print_pasteLow : Int64) (v_print_nameLength : Int32) (v_print_isWritten : Int32) (v_print_cells : Nat → Int64) (post : Int32 → Int32 → (Nat → Int64) → Prop) (K111 : Int64 → Int64 → Int64 → Int32 → Int32 → Int32 → Int32 → (Nat → Int64) → Prop) (hK111 : ∀ (y1 : Int64) (y3 : Int64) (y5 : Int64) (y7 : Int32) (y8 : Int32) (y9 : Int32) (u_print_count : Int32) (u_print_cells : Nat → Int64) (H : Heap) (locs : List Loc), K111 y1 y3 y5 y7 y8 y9 u_print_count u_print_cells → va_P (dC, dI) vwCl (w_Ma_makeGrid ad a_this a_spans a_leftOut a_print a_spans_lows a_spans_highs a_print_cells a_print_family a_print_yard a_print_columns a_print_rows a_print_line k_spans_highs k_leftOut k_print_cells v_this_rounding v_this_toe v_this_heel v_this_side v_this_pitch v_this_outer v_this_inner v_this_across v_this_hole v_spans_toldBits v_spans_exactBits v_spans_highs v_leftOut v_print_atHand u_print_count v_print_thermal v_print_density v_print_outerHigh v_print_pasteLeft v_print_pasteLow v_print_nameLength v_print_isWritten u_print_cells) H → va_D A (w_Ma_makeGrid ad a_this a_spans a_leftOut a_print a_spans_lows a_spans_highs a_print_cells a_print_family a_print_yard a_print_columns a_print_rows a_print_line k_spans_highs k_leftOut k_print_cells v_this_rounding v_this_toe v_this_heel v_this_side v_this_pitch v_this_outer v_this_inner v_this_across v_this_hole v_spans_toldBits v_spans_exactBits v_spans_highs v_leftOut v_print_atHand u_print_count v_print_thermal v_print_density v_print_outerHigh v_print_pasteLeft v_print_pasteLow v_print_nameLength v_print_isWritten u_print_cells) → va_S A s.heap H locs → ∀ ls : Array Slot, lv_has ls 14 [(0, .ref a_this), (1, .long y1), (3, .long y3), (5, .long y5), (7, .int y7), (8, .int y8), (9, .int y9)] → W p l e (headSpec wsMa_makeGrid { frames := 3, cells := 0, slots := 0, locals := 70 }).room s m args below meth c H locs 0 0 (MQ below (va_Qi (fun (r : Int32) (u : Int32 × (Nat → Int64)) => post r u.1 u.2) (zB (dC, dI) A (fun (u : Int32 × (Nat → Int64)) => (w_Ma_makeGrid ad a_this a_spans a_leftOut a_print a_spans_lows a_spans_highs a_print_cells a_print_family a_print_yard a_print_columns a_print_rows a_print_line k_spans_highs k_leftOut k_print_cells v_this_rounding v_this_toe v_this_heel v_this_side v_this_pitch v_this_outer v_this_inner v_this_across v_this_hole v_spans_toldBits v_spans_exactBits v_spans_highs v_leftOut v_print_atHand u.1 v_print_thermal v_print_density v_print_outerHigh v_print_pasteLeft v_print_pasteLow v_print_nameLength v_print_isWritten u.2))) A) args s 0 0 A) (F0 m 111 ls [])) (hK : va_K (dC, dI) vwCl [(k_spans_highs, .long), (k_leftOut, .boolean), (k_print_cells, .long)] s) : ∀ (y1 : Int64) (y3 : Int64) (y5 : Int64) (y7 : Int32) (y8 : Int32) (y9 : Int32) (u_print_count : Int32) (u_print_cells : Nat → Int64) (H : Heap) (locs : List Loc), P_Ma_makeGrid_202 post K111 y1 y3 y5 y7 y8 y9 u_print_count u_print_cells → va_P (dC, dI) vwCl (w_Ma_makeGrid ad a_this a_spans a_leftOut a_print a_spans_lows a_spans_highs a_print_cells a_print_family a_print_yard a_print_columns a_print_rows a_print_line k_spans_highs k_leftOut k_print_cells v_this_rounding v_this_toe v_this_heel v_this_side v_this_pitch v_this_outer v_this_inner v_this_across v_this_hole v_spans_toldBits v_spans_exactBits v_spans_highs v_leftOut v_print_atHand u_print_count v_print_thermal v_print_density v_print_outerHigh v_print_pasteLeft v_print_pasteLow v_print_nameLength v_print_isWritten u_print_cells) H → va_D A (w_Ma_makeGrid ad a_this a_spans a_leftOut a_print a_spans_lows a_spans_highs a_print_cells a_print_family a_print_yard a_print_columns a_print_rows a_print_line k_spans_highs k_leftOut k_print_cells v_this_rounding v_this_toe v_this_heel v_this_side v_this_pitch v_this_outer v_this_inner v_this_across v_this_hole v_spans_toldBits v_spans_exactBits v_spans_highs v_leftOut v_print_atHand u_print_count v_print_thermal v_print_density v_print_outerHigh v_print_pasteLeft v_print_pasteLow v_print_nameLength v_print_isWritten u_print_cells) → va_S A s.heap H locs → ∀ ls : Array Slot, lv_has ls 14 [(0, .ref a_this), (1, .long y1), (3, .long y3), (5, .long y5), (7, .int y7), (8, .int y8), (9, .int y9)] → W p l e (headSpec wsMa_makeGrid { frames := 3, cells := 0, slots := 0, locals := 70 }).room s m args below meth c H locs 0 0 (MQ below (va_Qi (fun (r : Int32) (u : Int32 × (Nat → Int64)) => post r u.1 u.2) (zB (dC, dI) A (fun (u : Int32 × (Nat → Int64)) => (w_Ma_makeGrid ad a_this a_spans a_leftOut a_print a_spans_lows a_spans_highs a_print_cells a_print_family a_print_yard a_print_columns a_print_rows a_print_line k_spans_highs k_leftOut k_print_cells v_this_rounding v_this_toe v_this_heel v_this_side v_this_pitch v_this_outer v_this_inner v_this_across v_this_hole v_spans_toldBits v_spans_exactBits v_spans_highs v_leftOut v_print_atHand u.1 v_print_thermal v_print_density v_print_outerHigh v_print_pasteLeft v_print_pasteLow v_print_nameLength v_print_isWritten u.2))) A) args s 0 0 A) (F0 m 202 ls []) := by
  obtain ⟨hx, hb, hr, hml, hown, hts, hlocks, hA⟩ := id C0
  intro y1 y3 y5 y7 y8 y9 u_print_count u_print_cells H locs h hP hD hS ls hl
  unfold P_Ma_makeGrid_202 at h
  obtain ⟨x1, ex1⟩ : ∃ y : Int32, y = y9 + 1 := ⟨_, rfl⟩
  replace h := h x1 ex1
  refine lv_iinc (v := x1) (lv' := [(9, .int x1), (0, .ref a_this), (1, .long y1), (3, .long y3), (5, .long y5), (7, .int y7), (8, .int y8)]) hx hb dMa_makeGrid_202 hl (k := 6) rfl (by rw [ex1]; rfl) (by decide) rfl (fun ls hl => ?_)
  refine lv_goto (tgt := 111) hx hb dMa_makeGrid_205 (by decide) ?_
  exact hK111 y1 y3 y5 y7 y8 x1 u_print_count u_print_cells _ _ h hP hD hS ls (lv_sub hl [1, 2, 3, 4, 5, 6, 0] rfl)
def P_Ma_makeGrid_111 (v_this_pitch : Int64) (v_leftOut : Nat → Int32) (post : Int32 → Int32 → (Nat → Int64) → Prop) (K100 : Int64 → Int64 → Int64 → Int32 → Int32 → Int32 → (Nat → Int64) → Prop) : Nat → Int64 → Int64 → Int64 → Int32 → Int32 → Int32 → Int32 → (Nat → Int64) → Prop
  | 0, _, _, _, _, _, _, _, _ => False
  | n + 1, y1, y3, y5, y7, y8, y9, u_print_count, u_print_cells => ((y3 ≤ y9.toInt64 → ∀ x2 : Int32, x2 = y8 + 1 → K100 y1 y3 y5 y7 x2 u_print_count u_print_cells) ∧ (¬ y3 ≤ y9.toInt64 → ∀ x3 : Int32, x3 = y7 + 1 → ((65 ≤ x3 → P_Ma_makeGrid_202 post (P_Ma_makeGrid_111 v_this_pitch v_leftOut post K100 n) y1 y3 y5 x3 y8 y9 u_print_count u_print_cells) ∧ (¬ 65 ≤ x3 → vp_in x3 65 ∧ ((¬ (v_leftOut x3.toNatClampNeg) = 0 → P_Ma_makeGrid_202 post (P_Ma_makeGrid_111 v_this_pitch v_leftOut post K100 n) y1 y3 y5 x3 y8 y9 u_print_count u_print_cells) ∧ ((v_leftOut x3.toNatClampNeg) = 0 → P_F_middle y9.toInt64 y3 v_this_pitch (fun (r7 : Int64) => ∀ x8 : Int64, x8 = r7 - (y5 / 2) → P_F_middle y8.toInt64 y1 v_this_pitch (fun (r9 : Int64) => ∀ x10 : Int64, x10 = (-r9) - (y5 / 2) → P_Fp_add x3 x8 x10 y5 y5 1 0 u_print_count u_print_cells (fun (u11 : Int32) (u12 : Nat → Int64) => P_Ma_makeGrid_202 post (P_Ma_makeGrid_111 v_this_pitch v_leftOut post K100 n) y1 y3 y5 x3 y8 y9 u11 u12)))))))))
set_option maxHeartbeats 4000000 in
set_option maxRecDepth 100000 in
theorem w_Ma_makeGrid_111 (l : Launch) {p : Program} {e : Env} {s : State} {m : MethodId} {args : Array Value} {below : List Frame} {meth : Method} {c : Code} {dC : Nat → ClassId} {dI : Nat → Nat → Nat} {ad : Nat → Nat → Nat} {A : Nat → Prop} (C0 : zC p s m args meth c cMa_makeGrid 14 RMa zT (some .boolean) A) (hE : zE ad A s) (a_this : Nat) (a_spans : Nat) (a_leftOut : Nat) (a_print : Nat) (a_spans_lows : Nat) (a_spans_highs : Nat) (a_print_cells : Nat) (a_print_family : Nat) (a_print_yard : Nat) (a_print_columns : Nat) (a_print_rows : Nat) (a_print_line : Nat) (k_spans_highs : ClassId) (k_leftOut : ClassId) (k_print_cells : ClassId) (v_this_rounding : Int64) (v_this_toe : Int64) (v_this_heel : Int64) (v_this_side : Int64) (v_this_pitch : Int64) (v_this_outer : Int64) (v_this_inner : Int64) (v_this_across : Int64) (v_this_hole : Int64) (v_spans_toldBits : Int32) (v_spans_exactBits : Int32) (v_spans_highs : Nat → Int64) (v_leftOut : Nat → Int32) (v_print_atHand : Int32) (v_print_count : Int32) (v_print_thermal : Int32) (v_print_density : Int32) (v_print_outerHigh : Int64) (v_print_pasteLeft : Int64) (v_print_pasteLow : Int64) (v_print_nameLength : Int32) (v_print_isWritten : Int32) (v_print_cells : Nat → Int64) (post : Int32 → Int32 → (Nat → Int64) → Prop) (K100 : Int64 → Int64 → Int64 → Int32 → Int32 → Int32 → (Nat → Int64) → Prop) (hK100 : ∀ (y1 : Int64) (y3 : Int64) (y5 : Int64) (y7 : Int32) (y8 : Int32) (u_print_count : Int32) (u_print_cells : Nat → Int64) (H : Heap) (locs : List Loc), K100 y1 y3 y5 y7 y8 u_print_count u_print_cells → va_P (dC, dI) vwCl (w_Ma_makeGrid ad a_this a_spans a_leftOut a_print a_spans_lows a_spans_highs a_print_cells a_print_family a_print_yard a_print_columns a_print_rows a_print_line k_spans_highs k_leftOut k_print_cells v_this_rounding v_this_toe v_this_heel v_this_side v_this_pitch v_this_outer v_this_inner v_this_across v_this_hole v_spans_toldBits v_spans_exactBits v_spans_highs v_leftOut v_print_atHand u_print_count v_print_thermal v_print_density v_print_outerHigh v_print_pasteLeft v_print_pasteLow v_print_nameLength v_print_isWritten u_print_cells) H → va_D A (w_Ma_makeGrid ad a_this a_spans a_leftOut a_print a_spans_lows a_spans_highs a_print_cells a_print_family a_print_yard a_print_columns a_print_rows a_print_line k_spans_highs k_leftOut k_print_cells v_this_rounding v_this_toe v_this_heel v_this_side v_this_pitch v_this_outer v_this_inner v_this_across v_this_hole v_spans_toldBits v_spans_exactBits v_spans_highs v_leftOut v_print_atHand u_print_count v_print_thermal v_print_density v_print_outerHigh v_print_pasteLeft v_print_pasteLow v_print_nameLength v_print_isWritten u_print_cells) → va_S A s.heap H locs → ∀ ls : Array Slot, lv_has ls 14 [(0, .ref a_this), (1, .long y1), (3, .long y3), (5, .long y5), (7, .int y7), (8, .int y8)] → W p l e (headSpec wsMa_makeGrid { frames := 3, cells := 0, slots := 0, locals := 70 }).room s m args below meth c H locs 0 0 (MQ below (va_Qi (fun (r : Int32) (u : Int32 × (Nat → Int64)) => post r u.1 u.2) (zB (dC, dI) A (fun (u : Int32 × (Nat → Int64)) => (w_Ma_makeGrid ad a_this a_spans a_leftOut a_print a_spans_lows a_spans_highs a_print_cells a_print_family a_print_yard a_print_columns a_print_rows a_print_line k_spans_highs k_leftOut k_print_cells v_this_rounding v_this_toe v_this_heel v_this_side v_this_pitch v_this_outer v_this_inner v_this_across v_this_hole v_spans_toldBits v_spans_exactBits v_spans_highs v_leftOut v_print_atHand u.1 v_print_thermal v_print_density v_print_outerHigh v_print_pasteLeft v_print_pasteLow v_print_nameLength v_print_isWritten u.2))) A) args s 0 0 A) (F0 m 100 ls [])) (hK : va_K (dC, dI) vwCl [(k_spans_highs, .long), (k_leftOut, .boolean), (k_print_cells, .long)] s) : ∀ (n : Nat), ∀ (y1 : Int64) (y3 : Int64) (y5 : Int64) (y7 : Int32) (y8 : Int32) (y9 : Int32) (u_print_count : Int32) (u_print_cells : Nat → Int64) (H : Heap) (locs : List Loc), P_Ma_makeGrid_111 v_this_pitch v_leftOut post K100 n y1 y3 y5 y7 y8 y9 u_print_count u_print_cells → va_P (dC, dI) vwCl (w_Ma_makeGrid ad a_this a_spans a_leftOut a_print a_spans_lows a_spans_highs a_print_cells a_print_family a_print_yard a_print_columns a_print_rows a_print_line k_spans_highs k_leftOut k_print_cells v_this_rounding v_this_toe v_this_heel v_this_side v_this_pitch v_this_outer v_this_inner v_this_across v_this_hole v_spans_toldBits v_spans_exactBits v_spans_highs v_leftOut v_print_atHand u_print_count v_print_thermal v_print_density v_print_outerHigh v_print_pasteLeft v_print_pasteLow v_print_nameLength v_print_isWritten u_print_cells) H → va_D A (w_Ma_makeGrid ad a_this a_spans a_leftOut a_print a_spans_lows a_spans_highs a_print_cells a_print_family a_print_yard a_print_columns a_print_rows a_print_line k_spans_highs k_leftOut k_print_cells v_this_rounding v_this_toe v_this_heel v_this_side v_this_pitch v_this_outer v_this_inner v_this_across v_this_hole v_spans_toldBits v_spans_exactBits v_spans_highs v_leftOut v_print_atHand u_print_count v_print_thermal v_print_density v_print_outerHigh v_print_pasteLeft v_print_pasteLow v_print_nameLength v_print_isWritten u_print_cells) → va_S A s.heap H locs → ∀ ls : Array Slot, lv_has ls 14 [(0, .ref a_this), (1, .long y1), (3, .long y3), (5, .long y5), (7, .int y7), (8, .int y8), (9, .int y9)] → W p l e (headSpec wsMa_makeGrid { frames := 3, cells := 0, slots := 0, locals := 70 }).room s m args below meth c H locs 0 0 (MQ below (va_Qi (fun (r : Int32) (u : Int32 × (Nat → Int64)) => post r u.1 u.2) (zB (dC, dI) A (fun (u : Int32 × (Nat → Int64)) => (w_Ma_makeGrid ad a_this a_spans a_leftOut a_print a_spans_lows a_spans_highs a_print_cells a_print_family a_print_yard a_print_columns a_print_rows a_print_line k_spans_highs k_leftOut k_print_cells v_this_rounding v_this_toe v_this_heel v_this_side v_this_pitch v_this_outer v_this_inner v_this_across v_this_hole v_spans_toldBits v_spans_exactBits v_spans_highs v_leftOut v_print_atHand u.1 v_print_thermal v_print_density v_print_outerHigh v_print_pasteLeft v_print_pasteLow v_print_nameLength v_print_isWritten u.2))) A) args s 0 0 A) (F0 m 111 ls []) := by
  obtain ⟨hx, hb, hr, hml, hown, hts, hlocks, hA⟩ := id C0
  intro n
  induction n with
  | zero =>
    intro y1 y3 y5 y7 y8 y9 u_print_count u_print_cells H locs h
    exact False.elim h
  | succ n ih =>
    intro y1 y3 y5 y7 y8 y9 u_print_count u_print_cells H locs h hP hD hS ls hl
    rw [P_Ma_makeGrid_111] at h
    refine lv_iload hx hb dMa_makeGrid_111 (lv_at hl 6 rfl) ?_
    refine lv_i2l hx hb dMa_makeGrid_113 rfl ?_
    refine lv_lload_n hx hb dMa_makeGrid_114 rfl (lv_at hl 2 rfl) ?_
    refine zz_lcmp_ge (tgt := 208) hx hb dMa_makeGrid_115 dMa_makeGrid_116 (by decide) ?_ ?_
    · intro c1
      replace h := h.1 c1
      obtain ⟨x2, ex2⟩ : ∃ y : Int32, y = y8 + 1 := ⟨_, rfl⟩
      replace h := h x2 ex2
      refine lv_iinc (v := x2) (lv' := [(8, .int x2), (0, .ref a_this), (1, .long y1), (3, .long y3), (5, .long y5), (7, .int y7), (9, .int y9)]) hx hb dMa_makeGrid_208 hl (k := 5) rfl (by rw [ex2]; rfl) (by decide) rfl (fun ls hl => ?_)
      refine lv_goto (tgt := 100) hx hb dMa_makeGrid_211 (by decide) ?_
      exact hK100 y1 y3 y5 y7 x2 u_print_count u_print_cells _ _ h hP hD hS ls (lv_sub hl [1, 2, 3, 4, 5, 0] rfl)
    · intro c1
      replace h := h.2 c1
      obtain ⟨x3, ex3⟩ : ∃ y : Int32, y = y7 + 1 := ⟨_, rfl⟩
      replace h := h x3 ex3
      refine lv_iinc (v := x3) (lv' := [(7, .int x3), (0, .ref a_this), (1, .long y1), (3, .long y3), (5, .long y5), (8, .int y8), (9, .int y9)]) hx hb dMa_makeGrid_119 hl (k := 4) rfl (by rw [ex3]; rfl) (by decide) rfl (fun ls hl => ?_)
      refine lv_iload hx hb dMa_makeGrid_122 (lv_at hl 0 rfl) ?_
      refine lv_aload_n hx hb dMa_makeGrid_124 rfl (lv_at hl 1 rfl) ?_
      refine va_get (D := (dC, dI)) (ci := 4) (v := .ref a_leftOut) (C := RMa) (T := TMa) (N := 12) hx hb hts inZ_Ma hown hK hP 0 rfl rfl 1 (by decide) (hts _ zw_333) (fun _ h9 => h9) rfl dMa_makeGrid_125 ?_
      refine va_alen (v := 65) hx hb hK hP 3 1 rfl rfl (show Int32.ofNat 65 = 65 by decide) dMa_makeGrid_128 ?_
      refine lv_icmp_ge (tgt := 202) hx hb dMa_makeGrid_129 (by decide) ?_ ?_
      · intro c4
        replace h := h.1 c4
        exact w_Ma_makeGrid_202 l C0 hE a_this a_spans a_leftOut a_print a_spans_lows a_spans_highs a_print_cells a_print_family a_print_yard a_print_columns a_print_rows a_print_line k_spans_highs k_leftOut k_print_cells v_this_rounding v_this_toe v_this_heel v_this_side v_this_pitch v_this_outer v_this_inner v_this_across v_this_hole v_spans_toldBits v_spans_exactBits v_spans_highs v_leftOut v_print_atHand v_print_count v_print_thermal v_print_density v_print_outerHigh v_print_pasteLeft v_print_pasteLow v_print_nameLength v_print_isWritten v_print_cells post (P_Ma_makeGrid_111 v_this_pitch v_leftOut post K100 n) ih hK y1 y3 y5 x3 y8 y9 u_print_count u_print_cells _ _ h hP hD hS ls (lv_sub hl [1, 2, 3, 4, 0, 5, 6] rfl)
      · intro c4
        replace h := h.2 c4
        refine lv_aload_n hx hb dMa_makeGrid_132 rfl (lv_at hl 1 rfl) ?_
        refine va_get (D := (dC, dI)) (ci := 4) (v := .ref a_leftOut) (C := RMa) (T := TMa) (N := 12) hx hb hts inZ_Ma hown hK hP 0 rfl rfl 1 (by decide) (hts _ zw_333) (fun _ h9 => h9) rfl dMa_makeGrid_133 ?_
        refine lv_iload hx hb dMa_makeGrid_136 (lv_at hl 0 rfl) ?_
        obtain ⟨hn5, h⟩ := h
        refine va_zald hx hb hK hP 3 1 rfl rfl hn5 dMa_makeGrid_138 ?_
        refine lv_if_ne (tgt := 202) hx hb dMa_makeGrid_139 (by decide) ?_ ?_
        · intro c6
          replace h := h.1 c6
          exact w_Ma_makeGrid_202 l C0 hE a_this a_spans a_leftOut a_print a_spans_lows a_spans_highs a_print_cells a_print_family a_print_yard a_print_columns a_print_rows a_print_line k_spans_highs k_leftOut k_print_cells v_this_rounding v_this_toe v_this_heel v_this_side v_this_pitch v_this_outer v_this_inner v_this_across v_this_hole v_spans_toldBits v_spans_exactBits v_spans_highs v_leftOut v_print_atHand v_print_count v_print_thermal v_print_density v_print_outerHigh v_print_pasteLeft v_print_pasteLow v_print_nameLength v_print_isWritten v_print_cells post (P_Ma_makeGrid_111 v_this_pitch v_leftOut post K100 n) ih hK y1 y3 y5 x3 y8 y9 u_print_count u_print_cells _ _ h hP hD hS ls (lv_sub hl [1, 2, 3, 4, 0, 5, 6] rfl)
        · intro c6
          replace h := h.2 c6
          refine lv_iload hx hb dMa_makeGrid_142 (lv_at hl 6 rfl) ?_
          refine lv_i2l hx hb dMa_makeGrid_144 rfl ?_
          refine lv_lload_n hx hb dMa_makeGrid_145 rfl (lv_at hl 3 rfl) ?_
          refine lv_aload_n hx hb dMa_makeGrid_146 rfl (lv_at hl 1 rfl) ?_
          refine va_get (D := (dC, dI)) (ci := 4) (v := .long v_this_pitch) (C := RMa) (T := TMa) (N := 12) hx hb hts inZ_Ma hown hK hP 0 rfl rfl 7 (by decide) (hts _ zw_341) (fun _ h9 => h9) rfl dMa_makeGrid_147 ?_
          refine zcall_l hP hD hS hA [] [0, 1, 2, 3, 4, 5] (va_runSN (As := [.long y9.toInt64, .long y3, .long v_this_pitch]) (rest := []) ⟨hx, hb, hml, hown, hts⟩ (c_F_middle l dC dI ad _ y9.toInt64 y3 v_this_pitch _ h) ⟨va_cnB 3 hts (zgood zc_F_middle) rfl rfl rfl (hE.nw _ zn_751) (hts _ zw_95) (by decide +kernel) ⟨Nat.le_of_ble_eq_true rfl, Nat.le_of_ble_eq_true rfl⟩, (hts _ zw_752), trivial⟩ (zpreS hE hK hP hD hS hA [] [] (by rfl) (by rfl) (by decide)) rfl rfl hl.1 rfl (lv_room (Nat.le_of_ble_eq_true rfl)) dMa_makeGrid_150 ⟨Nat.le_of_ble_eq_true rfl, Nat.le_of_ble_eq_true rfl⟩) (by rfl) (by rfl) (by decide) (by decide) (fun r7 u H locs h hP hD hS => ?_)
          try dsimp only at h
          have hP := hP.sub (ws' := (w_Ma_makeGrid ad a_this a_spans a_leftOut a_print a_spans_lows a_spans_highs a_print_cells a_print_family a_print_yard a_print_columns a_print_rows a_print_line k_spans_highs k_leftOut k_print_cells v_this_rounding v_this_toe v_this_heel v_this_side v_this_pitch v_this_outer v_this_inner v_this_across v_this_hole v_spans_toldBits v_spans_exactBits v_spans_highs v_leftOut v_print_atHand u_print_count v_print_thermal v_print_density v_print_outerHigh v_print_pasteLeft v_print_pasteLow v_print_nameLength v_print_isWritten u_print_cells)) [0, 1, 2, 3, 4, 5] rfl
          have hD := hD.sub (ws' := (w_Ma_makeGrid ad a_this a_spans a_leftOut a_print a_spans_lows a_spans_highs a_print_cells a_print_family a_print_yard a_print_columns a_print_rows a_print_line k_spans_highs k_leftOut k_print_cells v_this_rounding v_this_toe v_this_heel v_this_side v_this_pitch v_this_outer v_this_inner v_this_across v_this_hole v_spans_toldBits v_spans_exactBits v_spans_highs v_leftOut v_print_atHand u_print_count v_print_thermal v_print_density v_print_outerHigh v_print_pasteLeft v_print_pasteLow v_print_nameLength v_print_isWritten u_print_cells)) [0, 1, 2, 3, 4, 5] (by decide) rfl
          refine lv_lload hx hb dMa_makeGrid_153 (lv_at hl 4 rfl) ?_
          refine lv_ldc2 (own := RMa) (index := 129) (v := 2) hx hb hown (hts _ zw_735) dMa_makeGrid_155 ?_
          refine lv_ldiv hx hb dMa_makeGrid_158 (by decide) ?_
          refine lv_lsub hx hb dMa_makeGrid_159 ?_
          refine lv_topl (fun x8 ex8 => ?_)
          replace h := h x8 ex8
          refine lv_lstore (lv' := [(10, .long x8), (7, .int x3), (0, .ref a_this), (1, .long y1), (3, .long y3), (5, .long y5), (8, .int y8), (9, .int y9)]) hx hb dMa_makeGrid_160 hl (by decide) rfl (fun ls hl => ?_)
          refine lv_iload hx hb dMa_makeGrid_162 (lv_at hl 6 rfl) ?_
          refine lv_i2l hx hb dMa_makeGrid_164 rfl ?_
          refine lv_lload_n hx hb dMa_makeGrid_165 rfl (lv_at hl 3 rfl) ?_
          refine lv_aload_n hx hb dMa_makeGrid_166 rfl (lv_at hl 2 rfl) ?_
          refine va_get (D := (dC, dI)) (ci := 4) (v := .long v_this_pitch) (C := RMa) (T := TMa) (N := 12) hx hb hts inZ_Ma hown hK hP 0 rfl rfl 7 (by decide) (hts _ zw_341) (fun _ h9 => h9) rfl dMa_makeGrid_167 ?_
          refine zcall_l hP hD hS hA [] [0, 1, 2, 3, 4, 5] (va_runSN (As := [.long y8.toInt64, .long y1, .long v_this_pitch]) (rest := []) ⟨hx, hb, hml, hown, hts⟩ (c_F_middle l dC dI ad _ y8.toInt64 y1 v_this_pitch _ h) ⟨va_cnB 3 hts (zgood zc_F_middle) rfl rfl rfl (hE.nw _ zn_751) (hts _ zw_95) (by decide +kernel) ⟨Nat.le_of_ble_eq_true rfl, Nat.le_of_ble_eq_true rfl⟩, (hts _ zw_752), trivial⟩ (zpreS hE hK hP hD hS hA [] [] (by rfl) (by rfl) (by decide)) rfl rfl hl.1 rfl (lv_room (Nat.le_of_ble_eq_true rfl)) dMa_makeGrid_170 ⟨Nat.le_of_ble_eq_true rfl, Nat.le_of_ble_eq_true rfl⟩) (by rfl) (by rfl) (by decide) (by decide) (fun r9 u H locs h hP hD hS => ?_)
          try dsimp only at h
          have hP := hP.sub (ws' := (w_Ma_makeGrid ad a_this a_spans a_leftOut a_print a_spans_lows a_spans_highs a_print_cells a_print_family a_print_yard a_print_columns a_print_rows a_print_line k_spans_highs k_leftOut k_print_cells v_this_rounding v_this_toe v_this_heel v_this_side v_this_pitch v_this_outer v_this_inner v_this_across v_this_hole v_spans_toldBits v_spans_exactBits v_spans_highs v_leftOut v_print_atHand u_print_count v_print_thermal v_print_density v_print_outerHigh v_print_pasteLeft v_print_pasteLow v_print_nameLength v_print_isWritten u_print_cells)) [0, 1, 2, 3, 4, 5] rfl
          have hD := hD.sub (ws' := (w_Ma_makeGrid ad a_this a_spans a_leftOut a_print a_spans_lows a_spans_highs a_print_cells a_print_family a_print_yard a_print_columns a_print_rows a_print_line k_spans_highs k_leftOut k_print_cells v_this_rounding v_this_toe v_this_heel v_this_side v_this_pitch v_this_outer v_this_inner v_this_across v_this_hole v_spans_toldBits v_spans_exactBits v_spans_highs v_leftOut v_print_atHand u_print_count v_print_thermal v_print_density v_print_outerHigh v_print_pasteLeft v_print_pasteLow v_print_nameLength v_print_isWritten u_print_cells)) [0, 1, 2, 3, 4, 5] (by decide) rfl
          refine lv_lneg hx hb dMa_makeGrid_173 ?_
          refine lv_lload hx hb dMa_makeGrid_174 (lv_at hl 5 rfl) ?_
          refine lv_ldc2 (own := RMa) (index := 129) (v := 2) hx hb hown (hts _ zw_735) dMa_makeGrid_176 ?_
          refine lv_ldiv hx hb dMa_makeGrid_179 (by decide) ?_
          refine lv_lsub hx hb dMa_makeGrid_180 ?_
          refine lv_topl (fun x10 ex10 => ?_)
          replace h := h x10 ex10
          refine lv_lstore (lv' := [(12, .long x10), (10, .long x8), (7, .int x3), (0, .ref a_this), (1, .long y1), (3, .long y3), (5, .long y5), (8, .int y8), (9, .int y9)]) hx hb dMa_makeGrid_181 hl (by decide) rfl (fun ls hl => ?_)
          refine lv_aload_n hx hb dMa_makeGrid_183 rfl (lv_at hl 3 rfl) ?_
          refine va_get (D := (dC, dI)) (ci := 4) (v := .ref a_print) (C := RMa) (T := TMa) (N := 12) hx hb hts inZ_Ma hown hK hP 0 rfl rfl 2 (by decide) (hts _ zw_335) (fun _ h9 => h9) rfl dMa_makeGrid_184 ?_
          refine lv_iload hx hb dMa_makeGrid_187 (lv_at hl 2 rfl) ?_
          refine lv_lload hx hb dMa_makeGrid_189 (lv_at hl 1 rfl) ?_
          refine lv_lload hx hb dMa_makeGrid_191 (lv_at hl 0 rfl) ?_
          refine lv_lload hx hb dMa_makeGrid_193 (lv_at hl 6 rfl) ?_
          refine lv_lload hx hb dMa_makeGrid_195 (lv_at hl 6 rfl) ?_
          refine lv_iconst (v := 1) hx hb dMa_makeGrid_197 (by decide) ?_
          refine lv_lconst (v := 0) hx hb dMa_makeGrid_198 (by decide) ?_
          refine zcall_v hP hD hS hA [4, 5] [0, 1, 2, 3] (va_runVN (As := [.int x3, .long x8, .long x10, .long y5, .long y5, .int 1, .long 0]) (rest := []) ⟨hx, hb, hml, hown, hts⟩ (c_Fp_add l dC dI ad a_print a_print_cells a_print_family a_print_yard a_print_columns a_print_rows a_print_line k_print_cells _ x3 x8 x10 y5 y5 1 0 v_print_atHand u_print_count v_print_thermal v_print_density v_print_outerHigh v_print_pasteLeft v_print_pasteLow v_print_nameLength v_print_isWritten u_print_cells _ h) ⟨va_cnB 7 hts (zgood zc_Fp_add) rfl rfl rfl (hE.nw _ zn_755) (hts _ zw_101) (by decide +kernel) ⟨Nat.le_of_ble_eq_true rfl, Nat.le_of_ble_eq_true rfl⟩, (hts _ zw_757), (hts _ zw_33)⟩ (zpreV hE hK hP hD hS hA [4, 5] [2] (by rfl) (by rfl) (by decide) (ci := 6) (q0 := 4) rfl (by rfl)) rfl rfl hl.1 rfl (lv_room (Nat.le_of_ble_eq_true rfl)) dMa_makeGrid_199 ⟨Nat.le_of_ble_eq_true rfl, Nat.le_of_ble_eq_true rfl⟩) (by rfl) (by rfl) (by decide) (by decide) (fun u H locs h hP hD hS => ?_)
          obtain ⟨u11, u12⟩ := u
          try dsimp only at h
          have hP := hP.sub (ws' := (w_Ma_makeGrid ad a_this a_spans a_leftOut a_print a_spans_lows a_spans_highs a_print_cells a_print_family a_print_yard a_print_columns a_print_rows a_print_line k_spans_highs k_leftOut k_print_cells v_this_rounding v_this_toe v_this_heel v_this_side v_this_pitch v_this_outer v_this_inner v_this_across v_this_hole v_spans_toldBits v_spans_exactBits v_spans_highs v_leftOut v_print_atHand u11 v_print_thermal v_print_density v_print_outerHigh v_print_pasteLeft v_print_pasteLow v_print_nameLength v_print_isWritten u12)) [0, 1, 2, 3, 4, 5] rfl
          have hD := hD.sub (ws' := (w_Ma_makeGrid ad a_this a_spans a_leftOut a_print a_spans_lows a_spans_highs a_print_cells a_print_family a_print_yard a_print_columns a_print_rows a_print_line k_spans_highs k_leftOut k_print_cells v_this_rounding v_this_toe v_this_heel v_this_side v_this_pitch v_this_outer v_this_inner v_this_across v_this_hole v_spans_toldBits v_spans_exactBits v_spans_highs v_leftOut v_print_atHand u11 v_print_thermal v_print_density v_print_outerHigh v_print_pasteLeft v_print_pasteLow v_print_nameLength v_print_isWritten u12)) [0, 1, 2, 3, 4, 5] (by decide) rfl
          exact w_Ma_makeGrid_202 l C0 hE a_this a_spans a_leftOut a_print a_spans_lows a_spans_highs a_print_cells a_print_family a_print_yard a_print_columns a_print_rows a_print_line k_spans_highs k_leftOut k_print_cells v_this_rounding v_this_toe v_this_heel v_this_side v_this_pitch v_this_outer v_this_inner v_this_across v_this_hole v_spans_toldBits v_spans_exactBits v_spans_highs v_leftOut v_print_atHand v_print_count v_print_thermal v_print_density v_print_outerHigh v_print_pasteLeft v_print_pasteLow v_print_nameLength v_print_isWritten v_print_cells post (P_Ma_makeGrid_111 v_this_pitch v_leftOut post K100 n) ih hK y1 y3 y5 x3 y8 y9 u11 u12 _ _ h hP hD hS ls (lv_sub hl [3, 4, 5, 6, 2, 7, 8] rfl)
def P_Ma_makeGrid_100 (v_this_pitch : Int64) (v_leftOut : Nat → Int32) (post : Int32 → Int32 → (Nat → Int64) → Prop) : Nat → Int64 → Int64 → Int64 → Int32 → Int32 → Int32 → (Nat → Int64) → Prop
  | 0, _, _, _, _, _, _, _ => False
  | n + 1, y1, y3, y5, y7, y8, u_print_count, u_print_cells => ((y1 ≤ y8.toInt64 → post 1 u_print_count u_print_cells) ∧ (¬ y1 ≤ y8.toInt64 → ∃ n2, P_Ma_makeGrid_111 v_this_pitch v_leftOut post (P_Ma_makeGrid_100 v_this_pitch v_leftOut post n) n2 y1 y3 y5 y7 y8 0 u_print_count u_print_cells))
set_option maxHeartbeats 4000000 in
set_option maxRecDepth 100000 in
theorem w_Ma_makeGrid_100 (l : Launch) {p : Program} {e : Env} {s : State} {m : MethodId} {args : Array Value} {below : List Frame} {meth : Method} {c : Code} {dC : Nat → ClassId} {dI : Nat → Nat → Nat} {ad : Nat → Nat → Nat} {A : Nat → Prop} (C0 : zC p s m args meth c cMa_makeGrid 14 RMa zT (some .boolean) A) (hE : zE ad A s) (a_this : Nat) (a_spans : Nat) (a_leftOut : Nat) (a_print : Nat) (a_spans_lows : Nat) (a_spans_highs : Nat) (a_print_cells : Nat) (a_print_family : Nat) (a_print_yard : Nat) (a_print_columns : Nat) (a_print_rows : Nat) (a_print_line : Nat) (k_spans_highs : ClassId) (k_leftOut : ClassId) (k_print_cells : ClassId) (v_this_rounding : Int64) (v_this_toe : Int64) (v_this_heel : Int64) (v_this_side : Int64) (v_this_pitch : Int64) (v_this_outer : Int64) (v_this_inner : Int64) (v_this_across : Int64) (v_this_hole : Int64) (v_spans_toldBits : Int32) (v_spans_exactBits : Int32) (v_spans_highs : Nat → Int64) (v_leftOut : Nat → Int32) (v_print_atHand : Int32) (v_print_count : Int32) (v_print_thermal : Int32) (v_print_density : Int32) (v_print_outerHigh : Int64) (v_print_pasteLeft : Int64) (v_print_pasteLow : Int64) (v_print_nameLength : Int32) (v_print_isWritten : Int32) (v_print_cells : Nat → Int64) (post : Int32 → Int32 → (Nat → Int64) → Prop) (hK : va_K (dC, dI) vwCl [(k_spans_highs, .long), (k_leftOut, .boolean), (k_print_cells, .long)] s) : ∀ (n : Nat), ∀ (y1 : Int64) (y3 : Int64) (y5 : Int64) (y7 : Int32) (y8 : Int32) (u_print_count : Int32) (u_print_cells : Nat → Int64) (H : Heap) (locs : List Loc), P_Ma_makeGrid_100 v_this_pitch v_leftOut post n y1 y3 y5 y7 y8 u_print_count u_print_cells → va_P (dC, dI) vwCl (w_Ma_makeGrid ad a_this a_spans a_leftOut a_print a_spans_lows a_spans_highs a_print_cells a_print_family a_print_yard a_print_columns a_print_rows a_print_line k_spans_highs k_leftOut k_print_cells v_this_rounding v_this_toe v_this_heel v_this_side v_this_pitch v_this_outer v_this_inner v_this_across v_this_hole v_spans_toldBits v_spans_exactBits v_spans_highs v_leftOut v_print_atHand u_print_count v_print_thermal v_print_density v_print_outerHigh v_print_pasteLeft v_print_pasteLow v_print_nameLength v_print_isWritten u_print_cells) H → va_D A (w_Ma_makeGrid ad a_this a_spans a_leftOut a_print a_spans_lows a_spans_highs a_print_cells a_print_family a_print_yard a_print_columns a_print_rows a_print_line k_spans_highs k_leftOut k_print_cells v_this_rounding v_this_toe v_this_heel v_this_side v_this_pitch v_this_outer v_this_inner v_this_across v_this_hole v_spans_toldBits v_spans_exactBits v_spans_highs v_leftOut v_print_atHand u_print_count v_print_thermal v_print_density v_print_outerHigh v_print_pasteLeft v_print_pasteLow v_print_nameLength v_print_isWritten u_print_cells) → va_S A s.heap H locs → ∀ ls : Array Slot, lv_has ls 14 [(0, .ref a_this), (1, .long y1), (3, .long y3), (5, .long y5), (7, .int y7), (8, .int y8)] → W p l e (headSpec wsMa_makeGrid { frames := 3, cells := 0, slots := 0, locals := 70 }).room s m args below meth c H locs 0 0 (MQ below (va_Qi (fun (r : Int32) (u : Int32 × (Nat → Int64)) => post r u.1 u.2) (zB (dC, dI) A (fun (u : Int32 × (Nat → Int64)) => (w_Ma_makeGrid ad a_this a_spans a_leftOut a_print a_spans_lows a_spans_highs a_print_cells a_print_family a_print_yard a_print_columns a_print_rows a_print_line k_spans_highs k_leftOut k_print_cells v_this_rounding v_this_toe v_this_heel v_this_side v_this_pitch v_this_outer v_this_inner v_this_across v_this_hole v_spans_toldBits v_spans_exactBits v_spans_highs v_leftOut v_print_atHand u.1 v_print_thermal v_print_density v_print_outerHigh v_print_pasteLeft v_print_pasteLow v_print_nameLength v_print_isWritten u.2))) A) args s 0 0 A) (F0 m 100 ls []) := by
  obtain ⟨hx, hb, hr, hml, hown, hts, hlocks, hA⟩ := id C0
  intro n
  induction n with
  | zero =>
    intro y1 y3 y5 y7 y8 u_print_count u_print_cells H locs h
    exact False.elim h
  | succ n ih =>
    intro y1 y3 y5 y7 y8 u_print_count u_print_cells H locs h hP hD hS ls hl
    rw [P_Ma_makeGrid_100] at h
    refine lv_iload hx hb dMa_makeGrid_100 (lv_at hl 5 rfl) ?_
    refine lv_i2l hx hb dMa_makeGrid_102 rfl ?_
    refine lv_lload_n hx hb dMa_makeGrid_103 rfl (lv_at hl 1 rfl) ?_
    refine zz_lcmp_ge (tgt := 214) hx hb dMa_makeGrid_104 dMa_makeGrid_105 (by decide) ?_ ?_
    · intro c1
      replace h := h.1 c1
      refine lv_iconst (v := 1) hx hb dMa_makeGrid_214 (by decide) ?_
      exact W.zret (v := 1) hx hb hr rfl (fun t ht hW => ⟨⟨1, (u_print_count, u_print_cells), rfl, h, by rw [ht]; exact hP, hD⟩, hS.F ht⟩) hS.2.2 dMa_makeGrid_215
    · intro c1
      replace h := h.2 c1
      refine lv_iconst (v := 0) hx hb dMa_makeGrid_108 (by decide) ?_
      refine lv_istore (lv' := [(9, .int 0), (0, .ref a_this), (1, .long y1), (3, .long y3), (5, .long y5), (7, .int y7), (8, .int y8)]) hx hb dMa_makeGrid_109 hl (by decide) rfl (fun ls hl => ?_)
      obtain ⟨n2, h⟩ := h
      exact w_Ma_makeGrid_111 l C0 hE a_this a_spans a_leftOut a_print a_spans_lows a_spans_highs a_print_cells a_print_family a_print_yard a_print_columns a_print_rows a_print_line k_spans_highs k_leftOut k_print_cells v_this_rounding v_this_toe v_this_heel v_this_side v_this_pitch v_this_outer v_this_inner v_this_across v_this_hole v_spans_toldBits v_spans_exactBits v_spans_highs v_leftOut v_print_atHand v_print_count v_print_thermal v_print_density v_print_outerHigh v_print_pasteLeft v_print_pasteLow v_print_nameLength v_print_isWritten v_print_cells post (P_Ma_makeGrid_100 v_this_pitch v_leftOut post n) ih hK n2 y1 y3 y5 y7 y8 0 u_print_count u_print_cells _ _ h hP hD hS ls (lv_sub hl [1, 2, 3, 4, 5, 6, 0] rfl)
def P_Ma_makeGrid (v_this_rounding : Int64) (v_this_side : Int64) (v_this_pitch : Int64) (v_spans_toldBits : Int32) (v_spans_highs : Nat → Int64) (v_leftOut : Nat → Int32) (v_print_count : Int32) (v_print_cells : Nat → Int64) (post : Int32 → Int32 → (Nat → Int64) → Prop) : Prop := P_Sp_highOf 5 v_spans_toldBits v_spans_highs (fun (r1 : Int64) => P_Sp_highOf 6 v_spans_toldBits v_spans_highs (fun (r2 : Int64) => P_Sp_highOf 7 v_spans_toldBits v_spans_highs (fun (r3 : Int64) => P_Ma_upTwice (r3 + (2 * v_this_side)) v_this_rounding (fun (r4 : Int64) => P_Ma_isEvenAboveZero v_this_pitch (fun (r5 : Int32) => ((r5 = 0 → post 0 v_print_count v_print_cells) ∧ (¬ r5 = 0 → ((r4 ≤ 0 → post 0 v_print_count v_print_cells) ∧ (¬ r4 ≤ 0 → ((v_this_pitch ≤ r4 → post 0 v_print_count v_print_cells) ∧ (¬ v_this_pitch ≤ r4 → P_F_isWithin r1 1 8 (fun (r9 : Int32) => ((r9 = 0 → post 0 v_print_count v_print_cells) ∧ (¬ r9 = 0 → P_F_isWithin r2 1 8 (fun (r11 : Int32) => ((¬ r11 = 0 → ∃ n13, P_Ma_makeGrid_100 v_this_pitch v_leftOut post n13 r1 r2 r4 0 0 v_print_count v_print_cells) ∧ (r11 = 0 → post 0 v_print_count v_print_cells)))))))))))))))))
set_option maxHeartbeats 4000000 in
set_option maxRecDepth 100000 in
theorem c_Ma_makeGrid (l : Launch) (dC : Nat → ClassId) (dI : Nat → Nat → Nat) (ad : Nat → Nat → Nat) (a_this : Nat) (a_spans : Nat) (a_leftOut : Nat) (a_print : Nat) (a_spans_lows : Nat) (a_spans_highs : Nat) (a_print_cells : Nat) (a_print_family : Nat) (a_print_yard : Nat) (a_print_columns : Nat) (a_print_rows : Nat) (a_print_line : Nat) (k_spans_highs : ClassId) (k_leftOut : ClassId) (k_print_cells : ClassId) (sz : Nat) (v_this_rounding : Int64) (v_this_toe : Int64) (v_this_heel : Int64) (v_this_side : Int64) (v_this_pitch : Int64) (v_this_outer : Int64) (v_this_inner : Int64) (v_this_across : Int64) (v_this_hole : Int64) (v_spans_toldBits : Int32) (v_spans_exactBits : Int32) (v_spans_highs : Nat → Int64) (v_leftOut : Nat → Int32) (v_print_atHand : Int32) (v_print_count : Int32) (v_print_thermal : Int32) (v_print_density : Int32) (v_print_outerHigh : Int64) (v_print_pasteLeft : Int64) (v_print_pasteLow : Int64) (v_print_nameLength : Int32) (v_print_isWritten : Int32) (v_print_cells : Nat → Int64) (post : Int32 → Int32 → (Nat → Int64) → Prop) (h : P_Ma_makeGrid v_this_rounding v_this_side v_this_pitch v_spans_toldBits v_spans_highs v_leftOut v_print_count v_print_cells post) : zMi l yMa_makeGrid wsMa_makeGrid { frames := 3, cells := 0, slots := 0, locals := 70 } (dC, dI) ad [.ref a_this] (w_Ma_makeGrid ad a_this a_spans a_leftOut a_print a_spans_lows a_spans_highs a_print_cells a_print_family a_print_yard a_print_columns a_print_rows a_print_line k_spans_highs k_leftOut k_print_cells v_this_rounding v_this_toe v_this_heel v_this_side v_this_pitch v_this_outer v_this_inner v_this_across v_this_hole v_spans_toldBits v_spans_exactBits v_spans_highs v_leftOut v_print_atHand v_print_count v_print_thermal v_print_density v_print_outerHigh v_print_pasteLeft v_print_pasteLow v_print_nameLength v_print_isWritten v_print_cells) [(k_spans_highs, .long), (k_leftOut, .boolean), (k_print_cells, .long)] sz (fun (r : Int32) (u : Int32 × (Nat → Int64)) => post r u.1 u.2) (fun (u : Int32 × (Nat → Int64)) => (w_Ma_makeGrid ad a_this a_spans a_leftOut a_print a_spans_lows a_spans_highs a_print_cells a_print_family a_print_yard a_print_columns a_print_rows a_print_line k_spans_highs k_leftOut k_print_cells v_this_rounding v_this_toe v_this_heel v_this_side v_this_pitch v_this_outer v_this_inner v_this_across v_this_hole v_spans_toldBits v_spans_exactBits v_spans_highs v_leftOut v_print_atHand u.1 v_print_thermal v_print_density v_print_outerHigh v_print_pasteLeft v_print_pasteLow v_print_nameLength v_print_isWritten u.2)) 0 0 := by
  refine Met.ofW (cc := cMa_makeGrid) (maxL := 14) (ret := (some .boolean)) (by decide +kernel) rfl ?_
  intro p e s m args below meth c s₁ B hml hv
  obtain ⟨rfl, hsz, hP, hK, hD0, hE⟩ := hv
  have hx := B.exec
  have hb := B.bytes
  have hr := B.returns
  have hts0 := atoms_spec (ws := wsMa_makeGrid) B.pre
  have hts := fun w h => hts0 w (List.mem_cons_of_mem _ h)
  have hown : s.vm.findClass RMa = some m.cls := findClass_of_methodNamed B.named
  have hlocks := B.notSynchronized
  subst hsz
  have hD := hD0.self (sz := s.heap.size)
  generalize hAe : va_A (w_Ma_makeGrid ad a_this a_spans a_leftOut a_print a_spans_lows a_spans_highs a_print_cells a_print_family a_print_yard a_print_columns a_print_rows a_print_line k_spans_highs k_leftOut k_print_cells v_this_rounding v_this_toe v_this_heel v_this_side v_this_pitch v_this_outer v_this_inner v_this_across v_this_hole v_spans_toldBits v_spans_exactBits v_spans_highs v_leftOut v_print_atHand v_print_count v_print_thermal v_print_density v_print_outerHigh v_print_pasteLeft v_print_pasteLow v_print_nameLength v_print_isWritten v_print_cells) s.heap.size = A at hD hE ⊢
  have hA : ∀ q : Nat, s.heap.size ≤ q → A q := fun q h => by rw [← hAe]; exact Or.inr h
  have C0 := zC.mk hx hb hr hml hown hts hlocks hA
  have hS : va_S A s.heap s.heap [] := va_S.rf
  have hl := lv_entry ([.ref a_this]) (n := 14) (Nat.le_of_ble_eq_true rfl)
  rw [lg_entry_eq]
  generalize (lg_sl ([.ref a_this]) ++ List.replicate (14 - (lg_sl ([.ref a_this])).length) Slot.unset).toArray = ls at hl ⊢
  have hl : lv_has ls 14 [(0, .ref a_this)] := hl
  unfold P_Ma_makeGrid at h
  refine lv_aload_n hx hb dMa_makeGrid_0 rfl (lv_at hl 0 rfl) ?_
  refine va_get (D := (dC, dI)) (ci := 4) (v := .ref a_spans) (C := RMa) (T := TMa) (N := 12) hx hb hts inZ_Ma hown hK hP 0 rfl rfl 0 (by decide) (hts _ zw_331) (fun _ h9 => h9) rfl dMa_makeGrid_1 ?_
  refine lv_iconst (v := 5) hx hb dMa_makeGrid_4 (by decide) ?_
  refine zcall_l hP hD hS hA [1, 2] [0, 3, 4, 5] (va_runVN (As := [.int 5]) (rest := []) ⟨hx, hb, hml, hown, hts⟩ (c_Sp_highOf l dC dI ad a_spans a_spans_lows a_spans_highs k_spans_highs _ 5 v_spans_toldBits v_spans_exactBits v_spans_highs _ h) ⟨va_cnB 1 hts (zgood zc_Sp_highOf) rfl rfl rfl (hE.nw _ zn_692) (hts _ zw_100) (by decide +kernel) ⟨Nat.le_of_ble_eq_true rfl, Nat.le_of_ble_eq_true rfl⟩, (hts _ zw_694), (hts _ zw_24)⟩ (zpreV hE hK hP hD hS hA [1, 2] [0] (by rfl) (by rfl) (by decide) (ci := 3) (q0 := 1) rfl (by rfl)) rfl rfl hl.1 rfl (lv_room (Nat.le_of_ble_eq_true rfl)) dMa_makeGrid_5 ⟨Nat.le_of_ble_eq_true rfl, Nat.le_of_ble_eq_true rfl⟩) (by rfl) (by rfl) (by decide) (by decide) (fun r1 u H locs h hP hD hS => ?_)
  try dsimp only at h
  have hP := hP.sub (ws' := (w_Ma_makeGrid ad a_this a_spans a_leftOut a_print a_spans_lows a_spans_highs a_print_cells a_print_family a_print_yard a_print_columns a_print_rows a_print_line k_spans_highs k_leftOut k_print_cells v_this_rounding v_this_toe v_this_heel v_this_side v_this_pitch v_this_outer v_this_inner v_this_across v_this_hole v_spans_toldBits v_spans_exactBits v_spans_highs v_leftOut v_print_atHand v_print_count v_print_thermal v_print_density v_print_outerHigh v_print_pasteLeft v_print_pasteLow v_print_nameLength v_print_isWritten v_print_cells)) [0, 4, 5, 1, 2, 3] rfl
  have hD := hD.sub (ws' := (w_Ma_makeGrid ad a_this a_spans a_leftOut a_print a_spans_lows a_spans_highs a_print_cells a_print_family a_print_yard a_print_columns a_print_rows a_print_line k_spans_highs k_leftOut k_print_cells v_this_rounding v_this_toe v_this_heel v_this_side v_this_pitch v_this_outer v_this_inner v_this_across v_this_hole v_spans_toldBits v_spans_exactBits v_spans_highs v_leftOut v_print_atHand v_print_count v_print_thermal v_print_density v_print_outerHigh v_print_pasteLeft v_print_pasteLow v_print_nameLength v_print_isWritten v_print_cells)) [0, 4, 5, 1, 2, 3] (by decide) rfl
  refine lv_lstore_n (lv' := [(1, .long r1), (0, .ref a_this)]) hx hb dMa_makeGrid_8 rfl hl (by decide) rfl (fun ls hl => ?_)
  refine lv_aload_n hx hb dMa_makeGrid_9 rfl (lv_at hl 1 rfl) ?_
  refine va_get (D := (dC, dI)) (ci := 4) (v := .ref a_spans) (C := RMa) (T := TMa) (N := 12) hx hb hts inZ_Ma hown hK hP 0 rfl rfl 0 (by decide) (hts _ zw_331) (fun _ h9 => h9) rfl dMa_makeGrid_10 ?_
  refine lv_bipush (v := 6) hx hb dMa_makeGrid_13 (by decide) ?_
  refine zcall_l hP hD hS hA [1, 2] [0, 3, 4, 5] (va_runVN (As := [.int 6]) (rest := []) ⟨hx, hb, hml, hown, hts⟩ (c_Sp_highOf l dC dI ad a_spans a_spans_lows a_spans_highs k_spans_highs _ 6 v_spans_toldBits v_spans_exactBits v_spans_highs _ h) ⟨va_cnB 1 hts (zgood zc_Sp_highOf) rfl rfl rfl (hE.nw _ zn_692) (hts _ zw_100) (by decide +kernel) ⟨Nat.le_of_ble_eq_true rfl, Nat.le_of_ble_eq_true rfl⟩, (hts _ zw_694), (hts _ zw_24)⟩ (zpreV hE hK hP hD hS hA [1, 2] [0] (by rfl) (by rfl) (by decide) (ci := 3) (q0 := 1) rfl (by rfl)) rfl rfl hl.1 rfl (lv_room (Nat.le_of_ble_eq_true rfl)) dMa_makeGrid_15 ⟨Nat.le_of_ble_eq_true rfl, Nat.le_of_ble_eq_true rfl⟩) (by rfl) (by rfl) (by decide) (by decide) (fun r2 u H locs h hP hD hS => ?_)
  try dsimp only at h
  have hP := hP.sub (ws' := (w_Ma_makeGrid ad a_this a_spans a_leftOut a_print a_spans_lows a_spans_highs a_print_cells a_print_family a_print_yard a_print_columns a_print_rows a_print_line k_spans_highs k_leftOut k_print_cells v_this_rounding v_this_toe v_this_heel v_this_side v_this_pitch v_this_outer v_this_inner v_this_across v_this_hole v_spans_toldBits v_spans_exactBits v_spans_highs v_leftOut v_print_atHand v_print_count v_print_thermal v_print_density v_print_outerHigh v_print_pasteLeft v_print_pasteLow v_print_nameLength v_print_isWritten v_print_cells)) [0, 4, 5, 1, 2, 3] rfl
  have hD := hD.sub (ws' := (w_Ma_makeGrid ad a_this a_spans a_leftOut a_print a_spans_lows a_spans_highs a_print_cells a_print_family a_print_yard a_print_columns a_print_rows a_print_line k_spans_highs k_leftOut k_print_cells v_this_rounding v_this_toe v_this_heel v_this_side v_this_pitch v_this_outer v_this_inner v_this_across v_this_hole v_spans_toldBits v_spans_exactBits v_spans_highs v_leftOut v_print_atHand v_print_count v_print_thermal v_print_density v_print_outerHigh v_print_pasteLeft v_print_pasteLow v_print_nameLength v_print_isWritten v_print_cells)) [0, 4, 5, 1, 2, 3] (by decide) rfl
  refine lv_lstore_n (lv' := [(3, .long r2), (1, .long r1), (0, .ref a_this)]) hx hb dMa_makeGrid_18 rfl hl (by decide) rfl (fun ls hl => ?_)
  refine lv_aload_n hx hb dMa_makeGrid_19 rfl (lv_at hl 2 rfl) ?_
  refine lv_aload_n hx hb dMa_makeGrid_20 rfl (lv_at hl 2 rfl) ?_
  refine va_get (D := (dC, dI)) (ci := 4) (v := .ref a_spans) (C := RMa) (T := TMa) (N := 12) hx hb hts inZ_Ma hown hK hP 0 rfl rfl 0 (by decide) (hts _ zw_331) (fun _ h9 => h9) rfl dMa_makeGrid_21 ?_
  refine lv_bipush (v := 7) hx hb dMa_makeGrid_24 (by decide) ?_
  refine zcall_l hP hD hS hA [1, 2] [0, 3, 4, 5] (va_runVN (As := [.int 7]) (rest := [.ref a_this]) ⟨hx, hb, hml, hown, hts⟩ (c_Sp_highOf l dC dI ad a_spans a_spans_lows a_spans_highs k_spans_highs _ 7 v_spans_toldBits v_spans_exactBits v_spans_highs _ h) ⟨va_cnB 1 hts (zgood zc_Sp_highOf) rfl rfl rfl (hE.nw _ zn_692) (hts _ zw_100) (by decide +kernel) ⟨Nat.le_of_ble_eq_true rfl, Nat.le_of_ble_eq_true rfl⟩, (hts _ zw_694), (hts _ zw_24)⟩ (zpreV hE hK hP hD hS hA [1, 2] [0] (by rfl) (by rfl) (by decide) (ci := 3) (q0 := 1) rfl (by rfl)) rfl rfl hl.1 rfl (lv_room (Nat.le_of_ble_eq_true rfl)) dMa_makeGrid_26 ⟨Nat.le_of_ble_eq_true rfl, Nat.le_of_ble_eq_true rfl⟩) (by rfl) (by rfl) (by decide) (by decide) (fun r3 u H locs h hP hD hS => ?_)
  try dsimp only at h
  have hP := hP.sub (ws' := (w_Ma_makeGrid ad a_this a_spans a_leftOut a_print a_spans_lows a_spans_highs a_print_cells a_print_family a_print_yard a_print_columns a_print_rows a_print_line k_spans_highs k_leftOut k_print_cells v_this_rounding v_this_toe v_this_heel v_this_side v_this_pitch v_this_outer v_this_inner v_this_across v_this_hole v_spans_toldBits v_spans_exactBits v_spans_highs v_leftOut v_print_atHand v_print_count v_print_thermal v_print_density v_print_outerHigh v_print_pasteLeft v_print_pasteLow v_print_nameLength v_print_isWritten v_print_cells)) [0, 4, 5, 1, 2, 3] rfl
  have hD := hD.sub (ws' := (w_Ma_makeGrid ad a_this a_spans a_leftOut a_print a_spans_lows a_spans_highs a_print_cells a_print_family a_print_yard a_print_columns a_print_rows a_print_line k_spans_highs k_leftOut k_print_cells v_this_rounding v_this_toe v_this_heel v_this_side v_this_pitch v_this_outer v_this_inner v_this_across v_this_hole v_spans_toldBits v_spans_exactBits v_spans_highs v_leftOut v_print_atHand v_print_count v_print_thermal v_print_density v_print_outerHigh v_print_pasteLeft v_print_pasteLow v_print_nameLength v_print_isWritten v_print_cells)) [0, 4, 5, 1, 2, 3] (by decide) rfl
  refine lv_ldc2 (own := RMa) (index := 129) (v := 2) hx hb hown (hts _ zw_735) dMa_makeGrid_29 ?_
  refine lv_aload_n hx hb dMa_makeGrid_32 rfl (lv_at hl 2 rfl) ?_
  refine va_get (D := (dC, dI)) (ci := 4) (v := .long v_this_side) (C := RMa) (T := TMa) (N := 12) hx hb hts inZ_Ma hown hK hP 0 rfl rfl 6 (by decide) (hts _ zw_340) (fun _ h9 => h9) rfl dMa_makeGrid_33 ?_
  refine lv_lmul hx hb dMa_makeGrid_36 ?_
  refine lv_ladd hx hb dMa_makeGrid_37 ?_
  refine zcall_l hP hD hS hA [0] [1, 2, 3, 4, 5] (va_runV (As := [.long (r3 + (2 * v_this_side))]) (rest := []) ⟨hx, hb, hml, hown, hts⟩ (c_Ma_upTwice l dC dI ad a_this a_spans a_leftOut a_print _ (r3 + (2 * v_this_side)) v_this_rounding v_this_toe v_this_heel v_this_side v_this_pitch v_this_outer v_this_inner v_this_across v_this_hole _ h) ⟨callB_of 1 hts (zgood zc_Ma_upTwice) rfl rfl rfl (hts _ zw_99) (hts _ zw_736) (by decide +kernel) ⟨Nat.le_of_ble_eq_true rfl, Nat.le_of_ble_eq_true rfl⟩, (hts _ zw_738), (hts _ zw_32)⟩ (zpreV hE hK hP hD hS hA [0] [] (by rfl) (by rfl) (by decide) (ci := 4) (q0 := 0) rfl (by rfl)) rfl rfl hl.1 rfl (lv_room (Nat.le_of_ble_eq_true rfl)) dMa_makeGrid_38 ⟨Nat.le_of_ble_eq_true rfl, Nat.le_of_ble_eq_true rfl⟩) (by rfl) (by rfl) (by decide) (by decide) (fun r4 u H locs h hP hD hS => ?_)
  try dsimp only at h
  have hP := hP.sub (ws' := (w_Ma_makeGrid ad a_this a_spans a_leftOut a_print a_spans_lows a_spans_highs a_print_cells a_print_family a_print_yard a_print_columns a_print_rows a_print_line k_spans_highs k_leftOut k_print_cells v_this_rounding v_this_toe v_this_heel v_this_side v_this_pitch v_this_outer v_this_inner v_this_across v_this_hole v_spans_toldBits v_spans_exactBits v_spans_highs v_leftOut v_print_atHand v_print_count v_print_thermal v_print_density v_print_outerHigh v_print_pasteLeft v_print_pasteLow v_print_nameLength v_print_isWritten v_print_cells)) [5, 0, 1, 2, 3, 4] rfl
  have hD := hD.sub (ws' := (w_Ma_makeGrid ad a_this a_spans a_leftOut a_print a_spans_lows a_spans_highs a_print_cells a_print_family a_print_yard a_print_columns a_print_rows a_print_line k_spans_highs k_leftOut k_print_cells v_this_rounding v_this_toe v_this_heel v_this_side v_this_pitch v_this_outer v_this_inner v_this_across v_this_hole v_spans_toldBits v_spans_exactBits v_spans_highs v_leftOut v_print_atHand v_print_count v_print_thermal v_print_density v_print_outerHigh v_print_pasteLeft v_print_pasteLow v_print_nameLength v_print_isWritten v_print_cells)) [5, 0, 1, 2, 3, 4] (by decide) rfl
  refine lv_lstore (lv' := [(5, .long r4), (3, .long r2), (1, .long r1), (0, .ref a_this)]) hx hb dMa_makeGrid_41 hl (by decide) rfl (fun ls hl => ?_)
  refine lv_aload_n hx hb dMa_makeGrid_43 rfl (lv_at hl 3 rfl) ?_
  refine va_get (D := (dC, dI)) (ci := 4) (v := .long v_this_pitch) (C := RMa) (T := TMa) (N := 12) hx hb hts inZ_Ma hown hK hP 0 rfl rfl 7 (by decide) (hts _ zw_341) (fun _ h9 => h9) rfl dMa_makeGrid_44 ?_
  refine zcall_i hP hD hS hA [] [0, 1, 2, 3, 4, 5] (va_runS (As := [.long v_this_pitch]) (rest := []) ⟨hx, hb, hml, hown, hts⟩ (c_Ma_isEvenAboveZero l dC dI ad _ v_this_pitch _ h) ⟨callB_of 1 hts (zgood zc_Ma_isEvenAboveZero) rfl rfl rfl (hts _ zw_99) (hts _ zw_746) (by decide +kernel) ⟨Nat.le_of_ble_eq_true rfl, Nat.le_of_ble_eq_true rfl⟩, (hts _ zw_747)⟩ (zpreS hE hK hP hD hS hA [] [] (by rfl) (by rfl) (by decide)) rfl rfl hl.1 rfl (lv_room (Nat.le_of_ble_eq_true rfl)) dMa_makeGrid_47 ⟨Nat.le_of_ble_eq_true rfl, Nat.le_of_ble_eq_true rfl⟩) (by rfl) (by rfl) (by decide) (by decide) (fun r5 u H locs h hP hD hS => ?_)
  try dsimp only at h
  have hP := hP.sub (ws' := (w_Ma_makeGrid ad a_this a_spans a_leftOut a_print a_spans_lows a_spans_highs a_print_cells a_print_family a_print_yard a_print_columns a_print_rows a_print_line k_spans_highs k_leftOut k_print_cells v_this_rounding v_this_toe v_this_heel v_this_side v_this_pitch v_this_outer v_this_inner v_this_across v_this_hole v_spans_toldBits v_spans_exactBits v_spans_highs v_leftOut v_print_atHand v_print_count v_print_thermal v_print_density v_print_outerHigh v_print_pasteLeft v_print_pasteLow v_print_nameLength v_print_isWritten v_print_cells)) [0, 1, 2, 3, 4, 5] rfl
  have hD := hD.sub (ws' := (w_Ma_makeGrid ad a_this a_spans a_leftOut a_print a_spans_lows a_spans_highs a_print_cells a_print_family a_print_yard a_print_columns a_print_rows a_print_line k_spans_highs k_leftOut k_print_cells v_this_rounding v_this_toe v_this_heel v_this_side v_this_pitch v_this_outer v_this_inner v_this_across v_this_hole v_spans_toldBits v_spans_exactBits v_spans_highs v_leftOut v_print_atHand v_print_count v_print_thermal v_print_density v_print_outerHigh v_print_pasteLeft v_print_pasteLow v_print_nameLength v_print_isWritten v_print_cells)) [0, 1, 2, 3, 4, 5] (by decide) rfl
  refine lv_if_eq (tgt := 92) hx hb dMa_makeGrid_50 (by decide) ?_ ?_
  · intro c6
    replace h := h.1 c6
    refine lv_iconst (v := 0) hx hb dMa_makeGrid_92 (by decide) ?_
    exact W.zret (v := 0) hx hb hr rfl (fun t ht hW => ⟨⟨0, (v_print_count, v_print_cells), rfl, h, by rw [ht]; exact hP, hD⟩, hS.F ht⟩) hS.2.2 dMa_makeGrid_93
  · intro c6
    replace h := h.2 c6
    refine lv_lload hx hb dMa_makeGrid_53 (lv_at hl 0 rfl) ?_
    refine lv_lconst (v := 0) hx hb dMa_makeGrid_55 (by decide) ?_
    refine zz_lcmp_le (tgt := 92) hx hb dMa_makeGrid_56 dMa_makeGrid_57 (by decide) ?_ ?_
    · intro c7
      replace h := h.1 c7
      refine lv_iconst (v := 0) hx hb dMa_makeGrid_92 (by decide) ?_
      exact W.zret (v := 0) hx hb hr rfl (fun t ht hW => ⟨⟨0, (v_print_count, v_print_cells), rfl, h, by rw [ht]; exact hP, hD⟩, hS.F ht⟩) hS.2.2 dMa_makeGrid_93
    · intro c7
      replace h := h.2 c7
      refine lv_lload hx hb dMa_makeGrid_60 (lv_at hl 0 rfl) ?_
      refine lv_aload_n hx hb dMa_makeGrid_62 rfl (lv_at hl 3 rfl) ?_
      refine va_get (D := (dC, dI)) (ci := 4) (v := .long v_this_pitch) (C := RMa) (T := TMa) (N := 12) hx hb hts inZ_Ma hown hK hP 0 rfl rfl 7 (by decide) (hts _ zw_341) (fun _ h9 => h9) rfl dMa_makeGrid_63 ?_
      refine zz_lcmp_ge (tgt := 92) hx hb dMa_makeGrid_66 dMa_makeGrid_67 (by decide) ?_ ?_
      · intro c8
        replace h := h.1 c8
        refine lv_iconst (v := 0) hx hb dMa_makeGrid_92 (by decide) ?_
        exact W.zret (v := 0) hx hb hr rfl (fun t ht hW => ⟨⟨0, (v_print_count, v_print_cells), rfl, h, by rw [ht]; exact hP, hD⟩, hS.F ht⟩) hS.2.2 dMa_makeGrid_93
      · intro c8
        replace h := h.2 c8
        refine lv_lload_n hx hb dMa_makeGrid_70 rfl (lv_at hl 2 rfl) ?_
        refine lv_lconst (v := 1) hx hb dMa_makeGrid_71 (by decide) ?_
        refine lv_ldc2 (own := RMa) (index := 146) (v := 8) hx hb hown (hts _ zw_749) dMa_makeGrid_72 ?_
        refine zcall_i hP hD hS hA [] [0, 1, 2, 3, 4, 5] (va_runSN (As := [.long r1, .long 1, .long 8]) (rest := []) ⟨hx, hb, hml, hown, hts⟩ (c_F_isWithin l dC dI ad _ r1 1 8 _ h) ⟨va_cnB 3 hts (zgood zc_F_isWithin) rfl rfl rfl (hE.nw _ zn_750) (hts _ zw_95) (by decide +kernel) ⟨Nat.le_of_ble_eq_true rfl, Nat.le_of_ble_eq_true rfl⟩, (hts _ zw_657), trivial⟩ (zpreS hE hK hP hD hS hA [] [] (by rfl) (by rfl) (by decide)) rfl rfl hl.1 rfl (lv_room (Nat.le_of_ble_eq_true rfl)) dMa_makeGrid_75 ⟨Nat.le_of_ble_eq_true rfl, Nat.le_of_ble_eq_true rfl⟩) (by rfl) (by rfl) (by decide) (by decide) (fun r9 u H locs h hP hD hS => ?_)
        try dsimp only at h
        have hP := hP.sub (ws' := (w_Ma_makeGrid ad a_this a_spans a_leftOut a_print a_spans_lows a_spans_highs a_print_cells a_print_family a_print_yard a_print_columns a_print_rows a_print_line k_spans_highs k_leftOut k_print_cells v_this_rounding v_this_toe v_this_heel v_this_side v_this_pitch v_this_outer v_this_inner v_this_across v_this_hole v_spans_toldBits v_spans_exactBits v_spans_highs v_leftOut v_print_atHand v_print_count v_print_thermal v_print_density v_print_outerHigh v_print_pasteLeft v_print_pasteLow v_print_nameLength v_print_isWritten v_print_cells)) [0, 1, 2, 3, 4, 5] rfl
        have hD := hD.sub (ws' := (w_Ma_makeGrid ad a_this a_spans a_leftOut a_print a_spans_lows a_spans_highs a_print_cells a_print_family a_print_yard a_print_columns a_print_rows a_print_line k_spans_highs k_leftOut k_print_cells v_this_rounding v_this_toe v_this_heel v_this_side v_this_pitch v_this_outer v_this_inner v_this_across v_this_hole v_spans_toldBits v_spans_exactBits v_spans_highs v_leftOut v_print_atHand v_print_count v_print_thermal v_print_density v_print_outerHigh v_print_pasteLeft v_print_pasteLow v_print_nameLength v_print_isWritten v_print_cells)) [0, 1, 2, 3, 4, 5] (by decide) rfl
        refine lv_if_eq (tgt := 92) hx hb dMa_makeGrid_78 (by decide) ?_ ?_
        · intro c10
          replace h := h.1 c10
          refine lv_iconst (v := 0) hx hb dMa_makeGrid_92 (by decide) ?_
          exact W.zret (v := 0) hx hb hr rfl (fun t ht hW => ⟨⟨0, (v_print_count, v_print_cells), rfl, h, by rw [ht]; exact hP, hD⟩, hS.F ht⟩) hS.2.2 dMa_makeGrid_93
        · intro c10
          replace h := h.2 c10
          refine lv_lload_n hx hb dMa_makeGrid_81 rfl (lv_at hl 1 rfl) ?_
          refine lv_lconst (v := 1) hx hb dMa_makeGrid_82 (by decide) ?_
          refine lv_ldc2 (own := RMa) (index := 146) (v := 8) hx hb hown (hts _ zw_749) dMa_makeGrid_83 ?_
          refine zcall_i hP hD hS hA [] [0, 1, 2, 3, 4, 5] (va_runSN (As := [.long r2, .long 1, .long 8]) (rest := []) ⟨hx, hb, hml, hown, hts⟩ (c_F_isWithin l dC dI ad _ r2 1 8 _ h) ⟨va_cnB 3 hts (zgood zc_F_isWithin) rfl rfl rfl (hE.nw _ zn_750) (hts _ zw_95) (by decide +kernel) ⟨Nat.le_of_ble_eq_true rfl, Nat.le_of_ble_eq_true rfl⟩, (hts _ zw_657), trivial⟩ (zpreS hE hK hP hD hS hA [] [] (by rfl) (by rfl) (by decide)) rfl rfl hl.1 rfl (lv_room (Nat.le_of_ble_eq_true rfl)) dMa_makeGrid_86 ⟨Nat.le_of_ble_eq_true rfl, Nat.le_of_ble_eq_true rfl⟩) (by rfl) (by rfl) (by decide) (by decide) (fun r11 u H locs h hP hD hS => ?_)
          try dsimp only at h
          have hP := hP.sub (ws' := (w_Ma_makeGrid ad a_this a_spans a_leftOut a_print a_spans_lows a_spans_highs a_print_cells a_print_family a_print_yard a_print_columns a_print_rows a_print_line k_spans_highs k_leftOut k_print_cells v_this_rounding v_this_toe v_this_heel v_this_side v_this_pitch v_this_outer v_this_inner v_this_across v_this_hole v_spans_toldBits v_spans_exactBits v_spans_highs v_leftOut v_print_atHand v_print_count v_print_thermal v_print_density v_print_outerHigh v_print_pasteLeft v_print_pasteLow v_print_nameLength v_print_isWritten v_print_cells)) [0, 1, 2, 3, 4, 5] rfl
          have hD := hD.sub (ws' := (w_Ma_makeGrid ad a_this a_spans a_leftOut a_print a_spans_lows a_spans_highs a_print_cells a_print_family a_print_yard a_print_columns a_print_rows a_print_line k_spans_highs k_leftOut k_print_cells v_this_rounding v_this_toe v_this_heel v_this_side v_this_pitch v_this_outer v_this_inner v_this_across v_this_hole v_spans_toldBits v_spans_exactBits v_spans_highs v_leftOut v_print_atHand v_print_count v_print_thermal v_print_density v_print_outerHigh v_print_pasteLeft v_print_pasteLow v_print_nameLength v_print_isWritten v_print_cells)) [0, 1, 2, 3, 4, 5] (by decide) rfl
          refine lv_if_ne (tgt := 94) hx hb dMa_makeGrid_89 (by decide) ?_ ?_
          · intro c12
            replace h := h.1 c12
            refine lv_iconst (v := 0) hx hb dMa_makeGrid_94 (by decide) ?_
            refine lv_istore (lv' := [(7, .int 0), (5, .long r4), (3, .long r2), (1, .long r1), (0, .ref a_this)]) hx hb dMa_makeGrid_95 hl (by decide) rfl (fun ls hl => ?_)
            refine lv_iconst (v := 0) hx hb dMa_makeGrid_97 (by decide) ?_
            refine lv_istore (lv' := [(8, .int 0), (7, .int 0), (5, .long r4), (3, .long r2), (1, .long r1), (0, .ref a_this)]) hx hb dMa_makeGrid_98 hl (by decide) rfl (fun ls hl => ?_)
            obtain ⟨n13, h⟩ := h
            exact w_Ma_makeGrid_100 l C0 hE a_this a_spans a_leftOut a_print a_spans_lows a_spans_highs a_print_cells a_print_family a_print_yard a_print_columns a_print_rows a_print_line k_spans_highs k_leftOut k_print_cells v_this_rounding v_this_toe v_this_heel v_this_side v_this_pitch v_this_outer v_this_inner v_this_across v_this_hole v_spans_toldBits v_spans_exactBits v_spans_highs v_leftOut v_print_atHand v_print_count v_print_thermal v_print_density v_print_outerHigh v_print_pasteLeft v_print_pasteLow v_print_nameLength v_print_isWritten v_print_cells post hK n13 r1 r2 r4 0 0 v_print_count v_print_cells _ _ h hP hD hS ls (lv_sub hl [5, 4, 3, 2, 1, 0] rfl)
          · intro c12
            replace h := h.2 c12
            refine lv_iconst (v := 0) hx hb dMa_makeGrid_92 (by decide) ?_
            exact W.zret (v := 0) hx hb hr rfl (fun t ht hW => ⟨⟨0, (v_print_count, v_print_cells), rfl, h, by rw [ht]; exact hP, hD⟩, hS.F ht⟩) hS.2.2 dMa_makeGrid_93
abbrev yMa_bodyOf : MethodName := ⟨"FootprintRules$Maker", "bodyOf", "(I)J"⟩
abbrev cMa_bodyOf : ByteArray := prog_10_method_6_code
abbrev wsMa_bodyOf : List Cond := .code yMa_bodyOf cMa_bodyOf 2 (some .long) :: zT
set_option maxRecDepth 100000 in
theorem zc_Ma_bodyOf : Cond.code yMa_bodyOf cMa_bodyOf 2 (some .long) ∈ zT := zm 809 (by rfl) (by rfl)
theorem dMa_bodyOf_0 : decode cMa_bodyOf 0 = .ok (.aload_n 0, 1) := by decide +kernel
theorem dMa_bodyOf_1 : decode cMa_bodyOf 1 = .ok (.aload_n 0, 1) := by decide +kernel
theorem dMa_bodyOf_2 : decode cMa_bodyOf 2 = .ok (.getfield 12, 3) := by decide +kernel
theorem dMa_bodyOf_5 : decode cMa_bodyOf 5 = .ok (.iload_n 1, 1) := by decide +kernel
theorem dMa_bodyOf_6 : decode cMa_bodyOf 6 = .ok (.invokevirtual 42, 3) := by decide +kernel
theorem dMa_bodyOf_9 : decode cMa_bodyOf 9 = .ok (.invokevirtual 138, 3) := by decide +kernel
theorem dMa_bodyOf_12 : decode cMa_bodyOf 12 = .ok (.lreturn, 1) := by decide +kernel
-- FootprintRules$Maker.bodyOf(I)J
abbrev w_Ma_bodyOf (ad : Nat → Nat → Nat) (a_this : Nat) (a_spans : Nat) (a_leftOut : Nat) (a_print : Nat) (a_spans_lows : Nat) (a_spans_highs : Nat) (k_spans_highs : ClassId) (v_this_rounding : Int64) (v_this_toe : Int64) (v_this_heel : Int64) (v_this_side : Int64) (v_this_pitch : Int64) (v_this_outer : Int64) (v_this_inner : Int64) (v_this_across : Int64) (v_this_hole : Int64) (v_spans_toldBits : Int32) (v_spans_exactBits : Int32) (v_spans_highs : Nat → Int64) : va_W := [(a_this, .inr (4, [.ref a_spans, .ref a_leftOut, .ref a_print, .long v_this_rounding, .long v_this_toe, .long v_this_heel, .long v_this_side, .long v_this_pitch, .long v_this_outer, .long v_this_inner, .long v_this_across, .long v_this_hole])), (a_spans, .inr (3, [.ref a_spans_lows, .ref a_spans_highs, .int v_spans_toldBits, .int v_spans_exactBits])), (a_spans_highs, .inl (k_spans_highs, 12, .inr (.inl v_spans_highs)))]
def P_Ma_bodyOf (p1 : Int32) (v_this_rounding : Int64) (v_spans_toldBits : Int32) (v_spans_highs : Nat → Int64) (post : Int64 → Prop) : Prop := P_Sp_highOf p1 v_spans_toldBits v_spans_highs (fun (r1 : Int64) => P_Ma_upTwice r1 v_this_rounding (fun (r2 : Int64) => post r2))
set_option maxHeartbeats 4000000 in
set_option maxRecDepth 100000 in
theorem c_Ma_bodyOf (l : Launch) (dC : Nat → ClassId) (dI : Nat → Nat → Nat) (ad : Nat → Nat → Nat) (a_this : Nat) (a_spans : Nat) (a_leftOut : Nat) (a_print : Nat) (a_spans_lows : Nat) (a_spans_highs : Nat) (k_spans_highs : ClassId) (sz : Nat) (p1 : Int32) (v_this_rounding : Int64) (v_this_toe : Int64) (v_this_heel : Int64) (v_this_side : Int64) (v_this_pitch : Int64) (v_this_outer : Int64) (v_this_inner : Int64) (v_this_across : Int64) (v_this_hole : Int64) (v_spans_toldBits : Int32) (v_spans_exactBits : Int32) (v_spans_highs : Nat → Int64) (post : Int64 → Prop) (h : P_Ma_bodyOf p1 v_this_rounding v_spans_toldBits v_spans_highs post) : zMl l yMa_bodyOf wsMa_bodyOf { frames := 3, cells := 0, slots := 0, locals := 70 } (dC, dI) ad [.ref a_this, .int p1] (w_Ma_bodyOf ad a_this a_spans a_leftOut a_print a_spans_lows a_spans_highs k_spans_highs v_this_rounding v_this_toe v_this_heel v_this_side v_this_pitch v_this_outer v_this_inner v_this_across v_this_hole v_spans_toldBits v_spans_exactBits v_spans_highs) [(k_spans_highs, .long)] sz (fun (r : Int64) (u : Unit) => post r) (fun (u : Unit) => (w_Ma_bodyOf ad a_this a_spans a_leftOut a_print a_spans_lows a_spans_highs k_spans_highs v_this_rounding v_this_toe v_this_heel v_this_side v_this_pitch v_this_outer v_this_inner v_this_across v_this_hole v_spans_toldBits v_spans_exactBits v_spans_highs)) 0 0 := by
  refine Met.ofW (cc := cMa_bodyOf) (maxL := 2) (ret := (some .long)) (by decide +kernel) rfl ?_
  intro p e s m args below meth c s₁ B hml hv
  obtain ⟨rfl, hsz, hP, hK, hD0, hE⟩ := hv
  have hx := B.exec
  have hb := B.bytes
  have hr := B.returns
  have hts0 := atoms_spec (ws := wsMa_bodyOf) B.pre
  have hts := fun w h => hts0 w (List.mem_cons_of_mem _ h)
  have hown : s.vm.findClass RMa = some m.cls := findClass_of_methodNamed B.named
  have hlocks := B.notSynchronized
  subst hsz
  have hD := hD0.self (sz := s.heap.size)
  generalize hAe : va_A (w_Ma_bodyOf ad a_this a_spans a_leftOut a_print a_spans_lows a_spans_highs k_spans_highs v_this_rounding v_this_toe v_this_heel v_this_side v_this_pitch v_this_outer v_this_inner v_this_across v_this_hole v_spans_toldBits v_spans_exactBits v_spans_highs) s.heap.size = A at hD hE ⊢
  have hA : ∀ q : Nat, s.heap.size ≤ q → A q := fun q h => by rw [← hAe]; exact Or.inr h
  have C0 := zC.mk hx hb hr hml hown hts hlocks hA
  have hS : va_S A s.heap s.heap [] := va_S.rf
  have hl := lv_entry ([.ref a_this, .int p1]) (n := 2) (Nat.le_of_ble_eq_true rfl)
  rw [lg_entry_eq]
  generalize (lg_sl ([.ref a_this, .int p1]) ++ List.replicate (2 - (lg_sl ([.ref a_this, .int p1])).length) Slot.unset).toArray = ls at hl ⊢
  have hl : lv_has ls 2 [(0, .ref a_this), (1, .int p1)] := hl
  unfold P_Ma_bodyOf at h
  refine lv_aload_n hx hb dMa_bodyOf_0 rfl (lv_at hl 0 rfl) ?_
  refine lv_aload_n hx hb dMa_bodyOf_1 rfl (lv_at hl 0 rfl) ?_
  refine va_get (D := (dC, dI)) (ci := 4) (v := .ref a_spans) (C := RMa) (T := TMa) (N := 12) hx hb hts inZ_Ma hown hK hP 0 rfl rfl 0 (by decide) (hts _ zw_331) (fun _ h9 => h9) rfl dMa_bodyOf_2 ?_
  refine lv_iload_n hx hb dMa_bodyOf_5 rfl (lv_at hl 1 rfl) ?_
  refine zcall_l hP hD hS hA [1, 2] [0] (va_runVN (As := [.int p1]) (rest := [.ref a_this]) ⟨hx, hb, hml, hown, hts⟩ (c_Sp_highOf l dC dI ad a_spans a_spans_lows a_spans_highs k_spans_highs _ p1 v_spans_toldBits v_spans_exactBits v_spans_highs _ h) ⟨va_cnB 1 hts (zgood zc_Sp_highOf) rfl rfl rfl (hE.nw _ zn_692) (hts _ zw_100) (by decide +kernel) ⟨Nat.le_of_ble_eq_true rfl, Nat.le_of_ble_eq_true rfl⟩, (hts _ zw_694), (hts _ zw_24)⟩ (zpreV hE hK hP hD hS hA [1, 2] [0] (by rfl) (by rfl) (by decide) (ci := 3) (q0 := 1) rfl (by rfl)) rfl rfl hl.1 rfl (lv_room (Nat.le_of_ble_eq_true rfl)) dMa_bodyOf_6 ⟨Nat.le_of_ble_eq_true rfl, Nat.le_of_ble_eq_true rfl⟩) (by rfl) (by rfl) (by decide) (by decide) (fun r1 u H locs h hP hD hS => ?_)
  try dsimp only at h
  have hP := hP.sub (ws' := (w_Ma_bodyOf ad a_this a_spans a_leftOut a_print a_spans_lows a_spans_highs k_spans_highs v_this_rounding v_this_toe v_this_heel v_this_side v_this_pitch v_this_outer v_this_inner v_this_across v_this_hole v_spans_toldBits v_spans_exactBits v_spans_highs)) [0, 1, 2] rfl
  have hD := hD.sub (ws' := (w_Ma_bodyOf ad a_this a_spans a_leftOut a_print a_spans_lows a_spans_highs k_spans_highs v_this_rounding v_this_toe v_this_heel v_this_side v_this_pitch v_this_outer v_this_inner v_this_across v_this_hole v_spans_toldBits v_spans_exactBits v_spans_highs)) [0, 1, 2] (by decide) rfl
  refine zcall_l hP hD hS hA [0] [1, 2] (va_runV (As := [.long r1]) (rest := []) ⟨hx, hb, hml, hown, hts⟩ (c_Ma_upTwice l dC dI ad a_this a_spans a_leftOut a_print _ r1 v_this_rounding v_this_toe v_this_heel v_this_side v_this_pitch v_this_outer v_this_inner v_this_across v_this_hole _ h) ⟨callB_of 1 hts (zgood zc_Ma_upTwice) rfl rfl rfl (hts _ zw_99) (hts _ zw_736) (by decide +kernel) ⟨Nat.le_of_ble_eq_true rfl, Nat.le_of_ble_eq_true rfl⟩, (hts _ zw_738), (hts _ zw_32)⟩ (zpreV hE hK hP hD hS hA [0] [] (by rfl) (by rfl) (by decide) (ci := 4) (q0 := 0) rfl (by rfl)) rfl rfl hl.1 rfl (lv_room (Nat.le_of_ble_eq_true rfl)) dMa_bodyOf_9 ⟨Nat.le_of_ble_eq_true rfl, Nat.le_of_ble_eq_true rfl⟩) (by rfl) (by rfl) (by decide) (by decide) (fun r2 u H locs h hP hD hS => ?_)
  try dsimp only at h
  have hP := hP.sub (ws' := (w_Ma_bodyOf ad a_this a_spans a_leftOut a_print a_spans_lows a_spans_highs k_spans_highs v_this_rounding v_this_toe v_this_heel v_this_side v_this_pitch v_this_outer v_this_inner v_this_across v_this_hole v_spans_toldBits v_spans_exactBits v_spans_highs)) [2, 0, 1] rfl
  have hD := hD.sub (ws' := (w_Ma_bodyOf ad a_this a_spans a_leftOut a_print a_spans_lows a_spans_highs k_spans_highs v_this_rounding v_this_toe v_this_heel v_this_side v_this_pitch v_this_outer v_this_inner v_this_across v_this_hole v_spans_toldBits v_spans_exactBits v_spans_highs)) [2, 0, 1] (by decide) rfl
  exact W.lret (v := r2) hx hb hr (fun t ht hW => ⟨⟨r2, (()), rfl, h, by rw [ht]; exact hP, hD⟩, hS.F ht⟩) hS.2.2 dMa_bodyOf_12
abbrev yMa_hasBody : MethodName := ⟨"FootprintRules$Maker", "hasBody", "()Z"⟩
abbrev cMa_hasBody : ByteArray := prog_10_method_5_code
abbrev wsMa_hasBody : List Cond := .code yMa_hasBody cMa_hasBody 1 (some .boolean) :: zT
set_option maxRecDepth 100000 in
theorem zc_Ma_hasBody : Cond.code yMa_hasBody cMa_hasBody 1 (some .boolean) ∈ zT := zm 813 (by rfl) (by rfl)
theorem dMa_hasBody_0 : decode cMa_hasBody 0 = .ok (.aload_n 0, 1) := by decide +kernel
theorem dMa_hasBody_1 : decode cMa_hasBody 1 = .ok (.getfield 12, 3) := by decide +kernel
theorem dMa_hasBody_4 : decode cMa_hasBody 4 = .ok (.bipush 10, 2) := by decide +kernel
theorem dMa_hasBody_6 : decode cMa_hasBody 6 = .ok (.invokevirtual 135, 3) := by decide +kernel
theorem dMa_hasBody_9 : decode cMa_hasBody 9 = .ok (.ifCond .eq 19, 3) := by decide +kernel
theorem dMa_hasBody_12 : decode cMa_hasBody 12 = .ok (.aload_n 0, 1) := by decide +kernel
theorem dMa_hasBody_13 : decode cMa_hasBody 13 = .ok (.getfield 12, 3) := by decide +kernel
theorem dMa_hasBody_16 : decode cMa_hasBody 16 = .ok (.bipush 11, 2) := by decide +kernel
theorem dMa_hasBody_18 : decode cMa_hasBody 18 = .ok (.invokevirtual 135, 3) := by decide +kernel
theorem dMa_hasBody_21 : decode cMa_hasBody 21 = .ok (.ifCond .eq 7, 3) := by decide +kernel
theorem dMa_hasBody_24 : decode cMa_hasBody 24 = .ok (.iconst 1, 1) := by decide +kernel
theorem dMa_hasBody_25 : decode cMa_hasBody 25 = .ok (.goto 4, 3) := by decide +kernel
theorem dMa_hasBody_28 : decode cMa_hasBody 28 = .ok (.iconst 0, 1) := by decide +kernel
theorem dMa_hasBody_29 : decode cMa_hasBody 29 = .ok (.ireturn, 1) := by decide +kernel
-- FootprintRules$Maker.hasBody()Z
abbrev w_Ma_hasBody (ad : Nat → Nat → Nat) (a_this : Nat) (a_spans : Nat) (a_leftOut : Nat) (a_print : Nat) (a_spans_lows : Nat) (a_spans_highs : Nat)  (v_this_rounding : Int64) (v_this_toe : Int64) (v_this_heel : Int64) (v_this_side : Int64) (v_this_pitch : Int64) (v_this_outer : Int64) (v_this_inner : Int64) (v_this_across : Int64) (v_this_hole : Int64) (v_spans_toldBits : Int32) (v_spans_exactBits : Int32) : va_W := [(a_this, .inr (4, [.ref a_spans, .ref a_leftOut, .ref a_print, .long v_this_rounding, .long v_this_toe, .long v_this_heel, .long v_this_side, .long v_this_pitch, .long v_this_outer, .long v_this_inner, .long v_this_across, .long v_this_hole])), (a_spans, .inr (3, [.ref a_spans_lows, .ref a_spans_highs, .int v_spans_toldBits, .int v_spans_exactBits]))]
def P_Ma_hasBody (v_spans_toldBits : Int32) (post : Int32 → Prop) : Prop := P_Sp_isTold 10 v_spans_toldBits (fun (r1 : Int32) => ((r1 = 0 → post 0) ∧ (¬ r1 = 0 → P_Sp_isTold 11 v_spans_toldBits (fun (r3 : Int32) => ((r3 = 0 → post 0) ∧ (¬ r3 = 0 → post 1))))))
set_option maxHeartbeats 4000000 in
set_option maxRecDepth 100000 in
theorem c_Ma_hasBody (l : Launch) (dC : Nat → ClassId) (dI : Nat → Nat → Nat) (ad : Nat → Nat → Nat) (a_this : Nat) (a_spans : Nat) (a_leftOut : Nat) (a_print : Nat) (a_spans_lows : Nat) (a_spans_highs : Nat)  (sz : Nat) (v_this_rounding : Int64) (v_this_toe : Int64) (v_this_heel : Int64) (v_this_side : Int64) (v_this_pitch : Int64) (v_this_outer : Int64) (v_this_inner : Int64) (v_this_across : Int64) (v_this_hole : Int64) (v_spans_toldBits : Int32) (v_spans_exactBits : Int32) (post : Int32 → Prop) (h : P_Ma_hasBody v_spans_toldBits post) : zMi l yMa_hasBody wsMa_hasBody { frames := 2, cells := 0, slots := 0, locals := 42 } (dC, dI) ad [.ref a_this] (w_Ma_hasBody ad a_this a_spans a_leftOut a_print a_spans_lows a_spans_highs v_this_rounding v_this_toe v_this_heel v_this_side v_this_pitch v_this_outer v_this_inner v_this_across v_this_hole v_spans_toldBits v_spans_exactBits) [] sz (fun (r : Int32) (u : Unit) => post r) (fun (u : Unit) => (w_Ma_hasBody ad a_this a_spans a_leftOut a_print a_spans_lows a_spans_highs v_this_rounding v_this_toe v_this_heel v_this_side v_this_pitch v_this_outer v_this_inner v_this_across v_this_hole v_spans_toldBits v_spans_exactBits)) 0 0 := by
  refine Met.ofW (cc := cMa_hasBody) (maxL := 1) (ret := (some .boolean)) (by decide +kernel) rfl ?_
  intro p e s m args below meth c s₁ B hml hv
  obtain ⟨rfl, hsz, hP, hK, hD0, hE⟩ := hv
  have hx := B.exec
  have hb := B.bytes
  have hr := B.returns
  have hts0 := atoms_spec (ws := wsMa_hasBody) B.pre
  have hts := fun w h => hts0 w (List.mem_cons_of_mem _ h)
  have hown : s.vm.findClass RMa = some m.cls := findClass_of_methodNamed B.named
  have hlocks := B.notSynchronized
  subst hsz
  have hD := hD0.self (sz := s.heap.size)
  generalize hAe : va_A (w_Ma_hasBody ad a_this a_spans a_leftOut a_print a_spans_lows a_spans_highs v_this_rounding v_this_toe v_this_heel v_this_side v_this_pitch v_this_outer v_this_inner v_this_across v_this_hole v_spans_toldBits v_spans_exactBits) s.heap.size = A at hD hE ⊢
  have hA : ∀ q : Nat, s.heap.size ≤ q → A q := fun q h => by rw [← hAe]; exact Or.inr h
  have C0 := zC.mk hx hb hr hml hown hts hlocks hA
  have hS : va_S A s.heap s.heap [] := va_S.rf
  have hl := lv_entry ([.ref a_this]) (n := 1) (Nat.le_of_ble_eq_true rfl)
  rw [lg_entry_eq]
  generalize (lg_sl ([.ref a_this]) ++ List.replicate (1 - (lg_sl ([.ref a_this])).length) Slot.unset).toArray = ls at hl ⊢
  have hl : lv_has ls 1 [(0, .ref a_this)] := hl
  unfold P_Ma_hasBody at h
  refine lv_aload_n hx hb dMa_hasBody_0 rfl (lv_at hl 0 rfl) ?_
  refine va_get (D := (dC, dI)) (ci := 4) (v := .ref a_spans) (C := RMa) (T := TMa) (N := 12) hx hb hts inZ_Ma hown hK hP 0 rfl rfl 0 (by decide) (hts _ zw_331) (fun _ h9 => h9) rfl dMa_hasBody_1 ?_
  refine lv_bipush (v := 10) hx hb dMa_hasBody_4 (by decide) ?_
  refine zcall_i hP hD hS hA [1] [0] (va_runVN (As := [.int 10]) (rest := []) ⟨hx, hb, hml, hown, hts⟩ (c_Sp_isTold l dC dI ad a_spans a_spans_lows a_spans_highs _ 10 v_spans_toldBits v_spans_exactBits _ h) ⟨va_cnB 1 hts (zgood zc_Sp_isTold) rfl rfl rfl (hE.nw _ zn_805) (hts _ zw_100) (by decide +kernel) ⟨Nat.le_of_ble_eq_true rfl, Nat.le_of_ble_eq_true rfl⟩, (hts _ zw_698), (hts _ zw_25)⟩ (zpreV hE hK hP hD hS hA [1] [] (by rfl) (by rfl) (by decide) (ci := 3) (q0 := 1) rfl (by rfl)) rfl rfl hl.1 rfl (lv_room (Nat.le_of_ble_eq_true rfl)) dMa_hasBody_6 ⟨Nat.le_of_ble_eq_true rfl, Nat.le_of_ble_eq_true rfl⟩) (by rfl) (by rfl) (by decide) (by decide) (fun r1 u H locs h hP hD hS => ?_)
  try dsimp only at h
  have hP := hP.sub (ws' := (w_Ma_hasBody ad a_this a_spans a_leftOut a_print a_spans_lows a_spans_highs v_this_rounding v_this_toe v_this_heel v_this_side v_this_pitch v_this_outer v_this_inner v_this_across v_this_hole v_spans_toldBits v_spans_exactBits)) [0, 1] rfl
  have hD := hD.sub (ws' := (w_Ma_hasBody ad a_this a_spans a_leftOut a_print a_spans_lows a_spans_highs v_this_rounding v_this_toe v_this_heel v_this_side v_this_pitch v_this_outer v_this_inner v_this_across v_this_hole v_spans_toldBits v_spans_exactBits)) [0, 1] (by decide) rfl
  refine lv_if_eq (tgt := 28) hx hb dMa_hasBody_9 (by decide) ?_ ?_
  · intro c2
    replace h := h.1 c2
    refine lv_iconst (v := 0) hx hb dMa_hasBody_28 (by decide) ?_
    exact W.zret (v := 0) hx hb hr rfl (fun t ht hW => ⟨⟨0, (()), rfl, h, by rw [ht]; exact hP, hD⟩, hS.F ht⟩) hS.2.2 dMa_hasBody_29
  · intro c2
    replace h := h.2 c2
    refine lv_aload_n hx hb dMa_hasBody_12 rfl (lv_at hl 0 rfl) ?_
    refine va_get (D := (dC, dI)) (ci := 4) (v := .ref a_spans) (C := RMa) (T := TMa) (N := 12) hx hb hts inZ_Ma hown hK hP 0 rfl rfl 0 (by decide) (hts _ zw_331) (fun _ h9 => h9) rfl dMa_hasBody_13 ?_
    refine lv_bipush (v := 11) hx hb dMa_hasBody_16 (by decide) ?_
    refine zcall_i hP hD hS hA [1] [0] (va_runVN (As := [.int 11]) (rest := []) ⟨hx, hb, hml, hown, hts⟩ (c_Sp_isTold l dC dI ad a_spans a_spans_lows a_spans_highs _ 11 v_spans_toldBits v_spans_exactBits _ h) ⟨va_cnB 1 hts (zgood zc_Sp_isTold) rfl rfl rfl (hE.nw _ zn_805) (hts _ zw_100) (by decide +kernel) ⟨Nat.le_of_ble_eq_true rfl, Nat.le_of_ble_eq_true rfl⟩, (hts _ zw_698), (hts _ zw_25)⟩ (zpreV hE hK hP hD hS hA [1] [] (by rfl) (by rfl) (by decide) (ci := 3) (q0 := 1) rfl (by rfl)) rfl rfl hl.1 rfl (lv_room (Nat.le_of_ble_eq_true rfl)) dMa_hasBody_18 ⟨Nat.le_of_ble_eq_true rfl, Nat.le_of_ble_eq_true rfl⟩) (by rfl) (by rfl) (by decide) (by decide) (fun r3 u H locs h hP hD hS => ?_)
    try dsimp only at h
    have hP := hP.sub (ws' := (w_Ma_hasBody ad a_this a_spans a_leftOut a_print a_spans_lows a_spans_highs v_this_rounding v_this_toe v_this_heel v_this_side v_this_pitch v_this_outer v_this_inner v_this_across v_this_hole v_spans_toldBits v_spans_exactBits)) [0, 1] rfl
    have hD := hD.sub (ws' := (w_Ma_hasBody ad a_this a_spans a_leftOut a_print a_spans_lows a_spans_highs v_this_rounding v_this_toe v_this_heel v_this_side v_this_pitch v_this_outer v_this_inner v_this_across v_this_hole v_spans_toldBits v_spans_exactBits)) [0, 1] (by decide) rfl
    refine lv_if_eq (tgt := 28) hx hb dMa_hasBody_21 (by decide) ?_ ?_
    · intro c4
      replace h := h.1 c4
      refine lv_iconst (v := 0) hx hb dMa_hasBody_28 (by decide) ?_
      exact W.zret (v := 0) hx hb hr rfl (fun t ht hW => ⟨⟨0, (()), rfl, h, by rw [ht]; exact hP, hD⟩, hS.F ht⟩) hS.2.2 dMa_hasBody_29
    · intro c4
      replace h := h.2 c4
      refine lv_iconst (v := 1) hx hb dMa_hasBody_24 (by decide) ?_
      refine lv_goto (tgt := 29) hx hb dMa_hasBody_25 (by decide) ?_
      exact W.zret (v := 1) hx hb hr rfl (fun t ht hW => ⟨⟨1, (()), rfl, h, by rw [ht]; exact hP, hD⟩, hS.F ht⟩) hS.2.2 dMa_hasBody_29
