abbrev yFp_pasteCell : MethodName := ⟨"FootprintRules$Footprint", "pasteCell", "(II)J"⟩
abbrev cFp_pasteCell : ByteArray := prog_5_method_8_code
abbrev wsFp_pasteCell : List Cond := .code yFp_pasteCell cFp_pasteCell 3 (some .long) :: zT
set_option maxRecDepth 100000 in
theorem zc_Fp_pasteCell : Cond.code yFp_pasteCell cFp_pasteCell 3 (some .long) ∈ zT := zm 964 (by rfl) (by rfl)
theorem dFp_pasteCell_0 : decode cFp_pasteCell 0 = .ok (.aload_n 0, 1) := by decide +kernel
theorem dFp_pasteCell_1 : decode cFp_pasteCell 1 = .ok (.getfield 28, 3) := by decide +kernel
theorem dFp_pasteCell_4 : decode cFp_pasteCell 4 = .ok (.getfield 130, 3) := by decide +kernel
theorem dFp_pasteCell_7 : decode cFp_pasteCell 7 = .ok (.lconst 0, 1) := by decide +kernel
theorem dFp_pasteCell_8 : decode cFp_pasteCell 8 = .ok (.lcmp, 1) := by decide +kernel
theorem dFp_pasteCell_9 : decode cFp_pasteCell 9 = .ok (.ifCond .gt 5, 3) := by decide +kernel
theorem dFp_pasteCell_12 : decode cFp_pasteCell 12 = .ok (.lconst 0, 1) := by decide +kernel
theorem dFp_pasteCell_13 : decode cFp_pasteCell 13 = .ok (.lreturn, 1) := by decide +kernel
theorem dFp_pasteCell_14 : decode cFp_pasteCell 14 = .ok (.iload_n 2, 1) := by decide +kernel
theorem dFp_pasteCell_15 : decode cFp_pasteCell 15 = .ok (.tableswitch 79 0 2 #[25, 48, 71], 25) := by decide +kernel
theorem dFp_pasteCell_40 : decode cFp_pasteCell 40 = .ok (.aload_n 0, 1) := by decide +kernel
theorem dFp_pasteCell_41 : decode cFp_pasteCell 41 = .ok (.getfield 110, 3) := by decide +kernel
theorem dFp_pasteCell_44 : decode cFp_pasteCell 44 = .ok (.aload_n 0, 1) := by decide +kernel
theorem dFp_pasteCell_45 : decode cFp_pasteCell 45 = .ok (.getfield 28, 3) := by decide +kernel
theorem dFp_pasteCell_48 : decode cFp_pasteCell 48 = .ok (.iload_n 1, 1) := by decide +kernel
theorem dFp_pasteCell_49 : decode cFp_pasteCell 49 = .ok (.i2l, 1) := by decide +kernel
theorem dFp_pasteCell_50 : decode cFp_pasteCell 50 = .ok (.aload_n 0, 1) := by decide +kernel
theorem dFp_pasteCell_51 : decode cFp_pasteCell 51 = .ok (.getfield 28, 3) := by decide +kernel
theorem dFp_pasteCell_54 : decode cFp_pasteCell 54 = .ok (.getfield 130, 3) := by decide +kernel
theorem dFp_pasteCell_57 : decode cFp_pasteCell 57 = .ok (.lrem, 1) := by decide +kernel
theorem dFp_pasteCell_58 : decode cFp_pasteCell 58 = .ok (.invokevirtual 133, 3) := by decide +kernel
theorem dFp_pasteCell_61 : decode cFp_pasteCell 61 = .ok (.ladd, 1) := by decide +kernel
theorem dFp_pasteCell_62 : decode cFp_pasteCell 62 = .ok (.lreturn, 1) := by decide +kernel
theorem dFp_pasteCell_63 : decode cFp_pasteCell 63 = .ok (.aload_n 0, 1) := by decide +kernel
theorem dFp_pasteCell_64 : decode cFp_pasteCell 64 = .ok (.getfield 113, 3) := by decide +kernel
theorem dFp_pasteCell_67 : decode cFp_pasteCell 67 = .ok (.aload_n 0, 1) := by decide +kernel
theorem dFp_pasteCell_68 : decode cFp_pasteCell 68 = .ok (.getfield 32, 3) := by decide +kernel
theorem dFp_pasteCell_71 : decode cFp_pasteCell 71 = .ok (.iload_n 1, 1) := by decide +kernel
theorem dFp_pasteCell_72 : decode cFp_pasteCell 72 = .ok (.i2l, 1) := by decide +kernel
theorem dFp_pasteCell_73 : decode cFp_pasteCell 73 = .ok (.aload_n 0, 1) := by decide +kernel
theorem dFp_pasteCell_74 : decode cFp_pasteCell 74 = .ok (.getfield 28, 3) := by decide +kernel
theorem dFp_pasteCell_77 : decode cFp_pasteCell 77 = .ok (.getfield 130, 3) := by decide +kernel
theorem dFp_pasteCell_80 : decode cFp_pasteCell 80 = .ok (.ldiv, 1) := by decide +kernel
theorem dFp_pasteCell_81 : decode cFp_pasteCell 81 = .ok (.invokevirtual 133, 3) := by decide +kernel
theorem dFp_pasteCell_84 : decode cFp_pasteCell 84 = .ok (.ladd, 1) := by decide +kernel
theorem dFp_pasteCell_85 : decode cFp_pasteCell 85 = .ok (.lreturn, 1) := by decide +kernel
theorem dFp_pasteCell_86 : decode cFp_pasteCell 86 = .ok (.aload_n 0, 1) := by decide +kernel
theorem dFp_pasteCell_87 : decode cFp_pasteCell 87 = .ok (.getfield 28, 3) := by decide +kernel
theorem dFp_pasteCell_90 : decode cFp_pasteCell 90 = .ok (.getfield 127, 3) := by decide +kernel
theorem dFp_pasteCell_93 : decode cFp_pasteCell 93 = .ok (.lreturn, 1) := by decide +kernel
theorem dFp_pasteCell_94 : decode cFp_pasteCell 94 = .ok (.aload_n 0, 1) := by decide +kernel
theorem dFp_pasteCell_95 : decode cFp_pasteCell 95 = .ok (.getfield 32, 3) := by decide +kernel
theorem dFp_pasteCell_98 : decode cFp_pasteCell 98 = .ok (.getfield 127, 3) := by decide +kernel
theorem dFp_pasteCell_101 : decode cFp_pasteCell 101 = .ok (.lreturn, 1) := by decide +kernel
-- FootprintRules$Footprint.pasteCell(II)J
abbrev w_Fp_pasteCell (ad : Nat → Nat → Nat) (a_this : Nat) (a_cells : Nat) (a_family : Nat) (a_yard : Nat) (a_columns : Nat) (a_rows : Nat) (a_line : Nat)  (v_this_atHand : Int32) (v_this_count : Int32) (v_this_thermal : Int32) (v_this_density : Int32) (v_this_outerHigh : Int64) (v_this_pasteLeft : Int64) (v_this_pasteLow : Int64) (v_this_nameLength : Int32) (v_this_isWritten : Int32) (v_columns_parts : Int64) (v_columns_size : Int64) (v_columns_ahead : Int64) (v_columns_gap : Int64) (v_rows_parts : Int64) (v_rows_size : Int64) (v_rows_ahead : Int64) (v_rows_gap : Int64) : va_W := [(a_this, .inr (6, [.int v_this_atHand, .ref a_cells, .int v_this_count, .int v_this_thermal, .ref a_family, .int v_this_density, .long v_this_outerHigh, .ref a_yard, .ref a_columns, .ref a_rows, .long v_this_pasteLeft, .long v_this_pasteLow, .ref a_line, .int v_this_nameLength, .int v_this_isWritten])), (a_columns, .inr (5, [.long v_columns_parts, .long v_columns_size, .long v_columns_ahead, .long v_columns_gap])), (a_rows, .inr (5, [.long v_rows_parts, .long v_rows_size, .long v_rows_ahead, .long v_rows_gap]))]
def P_Fp_pasteCell (p1 : Int32) (p2 : Int32) (v_this_pasteLeft : Int64) (v_this_pasteLow : Int64) (v_columns_parts : Int64) (v_columns_size : Int64) (v_columns_ahead : Int64) (v_columns_gap : Int64) (v_rows_size : Int64) (v_rows_ahead : Int64) (v_rows_gap : Int64) (post : Int64 → Prop) : Prop := ((0 < v_columns_parts → ((p2 = 0 → ¬ v_columns_parts = 0 ∧ P_Cu_start (p1.toInt64 - p1.toInt64 / v_columns_parts * v_columns_parts) v_columns_size v_columns_ahead v_columns_gap (fun (r4 : Int64) => post (v_this_pasteLeft + r4))) ∧ (¬ p2 = 0 → ((p2 = 1 → ¬ v_columns_parts = 0 ∧ P_Cu_start (p1.toInt64 / v_columns_parts) v_rows_size v_rows_ahead v_rows_gap (fun (r7 : Int64) => post (v_this_pasteLow + r7))) ∧ (¬ p2 = 1 → ((p2 = 2 → post v_columns_size) ∧ (¬ p2 = 2 → post v_rows_size))))))) ∧ (¬ 0 < v_columns_parts → post 0))
set_option maxHeartbeats 4000000 in
set_option maxRecDepth 100000 in
theorem c_Fp_pasteCell (l : Launch) (dC : Nat → ClassId) (dI : Nat → Nat → Nat) (ad : Nat → Nat → Nat) (a_this : Nat) (a_cells : Nat) (a_family : Nat) (a_yard : Nat) (a_columns : Nat) (a_rows : Nat) (a_line : Nat)  (sz : Nat) (p1 : Int32) (p2 : Int32) (v_this_atHand : Int32) (v_this_count : Int32) (v_this_thermal : Int32) (v_this_density : Int32) (v_this_outerHigh : Int64) (v_this_pasteLeft : Int64) (v_this_pasteLow : Int64) (v_this_nameLength : Int32) (v_this_isWritten : Int32) (v_columns_parts : Int64) (v_columns_size : Int64) (v_columns_ahead : Int64) (v_columns_gap : Int64) (v_rows_parts : Int64) (v_rows_size : Int64) (v_rows_ahead : Int64) (v_rows_gap : Int64) (post : Int64 → Prop) (h : P_Fp_pasteCell p1 p2 v_this_pasteLeft v_this_pasteLow v_columns_parts v_columns_size v_columns_ahead v_columns_gap v_rows_size v_rows_ahead v_rows_gap post) : zMl l yFp_pasteCell wsFp_pasteCell { frames := 1, cells := 0, slots := 0, locals := 22 } (dC, dI) ad [.ref a_this, .int p1, .int p2] (w_Fp_pasteCell ad a_this a_cells a_family a_yard a_columns a_rows a_line v_this_atHand v_this_count v_this_thermal v_this_density v_this_outerHigh v_this_pasteLeft v_this_pasteLow v_this_nameLength v_this_isWritten v_columns_parts v_columns_size v_columns_ahead v_columns_gap v_rows_parts v_rows_size v_rows_ahead v_rows_gap) [] sz (fun (r : Int64) (u : Unit) => post r) (fun (u : Unit) => (w_Fp_pasteCell ad a_this a_cells a_family a_yard a_columns a_rows a_line v_this_atHand v_this_count v_this_thermal v_this_density v_this_outerHigh v_this_pasteLeft v_this_pasteLow v_this_nameLength v_this_isWritten v_columns_parts v_columns_size v_columns_ahead v_columns_gap v_rows_parts v_rows_size v_rows_ahead v_rows_gap)) 0 0 := by
  refine Met.ofW (cc := cFp_pasteCell) (maxL := 3) (ret := (some .long)) (by decide +kernel) rfl ?_
  intro p e s m args below meth c s₁ B hml hv
  obtain ⟨rfl, hsz, hP, hK, hD0, hE⟩ := hv
  have hx := B.exec
  have hb := B.bytes
  have hr := B.returns
  have hts0 := atoms_spec (ws := wsFp_pasteCell) B.pre
  have hts := fun w h => hts0 w (List.mem_cons_of_mem _ h)
  have hown : s.vm.findClass RFp = some m.cls := findClass_of_methodNamed B.named
  have hlocks := B.notSynchronized
  subst hsz
  have hD := hD0.self (sz := s.heap.size)
  generalize hAe : va_A (w_Fp_pasteCell ad a_this a_cells a_family a_yard a_columns a_rows a_line v_this_atHand v_this_count v_this_thermal v_this_density v_this_outerHigh v_this_pasteLeft v_this_pasteLow v_this_nameLength v_this_isWritten v_columns_parts v_columns_size v_columns_ahead v_columns_gap v_rows_parts v_rows_size v_rows_ahead v_rows_gap) s.heap.size = A at hD hE ⊢
  have hA : ∀ q : Nat, s.heap.size ≤ q → A q := fun q h => by rw [← hAe]; exact Or.inr h
  have C0 := zC.mk hx hb hr hml hown hts hlocks hA
  have hS : va_S A s.heap s.heap [] := va_S.rf
  have hl := lv_entry ([.ref a_this, .int p1, .int p2]) (n := 3) (Nat.le_of_ble_eq_true rfl)
  rw [lg_entry_eq]
  generalize (lg_sl ([.ref a_this, .int p1, .int p2]) ++ List.replicate (3 - (lg_sl ([.ref a_this, .int p1, .int p2])).length) Slot.unset).toArray = ls at hl ⊢
  have hl : lv_has ls 3 [(0, .ref a_this), (1, .int p1), (2, .int p2)] := hl
  unfold P_Fp_pasteCell at h
  refine lv_aload_n hx hb dFp_pasteCell_0 rfl (lv_at hl 0 rfl) ?_
  refine va_get (D := (dC, dI)) (ci := 6) (v := .ref a_columns) (C := RFp) (T := TFp) (N := 15) hx hb hts inZ_Fp hown hK hP 0 rfl rfl 8 (by decide) (hts _ zw_293) (fun _ h9 => h9) rfl dFp_pasteCell_1 ?_
  refine va_getN (D := (dC, dI)) (ci := 5) (v := .long v_columns_parts) (C := RCu) (T := TCu) (N := 4) hx hb hts inZ_Cu hown hK hP 1 rfl rfl 0 (by decide) ((hE.nw _ zn_250).use rfl) (fun _ h9 => h9) rfl dFp_pasteCell_4 ?_
  refine lv_lconst (v := 0) hx hb dFp_pasteCell_7 (by decide) ?_
  refine zz_lcmp_gt (tgt := 14) hx hb dFp_pasteCell_8 dFp_pasteCell_9 (by decide) ?_ ?_
  · intro c1
    replace h := h.1 c1
    refine lv_iload_n hx hb dFp_pasteCell_14 rfl (lv_at hl 2 rfl) ?_
    by_cases c2 : p2 = 0
    · replace h := h.1 c2
      refine lv_tableIn (tgt := 40) hx hb dFp_pasteCell_15 (by rw [c2]; decide) (by rw [c2]; decide) (by rw [c2]; rfl) (by decide) ?_
      refine lv_aload_n hx hb dFp_pasteCell_40 rfl (lv_at hl 0 rfl) ?_
      refine va_get (D := (dC, dI)) (ci := 6) (v := .long v_this_pasteLeft) (C := RFp) (T := TFp) (N := 15) hx hb hts inZ_Fp hown hK hP 0 rfl rfl 10 (by decide) (hts _ zw_295) (fun _ h9 => h9) rfl dFp_pasteCell_41 ?_
      refine lv_aload_n hx hb dFp_pasteCell_44 rfl (lv_at hl 0 rfl) ?_
      refine va_get (D := (dC, dI)) (ci := 6) (v := .ref a_columns) (C := RFp) (T := TFp) (N := 15) hx hb hts inZ_Fp hown hK hP 0 rfl rfl 8 (by decide) (hts _ zw_293) (fun _ h9 => h9) rfl dFp_pasteCell_45 ?_
      refine lv_iload_n hx hb dFp_pasteCell_48 rfl (lv_at hl 1 rfl) ?_
      refine lv_i2l hx hb dFp_pasteCell_49 rfl ?_
      refine lv_aload_n hx hb dFp_pasteCell_50 rfl (lv_at hl 0 rfl) ?_
      refine va_get (D := (dC, dI)) (ci := 6) (v := .ref a_columns) (C := RFp) (T := TFp) (N := 15) hx hb hts inZ_Fp hown hK hP 0 rfl rfl 8 (by decide) (hts _ zw_293) (fun _ h9 => h9) rfl dFp_pasteCell_51 ?_
      refine va_getN (D := (dC, dI)) (ci := 5) (v := .long v_columns_parts) (C := RCu) (T := TCu) (N := 4) hx hb hts inZ_Cu hown hK hP 1 rfl rfl 0 (by decide) ((hE.nw _ zn_250).use rfl) (fun _ h9 => h9) rfl dFp_pasteCell_54 ?_
      obtain ⟨hn3, h⟩ := h
      refine lv_lrem hx hb dFp_pasteCell_57 hn3 ?_
      refine zcall_l hP hD hS hA [1] [0, 2] (va_runVN (As := [.long (p1.toInt64 - p1.toInt64 / v_columns_parts * v_columns_parts)]) (rest := [.long v_this_pasteLeft]) ⟨hx, hb, hml, hown, hts⟩ (c_Cu_start l dC dI ad a_columns _ (p1.toInt64 - p1.toInt64 / v_columns_parts * v_columns_parts) v_columns_parts v_columns_size v_columns_ahead v_columns_gap _ h) ⟨va_cnB 1 hts (zgood zc_Cu_start) rfl rfl rfl (hE.nw _ zn_965) (hts _ zw_105) (by decide +kernel) ⟨Nat.le_of_ble_eq_true rfl, Nat.le_of_ble_eq_true rfl⟩, (hts _ zw_967), (hts _ zw_62)⟩ (zpreV hE hK hP hD hS hA [1] [] (by rfl) (by rfl) (by decide) (ci := 5) (q0 := 1) rfl (by rfl)) rfl rfl hl.1 rfl (lv_room (Nat.le_of_ble_eq_true rfl)) dFp_pasteCell_58 ⟨Nat.le_of_ble_eq_true rfl, Nat.le_of_ble_eq_true rfl⟩) (by rfl) (by rfl) (by decide) (by decide) (fun r4 u H locs h hP hD hS => ?_)
      try dsimp only at h
      have hP := hP.sub (ws' := (w_Fp_pasteCell ad a_this a_cells a_family a_yard a_columns a_rows a_line v_this_atHand v_this_count v_this_thermal v_this_density v_this_outerHigh v_this_pasteLeft v_this_pasteLow v_this_nameLength v_this_isWritten v_columns_parts v_columns_size v_columns_ahead v_columns_gap v_rows_parts v_rows_size v_rows_ahead v_rows_gap)) [0, 2, 1] rfl
      have hD := hD.sub (ws' := (w_Fp_pasteCell ad a_this a_cells a_family a_yard a_columns a_rows a_line v_this_atHand v_this_count v_this_thermal v_this_density v_this_outerHigh v_this_pasteLeft v_this_pasteLow v_this_nameLength v_this_isWritten v_columns_parts v_columns_size v_columns_ahead v_columns_gap v_rows_parts v_rows_size v_rows_ahead v_rows_gap)) [0, 2, 1] (by decide) rfl
      refine lv_ladd hx hb dFp_pasteCell_61 ?_
      exact W.lret (v := (v_this_pasteLeft + r4)) hx hb hr (fun t ht hW => ⟨⟨(v_this_pasteLeft + r4), (()), rfl, h, by rw [ht]; exact hP, hD⟩, hS.F ht⟩) hS.2.2 dFp_pasteCell_62
    · replace h := h.2 c2
      by_cases c5 : p2 = 1
      · replace h := h.1 c5
        refine lv_tableIn (tgt := 63) hx hb dFp_pasteCell_15 (by rw [c5]; decide) (by rw [c5]; decide) (by rw [c5]; rfl) (by decide) ?_
        refine lv_aload_n hx hb dFp_pasteCell_63 rfl (lv_at hl 0 rfl) ?_
        refine va_get (D := (dC, dI)) (ci := 6) (v := .long v_this_pasteLow) (C := RFp) (T := TFp) (N := 15) hx hb hts inZ_Fp hown hK hP 0 rfl rfl 11 (by decide) (hts _ zw_296) (fun _ h9 => h9) rfl dFp_pasteCell_64 ?_
        refine lv_aload_n hx hb dFp_pasteCell_67 rfl (lv_at hl 0 rfl) ?_
        refine va_get (D := (dC, dI)) (ci := 6) (v := .ref a_rows) (C := RFp) (T := TFp) (N := 15) hx hb hts inZ_Fp hown hK hP 0 rfl rfl 9 (by decide) (hts _ zw_294) (fun _ h9 => h9) rfl dFp_pasteCell_68 ?_
        refine lv_iload_n hx hb dFp_pasteCell_71 rfl (lv_at hl 1 rfl) ?_
        refine lv_i2l hx hb dFp_pasteCell_72 rfl ?_
        refine lv_aload_n hx hb dFp_pasteCell_73 rfl (lv_at hl 0 rfl) ?_
        refine va_get (D := (dC, dI)) (ci := 6) (v := .ref a_columns) (C := RFp) (T := TFp) (N := 15) hx hb hts inZ_Fp hown hK hP 0 rfl rfl 8 (by decide) (hts _ zw_293) (fun _ h9 => h9) rfl dFp_pasteCell_74 ?_
        refine va_getN (D := (dC, dI)) (ci := 5) (v := .long v_columns_parts) (C := RCu) (T := TCu) (N := 4) hx hb hts inZ_Cu hown hK hP 1 rfl rfl 0 (by decide) ((hE.nw _ zn_250).use rfl) (fun _ h9 => h9) rfl dFp_pasteCell_77 ?_
        obtain ⟨hn6, h⟩ := h
        refine lv_ldiv hx hb dFp_pasteCell_80 hn6 ?_
        refine zcall_l hP hD hS hA [2] [0, 1] (va_runVN (As := [.long (p1.toInt64 / v_columns_parts)]) (rest := [.long v_this_pasteLow]) ⟨hx, hb, hml, hown, hts⟩ (c_Cu_start l dC dI ad a_rows _ (p1.toInt64 / v_columns_parts) v_rows_parts v_rows_size v_rows_ahead v_rows_gap _ h) ⟨va_cnB 1 hts (zgood zc_Cu_start) rfl rfl rfl (hE.nw _ zn_965) (hts _ zw_105) (by decide +kernel) ⟨Nat.le_of_ble_eq_true rfl, Nat.le_of_ble_eq_true rfl⟩, (hts _ zw_967), (hts _ zw_62)⟩ (zpreV hE hK hP hD hS hA [2] [] (by rfl) (by rfl) (by decide) (ci := 5) (q0 := 2) rfl (by rfl)) rfl rfl hl.1 rfl (lv_room (Nat.le_of_ble_eq_true rfl)) dFp_pasteCell_81 ⟨Nat.le_of_ble_eq_true rfl, Nat.le_of_ble_eq_true rfl⟩) (by rfl) (by rfl) (by decide) (by decide) (fun r7 u H locs h hP hD hS => ?_)
        try dsimp only at h
        have hP := hP.sub (ws' := (w_Fp_pasteCell ad a_this a_cells a_family a_yard a_columns a_rows a_line v_this_atHand v_this_count v_this_thermal v_this_density v_this_outerHigh v_this_pasteLeft v_this_pasteLow v_this_nameLength v_this_isWritten v_columns_parts v_columns_size v_columns_ahead v_columns_gap v_rows_parts v_rows_size v_rows_ahead v_rows_gap)) [0, 1, 2] rfl
        have hD := hD.sub (ws' := (w_Fp_pasteCell ad a_this a_cells a_family a_yard a_columns a_rows a_line v_this_atHand v_this_count v_this_thermal v_this_density v_this_outerHigh v_this_pasteLeft v_this_pasteLow v_this_nameLength v_this_isWritten v_columns_parts v_columns_size v_columns_ahead v_columns_gap v_rows_parts v_rows_size v_rows_ahead v_rows_gap)) [0, 1, 2] (by decide) rfl
        refine lv_ladd hx hb dFp_pasteCell_84 ?_
        exact W.lret (v := (v_this_pasteLow + r7)) hx hb hr (fun t ht hW => ⟨⟨(v_this_pasteLow + r7), (()), rfl, h, by rw [ht]; exact hP, hD⟩, hS.F ht⟩) hS.2.2 dFp_pasteCell_85
      · replace h := h.2 c5
        by_cases c8 : p2 = 2
        · replace h := h.1 c8
          refine lv_tableIn (tgt := 86) hx hb dFp_pasteCell_15 (by rw [c8]; decide) (by rw [c8]; decide) (by rw [c8]; rfl) (by decide) ?_
          refine lv_aload_n hx hb dFp_pasteCell_86 rfl (lv_at hl 0 rfl) ?_
          refine va_get (D := (dC, dI)) (ci := 6) (v := .ref a_columns) (C := RFp) (T := TFp) (N := 15) hx hb hts inZ_Fp hown hK hP 0 rfl rfl 8 (by decide) (hts _ zw_293) (fun _ h9 => h9) rfl dFp_pasteCell_87 ?_
          refine va_getN (D := (dC, dI)) (ci := 5) (v := .long v_columns_size) (C := RCu) (T := TCu) (N := 4) hx hb hts inZ_Cu hown hK hP 1 rfl rfl 1 (by decide) ((hE.nw _ zn_252).use rfl) (fun _ h9 => h9) rfl dFp_pasteCell_90 ?_
          exact W.lret (v := v_columns_size) hx hb hr (fun t ht hW => ⟨⟨v_columns_size, (()), rfl, h, by rw [ht]; exact hP, hD⟩, hS.F ht⟩) hS.2.2 dFp_pasteCell_93
        · replace h := h.2 c8
          refine lv_tableOut (tgt := 94) hx hb dFp_pasteCell_15 (zz_out0_2 (by assumption) (by assumption) (by assumption)) (by decide) ?_
          refine lv_aload_n hx hb dFp_pasteCell_94 rfl (lv_at hl 0 rfl) ?_
          refine va_get (D := (dC, dI)) (ci := 6) (v := .ref a_rows) (C := RFp) (T := TFp) (N := 15) hx hb hts inZ_Fp hown hK hP 0 rfl rfl 9 (by decide) (hts _ zw_294) (fun _ h9 => h9) rfl dFp_pasteCell_95 ?_
          refine va_getN (D := (dC, dI)) (ci := 5) (v := .long v_rows_size) (C := RCu) (T := TCu) (N := 4) hx hb hts inZ_Cu hown hK hP 2 rfl rfl 1 (by decide) ((hE.nw _ zn_252).use rfl) (fun _ h9 => h9) rfl dFp_pasteCell_98 ?_
          exact W.lret (v := v_rows_size) hx hb hr (fun t ht hW => ⟨⟨v_rows_size, (()), rfl, h, by rw [ht]; exact hP, hD⟩, hS.F ht⟩) hS.2.2 dFp_pasteCell_101
  · intro c1
    replace h := h.2 c1
    refine lv_lconst (v := 0) hx hb dFp_pasteCell_12 (by decide) ?_
    exact W.lret (v := 0) hx hb hr (fun t ht hW => ⟨⟨0, (()), rfl, h, by rw [ht]; exact hP, hD⟩, hS.F ht⟩) hS.2.2 dFp_pasteCell_13
abbrev yFp_viasInto : MethodName := ⟨"FootprintRules$Footprint", "viasInto", "(I)I"⟩
abbrev cFp_viasInto : ByteArray := prog_5_method_9_code
abbrev wsFp_viasInto : List Cond := .code yFp_viasInto cFp_viasInto 4 (some .int) :: zT
set_option maxRecDepth 100000 in
theorem zc_Fp_viasInto : Cond.code yFp_viasInto cFp_viasInto 4 (some .int) ∈ zT := zm 987 (by rfl) (by rfl)
theorem dFp_viasInto_0 : decode cFp_viasInto 0 = .ok (.aload_n 0, 1) := by decide +kernel
theorem dFp_viasInto_1 : decode cFp_viasInto 1 = .ok (.getfield 18, 3) := by decide +kernel
theorem dFp_viasInto_4 : decode cFp_viasInto 4 = .ok (.getstatic 137, 3) := by decide +kernel
theorem dFp_viasInto_7 : decode cFp_viasInto 7 = .ok (.invokevirtual 91, 3) := by decide +kernel
theorem dFp_viasInto_10 : decode cFp_viasInto 10 = .ok (.lstore_n 2, 1) := by decide +kernel
theorem dFp_viasInto_11 : decode cFp_viasInto 11 = .ok (.aload_n 0, 1) := by decide +kernel
theorem dFp_viasInto_12 : decode cFp_viasInto 12 = .ok (.getfield 53, 3) := by decide +kernel
theorem dFp_viasInto_15 : decode cFp_viasInto 15 = .ok (.ifCond .lt 9, 3) := by decide +kernel
theorem dFp_viasInto_18 : decode cFp_viasInto 18 = .ok (.lload_n 2, 1) := by decide +kernel
theorem dFp_viasInto_19 : decode cFp_viasInto 19 = .ok (.lconst 0, 1) := by decide +kernel
theorem dFp_viasInto_20 : decode cFp_viasInto 20 = .ok (.lcmp, 1) := by decide +kernel
theorem dFp_viasInto_21 : decode cFp_viasInto 21 = .ok (.ifCond .gt 7, 3) := by decide +kernel
theorem dFp_viasInto_24 : decode cFp_viasInto 24 = .ok (.iconst 0, 1) := by decide +kernel
theorem dFp_viasInto_25 : decode cFp_viasInto 25 = .ok (.goto 15, 3) := by decide +kernel
theorem dFp_viasInto_28 : decode cFp_viasInto 28 = .ok (.aload_n 0, 1) := by decide +kernel
theorem dFp_viasInto_29 : decode cFp_viasInto 29 = .ok (.aload_n 0, 1) := by decide +kernel
theorem dFp_viasInto_30 : decode cFp_viasInto 30 = .ok (.getfield 53, 3) := by decide +kernel
theorem dFp_viasInto_33 : decode cFp_viasInto 33 = .ok (.iload_n 1, 1) := by decide +kernel
theorem dFp_viasInto_34 : decode cFp_viasInto 34 = .ok (.invokevirtual 63, 3) := by decide +kernel
theorem dFp_viasInto_37 : decode cFp_viasInto 37 = .ok (.lload_n 2, 1) := by decide +kernel
theorem dFp_viasInto_38 : decode cFp_viasInto 38 = .ok (.ldiv, 1) := by decide +kernel
theorem dFp_viasInto_39 : decode cFp_viasInto 39 = .ok (.l2i, 1) := by decide +kernel
theorem dFp_viasInto_40 : decode cFp_viasInto 40 = .ok (.ireturn, 1) := by decide +kernel
-- FootprintRules$Footprint.viasInto(I)I
abbrev w_Fp_viasInto (ad : Nat → Nat → Nat) (a_this : Nat) (a_cells : Nat) (a_family : Nat) (a_yard : Nat) (a_columns : Nat) (a_rows : Nat) (a_line : Nat) (a_family_values : Nat) (a_family_letters : Nat) (k_family_values : ClassId) (k_cells : ClassId) (v_this_atHand : Int32) (v_this_count : Int32) (v_this_thermal : Int32) (v_this_density : Int32) (v_this_outerHigh : Int64) (v_this_pasteLeft : Int64) (v_this_pasteLow : Int64) (v_this_nameLength : Int32) (v_this_isWritten : Int32) (v_family_letterCount : Int32) (v_family_kind : Nat) (v_family_values : Nat → Int32) (v_cells : Nat → Int64) : va_W := [(a_this, .inr (6, [.int v_this_atHand, .ref a_cells, .int v_this_count, .int v_this_thermal, .ref a_family, .int v_this_density, .long v_this_outerHigh, .ref a_yard, .ref a_columns, .ref a_rows, .long v_this_pasteLeft, .long v_this_pasteLow, .ref a_line, .int v_this_nameLength, .int v_this_isWritten])), (a_family, .inr (2, [.ref a_family_values, .ref a_family_letters, .int v_family_letterCount, .ref (ad 0 v_family_kind)])), (a_family_values, .inl (k_family_values, 18, .inl v_family_values)), (a_cells, .inl (k_cells, 455, .inr (.inl v_cells)))]
def P_Fp_viasInto_24  (post : Int32 → Prop)  : Prop := post 0
set_option maxHeartbeats 4000000 in
set_option maxRecDepth 100000 in
theorem w_Fp_viasInto_24 (l : Launch) {p : Program} {e : Env} {s : State} {m : MethodId} {args : Array Value} {below : List Frame} {meth : Method} {c : Code} {dC : Nat → ClassId} {dI : Nat → Nat → Nat} {ad : Nat → Nat → Nat} {A : Nat → Prop} (C0 : zC p s m args meth c cFp_viasInto 4 RFp zT (some .int) A) (hE : zE ad A s) (a_this : Nat) (a_cells : Nat) (a_family : Nat) (a_yard : Nat) (a_columns : Nat) (a_rows : Nat) (a_line : Nat) (a_family_values : Nat) (a_family_letters : Nat) (k_family_values : ClassId) (k_cells : ClassId) (p1 : Int32) (v_this_atHand : Int32) (v_this_count : Int32) (v_this_thermal : Int32) (v_this_density : Int32) (v_this_outerHigh : Int64) (v_this_pasteLeft : Int64) (v_this_pasteLow : Int64) (v_this_nameLength : Int32) (v_this_isWritten : Int32) (v_family_letterCount : Int32) (v_family_kind : Nat) (v_family_values : Nat → Int32) (v_cells : Nat → Int64) (post : Int32 → Prop) (hK : va_K (dC, dI) vwCl [(k_family_values, .int), (k_cells, .long)] s) : ∀  (H : Heap) (locs : List Loc), P_Fp_viasInto_24 post → va_P (dC, dI) vwCl (w_Fp_viasInto ad a_this a_cells a_family a_yard a_columns a_rows a_line a_family_values a_family_letters k_family_values k_cells v_this_atHand v_this_count v_this_thermal v_this_density v_this_outerHigh v_this_pasteLeft v_this_pasteLow v_this_nameLength v_this_isWritten v_family_letterCount v_family_kind v_family_values v_cells) H → va_D A (w_Fp_viasInto ad a_this a_cells a_family a_yard a_columns a_rows a_line a_family_values a_family_letters k_family_values k_cells v_this_atHand v_this_count v_this_thermal v_this_density v_this_outerHigh v_this_pasteLeft v_this_pasteLow v_this_nameLength v_this_isWritten v_family_letterCount v_family_kind v_family_values v_cells) → va_S A s.heap H locs → ∀ ls : Array Slot, lv_has ls 4 [] → W p l e (headSpec wsFp_viasInto { frames := 2, cells := 0, slots := 0, locals := 44 }).room s m args below meth c H locs 0 0 (MQ below (va_Qi (fun (r : Int32) (u : Unit) => post r) (zB (dC, dI) A (fun (u : Unit) => (w_Fp_viasInto ad a_this a_cells a_family a_yard a_columns a_rows a_line a_family_values a_family_letters k_family_values k_cells v_this_atHand v_this_count v_this_thermal v_this_density v_this_outerHigh v_this_pasteLeft v_this_pasteLow v_this_nameLength v_this_isWritten v_family_letterCount v_family_kind v_family_values v_cells))) A) args s 0 0 A) (F0 m 24 ls []) := by
  obtain ⟨hx, hb, hr, hml, hown, hts, hlocks, hA⟩ := id C0
  intro  H locs h hP hD hS ls hl
  unfold P_Fp_viasInto_24 at h
  refine lv_iconst (v := 0) hx hb dFp_viasInto_24 (by decide) ?_
  refine lv_goto (tgt := 40) hx hb dFp_viasInto_25 (by decide) ?_
  exact W.iret (v := 0) hx hb hr (fun t ht hW => ⟨⟨0, (()), rfl, h, by rw [ht]; exact hP, hD⟩, hS.F ht⟩) hS.2.2 dFp_viasInto_40
def P_Fp_viasInto (p1 : Int32) (v_this_thermal : Int32) (v_family_values : Nat → Int32) (v_cells : Nat → Int64) (post : Int32 → Prop) : Prop := P_Fa_of 9 v_family_values (fun (r1 : Int64) => ((v_this_thermal < 0 → P_Fp_viasInto_24 post) ∧ (¬ v_this_thermal < 0 → ((0 < r1 → P_Fp_cell v_this_thermal p1 v_cells (fun (r4 : Int64) => ¬ r1 = 0 ∧ post ((r4 / r1).toInt32))) ∧ (¬ 0 < r1 → P_Fp_viasInto_24 post)))))
set_option maxHeartbeats 4000000 in
set_option maxRecDepth 100000 in
theorem c_Fp_viasInto (l : Launch) (dC : Nat → ClassId) (dI : Nat → Nat → Nat) (ad : Nat → Nat → Nat) (a_this : Nat) (a_cells : Nat) (a_family : Nat) (a_yard : Nat) (a_columns : Nat) (a_rows : Nat) (a_line : Nat) (a_family_values : Nat) (a_family_letters : Nat) (k_family_values : ClassId) (k_cells : ClassId) (sz : Nat) (p1 : Int32) (v_this_atHand : Int32) (v_this_count : Int32) (v_this_thermal : Int32) (v_this_density : Int32) (v_this_outerHigh : Int64) (v_this_pasteLeft : Int64) (v_this_pasteLow : Int64) (v_this_nameLength : Int32) (v_this_isWritten : Int32) (v_family_letterCount : Int32) (v_family_kind : Nat) (v_family_values : Nat → Int32) (v_cells : Nat → Int64) (post : Int32 → Prop) (h : P_Fp_viasInto p1 v_this_thermal v_family_values v_cells post) : zMi l yFp_viasInto wsFp_viasInto { frames := 2, cells := 0, slots := 0, locals := 44 } (dC, dI) ad [.ref a_this, .int p1] (w_Fp_viasInto ad a_this a_cells a_family a_yard a_columns a_rows a_line a_family_values a_family_letters k_family_values k_cells v_this_atHand v_this_count v_this_thermal v_this_density v_this_outerHigh v_this_pasteLeft v_this_pasteLow v_this_nameLength v_this_isWritten v_family_letterCount v_family_kind v_family_values v_cells) [(k_family_values, .int), (k_cells, .long)] sz (fun (r : Int32) (u : Unit) => post r) (fun (u : Unit) => (w_Fp_viasInto ad a_this a_cells a_family a_yard a_columns a_rows a_line a_family_values a_family_letters k_family_values k_cells v_this_atHand v_this_count v_this_thermal v_this_density v_this_outerHigh v_this_pasteLeft v_this_pasteLow v_this_nameLength v_this_isWritten v_family_letterCount v_family_kind v_family_values v_cells)) 0 0 := by
  refine Met.ofW (cc := cFp_viasInto) (maxL := 4) (ret := (some .int)) (by decide +kernel) rfl ?_
  intro p e s m args below meth c s₁ B hml hv
  obtain ⟨rfl, hsz, hP, hK, hD0, hE⟩ := hv
  have hx := B.exec
  have hb := B.bytes
  have hr := B.returns
  have hts0 := atoms_spec (ws := wsFp_viasInto) B.pre
  have hts := fun w h => hts0 w (List.mem_cons_of_mem _ h)
  have hown : s.vm.findClass RFp = some m.cls := findClass_of_methodNamed B.named
  have hlocks := B.notSynchronized
  subst hsz
  have hD := hD0.self (sz := s.heap.size)
  generalize hAe : va_A (w_Fp_viasInto ad a_this a_cells a_family a_yard a_columns a_rows a_line a_family_values a_family_letters k_family_values k_cells v_this_atHand v_this_count v_this_thermal v_this_density v_this_outerHigh v_this_pasteLeft v_this_pasteLow v_this_nameLength v_this_isWritten v_family_letterCount v_family_kind v_family_values v_cells) s.heap.size = A at hD hE ⊢
  have hA : ∀ q : Nat, s.heap.size ≤ q → A q := fun q h => by rw [← hAe]; exact Or.inr h
  have C0 := zC.mk hx hb hr hml hown hts hlocks hA
  have hS : va_S A s.heap s.heap [] := va_S.rf
  have hl := lv_entry ([.ref a_this, .int p1]) (n := 4) (Nat.le_of_ble_eq_true rfl)
  rw [lg_entry_eq]
  generalize (lg_sl ([.ref a_this, .int p1]) ++ List.replicate (4 - (lg_sl ([.ref a_this, .int p1])).length) Slot.unset).toArray = ls at hl ⊢
  have hl : lv_has ls 4 [(0, .ref a_this), (1, .int p1)] := hl
  unfold P_Fp_viasInto at h
  refine lv_aload_n hx hb dFp_viasInto_0 rfl (lv_at hl 0 rfl) ?_
  refine va_get (D := (dC, dI)) (ci := 6) (v := .ref a_family) (C := RFp) (T := TFp) (N := 15) hx hb hts inZ_Fp hown hK hP 0 rfl rfl 4 (by decide) (hts _ zw_288) (fun _ h9 => h9) rfl dFp_viasInto_1 ?_
  refine va_gets (C := "FootprintRules$Key") (n := "VIA") (d := "LFootprintRules$Key;") hx hb (hE.enKey.1 9 (by decide)).1 hS hown (hts _ zw_988) (fun _ h9 => h9) dFp_viasInto_4 ?_
  refine zcall_l hP hD hS hA [1, 2] [0, 3] (va_runVN (As := [.ref (ad 1 9)]) (rest := []) ⟨hx, hb, hml, hown, hts⟩ (c_Fa_of l dC dI ad a_family a_family_values a_family_letters k_family_values _ 9 v_family_letterCount v_family_kind v_family_values _ h) ⟨va_cnB 1 hts (zgood zc_Fa_of) rfl rfl rfl (hE.nw _ zn_833) (hts _ zw_102) (by decide +kernel) ⟨Nat.le_of_ble_eq_true rfl, Nat.le_of_ble_eq_true rfl⟩, (hts _ zw_716), (hts _ zw_29)⟩ (zpreV hE hK hP hD hS hA [1, 2] [0] (by rfl) (by rfl) (by decide) (ci := 2) (q0 := 1) rfl (by rfl)) rfl rfl hl.1 rfl (lv_room (Nat.le_of_ble_eq_true rfl)) dFp_viasInto_7 ⟨Nat.le_of_ble_eq_true rfl, Nat.le_of_ble_eq_true rfl⟩) (by rfl) (by rfl) (by decide) (by decide) (fun r1 u H locs h hP hD hS => ?_)
  try dsimp only at h
  have hP := hP.sub (ws' := (w_Fp_viasInto ad a_this a_cells a_family a_yard a_columns a_rows a_line a_family_values a_family_letters k_family_values k_cells v_this_atHand v_this_count v_this_thermal v_this_density v_this_outerHigh v_this_pasteLeft v_this_pasteLow v_this_nameLength v_this_isWritten v_family_letterCount v_family_kind v_family_values v_cells)) [0, 2, 3, 1] rfl
  have hD := hD.sub (ws' := (w_Fp_viasInto ad a_this a_cells a_family a_yard a_columns a_rows a_line a_family_values a_family_letters k_family_values k_cells v_this_atHand v_this_count v_this_thermal v_this_density v_this_outerHigh v_this_pasteLeft v_this_pasteLow v_this_nameLength v_this_isWritten v_family_letterCount v_family_kind v_family_values v_cells)) [0, 2, 3, 1] (by decide) rfl
  refine lv_lstore_n (lv' := [(2, .long r1), (0, .ref a_this), (1, .int p1)]) hx hb dFp_viasInto_10 rfl hl (by decide) rfl (fun ls hl => ?_)
  refine lv_aload_n hx hb dFp_viasInto_11 rfl (lv_at hl 1 rfl) ?_
  refine va_get (D := (dC, dI)) (ci := 6) (v := .int v_this_thermal) (C := RFp) (T := TFp) (N := 15) hx hb hts inZ_Fp hown hK hP 0 rfl rfl 3 (by decide) (hts _ zw_286) (fun _ h9 => h9) rfl dFp_viasInto_12 ?_
  refine lv_if_lt (tgt := 24) hx hb dFp_viasInto_15 (by decide) ?_ ?_
  · intro c2
    replace h := h.1 c2
    exact w_Fp_viasInto_24 l C0 hE a_this a_cells a_family a_yard a_columns a_rows a_line a_family_values a_family_letters k_family_values k_cells p1 v_this_atHand v_this_count v_this_thermal v_this_density v_this_outerHigh v_this_pasteLeft v_this_pasteLow v_this_nameLength v_this_isWritten v_family_letterCount v_family_kind v_family_values v_cells post hK _ _ h hP hD hS ls (lv_sub hl [] rfl)
  · intro c2
    replace h := h.2 c2
    refine lv_lload_n hx hb dFp_viasInto_18 rfl (lv_at hl 0 rfl) ?_
    refine lv_lconst (v := 0) hx hb dFp_viasInto_19 (by decide) ?_
    refine zz_lcmp_gt (tgt := 28) hx hb dFp_viasInto_20 dFp_viasInto_21 (by decide) ?_ ?_
    · intro c3
      replace h := h.1 c3
      refine lv_aload_n hx hb dFp_viasInto_28 rfl (lv_at hl 1 rfl) ?_
      refine lv_aload_n hx hb dFp_viasInto_29 rfl (lv_at hl 1 rfl) ?_
      refine va_get (D := (dC, dI)) (ci := 6) (v := .int v_this_thermal) (C := RFp) (T := TFp) (N := 15) hx hb hts inZ_Fp hown hK hP 0 rfl rfl 3 (by decide) (hts _ zw_286) (fun _ h9 => h9) rfl dFp_viasInto_30 ?_
      refine lv_iload_n hx hb dFp_viasInto_33 rfl (lv_at hl 2 rfl) ?_
      refine zcall_l hP hD hS hA [0, 3] [1, 2] (va_runV (As := [.int v_this_thermal, .int p1]) (rest := []) ⟨hx, hb, hml, hown, hts⟩ (c_Fp_cell l dC dI ad a_this a_cells a_family a_yard a_columns a_rows a_line k_cells _ v_this_thermal p1 v_this_atHand v_this_count v_this_thermal v_this_density v_this_outerHigh v_this_pasteLeft v_this_pasteLow v_this_nameLength v_this_isWritten v_cells _ h) ⟨callB_of 2 hts (zgood zc_Fp_cell) rfl rfl rfl (hts _ zw_101) (hts _ zw_818) (by decide +kernel) ⟨Nat.le_of_ble_eq_true rfl, Nat.le_of_ble_eq_true rfl⟩, (hts _ zw_820), (hts _ zw_46)⟩ (zpreV hE hK hP hD hS hA [0, 3] [1] (by rfl) (by rfl) (by decide) (ci := 6) (q0 := 0) rfl (by rfl)) rfl rfl hl.1 rfl (lv_room (Nat.le_of_ble_eq_true rfl)) dFp_viasInto_34 ⟨Nat.le_of_ble_eq_true rfl, Nat.le_of_ble_eq_true rfl⟩) (by rfl) (by rfl) (by decide) (by decide) (fun r4 u H locs h hP hD hS => ?_)
      try dsimp only at h
      have hP := hP.sub (ws' := (w_Fp_viasInto ad a_this a_cells a_family a_yard a_columns a_rows a_line a_family_values a_family_letters k_family_values k_cells v_this_atHand v_this_count v_this_thermal v_this_density v_this_outerHigh v_this_pasteLeft v_this_pasteLow v_this_nameLength v_this_isWritten v_family_letterCount v_family_kind v_family_values v_cells)) [2, 0, 1, 3] rfl
      have hD := hD.sub (ws' := (w_Fp_viasInto ad a_this a_cells a_family a_yard a_columns a_rows a_line a_family_values a_family_letters k_family_values k_cells v_this_atHand v_this_count v_this_thermal v_this_density v_this_outerHigh v_this_pasteLeft v_this_pasteLow v_this_nameLength v_this_isWritten v_family_letterCount v_family_kind v_family_values v_cells)) [2, 0, 1, 3] (by decide) rfl
      refine lv_lload_n hx hb dFp_viasInto_37 rfl (lv_at hl 0 rfl) ?_
      obtain ⟨hn5, h⟩ := h
      refine lv_ldiv hx hb dFp_viasInto_38 hn5 ?_
      refine lv_l2i hx hb dFp_viasInto_39 rfl ?_
      exact W.iret (v := ((r4 / r1).toInt32)) hx hb hr (fun t ht hW => ⟨⟨((r4 / r1).toInt32), (()), rfl, h, by rw [ht]; exact hP, hD⟩, hS.F ht⟩) hS.2.2 dFp_viasInto_40
    · intro c3
      replace h := h.2 c3
      exact w_Fp_viasInto_24 l C0 hE a_this a_cells a_family a_yard a_columns a_rows a_line a_family_values a_family_letters k_family_values k_cells p1 v_this_atHand v_this_count v_this_thermal v_this_density v_this_outerHigh v_this_pasteLeft v_this_pasteLow v_this_nameLength v_this_isWritten v_family_letterCount v_family_kind v_family_values v_cells post hK _ _ h hP hD hS ls (lv_sub hl [] rfl)
abbrev yF_middle : MethodName := ⟨"FootprintRules", "middle", "(JJJ)J"⟩
abbrev cF_middle : ByteArray := prog_1_method_24_code
abbrev wsF_middle : List Cond := .code yF_middle cF_middle 6 (some .long) :: zT
set_option maxRecDepth 100000 in
theorem zc_F_middle : Cond.code yF_middle cF_middle 6 (some .long) ∈ zT := zm 753 (by rfl) (by rfl)
theorem dF_middle_0 : decode cF_middle 0 = .ok (.ldc2_w 198, 3) := by decide +kernel
theorem dF_middle_3 : decode cF_middle 3 = .ok (.lload_n 0, 1) := by decide +kernel
theorem dF_middle_4 : decode cF_middle 4 = .ok (.lmul, 1) := by decide +kernel
theorem dF_middle_5 : decode cF_middle 5 = .ok (.lload_n 2, 1) := by decide +kernel
theorem dF_middle_6 : decode cF_middle 6 = .ok (.lconst 1, 1) := by decide +kernel
theorem dF_middle_7 : decode cF_middle 7 = .ok (.lsub, 1) := by decide +kernel
theorem dF_middle_8 : decode cF_middle 8 = .ok (.lsub, 1) := by decide +kernel
theorem dF_middle_9 : decode cF_middle 9 = .ok (.lload 4, 2) := by decide +kernel
theorem dF_middle_11 : decode cF_middle 11 = .ok (.ldc2_w 198, 3) := by decide +kernel
theorem dF_middle_14 : decode cF_middle 14 = .ok (.ldiv, 1) := by decide +kernel
theorem dF_middle_15 : decode cF_middle 15 = .ok (.lmul, 1) := by decide +kernel
theorem dF_middle_16 : decode cF_middle 16 = .ok (.lreturn, 1) := by decide +kernel
-- FootprintRules.middle(JJJ)J
abbrev w_F_middle (ad : Nat → Nat → Nat)    : va_W := []
def P_F_middle (p0 : Int64) (p2 : Int64) (p4 : Int64) (post : Int64 → Prop) : Prop := post (((2 * p0) - (p2 - 1)) * (p4 / 2))
set_option maxHeartbeats 4000000 in
set_option maxRecDepth 100000 in
theorem c_F_middle (l : Launch) (dC : Nat → ClassId) (dI : Nat → Nat → Nat) (ad : Nat → Nat → Nat)   (sz : Nat) (p0 : Int64) (p2 : Int64) (p4 : Int64) (post : Int64 → Prop) (h : P_F_middle p0 p2 p4 post) : zMl l yF_middle wsF_middle { frames := 0, cells := 0, slots := 0, locals := 0 } (dC, dI) ad [.long p0, .long p2, .long p4] (w_F_middle ad ) [] sz (fun (r : Int64) (u : Unit) => post r) (fun (u : Unit) => (w_F_middle ad )) 0 0 := by
  refine Met.ofW (cc := cF_middle) (maxL := 6) (ret := (some .long)) (by decide +kernel) rfl ?_
  intro p e s m args below meth c s₁ B hml hv
  obtain ⟨rfl, hsz, hP, hK, hD0, hE⟩ := hv
  have hx := B.exec
  have hb := B.bytes
  have hr := B.returns
  have hts0 := atoms_spec (ws := wsF_middle) B.pre
  have hts := fun w h => hts0 w (List.mem_cons_of_mem _ h)
  have hown : s.vm.findClass RF = some m.cls := findClass_of_methodNamed B.named
  have hlocks := B.notSynchronized
  subst hsz
  have hD := hD0.self (sz := s.heap.size)
  generalize hAe : va_A (w_F_middle ad ) s.heap.size = A at hD hE ⊢
  have hA : ∀ q : Nat, s.heap.size ≤ q → A q := fun q h => by rw [← hAe]; exact Or.inr h
  have C0 := zC.mk hx hb hr hml hown hts hlocks hA
  have hS : va_S A s.heap s.heap [] := va_S.rf
  have hl := lv_entry ([.long p0, .long p2, .long p4]) (n := 6) (Nat.le_of_ble_eq_true rfl)
  rw [lg_entry_eq]
  generalize (lg_sl ([.long p0, .long p2, .long p4]) ++ List.replicate (6 - (lg_sl ([.long p0, .long p2, .long p4])).length) Slot.unset).toArray = ls at hl ⊢
  have hl : lv_has ls 6 [(0, .long p0), (2, .long p2), (4, .long p4)] := hl
  unfold P_F_middle at h
  refine lv_ldc2 (own := RF) (index := 198) (v := 2) hx hb hown (hts _ zw_754) dF_middle_0 ?_
  refine lv_lload_n hx hb dF_middle_3 rfl (lv_at hl 0 rfl) ?_
  refine lv_lmul hx hb dF_middle_4 ?_
  refine lv_lload_n hx hb dF_middle_5 rfl (lv_at hl 1 rfl) ?_
  refine lv_lconst (v := 1) hx hb dF_middle_6 (by decide) ?_
  refine lv_lsub hx hb dF_middle_7 ?_
  refine lv_lsub hx hb dF_middle_8 ?_
  refine lv_lload hx hb dF_middle_9 (lv_at hl 2 rfl) ?_
  refine lv_ldc2 (own := RF) (index := 198) (v := 2) hx hb hown (hts _ zw_754) dF_middle_11 ?_
  refine lv_ldiv hx hb dF_middle_14 (by decide) ?_
  refine lv_lmul hx hb dF_middle_15 ?_
  exact W.lret (v := (((2 * p0) - (p2 - 1)) * (p4 / 2))) hx hb hr (fun t ht hW => ⟨⟨(((2 * p0) - (p2 - 1)) * (p4 / 2)), (()), rfl, h, by rw [ht]; exact hP, hD⟩, hS.F ht⟩) hS.2.2 dF_middle_16
abbrev yFp_viaMiddle : MethodName := ⟨"FootprintRules$Footprint", "viaMiddle", "(II)I"⟩
abbrev cFp_viaMiddle : ByteArray := prog_5_method_10_code
abbrev wsFp_viaMiddle : List Cond := .code yFp_viaMiddle cFp_viaMiddle 3 (some .int) :: zT
set_option maxRecDepth 100000 in
theorem zc_Fp_viaMiddle : Cond.code yFp_viaMiddle cFp_viaMiddle 3 (some .int) ∈ zT := zm 992 (by rfl) (by rfl)
theorem dFp_viaMiddle_0 : decode cFp_viaMiddle 0 = .ok (.iload_n 1, 1) := by decide +kernel
theorem dFp_viaMiddle_1 : decode cFp_viaMiddle 1 = .ok (.i2l, 1) := by decide +kernel
theorem dFp_viaMiddle_2 : decode cFp_viaMiddle 2 = .ok (.aload_n 0, 1) := by decide +kernel
theorem dFp_viaMiddle_3 : decode cFp_viaMiddle 3 = .ok (.iload_n 2, 1) := by decide +kernel
theorem dFp_viaMiddle_4 : decode cFp_viaMiddle 4 = .ok (.invokevirtual 140, 3) := by decide +kernel
theorem dFp_viaMiddle_7 : decode cFp_viaMiddle 7 = .ok (.i2l, 1) := by decide +kernel
theorem dFp_viaMiddle_8 : decode cFp_viaMiddle 8 = .ok (.aload_n 0, 1) := by decide +kernel
theorem dFp_viaMiddle_9 : decode cFp_viaMiddle 9 = .ok (.getfield 18, 3) := by decide +kernel
theorem dFp_viaMiddle_12 : decode cFp_viaMiddle 12 = .ok (.getstatic 137, 3) := by decide +kernel
theorem dFp_viaMiddle_15 : decode cFp_viaMiddle 15 = .ok (.invokevirtual 91, 3) := by decide +kernel
theorem dFp_viaMiddle_18 : decode cFp_viaMiddle 18 = .ok (.invokestatic 144, 3) := by decide +kernel
theorem dFp_viaMiddle_21 : decode cFp_viaMiddle 21 = .ok (.l2i, 1) := by decide +kernel
theorem dFp_viaMiddle_22 : decode cFp_viaMiddle 22 = .ok (.ireturn, 1) := by decide +kernel
-- FootprintRules$Footprint.viaMiddle(II)I
abbrev w_Fp_viaMiddle (ad : Nat → Nat → Nat) (a_this : Nat) (a_cells : Nat) (a_family : Nat) (a_yard : Nat) (a_columns : Nat) (a_rows : Nat) (a_line : Nat) (a_family_values : Nat) (a_family_letters : Nat) (k_family_values : ClassId) (k_cells : ClassId) (v_this_atHand : Int32) (v_this_count : Int32) (v_this_thermal : Int32) (v_this_density : Int32) (v_this_outerHigh : Int64) (v_this_pasteLeft : Int64) (v_this_pasteLow : Int64) (v_this_nameLength : Int32) (v_this_isWritten : Int32) (v_family_letterCount : Int32) (v_family_kind : Nat) (v_family_values : Nat → Int32) (v_cells : Nat → Int64) : va_W := [(a_this, .inr (6, [.int v_this_atHand, .ref a_cells, .int v_this_count, .int v_this_thermal, .ref a_family, .int v_this_density, .long v_this_outerHigh, .ref a_yard, .ref a_columns, .ref a_rows, .long v_this_pasteLeft, .long v_this_pasteLow, .ref a_line, .int v_this_nameLength, .int v_this_isWritten])), (a_family, .inr (2, [.ref a_family_values, .ref a_family_letters, .int v_family_letterCount, .ref (ad 0 v_family_kind)])), (a_family_values, .inl (k_family_values, 18, .inl v_family_values)), (a_cells, .inl (k_cells, 455, .inr (.inl v_cells)))]
def P_Fp_viaMiddle (p1 : Int32) (p2 : Int32) (v_this_thermal : Int32) (v_family_values : Nat → Int32) (v_cells : Nat → Int64) (post : Int32 → Prop) : Prop := P_Fp_viasInto p2 v_this_thermal v_family_values v_cells (fun (r1 : Int32) => P_Fa_of 9 v_family_values (fun (r2 : Int64) => P_F_middle p1.toInt64 r1.toInt64 r2 (fun (r3 : Int64) => post r3.toInt32)))
set_option maxHeartbeats 4000000 in
set_option maxRecDepth 100000 in
theorem c_Fp_viaMiddle (l : Launch) (dC : Nat → ClassId) (dI : Nat → Nat → Nat) (ad : Nat → Nat → Nat) (a_this : Nat) (a_cells : Nat) (a_family : Nat) (a_yard : Nat) (a_columns : Nat) (a_rows : Nat) (a_line : Nat) (a_family_values : Nat) (a_family_letters : Nat) (k_family_values : ClassId) (k_cells : ClassId) (sz : Nat) (p1 : Int32) (p2 : Int32) (v_this_atHand : Int32) (v_this_count : Int32) (v_this_thermal : Int32) (v_this_density : Int32) (v_this_outerHigh : Int64) (v_this_pasteLeft : Int64) (v_this_pasteLow : Int64) (v_this_nameLength : Int32) (v_this_isWritten : Int32) (v_family_letterCount : Int32) (v_family_kind : Nat) (v_family_values : Nat → Int32) (v_cells : Nat → Int64) (post : Int32 → Prop) (h : P_Fp_viaMiddle p1 p2 v_this_thermal v_family_values v_cells post) : zMi l yFp_viaMiddle wsFp_viaMiddle { frames := 3, cells := 0, slots := 0, locals := 67 } (dC, dI) ad [.ref a_this, .int p1, .int p2] (w_Fp_viaMiddle ad a_this a_cells a_family a_yard a_columns a_rows a_line a_family_values a_family_letters k_family_values k_cells v_this_atHand v_this_count v_this_thermal v_this_density v_this_outerHigh v_this_pasteLeft v_this_pasteLow v_this_nameLength v_this_isWritten v_family_letterCount v_family_kind v_family_values v_cells) [(k_family_values, .int), (k_cells, .long)] sz (fun (r : Int32) (u : Unit) => post r) (fun (u : Unit) => (w_Fp_viaMiddle ad a_this a_cells a_family a_yard a_columns a_rows a_line a_family_values a_family_letters k_family_values k_cells v_this_atHand v_this_count v_this_thermal v_this_density v_this_outerHigh v_this_pasteLeft v_this_pasteLow v_this_nameLength v_this_isWritten v_family_letterCount v_family_kind v_family_values v_cells)) 0 0 := by
  refine Met.ofW (cc := cFp_viaMiddle) (maxL := 3) (ret := (some .int)) (by decide +kernel) rfl ?_
  intro p e s m args below meth c s₁ B hml hv
  obtain ⟨rfl, hsz, hP, hK, hD0, hE⟩ := hv
  have hx := B.exec
  have hb := B.bytes
  have hr := B.returns
  have hts0 := atoms_spec (ws := wsFp_viaMiddle) B.pre
  have hts := fun w h => hts0 w (List.mem_cons_of_mem _ h)
  have hown : s.vm.findClass RFp = some m.cls := findClass_of_methodNamed B.named
  have hlocks := B.notSynchronized
  subst hsz
  have hD := hD0.self (sz := s.heap.size)
  generalize hAe : va_A (w_Fp_viaMiddle ad a_this a_cells a_family a_yard a_columns a_rows a_line a_family_values a_family_letters k_family_values k_cells v_this_atHand v_this_count v_this_thermal v_this_density v_this_outerHigh v_this_pasteLeft v_this_pasteLow v_this_nameLength v_this_isWritten v_family_letterCount v_family_kind v_family_values v_cells) s.heap.size = A at hD hE ⊢
  have hA : ∀ q : Nat, s.heap.size ≤ q → A q := fun q h => by rw [← hAe]; exact Or.inr h
  have C0 := zC.mk hx hb hr hml hown hts hlocks hA
  have hS : va_S A s.heap s.heap [] := va_S.rf
  have hl := lv_entry ([.ref a_this, .int p1, .int p2]) (n := 3) (Nat.le_of_ble_eq_true rfl)
  rw [lg_entry_eq]
  generalize (lg_sl ([.ref a_this, .int p1, .int p2]) ++ List.replicate (3 - (lg_sl ([.ref a_this, .int p1, .int p2])).length) Slot.unset).toArray = ls at hl ⊢
  have hl : lv_has ls 3 [(0, .ref a_this), (1, .int p1), (2, .int p2)] := hl
  unfold P_Fp_viaMiddle at h
  refine lv_iload_n hx hb dFp_viaMiddle_0 rfl (lv_at hl 1 rfl) ?_
  refine lv_i2l hx hb dFp_viaMiddle_1 rfl ?_
  refine lv_aload_n hx hb dFp_viaMiddle_2 rfl (lv_at hl 0 rfl) ?_
  refine lv_iload_n hx hb dFp_viaMiddle_3 rfl (lv_at hl 2 rfl) ?_
  refine zcall_i hP hD hS hA [0, 1, 2, 3] [] (va_runV (As := [.int p2]) (rest := [.long p1.toInt64]) ⟨hx, hb, hml, hown, hts⟩ (c_Fp_viasInto l dC dI ad a_this a_cells a_family a_yard a_columns a_rows a_line a_family_values a_family_letters k_family_values k_cells _ p2 v_this_atHand v_this_count v_this_thermal v_this_density v_this_outerHigh v_this_pasteLeft v_this_pasteLow v_this_nameLength v_this_isWritten v_family_letterCount v_family_kind v_family_values v_cells _ h) ⟨callB_of 1 hts (zgood zc_Fp_viasInto) rfl rfl rfl (hts _ zw_101) (hts _ zw_993) (by decide +kernel) ⟨Nat.le_of_ble_eq_true rfl, Nat.le_of_ble_eq_true rfl⟩, (hts _ zw_986), (hts _ zw_63)⟩ (zpreV hE hK hP hD hS hA [0, 1, 2, 3] [0, 1] (by rfl) (by rfl) (by decide) (ci := 6) (q0 := 0) rfl (by rfl)) rfl rfl hl.1 rfl (lv_room (Nat.le_of_ble_eq_true rfl)) dFp_viaMiddle_4 ⟨Nat.le_of_ble_eq_true rfl, Nat.le_of_ble_eq_true rfl⟩) (by rfl) (by rfl) (by decide) (by decide) (fun r1 u H locs h hP hD hS => ?_)
  try dsimp only at h
  have hP := hP.sub (ws' := (w_Fp_viaMiddle ad a_this a_cells a_family a_yard a_columns a_rows a_line a_family_values a_family_letters k_family_values k_cells v_this_atHand v_this_count v_this_thermal v_this_density v_this_outerHigh v_this_pasteLeft v_this_pasteLow v_this_nameLength v_this_isWritten v_family_letterCount v_family_kind v_family_values v_cells)) [0, 1, 2, 3] rfl
  have hD := hD.sub (ws' := (w_Fp_viaMiddle ad a_this a_cells a_family a_yard a_columns a_rows a_line a_family_values a_family_letters k_family_values k_cells v_this_atHand v_this_count v_this_thermal v_this_density v_this_outerHigh v_this_pasteLeft v_this_pasteLow v_this_nameLength v_this_isWritten v_family_letterCount v_family_kind v_family_values v_cells)) [0, 1, 2, 3] (by decide) rfl
  refine lv_i2l hx hb dFp_viaMiddle_7 rfl ?_
  refine lv_aload_n hx hb dFp_viaMiddle_8 rfl (lv_at hl 0 rfl) ?_
  refine va_get (D := (dC, dI)) (ci := 6) (v := .ref a_family) (C := RFp) (T := TFp) (N := 15) hx hb hts inZ_Fp hown hK hP 0 rfl rfl 4 (by decide) (hts _ zw_288) (fun _ h9 => h9) rfl dFp_viaMiddle_9 ?_
  refine va_gets (C := "FootprintRules$Key") (n := "VIA") (d := "LFootprintRules$Key;") hx hb (hE.enKey.1 9 (by decide)).1 hS hown (hts _ zw_988) (fun _ h9 => h9) dFp_viaMiddle_12 ?_
  refine zcall_l hP hD hS hA [1, 2] [0, 3] (va_runVN (As := [.ref (ad 1 9)]) (rest := [.long r1.toInt64, .long p1.toInt64]) ⟨hx, hb, hml, hown, hts⟩ (c_Fa_of l dC dI ad a_family a_family_values a_family_letters k_family_values _ 9 v_family_letterCount v_family_kind v_family_values _ h) ⟨va_cnB 1 hts (zgood zc_Fa_of) rfl rfl rfl (hE.nw _ zn_833) (hts _ zw_102) (by decide +kernel) ⟨Nat.le_of_ble_eq_true rfl, Nat.le_of_ble_eq_true rfl⟩, (hts _ zw_716), (hts _ zw_29)⟩ (zpreV hE hK hP hD hS hA [1, 2] [0] (by rfl) (by rfl) (by decide) (ci := 2) (q0 := 1) rfl (by rfl)) rfl rfl hl.1 rfl (lv_room (Nat.le_of_ble_eq_true rfl)) dFp_viaMiddle_15 ⟨Nat.le_of_ble_eq_true rfl, Nat.le_of_ble_eq_true rfl⟩) (by rfl) (by rfl) (by decide) (by decide) (fun r2 u H locs h hP hD hS => ?_)
  try dsimp only at h
  have hP := hP.sub (ws' := (w_Fp_viaMiddle ad a_this a_cells a_family a_yard a_columns a_rows a_line a_family_values a_family_letters k_family_values k_cells v_this_atHand v_this_count v_this_thermal v_this_density v_this_outerHigh v_this_pasteLeft v_this_pasteLow v_this_nameLength v_this_isWritten v_family_letterCount v_family_kind v_family_values v_cells)) [0, 2, 3, 1] rfl
  have hD := hD.sub (ws' := (w_Fp_viaMiddle ad a_this a_cells a_family a_yard a_columns a_rows a_line a_family_values a_family_letters k_family_values k_cells v_this_atHand v_this_count v_this_thermal v_this_density v_this_outerHigh v_this_pasteLeft v_this_pasteLow v_this_nameLength v_this_isWritten v_family_letterCount v_family_kind v_family_values v_cells)) [0, 2, 3, 1] (by decide) rfl
  refine zcall_l hP hD hS hA [] [0, 1, 2, 3] (va_runSN (As := [.long p1.toInt64, .long r1.toInt64, .long r2]) (rest := []) ⟨hx, hb, hml, hown, hts⟩ (c_F_middle l dC dI ad _ p1.toInt64 r1.toInt64 r2 _ h) ⟨va_cnB 3 hts (zgood zc_F_middle) rfl rfl rfl (hE.nw _ zn_994) (hts _ zw_95) (by decide +kernel) ⟨Nat.le_of_ble_eq_true rfl, Nat.le_of_ble_eq_true rfl⟩, (hts _ zw_752), trivial⟩ (zpreS hE hK hP hD hS hA [] [] (by rfl) (by rfl) (by decide)) rfl rfl hl.1 rfl (lv_room (Nat.le_of_ble_eq_true rfl)) dFp_viaMiddle_18 ⟨Nat.le_of_ble_eq_true rfl, Nat.le_of_ble_eq_true rfl⟩) (by rfl) (by rfl) (by decide) (by decide) (fun r3 u H locs h hP hD hS => ?_)
  try dsimp only at h
  have hP := hP.sub (ws' := (w_Fp_viaMiddle ad a_this a_cells a_family a_yard a_columns a_rows a_line a_family_values a_family_letters k_family_values k_cells v_this_atHand v_this_count v_this_thermal v_this_density v_this_outerHigh v_this_pasteLeft v_this_pasteLow v_this_nameLength v_this_isWritten v_family_letterCount v_family_kind v_family_values v_cells)) [0, 1, 2, 3] rfl
  have hD := hD.sub (ws' := (w_Fp_viaMiddle ad a_this a_cells a_family a_yard a_columns a_rows a_line a_family_values a_family_letters k_family_values k_cells v_this_atHand v_this_count v_this_thermal v_this_density v_this_outerHigh v_this_pasteLeft v_this_pasteLow v_this_nameLength v_this_isWritten v_family_letterCount v_family_kind v_family_values v_cells)) [0, 1, 2, 3] (by decide) rfl
  refine lv_l2i hx hb dFp_viaMiddle_21 rfl ?_
  exact W.iret (v := r3.toInt32) hx hb hr (fun t ht hW => ⟨⟨r3.toInt32, (()), rfl, h, by rw [ht]; exact hP, hD⟩, hS.F ht⟩) hS.2.2 dFp_viaMiddle_22
abbrev yFp_writeName : MethodName := ⟨"FootprintRules$Footprint", "writeName", "()V"⟩
abbrev cFp_writeName : ByteArray := prog_5_method_14_code
abbrev wsFp_writeName : List Cond := .code yFp_writeName cFp_writeName 2 none :: zT
set_option maxRecDepth 100000 in
theorem zc_Fp_writeName : Cond.code yFp_writeName cFp_writeName 2 none ∈ zT := zm 879 (by rfl) (by rfl)
theorem dFp_writeName_0 : decode cFp_writeName 0 = .ok (.iconst 0, 1) := by decide +kernel
theorem dFp_writeName_1 : decode cFp_writeName 1 = .ok (.istore_n 1, 1) := by decide +kernel
theorem dFp_writeName_2 : decode cFp_writeName 2 = .ok (.iload_n 1, 1) := by decide +kernel
theorem dFp_writeName_3 : decode cFp_writeName 3 = .ok (.aload_n 0, 1) := by decide +kernel
theorem dFp_writeName_4 : decode cFp_writeName 4 = .ok (.getfield 18, 3) := by decide +kernel
theorem dFp_writeName_7 : decode cFp_writeName 7 = .ok (.getfield 180, 3) := by decide +kernel
theorem dFp_writeName_10 : decode cFp_writeName 10 = .ok (.if_icmp .ge 30, 3) := by decide +kernel
theorem dFp_writeName_13 : decode cFp_writeName 13 = .ok (.iload_n 1, 1) := by decide +kernel
theorem dFp_writeName_14 : decode cFp_writeName 14 = .ok (.iconst 4, 1) := by decide +kernel
theorem dFp_writeName_15 : decode cFp_writeName 15 = .ok (.if_icmp .ge 25, 3) := by decide +kernel
theorem dFp_writeName_18 : decode cFp_writeName 18 = .ok (.aload_n 0, 1) := by decide +kernel
theorem dFp_writeName_19 : decode cFp_writeName 19 = .ok (.getfield 38, 3) := by decide +kernel
theorem dFp_writeName_22 : decode cFp_writeName 22 = .ok (.aload_n 0, 1) := by decide +kernel
theorem dFp_writeName_23 : decode cFp_writeName 23 = .ok (.getfield 18, 3) := by decide +kernel
theorem dFp_writeName_26 : decode cFp_writeName 26 = .ok (.getfield 183, 3) := by decide +kernel
theorem dFp_writeName_29 : decode cFp_writeName 29 = .ok (.iload_n 1, 1) := by decide +kernel
theorem dFp_writeName_30 : decode cFp_writeName 30 = .ok (.caload, 1) := by decide +kernel
theorem dFp_writeName_31 : decode cFp_writeName 31 = .ok (.invokevirtual 163, 3) := by decide +kernel
theorem dFp_writeName_34 : decode cFp_writeName 34 = .ok (.iinc 1 1, 3) := by decide +kernel
theorem dFp_writeName_37 : decode cFp_writeName 37 = .ok (.goto (-35), 3) := by decide +kernel
theorem dFp_writeName_40 : decode cFp_writeName 40 = .ok (.aload_n 0, 1) := by decide +kernel
theorem dFp_writeName_41 : decode cFp_writeName 41 = .ok (.getfield 38, 3) := by decide +kernel
theorem dFp_writeName_44 : decode cFp_writeName 44 = .ok (.aload_n 0, 1) := by decide +kernel
theorem dFp_writeName_45 : decode cFp_writeName 45 = .ok (.getfield 49, 3) := by decide +kernel
theorem dFp_writeName_48 : decode cFp_writeName 48 = .ok (.i2l, 1) := by decide +kernel
theorem dFp_writeName_49 : decode cFp_writeName 49 = .ok (.invokevirtual 177, 3) := by decide +kernel
theorem dFp_writeName_52 : decode cFp_writeName 52 = .ok (.aload_n 0, 1) := by decide +kernel
theorem dFp_writeName_53 : decode cFp_writeName 53 = .ok (.getfield 38, 3) := by decide +kernel
theorem dFp_writeName_56 : decode cFp_writeName 56 = .ok (.bipush 88, 2) := by decide +kernel
theorem dFp_writeName_58 : decode cFp_writeName 58 = .ok (.invokevirtual 163, 3) := by decide +kernel
theorem dFp_writeName_61 : decode cFp_writeName 61 = .ok (.aload_n 0, 1) := by decide +kernel
theorem dFp_writeName_62 : decode cFp_writeName 62 = .ok (.getfield 38, 3) := by decide +kernel
theorem dFp_writeName_65 : decode cFp_writeName 65 = .ok (.aload_n 0, 1) := by decide +kernel
theorem dFp_writeName_66 : decode cFp_writeName 66 = .ok (.getfield 59, 3) := by decide +kernel
theorem dFp_writeName_69 : decode cFp_writeName 69 = .ok (.ldc2_w 187, 3) := by decide +kernel
theorem dFp_writeName_72 : decode cFp_writeName 72 = .ok (.ldiv, 1) := by decide +kernel
theorem dFp_writeName_73 : decode cFp_writeName 73 = .ok (.invokevirtual 177, 3) := by decide +kernel
theorem dFp_writeName_76 : decode cFp_writeName 76 = .ok (.aload_n 0, 1) := by decide +kernel
theorem dFp_writeName_77 : decode cFp_writeName 77 = .ok (.getfield 38, 3) := by decide +kernel
theorem dFp_writeName_80 : decode cFp_writeName 80 = .ok (.aload_n 0, 1) := by decide +kernel
theorem dFp_writeName_81 : decode cFp_writeName 81 = .ok (.getfield 56, 3) := by decide +kernel
theorem dFp_writeName_84 : decode cFp_writeName 84 = .ok (.ifCond .ne 8, 3) := by decide +kernel
theorem dFp_writeName_87 : decode cFp_writeName 87 = .ok (.bipush 76, 2) := by decide +kernel
theorem dFp_writeName_89 : decode cFp_writeName 89 = .ok (.goto 18, 3) := by decide +kernel
theorem dFp_writeName_92 : decode cFp_writeName 92 = .ok (.aload_n 0, 1) := by decide +kernel
theorem dFp_writeName_93 : decode cFp_writeName 93 = .ok (.getfield 56, 3) := by decide +kernel
theorem dFp_writeName_96 : decode cFp_writeName 96 = .ok (.iconst 1, 1) := by decide +kernel
theorem dFp_writeName_97 : decode cFp_writeName 97 = .ok (.if_icmp .ne 8, 3) := by decide +kernel
theorem dFp_writeName_100 : decode cFp_writeName 100 = .ok (.bipush 78, 2) := by decide +kernel
theorem dFp_writeName_102 : decode cFp_writeName 102 = .ok (.goto 5, 3) := by decide +kernel
theorem dFp_writeName_105 : decode cFp_writeName 105 = .ok (.bipush 77, 2) := by decide +kernel
theorem dFp_writeName_107 : decode cFp_writeName 107 = .ok (.invokevirtual 163, 3) := by decide +kernel
theorem dFp_writeName_110 : decode cFp_writeName 110 = .ok (.return_, 1) := by decide +kernel
-- FootprintRules$Footprint.writeName()V
abbrev w_Fp_writeName (ad : Nat → Nat → Nat) (a_this : Nat) (a_cells : Nat) (a_family : Nat) (a_yard : Nat) (a_columns : Nat) (a_rows : Nat) (a_line : Nat) (a_family_values : Nat) (a_family_letters : Nat) (a_line_units : Nat) (k_family_letters : ClassId) (k_line_units : ClassId) (v_this_atHand : Int32) (v_this_count : Int32) (v_this_thermal : Int32) (v_this_density : Int32) (v_this_outerHigh : Int64) (v_this_pasteLeft : Int64) (v_this_pasteLow : Int64) (v_this_nameLength : Int32) (v_this_isWritten : Int32) (v_family_letterCount : Int32) (v_family_kind : Nat) (v_family_letters : Nat → Int32) (v_line_length : Int32) (v_line_units : Nat → Int32) : va_W := [(a_this, .inr (6, [.int v_this_atHand, .ref a_cells, .int v_this_count, .int v_this_thermal, .ref a_family, .int v_this_density, .long v_this_outerHigh, .ref a_yard, .ref a_columns, .ref a_rows, .long v_this_pasteLeft, .long v_this_pasteLow, .ref a_line, .int v_this_nameLength, .int v_this_isWritten])), (a_family, .inr (2, [.ref a_family_values, .ref a_family_letters, .int v_family_letterCount, .ref (ad 0 v_family_kind)])), (a_family_letters, .inl (k_family_letters, 4, .inl v_family_letters)), (a_line, .inr (7, [.ref a_line_units, .int v_line_length])), (a_line_units, .inl (k_line_units, 4096, .inl v_line_units))]
def P_Fp_writeName_107  (post : Int32 → (Nat → Int32) → Prop) (t0 : Int32) (u_line_length : Int32) (u_line_units : Nat → Int32) : Prop := P_Li_addUnit t0 u_line_length u_line_units (fun (u1 : Int32) (u2 : Nat → Int32) => post u1 u2)
set_option maxHeartbeats 4000000 in
set_option maxRecDepth 100000 in
theorem w_Fp_writeName_107 (l : Launch) {p : Program} {e : Env} {s : State} {m : MethodId} {args : Array Value} {below : List Frame} {meth : Method} {c : Code} {dC : Nat → ClassId} {dI : Nat → Nat → Nat} {ad : Nat → Nat → Nat} {A : Nat → Prop} (C0 : zC p s m args meth c cFp_writeName 2 RFp zT none A) (hE : zE ad A s) (a_this : Nat) (a_cells : Nat) (a_family : Nat) (a_yard : Nat) (a_columns : Nat) (a_rows : Nat) (a_line : Nat) (a_family_values : Nat) (a_family_letters : Nat) (a_line_units : Nat) (k_family_letters : ClassId) (k_line_units : ClassId) (v_this_atHand : Int32) (v_this_count : Int32) (v_this_thermal : Int32) (v_this_density : Int32) (v_this_outerHigh : Int64) (v_this_pasteLeft : Int64) (v_this_pasteLow : Int64) (v_this_nameLength : Int32) (v_this_isWritten : Int32) (v_family_letterCount : Int32) (v_family_kind : Nat) (v_family_letters : Nat → Int32) (v_line_length : Int32) (v_line_units : Nat → Int32) (post : Int32 → (Nat → Int32) → Prop) (hK : va_K (dC, dI) vwCl [(k_family_letters, .char), (k_line_units, .char)] s) : ∀ (t0 : Int32) (u_line_length : Int32) (u_line_units : Nat → Int32) (H : Heap) (locs : List Loc), P_Fp_writeName_107 post t0 u_line_length u_line_units → va_P (dC, dI) vwCl (w_Fp_writeName ad a_this a_cells a_family a_yard a_columns a_rows a_line a_family_values a_family_letters a_line_units k_family_letters k_line_units v_this_atHand v_this_count v_this_thermal v_this_density v_this_outerHigh v_this_pasteLeft v_this_pasteLow v_this_nameLength v_this_isWritten v_family_letterCount v_family_kind v_family_letters u_line_length u_line_units) H → va_D A (w_Fp_writeName ad a_this a_cells a_family a_yard a_columns a_rows a_line a_family_values a_family_letters a_line_units k_family_letters k_line_units v_this_atHand v_this_count v_this_thermal v_this_density v_this_outerHigh v_this_pasteLeft v_this_pasteLow v_this_nameLength v_this_isWritten v_family_letterCount v_family_kind v_family_letters u_line_length u_line_units) → va_S A s.heap H locs → ∀ ls : Array Slot, lv_has ls 2 [] → W p l e (headSpec wsFp_writeName { frames := 2, cells := 0, slots := 0, locals := 48 }).room s m args below meth c H locs 0 0 (MQ below (va_Qv (fun (u : Int32 × (Nat → Int32)) => post u.1 u.2) (zB (dC, dI) A (fun (u : Int32 × (Nat → Int32)) => (w_Fp_writeName ad a_this a_cells a_family a_yard a_columns a_rows a_line a_family_values a_family_letters a_line_units k_family_letters k_line_units v_this_atHand v_this_count v_this_thermal v_this_density v_this_outerHigh v_this_pasteLeft v_this_pasteLow v_this_nameLength v_this_isWritten v_family_letterCount v_family_kind v_family_letters u.1 u.2))) A) args s 0 0 A) (F0 m 107 ls [.int t0, .ref a_line]) := by
  obtain ⟨hx, hb, hr, hml, hown, hts, hlocks, hA⟩ := id C0
  intro t0 u_line_length u_line_units H locs h hP hD hS ls hl
  unfold P_Fp_writeName_107 at h
  refine zcall_v hP hD hS hA [3, 4] [0, 1, 2] (va_runVN (As := [.int t0]) (rest := []) ⟨hx, hb, hml, hown, hts⟩ (c_Li_addUnit l dC dI ad a_line a_line_units k_line_units _ t0 u_line_length u_line_units _ h) ⟨va_cnB 1 hts (zgood zc_Li_addUnit) rfl rfl rfl (hE.nw _ zn_880) (hts _ zw_106) (by decide +kernel) ⟨Nat.le_of_ble_eq_true rfl, Nat.le_of_ble_eq_true rfl⟩, (hts _ zw_882), (hts _ zw_52)⟩ (zpreV hE hK hP hD hS hA [3, 4] [1] (by rfl) (by rfl) (by decide) (ci := 7) (q0 := 3) rfl (by rfl)) rfl rfl hl.1 rfl (lv_room (Nat.le_of_ble_eq_true rfl)) dFp_writeName_107 ⟨Nat.le_of_ble_eq_true rfl, Nat.le_of_ble_eq_true rfl⟩) (by rfl) (by rfl) (by decide) (by decide) (fun u H locs h hP hD hS => ?_)
  obtain ⟨u1, u2⟩ := u
  try dsimp only at h
  have hP := hP.sub (ws' := (w_Fp_writeName ad a_this a_cells a_family a_yard a_columns a_rows a_line a_family_values a_family_letters a_line_units k_family_letters k_line_units v_this_atHand v_this_count v_this_thermal v_this_density v_this_outerHigh v_this_pasteLeft v_this_pasteLow v_this_nameLength v_this_isWritten v_family_letterCount v_family_kind v_family_letters u1 u2)) [0, 1, 2, 3, 4] rfl
  have hD := hD.sub (ws' := (w_Fp_writeName ad a_this a_cells a_family a_yard a_columns a_rows a_line a_family_values a_family_letters a_line_units k_family_letters k_line_units v_this_atHand v_this_count v_this_thermal v_this_density v_this_outerHigh v_this_pasteLeft v_this_pasteLow v_this_nameLength v_this_isWritten v_family_letterCount v_family_kind v_family_letters u1 u2)) [0, 1, 2, 3, 4] (by decide) rfl
  exact W.vret hx hb hr (fun t ht hW => ⟨⟨(u1, u2), rfl, h, by rw [ht]; exact hP, hD⟩, hS.F ht⟩) hS.2.2 dFp_writeName_110
def P_Fp_writeName_40 (v_this_count : Int32) (v_this_density : Int32) (v_this_outerHigh : Int64) (post : Int32 → (Nat → Int32) → Prop) (u_line_length : Int32) (u_line_units : Nat → Int32) : Prop := P_Li_addNumber v_this_count.toInt64 u_line_length u_line_units (fun (u1 : Int32) (u2 : Nat → Int32) => P_Li_addUnit 88 u1 u2 (fun (u3 : Int32) (u4 : Nat → Int32) => P_Li_addNumber (v_this_outerHigh / 1000) u3 u4 (fun (u5 : Int32) (u6 : Nat → Int32) => ((¬ v_this_density = 0 → ((¬ v_this_density = 1 → P_Fp_writeName_107 post 77 u5 u6) ∧ (v_this_density = 1 → P_Fp_writeName_107 post 78 u5 u6))) ∧ (v_this_density = 0 → P_Fp_writeName_107 post 76 u5 u6)))))
set_option maxHeartbeats 4000000 in
set_option maxRecDepth 100000 in
theorem w_Fp_writeName_40 (l : Launch) {p : Program} {e : Env} {s : State} {m : MethodId} {args : Array Value} {below : List Frame} {meth : Method} {c : Code} {dC : Nat → ClassId} {dI : Nat → Nat → Nat} {ad : Nat → Nat → Nat} {A : Nat → Prop} (C0 : zC p s m args meth c cFp_writeName 2 RFp zT none A) (hE : zE ad A s) (a_this : Nat) (a_cells : Nat) (a_family : Nat) (a_yard : Nat) (a_columns : Nat) (a_rows : Nat) (a_line : Nat) (a_family_values : Nat) (a_family_letters : Nat) (a_line_units : Nat) (k_family_letters : ClassId) (k_line_units : ClassId) (v_this_atHand : Int32) (v_this_count : Int32) (v_this_thermal : Int32) (v_this_density : Int32) (v_this_outerHigh : Int64) (v_this_pasteLeft : Int64) (v_this_pasteLow : Int64) (v_this_nameLength : Int32) (v_this_isWritten : Int32) (v_family_letterCount : Int32) (v_family_kind : Nat) (v_family_letters : Nat → Int32) (v_line_length : Int32) (v_line_units : Nat → Int32) (post : Int32 → (Nat → Int32) → Prop) (hK : va_K (dC, dI) vwCl [(k_family_letters, .char), (k_line_units, .char)] s) : ∀ (u_line_length : Int32) (u_line_units : Nat → Int32) (H : Heap) (locs : List Loc), P_Fp_writeName_40 v_this_count v_this_density v_this_outerHigh post u_line_length u_line_units → va_P (dC, dI) vwCl (w_Fp_writeName ad a_this a_cells a_family a_yard a_columns a_rows a_line a_family_values a_family_letters a_line_units k_family_letters k_line_units v_this_atHand v_this_count v_this_thermal v_this_density v_this_outerHigh v_this_pasteLeft v_this_pasteLow v_this_nameLength v_this_isWritten v_family_letterCount v_family_kind v_family_letters u_line_length u_line_units) H → va_D A (w_Fp_writeName ad a_this a_cells a_family a_yard a_columns a_rows a_line a_family_values a_family_letters a_line_units k_family_letters k_line_units v_this_atHand v_this_count v_this_thermal v_this_density v_this_outerHigh v_this_pasteLeft v_this_pasteLow v_this_nameLength v_this_isWritten v_family_letterCount v_family_kind v_family_letters u_line_length u_line_units) → va_S A s.heap H locs → ∀ ls : Array Slot, lv_has ls 2 [(0, .ref a_this)] → W p l e (headSpec wsFp_writeName { frames := 2, cells := 0, slots := 0, locals := 48 }).room s m args below meth c H locs 0 0 (MQ below (va_Qv (fun (u : Int32 × (Nat → Int32)) => post u.1 u.2) (zB (dC, dI) A (fun (u : Int32 × (Nat → Int32)) => (w_Fp_writeName ad a_this a_cells a_family a_yard a_columns a_rows a_line a_family_values a_family_letters a_line_units k_family_letters k_line_units v_this_atHand v_this_count v_this_thermal v_this_density v_this_outerHigh v_this_pasteLeft v_this_pasteLow v_this_nameLength v_this_isWritten v_family_letterCount v_family_kind v_family_letters u.1 u.2))) A) args s 0 0 A) (F0 m 40 ls []) := by
  obtain ⟨hx, hb, hr, hml, hown, hts, hlocks, hA⟩ := id C0
  intro u_line_length u_line_units H locs h hP hD hS ls hl
  unfold P_Fp_writeName_40 at h
  refine lv_aload_n hx hb dFp_writeName_40 rfl (lv_at hl 0 rfl) ?_
  refine va_get (D := (dC, dI)) (ci := 6) (v := .ref a_line) (C := RFp) (T := TFp) (N := 15) hx hb hts inZ_Fp hown hK hP 0 rfl rfl 12 (by decide) (hts _ zw_297) (fun _ h9 => h9) rfl dFp_writeName_41 ?_
  refine lv_aload_n hx hb dFp_writeName_44 rfl (lv_at hl 0 rfl) ?_
  refine va_get (D := (dC, dI)) (ci := 6) (v := .int v_this_count) (C := RFp) (T := TFp) (N := 15) hx hb hts inZ_Fp hown hK hP 0 rfl rfl 2 (by decide) (hts _ zw_282) (fun _ h9 => h9) rfl dFp_writeName_45 ?_
  refine lv_i2l hx hb dFp_writeName_48 rfl ?_
  refine zcall_v hP hD hS hA [3, 4] [0, 1, 2] (va_runVN (As := [.long v_this_count.toInt64]) (rest := []) ⟨hx, hb, hml, hown, hts⟩ (c_Li_addNumber l dC dI ad a_line a_line_units k_line_units _ v_this_count.toInt64 u_line_length u_line_units _ h) ⟨va_cnB 1 hts (zgood zc_Li_addNumber) rfl rfl rfl (hE.nw _ zn_884) (hts _ zw_106) (by decide +kernel) ⟨Nat.le_of_ble_eq_true rfl, Nat.le_of_ble_eq_true rfl⟩, (hts _ zw_886), (hts _ zw_53)⟩ (zpreV hE hK hP hD hS hA [3, 4] [1] (by rfl) (by rfl) (by decide) (ci := 7) (q0 := 3) rfl (by rfl)) rfl rfl hl.1 rfl (lv_room (Nat.le_of_ble_eq_true rfl)) dFp_writeName_49 ⟨Nat.le_of_ble_eq_true rfl, Nat.le_of_ble_eq_true rfl⟩) (by rfl) (by rfl) (by decide) (by decide) (fun u H locs h hP hD hS => ?_)
  obtain ⟨u1, u2⟩ := u
  try dsimp only at h
  have hP := hP.sub (ws' := (w_Fp_writeName ad a_this a_cells a_family a_yard a_columns a_rows a_line a_family_values a_family_letters a_line_units k_family_letters k_line_units v_this_atHand v_this_count v_this_thermal v_this_density v_this_outerHigh v_this_pasteLeft v_this_pasteLow v_this_nameLength v_this_isWritten v_family_letterCount v_family_kind v_family_letters u1 u2)) [0, 1, 2, 3, 4] rfl
  have hD := hD.sub (ws' := (w_Fp_writeName ad a_this a_cells a_family a_yard a_columns a_rows a_line a_family_values a_family_letters a_line_units k_family_letters k_line_units v_this_atHand v_this_count v_this_thermal v_this_density v_this_outerHigh v_this_pasteLeft v_this_pasteLow v_this_nameLength v_this_isWritten v_family_letterCount v_family_kind v_family_letters u1 u2)) [0, 1, 2, 3, 4] (by decide) rfl
  refine lv_aload_n hx hb dFp_writeName_52 rfl (lv_at hl 0 rfl) ?_
  refine va_get (D := (dC, dI)) (ci := 6) (v := .ref a_line) (C := RFp) (T := TFp) (N := 15) hx hb hts inZ_Fp hown hK hP 0 rfl rfl 12 (by decide) (hts _ zw_297) (fun _ h9 => h9) rfl dFp_writeName_53 ?_
  refine lv_bipush (v := 88) hx hb dFp_writeName_56 (by decide) ?_
  refine zcall_v hP hD hS hA [3, 4] [0, 1, 2] (va_runVN (As := [.int 88]) (rest := []) ⟨hx, hb, hml, hown, hts⟩ (c_Li_addUnit l dC dI ad a_line a_line_units k_line_units _ 88 u1 u2 _ h) ⟨va_cnB 1 hts (zgood zc_Li_addUnit) rfl rfl rfl (hE.nw _ zn_880) (hts _ zw_106) (by decide +kernel) ⟨Nat.le_of_ble_eq_true rfl, Nat.le_of_ble_eq_true rfl⟩, (hts _ zw_882), (hts _ zw_52)⟩ (zpreV hE hK hP hD hS hA [3, 4] [1] (by rfl) (by rfl) (by decide) (ci := 7) (q0 := 3) rfl (by rfl)) rfl rfl hl.1 rfl (lv_room (Nat.le_of_ble_eq_true rfl)) dFp_writeName_58 ⟨Nat.le_of_ble_eq_true rfl, Nat.le_of_ble_eq_true rfl⟩) (by rfl) (by rfl) (by decide) (by decide) (fun u H locs h hP hD hS => ?_)
  obtain ⟨u3, u4⟩ := u
  try dsimp only at h
  have hP := hP.sub (ws' := (w_Fp_writeName ad a_this a_cells a_family a_yard a_columns a_rows a_line a_family_values a_family_letters a_line_units k_family_letters k_line_units v_this_atHand v_this_count v_this_thermal v_this_density v_this_outerHigh v_this_pasteLeft v_this_pasteLow v_this_nameLength v_this_isWritten v_family_letterCount v_family_kind v_family_letters u3 u4)) [0, 1, 2, 3, 4] rfl
  have hD := hD.sub (ws' := (w_Fp_writeName ad a_this a_cells a_family a_yard a_columns a_rows a_line a_family_values a_family_letters a_line_units k_family_letters k_line_units v_this_atHand v_this_count v_this_thermal v_this_density v_this_outerHigh v_this_pasteLeft v_this_pasteLow v_this_nameLength v_this_isWritten v_family_letterCount v_family_kind v_family_letters u3 u4)) [0, 1, 2, 3, 4] (by decide) rfl
  refine lv_aload_n hx hb dFp_writeName_61 rfl (lv_at hl 0 rfl) ?_
  refine va_get (D := (dC, dI)) (ci := 6) (v := .ref a_line) (C := RFp) (T := TFp) (N := 15) hx hb hts inZ_Fp hown hK hP 0 rfl rfl 12 (by decide) (hts _ zw_297) (fun _ h9 => h9) rfl dFp_writeName_62 ?_
  refine lv_aload_n hx hb dFp_writeName_65 rfl (lv_at hl 0 rfl) ?_
  refine va_get (D := (dC, dI)) (ci := 6) (v := .long v_this_outerHigh) (C := RFp) (T := TFp) (N := 15) hx hb hts inZ_Fp hown hK hP 0 rfl rfl 6 (by decide) (hts _ zw_290) (fun _ h9 => h9) rfl dFp_writeName_66 ?_
  refine lv_ldc2 (own := RFp) (index := 187) (v := 1000) hx hb hown (hts _ zw_894) dFp_writeName_69 ?_
  refine lv_ldiv hx hb dFp_writeName_72 (by decide) ?_
  refine zcall_v hP hD hS hA [3, 4] [0, 1, 2] (va_runVN (As := [.long (v_this_outerHigh / 1000)]) (rest := []) ⟨hx, hb, hml, hown, hts⟩ (c_Li_addNumber l dC dI ad a_line a_line_units k_line_units _ (v_this_outerHigh / 1000) u3 u4 _ h) ⟨va_cnB 1 hts (zgood zc_Li_addNumber) rfl rfl rfl (hE.nw _ zn_884) (hts _ zw_106) (by decide +kernel) ⟨Nat.le_of_ble_eq_true rfl, Nat.le_of_ble_eq_true rfl⟩, (hts _ zw_886), (hts _ zw_53)⟩ (zpreV hE hK hP hD hS hA [3, 4] [1] (by rfl) (by rfl) (by decide) (ci := 7) (q0 := 3) rfl (by rfl)) rfl rfl hl.1 rfl (lv_room (Nat.le_of_ble_eq_true rfl)) dFp_writeName_73 ⟨Nat.le_of_ble_eq_true rfl, Nat.le_of_ble_eq_true rfl⟩) (by rfl) (by rfl) (by decide) (by decide) (fun u H locs h hP hD hS => ?_)
  obtain ⟨u5, u6⟩ := u
  try dsimp only at h
  have hP := hP.sub (ws' := (w_Fp_writeName ad a_this a_cells a_family a_yard a_columns a_rows a_line a_family_values a_family_letters a_line_units k_family_letters k_line_units v_this_atHand v_this_count v_this_thermal v_this_density v_this_outerHigh v_this_pasteLeft v_this_pasteLow v_this_nameLength v_this_isWritten v_family_letterCount v_family_kind v_family_letters u5 u6)) [0, 1, 2, 3, 4] rfl
  have hD := hD.sub (ws' := (w_Fp_writeName ad a_this a_cells a_family a_yard a_columns a_rows a_line a_family_values a_family_letters a_line_units k_family_letters k_line_units v_this_atHand v_this_count v_this_thermal v_this_density v_this_outerHigh v_this_pasteLeft v_this_pasteLow v_this_nameLength v_this_isWritten v_family_letterCount v_family_kind v_family_letters u5 u6)) [0, 1, 2, 3, 4] (by decide) rfl
  refine lv_aload_n hx hb dFp_writeName_76 rfl (lv_at hl 0 rfl) ?_
  refine va_get (D := (dC, dI)) (ci := 6) (v := .ref a_line) (C := RFp) (T := TFp) (N := 15) hx hb hts inZ_Fp hown hK hP 0 rfl rfl 12 (by decide) (hts _ zw_297) (fun _ h9 => h9) rfl dFp_writeName_77 ?_
  refine lv_aload_n hx hb dFp_writeName_80 rfl (lv_at hl 0 rfl) ?_
  refine va_get (D := (dC, dI)) (ci := 6) (v := .int v_this_density) (C := RFp) (T := TFp) (N := 15) hx hb hts inZ_Fp hown hK hP 0 rfl rfl 5 (by decide) (hts _ zw_289) (fun _ h9 => h9) rfl dFp_writeName_81 ?_
  refine lv_if_ne (tgt := 92) hx hb dFp_writeName_84 (by decide) ?_ ?_
  · intro c7
    replace h := h.1 c7
    refine lv_aload_n hx hb dFp_writeName_92 rfl (lv_at hl 0 rfl) ?_
    refine va_get (D := (dC, dI)) (ci := 6) (v := .int v_this_density) (C := RFp) (T := TFp) (N := 15) hx hb hts inZ_Fp hown hK hP 0 rfl rfl 5 (by decide) (hts _ zw_289) (fun _ h9 => h9) rfl dFp_writeName_93 ?_
    refine lv_iconst (v := 1) hx hb dFp_writeName_96 (by decide) ?_
    refine lv_icmp_ne (tgt := 105) hx hb dFp_writeName_97 (by decide) ?_ ?_
    · intro c8
      replace h := h.1 c8
      refine lv_bipush (v := 77) hx hb dFp_writeName_105 (by decide) ?_
      exact w_Fp_writeName_107 l C0 hE a_this a_cells a_family a_yard a_columns a_rows a_line a_family_values a_family_letters a_line_units k_family_letters k_line_units v_this_atHand v_this_count v_this_thermal v_this_density v_this_outerHigh v_this_pasteLeft v_this_pasteLow v_this_nameLength v_this_isWritten v_family_letterCount v_family_kind v_family_letters v_line_length v_line_units post hK 77 u5 u6 _ _ h hP hD hS ls (lv_sub hl [] rfl)
    · intro c8
      replace h := h.2 c8
      refine lv_bipush (v := 78) hx hb dFp_writeName_100 (by decide) ?_
      refine lv_goto (tgt := 107) hx hb dFp_writeName_102 (by decide) ?_
      exact w_Fp_writeName_107 l C0 hE a_this a_cells a_family a_yard a_columns a_rows a_line a_family_values a_family_letters a_line_units k_family_letters k_line_units v_this_atHand v_this_count v_this_thermal v_this_density v_this_outerHigh v_this_pasteLeft v_this_pasteLow v_this_nameLength v_this_isWritten v_family_letterCount v_family_kind v_family_letters v_line_length v_line_units post hK 78 u5 u6 _ _ h hP hD hS ls (lv_sub hl [] rfl)
  · intro c7
    replace h := h.2 c7
    refine lv_bipush (v := 76) hx hb dFp_writeName_87 (by decide) ?_
    refine lv_goto (tgt := 107) hx hb dFp_writeName_89 (by decide) ?_
    exact w_Fp_writeName_107 l C0 hE a_this a_cells a_family a_yard a_columns a_rows a_line a_family_values a_family_letters a_line_units k_family_letters k_line_units v_this_atHand v_this_count v_this_thermal v_this_density v_this_outerHigh v_this_pasteLeft v_this_pasteLow v_this_nameLength v_this_isWritten v_family_letterCount v_family_kind v_family_letters v_line_length v_line_units post hK 76 u5 u6 _ _ h hP hD hS ls (lv_sub hl [] rfl)
def P_Fp_writeName_2 (v_this_count : Int32) (v_this_density : Int32) (v_this_outerHigh : Int64) (v_family_letterCount : Int32) (v_family_letters : Nat → Int32) (post : Int32 → (Nat → Int32) → Prop) : Nat → Int32 → Int32 → (Nat → Int32) → Prop
  | 0, _, _, _ => False
  | n + 1, y1, u_line_length, u_line_units => ((v_family_letterCount ≤ y1 → P_Fp_writeName_40 v_this_count v_this_density v_this_outerHigh post u_line_length u_line_units) ∧ (¬ v_family_letterCount ≤ y1 → ((4 ≤ y1 → P_Fp_writeName_40 v_this_count v_this_density v_this_outerHigh post u_line_length u_line_units) ∧ (¬ 4 ≤ y1 → vp_in y1 4 ∧ P_Li_addUnit (v_family_letters y1.toNatClampNeg) u_line_length u_line_units (fun (u4 : Int32) (u5 : Nat → Int32) => ∀ x6 : Int32, x6 = y1 + 1 → P_Fp_writeName_2 v_this_count v_this_density v_this_outerHigh v_family_letterCount v_family_letters post n x6 u4 u5)))))
set_option maxHeartbeats 4000000 in
set_option maxRecDepth 100000 in
theorem w_Fp_writeName_2 (l : Launch) {p : Program} {e : Env} {s : State} {m : MethodId} {args : Array Value} {below : List Frame} {meth : Method} {c : Code} {dC : Nat → ClassId} {dI : Nat → Nat → Nat} {ad : Nat → Nat → Nat} {A : Nat → Prop} (C0 : zC p s m args meth c cFp_writeName 2 RFp zT none A) (hE : zE ad A s) (a_this : Nat) (a_cells : Nat) (a_family : Nat) (a_yard : Nat) (a_columns : Nat) (a_rows : Nat) (a_line : Nat) (a_family_values : Nat) (a_family_letters : Nat) (a_line_units : Nat) (k_family_letters : ClassId) (k_line_units : ClassId) (v_this_atHand : Int32) (v_this_count : Int32) (v_this_thermal : Int32) (v_this_density : Int32) (v_this_outerHigh : Int64) (v_this_pasteLeft : Int64) (v_this_pasteLow : Int64) (v_this_nameLength : Int32) (v_this_isWritten : Int32) (v_family_letterCount : Int32) (v_family_kind : Nat) (v_family_letters : Nat → Int32) (v_line_length : Int32) (v_line_units : Nat → Int32) (post : Int32 → (Nat → Int32) → Prop) (hK : va_K (dC, dI) vwCl [(k_family_letters, .char), (k_line_units, .char)] s) : ∀ (n : Nat), ∀ (y1 : Int32) (u_line_length : Int32) (u_line_units : Nat → Int32) (H : Heap) (locs : List Loc), P_Fp_writeName_2 v_this_count v_this_density v_this_outerHigh v_family_letterCount v_family_letters post n y1 u_line_length u_line_units → va_P (dC, dI) vwCl (w_Fp_writeName ad a_this a_cells a_family a_yard a_columns a_rows a_line a_family_values a_family_letters a_line_units k_family_letters k_line_units v_this_atHand v_this_count v_this_thermal v_this_density v_this_outerHigh v_this_pasteLeft v_this_pasteLow v_this_nameLength v_this_isWritten v_family_letterCount v_family_kind v_family_letters u_line_length u_line_units) H → va_D A (w_Fp_writeName ad a_this a_cells a_family a_yard a_columns a_rows a_line a_family_values a_family_letters a_line_units k_family_letters k_line_units v_this_atHand v_this_count v_this_thermal v_this_density v_this_outerHigh v_this_pasteLeft v_this_pasteLow v_this_nameLength v_this_isWritten v_family_letterCount v_family_kind v_family_letters u_line_length u_line_units) → va_S A s.heap H locs → ∀ ls : Array Slot, lv_has ls 2 [(0, .ref a_this), (1, .int y1)] → W p l e (headSpec wsFp_writeName { frames := 2, cells := 0, slots := 0, locals := 48 }).room s m args below meth c H locs 0 0 (MQ below (va_Qv (fun (u : Int32 × (Nat → Int32)) => post u.1 u.2) (zB (dC, dI) A (fun (u : Int32 × (Nat → Int32)) => (w_Fp_writeName ad a_this a_cells a_family a_yard a_columns a_rows a_line a_family_values a_family_letters a_line_units k_family_letters k_line_units v_this_atHand v_this_count v_this_thermal v_this_density v_this_outerHigh v_this_pasteLeft v_this_pasteLow v_this_nameLength v_this_isWritten v_family_letterCount v_family_kind v_family_letters u.1 u.2))) A) args s 0 0 A) (F0 m 2 ls []) := by
  obtain ⟨hx, hb, hr, hml, hown, hts, hlocks, hA⟩ := id C0
  intro n
  induction n with
  | zero =>
    intro y1 u_line_length u_line_units H locs h
    exact False.elim h
  | succ n ih =>
    intro y1 u_line_length u_line_units H locs h hP hD hS ls hl
    rw [P_Fp_writeName_2] at h
    refine lv_iload_n hx hb dFp_writeName_2 rfl (lv_at hl 1 rfl) ?_
    refine lv_aload_n hx hb dFp_writeName_3 rfl (lv_at hl 0 rfl) ?_
    refine va_get (D := (dC, dI)) (ci := 6) (v := .ref a_family) (C := RFp) (T := TFp) (N := 15) hx hb hts inZ_Fp hown hK hP 0 rfl rfl 4 (by decide) (hts _ zw_288) (fun _ h9 => h9) rfl dFp_writeName_4 ?_
    refine va_getN (D := (dC, dI)) (ci := 2) (v := .int v_family_letterCount) (C := RFa) (T := TFa) (N := 4) hx hb hts inZ_Fa hown hK hP 1 rfl rfl 2 (by decide) ((hE.nw _ zn_230).use rfl) (fun _ h9 => h9) rfl dFp_writeName_7 ?_
    refine lv_icmp_ge (tgt := 40) hx hb dFp_writeName_10 (by decide) ?_ ?_
    · intro c1
      replace h := h.1 c1
      exact w_Fp_writeName_40 l C0 hE a_this a_cells a_family a_yard a_columns a_rows a_line a_family_values a_family_letters a_line_units k_family_letters k_line_units v_this_atHand v_this_count v_this_thermal v_this_density v_this_outerHigh v_this_pasteLeft v_this_pasteLow v_this_nameLength v_this_isWritten v_family_letterCount v_family_kind v_family_letters v_line_length v_line_units post hK u_line_length u_line_units _ _ h hP hD hS ls (lv_sub hl [0] rfl)
    · intro c1
      replace h := h.2 c1
      refine lv_iload_n hx hb dFp_writeName_13 rfl (lv_at hl 1 rfl) ?_
      refine lv_iconst (v := 4) hx hb dFp_writeName_14 (by decide) ?_
      refine lv_icmp_ge (tgt := 40) hx hb dFp_writeName_15 (by decide) ?_ ?_
      · intro c2
        replace h := h.1 c2
        exact w_Fp_writeName_40 l C0 hE a_this a_cells a_family a_yard a_columns a_rows a_line a_family_values a_family_letters a_line_units k_family_letters k_line_units v_this_atHand v_this_count v_this_thermal v_this_density v_this_outerHigh v_this_pasteLeft v_this_pasteLow v_this_nameLength v_this_isWritten v_family_letterCount v_family_kind v_family_letters v_line_length v_line_units post hK u_line_length u_line_units _ _ h hP hD hS ls (lv_sub hl [0] rfl)
      · intro c2
        replace h := h.2 c2
        refine lv_aload_n hx hb dFp_writeName_18 rfl (lv_at hl 0 rfl) ?_
        refine va_get (D := (dC, dI)) (ci := 6) (v := .ref a_line) (C := RFp) (T := TFp) (N := 15) hx hb hts inZ_Fp hown hK hP 0 rfl rfl 12 (by decide) (hts _ zw_297) (fun _ h9 => h9) rfl dFp_writeName_19 ?_
        refine lv_aload_n hx hb dFp_writeName_22 rfl (lv_at hl 0 rfl) ?_
        refine va_get (D := (dC, dI)) (ci := 6) (v := .ref a_family) (C := RFp) (T := TFp) (N := 15) hx hb hts inZ_Fp hown hK hP 0 rfl rfl 4 (by decide) (hts _ zw_288) (fun _ h9 => h9) rfl dFp_writeName_23 ?_
        refine va_getN (D := (dC, dI)) (ci := 2) (v := .ref a_family_letters) (C := RFa) (T := TFa) (N := 4) hx hb hts inZ_Fa hown hK hP 1 rfl rfl 1 (by decide) ((hE.nw _ zn_227).use rfl) (fun _ h9 => h9) rfl dFp_writeName_26 ?_
        refine lv_iload_n hx hb dFp_writeName_29 rfl (lv_at hl 1 rfl) ?_
        obtain ⟨hn3, h⟩ := h
        refine va_cald hx hb hK hP 2 0 rfl rfl hn3 dFp_writeName_30 ?_
        refine zcall_v hP hD hS hA [3, 4] [0, 1, 2] (va_runVN (As := [.int (v_family_letters y1.toNatClampNeg)]) (rest := []) ⟨hx, hb, hml, hown, hts⟩ (c_Li_addUnit l dC dI ad a_line a_line_units k_line_units _ (v_family_letters y1.toNatClampNeg) u_line_length u_line_units _ h) ⟨va_cnB 1 hts (zgood zc_Li_addUnit) rfl rfl rfl (hE.nw _ zn_880) (hts _ zw_106) (by decide +kernel) ⟨Nat.le_of_ble_eq_true rfl, Nat.le_of_ble_eq_true rfl⟩, (hts _ zw_882), (hts _ zw_52)⟩ (zpreV hE hK hP hD hS hA [3, 4] [1] (by rfl) (by rfl) (by decide) (ci := 7) (q0 := 3) rfl (by rfl)) rfl rfl hl.1 rfl (lv_room (Nat.le_of_ble_eq_true rfl)) dFp_writeName_31 ⟨Nat.le_of_ble_eq_true rfl, Nat.le_of_ble_eq_true rfl⟩) (by rfl) (by rfl) (by decide) (by decide) (fun u H locs h hP hD hS => ?_)
        obtain ⟨u4, u5⟩ := u
        try dsimp only at h
        have hP := hP.sub (ws' := (w_Fp_writeName ad a_this a_cells a_family a_yard a_columns a_rows a_line a_family_values a_family_letters a_line_units k_family_letters k_line_units v_this_atHand v_this_count v_this_thermal v_this_density v_this_outerHigh v_this_pasteLeft v_this_pasteLow v_this_nameLength v_this_isWritten v_family_letterCount v_family_kind v_family_letters u4 u5)) [0, 1, 2, 3, 4] rfl
        have hD := hD.sub (ws' := (w_Fp_writeName ad a_this a_cells a_family a_yard a_columns a_rows a_line a_family_values a_family_letters a_line_units k_family_letters k_line_units v_this_atHand v_this_count v_this_thermal v_this_density v_this_outerHigh v_this_pasteLeft v_this_pasteLow v_this_nameLength v_this_isWritten v_family_letterCount v_family_kind v_family_letters u4 u5)) [0, 1, 2, 3, 4] (by decide) rfl
        obtain ⟨x6, ex6⟩ : ∃ y : Int32, y = y1 + 1 := ⟨_, rfl⟩
        replace h := h x6 ex6
        refine lv_iinc (v := x6) (lv' := [(1, .int x6), (0, .ref a_this)]) hx hb dFp_writeName_34 hl (k := 1) rfl (by rw [ex6]; rfl) (by decide) rfl (fun ls hl => ?_)
        refine lv_goto (tgt := 2) hx hb dFp_writeName_37 (by decide) ?_
        exact ih x6 u4 u5 _ _ h hP hD hS ls (lv_sub hl [1, 0] rfl)
def P_Fp_writeName (v_this_count : Int32) (v_this_density : Int32) (v_this_outerHigh : Int64) (v_family_letterCount : Int32) (v_family_letters : Nat → Int32) (v_line_length : Int32) (v_line_units : Nat → Int32) (post : Int32 → (Nat → Int32) → Prop) : Prop := ∃ n1, P_Fp_writeName_2 v_this_count v_this_density v_this_outerHigh v_family_letterCount v_family_letters post n1 0 v_line_length v_line_units
set_option maxHeartbeats 4000000 in
set_option maxRecDepth 100000 in
theorem c_Fp_writeName (l : Launch) (dC : Nat → ClassId) (dI : Nat → Nat → Nat) (ad : Nat → Nat → Nat) (a_this : Nat) (a_cells : Nat) (a_family : Nat) (a_yard : Nat) (a_columns : Nat) (a_rows : Nat) (a_line : Nat) (a_family_values : Nat) (a_family_letters : Nat) (a_line_units : Nat) (k_family_letters : ClassId) (k_line_units : ClassId) (sz : Nat) (v_this_atHand : Int32) (v_this_count : Int32) (v_this_thermal : Int32) (v_this_density : Int32) (v_this_outerHigh : Int64) (v_this_pasteLeft : Int64) (v_this_pasteLow : Int64) (v_this_nameLength : Int32) (v_this_isWritten : Int32) (v_family_letterCount : Int32) (v_family_kind : Nat) (v_family_letters : Nat → Int32) (v_line_length : Int32) (v_line_units : Nat → Int32) (post : Int32 → (Nat → Int32) → Prop) (h : P_Fp_writeName v_this_count v_this_density v_this_outerHigh v_family_letterCount v_family_letters v_line_length v_line_units post) : zMv l yFp_writeName wsFp_writeName { frames := 2, cells := 0, slots := 0, locals := 48 } (dC, dI) ad [.ref a_this] (w_Fp_writeName ad a_this a_cells a_family a_yard a_columns a_rows a_line a_family_values a_family_letters a_line_units k_family_letters k_line_units v_this_atHand v_this_count v_this_thermal v_this_density v_this_outerHigh v_this_pasteLeft v_this_pasteLow v_this_nameLength v_this_isWritten v_family_letterCount v_family_kind v_family_letters v_line_length v_line_units) [(k_family_letters, .char), (k_line_units, .char)] sz (fun (u : Int32 × (Nat → Int32)) => post u.1 u.2) (fun (u : Int32 × (Nat → Int32)) => (w_Fp_writeName ad a_this a_cells a_family a_yard a_columns a_rows a_line a_family_values a_family_letters a_line_units k_family_letters k_line_units v_this_atHand v_this_count v_this_thermal v_this_density v_this_outerHigh v_this_pasteLeft v_this_pasteLow v_this_nameLength v_this_isWritten v_family_letterCount v_family_kind v_family_letters u.1 u.2)) 0 0 := by
  refine Met.ofW (cc := cFp_writeName) (maxL := 2) (ret := none) (by decide +kernel) rfl ?_
  intro p e s m args below meth c s₁ B hml hv
  obtain ⟨rfl, hsz, hP, hK, hD0, hE⟩ := hv
  have hx := B.exec
  have hb := B.bytes
  have hr := B.returns
  have hts0 := atoms_spec (ws := wsFp_writeName) B.pre
  have hts := fun w h => hts0 w (List.mem_cons_of_mem _ h)
  have hown : s.vm.findClass RFp = some m.cls := findClass_of_methodNamed B.named
  have hlocks := B.notSynchronized
  subst hsz
  have hD := hD0.self (sz := s.heap.size)
  generalize hAe : va_A (w_Fp_writeName ad a_this a_cells a_family a_yard a_columns a_rows a_line a_family_values a_family_letters a_line_units k_family_letters k_line_units v_this_atHand v_this_count v_this_thermal v_this_density v_this_outerHigh v_this_pasteLeft v_this_pasteLow v_this_nameLength v_this_isWritten v_family_letterCount v_family_kind v_family_letters v_line_length v_line_units) s.heap.size = A at hD hE ⊢
  have hA : ∀ q : Nat, s.heap.size ≤ q → A q := fun q h => by rw [← hAe]; exact Or.inr h
  have C0 := zC.mk hx hb hr hml hown hts hlocks hA
  have hS : va_S A s.heap s.heap [] := va_S.rf
  have hl := lv_entry ([.ref a_this]) (n := 2) (Nat.le_of_ble_eq_true rfl)
  rw [lg_entry_eq]
  generalize (lg_sl ([.ref a_this]) ++ List.replicate (2 - (lg_sl ([.ref a_this])).length) Slot.unset).toArray = ls at hl ⊢
  have hl : lv_has ls 2 [(0, .ref a_this)] := hl
  unfold P_Fp_writeName at h
  refine lv_iconst (v := 0) hx hb dFp_writeName_0 (by decide) ?_
  refine lv_istore_n (lv' := [(1, .int 0), (0, .ref a_this)]) hx hb dFp_writeName_1 rfl hl (by decide) rfl (fun ls hl => ?_)
  obtain ⟨n1, h⟩ := h
  exact w_Fp_writeName_2 l C0 hE a_this a_cells a_family a_yard a_columns a_rows a_line a_family_values a_family_letters a_line_units k_family_letters k_line_units v_this_atHand v_this_count v_this_thermal v_this_density v_this_outerHigh v_this_pasteLeft v_this_pasteLow v_this_nameLength v_this_isWritten v_family_letterCount v_family_kind v_family_letters v_line_length v_line_units post hK n1 0 v_line_length v_line_units _ _ h hP hD hS ls (lv_sub hl [1, 0] rfl)
abbrev yFp_writePad : MethodName := ⟨"FootprintRules$Footprint", "writePad", "(I)V"⟩
abbrev cFp_writePad : ByteArray := prog_5_method_15_code
abbrev wsFp_writePad : List Cond := .code yFp_writePad cFp_writePad 3 none :: zT
set_option maxRecDepth 100000 in
theorem zc_Fp_writePad : Cond.code yFp_writePad cFp_writePad 3 none ∈ zT := zm 898 (by rfl) (by rfl)
theorem dFp_writePad_0 : decode cFp_writePad 0 = .ok (.iconst 0, 1) := by decide +kernel
theorem dFp_writePad_1 : decode cFp_writePad 1 = .ok (.istore_n 2, 1) := by decide +kernel
theorem dFp_writePad_2 : decode cFp_writePad 2 = .ok (.iload_n 2, 1) := by decide +kernel
theorem dFp_writePad_3 : decode cFp_writePad 3 = .ok (.bipush 7, 2) := by decide +kernel
theorem dFp_writePad_5 : decode cFp_writePad 5 = .ok (.if_icmp .ge 35, 3) := by decide +kernel
theorem dFp_writePad_8 : decode cFp_writePad 8 = .ok (.iload_n 2, 1) := by decide +kernel
theorem dFp_writePad_9 : decode cFp_writePad 9 = .ok (.ifCond .le 12, 3) := by decide +kernel
theorem dFp_writePad_12 : decode cFp_writePad 12 = .ok (.aload_n 0, 1) := by decide +kernel
theorem dFp_writePad_13 : decode cFp_writePad 13 = .ok (.getfield 38, 3) := by decide +kernel
theorem dFp_writePad_16 : decode cFp_writePad 16 = .ok (.bipush 32, 2) := by decide +kernel
theorem dFp_writePad_18 : decode cFp_writePad 18 = .ok (.invokevirtual 163, 3) := by decide +kernel
theorem dFp_writePad_21 : decode cFp_writePad 21 = .ok (.aload_n 0, 1) := by decide +kernel
theorem dFp_writePad_22 : decode cFp_writePad 22 = .ok (.getfield 38, 3) := by decide +kernel
theorem dFp_writePad_25 : decode cFp_writePad 25 = .ok (.aload_n 0, 1) := by decide +kernel
theorem dFp_writePad_26 : decode cFp_writePad 26 = .ok (.iload_n 1, 1) := by decide +kernel
theorem dFp_writePad_27 : decode cFp_writePad 27 = .ok (.iload_n 2, 1) := by decide +kernel
theorem dFp_writePad_28 : decode cFp_writePad 28 = .ok (.invokevirtual 63, 3) := by decide +kernel
theorem dFp_writePad_31 : decode cFp_writePad 31 = .ok (.invokevirtual 177, 3) := by decide +kernel
theorem dFp_writePad_34 : decode cFp_writePad 34 = .ok (.iinc 2 1, 3) := by decide +kernel
theorem dFp_writePad_37 : decode cFp_writePad 37 = .ok (.goto (-35), 3) := by decide +kernel
theorem dFp_writePad_40 : decode cFp_writePad 40 = .ok (.aload_n 0, 1) := by decide +kernel
theorem dFp_writePad_41 : decode cFp_writePad 41 = .ok (.getfield 38, 3) := by decide +kernel
theorem dFp_writePad_44 : decode cFp_writePad 44 = .ok (.bipush 10, 2) := by decide +kernel
theorem dFp_writePad_46 : decode cFp_writePad 46 = .ok (.invokevirtual 163, 3) := by decide +kernel
theorem dFp_writePad_49 : decode cFp_writePad 49 = .ok (.return_, 1) := by decide +kernel
-- FootprintRules$Footprint.writePad(I)V
abbrev w_Fp_writePad (ad : Nat → Nat → Nat) (a_this : Nat) (a_cells : Nat) (a_family : Nat) (a_yard : Nat) (a_columns : Nat) (a_rows : Nat) (a_line : Nat) (a_line_units : Nat) (k_line_units : ClassId) (k_cells : ClassId) (v_this_atHand : Int32) (v_this_count : Int32) (v_this_thermal : Int32) (v_this_density : Int32) (v_this_outerHigh : Int64) (v_this_pasteLeft : Int64) (v_this_pasteLow : Int64) (v_this_nameLength : Int32) (v_this_isWritten : Int32) (v_line_length : Int32) (v_line_units : Nat → Int32) (v_cells : Nat → Int64) : va_W := [(a_this, .inr (6, [.int v_this_atHand, .ref a_cells, .int v_this_count, .int v_this_thermal, .ref a_family, .int v_this_density, .long v_this_outerHigh, .ref a_yard, .ref a_columns, .ref a_rows, .long v_this_pasteLeft, .long v_this_pasteLow, .ref a_line, .int v_this_nameLength, .int v_this_isWritten])), (a_line, .inr (7, [.ref a_line_units, .int v_line_length])), (a_line_units, .inl (k_line_units, 4096, .inl v_line_units)), (a_cells, .inl (k_cells, 455, .inr (.inl v_cells)))]
def P_Fp_writePad_21 (p1 : Int32) (v_cells : Nat → Int64) (post : Int32 → (Nat → Int32) → Prop) (K2 : Int32 → Int32 → (Nat → Int32) → Prop) (y2 : Int32) (u_line_length : Int32) (u_line_units : Nat → Int32) : Prop := P_Fp_cell p1 y2 v_cells (fun (r1 : Int64) => P_Li_addNumber r1 u_line_length u_line_units (fun (u2 : Int32) (u3 : Nat → Int32) => ∀ x4 : Int32, x4 = y2 + 1 → K2 x4 u2 u3))
set_option maxHeartbeats 4000000 in
set_option maxRecDepth 100000 in
theorem w_Fp_writePad_21 (l : Launch) {p : Program} {e : Env} {s : State} {m : MethodId} {args : Array Value} {below : List Frame} {meth : Method} {c : Code} {dC : Nat → ClassId} {dI : Nat → Nat → Nat} {ad : Nat → Nat → Nat} {A : Nat → Prop} (C0 : zC p s m args meth c cFp_writePad 3 RFp zT none A) (hE : zE ad A s) (a_this : Nat) (a_cells : Nat) (a_family : Nat) (a_yard : Nat) (a_columns : Nat) (a_rows : Nat) (a_line : Nat) (a_line_units : Nat) (k_line_units : ClassId) (k_cells : ClassId) (p1 : Int32) (v_this_atHand : Int32) (v_this_count : Int32) (v_this_thermal : Int32) (v_this_density : Int32) (v_this_outerHigh : Int64) (v_this_pasteLeft : Int64) (v_this_pasteLow : Int64) (v_this_nameLength : Int32) (v_this_isWritten : Int32) (v_line_length : Int32) (v_line_units : Nat → Int32) (v_cells : Nat → Int64) (post : Int32 → (Nat → Int32) → Prop) (K2 : Int32 → Int32 → (Nat → Int32) → Prop) (hK2 : ∀ (y2 : Int32) (u_line_length : Int32) (u_line_units : Nat → Int32) (H : Heap) (locs : List Loc), K2 y2 u_line_length u_line_units → va_P (dC, dI) vwCl (w_Fp_writePad ad a_this a_cells a_family a_yard a_columns a_rows a_line a_line_units k_line_units k_cells v_this_atHand v_this_count v_this_thermal v_this_density v_this_outerHigh v_this_pasteLeft v_this_pasteLow v_this_nameLength v_this_isWritten u_line_length u_line_units v_cells) H → va_D A (w_Fp_writePad ad a_this a_cells a_family a_yard a_columns a_rows a_line a_line_units k_line_units k_cells v_this_atHand v_this_count v_this_thermal v_this_density v_this_outerHigh v_this_pasteLeft v_this_pasteLow v_this_nameLength v_this_isWritten u_line_length u_line_units v_cells) → va_S A s.heap H locs → ∀ ls : Array Slot, lv_has ls 3 [(0, .ref a_this), (1, .int p1), (2, .int y2)] → W p l e (headSpec wsFp_writePad { frames := 2, cells := 0, slots := 0, locals := 48 }).room s m args below meth c H locs 0 0 (MQ below (va_Qv (fun (u : Int32 × (Nat → Int32)) => post u.1 u.2) (zB (dC, dI) A (fun (u : Int32 × (Nat → Int32)) => (w_Fp_writePad ad a_this a_cells a_family a_yard a_columns a_rows a_line a_line_units k_line_units k_cells v_this_atHand v_this_count v_this_thermal v_this_density v_this_outerHigh v_this_pasteLeft v_this_pasteLow v_this_nameLength v_this_isWritten u.1 u.2 v_cells))) A) args s 0 0 A) (F0 m 2 ls [])) (hK : va_K (dC, dI) vwCl [(k_line_units, .char), (k_cells, .long)] s) : ∀ (y2 : Int32) (u_line_length : Int32) (u_line_units : Nat → Int32) (H : Heap) (locs : List Loc), P_Fp_writePad_21 p1 v_cells post K2 y2 u_line_length u_line_units → va_P (dC, dI) vwCl (w_Fp_writePad ad a_this a_cells a_family a_yard a_columns a_rows a_line a_line_units k_line_units k_cells v_this_atHand v_this_count v_this_thermal v_this_density v_this_outerHigh v_this_pasteLeft v_this_pasteLow v_this_nameLength v_this_isWritten u_line_length u_line_units v_cells) H → va_D A (w_Fp_writePad ad a_this a_cells a_family a_yard a_columns a_rows a_line a_line_units k_line_units k_cells v_this_atHand v_this_count v_this_thermal v_this_density v_this_outerHigh v_this_pasteLeft v_this_pasteLow v_this_nameLength v_this_isWritten u_line_length u_line_units v_cells) → va_S A s.heap H locs → ∀ ls : Array Slot, lv_has ls 3 [(0, .ref a_this), (1, .int p1), (2, .int y2)] → W p l e (headSpec wsFp_writePad { frames := 2, cells := 0, slots := 0, locals := 48 }).room s m args below meth c H locs 0 0 (MQ below (va_Qv (fun (u : Int32 × (Nat → Int32)) => post u.1 u.2) (zB (dC, dI) A (fun (u : Int32 × (Nat → Int32)) => (w_Fp_writePad ad a_this a_cells a_family a_yard a_columns a_rows a_line a_line_units k_line_units k_cells v_this_atHand v_this_count v_this_thermal v_this_density v_this_outerHigh v_this_pasteLeft v_this_pasteLow v_this_nameLength v_this_isWritten u.1 u.2 v_cells))) A) args s 0 0 A) (F0 m 21 ls []) := by
  obtain ⟨hx, hb, hr, hml, hown, hts, hlocks, hA⟩ := id C0
  intro y2 u_line_length u_line_units H locs h hP hD hS ls hl
  unfold P_Fp_writePad_21 at h
  refine lv_aload_n hx hb dFp_writePad_21 rfl (lv_at hl 0 rfl) ?_
  refine va_get (D := (dC, dI)) (ci := 6) (v := .ref a_line) (C := RFp) (T := TFp) (N := 15) hx hb hts inZ_Fp hown hK hP 0 rfl rfl 12 (by decide) (hts _ zw_297) (fun _ h9 => h9) rfl dFp_writePad_22 ?_
  refine lv_aload_n hx hb dFp_writePad_25 rfl (lv_at hl 0 rfl) ?_
  refine lv_iload_n hx hb dFp_writePad_26 rfl (lv_at hl 1 rfl) ?_
  refine lv_iload_n hx hb dFp_writePad_27 rfl (lv_at hl 2 rfl) ?_
  refine zcall_l hP hD hS hA [0, 3] [1, 2] (va_runV (As := [.int p1, .int y2]) (rest := [.ref a_line]) ⟨hx, hb, hml, hown, hts⟩ (c_Fp_cell l dC dI ad a_this a_cells a_family a_yard a_columns a_rows a_line k_cells _ p1 y2 v_this_atHand v_this_count v_this_thermal v_this_density v_this_outerHigh v_this_pasteLeft v_this_pasteLow v_this_nameLength v_this_isWritten v_cells _ h) ⟨callB_of 2 hts (zgood zc_Fp_cell) rfl rfl rfl (hts _ zw_101) (hts _ zw_818) (by decide +kernel) ⟨Nat.le_of_ble_eq_true rfl, Nat.le_of_ble_eq_true rfl⟩, (hts _ zw_820), (hts _ zw_46)⟩ (zpreV hE hK hP hD hS hA [0, 3] [1] (by rfl) (by rfl) (by decide) (ci := 6) (q0 := 0) rfl (by rfl)) rfl rfl hl.1 rfl (lv_room (Nat.le_of_ble_eq_true rfl)) dFp_writePad_28 ⟨Nat.le_of_ble_eq_true rfl, Nat.le_of_ble_eq_true rfl⟩) (by rfl) (by rfl) (by decide) (by decide) (fun r1 u H locs h hP hD hS => ?_)
  try dsimp only at h
  have hP := hP.sub (ws' := (w_Fp_writePad ad a_this a_cells a_family a_yard a_columns a_rows a_line a_line_units k_line_units k_cells v_this_atHand v_this_count v_this_thermal v_this_density v_this_outerHigh v_this_pasteLeft v_this_pasteLow v_this_nameLength v_this_isWritten u_line_length u_line_units v_cells)) [2, 0, 1, 3] rfl
  have hD := hD.sub (ws' := (w_Fp_writePad ad a_this a_cells a_family a_yard a_columns a_rows a_line a_line_units k_line_units k_cells v_this_atHand v_this_count v_this_thermal v_this_density v_this_outerHigh v_this_pasteLeft v_this_pasteLow v_this_nameLength v_this_isWritten u_line_length u_line_units v_cells)) [2, 0, 1, 3] (by decide) rfl
  refine zcall_v hP hD hS hA [1, 2] [0, 3] (va_runVN (As := [.long r1]) (rest := []) ⟨hx, hb, hml, hown, hts⟩ (c_Li_addNumber l dC dI ad a_line a_line_units k_line_units _ r1 u_line_length u_line_units _ h) ⟨va_cnB 1 hts (zgood zc_Li_addNumber) rfl rfl rfl (hE.nw _ zn_884) (hts _ zw_106) (by decide +kernel) ⟨Nat.le_of_ble_eq_true rfl, Nat.le_of_ble_eq_true rfl⟩, (hts _ zw_886), (hts _ zw_53)⟩ (zpreV hE hK hP hD hS hA [1, 2] [0] (by rfl) (by rfl) (by decide) (ci := 7) (q0 := 1) rfl (by rfl)) rfl rfl hl.1 rfl (lv_room (Nat.le_of_ble_eq_true rfl)) dFp_writePad_31 ⟨Nat.le_of_ble_eq_true rfl, Nat.le_of_ble_eq_true rfl⟩) (by rfl) (by rfl) (by decide) (by decide) (fun u H locs h hP hD hS => ?_)
  obtain ⟨u2, u3⟩ := u
  try dsimp only at h
  have hP := hP.sub (ws' := (w_Fp_writePad ad a_this a_cells a_family a_yard a_columns a_rows a_line a_line_units k_line_units k_cells v_this_atHand v_this_count v_this_thermal v_this_density v_this_outerHigh v_this_pasteLeft v_this_pasteLow v_this_nameLength v_this_isWritten u2 u3 v_cells)) [0, 2, 3, 1] rfl
  have hD := hD.sub (ws' := (w_Fp_writePad ad a_this a_cells a_family a_yard a_columns a_rows a_line a_line_units k_line_units k_cells v_this_atHand v_this_count v_this_thermal v_this_density v_this_outerHigh v_this_pasteLeft v_this_pasteLow v_this_nameLength v_this_isWritten u2 u3 v_cells)) [0, 2, 3, 1] (by decide) rfl
  obtain ⟨x4, ex4⟩ : ∃ y : Int32, y = y2 + 1 := ⟨_, rfl⟩
  replace h := h x4 ex4
  refine lv_iinc (v := x4) (lv' := [(2, .int x4), (0, .ref a_this), (1, .int p1)]) hx hb dFp_writePad_34 hl (k := 2) rfl (by rw [ex4]; rfl) (by decide) rfl (fun ls hl => ?_)
  refine lv_goto (tgt := 2) hx hb dFp_writePad_37 (by decide) ?_
  exact hK2 x4 u2 u3 _ _ h hP hD hS ls (lv_sub hl [1, 2, 0] rfl)
def P_Fp_writePad_2 (p1 : Int32) (v_cells : Nat → Int64) (post : Int32 → (Nat → Int32) → Prop) : Nat → Int32 → Int32 → (Nat → Int32) → Prop
  | 0, _, _, _ => False
  | n + 1, y2, u_line_length, u_line_units => ((7 ≤ y2 → P_Li_addUnit 10 u_line_length u_line_units (fun (u2 : Int32) (u3 : Nat → Int32) => post u2 u3)) ∧ (¬ 7 ≤ y2 → ((y2 ≤ 0 → P_Fp_writePad_21 p1 v_cells post (P_Fp_writePad_2 p1 v_cells post n) y2 u_line_length u_line_units) ∧ (¬ y2 ≤ 0 → P_Li_addUnit 32 u_line_length u_line_units (fun (u5 : Int32) (u6 : Nat → Int32) => P_Fp_writePad_21 p1 v_cells post (P_Fp_writePad_2 p1 v_cells post n) y2 u5 u6)))))
set_option maxHeartbeats 4000000 in
set_option maxRecDepth 100000 in
theorem w_Fp_writePad_2 (l : Launch) {p : Program} {e : Env} {s : State} {m : MethodId} {args : Array Value} {below : List Frame} {meth : Method} {c : Code} {dC : Nat → ClassId} {dI : Nat → Nat → Nat} {ad : Nat → Nat → Nat} {A : Nat → Prop} (C0 : zC p s m args meth c cFp_writePad 3 RFp zT none A) (hE : zE ad A s) (a_this : Nat) (a_cells : Nat) (a_family : Nat) (a_yard : Nat) (a_columns : Nat) (a_rows : Nat) (a_line : Nat) (a_line_units : Nat) (k_line_units : ClassId) (k_cells : ClassId) (p1 : Int32) (v_this_atHand : Int32) (v_this_count : Int32) (v_this_thermal : Int32) (v_this_density : Int32) (v_this_outerHigh : Int64) (v_this_pasteLeft : Int64) (v_this_pasteLow : Int64) (v_this_nameLength : Int32) (v_this_isWritten : Int32) (v_line_length : Int32) (v_line_units : Nat → Int32) (v_cells : Nat → Int64) (post : Int32 → (Nat → Int32) → Prop) (hK : va_K (dC, dI) vwCl [(k_line_units, .char), (k_cells, .long)] s) : ∀ (n : Nat), ∀ (y2 : Int32) (u_line_length : Int32) (u_line_units : Nat → Int32) (H : Heap) (locs : List Loc), P_Fp_writePad_2 p1 v_cells post n y2 u_line_length u_line_units → va_P (dC, dI) vwCl (w_Fp_writePad ad a_this a_cells a_family a_yard a_columns a_rows a_line a_line_units k_line_units k_cells v_this_atHand v_this_count v_this_thermal v_this_density v_this_outerHigh v_this_pasteLeft v_this_pasteLow v_this_nameLength v_this_isWritten u_line_length u_line_units v_cells) H → va_D A (w_Fp_writePad ad a_this a_cells a_family a_yard a_columns a_rows a_line a_line_units k_line_units k_cells v_this_atHand v_this_count v_this_thermal v_this_density v_this_outerHigh v_this_pasteLeft v_this_pasteLow v_this_nameLength v_this_isWritten u_line_length u_line_units v_cells) → va_S A s.heap H locs → ∀ ls : Array Slot, lv_has ls 3 [(0, .ref a_this), (1, .int p1), (2, .int y2)] → W p l e (headSpec wsFp_writePad { frames := 2, cells := 0, slots := 0, locals := 48 }).room s m args below meth c H locs 0 0 (MQ below (va_Qv (fun (u : Int32 × (Nat → Int32)) => post u.1 u.2) (zB (dC, dI) A (fun (u : Int32 × (Nat → Int32)) => (w_Fp_writePad ad a_this a_cells a_family a_yard a_columns a_rows a_line a_line_units k_line_units k_cells v_this_atHand v_this_count v_this_thermal v_this_density v_this_outerHigh v_this_pasteLeft v_this_pasteLow v_this_nameLength v_this_isWritten u.1 u.2 v_cells))) A) args s 0 0 A) (F0 m 2 ls []) := by
  obtain ⟨hx, hb, hr, hml, hown, hts, hlocks, hA⟩ := id C0
  intro n
  induction n with
  | zero =>
    intro y2 u_line_length u_line_units H locs h
    exact False.elim h
  | succ n ih =>
    intro y2 u_line_length u_line_units H locs h hP hD hS ls hl
    rw [P_Fp_writePad_2] at h
    refine lv_iload_n hx hb dFp_writePad_2 rfl (lv_at hl 2 rfl) ?_
    refine lv_bipush (v := 7) hx hb dFp_writePad_3 (by decide) ?_
    refine lv_icmp_ge (tgt := 40) hx hb dFp_writePad_5 (by decide) ?_ ?_
    · intro c1
      replace h := h.1 c1
      refine lv_aload_n hx hb dFp_writePad_40 rfl (lv_at hl 0 rfl) ?_
      refine va_get (D := (dC, dI)) (ci := 6) (v := .ref a_line) (C := RFp) (T := TFp) (N := 15) hx hb hts inZ_Fp hown hK hP 0 rfl rfl 12 (by decide) (hts _ zw_297) (fun _ h9 => h9) rfl dFp_writePad_41 ?_
      refine lv_bipush (v := 10) hx hb dFp_writePad_44 (by decide) ?_
      refine zcall_v hP hD hS hA [1, 2] [0, 3] (va_runVN (As := [.int 10]) (rest := []) ⟨hx, hb, hml, hown, hts⟩ (c_Li_addUnit l dC dI ad a_line a_line_units k_line_units _ 10 u_line_length u_line_units _ h) ⟨va_cnB 1 hts (zgood zc_Li_addUnit) rfl rfl rfl (hE.nw _ zn_880) (hts _ zw_106) (by decide +kernel) ⟨Nat.le_of_ble_eq_true rfl, Nat.le_of_ble_eq_true rfl⟩, (hts _ zw_882), (hts _ zw_52)⟩ (zpreV hE hK hP hD hS hA [1, 2] [0] (by rfl) (by rfl) (by decide) (ci := 7) (q0 := 1) rfl (by rfl)) rfl rfl hl.1 rfl (lv_room (Nat.le_of_ble_eq_true rfl)) dFp_writePad_46 ⟨Nat.le_of_ble_eq_true rfl, Nat.le_of_ble_eq_true rfl⟩) (by rfl) (by rfl) (by decide) (by decide) (fun u H locs h hP hD hS => ?_)
      obtain ⟨u2, u3⟩ := u
      try dsimp only at h
      have hP := hP.sub (ws' := (w_Fp_writePad ad a_this a_cells a_family a_yard a_columns a_rows a_line a_line_units k_line_units k_cells v_this_atHand v_this_count v_this_thermal v_this_density v_this_outerHigh v_this_pasteLeft v_this_pasteLow v_this_nameLength v_this_isWritten u2 u3 v_cells)) [0, 2, 3, 1] rfl
      have hD := hD.sub (ws' := (w_Fp_writePad ad a_this a_cells a_family a_yard a_columns a_rows a_line a_line_units k_line_units k_cells v_this_atHand v_this_count v_this_thermal v_this_density v_this_outerHigh v_this_pasteLeft v_this_pasteLow v_this_nameLength v_this_isWritten u2 u3 v_cells)) [0, 2, 3, 1] (by decide) rfl
      exact W.vret hx hb hr (fun t ht hW => ⟨⟨(u2, u3), rfl, h, by rw [ht]; exact hP, hD⟩, hS.F ht⟩) hS.2.2 dFp_writePad_49
    · intro c1
      replace h := h.2 c1
      refine lv_iload_n hx hb dFp_writePad_8 rfl (lv_at hl 2 rfl) ?_
      refine lv_if_le (tgt := 21) hx hb dFp_writePad_9 (by decide) ?_ ?_
      · intro c4
        replace h := h.1 c4
        exact w_Fp_writePad_21 l C0 hE a_this a_cells a_family a_yard a_columns a_rows a_line a_line_units k_line_units k_cells p1 v_this_atHand v_this_count v_this_thermal v_this_density v_this_outerHigh v_this_pasteLeft v_this_pasteLow v_this_nameLength v_this_isWritten v_line_length v_line_units v_cells post (P_Fp_writePad_2 p1 v_cells post n) ih hK y2 u_line_length u_line_units _ _ h hP hD hS ls (lv_sub hl [0, 1, 2] rfl)
      · intro c4
        replace h := h.2 c4
        refine lv_aload_n hx hb dFp_writePad_12 rfl (lv_at hl 0 rfl) ?_
        refine va_get (D := (dC, dI)) (ci := 6) (v := .ref a_line) (C := RFp) (T := TFp) (N := 15) hx hb hts inZ_Fp hown hK hP 0 rfl rfl 12 (by decide) (hts _ zw_297) (fun _ h9 => h9) rfl dFp_writePad_13 ?_
        refine lv_bipush (v := 32) hx hb dFp_writePad_16 (by decide) ?_
        refine zcall_v hP hD hS hA [1, 2] [0, 3] (va_runVN (As := [.int 32]) (rest := []) ⟨hx, hb, hml, hown, hts⟩ (c_Li_addUnit l dC dI ad a_line a_line_units k_line_units _ 32 u_line_length u_line_units _ h) ⟨va_cnB 1 hts (zgood zc_Li_addUnit) rfl rfl rfl (hE.nw _ zn_880) (hts _ zw_106) (by decide +kernel) ⟨Nat.le_of_ble_eq_true rfl, Nat.le_of_ble_eq_true rfl⟩, (hts _ zw_882), (hts _ zw_52)⟩ (zpreV hE hK hP hD hS hA [1, 2] [0] (by rfl) (by rfl) (by decide) (ci := 7) (q0 := 1) rfl (by rfl)) rfl rfl hl.1 rfl (lv_room (Nat.le_of_ble_eq_true rfl)) dFp_writePad_18 ⟨Nat.le_of_ble_eq_true rfl, Nat.le_of_ble_eq_true rfl⟩) (by rfl) (by rfl) (by decide) (by decide) (fun u H locs h hP hD hS => ?_)
        obtain ⟨u5, u6⟩ := u
        try dsimp only at h
        have hP := hP.sub (ws' := (w_Fp_writePad ad a_this a_cells a_family a_yard a_columns a_rows a_line a_line_units k_line_units k_cells v_this_atHand v_this_count v_this_thermal v_this_density v_this_outerHigh v_this_pasteLeft v_this_pasteLow v_this_nameLength v_this_isWritten u5 u6 v_cells)) [0, 2, 3, 1] rfl
        have hD := hD.sub (ws' := (w_Fp_writePad ad a_this a_cells a_family a_yard a_columns a_rows a_line a_line_units k_line_units k_cells v_this_atHand v_this_count v_this_thermal v_this_density v_this_outerHigh v_this_pasteLeft v_this_pasteLow v_this_nameLength v_this_isWritten u5 u6 v_cells)) [0, 2, 3, 1] (by decide) rfl
        exact w_Fp_writePad_21 l C0 hE a_this a_cells a_family a_yard a_columns a_rows a_line a_line_units k_line_units k_cells p1 v_this_atHand v_this_count v_this_thermal v_this_density v_this_outerHigh v_this_pasteLeft v_this_pasteLow v_this_nameLength v_this_isWritten v_line_length v_line_units v_cells post (P_Fp_writePad_2 p1 v_cells post n) ih hK y2 u5 u6 _ _ h hP hD hS ls (lv_sub hl [0, 1, 2] rfl)
def P_Fp_writePad (p1 : Int32) (v_line_length : Int32) (v_line_units : Nat → Int32) (v_cells : Nat → Int64) (post : Int32 → (Nat → Int32) → Prop) : Prop := ∃ n1, P_Fp_writePad_2 p1 v_cells post n1 0 v_line_length v_line_units
set_option maxHeartbeats 4000000 in
set_option maxRecDepth 100000 in
theorem c_Fp_writePad (l : Launch) (dC : Nat → ClassId) (dI : Nat → Nat → Nat) (ad : Nat → Nat → Nat) (a_this : Nat) (a_cells : Nat) (a_family : Nat) (a_yard : Nat) (a_columns : Nat) (a_rows : Nat) (a_line : Nat) (a_line_units : Nat) (k_line_units : ClassId) (k_cells : ClassId) (sz : Nat) (p1 : Int32) (v_this_atHand : Int32) (v_this_count : Int32) (v_this_thermal : Int32) (v_this_density : Int32) (v_this_outerHigh : Int64) (v_this_pasteLeft : Int64) (v_this_pasteLow : Int64) (v_this_nameLength : Int32) (v_this_isWritten : Int32) (v_line_length : Int32) (v_line_units : Nat → Int32) (v_cells : Nat → Int64) (post : Int32 → (Nat → Int32) → Prop) (h : P_Fp_writePad p1 v_line_length v_line_units v_cells post) : zMv l yFp_writePad wsFp_writePad { frames := 2, cells := 0, slots := 0, locals := 48 } (dC, dI) ad [.ref a_this, .int p1] (w_Fp_writePad ad a_this a_cells a_family a_yard a_columns a_rows a_line a_line_units k_line_units k_cells v_this_atHand v_this_count v_this_thermal v_this_density v_this_outerHigh v_this_pasteLeft v_this_pasteLow v_this_nameLength v_this_isWritten v_line_length v_line_units v_cells) [(k_line_units, .char), (k_cells, .long)] sz (fun (u : Int32 × (Nat → Int32)) => post u.1 u.2) (fun (u : Int32 × (Nat → Int32)) => (w_Fp_writePad ad a_this a_cells a_family a_yard a_columns a_rows a_line a_line_units k_line_units k_cells v_this_atHand v_this_count v_this_thermal v_this_density v_this_outerHigh v_this_pasteLeft v_this_pasteLow v_this_nameLength v_this_isWritten u.1 u.2 v_cells)) 0 0 := by
  refine Met.ofW (cc := cFp_writePad) (maxL := 3) (ret := none) (by decide +kernel) rfl ?_
  intro p e s m args below meth c s₁ B hml hv
  obtain ⟨rfl, hsz, hP, hK, hD0, hE⟩ := hv
  have hx := B.exec
  have hb := B.bytes
  have hr := B.returns
  have hts0 := atoms_spec (ws := wsFp_writePad) B.pre
  have hts := fun w h => hts0 w (List.mem_cons_of_mem _ h)
  have hown : s.vm.findClass RFp = some m.cls := findClass_of_methodNamed B.named
  have hlocks := B.notSynchronized
  subst hsz
  have hD := hD0.self (sz := s.heap.size)
  generalize hAe : va_A (w_Fp_writePad ad a_this a_cells a_family a_yard a_columns a_rows a_line a_line_units k_line_units k_cells v_this_atHand v_this_count v_this_thermal v_this_density v_this_outerHigh v_this_pasteLeft v_this_pasteLow v_this_nameLength v_this_isWritten v_line_length v_line_units v_cells) s.heap.size = A at hD hE ⊢
  have hA : ∀ q : Nat, s.heap.size ≤ q → A q := fun q h => by rw [← hAe]; exact Or.inr h
  have C0 := zC.mk hx hb hr hml hown hts hlocks hA
  have hS : va_S A s.heap s.heap [] := va_S.rf
  have hl := lv_entry ([.ref a_this, .int p1]) (n := 3) (Nat.le_of_ble_eq_true rfl)
  rw [lg_entry_eq]
  generalize (lg_sl ([.ref a_this, .int p1]) ++ List.replicate (3 - (lg_sl ([.ref a_this, .int p1])).length) Slot.unset).toArray = ls at hl ⊢
  have hl : lv_has ls 3 [(0, .ref a_this), (1, .int p1)] := hl
  unfold P_Fp_writePad at h
  refine lv_iconst (v := 0) hx hb dFp_writePad_0 (by decide) ?_
  refine lv_istore_n (lv' := [(2, .int 0), (0, .ref a_this), (1, .int p1)]) hx hb dFp_writePad_1 rfl hl (by decide) rfl (fun ls hl => ?_)
  obtain ⟨n1, h⟩ := h
  exact w_Fp_writePad_2 l C0 hE a_this a_cells a_family a_yard a_columns a_rows a_line a_line_units k_line_units k_cells p1 v_this_atHand v_this_count v_this_thermal v_this_density v_this_outerHigh v_this_pasteLeft v_this_pasteLow v_this_nameLength v_this_isWritten v_line_length v_line_units v_cells post hK n1 0 v_line_length v_line_units _ _ h hP hD hS ls (lv_sub hl [1, 2, 0] rfl)
abbrev yHm_put : MethodName := ⟨"FootprintRules$HandMade", "put", "(IJJJJ)Z"⟩
abbrev cHm_put : ByteArray := prog_6_method_2_code
abbrev wsHm_put : List Cond := .code yHm_put cHm_put 12 (some .boolean) :: zT
set_option maxRecDepth 100000 in
theorem zc_Hm_put : Cond.code yHm_put cHm_put 12 (some .boolean) ∈ zT := zm 1026 (by rfl) (by rfl)
theorem dHm_put_0 : decode cHm_put 0 = .ok (.iload_n 1, 1) := by decide +kernel
theorem dHm_put_1 : decode cHm_put 1 = .ok (.iconst 1, 1) := by decide +kernel
theorem dHm_put_2 : decode cHm_put 2 = .ok (.if_icmp .lt 9, 3) := by decide +kernel
theorem dHm_put_5 : decode cHm_put 5 = .ok (.iload_n 1, 1) := by decide +kernel
theorem dHm_put_6 : decode cHm_put 6 = .ok (.bipush 80, 2) := by decide +kernel
theorem dHm_put_8 : decode cHm_put 8 = .ok (.if_icmp .le 5, 3) := by decide +kernel
theorem dHm_put_11 : decode cHm_put 11 = .ok (.iconst 0, 1) := by decide +kernel
theorem dHm_put_12 : decode cHm_put 12 = .ok (.ireturn, 1) := by decide +kernel
theorem dHm_put_13 : decode cHm_put 13 = .ok (.aload_n 0, 1) := by decide +kernel
theorem dHm_put_14 : decode cHm_put 14 = .ok (.getfield 9, 3) := by decide +kernel
theorem dHm_put_17 : decode cHm_put 17 = .ok (.iload_n 1, 1) := by decide +kernel
theorem dHm_put_18 : decode cHm_put 18 = .ok (.baload, 1) := by decide +kernel
theorem dHm_put_19 : decode cHm_put 19 = .ok (.ifCond .ne 7, 3) := by decide +kernel
theorem dHm_put_22 : decode cHm_put 22 = .ok (.iconst 1, 1) := by decide +kernel
theorem dHm_put_23 : decode cHm_put 23 = .ok (.goto 4, 3) := by decide +kernel
theorem dHm_put_26 : decode cHm_put 26 = .ok (.iconst 0, 1) := by decide +kernel
theorem dHm_put_27 : decode cHm_put 27 = .ok (.istore 10, 2) := by decide +kernel
theorem dHm_put_29 : decode cHm_put 29 = .ok (.iload 10, 2) := by decide +kernel
theorem dHm_put_31 : decode cHm_put 31 = .ok (.ifCond .eq 20, 3) := by decide +kernel
theorem dHm_put_34 : decode cHm_put 34 = .ok (.aload_n 0, 1) := by decide +kernel
theorem dHm_put_35 : decode cHm_put 35 = .ok (.getfield 9, 3) := by decide +kernel
theorem dHm_put_38 : decode cHm_put 38 = .ok (.iload_n 1, 1) := by decide +kernel
theorem dHm_put_39 : decode cHm_put 39 = .ok (.iconst 1, 1) := by decide +kernel
theorem dHm_put_40 : decode cHm_put 40 = .ok (.bastore, 1) := by decide +kernel
theorem dHm_put_41 : decode cHm_put 41 = .ok (.aload_n 0, 1) := by decide +kernel
theorem dHm_put_42 : decode cHm_put 42 = .ok (.dup, 1) := by decide +kernel
theorem dHm_put_43 : decode cHm_put 43 = .ok (.getfield 19, 3) := by decide +kernel
theorem dHm_put_46 : decode cHm_put 46 = .ok (.iconst 1, 1) := by decide +kernel
theorem dHm_put_47 : decode cHm_put 47 = .ok (.iadd, 1) := by decide +kernel
theorem dHm_put_48 : decode cHm_put 48 = .ok (.putfield 19, 3) := by decide +kernel
theorem dHm_put_51 : decode cHm_put 51 = .ok (.iload_n 1, 1) := by decide +kernel
theorem dHm_put_52 : decode cHm_put 52 = .ok (.iconst 4, 1) := by decide +kernel
theorem dHm_put_53 : decode cHm_put 53 = .ok (.imul, 1) := by decide +kernel
theorem dHm_put_54 : decode cHm_put 54 = .ok (.istore 11, 2) := by decide +kernel
theorem dHm_put_56 : decode cHm_put 56 = .ok (.aload_n 0, 1) := by decide +kernel
theorem dHm_put_57 : decode cHm_put 57 = .ok (.getfield 15, 3) := by decide +kernel
theorem dHm_put_60 : decode cHm_put 60 = .ok (.iload 11, 2) := by decide +kernel
theorem dHm_put_62 : decode cHm_put 62 = .ok (.lload_n 2, 1) := by decide +kernel
theorem dHm_put_63 : decode cHm_put 63 = .ok (.lastore, 1) := by decide +kernel
theorem dHm_put_64 : decode cHm_put 64 = .ok (.aload_n 0, 1) := by decide +kernel
theorem dHm_put_65 : decode cHm_put 65 = .ok (.getfield 15, 3) := by decide +kernel
theorem dHm_put_68 : decode cHm_put 68 = .ok (.iload 11, 2) := by decide +kernel
theorem dHm_put_70 : decode cHm_put 70 = .ok (.iconst 1, 1) := by decide +kernel
theorem dHm_put_71 : decode cHm_put 71 = .ok (.iadd, 1) := by decide +kernel
theorem dHm_put_72 : decode cHm_put 72 = .ok (.lload 4, 2) := by decide +kernel
theorem dHm_put_74 : decode cHm_put 74 = .ok (.lastore, 1) := by decide +kernel
theorem dHm_put_75 : decode cHm_put 75 = .ok (.aload_n 0, 1) := by decide +kernel
theorem dHm_put_76 : decode cHm_put 76 = .ok (.getfield 15, 3) := by decide +kernel
theorem dHm_put_79 : decode cHm_put 79 = .ok (.iload 11, 2) := by decide +kernel
theorem dHm_put_81 : decode cHm_put 81 = .ok (.iconst 2, 1) := by decide +kernel
theorem dHm_put_82 : decode cHm_put 82 = .ok (.iadd, 1) := by decide +kernel
theorem dHm_put_83 : decode cHm_put 83 = .ok (.lload 6, 2) := by decide +kernel
theorem dHm_put_85 : decode cHm_put 85 = .ok (.lastore, 1) := by decide +kernel
theorem dHm_put_86 : decode cHm_put 86 = .ok (.aload_n 0, 1) := by decide +kernel
theorem dHm_put_87 : decode cHm_put 87 = .ok (.getfield 15, 3) := by decide +kernel
theorem dHm_put_90 : decode cHm_put 90 = .ok (.iload 11, 2) := by decide +kernel
theorem dHm_put_92 : decode cHm_put 92 = .ok (.iconst 3, 1) := by decide +kernel
theorem dHm_put_93 : decode cHm_put 93 = .ok (.iadd, 1) := by decide +kernel
theorem dHm_put_94 : decode cHm_put 94 = .ok (.lload 8, 2) := by decide +kernel
theorem dHm_put_96 : decode cHm_put 96 = .ok (.lastore, 1) := by decide +kernel
theorem dHm_put_97 : decode cHm_put 97 = .ok (.iload 10, 2) := by decide +kernel
theorem dHm_put_99 : decode cHm_put 99 = .ok (.ireturn, 1) := by decide +kernel
-- FootprintRules$HandMade.put(IJJJJ)Z
abbrev w_Hm_put (ad : Nat → Nat → Nat) (a_this : Nat) (a_isThere : Nat) (a_boxes : Nat) (k_isThere : ClassId) (k_boxes : ClassId) (v_this_count : Int32) (v_isThere : Nat → Int32) (v_boxes : Nat → Int64) : va_W := [(a_this, .inr (8, [.ref a_isThere, .ref a_boxes, .int v_this_count])), (a_isThere, .inl (k_isThere, 81, .inl v_isThere)), (a_boxes, .inl (k_boxes, 324, .inr (.inl v_boxes)))]
def P_Hm_put_51 (p1 : Int32) (p2 : Int64) (p4 : Int64) (p6 : Int64) (p8 : Int64) (v_boxes : Nat → Int64) (post : Int32 → Int32 → (Nat → Int32) → (Nat → Int64) → Prop) (y10 : Int32) (u_this_count : Int32) (u_isThere : Nat → Int32) : Prop := ∀ x1 : Int32, x1 = p1 * 4 → vp_in x1 324 ∧ vp_in (x1 + 1) 324 ∧ vp_in (x1 + 2) 324 ∧ vp_in (x1 + 3) 324 ∧ narrow .boolean (.int y10) = .int y10 ∧ post y10 u_this_count u_isThere (vp_updL (vp_updL (vp_updL (vp_updL v_boxes x1.toNatClampNeg p2) (x1 + 1).toNatClampNeg p4) (x1 + 2).toNatClampNeg p6) (x1 + 3).toNatClampNeg p8)
set_option maxHeartbeats 4000000 in
set_option maxRecDepth 100000 in
theorem w_Hm_put_51 (l : Launch) {p : Program} {e : Env} {s : State} {m : MethodId} {args : Array Value} {below : List Frame} {meth : Method} {c : Code} {dC : Nat → ClassId} {dI : Nat → Nat → Nat} {ad : Nat → Nat → Nat} {A : Nat → Prop} (C0 : zC p s m args meth c cHm_put 12 RHm zT (some .boolean) A) (hE : zE ad A s) (a_this : Nat) (a_isThere : Nat) (a_boxes : Nat) (k_isThere : ClassId) (k_boxes : ClassId) (p1 : Int32) (p2 : Int64) (p4 : Int64) (p6 : Int64) (p8 : Int64) (v_this_count : Int32) (v_isThere : Nat → Int32) (v_boxes : Nat → Int64) (post : Int32 → Int32 → (Nat → Int32) → (Nat → Int64) → Prop) (hK : va_K (dC, dI) vwCl [(k_isThere, .boolean), (k_boxes, .long)] s) : ∀ (y10 : Int32) (u_this_count : Int32) (u_isThere : Nat → Int32) (H : Heap) (locs : List Loc), P_Hm_put_51 p1 p2 p4 p6 p8 v_boxes post y10 u_this_count u_isThere → va_P (dC, dI) vwCl (w_Hm_put ad a_this a_isThere a_boxes k_isThere k_boxes u_this_count u_isThere v_boxes) H → va_D A (w_Hm_put ad a_this a_isThere a_boxes k_isThere k_boxes u_this_count u_isThere v_boxes) → va_S A s.heap H locs → ∀ ls : Array Slot, lv_has ls 12 [(0, .ref a_this), (1, .int p1), (2, .long p2), (4, .long p4), (6, .long p6), (8, .long p8), (10, .int y10)] → W p l e (headSpec wsHm_put { frames := 0, cells := 0, slots := 0, locals := 0 }).room s m args below meth c H locs 0 0 (MQ below (va_Qi (fun (r : Int32) (u : Int32 × (Nat → Int32) × (Nat → Int64)) => post r u.1 u.2.1 u.2.2) (zB (dC, dI) A (fun (u : Int32 × (Nat → Int32) × (Nat → Int64)) => (w_Hm_put ad a_this a_isThere a_boxes k_isThere k_boxes u.1 u.2.1 u.2.2))) A) args s 0 0 A) (F0 m 51 ls []) := by
  obtain ⟨hx, hb, hr, hml, hown, hts, hlocks, hA⟩ := id C0
  intro y10 u_this_count u_isThere H locs h hP hD hS ls hl
  unfold P_Hm_put_51 at h
  refine lv_iload_n hx hb dHm_put_51 rfl (lv_at hl 1 rfl) ?_
  refine lv_iconst (v := 4) hx hb dHm_put_52 (by decide) ?_
  refine lv_imul hx hb dHm_put_53 ?_
  refine lv_topi (fun x1 ex1 => ?_)
  replace h := h x1 ex1
  refine lv_istore (lv' := [(11, .int x1), (0, .ref a_this), (1, .int p1), (2, .long p2), (4, .long p4), (6, .long p6), (8, .long p8), (10, .int y10)]) hx hb dHm_put_54 hl (by decide) rfl (fun ls hl => ?_)
  refine lv_aload_n hx hb dHm_put_56 rfl (lv_at hl 1 rfl) ?_
  refine va_get (D := (dC, dI)) (ci := 8) (v := .ref a_boxes) (C := RHm) (T := THm) (N := 3) hx hb hts inZ_Hm hown hK hP 0 rfl rfl 1 (by decide) (hts _ zw_175) (fun _ h9 => h9) rfl dHm_put_57 ?_
  refine lv_iload hx hb dHm_put_60 (lv_at hl 0 rfl) ?_
  refine lv_lload_n hx hb dHm_put_62 rfl (lv_at hl 3 rfl) ?_
  obtain ⟨hn2, h⟩ := h
  refine va_last hx hb hK hP hD hS 2 1 rfl rfl hn2 dHm_put_63 (fun H locs hP hD hS => ?_)
  have hP : va_P (dC, dI) vwCl (w_Hm_put ad a_this a_isThere a_boxes k_isThere k_boxes u_this_count u_isThere (vp_updL v_boxes x1.toNatClampNeg p2)) H := hP
  have hD : va_D A (w_Hm_put ad a_this a_isThere a_boxes k_isThere k_boxes u_this_count u_isThere (vp_updL v_boxes x1.toNatClampNeg p2)) := hD
  refine lv_aload_n hx hb dHm_put_64 rfl (lv_at hl 1 rfl) ?_
  refine va_get (D := (dC, dI)) (ci := 8) (v := .ref a_boxes) (C := RHm) (T := THm) (N := 3) hx hb hts inZ_Hm hown hK hP 0 rfl rfl 1 (by decide) (hts _ zw_175) (fun _ h9 => h9) rfl dHm_put_65 ?_
  refine lv_iload hx hb dHm_put_68 (lv_at hl 0 rfl) ?_
  refine lv_iconst (v := 1) hx hb dHm_put_70 (by decide) ?_
  refine lv_iadd hx hb dHm_put_71 ?_
  refine lv_lload hx hb dHm_put_72 (lv_at hl 4 rfl) ?_
  obtain ⟨hn3, h⟩ := h
  refine va_last hx hb hK hP hD hS 2 1 rfl rfl hn3 dHm_put_74 (fun H locs hP hD hS => ?_)
  have hP : va_P (dC, dI) vwCl (w_Hm_put ad a_this a_isThere a_boxes k_isThere k_boxes u_this_count u_isThere (vp_updL (vp_updL v_boxes x1.toNatClampNeg p2) (x1 + 1).toNatClampNeg p4)) H := hP
  have hD : va_D A (w_Hm_put ad a_this a_isThere a_boxes k_isThere k_boxes u_this_count u_isThere (vp_updL (vp_updL v_boxes x1.toNatClampNeg p2) (x1 + 1).toNatClampNeg p4)) := hD
  refine lv_aload_n hx hb dHm_put_75 rfl (lv_at hl 1 rfl) ?_
  refine va_get (D := (dC, dI)) (ci := 8) (v := .ref a_boxes) (C := RHm) (T := THm) (N := 3) hx hb hts inZ_Hm hown hK hP 0 rfl rfl 1 (by decide) (hts _ zw_175) (fun _ h9 => h9) rfl dHm_put_76 ?_
  refine lv_iload hx hb dHm_put_79 (lv_at hl 0 rfl) ?_
  refine lv_iconst (v := 2) hx hb dHm_put_81 (by decide) ?_
  refine lv_iadd hx hb dHm_put_82 ?_
  refine lv_lload hx hb dHm_put_83 (lv_at hl 5 rfl) ?_
  obtain ⟨hn4, h⟩ := h
  refine va_last hx hb hK hP hD hS 2 1 rfl rfl hn4 dHm_put_85 (fun H locs hP hD hS => ?_)
  have hP : va_P (dC, dI) vwCl (w_Hm_put ad a_this a_isThere a_boxes k_isThere k_boxes u_this_count u_isThere (vp_updL (vp_updL (vp_updL v_boxes x1.toNatClampNeg p2) (x1 + 1).toNatClampNeg p4) (x1 + 2).toNatClampNeg p6)) H := hP
  have hD : va_D A (w_Hm_put ad a_this a_isThere a_boxes k_isThere k_boxes u_this_count u_isThere (vp_updL (vp_updL (vp_updL v_boxes x1.toNatClampNeg p2) (x1 + 1).toNatClampNeg p4) (x1 + 2).toNatClampNeg p6)) := hD
  refine lv_aload_n hx hb dHm_put_86 rfl (lv_at hl 1 rfl) ?_
  refine va_get (D := (dC, dI)) (ci := 8) (v := .ref a_boxes) (C := RHm) (T := THm) (N := 3) hx hb hts inZ_Hm hown hK hP 0 rfl rfl 1 (by decide) (hts _ zw_175) (fun _ h9 => h9) rfl dHm_put_87 ?_
  refine lv_iload hx hb dHm_put_90 (lv_at hl 0 rfl) ?_
  refine lv_iconst (v := 3) hx hb dHm_put_92 (by decide) ?_
  refine lv_iadd hx hb dHm_put_93 ?_
  refine lv_lload hx hb dHm_put_94 (lv_at hl 6 rfl) ?_
  obtain ⟨hn5, h⟩ := h
  refine va_last hx hb hK hP hD hS 2 1 rfl rfl hn5 dHm_put_96 (fun H locs hP hD hS => ?_)
  have hP : va_P (dC, dI) vwCl (w_Hm_put ad a_this a_isThere a_boxes k_isThere k_boxes u_this_count u_isThere (vp_updL (vp_updL (vp_updL (vp_updL v_boxes x1.toNatClampNeg p2) (x1 + 1).toNatClampNeg p4) (x1 + 2).toNatClampNeg p6) (x1 + 3).toNatClampNeg p8)) H := hP
  have hD : va_D A (w_Hm_put ad a_this a_isThere a_boxes k_isThere k_boxes u_this_count u_isThere (vp_updL (vp_updL (vp_updL (vp_updL v_boxes x1.toNatClampNeg p2) (x1 + 1).toNatClampNeg p4) (x1 + 2).toNatClampNeg p6) (x1 + 3).toNatClampNeg p8)) := hD
  refine lv_iload hx hb dHm_put_97 (lv_at hl 7 rfl) ?_
  obtain ⟨hn6, h⟩ := h
  exact W.zret (v := y10) hx hb hr hn6 (fun t ht hW => ⟨⟨y10, (u_this_count, u_isThere, (vp_updL (vp_updL (vp_updL (vp_updL v_boxes x1.toNatClampNeg p2) (x1 + 1).toNatClampNeg p4) (x1 + 2).toNatClampNeg p6) (x1 + 3).toNatClampNeg p8)), rfl, h, by rw [ht]; exact hP, hD⟩, hS.F ht⟩) hS.2.2 dHm_put_99
def P_Hm_put_27 (p1 : Int32) (p2 : Int64) (p4 : Int64) (p6 : Int64) (p8 : Int64) (v_this_count : Int32) (v_isThere : Nat → Int32) (v_boxes : Nat → Int64) (post : Int32 → Int32 → (Nat → Int32) → (Nat → Int64) → Prop) (t0 : Int32) : Prop := ((t0 = 0 → P_Hm_put_51 p1 p2 p4 p6 p8 v_boxes post t0 v_this_count v_isThere) ∧ (¬ t0 = 0 → vp_in p1 81 ∧ ∀ x3 : Int32, x3 = v_this_count + 1 → P_Hm_put_51 p1 p2 p4 p6 p8 v_boxes post t0 x3 (upd v_isThere p1.toNatClampNeg (vp_nar .boolean 1))))
set_option maxHeartbeats 4000000 in
set_option maxRecDepth 100000 in
theorem w_Hm_put_27 (l : Launch) {p : Program} {e : Env} {s : State} {m : MethodId} {args : Array Value} {below : List Frame} {meth : Method} {c : Code} {dC : Nat → ClassId} {dI : Nat → Nat → Nat} {ad : Nat → Nat → Nat} {A : Nat → Prop} (C0 : zC p s m args meth c cHm_put 12 RHm zT (some .boolean) A) (hE : zE ad A s) (a_this : Nat) (a_isThere : Nat) (a_boxes : Nat) (k_isThere : ClassId) (k_boxes : ClassId) (p1 : Int32) (p2 : Int64) (p4 : Int64) (p6 : Int64) (p8 : Int64) (v_this_count : Int32) (v_isThere : Nat → Int32) (v_boxes : Nat → Int64) (post : Int32 → Int32 → (Nat → Int32) → (Nat → Int64) → Prop) (hK : va_K (dC, dI) vwCl [(k_isThere, .boolean), (k_boxes, .long)] s) : ∀ (t0 : Int32) (H : Heap) (locs : List Loc), P_Hm_put_27 p1 p2 p4 p6 p8 v_this_count v_isThere v_boxes post t0 → va_P (dC, dI) vwCl (w_Hm_put ad a_this a_isThere a_boxes k_isThere k_boxes v_this_count v_isThere v_boxes) H → va_D A (w_Hm_put ad a_this a_isThere a_boxes k_isThere k_boxes v_this_count v_isThere v_boxes) → va_S A s.heap H locs → ∀ ls : Array Slot, lv_has ls 12 [(0, .ref a_this), (1, .int p1), (2, .long p2), (4, .long p4), (6, .long p6), (8, .long p8)] → W p l e (headSpec wsHm_put { frames := 0, cells := 0, slots := 0, locals := 0 }).room s m args below meth c H locs 0 0 (MQ below (va_Qi (fun (r : Int32) (u : Int32 × (Nat → Int32) × (Nat → Int64)) => post r u.1 u.2.1 u.2.2) (zB (dC, dI) A (fun (u : Int32 × (Nat → Int32) × (Nat → Int64)) => (w_Hm_put ad a_this a_isThere a_boxes k_isThere k_boxes u.1 u.2.1 u.2.2))) A) args s 0 0 A) (F0 m 27 ls [.int t0]) := by
  obtain ⟨hx, hb, hr, hml, hown, hts, hlocks, hA⟩ := id C0
  intro t0 H locs h hP hD hS ls hl
  unfold P_Hm_put_27 at h
  refine lv_istore (lv' := [(10, .int t0), (0, .ref a_this), (1, .int p1), (2, .long p2), (4, .long p4), (6, .long p6), (8, .long p8)]) hx hb dHm_put_27 hl (by decide) rfl (fun ls hl => ?_)
  refine lv_iload hx hb dHm_put_29 (lv_at hl 0 rfl) ?_
  refine lv_if_eq (tgt := 51) hx hb dHm_put_31 (by decide) ?_ ?_
  · intro c1
    replace h := h.1 c1
    exact w_Hm_put_51 l C0 hE a_this a_isThere a_boxes k_isThere k_boxes p1 p2 p4 p6 p8 v_this_count v_isThere v_boxes post hK t0 v_this_count v_isThere _ _ h hP hD hS ls (lv_sub hl [1, 2, 3, 4, 5, 6, 0] rfl)
  · intro c1
    replace h := h.2 c1
    refine lv_aload_n hx hb dHm_put_34 rfl (lv_at hl 1 rfl) ?_
    refine va_get (D := (dC, dI)) (ci := 8) (v := .ref a_isThere) (C := RHm) (T := THm) (N := 3) hx hb hts inZ_Hm hown hK hP 0 rfl rfl 0 (by decide) (hts _ zw_174) (fun _ h9 => h9) rfl dHm_put_35 ?_
    refine lv_iload_n hx hb dHm_put_38 rfl (lv_at hl 2 rfl) ?_
    refine lv_iconst (v := 1) hx hb dHm_put_39 (by decide) ?_
    obtain ⟨hn2, h⟩ := h
    refine va_zast hx hb hK hP hD hS 1 0 rfl rfl hn2 dHm_put_40 (fun H locs hP hD hS => ?_)
    have hP : va_P (dC, dI) vwCl (w_Hm_put ad a_this a_isThere a_boxes k_isThere k_boxes v_this_count (upd v_isThere p1.toNatClampNeg (vp_nar .boolean 1)) v_boxes) H := hP
    have hD : va_D A (w_Hm_put ad a_this a_isThere a_boxes k_isThere k_boxes v_this_count (upd v_isThere p1.toNatClampNeg (vp_nar .boolean 1)) v_boxes) := hD
    refine lv_aload_n hx hb dHm_put_41 rfl (lv_at hl 1 rfl) ?_
    refine lv_dup hx hb dHm_put_42 rfl ?_
    refine va_get (D := (dC, dI)) (ci := 8) (v := .int v_this_count) (C := RHm) (T := THm) (N := 3) hx hb hts inZ_Hm hown hK hP 0 rfl rfl 2 (by decide) (hts _ zw_176) (fun _ h9 => h9) rfl dHm_put_43 ?_
    refine lv_iconst (v := 1) hx hb dHm_put_46 (by decide) ?_
    refine lv_iadd hx hb dHm_put_47 ?_
    refine lv_topi (fun x3 ex3 => ?_)
    replace h := h x3 ex3
    refine va_put (D := (dC, dI)) (ci := 8) (v := .int x3) (ty := .int) (C := RHm) (T := THm) (N := 3) hx hb hts inZ_Hm tyHm tyHm_ok nmHm hown hK hP hD hS 0 rfl rfl 2 (by decide) (hts _ zw_176) (fun _ h9 => h9) rfl (by decide +kernel) rfl rfl (Nat.le_of_ble_eq_true rfl) dHm_put_48 (fun H locs hP hD hS => ?_)
    have hP : va_P (dC, dI) vwCl (w_Hm_put ad a_this a_isThere a_boxes k_isThere k_boxes x3 (upd v_isThere p1.toNatClampNeg (vp_nar .boolean 1)) v_boxes) H := hP
    have hD : va_D A (w_Hm_put ad a_this a_isThere a_boxes k_isThere k_boxes x3 (upd v_isThere p1.toNatClampNeg (vp_nar .boolean 1)) v_boxes) := hD
    exact w_Hm_put_51 l C0 hE a_this a_isThere a_boxes k_isThere k_boxes p1 p2 p4 p6 p8 v_this_count v_isThere v_boxes post hK t0 x3 (upd v_isThere p1.toNatClampNeg (vp_nar .boolean 1)) _ _ h hP hD hS ls (lv_sub hl [1, 2, 3, 4, 5, 6, 0] rfl)
def P_Hm_put (p1 : Int32) (p2 : Int64) (p4 : Int64) (p6 : Int64) (p8 : Int64) (v_this_count : Int32) (v_isThere : Nat → Int32) (v_boxes : Nat → Int64) (post : Int32 → Int32 → (Nat → Int32) → (Nat → Int64) → Prop) : Prop := ((p1 < 1 → post 0 v_this_count v_isThere v_boxes) ∧ (¬ p1 < 1 → ((p1 ≤ 80 → vp_in p1 81 ∧ ((¬ (v_isThere p1.toNatClampNeg) = 0 → P_Hm_put_27 p1 p2 p4 p6 p8 v_this_count v_isThere v_boxes post 0) ∧ ((v_isThere p1.toNatClampNeg) = 0 → P_Hm_put_27 p1 p2 p4 p6 p8 v_this_count v_isThere v_boxes post 1))) ∧ (¬ p1 ≤ 80 → post 0 v_this_count v_isThere v_boxes))))
set_option maxHeartbeats 4000000 in
set_option maxRecDepth 100000 in
theorem c_Hm_put (l : Launch) (dC : Nat → ClassId) (dI : Nat → Nat → Nat) (ad : Nat → Nat → Nat) (a_this : Nat) (a_isThere : Nat) (a_boxes : Nat) (k_isThere : ClassId) (k_boxes : ClassId) (sz : Nat) (p1 : Int32) (p2 : Int64) (p4 : Int64) (p6 : Int64) (p8 : Int64) (v_this_count : Int32) (v_isThere : Nat → Int32) (v_boxes : Nat → Int64) (post : Int32 → Int32 → (Nat → Int32) → (Nat → Int64) → Prop) (h : P_Hm_put p1 p2 p4 p6 p8 v_this_count v_isThere v_boxes post) : zMi l yHm_put wsHm_put { frames := 0, cells := 0, slots := 0, locals := 0 } (dC, dI) ad [.ref a_this, .int p1, .long p2, .long p4, .long p6, .long p8] (w_Hm_put ad a_this a_isThere a_boxes k_isThere k_boxes v_this_count v_isThere v_boxes) [(k_isThere, .boolean), (k_boxes, .long)] sz (fun (r : Int32) (u : Int32 × (Nat → Int32) × (Nat → Int64)) => post r u.1 u.2.1 u.2.2) (fun (u : Int32 × (Nat → Int32) × (Nat → Int64)) => (w_Hm_put ad a_this a_isThere a_boxes k_isThere k_boxes u.1 u.2.1 u.2.2)) 0 0 := by
  refine Met.ofW (cc := cHm_put) (maxL := 12) (ret := (some .boolean)) (by decide +kernel) rfl ?_
  intro p e s m args below meth c s₁ B hml hv
  obtain ⟨rfl, hsz, hP, hK, hD0, hE⟩ := hv
  have hx := B.exec
  have hb := B.bytes
  have hr := B.returns
  have hts0 := atoms_spec (ws := wsHm_put) B.pre
  have hts := fun w h => hts0 w (List.mem_cons_of_mem _ h)
  have hown : s.vm.findClass RHm = some m.cls := findClass_of_methodNamed B.named
  have hlocks := B.notSynchronized
  subst hsz
  have hD := hD0.self (sz := s.heap.size)
  generalize hAe : va_A (w_Hm_put ad a_this a_isThere a_boxes k_isThere k_boxes v_this_count v_isThere v_boxes) s.heap.size = A at hD hE ⊢
  have hA : ∀ q : Nat, s.heap.size ≤ q → A q := fun q h => by rw [← hAe]; exact Or.inr h
  have C0 := zC.mk hx hb hr hml hown hts hlocks hA
  have hS : va_S A s.heap s.heap [] := va_S.rf
  have hl := lv_entry ([.ref a_this, .int p1, .long p2, .long p4, .long p6, .long p8]) (n := 12) (Nat.le_of_ble_eq_true rfl)
  rw [lg_entry_eq]
  generalize (lg_sl ([.ref a_this, .int p1, .long p2, .long p4, .long p6, .long p8]) ++ List.replicate (12 - (lg_sl ([.ref a_this, .int p1, .long p2, .long p4, .long p6, .long p8])).length) Slot.unset).toArray = ls at hl ⊢
  have hl : lv_has ls 12 [(0, .ref a_this), (1, .int p1), (2, .long p2), (4, .long p4), (6, .long p6), (8, .long p8)] := hl
  unfold P_Hm_put at h
  refine lv_iload_n hx hb dHm_put_0 rfl (lv_at hl 1 rfl) ?_
  refine lv_iconst (v := 1) hx hb dHm_put_1 (by decide) ?_
  refine lv_icmp_lt (tgt := 11) hx hb dHm_put_2 (by decide) ?_ ?_
  · intro c1
    replace h := h.1 c1
    refine lv_iconst (v := 0) hx hb dHm_put_11 (by decide) ?_
    exact W.zret (v := 0) hx hb hr rfl (fun t ht hW => ⟨⟨0, (v_this_count, v_isThere, v_boxes), rfl, h, by rw [ht]; exact hP, hD⟩, hS.F ht⟩) hS.2.2 dHm_put_12
  · intro c1
    replace h := h.2 c1
    refine lv_iload_n hx hb dHm_put_5 rfl (lv_at hl 1 rfl) ?_
    refine lv_bipush (v := 80) hx hb dHm_put_6 (by decide) ?_
    refine lv_icmp_le (tgt := 13) hx hb dHm_put_8 (by decide) ?_ ?_
    · intro c2
      replace h := h.1 c2
      refine lv_aload_n hx hb dHm_put_13 rfl (lv_at hl 0 rfl) ?_
      refine va_get (D := (dC, dI)) (ci := 8) (v := .ref a_isThere) (C := RHm) (T := THm) (N := 3) hx hb hts inZ_Hm hown hK hP 0 rfl rfl 0 (by decide) (hts _ zw_174) (fun _ h9 => h9) rfl dHm_put_14 ?_
      refine lv_iload_n hx hb dHm_put_17 rfl (lv_at hl 1 rfl) ?_
      obtain ⟨hn3, h⟩ := h
      refine va_zald hx hb hK hP 1 0 rfl rfl hn3 dHm_put_18 ?_
      refine lv_if_ne (tgt := 26) hx hb dHm_put_19 (by decide) ?_ ?_
      · intro c4
        replace h := h.1 c4
        refine lv_iconst (v := 0) hx hb dHm_put_26 (by decide) ?_
        exact w_Hm_put_27 l C0 hE a_this a_isThere a_boxes k_isThere k_boxes p1 p2 p4 p6 p8 v_this_count v_isThere v_boxes post hK 0 _ _ h hP hD hS ls (lv_sub hl [0, 1, 2, 3, 4, 5] rfl)
      · intro c4
        replace h := h.2 c4
        refine lv_iconst (v := 1) hx hb dHm_put_22 (by decide) ?_
        refine lv_goto (tgt := 27) hx hb dHm_put_23 (by decide) ?_
        exact w_Hm_put_27 l C0 hE a_this a_isThere a_boxes k_isThere k_boxes p1 p2 p4 p6 p8 v_this_count v_isThere v_boxes post hK 1 _ _ h hP hD hS ls (lv_sub hl [0, 1, 2, 3, 4, 5] rfl)
    · intro c2
      replace h := h.2 c2
      refine lv_iconst (v := 0) hx hb dHm_put_11 (by decide) ?_
      exact W.zret (v := 0) hx hb hr rfl (fun t ht hW => ⟨⟨0, (v_this_count, v_isThere, v_boxes), rfl, h, by rw [ht]; exact hP, hD⟩, hS.F ht⟩) hS.2.2 dHm_put_12
abbrev yHm_forget : MethodName := ⟨"FootprintRules$HandMade", "forget", "()V"⟩
abbrev cHm_forget : ByteArray := prog_6_method_3_code
abbrev wsHm_forget : List Cond := .code yHm_forget cHm_forget 2 none :: zT
set_option maxRecDepth 100000 in
theorem zc_Hm_forget : Cond.code yHm_forget cHm_forget 2 none ∈ zT := zm 418 (by rfl) (by rfl)
theorem dHm_forget_0 : decode cHm_forget 0 = .ok (.aload_n 0, 1) := by decide +kernel
theorem dHm_forget_1 : decode cHm_forget 1 = .ok (.iconst 0, 1) := by decide +kernel
theorem dHm_forget_2 : decode cHm_forget 2 = .ok (.putfield 19, 3) := by decide +kernel
theorem dHm_forget_5 : decode cHm_forget 5 = .ok (.iconst 0, 1) := by decide +kernel
theorem dHm_forget_6 : decode cHm_forget 6 = .ok (.istore_n 1, 1) := by decide +kernel
theorem dHm_forget_7 : decode cHm_forget 7 = .ok (.iload_n 1, 1) := by decide +kernel
theorem dHm_forget_8 : decode cHm_forget 8 = .ok (.aload_n 0, 1) := by decide +kernel
theorem dHm_forget_9 : decode cHm_forget 9 = .ok (.getfield 9, 3) := by decide +kernel
theorem dHm_forget_12 : decode cHm_forget 12 = .ok (.arraylength, 1) := by decide +kernel
theorem dHm_forget_13 : decode cHm_forget 13 = .ok (.if_icmp .ge 16, 3) := by decide +kernel
theorem dHm_forget_16 : decode cHm_forget 16 = .ok (.aload_n 0, 1) := by decide +kernel
theorem dHm_forget_17 : decode cHm_forget 17 = .ok (.getfield 9, 3) := by decide +kernel
theorem dHm_forget_20 : decode cHm_forget 20 = .ok (.iload_n 1, 1) := by decide +kernel
theorem dHm_forget_21 : decode cHm_forget 21 = .ok (.iconst 0, 1) := by decide +kernel
theorem dHm_forget_22 : decode cHm_forget 22 = .ok (.bastore, 1) := by decide +kernel
theorem dHm_forget_23 : decode cHm_forget 23 = .ok (.iinc 1 1, 3) := by decide +kernel
theorem dHm_forget_26 : decode cHm_forget 26 = .ok (.goto (-19), 3) := by decide +kernel
theorem dHm_forget_29 : decode cHm_forget 29 = .ok (.return_, 1) := by decide +kernel
-- FootprintRules$HandMade.forget()V
abbrev w_Hm_forget (ad : Nat → Nat → Nat) (a_this : Nat) (a_isThere : Nat) (a_boxes : Nat) (k_isThere : ClassId) (v_this_count : Int32) (v_isThere : Nat → Int32) : va_W := [(a_this, .inr (8, [.ref a_isThere, .ref a_boxes, .int v_this_count])), (a_isThere, .inl (k_isThere, 81, .inl v_isThere))]
def P_Hm_forget_7  (post : Int32 → (Nat → Int32) → Prop) : Nat → Int32 → Int32 → (Nat → Int32) → Prop
  | 0, _, _, _ => False
  | n + 1, y1, u_this_count, u_isThere => ((81 ≤ y1 → post u_this_count u_isThere) ∧ (¬ 81 ≤ y1 → vp_in y1 81 ∧ ∀ x3 : Int32, x3 = y1 + 1 → P_Hm_forget_7 post n x3 u_this_count (upd u_isThere y1.toNatClampNeg (vp_nar .boolean 0))))
set_option maxHeartbeats 4000000 in
set_option maxRecDepth 100000 in
theorem w_Hm_forget_7 (l : Launch) {p : Program} {e : Env} {s : State} {m : MethodId} {args : Array Value} {below : List Frame} {meth : Method} {c : Code} {dC : Nat → ClassId} {dI : Nat → Nat → Nat} {ad : Nat → Nat → Nat} {A : Nat → Prop} (C0 : zC p s m args meth c cHm_forget 2 RHm zT none A) (hE : zE ad A s) (a_this : Nat) (a_isThere : Nat) (a_boxes : Nat) (k_isThere : ClassId) (v_this_count : Int32) (v_isThere : Nat → Int32) (post : Int32 → (Nat → Int32) → Prop) (hK : va_K (dC, dI) vwCl [(k_isThere, .boolean)] s) : ∀ (n : Nat), ∀ (y1 : Int32) (u_this_count : Int32) (u_isThere : Nat → Int32) (H : Heap) (locs : List Loc), P_Hm_forget_7 post n y1 u_this_count u_isThere → va_P (dC, dI) vwCl (w_Hm_forget ad a_this a_isThere a_boxes k_isThere u_this_count u_isThere) H → va_D A (w_Hm_forget ad a_this a_isThere a_boxes k_isThere u_this_count u_isThere) → va_S A s.heap H locs → ∀ ls : Array Slot, lv_has ls 2 [(0, .ref a_this), (1, .int y1)] → W p l e (headSpec wsHm_forget { frames := 0, cells := 0, slots := 0, locals := 0 }).room s m args below meth c H locs 0 0 (MQ below (va_Qv (fun (u : Int32 × (Nat → Int32)) => post u.1 u.2) (zB (dC, dI) A (fun (u : Int32 × (Nat → Int32)) => (w_Hm_forget ad a_this a_isThere a_boxes k_isThere u.1 u.2))) A) args s 0 0 A) (F0 m 7 ls []) := by
  obtain ⟨hx, hb, hr, hml, hown, hts, hlocks, hA⟩ := id C0
  intro n
  induction n with
  | zero =>
    intro y1 u_this_count u_isThere H locs h
    exact False.elim h
  | succ n ih =>
    intro y1 u_this_count u_isThere H locs h hP hD hS ls hl
    rw [P_Hm_forget_7] at h
    refine lv_iload_n hx hb dHm_forget_7 rfl (lv_at hl 1 rfl) ?_
    refine lv_aload_n hx hb dHm_forget_8 rfl (lv_at hl 0 rfl) ?_
    refine va_get (D := (dC, dI)) (ci := 8) (v := .ref a_isThere) (C := RHm) (T := THm) (N := 3) hx hb hts inZ_Hm hown hK hP 0 rfl rfl 0 (by decide) (hts _ zw_174) (fun _ h9 => h9) rfl dHm_forget_9 ?_
    refine va_alen (v := 81) hx hb hK hP 1 0 rfl rfl (show Int32.ofNat 81 = 81 by decide) dHm_forget_12 ?_
    refine lv_icmp_ge (tgt := 29) hx hb dHm_forget_13 (by decide) ?_ ?_
    · intro c1
      replace h := h.1 c1
      exact W.vret hx hb hr (fun t ht hW => ⟨⟨(u_this_count, u_isThere), rfl, h, by rw [ht]; exact hP, hD⟩, hS.F ht⟩) hS.2.2 dHm_forget_29
    · intro c1
      replace h := h.2 c1
      refine lv_aload_n hx hb dHm_forget_16 rfl (lv_at hl 0 rfl) ?_
      refine va_get (D := (dC, dI)) (ci := 8) (v := .ref a_isThere) (C := RHm) (T := THm) (N := 3) hx hb hts inZ_Hm hown hK hP 0 rfl rfl 0 (by decide) (hts _ zw_174) (fun _ h9 => h9) rfl dHm_forget_17 ?_
      refine lv_iload_n hx hb dHm_forget_20 rfl (lv_at hl 1 rfl) ?_
      refine lv_iconst (v := 0) hx hb dHm_forget_21 (by decide) ?_
      obtain ⟨hn2, h⟩ := h
      refine va_zast hx hb hK hP hD hS 1 0 rfl rfl hn2 dHm_forget_22 (fun H locs hP hD hS => ?_)
      have hP : va_P (dC, dI) vwCl (w_Hm_forget ad a_this a_isThere a_boxes k_isThere u_this_count (upd u_isThere y1.toNatClampNeg (vp_nar .boolean 0))) H := hP
      have hD : va_D A (w_Hm_forget ad a_this a_isThere a_boxes k_isThere u_this_count (upd u_isThere y1.toNatClampNeg (vp_nar .boolean 0))) := hD
      obtain ⟨x3, ex3⟩ : ∃ y : Int32, y = y1 + 1 := ⟨_, rfl⟩
      replace h := h x3 ex3
      refine lv_iinc (v := x3) (lv' := [(1, .int x3), (0, .ref a_this)]) hx hb dHm_forget_23 hl (k := 1) rfl (by rw [ex3]; rfl) (by decide) rfl (fun ls hl => ?_)
      refine lv_goto (tgt := 7) hx hb dHm_forget_26 (by decide) ?_
      exact ih x3 u_this_count (upd u_isThere y1.toNatClampNeg (vp_nar .boolean 0)) _ _ h hP hD hS ls (lv_sub hl [1, 0] rfl)
def P_Hm_forget (v_isThere : Nat → Int32) (post : Int32 → (Nat → Int32) → Prop) : Prop := ∃ n1, P_Hm_forget_7 post n1 0 0 v_isThere
set_option maxHeartbeats 4000000 in
set_option maxRecDepth 100000 in
theorem c_Hm_forget (l : Launch) (dC : Nat → ClassId) (dI : Nat → Nat → Nat) (ad : Nat → Nat → Nat) (a_this : Nat) (a_isThere : Nat) (a_boxes : Nat) (k_isThere : ClassId) (sz : Nat) (v_this_count : Int32) (v_isThere : Nat → Int32) (post : Int32 → (Nat → Int32) → Prop) (h : P_Hm_forget v_isThere post) : zMv l yHm_forget wsHm_forget { frames := 0, cells := 0, slots := 0, locals := 0 } (dC, dI) ad [.ref a_this] (w_Hm_forget ad a_this a_isThere a_boxes k_isThere v_this_count v_isThere) [(k_isThere, .boolean)] sz (fun (u : Int32 × (Nat → Int32)) => post u.1 u.2) (fun (u : Int32 × (Nat → Int32)) => (w_Hm_forget ad a_this a_isThere a_boxes k_isThere u.1 u.2)) 0 0 := by
  refine Met.ofW (cc := cHm_forget) (maxL := 2) (ret := none) (by decide +kernel) rfl ?_
  intro p e s m args below meth c s₁ B hml hv
  obtain ⟨rfl, hsz, hP, hK, hD0, hE⟩ := hv
  have hx := B.exec
  have hb := B.bytes
  have hr := B.returns
  have hts0 := atoms_spec (ws := wsHm_forget) B.pre
  have hts := fun w h => hts0 w (List.mem_cons_of_mem _ h)
  have hown : s.vm.findClass RHm = some m.cls := findClass_of_methodNamed B.named
  have hlocks := B.notSynchronized
  subst hsz
  have hD := hD0.self (sz := s.heap.size)
  generalize hAe : va_A (w_Hm_forget ad a_this a_isThere a_boxes k_isThere v_this_count v_isThere) s.heap.size = A at hD hE ⊢
  have hA : ∀ q : Nat, s.heap.size ≤ q → A q := fun q h => by rw [← hAe]; exact Or.inr h
  have C0 := zC.mk hx hb hr hml hown hts hlocks hA
  have hS : va_S A s.heap s.heap [] := va_S.rf
  have hl := lv_entry ([.ref a_this]) (n := 2) (Nat.le_of_ble_eq_true rfl)
  rw [lg_entry_eq]
  generalize (lg_sl ([.ref a_this]) ++ List.replicate (2 - (lg_sl ([.ref a_this])).length) Slot.unset).toArray = ls at hl ⊢
  have hl : lv_has ls 2 [(0, .ref a_this)] := hl
  unfold P_Hm_forget at h
  refine lv_aload_n hx hb dHm_forget_0 rfl (lv_at hl 0 rfl) ?_
  refine lv_iconst (v := 0) hx hb dHm_forget_1 (by decide) ?_
  refine va_put (D := (dC, dI)) (ci := 8) (v := .int 0) (ty := .int) (C := RHm) (T := THm) (N := 3) hx hb hts inZ_Hm tyHm tyHm_ok nmHm hown hK hP hD hS 0 rfl rfl 2 (by decide) (hts _ zw_176) (fun _ h9 => h9) rfl (by decide +kernel) rfl rfl (Nat.le_of_ble_eq_true rfl) dHm_forget_2 (fun H locs hP hD hS => ?_)
  have hP : va_P (dC, dI) vwCl (w_Hm_forget ad a_this a_isThere a_boxes k_isThere 0 v_isThere) H := hP
  have hD : va_D A (w_Hm_forget ad a_this a_isThere a_boxes k_isThere 0 v_isThere) := hD
  refine lv_iconst (v := 0) hx hb dHm_forget_5 (by decide) ?_
  refine lv_istore_n (lv' := [(1, .int 0), (0, .ref a_this)]) hx hb dHm_forget_6 rfl hl (by decide) rfl (fun ls hl => ?_)
  obtain ⟨n1, h⟩ := h
  exact w_Hm_forget_7 l C0 hE a_this a_isThere a_boxes k_isThere v_this_count v_isThere post hK n1 0 0 v_isThere _ _ h hP hD hS ls (lv_sub hl [1, 0] rfl)
abbrev yHm_isSame : MethodName := ⟨"FootprintRules$HandMade", "isSame", "(ILFootprintRules$Footprint;I)Z"⟩
abbrev cHm_isSame : ByteArray := prog_6_method_5_code
abbrev wsHm_isSame : List Cond := .code yHm_isSame cHm_isSame 5 (some .boolean) :: zT
set_option maxRecDepth 100000 in
theorem zc_Hm_isSame : Cond.code yHm_isSame cHm_isSame 5 (some .boolean) ∈ zT := zm 1011 (by rfl) (by rfl)
theorem dHm_isSame_0 : decode cHm_isSame 0 = .ok (.iload_n 1, 1) := by decide +kernel
theorem dHm_isSame_1 : decode cHm_isSame 1 = .ok (.ifCond .lt 9, 3) := by decide +kernel
theorem dHm_isSame_4 : decode cHm_isSame 4 = .ok (.iload_n 1, 1) := by decide +kernel
theorem dHm_isSame_5 : decode cHm_isSame 5 = .ok (.bipush 80, 2) := by decide +kernel
theorem dHm_isSame_7 : decode cHm_isSame 7 = .ok (.if_icmp .le 5, 3) := by decide +kernel
theorem dHm_isSame_10 : decode cHm_isSame 10 = .ok (.iconst 0, 1) := by decide +kernel
theorem dHm_isSame_11 : decode cHm_isSame 11 = .ok (.ireturn, 1) := by decide +kernel
theorem dHm_isSame_12 : decode cHm_isSame 12 = .ok (.iconst 0, 1) := by decide +kernel
theorem dHm_isSame_13 : decode cHm_isSame 13 = .ok (.istore 4, 2) := by decide +kernel
theorem dHm_isSame_15 : decode cHm_isSame 15 = .ok (.iload 4, 2) := by decide +kernel
theorem dHm_isSame_17 : decode cHm_isSame 17 = .ok (.iconst 4, 1) := by decide +kernel
theorem dHm_isSame_18 : decode cHm_isSame 18 = .ok (.if_icmp .ge 35, 3) := by decide +kernel
theorem dHm_isSame_21 : decode cHm_isSame 21 = .ok (.aload_n 0, 1) := by decide +kernel
theorem dHm_isSame_22 : decode cHm_isSame 22 = .ok (.getfield 15, 3) := by decide +kernel
theorem dHm_isSame_25 : decode cHm_isSame 25 = .ok (.iload_n 1, 1) := by decide +kernel
theorem dHm_isSame_26 : decode cHm_isSame 26 = .ok (.iconst 4, 1) := by decide +kernel
theorem dHm_isSame_27 : decode cHm_isSame 27 = .ok (.imul, 1) := by decide +kernel
theorem dHm_isSame_28 : decode cHm_isSame 28 = .ok (.iload 4, 2) := by decide +kernel
theorem dHm_isSame_30 : decode cHm_isSame 30 = .ok (.iadd, 1) := by decide +kernel
theorem dHm_isSame_31 : decode cHm_isSame 31 = .ok (.laload, 1) := by decide +kernel
theorem dHm_isSame_32 : decode cHm_isSame 32 = .ok (.aload_n 2, 1) := by decide +kernel
theorem dHm_isSame_33 : decode cHm_isSame 33 = .ok (.iload_n 3, 1) := by decide +kernel
theorem dHm_isSame_34 : decode cHm_isSame 34 = .ok (.iconst 1, 1) := by decide +kernel
theorem dHm_isSame_35 : decode cHm_isSame 35 = .ok (.iload 4, 2) := by decide +kernel
theorem dHm_isSame_37 : decode cHm_isSame 37 = .ok (.iadd, 1) := by decide +kernel
theorem dHm_isSame_38 : decode cHm_isSame 38 = .ok (.invokevirtual 26, 3) := by decide +kernel
theorem dHm_isSame_41 : decode cHm_isSame 41 = .ok (.lcmp, 1) := by decide +kernel
theorem dHm_isSame_42 : decode cHm_isSame 42 = .ok (.ifCond .eq 5, 3) := by decide +kernel
theorem dHm_isSame_45 : decode cHm_isSame 45 = .ok (.iconst 0, 1) := by decide +kernel
theorem dHm_isSame_46 : decode cHm_isSame 46 = .ok (.ireturn, 1) := by decide +kernel
theorem dHm_isSame_47 : decode cHm_isSame 47 = .ok (.iinc 4 1, 3) := by decide +kernel
theorem dHm_isSame_50 : decode cHm_isSame 50 = .ok (.goto (-35), 3) := by decide +kernel
theorem dHm_isSame_53 : decode cHm_isSame 53 = .ok (.iconst 1, 1) := by decide +kernel
theorem dHm_isSame_54 : decode cHm_isSame 54 = .ok (.ireturn, 1) := by decide +kernel
-- FootprintRules$HandMade.isSame(ILFootprintRules$Footprint;I)Z
abbrev w_Hm_isSame (ad : Nat → Nat → Nat) (a_this : Nat) (a_isThere : Nat) (a_boxes : Nat) (a_p2 : Nat) (a_p2_cells : Nat) (a_p2_family : Nat) (a_p2_yard : Nat) (a_p2_columns : Nat) (a_p2_rows : Nat) (a_p2_line : Nat) (k_boxes : ClassId) (k_p2_cells : ClassId) (v_this_count : Int32) (v_boxes : Nat → Int64) (v_p2_atHand : Int32) (v_p2_count : Int32) (v_p2_thermal : Int32) (v_p2_density : Int32) (v_p2_outerHigh : Int64) (v_p2_pasteLeft : Int64) (v_p2_pasteLow : Int64) (v_p2_nameLength : Int32) (v_p2_isWritten : Int32) (v_p2_cells : Nat → Int64) : va_W := [(a_this, .inr (8, [.ref a_isThere, .ref a_boxes, .int v_this_count])), (a_boxes, .inl (k_boxes, 324, .inr (.inl v_boxes))), (a_p2, .inr (6, [.int v_p2_atHand, .ref a_p2_cells, .int v_p2_count, .int v_p2_thermal, .ref a_p2_family, .int v_p2_density, .long v_p2_outerHigh, .ref a_p2_yard, .ref a_p2_columns, .ref a_p2_rows, .long v_p2_pasteLeft, .long v_p2_pasteLow, .ref a_p2_line, .int v_p2_nameLength, .int v_p2_isWritten])), (a_p2_cells, .inl (k_p2_cells, 455, .inr (.inl v_p2_cells)))]
def P_Hm_isSame_15 (p1 : Int32) (p3 : Int32) (v_boxes : Nat → Int64) (v_p2_cells : Nat → Int64) (post : Int32 → Prop) : Nat → Int32 → Prop
  | 0, _ => False
  | n + 1, y4 => ((4 ≤ y4 → post 1) ∧ (¬ 4 ≤ y4 → vp_in ((p1 * 4) + y4) 324 ∧ P_Fp_cell p3 (1 + y4) v_p2_cells (fun (r3 : Int64) => (((v_boxes ((p1 * 4) + y4).toNatClampNeg) = r3 → ∀ x5 : Int32, x5 = y4 + 1 → P_Hm_isSame_15 p1 p3 v_boxes v_p2_cells post n x5) ∧ (¬ (v_boxes ((p1 * 4) + y4).toNatClampNeg) = r3 → post 0)))))
set_option maxHeartbeats 4000000 in
set_option maxRecDepth 100000 in
theorem w_Hm_isSame_15 (l : Launch) {p : Program} {e : Env} {s : State} {m : MethodId} {args : Array Value} {below : List Frame} {meth : Method} {c : Code} {dC : Nat → ClassId} {dI : Nat → Nat → Nat} {ad : Nat → Nat → Nat} {A : Nat → Prop} (C0 : zC p s m args meth c cHm_isSame 5 RHm zT (some .boolean) A) (hE : zE ad A s) (a_this : Nat) (a_isThere : Nat) (a_boxes : Nat) (a_p2 : Nat) (a_p2_cells : Nat) (a_p2_family : Nat) (a_p2_yard : Nat) (a_p2_columns : Nat) (a_p2_rows : Nat) (a_p2_line : Nat) (k_boxes : ClassId) (k_p2_cells : ClassId) (p1 : Int32) (p3 : Int32) (v_this_count : Int32) (v_boxes : Nat → Int64) (v_p2_atHand : Int32) (v_p2_count : Int32) (v_p2_thermal : Int32) (v_p2_density : Int32) (v_p2_outerHigh : Int64) (v_p2_pasteLeft : Int64) (v_p2_pasteLow : Int64) (v_p2_nameLength : Int32) (v_p2_isWritten : Int32) (v_p2_cells : Nat → Int64) (post : Int32 → Prop) (hK : va_K (dC, dI) vwCl [(k_boxes, .long), (k_p2_cells, .long)] s) : ∀ (n : Nat), ∀ (y4 : Int32) (H : Heap) (locs : List Loc), P_Hm_isSame_15 p1 p3 v_boxes v_p2_cells post n y4 → va_P (dC, dI) vwCl (w_Hm_isSame ad a_this a_isThere a_boxes a_p2 a_p2_cells a_p2_family a_p2_yard a_p2_columns a_p2_rows a_p2_line k_boxes k_p2_cells v_this_count v_boxes v_p2_atHand v_p2_count v_p2_thermal v_p2_density v_p2_outerHigh v_p2_pasteLeft v_p2_pasteLow v_p2_nameLength v_p2_isWritten v_p2_cells) H → va_D A (w_Hm_isSame ad a_this a_isThere a_boxes a_p2 a_p2_cells a_p2_family a_p2_yard a_p2_columns a_p2_rows a_p2_line k_boxes k_p2_cells v_this_count v_boxes v_p2_atHand v_p2_count v_p2_thermal v_p2_density v_p2_outerHigh v_p2_pasteLeft v_p2_pasteLow v_p2_nameLength v_p2_isWritten v_p2_cells) → va_S A s.heap H locs → ∀ ls : Array Slot, lv_has ls 5 [(0, .ref a_this), (1, .int p1), (2, .ref a_p2), (3, .int p3), (4, .int y4)] → W p l e (headSpec wsHm_isSame { frames := 1, cells := 0, slots := 0, locals := 22 }).room s m args below meth c H locs 0 0 (MQ below (va_Qi (fun (r : Int32) (u : Unit) => post r) (zB (dC, dI) A (fun (u : Unit) => (w_Hm_isSame ad a_this a_isThere a_boxes a_p2 a_p2_cells a_p2_family a_p2_yard a_p2_columns a_p2_rows a_p2_line k_boxes k_p2_cells v_this_count v_boxes v_p2_atHand v_p2_count v_p2_thermal v_p2_density v_p2_outerHigh v_p2_pasteLeft v_p2_pasteLow v_p2_nameLength v_p2_isWritten v_p2_cells))) A) args s 0 0 A) (F0 m 15 ls []) := by
  obtain ⟨hx, hb, hr, hml, hown, hts, hlocks, hA⟩ := id C0
  intro n
  induction n with
  | zero =>
    intro y4 H locs h
    exact False.elim h
  | succ n ih =>
    intro y4 H locs h hP hD hS ls hl
    rw [P_Hm_isSame_15] at h
    refine lv_iload hx hb dHm_isSame_15 (lv_at hl 4 rfl) ?_
    refine lv_iconst (v := 4) hx hb dHm_isSame_17 (by decide) ?_
    refine lv_icmp_ge (tgt := 53) hx hb dHm_isSame_18 (by decide) ?_ ?_
    · intro c1
      replace h := h.1 c1
      refine lv_iconst (v := 1) hx hb dHm_isSame_53 (by decide) ?_
      exact W.zret (v := 1) hx hb hr rfl (fun t ht hW => ⟨⟨1, (()), rfl, h, by rw [ht]; exact hP, hD⟩, hS.F ht⟩) hS.2.2 dHm_isSame_54
    · intro c1
      replace h := h.2 c1
      refine lv_aload_n hx hb dHm_isSame_21 rfl (lv_at hl 0 rfl) ?_
      refine va_get (D := (dC, dI)) (ci := 8) (v := .ref a_boxes) (C := RHm) (T := THm) (N := 3) hx hb hts inZ_Hm hown hK hP 0 rfl rfl 1 (by decide) (hts _ zw_175) (fun _ h9 => h9) rfl dHm_isSame_22 ?_
      refine lv_iload_n hx hb dHm_isSame_25 rfl (lv_at hl 1 rfl) ?_
      refine lv_iconst (v := 4) hx hb dHm_isSame_26 (by decide) ?_
      refine lv_imul hx hb dHm_isSame_27 ?_
      refine lv_iload hx hb dHm_isSame_28 (lv_at hl 4 rfl) ?_
      refine lv_iadd hx hb dHm_isSame_30 ?_
      obtain ⟨hn2, h⟩ := h
      refine va_lald hx hb hK hP 1 0 rfl rfl hn2 dHm_isSame_31 ?_
      refine lv_aload_n hx hb dHm_isSame_32 rfl (lv_at hl 2 rfl) ?_
      refine lv_iload_n hx hb dHm_isSame_33 rfl (lv_at hl 3 rfl) ?_
      refine lv_iconst (v := 1) hx hb dHm_isSame_34 (by decide) ?_
      refine lv_iload hx hb dHm_isSame_35 (lv_at hl 4 rfl) ?_
      refine lv_iadd hx hb dHm_isSame_37 ?_
      refine zcall_l hP hD hS hA [2, 3] [0, 1] (va_runVN (As := [.int p3, .int (1 + y4)]) (rest := [.long (v_boxes ((p1 * 4) + y4).toNatClampNeg)]) ⟨hx, hb, hml, hown, hts⟩ (c_Fp_cell l dC dI ad a_p2 a_p2_cells a_p2_family a_p2_yard a_p2_columns a_p2_rows a_p2_line k_p2_cells _ p3 (1 + y4) v_p2_atHand v_p2_count v_p2_thermal v_p2_density v_p2_outerHigh v_p2_pasteLeft v_p2_pasteLow v_p2_nameLength v_p2_isWritten v_p2_cells _ h) ⟨va_cnB 2 hts (zgood zc_Fp_cell) rfl rfl rfl (hE.nw _ zn_1006) (hts _ zw_101) (by decide +kernel) ⟨Nat.le_of_ble_eq_true rfl, Nat.le_of_ble_eq_true rfl⟩, (hts _ zw_820), (hts _ zw_46)⟩ (zpreV hE hK hP hD hS hA [2, 3] [1] (by rfl) (by rfl) (by decide) (ci := 6) (q0 := 2) rfl (by rfl)) rfl rfl hl.1 rfl (lv_room (Nat.le_of_ble_eq_true rfl)) dHm_isSame_38 ⟨Nat.le_of_ble_eq_true rfl, Nat.le_of_ble_eq_true rfl⟩) (by rfl) (by rfl) (by decide) (by decide) (fun r3 u H locs h hP hD hS => ?_)
      try dsimp only at h
      have hP := hP.sub (ws' := (w_Hm_isSame ad a_this a_isThere a_boxes a_p2 a_p2_cells a_p2_family a_p2_yard a_p2_columns a_p2_rows a_p2_line k_boxes k_p2_cells v_this_count v_boxes v_p2_atHand v_p2_count v_p2_thermal v_p2_density v_p2_outerHigh v_p2_pasteLeft v_p2_pasteLow v_p2_nameLength v_p2_isWritten v_p2_cells)) [0, 1, 2, 3] rfl
      have hD := hD.sub (ws' := (w_Hm_isSame ad a_this a_isThere a_boxes a_p2 a_p2_cells a_p2_family a_p2_yard a_p2_columns a_p2_rows a_p2_line k_boxes k_p2_cells v_this_count v_boxes v_p2_atHand v_p2_count v_p2_thermal v_p2_density v_p2_outerHigh v_p2_pasteLeft v_p2_pasteLow v_p2_nameLength v_p2_isWritten v_p2_cells)) [0, 1, 2, 3] (by decide) rfl
      refine zz_lcmp_eq (tgt := 47) hx hb dHm_isSame_41 dHm_isSame_42 (by decide) ?_ ?_
      · intro c4
        replace h := h.1 c4
        obtain ⟨x5, ex5⟩ : ∃ y : Int32, y = y4 + 1 := ⟨_, rfl⟩
        replace h := h x5 ex5
        refine lv_iinc (v := x5) (lv' := [(4, .int x5), (0, .ref a_this), (1, .int p1), (2, .ref a_p2), (3, .int p3)]) hx hb dHm_isSame_47 hl (k := 4) rfl (by rw [ex5]; rfl) (by decide) rfl (fun ls hl => ?_)
        refine lv_goto (tgt := 15) hx hb dHm_isSame_50 (by decide) ?_
        exact ih x5 _ _ h hP hD hS ls (lv_sub hl [1, 2, 3, 4, 0] rfl)
      · intro c4
        replace h := h.2 c4
        refine lv_iconst (v := 0) hx hb dHm_isSame_45 (by decide) ?_
        exact W.zret (v := 0) hx hb hr rfl (fun t ht hW => ⟨⟨0, (()), rfl, h, by rw [ht]; exact hP, hD⟩, hS.F ht⟩) hS.2.2 dHm_isSame_46
def P_Hm_isSame (p1 : Int32) (p3 : Int32) (v_boxes : Nat → Int64) (v_p2_cells : Nat → Int64) (post : Int32 → Prop) : Prop := ((p1 < 0 → post 0) ∧ (¬ p1 < 0 → ((p1 ≤ 80 → ∃ n3, P_Hm_isSame_15 p1 p3 v_boxes v_p2_cells post n3 0) ∧ (¬ p1 ≤ 80 → post 0))))
set_option maxHeartbeats 4000000 in
set_option maxRecDepth 100000 in
theorem c_Hm_isSame (l : Launch) (dC : Nat → ClassId) (dI : Nat → Nat → Nat) (ad : Nat → Nat → Nat) (a_this : Nat) (a_isThere : Nat) (a_boxes : Nat) (a_p2 : Nat) (a_p2_cells : Nat) (a_p2_family : Nat) (a_p2_yard : Nat) (a_p2_columns : Nat) (a_p2_rows : Nat) (a_p2_line : Nat) (k_boxes : ClassId) (k_p2_cells : ClassId) (sz : Nat) (p1 : Int32) (p3 : Int32) (v_this_count : Int32) (v_boxes : Nat → Int64) (v_p2_atHand : Int32) (v_p2_count : Int32) (v_p2_thermal : Int32) (v_p2_density : Int32) (v_p2_outerHigh : Int64) (v_p2_pasteLeft : Int64) (v_p2_pasteLow : Int64) (v_p2_nameLength : Int32) (v_p2_isWritten : Int32) (v_p2_cells : Nat → Int64) (post : Int32 → Prop) (h : P_Hm_isSame p1 p3 v_boxes v_p2_cells post) : zMi l yHm_isSame wsHm_isSame { frames := 1, cells := 0, slots := 0, locals := 22 } (dC, dI) ad [.ref a_this, .int p1, .ref a_p2, .int p3] (w_Hm_isSame ad a_this a_isThere a_boxes a_p2 a_p2_cells a_p2_family a_p2_yard a_p2_columns a_p2_rows a_p2_line k_boxes k_p2_cells v_this_count v_boxes v_p2_atHand v_p2_count v_p2_thermal v_p2_density v_p2_outerHigh v_p2_pasteLeft v_p2_pasteLow v_p2_nameLength v_p2_isWritten v_p2_cells) [(k_boxes, .long), (k_p2_cells, .long)] sz (fun (r : Int32) (u : Unit) => post r) (fun (u : Unit) => (w_Hm_isSame ad a_this a_isThere a_boxes a_p2 a_p2_cells a_p2_family a_p2_yard a_p2_columns a_p2_rows a_p2_line k_boxes k_p2_cells v_this_count v_boxes v_p2_atHand v_p2_count v_p2_thermal v_p2_density v_p2_outerHigh v_p2_pasteLeft v_p2_pasteLow v_p2_nameLength v_p2_isWritten v_p2_cells)) 0 0 := by
  refine Met.ofW (cc := cHm_isSame) (maxL := 5) (ret := (some .boolean)) (by decide +kernel) rfl ?_
  intro p e s m args below meth c s₁ B hml hv
  obtain ⟨rfl, hsz, hP, hK, hD0, hE⟩ := hv
  have hx := B.exec
  have hb := B.bytes
  have hr := B.returns
  have hts0 := atoms_spec (ws := wsHm_isSame) B.pre
  have hts := fun w h => hts0 w (List.mem_cons_of_mem _ h)
  have hown : s.vm.findClass RHm = some m.cls := findClass_of_methodNamed B.named
  have hlocks := B.notSynchronized
  subst hsz
  have hD := hD0.self (sz := s.heap.size)
  generalize hAe : va_A (w_Hm_isSame ad a_this a_isThere a_boxes a_p2 a_p2_cells a_p2_family a_p2_yard a_p2_columns a_p2_rows a_p2_line k_boxes k_p2_cells v_this_count v_boxes v_p2_atHand v_p2_count v_p2_thermal v_p2_density v_p2_outerHigh v_p2_pasteLeft v_p2_pasteLow v_p2_nameLength v_p2_isWritten v_p2_cells) s.heap.size = A at hD hE ⊢
  have hA : ∀ q : Nat, s.heap.size ≤ q → A q := fun q h => by rw [← hAe]; exact Or.inr h
  have C0 := zC.mk hx hb hr hml hown hts hlocks hA
  have hS : va_S A s.heap s.heap [] := va_S.rf
  have hl := lv_entry ([.ref a_this, .int p1, .ref a_p2, .int p3]) (n := 5) (Nat.le_of_ble_eq_true rfl)
  rw [lg_entry_eq]
  generalize (lg_sl ([.ref a_this, .int p1, .ref a_p2, .int p3]) ++ List.replicate (5 - (lg_sl ([.ref a_this, .int p1, .ref a_p2, .int p3])).length) Slot.unset).toArray = ls at hl ⊢
  have hl : lv_has ls 5 [(0, .ref a_this), (1, .int p1), (2, .ref a_p2), (3, .int p3)] := hl
  unfold P_Hm_isSame at h
  refine lv_iload_n hx hb dHm_isSame_0 rfl (lv_at hl 1 rfl) ?_
  refine lv_if_lt (tgt := 10) hx hb dHm_isSame_1 (by decide) ?_ ?_
  · intro c1
    replace h := h.1 c1
    refine lv_iconst (v := 0) hx hb dHm_isSame_10 (by decide) ?_
    exact W.zret (v := 0) hx hb hr rfl (fun t ht hW => ⟨⟨0, (()), rfl, h, by rw [ht]; exact hP, hD⟩, hS.F ht⟩) hS.2.2 dHm_isSame_11
  · intro c1
    replace h := h.2 c1
    refine lv_iload_n hx hb dHm_isSame_4 rfl (lv_at hl 1 rfl) ?_
    refine lv_bipush (v := 80) hx hb dHm_isSame_5 (by decide) ?_
    refine lv_icmp_le (tgt := 12) hx hb dHm_isSame_7 (by decide) ?_ ?_
    · intro c2
      replace h := h.1 c2
      refine lv_iconst (v := 0) hx hb dHm_isSame_12 (by decide) ?_
      refine lv_istore (lv' := [(4, .int 0), (0, .ref a_this), (1, .int p1), (2, .ref a_p2), (3, .int p3)]) hx hb dHm_isSame_13 hl (by decide) rfl (fun ls hl => ?_)
      obtain ⟨n3, h⟩ := h
      exact w_Hm_isSame_15 l C0 hE a_this a_isThere a_boxes a_p2 a_p2_cells a_p2_family a_p2_yard a_p2_columns a_p2_rows a_p2_line k_boxes k_p2_cells p1 p3 v_this_count v_boxes v_p2_atHand v_p2_count v_p2_thermal v_p2_density v_p2_outerHigh v_p2_pasteLeft v_p2_pasteLow v_p2_nameLength v_p2_isWritten v_p2_cells post hK n3 0 _ _ h hP hD hS ls (lv_sub hl [1, 2, 3, 4, 0] rfl)
    · intro c2
      replace h := h.2 c2
      refine lv_iconst (v := 0) hx hb dHm_isSame_10 (by decide) ?_
      exact W.zret (v := 0) hx hb hr rfl (fun t ht hW => ⟨⟨0, (()), rfl, h, by rw [ht]; exact hP, hD⟩, hS.F ht⟩) hS.2.2 dHm_isSame_11
