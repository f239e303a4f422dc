abbrev yF_check_o : MethodName := ⟨"FootprintRules", "check", "()I"⟩
abbrev cF_check_o : ByteArray := prog_1_method_13_code
abbrev wsF_check_o : List Cond := .code yF_check_o cF_check_o 1 (some .int) :: zT
set_option maxRecDepth 100000 in
theorem zc_F_check_o : Cond.code yF_check_o cF_check_o 1 (some .int) ∈ zT := zm 1001 (by rfl) (by rfl)
theorem dF_check_o_0 : decode cF_check_o 0 = .ok (.aload_n 0, 1) := by decide +kernel
theorem dF_check_o_1 : decode cF_check_o 1 = .ok (.invokevirtual 121, 3) := by decide +kernel
theorem dF_check_o_4 : decode cF_check_o 4 = .ok (.aload_n 0, 1) := by decide +kernel
theorem dF_check_o_5 : decode cF_check_o 5 = .ok (.getfield 25, 3) := by decide +kernel
theorem dF_check_o_8 : decode cF_check_o 8 = .ok (.aload_n 0, 1) := by decide +kernel
theorem dF_check_o_9 : decode cF_check_o 9 = .ok (.getfield 40, 3) := by decide +kernel
theorem dF_check_o_12 : decode cF_check_o 12 = .ok (.invokevirtual 159, 3) := by decide +kernel
theorem dF_check_o_15 : decode cF_check_o 15 = .ok (.ireturn, 1) := by decide +kernel
-- FootprintRules.check()I
abbrev w_F_check_o (ad : Nat → Nat → Nat) (a_this : Nat) (a_reader : Nat) (a_families : Nat) (a_handMade : Nat) (a_maker : Nat) (a_maker_print : Nat) (a_maker_spans : Nat) (a_maker_leftOut : Nat) (a_maker_print_cells : Nat) (a_maker_print_family : Nat) (a_maker_print_yard : Nat) (a_maker_print_columns : Nat) (a_maker_print_rows : Nat) (a_maker_print_line : Nat) (a_handMade_isThere : Nat) (a_handMade_boxes : Nat) (k_maker_print_cells : ClassId) (k_handMade_isThere : ClassId) (k_handMade_boxes : ClassId) (v_this_familyCount : Int32) (v_maker_rounding : Int64) (v_maker_toe : Int64) (v_maker_heel : Int64) (v_maker_side : Int64) (v_maker_pitch : Int64) (v_maker_outer : Int64) (v_maker_inner : Int64) (v_maker_across : Int64) (v_maker_hole : Int64) (v_maker_print_atHand : Int32) (v_maker_print_count : Int32) (v_maker_print_thermal : Int32) (v_maker_print_density : Int32) (v_maker_print_outerHigh : Int64) (v_maker_print_pasteLeft : Int64) (v_maker_print_pasteLow : Int64) (v_maker_print_nameLength : Int32) (v_maker_print_isWritten : Int32) (v_handMade_count : Int32) (v_maker_print_cells : Nat → Int64) (v_handMade_isThere : Nat → Int32) (v_handMade_boxes : Nat → Int64) : va_W := [(a_this, .inr (9, [.ref a_reader, .ref a_families, .int v_this_familyCount, .ref a_handMade, .ref a_maker, .ref a_maker_print])), (a_maker, .inr (4, [.ref a_maker_spans, .ref a_maker_leftOut, .ref a_maker_print, .long v_maker_rounding, .long v_maker_toe, .long v_maker_heel, .long v_maker_side, .long v_maker_pitch, .long v_maker_outer, .long v_maker_inner, .long v_maker_across, .long v_maker_hole])), (a_maker_print, .inr (6, [.int v_maker_print_atHand, .ref a_maker_print_cells, .int v_maker_print_count, .int v_maker_print_thermal, .ref a_maker_print_family, .int v_maker_print_density, .long v_maker_print_outerHigh, .ref a_maker_print_yard, .ref a_maker_print_columns, .ref a_maker_print_rows, .long v_maker_print_pasteLeft, .long v_maker_print_pasteLow, .ref a_maker_print_line, .int v_maker_print_nameLength, .int v_maker_print_isWritten])), (a_handMade, .inr (8, [.ref a_handMade_isThere, .ref a_handMade_boxes, .int v_handMade_count])), (a_maker_print_cells, .inl (k_maker_print_cells, 455, .inr (.inl v_maker_print_cells))), (a_handMade_isThere, .inl (k_handMade_isThere, 81, .inl v_handMade_isThere)), (a_handMade_boxes, .inl (k_handMade_boxes, 324, .inr (.inl v_handMade_boxes)))]
def P_F_check_o (v_maker_print_atHand : Int32) (v_maker_print_count : Int32) (v_handMade_count : Int32) (v_maker_print_cells : Nat → Int64) (v_handMade_isThere : Nat → Int32) (v_handMade_boxes : Nat → Int64) (post : Int32 → Prop) : Prop := P_F_needFootprint_o v_maker_print_atHand (P_Hm_differences v_maker_print_count v_handMade_count v_maker_print_cells v_handMade_isThere v_handMade_boxes (fun (r1 : Int32) => post r1))
set_option maxHeartbeats 4000000 in
set_option maxRecDepth 100000 in
theorem c_F_check_o (l : Launch) (dC : Nat → ClassId) (dI : Nat → Nat → Nat) (ad : Nat → Nat → Nat) (a_this : Nat) (a_reader : Nat) (a_families : Nat) (a_handMade : Nat) (a_maker : Nat) (a_maker_print : Nat) (a_maker_spans : Nat) (a_maker_leftOut : Nat) (a_maker_print_cells : Nat) (a_maker_print_family : Nat) (a_maker_print_yard : Nat) (a_maker_print_columns : Nat) (a_maker_print_rows : Nat) (a_maker_print_line : Nat) (a_handMade_isThere : Nat) (a_handMade_boxes : Nat) (k_maker_print_cells : ClassId) (k_handMade_isThere : ClassId) (k_handMade_boxes : ClassId) (sz : Nat) (v_this_familyCount : Int32) (v_maker_rounding : Int64) (v_maker_toe : Int64) (v_maker_heel : Int64) (v_maker_side : Int64) (v_maker_pitch : Int64) (v_maker_outer : Int64) (v_maker_inner : Int64) (v_maker_across : Int64) (v_maker_hole : Int64) (v_maker_print_atHand : Int32) (v_maker_print_count : Int32) (v_maker_print_thermal : Int32) (v_maker_print_density : Int32) (v_maker_print_outerHigh : Int64) (v_maker_print_pasteLeft : Int64) (v_maker_print_pasteLow : Int64) (v_maker_print_nameLength : Int32) (v_maker_print_isWritten : Int32) (v_handMade_count : Int32) (v_maker_print_cells : Nat → Int64) (v_handMade_isThere : Nat → Int32) (v_handMade_boxes : Nat → Int64) (post : Int32 → Prop) (h : P_F_check_o v_maker_print_atHand v_maker_print_count v_handMade_count v_maker_print_cells v_handMade_isThere v_handMade_boxes post) : zMi l yF_check_o wsF_check_o { frames := 3, cells := 0, slots := 0, locals := 73 } (dC, dI) ad [.ref a_this] (w_F_check_o ad a_this a_reader a_families a_handMade a_maker a_maker_print a_maker_spans a_maker_leftOut a_maker_print_cells a_maker_print_family a_maker_print_yard a_maker_print_columns a_maker_print_rows a_maker_print_line a_handMade_isThere a_handMade_boxes k_maker_print_cells k_handMade_isThere k_handMade_boxes v_this_familyCount v_maker_rounding v_maker_toe v_maker_heel v_maker_side v_maker_pitch v_maker_outer v_maker_inner v_maker_across v_maker_hole v_maker_print_atHand v_maker_print_count v_maker_print_thermal v_maker_print_density v_maker_print_outerHigh v_maker_print_pasteLeft v_maker_print_pasteLow v_maker_print_nameLength v_maker_print_isWritten v_handMade_count v_maker_print_cells v_handMade_isThere v_handMade_boxes) [(k_maker_print_cells, .long), (k_handMade_isThere, .boolean), (k_handMade_boxes, .long)] sz (fun (r : Int32) (u : Unit) => post r) (fun (u : Unit) => (w_F_check_o ad a_this a_reader a_families a_handMade a_maker a_maker_print a_maker_spans a_maker_leftOut a_maker_print_cells a_maker_print_family a_maker_print_yard a_maker_print_columns a_maker_print_rows a_maker_print_line a_handMade_isThere a_handMade_boxes k_maker_print_cells k_handMade_isThere k_handMade_boxes v_this_familyCount v_maker_rounding v_maker_toe v_maker_heel v_maker_side v_maker_pitch v_maker_outer v_maker_inner v_maker_across v_maker_hole v_maker_print_atHand v_maker_print_count v_maker_print_thermal v_maker_print_density v_maker_print_outerHigh v_maker_print_pasteLeft v_maker_print_pasteLow v_maker_print_nameLength v_maker_print_isWritten v_handMade_count v_maker_print_cells v_handMade_isThere v_handMade_boxes)) 0 0 := by
  refine Met.ofW (cc := cF_check_o) (maxL := 1) (ret := (some .int)) (by decide +kernel) rfl ?_
  intro p e s m args below meth c s₁ B hml hv
  obtain ⟨rfl, hsz, hP, hK, hD0, hE⟩ := hv
  have hx := B.exec
  have hb := B.bytes
  have hr := B.returns
  have hts0 := atoms_spec (ws := wsF_check_o) B.pre
  have hts := fun w h => hts0 w (List.mem_cons_of_mem _ h)
  have hown : s.vm.findClass RF = some m.cls := findClass_of_methodNamed B.named
  have hlocks := B.notSynchronized
  subst hsz
  have hD := hD0.self (sz := s.heap.size)
  generalize hAe : va_A (w_F_check_o ad a_this a_reader a_families a_handMade a_maker a_maker_print a_maker_spans a_maker_leftOut a_maker_print_cells a_maker_print_family a_maker_print_yard a_maker_print_columns a_maker_print_rows a_maker_print_line a_handMade_isThere a_handMade_boxes k_maker_print_cells k_handMade_isThere k_handMade_boxes v_this_familyCount v_maker_rounding v_maker_toe v_maker_heel v_maker_side v_maker_pitch v_maker_outer v_maker_inner v_maker_across v_maker_hole v_maker_print_atHand v_maker_print_count v_maker_print_thermal v_maker_print_density v_maker_print_outerHigh v_maker_print_pasteLeft v_maker_print_pasteLow v_maker_print_nameLength v_maker_print_isWritten v_handMade_count v_maker_print_cells v_handMade_isThere v_handMade_boxes) s.heap.size = A at hD hE ⊢
  have hA : ∀ q : Nat, s.heap.size ≤ q → A q := fun q h => by rw [← hAe]; exact Or.inr h
  have C0 := zC.mk hx hb hr hml hown hts hlocks hA
  have hS : va_S A s.heap s.heap [] := va_S.rf
  have hl := lv_entry ([.ref a_this]) (n := 1) (Nat.le_of_ble_eq_true rfl)
  rw [lg_entry_eq]
  generalize (lg_sl ([.ref a_this]) ++ List.replicate (1 - (lg_sl ([.ref a_this])).length) Slot.unset).toArray = ls at hl ⊢
  have hl : lv_has ls 1 [(0, .ref a_this)] := hl
  unfold P_F_check_o at h
  refine lv_aload_n hx hb dF_check_o_0 rfl (lv_at hl 0 rfl) ?_
  refine zcall_v hP hD hS hA [0, 2] [1, 3, 4, 5, 6] (va_runV (As := []) (rest := []) ⟨hx, hb, hml, hown, hts⟩ (c_F_needFootprint_o l dC dI ad a_this a_reader a_families a_handMade a_maker a_maker_print a_maker_print_cells a_maker_print_family a_maker_print_yard a_maker_print_columns a_maker_print_rows a_maker_print_line _ v_this_familyCount v_maker_print_atHand v_maker_print_count v_maker_print_thermal v_maker_print_density v_maker_print_outerHigh v_maker_print_pasteLeft v_maker_print_pasteLow v_maker_print_nameLength v_maker_print_isWritten _ h) ⟨callB_of 0 hts (zgood zc_F_needFootprint_o) rfl rfl rfl (hts _ zw_95) (hts _ zw_847) (by decide +kernel) ⟨Nat.le_of_ble_eq_true rfl, Nat.le_of_ble_eq_true rfl⟩, (hts _ zw_849), (hts _ zw_48)⟩ (zpreV hE hK hP hD hS hA [0, 2] [] (by rfl) (by rfl) (by decide) (ci := 9) (q0 := 0) rfl (by rfl)) rfl rfl hl.1 rfl (lv_room (Nat.le_of_ble_eq_true rfl)) dF_check_o_1 ⟨Nat.le_of_ble_eq_true rfl, Nat.le_of_ble_eq_true rfl⟩) (by rfl) (by rfl) (by decide) (by decide) (fun u H locs h hP hD hS => ?_)
  try dsimp only at h
  have hP := hP.sub (ws' := (w_F_check_o ad a_this a_reader a_families a_handMade a_maker a_maker_print a_maker_spans a_maker_leftOut a_maker_print_cells a_maker_print_family a_maker_print_yard a_maker_print_columns a_maker_print_rows a_maker_print_line a_handMade_isThere a_handMade_boxes k_maker_print_cells k_handMade_isThere k_handMade_boxes v_this_familyCount v_maker_rounding v_maker_toe v_maker_heel v_maker_side v_maker_pitch v_maker_outer v_maker_inner v_maker_across v_maker_hole v_maker_print_atHand v_maker_print_count v_maker_print_thermal v_maker_print_density v_maker_print_outerHigh v_maker_print_pasteLeft v_maker_print_pasteLow v_maker_print_nameLength v_maker_print_isWritten v_handMade_count v_maker_print_cells v_handMade_isThere v_handMade_boxes)) [5, 0, 6, 1, 2, 3, 4] rfl
  have hD := hD.sub (ws' := (w_F_check_o ad a_this a_reader a_families a_handMade a_maker a_maker_print a_maker_spans a_maker_leftOut a_maker_print_cells a_maker_print_family a_maker_print_yard a_maker_print_columns a_maker_print_rows a_maker_print_line a_handMade_isThere a_handMade_boxes k_maker_print_cells k_handMade_isThere k_handMade_boxes v_this_familyCount v_maker_rounding v_maker_toe v_maker_heel v_maker_side v_maker_pitch v_maker_outer v_maker_inner v_maker_across v_maker_hole v_maker_print_atHand v_maker_print_count v_maker_print_thermal v_maker_print_density v_maker_print_outerHigh v_maker_print_pasteLeft v_maker_print_pasteLow v_maker_print_nameLength v_maker_print_isWritten v_handMade_count v_maker_print_cells v_handMade_isThere v_handMade_boxes)) [5, 0, 6, 1, 2, 3, 4] (by decide) rfl
  refine lv_aload_n hx hb dF_check_o_4 rfl (lv_at hl 0 rfl) ?_
  refine va_get (D := (dC, dI)) (ci := 9) (v := .ref a_handMade) (C := RF) (T := TF) (N := 6) hx hb hts inZ_F hown hK hP 0 rfl rfl 3 (by decide) (hts _ zw_375) (fun _ h9 => h9) rfl dF_check_o_5 ?_
  refine lv_aload_n hx hb dF_check_o_8 rfl (lv_at hl 0 rfl) ?_
  refine va_get (D := (dC, dI)) (ci := 9) (v := .ref a_maker_print) (C := RF) (T := TF) (N := 6) hx hb hts inZ_F hown hK hP 0 rfl rfl 5 (by decide) (hts _ zw_377) (fun _ h9 => h9) rfl dF_check_o_9 ?_
  refine zcall_i hP hD hS hA [2, 3, 4, 5, 6] [0, 1] (va_runVN (As := [.ref a_maker_print]) (rest := []) ⟨hx, hb, hml, hown, hts⟩ (c_Hm_differences l dC dI ad a_maker_print a_maker_print_cells a_maker_print_family a_maker_print_yard a_maker_print_columns a_maker_print_rows a_maker_print_line a_handMade a_handMade_isThere a_handMade_boxes k_maker_print_cells k_handMade_isThere k_handMade_boxes _ v_maker_print_atHand v_maker_print_count v_maker_print_thermal v_maker_print_density v_maker_print_outerHigh v_maker_print_pasteLeft v_maker_print_pasteLow v_maker_print_nameLength v_maker_print_isWritten v_handMade_count v_maker_print_cells v_handMade_isThere v_handMade_boxes _ h) ⟨va_cnB 1 hts (zgood zc_Hm_differences) rfl rfl rfl (hE.nw _ zn_1002) (hts _ zw_98) (by decide +kernel) ⟨Nat.le_of_ble_eq_true rfl, Nat.le_of_ble_eq_true rfl⟩, (hts _ zw_1004), (hts _ zw_65)⟩ (zpreV hE hK hP hD hS hA [2, 3, 4, 5, 6] [0, 1, 2] (by rfl) (by rfl) (by decide) (ci := 8) (q0 := 3) rfl (by rfl)) rfl rfl hl.1 rfl (lv_room (Nat.le_of_ble_eq_true rfl)) dF_check_o_12 ⟨Nat.le_of_ble_eq_true rfl, Nat.le_of_ble_eq_true rfl⟩) (by rfl) (by rfl) (by decide) (by decide) (fun r1 u H locs h hP hD hS => ?_)
  try dsimp only at h
  have hP := hP.sub (ws' := (w_F_check_o ad a_this a_reader a_families a_handMade a_maker a_maker_print a_maker_spans a_maker_leftOut a_maker_print_cells a_maker_print_family a_maker_print_yard a_maker_print_columns a_maker_print_rows a_maker_print_line a_handMade_isThere a_handMade_boxes k_maker_print_cells k_handMade_isThere k_handMade_boxes v_this_familyCount v_maker_rounding v_maker_toe v_maker_heel v_maker_side v_maker_pitch v_maker_outer v_maker_inner v_maker_across v_maker_hole v_maker_print_atHand v_maker_print_count v_maker_print_thermal v_maker_print_density v_maker_print_outerHigh v_maker_print_pasteLeft v_maker_print_pasteLow v_maker_print_nameLength v_maker_print_isWritten v_handMade_count v_maker_print_cells v_handMade_isThere v_handMade_boxes)) [0, 1, 2, 3, 4, 5, 6] rfl
  have hD := hD.sub (ws' := (w_F_check_o ad a_this a_reader a_families a_handMade a_maker a_maker_print a_maker_spans a_maker_leftOut a_maker_print_cells a_maker_print_family a_maker_print_yard a_maker_print_columns a_maker_print_rows a_maker_print_line a_handMade_isThere a_handMade_boxes k_maker_print_cells k_handMade_isThere k_handMade_boxes v_this_familyCount v_maker_rounding v_maker_toe v_maker_heel v_maker_side v_maker_pitch v_maker_outer v_maker_inner v_maker_across v_maker_hole v_maker_print_atHand v_maker_print_count v_maker_print_thermal v_maker_print_density v_maker_print_outerHigh v_maker_print_pasteLeft v_maker_print_pasteLow v_maker_print_nameLength v_maker_print_isWritten v_handMade_count v_maker_print_cells v_handMade_isThere v_handMade_boxes)) [0, 1, 2, 3, 4, 5, 6] (by decide) rfl
  exact W.iret (v := r1) hx hb hr (fun t ht hW => ⟨⟨r1, (()), rfl, h, by rw [ht]; exact hP, hD⟩, hS.F ht⟩) hS.2.2 dF_check_o_15
abbrev yF_check_t : MethodName := ⟨"FootprintRules", "check", "()I"⟩
abbrev cF_check_t : ByteArray := prog_1_method_13_code
abbrev wsF_check_t : List Cond := .code yF_check_t cF_check_t 1 (some .int) :: zT
set_option maxRecDepth 100000 in
theorem zc_F_check_t : Cond.code yF_check_t cF_check_t 1 (some .int) ∈ zT := zm 1001 (by rfl) (by rfl)
theorem dF_check_t_0 : decode cF_check_t 0 = .ok (.aload_n 0, 1) := by decide +kernel
theorem dF_check_t_1 : decode cF_check_t 1 = .ok (.invokevirtual 121, 3) := by decide +kernel
-- FootprintRules.check()I
abbrev w_F_check_t (ad : Nat → Nat → Nat) (a_this : Nat) (a_reader : Nat) (a_families : Nat) (a_handMade : Nat) (a_maker : Nat) (a_maker_print : Nat) (a_maker_spans : Nat) (a_maker_leftOut : Nat) (a_maker_print_cells : Nat) (a_maker_print_family : Nat) (a_maker_print_yard : Nat) (a_maker_print_columns : Nat) (a_maker_print_rows : Nat) (a_maker_print_line : Nat)  (v_this_familyCount : Int32) (v_maker_rounding : Int64) (v_maker_toe : Int64) (v_maker_heel : Int64) (v_maker_side : Int64) (v_maker_pitch : Int64) (v_maker_outer : Int64) (v_maker_inner : Int64) (v_maker_across : Int64) (v_maker_hole : Int64) (v_maker_print_atHand : Int32) (v_maker_print_count : Int32) (v_maker_print_thermal : Int32) (v_maker_print_density : Int32) (v_maker_print_outerHigh : Int64) (v_maker_print_pasteLeft : Int64) (v_maker_print_pasteLow : Int64) (v_maker_print_nameLength : Int32) (v_maker_print_isWritten : Int32) : va_W := [(a_this, .inr (9, [.ref a_reader, .ref a_families, .int v_this_familyCount, .ref a_handMade, .ref a_maker, .ref a_maker_print])), (a_maker, .inr (4, [.ref a_maker_spans, .ref a_maker_leftOut, .ref a_maker_print, .long v_maker_rounding, .long v_maker_toe, .long v_maker_heel, .long v_maker_side, .long v_maker_pitch, .long v_maker_outer, .long v_maker_inner, .long v_maker_across, .long v_maker_hole])), (a_maker_print, .inr (6, [.int v_maker_print_atHand, .ref a_maker_print_cells, .int v_maker_print_count, .int v_maker_print_thermal, .ref a_maker_print_family, .int v_maker_print_density, .long v_maker_print_outerHigh, .ref a_maker_print_yard, .ref a_maker_print_columns, .ref a_maker_print_rows, .long v_maker_print_pasteLeft, .long v_maker_print_pasteLow, .ref a_maker_print_line, .int v_maker_print_nameLength, .int v_maker_print_isWritten]))]
def P_F_check_t (v_maker_print_atHand : Int32) (post : String → Prop) : Prop := P_F_needFootprint_t v_maker_print_atHand (fun (E : String) => post E)
set_option maxHeartbeats 4000000 in
set_option maxRecDepth 100000 in
theorem c_F_check_t (l : Launch) (hlt : l.stackTraces = false) (dC : Nat → ClassId) (dI : Nat → Nat → Nat) (ad : Nat → Nat → Nat) (a_this : Nat) (a_reader : Nat) (a_families : Nat) (a_handMade : Nat) (a_maker : Nat) (a_maker_print : Nat) (a_maker_spans : Nat) (a_maker_leftOut : Nat) (a_maker_print_cells : Nat) (a_maker_print_family : Nat) (a_maker_print_yard : Nat) (a_maker_print_columns : Nat) (a_maker_print_rows : Nat) (a_maker_print_line : Nat)  (sz : Nat) (v_this_familyCount : Int32) (v_maker_rounding : Int64) (v_maker_toe : Int64) (v_maker_heel : Int64) (v_maker_side : Int64) (v_maker_pitch : Int64) (v_maker_outer : Int64) (v_maker_inner : Int64) (v_maker_across : Int64) (v_maker_hole : Int64) (v_maker_print_atHand : Int32) (v_maker_print_count : Int32) (v_maker_print_thermal : Int32) (v_maker_print_density : Int32) (v_maker_print_outerHigh : Int64) (v_maker_print_pasteLeft : Int64) (v_maker_print_pasteLow : Int64) (v_maker_print_nameLength : Int32) (v_maker_print_isWritten : Int32) (post : String → Prop) (h : P_F_check_t v_maker_print_atHand post) : zMT l yF_check_t wsF_check_t { frames := 7, cells := 1, slots := 6, locals := 111 } (dC, dI) ad [.ref a_this] (w_F_check_t ad a_this a_reader a_families a_handMade a_maker a_maker_print a_maker_spans a_maker_leftOut a_maker_print_cells a_maker_print_family a_maker_print_yard a_maker_print_columns a_maker_print_rows a_maker_print_line v_this_familyCount v_maker_rounding v_maker_toe v_maker_heel v_maker_side v_maker_pitch v_maker_outer v_maker_inner v_maker_across v_maker_hole v_maker_print_atHand v_maker_print_count v_maker_print_thermal v_maker_print_density v_maker_print_outerHigh v_maker_print_pasteLeft v_maker_print_pasteLow v_maker_print_nameLength v_maker_print_isWritten) [] sz (fun (E : String) (u : Unit) => post E) (fun (u : Unit) => (w_F_check_t ad a_this a_reader a_families a_handMade a_maker a_maker_print a_maker_spans a_maker_leftOut a_maker_print_cells a_maker_print_family a_maker_print_yard a_maker_print_columns a_maker_print_rows a_maker_print_line v_this_familyCount v_maker_rounding v_maker_toe v_maker_heel v_maker_side v_maker_pitch v_maker_outer v_maker_inner v_maker_across v_maker_hole v_maker_print_atHand v_maker_print_count v_maker_print_thermal v_maker_print_density v_maker_print_outerHigh v_maker_print_pasteLeft v_maker_print_pasteLow v_maker_print_nameLength v_maker_print_isWritten)) 1 6 := by
  refine zMT.ofW (cc := cF_check_t) (maxL := 1) (ret := (some .int)) (by decide +kernel) rfl ?_
  intro p e s m args below meth c s₁ B hml hnx hv
  obtain ⟨rfl, hsz, hP, hK, hD0, hE⟩ := hv
  have hx := B.exec
  have hb := B.bytes
  have hr := B.returns
  have hts0 := atoms_spec (ws := wsF_check_t) B.pre
  have hts := fun w h => hts0 w (List.mem_cons_of_mem _ h)
  have hown : s.vm.findClass RF = some m.cls := findClass_of_methodNamed B.named
  have hlocks := B.notSynchronized
  subst hsz
  have hD := hD0.self (sz := s.heap.size)
  generalize hAe : va_A (w_F_check_t ad a_this a_reader a_families a_handMade a_maker a_maker_print a_maker_spans a_maker_leftOut a_maker_print_cells a_maker_print_family a_maker_print_yard a_maker_print_columns a_maker_print_rows a_maker_print_line v_this_familyCount v_maker_rounding v_maker_toe v_maker_heel v_maker_side v_maker_pitch v_maker_outer v_maker_inner v_maker_across v_maker_hole v_maker_print_atHand v_maker_print_count v_maker_print_thermal v_maker_print_density v_maker_print_outerHigh v_maker_print_pasteLeft v_maker_print_pasteLow v_maker_print_nameLength v_maker_print_isWritten) s.heap.size = A at hD hE ⊢
  have hA : ∀ q : Nat, s.heap.size ≤ q → A q := fun q h => by rw [← hAe]; exact Or.inr h
  have C0 := zC.mk hx hb hr hml hown hts hlocks hA
  have hS : va_S A s.heap s.heap [] := va_S.rf
  have hl := lv_entry ([.ref a_this]) (n := 1) (Nat.le_of_ble_eq_true rfl)
  rw [lg_entry_eq]
  generalize (lg_sl ([.ref a_this]) ++ List.replicate (1 - (lg_sl ([.ref a_this])).length) Slot.unset).toArray = ls at hl ⊢
  have hl : lv_has ls 1 [(0, .ref a_this)] := hl
  unfold P_F_check_t at h
  refine lv_aload_n hx hb dF_check_t_0 rfl (lv_at hl 0 rfl) ?_
  refine zt_out hP hD hS hA [0, 2] [1] (zt_runV (As := []) (rest := []) ⟨hx, hb, hml, hown, hts⟩ (c_F_needFootprint_t l hlt dC dI ad a_this a_reader a_families a_handMade a_maker a_maker_print a_maker_print_cells a_maker_print_family a_maker_print_yard a_maker_print_columns a_maker_print_rows a_maker_print_line _ v_this_familyCount v_maker_print_atHand v_maker_print_count v_maker_print_thermal v_maker_print_density v_maker_print_outerHigh v_maker_print_pasteLeft v_maker_print_pasteLow v_maker_print_nameLength v_maker_print_isWritten _ h) ⟨callB_of 0 hts (zgood zc_F_needFootprint_t) rfl rfl rfl (hts _ zw_95) (hts _ zw_847) (by decide +kernel) ⟨Nat.le_of_ble_eq_true rfl, Nat.le_of_ble_eq_true rfl⟩, (hts _ zw_849), (hts _ zw_48)⟩ (zpreV hE hK hP hD hS hA [0, 2] [] (by rfl) (by rfl) (by decide) (ci := 9) (q0 := 0) rfl (by rfl)) rfl rfl hl.1 rfl (lv_room (Nat.le_of_ble_eq_true rfl)) dF_check_t_1 ⟨Nat.le_of_ble_eq_true rfl, Nat.le_of_ble_eq_true rfl⟩) (by rfl) (by rfl) (by decide) (by decide) hnx hlocks (fun E u H h hP hD => ?_)
  try dsimp only at h
  have hP := hP.sub (ws' := (w_F_check_t ad a_this a_reader a_families a_handMade a_maker a_maker_print a_maker_spans a_maker_leftOut a_maker_print_cells a_maker_print_family a_maker_print_yard a_maker_print_columns a_maker_print_rows a_maker_print_line v_this_familyCount v_maker_rounding v_maker_toe v_maker_heel v_maker_side v_maker_pitch v_maker_outer v_maker_inner v_maker_across v_maker_hole v_maker_print_atHand v_maker_print_count v_maker_print_thermal v_maker_print_density v_maker_print_outerHigh v_maker_print_pasteLeft v_maker_print_pasteLow v_maker_print_nameLength v_maker_print_isWritten)) [1, 0, 2] rfl
  have hD := hD.sub (ws' := (w_F_check_t ad a_this a_reader a_families a_handMade a_maker a_maker_print a_maker_spans a_maker_leftOut a_maker_print_cells a_maker_print_family a_maker_print_yard a_maker_print_columns a_maker_print_rows a_maker_print_line v_this_familyCount v_maker_rounding v_maker_toe v_maker_heel v_maker_side v_maker_pitch v_maker_outer v_maker_inner v_maker_across v_maker_hole v_maker_print_atHand v_maker_print_count v_maker_print_thermal v_maker_print_density v_maker_print_outerHigh v_maker_print_pasteLeft v_maker_print_pasteLow v_maker_print_nameLength v_maker_print_isWritten)) [1, 0, 2] (by decide) rfl
  exact ⟨(()), h, hP, hD⟩
abbrev yF_hand_o : MethodName := ⟨"FootprintRules", "hand", "(IJJJJ)Z"⟩
abbrev cF_hand_o : ByteArray := prog_1_method_14_code
abbrev wsF_hand_o : List Cond := .code yF_hand_o cF_hand_o 10 (some .boolean) :: zT
set_option maxRecDepth 100000 in
theorem zc_F_hand_o : Cond.code yF_hand_o cF_hand_o 10 (some .boolean) ∈ zT := zm 1018 (by rfl) (by rfl)
theorem dF_hand_o_0 : decode cF_hand_o 0 = .ok (.iload_n 1, 1) := by decide +kernel
theorem dF_hand_o_1 : decode cF_hand_o 1 = .ok (.iconst 1, 1) := by decide +kernel
theorem dF_hand_o_2 : decode cF_hand_o 2 = .ok (.if_icmp .lt 9, 3) := by decide +kernel
theorem dF_hand_o_5 : decode cF_hand_o 5 = .ok (.iload_n 1, 1) := by decide +kernel
theorem dF_hand_o_6 : decode cF_hand_o 6 = .ok (.bipush 80, 2) := by decide +kernel
theorem dF_hand_o_8 : decode cF_hand_o 8 = .ok (.if_icmp .le 13, 3) := by decide +kernel
theorem dF_hand_o_21 : decode cF_hand_o 21 = .ok (.lload_n 2, 1) := by decide +kernel
theorem dF_hand_o_22 : decode cF_hand_o 22 = .ok (.ldc2_w 165, 3) := by decide +kernel
theorem dF_hand_o_25 : decode cF_hand_o 25 = .ok (.ldc2_w 75, 3) := by decide +kernel
theorem dF_hand_o_28 : decode cF_hand_o 28 = .ok (.invokestatic 77, 3) := by decide +kernel
theorem dF_hand_o_31 : decode cF_hand_o 31 = .ok (.ifCond .eq 17, 3) := by decide +kernel
theorem dF_hand_o_34 : decode cF_hand_o 34 = .ok (.lload 4, 2) := by decide +kernel
theorem dF_hand_o_36 : decode cF_hand_o 36 = .ok (.ldc2_w 165, 3) := by decide +kernel
theorem dF_hand_o_39 : decode cF_hand_o 39 = .ok (.ldc2_w 75, 3) := by decide +kernel
theorem dF_hand_o_42 : decode cF_hand_o 42 = .ok (.invokestatic 77, 3) := by decide +kernel
theorem dF_hand_o_45 : decode cF_hand_o 45 = .ok (.ifCond .ne 13, 3) := by decide +kernel
theorem dF_hand_o_58 : decode cF_hand_o 58 = .ok (.lload 6, 2) := by decide +kernel
theorem dF_hand_o_60 : decode cF_hand_o 60 = .ok (.lconst 1, 1) := by decide +kernel
theorem dF_hand_o_61 : decode cF_hand_o 61 = .ok (.ldc2_w 75, 3) := by decide +kernel
theorem dF_hand_o_64 : decode cF_hand_o 64 = .ok (.invokestatic 77, 3) := by decide +kernel
theorem dF_hand_o_67 : decode cF_hand_o 67 = .ok (.ifCond .eq 15, 3) := by decide +kernel
theorem dF_hand_o_70 : decode cF_hand_o 70 = .ok (.lload 8, 2) := by decide +kernel
theorem dF_hand_o_72 : decode cF_hand_o 72 = .ok (.lconst 1, 1) := by decide +kernel
theorem dF_hand_o_73 : decode cF_hand_o 73 = .ok (.ldc2_w 75, 3) := by decide +kernel
theorem dF_hand_o_76 : decode cF_hand_o 76 = .ok (.invokestatic 77, 3) := by decide +kernel
theorem dF_hand_o_79 : decode cF_hand_o 79 = .ok (.ifCond .ne 13, 3) := by decide +kernel
theorem dF_hand_o_92 : decode cF_hand_o 92 = .ok (.aload_n 0, 1) := by decide +kernel
theorem dF_hand_o_93 : decode cF_hand_o 93 = .ok (.getfield 25, 3) := by decide +kernel
theorem dF_hand_o_96 : decode cF_hand_o 96 = .ok (.iload_n 1, 1) := by decide +kernel
theorem dF_hand_o_97 : decode cF_hand_o 97 = .ok (.lload_n 2, 1) := by decide +kernel
theorem dF_hand_o_98 : decode cF_hand_o 98 = .ok (.lload 4, 2) := by decide +kernel
theorem dF_hand_o_100 : decode cF_hand_o 100 = .ok (.lload 6, 2) := by decide +kernel
theorem dF_hand_o_102 : decode cF_hand_o 102 = .ok (.lload 8, 2) := by decide +kernel
theorem dF_hand_o_104 : decode cF_hand_o 104 = .ok (.invokevirtual 171, 3) := by decide +kernel
theorem dF_hand_o_107 : decode cF_hand_o 107 = .ok (.ireturn, 1) := by decide +kernel
-- FootprintRules.hand(IJJJJ)Z
abbrev w_F_hand_o (ad : Nat → Nat → Nat) (a_this : Nat) (a_reader : Nat) (a_families : Nat) (a_handMade : Nat) (a_maker : Nat) (a_maker_print : Nat) (a_handMade_isThere : Nat) (a_handMade_boxes : Nat) (k_handMade_isThere : ClassId) (k_handMade_boxes : ClassId) (v_this_familyCount : Int32) (v_handMade_count : Int32) (v_handMade_isThere : Nat → Int32) (v_handMade_boxes : Nat → Int64) : va_W := [(a_this, .inr (9, [.ref a_reader, .ref a_families, .int v_this_familyCount, .ref a_handMade, .ref a_maker, .ref a_maker_print])), (a_handMade, .inr (8, [.ref a_handMade_isThere, .ref a_handMade_boxes, .int v_handMade_count])), (a_handMade_isThere, .inl (k_handMade_isThere, 81, .inl v_handMade_isThere)), (a_handMade_boxes, .inl (k_handMade_boxes, 324, .inr (.inl v_handMade_boxes)))]
def P_F_hand_o_11  (post : Int32 → Int32 → (Nat → Int32) → (Nat → Int64) → Prop)  : Prop := False
set_option maxHeartbeats 4000000 in
set_option maxRecDepth 100000 in
theorem w_F_hand_o_11 (l : Launch) {p : Program} {e : Env} {s : State} {m : MethodId} {args : Array Value} {below : List Frame} {meth : Method} {c : Code} {dC : Nat → ClassId} {dI : Nat → Nat → Nat} {ad : Nat → Nat → Nat} {A : Nat → Prop} (C0 : zC p s m args meth c cF_hand_o 10 RF zT (some .boolean) A) (hE : zE ad A s) (a_this : Nat) (a_reader : Nat) (a_families : Nat) (a_handMade : Nat) (a_maker : Nat) (a_maker_print : Nat) (a_handMade_isThere : Nat) (a_handMade_boxes : Nat) (k_handMade_isThere : ClassId) (k_handMade_boxes : ClassId) (p1 : Int32) (p2 : Int64) (p4 : Int64) (p6 : Int64) (p8 : Int64) (v_this_familyCount : Int32) (v_handMade_count : Int32) (v_handMade_isThere : Nat → Int32) (v_handMade_boxes : Nat → Int64) (post : Int32 → Int32 → (Nat → Int32) → (Nat → Int64) → Prop) (hK : va_K (dC, dI) vwCl [(k_handMade_isThere, .boolean), (k_handMade_boxes, .long)] s) : ∀  (H : Heap) (locs : List Loc), P_F_hand_o_11 post → va_P (dC, dI) vwCl (w_F_hand_o ad a_this a_reader a_families a_handMade a_maker a_maker_print a_handMade_isThere a_handMade_boxes k_handMade_isThere k_handMade_boxes v_this_familyCount v_handMade_count v_handMade_isThere v_handMade_boxes) H → va_D A (w_F_hand_o ad a_this a_reader a_families a_handMade a_maker a_maker_print a_handMade_isThere a_handMade_boxes k_handMade_isThere k_handMade_boxes v_this_familyCount v_handMade_count v_handMade_isThere v_handMade_boxes) → va_S A s.heap H locs → ∀ ls : Array Slot, lv_has ls 10 [] → W p l e (headSpec wsF_hand_o { frames := 1, cells := 0, slots := 0, locals := 31 }).room s m args below meth c H locs 0 0 (MQ below (va_Qi (fun (r : Int32) (u : Int32 × (Nat → Int32) × (Nat → Int64)) => post r u.1 u.2.1 u.2.2) (zB (dC, dI) A (fun (u : Int32 × (Nat → Int32) × (Nat → Int64)) => (w_F_hand_o ad a_this a_reader a_families a_handMade a_maker a_maker_print a_handMade_isThere a_handMade_boxes k_handMade_isThere k_handMade_boxes v_this_familyCount u.1 u.2.1 u.2.2))) A) args s 0 0 A) (F0 m 11 ls []) := by
  obtain ⟨hx, hb, hr, hml, hown, hts, hlocks, hA⟩ := id C0
  intro  H locs h hP hD hS ls hl
  unfold P_F_hand_o_11 at h
  exact False.elim h
def P_F_hand_o_48  (post : Int32 → Int32 → (Nat → Int32) → (Nat → Int64) → Prop)  : Prop := False
set_option maxHeartbeats 4000000 in
set_option maxRecDepth 100000 in
theorem w_F_hand_o_48 (l : Launch) {p : Program} {e : Env} {s : State} {m : MethodId} {args : Array Value} {below : List Frame} {meth : Method} {c : Code} {dC : Nat → ClassId} {dI : Nat → Nat → Nat} {ad : Nat → Nat → Nat} {A : Nat → Prop} (C0 : zC p s m args meth c cF_hand_o 10 RF zT (some .boolean) A) (hE : zE ad A s) (a_this : Nat) (a_reader : Nat) (a_families : Nat) (a_handMade : Nat) (a_maker : Nat) (a_maker_print : Nat) (a_handMade_isThere : Nat) (a_handMade_boxes : Nat) (k_handMade_isThere : ClassId) (k_handMade_boxes : ClassId) (p1 : Int32) (p2 : Int64) (p4 : Int64) (p6 : Int64) (p8 : Int64) (v_this_familyCount : Int32) (v_handMade_count : Int32) (v_handMade_isThere : Nat → Int32) (v_handMade_boxes : Nat → Int64) (post : Int32 → Int32 → (Nat → Int32) → (Nat → Int64) → Prop) (hK : va_K (dC, dI) vwCl [(k_handMade_isThere, .boolean), (k_handMade_boxes, .long)] s) : ∀  (H : Heap) (locs : List Loc), P_F_hand_o_48 post → va_P (dC, dI) vwCl (w_F_hand_o ad a_this a_reader a_families a_handMade a_maker a_maker_print a_handMade_isThere a_handMade_boxes k_handMade_isThere k_handMade_boxes v_this_familyCount v_handMade_count v_handMade_isThere v_handMade_boxes) H → va_D A (w_F_hand_o ad a_this a_reader a_families a_handMade a_maker a_maker_print a_handMade_isThere a_handMade_boxes k_handMade_isThere k_handMade_boxes v_this_familyCount v_handMade_count v_handMade_isThere v_handMade_boxes) → va_S A s.heap H locs → ∀ ls : Array Slot, lv_has ls 10 [] → W p l e (headSpec wsF_hand_o { frames := 1, cells := 0, slots := 0, locals := 31 }).room s m args below meth c H locs 0 0 (MQ below (va_Qi (fun (r : Int32) (u : Int32 × (Nat → Int32) × (Nat → Int64)) => post r u.1 u.2.1 u.2.2) (zB (dC, dI) A (fun (u : Int32 × (Nat → Int32) × (Nat → Int64)) => (w_F_hand_o ad a_this a_reader a_families a_handMade a_maker a_maker_print a_handMade_isThere a_handMade_boxes k_handMade_isThere k_handMade_boxes v_this_familyCount u.1 u.2.1 u.2.2))) A) args s 0 0 A) (F0 m 48 ls []) := by
  obtain ⟨hx, hb, hr, hml, hown, hts, hlocks, hA⟩ := id C0
  intro  H locs h hP hD hS ls hl
  unfold P_F_hand_o_48 at h
  exact False.elim h
def P_F_hand_o_82  (post : Int32 → Int32 → (Nat → Int32) → (Nat → Int64) → Prop)  : Prop := False
set_option maxHeartbeats 4000000 in
set_option maxRecDepth 100000 in
theorem w_F_hand_o_82 (l : Launch) {p : Program} {e : Env} {s : State} {m : MethodId} {args : Array Value} {below : List Frame} {meth : Method} {c : Code} {dC : Nat → ClassId} {dI : Nat → Nat → Nat} {ad : Nat → Nat → Nat} {A : Nat → Prop} (C0 : zC p s m args meth c cF_hand_o 10 RF zT (some .boolean) A) (hE : zE ad A s) (a_this : Nat) (a_reader : Nat) (a_families : Nat) (a_handMade : Nat) (a_maker : Nat) (a_maker_print : Nat) (a_handMade_isThere : Nat) (a_handMade_boxes : Nat) (k_handMade_isThere : ClassId) (k_handMade_boxes : ClassId) (p1 : Int32) (p2 : Int64) (p4 : Int64) (p6 : Int64) (p8 : Int64) (v_this_familyCount : Int32) (v_handMade_count : Int32) (v_handMade_isThere : Nat → Int32) (v_handMade_boxes : Nat → Int64) (post : Int32 → Int32 → (Nat → Int32) → (Nat → Int64) → Prop) (hK : va_K (dC, dI) vwCl [(k_handMade_isThere, .boolean), (k_handMade_boxes, .long)] s) : ∀  (H : Heap) (locs : List Loc), P_F_hand_o_82 post → va_P (dC, dI) vwCl (w_F_hand_o ad a_this a_reader a_families a_handMade a_maker a_maker_print a_handMade_isThere a_handMade_boxes k_handMade_isThere k_handMade_boxes v_this_familyCount v_handMade_count v_handMade_isThere v_handMade_boxes) H → va_D A (w_F_hand_o ad a_this a_reader a_families a_handMade a_maker a_maker_print a_handMade_isThere a_handMade_boxes k_handMade_isThere k_handMade_boxes v_this_familyCount v_handMade_count v_handMade_isThere v_handMade_boxes) → va_S A s.heap H locs → ∀ ls : Array Slot, lv_has ls 10 [] → W p l e (headSpec wsF_hand_o { frames := 1, cells := 0, slots := 0, locals := 31 }).room s m args below meth c H locs 0 0 (MQ below (va_Qi (fun (r : Int32) (u : Int32 × (Nat → Int32) × (Nat → Int64)) => post r u.1 u.2.1 u.2.2) (zB (dC, dI) A (fun (u : Int32 × (Nat → Int32) × (Nat → Int64)) => (w_F_hand_o ad a_this a_reader a_families a_handMade a_maker a_maker_print a_handMade_isThere a_handMade_boxes k_handMade_isThere k_handMade_boxes v_this_familyCount u.1 u.2.1 u.2.2))) A) args s 0 0 A) (F0 m 82 ls []) := by
  obtain ⟨hx, hb, hr, hml, hown, hts, hlocks, hA⟩ := id C0
  intro  H locs h hP hD hS ls hl
  unfold P_F_hand_o_82 at h
  exact False.elim h
def P_F_hand_o (p1 : Int32) (p2 : Int64) (p4 : Int64) (p6 : Int64) (p8 : Int64) (v_handMade_count : Int32) (v_handMade_isThere : Nat → Int32) (v_handMade_boxes : Nat → Int64) (post : Int32 → Int32 → (Nat → Int32) → (Nat → Int64) → Prop) : Prop := ((p1 < 1 → P_F_hand_o_11 post) ∧ (¬ p1 < 1 → ((p1 ≤ 80 → P_F_isWithin p2 (-100000000) 100000000 (fun (r3 : Int32) => ((r3 = 0 → P_F_hand_o_48 post) ∧ (¬ r3 = 0 → P_F_isWithin p4 (-100000000) 100000000 (fun (r5 : Int32) => ((¬ r5 = 0 → P_F_isWithin p6 1 100000000 (fun (r7 : Int32) => ((r7 = 0 → P_F_hand_o_82 post) ∧ (¬ r7 = 0 → P_F_isWithin p8 1 100000000 (fun (r9 : Int32) => ((¬ r9 = 0 → P_Hm_put p1 p2 p4 p6 p8 v_handMade_count v_handMade_isThere v_handMade_boxes (fun (r14 : Int32) (u11 : Int32) (u12 : Nat → Int32) (u13 : Nat → Int64) => narrow .boolean (.int r14) = .int r14 ∧ post r14 u11 u12 u13)) ∧ (r9 = 0 → P_F_hand_o_82 post))))))) ∧ (r5 = 0 → P_F_hand_o_48 post))))))) ∧ (¬ p1 ≤ 80 → P_F_hand_o_11 post))))
set_option maxHeartbeats 4000000 in
set_option maxRecDepth 100000 in
theorem c_F_hand_o (l : Launch) (dC : Nat → ClassId) (dI : Nat → Nat → Nat) (ad : Nat → Nat → Nat) (a_this : Nat) (a_reader : Nat) (a_families : Nat) (a_handMade : Nat) (a_maker : Nat) (a_maker_print : Nat) (a_handMade_isThere : Nat) (a_handMade_boxes : Nat) (k_handMade_isThere : ClassId) (k_handMade_boxes : ClassId) (sz : Nat) (p1 : Int32) (p2 : Int64) (p4 : Int64) (p6 : Int64) (p8 : Int64) (v_this_familyCount : Int32) (v_handMade_count : Int32) (v_handMade_isThere : Nat → Int32) (v_handMade_boxes : Nat → Int64) (post : Int32 → Int32 → (Nat → Int32) → (Nat → Int64) → Prop) (h : P_F_hand_o p1 p2 p4 p6 p8 v_handMade_count v_handMade_isThere v_handMade_boxes post) : zMi l yF_hand_o wsF_hand_o { frames := 1, cells := 0, slots := 0, locals := 31 } (dC, dI) ad [.ref a_this, .int p1, .long p2, .long p4, .long p6, .long p8] (w_F_hand_o ad a_this a_reader a_families a_handMade a_maker a_maker_print a_handMade_isThere a_handMade_boxes k_handMade_isThere k_handMade_boxes v_this_familyCount v_handMade_count v_handMade_isThere v_handMade_boxes) [(k_handMade_isThere, .boolean), (k_handMade_boxes, .long)] sz (fun (r : Int32) (u : Int32 × (Nat → Int32) × (Nat → Int64)) => post r u.1 u.2.1 u.2.2) (fun (u : Int32 × (Nat → Int32) × (Nat → Int64)) => (w_F_hand_o ad a_this a_reader a_families a_handMade a_maker a_maker_print a_handMade_isThere a_handMade_boxes k_handMade_isThere k_handMade_boxes v_this_familyCount u.1 u.2.1 u.2.2)) 0 0 := by
  refine Met.ofW (cc := cF_hand_o) (maxL := 10) (ret := (some .boolean)) (by decide +kernel) rfl ?_
  intro p e s m args below meth c s₁ B hml hv
  obtain ⟨rfl, hsz, hP, hK, hD0, hE⟩ := hv
  have hx := B.exec
  have hb := B.bytes
  have hr := B.returns
  have hts0 := atoms_spec (ws := wsF_hand_o) B.pre
  have hts := fun w h => hts0 w (List.mem_cons_of_mem _ h)
  have hown : s.vm.findClass RF = some m.cls := findClass_of_methodNamed B.named
  have hlocks := B.notSynchronized
  subst hsz
  have hD := hD0.self (sz := s.heap.size)
  generalize hAe : va_A (w_F_hand_o ad a_this a_reader a_families a_handMade a_maker a_maker_print a_handMade_isThere a_handMade_boxes k_handMade_isThere k_handMade_boxes v_this_familyCount v_handMade_count v_handMade_isThere v_handMade_boxes) s.heap.size = A at hD hE ⊢
  have hA : ∀ q : Nat, s.heap.size ≤ q → A q := fun q h => by rw [← hAe]; exact Or.inr h
  have C0 := zC.mk hx hb hr hml hown hts hlocks hA
  have hS : va_S A s.heap s.heap [] := va_S.rf
  have hl := lv_entry ([.ref a_this, .int p1, .long p2, .long p4, .long p6, .long p8]) (n := 10) (Nat.le_of_ble_eq_true rfl)
  rw [lg_entry_eq]
  generalize (lg_sl ([.ref a_this, .int p1, .long p2, .long p4, .long p6, .long p8]) ++ List.replicate (10 - (lg_sl ([.ref a_this, .int p1, .long p2, .long p4, .long p6, .long p8])).length) Slot.unset).toArray = ls at hl ⊢
  have hl : lv_has ls 10 [(0, .ref a_this), (1, .int p1), (2, .long p2), (4, .long p4), (6, .long p6), (8, .long p8)] := hl
  unfold P_F_hand_o at h
  refine lv_iload_n hx hb dF_hand_o_0 rfl (lv_at hl 1 rfl) ?_
  refine lv_iconst (v := 1) hx hb dF_hand_o_1 (by decide) ?_
  refine lv_icmp_lt (tgt := 11) hx hb dF_hand_o_2 (by decide) ?_ ?_
  · intro c1
    replace h := h.1 c1
    exact w_F_hand_o_11 l C0 hE a_this a_reader a_families a_handMade a_maker a_maker_print a_handMade_isThere a_handMade_boxes k_handMade_isThere k_handMade_boxes p1 p2 p4 p6 p8 v_this_familyCount v_handMade_count v_handMade_isThere v_handMade_boxes post hK _ _ h hP hD hS ls (lv_sub hl [] rfl)
  · intro c1
    replace h := h.2 c1
    refine lv_iload_n hx hb dF_hand_o_5 rfl (lv_at hl 1 rfl) ?_
    refine lv_bipush (v := 80) hx hb dF_hand_o_6 (by decide) ?_
    refine lv_icmp_le (tgt := 21) hx hb dF_hand_o_8 (by decide) ?_ ?_
    · intro c2
      replace h := h.1 c2
      refine lv_lload_n hx hb dF_hand_o_21 rfl (lv_at hl 2 rfl) ?_
      refine lv_ldc2 (own := RF) (index := 165) (v := (-100000000)) hx hb hown (hts _ zw_1020) dF_hand_o_22 ?_
      refine lv_ldc2 (own := RF) (index := 75) (v := 100000000) hx hb hown (hts _ zw_655) dF_hand_o_25 ?_
      refine zcall_i hP hD hS hA [] [0, 1, 2, 3] (va_runS (As := [.long p2, .long (-100000000), .long 100000000]) (rest := []) ⟨hx, hb, hml, hown, hts⟩ (c_F_isWithin l dC dI ad _ p2 (-100000000) 100000000 _ h) ⟨callB_of 3 hts (zgood zc_F_isWithin) rfl rfl rfl (hts _ zw_95) (hts _ zw_656) (by decide +kernel) ⟨Nat.le_of_ble_eq_true rfl, Nat.le_of_ble_eq_true rfl⟩, (hts _ zw_657)⟩ (zpreS hE hK hP hD hS hA [] [] (by rfl) (by rfl) (by decide)) rfl rfl hl.1 rfl (lv_room (Nat.le_of_ble_eq_true rfl)) dF_hand_o_28 ⟨Nat.le_of_ble_eq_true rfl, Nat.le_of_ble_eq_true rfl⟩) (by rfl) (by rfl) (by decide) (by decide) (fun r3 u H locs h hP hD hS => ?_)
      try dsimp only at h
      have hP := hP.sub (ws' := (w_F_hand_o ad a_this a_reader a_families a_handMade a_maker a_maker_print a_handMade_isThere a_handMade_boxes k_handMade_isThere k_handMade_boxes v_this_familyCount v_handMade_count v_handMade_isThere v_handMade_boxes)) [0, 1, 2, 3] rfl
      have hD := hD.sub (ws' := (w_F_hand_o ad a_this a_reader a_families a_handMade a_maker a_maker_print a_handMade_isThere a_handMade_boxes k_handMade_isThere k_handMade_boxes v_this_familyCount v_handMade_count v_handMade_isThere v_handMade_boxes)) [0, 1, 2, 3] (by decide) rfl
      refine lv_if_eq (tgt := 48) hx hb dF_hand_o_31 (by decide) ?_ ?_
      · intro c4
        replace h := h.1 c4
        exact w_F_hand_o_48 l C0 hE a_this a_reader a_families a_handMade a_maker a_maker_print a_handMade_isThere a_handMade_boxes k_handMade_isThere k_handMade_boxes p1 p2 p4 p6 p8 v_this_familyCount v_handMade_count v_handMade_isThere v_handMade_boxes post hK _ _ h hP hD hS ls (lv_sub hl [] rfl)
      · intro c4
        replace h := h.2 c4
        refine lv_lload hx hb dF_hand_o_34 (lv_at hl 3 rfl) ?_
        refine lv_ldc2 (own := RF) (index := 165) (v := (-100000000)) hx hb hown (hts _ zw_1020) dF_hand_o_36 ?_
        refine lv_ldc2 (own := RF) (index := 75) (v := 100000000) hx hb hown (hts _ zw_655) dF_hand_o_39 ?_
        refine zcall_i hP hD hS hA [] [0, 1, 2, 3] (va_runS (As := [.long p4, .long (-100000000), .long 100000000]) (rest := []) ⟨hx, hb, hml, hown, hts⟩ (c_F_isWithin l dC dI ad _ p4 (-100000000) 100000000 _ h) ⟨callB_of 3 hts (zgood zc_F_isWithin) rfl rfl rfl (hts _ zw_95) (hts _ zw_656) (by decide +kernel) ⟨Nat.le_of_ble_eq_true rfl, Nat.le_of_ble_eq_true rfl⟩, (hts _ zw_657)⟩ (zpreS hE hK hP hD hS hA [] [] (by rfl) (by rfl) (by decide)) rfl rfl hl.1 rfl (lv_room (Nat.le_of_ble_eq_true rfl)) dF_hand_o_42 ⟨Nat.le_of_ble_eq_true rfl, Nat.le_of_ble_eq_true rfl⟩) (by rfl) (by rfl) (by decide) (by decide) (fun r5 u H locs h hP hD hS => ?_)
        try dsimp only at h
        have hP := hP.sub (ws' := (w_F_hand_o ad a_this a_reader a_families a_handMade a_maker a_maker_print a_handMade_isThere a_handMade_boxes k_handMade_isThere k_handMade_boxes v_this_familyCount v_handMade_count v_handMade_isThere v_handMade_boxes)) [0, 1, 2, 3] rfl
        have hD := hD.sub (ws' := (w_F_hand_o ad a_this a_reader a_families a_handMade a_maker a_maker_print a_handMade_isThere a_handMade_boxes k_handMade_isThere k_handMade_boxes v_this_familyCount v_handMade_count v_handMade_isThere v_handMade_boxes)) [0, 1, 2, 3] (by decide) rfl
        refine lv_if_ne (tgt := 58) hx hb dF_hand_o_45 (by decide) ?_ ?_
        · intro c6
          replace h := h.1 c6
          refine lv_lload hx hb dF_hand_o_58 (lv_at hl 4 rfl) ?_
          refine lv_lconst (v := 1) hx hb dF_hand_o_60 (by decide) ?_
          refine lv_ldc2 (own := RF) (index := 75) (v := 100000000) hx hb hown (hts _ zw_655) dF_hand_o_61 ?_
          refine zcall_i hP hD hS hA [] [0, 1, 2, 3] (va_runS (As := [.long p6, .long 1, .long 100000000]) (rest := []) ⟨hx, hb, hml, hown, hts⟩ (c_F_isWithin l dC dI ad _ p6 1 100000000 _ h) ⟨callB_of 3 hts (zgood zc_F_isWithin) rfl rfl rfl (hts _ zw_95) (hts _ zw_656) (by decide +kernel) ⟨Nat.le_of_ble_eq_true rfl, Nat.le_of_ble_eq_true rfl⟩, (hts _ zw_657)⟩ (zpreS hE hK hP hD hS hA [] [] (by rfl) (by rfl) (by decide)) rfl rfl hl.1 rfl (lv_room (Nat.le_of_ble_eq_true rfl)) dF_hand_o_64 ⟨Nat.le_of_ble_eq_true rfl, Nat.le_of_ble_eq_true rfl⟩) (by rfl) (by rfl) (by decide) (by decide) (fun r7 u H locs h hP hD hS => ?_)
          try dsimp only at h
          have hP := hP.sub (ws' := (w_F_hand_o ad a_this a_reader a_families a_handMade a_maker a_maker_print a_handMade_isThere a_handMade_boxes k_handMade_isThere k_handMade_boxes v_this_familyCount v_handMade_count v_handMade_isThere v_handMade_boxes)) [0, 1, 2, 3] rfl
          have hD := hD.sub (ws' := (w_F_hand_o ad a_this a_reader a_families a_handMade a_maker a_maker_print a_handMade_isThere a_handMade_boxes k_handMade_isThere k_handMade_boxes v_this_familyCount v_handMade_count v_handMade_isThere v_handMade_boxes)) [0, 1, 2, 3] (by decide) rfl
          refine lv_if_eq (tgt := 82) hx hb dF_hand_o_67 (by decide) ?_ ?_
          · intro c8
            replace h := h.1 c8
            exact w_F_hand_o_82 l C0 hE a_this a_reader a_families a_handMade a_maker a_maker_print a_handMade_isThere a_handMade_boxes k_handMade_isThere k_handMade_boxes p1 p2 p4 p6 p8 v_this_familyCount v_handMade_count v_handMade_isThere v_handMade_boxes post hK _ _ h hP hD hS ls (lv_sub hl [] rfl)
          · intro c8
            replace h := h.2 c8
            refine lv_lload hx hb dF_hand_o_70 (lv_at hl 5 rfl) ?_
            refine lv_lconst (v := 1) hx hb dF_hand_o_72 (by decide) ?_
            refine lv_ldc2 (own := RF) (index := 75) (v := 100000000) hx hb hown (hts _ zw_655) dF_hand_o_73 ?_
            refine zcall_i hP hD hS hA [] [0, 1, 2, 3] (va_runS (As := [.long p8, .long 1, .long 100000000]) (rest := []) ⟨hx, hb, hml, hown, hts⟩ (c_F_isWithin l dC dI ad _ p8 1 100000000 _ h) ⟨callB_of 3 hts (zgood zc_F_isWithin) rfl rfl rfl (hts _ zw_95) (hts _ zw_656) (by decide +kernel) ⟨Nat.le_of_ble_eq_true rfl, Nat.le_of_ble_eq_true rfl⟩, (hts _ zw_657)⟩ (zpreS hE hK hP hD hS hA [] [] (by rfl) (by rfl) (by decide)) rfl rfl hl.1 rfl (lv_room (Nat.le_of_ble_eq_true rfl)) dF_hand_o_76 ⟨Nat.le_of_ble_eq_true rfl, Nat.le_of_ble_eq_true rfl⟩) (by rfl) (by rfl) (by decide) (by decide) (fun r9 u H locs h hP hD hS => ?_)
            try dsimp only at h
            have hP := hP.sub (ws' := (w_F_hand_o ad a_this a_reader a_families a_handMade a_maker a_maker_print a_handMade_isThere a_handMade_boxes k_handMade_isThere k_handMade_boxes v_this_familyCount v_handMade_count v_handMade_isThere v_handMade_boxes)) [0, 1, 2, 3] rfl
            have hD := hD.sub (ws' := (w_F_hand_o ad a_this a_reader a_families a_handMade a_maker a_maker_print a_handMade_isThere a_handMade_boxes k_handMade_isThere k_handMade_boxes v_this_familyCount v_handMade_count v_handMade_isThere v_handMade_boxes)) [0, 1, 2, 3] (by decide) rfl
            refine lv_if_ne (tgt := 92) hx hb dF_hand_o_79 (by decide) ?_ ?_
            · intro c10
              replace h := h.1 c10
              refine lv_aload_n hx hb dF_hand_o_92 rfl (lv_at hl 0 rfl) ?_
              refine va_get (D := (dC, dI)) (ci := 9) (v := .ref a_handMade) (C := RF) (T := TF) (N := 6) hx hb hts inZ_F hown hK hP 0 rfl rfl 3 (by decide) (hts _ zw_375) (fun _ h9 => h9) rfl dF_hand_o_93 ?_
              refine lv_iload_n hx hb dF_hand_o_96 rfl (lv_at hl 1 rfl) ?_
              refine lv_lload_n hx hb dF_hand_o_97 rfl (lv_at hl 2 rfl) ?_
              refine lv_lload hx hb dF_hand_o_98 (lv_at hl 3 rfl) ?_
              refine lv_lload hx hb dF_hand_o_100 (lv_at hl 4 rfl) ?_
              refine lv_lload hx hb dF_hand_o_102 (lv_at hl 5 rfl) ?_
              refine zcall_i hP hD hS hA [1, 2, 3] [0] (va_runVN (As := [.int p1, .long p2, .long p4, .long p6, .long p8]) (rest := []) ⟨hx, hb, hml, hown, hts⟩ (c_Hm_put l dC dI ad a_handMade a_handMade_isThere a_handMade_boxes k_handMade_isThere k_handMade_boxes _ p1 p2 p4 p6 p8 v_handMade_count v_handMade_isThere v_handMade_boxes _ h) ⟨va_cnB 5 hts (zgood zc_Hm_put) rfl rfl rfl (hE.nw _ zn_1023) (hts _ zw_98) (by decide +kernel) ⟨Nat.le_of_ble_eq_true rfl, Nat.le_of_ble_eq_true rfl⟩, (hts _ zw_1025), (hts _ zw_67)⟩ (zpreV hE hK hP hD hS hA [1, 2, 3] [0, 1] (by rfl) (by rfl) (by decide) (ci := 8) (q0 := 1) rfl (by rfl)) rfl rfl hl.1 rfl (lv_room (Nat.le_of_ble_eq_true rfl)) dF_hand_o_104 ⟨Nat.le_of_ble_eq_true rfl, Nat.le_of_ble_eq_true rfl⟩) (by rfl) (by rfl) (by decide) (by decide) (fun r14 u H locs h hP hD hS => ?_)
              obtain ⟨u11, u12, u13⟩ := u
              try dsimp only at h
              have hP := hP.sub (ws' := (w_F_hand_o ad a_this a_reader a_families a_handMade a_maker a_maker_print a_handMade_isThere a_handMade_boxes k_handMade_isThere k_handMade_boxes v_this_familyCount u11 u12 u13)) [0, 1, 2, 3] rfl
              have hD := hD.sub (ws' := (w_F_hand_o ad a_this a_reader a_families a_handMade a_maker a_maker_print a_handMade_isThere a_handMade_boxes k_handMade_isThere k_handMade_boxes v_this_familyCount u11 u12 u13)) [0, 1, 2, 3] (by decide) rfl
              obtain ⟨hn15, h⟩ := h
              exact W.zret (v := r14) hx hb hr hn15 (fun t ht hW => ⟨⟨r14, (u11, u12, u13), rfl, h, by rw [ht]; exact hP, hD⟩, hS.F ht⟩) hS.2.2 dF_hand_o_107
            · intro c10
              replace h := h.2 c10
              exact w_F_hand_o_82 l C0 hE a_this a_reader a_families a_handMade a_maker a_maker_print a_handMade_isThere a_handMade_boxes k_handMade_isThere k_handMade_boxes p1 p2 p4 p6 p8 v_this_familyCount v_handMade_count v_handMade_isThere v_handMade_boxes post hK _ _ h hP hD hS ls (lv_sub hl [] rfl)
        · intro c6
          replace h := h.2 c6
          exact w_F_hand_o_48 l C0 hE a_this a_reader a_families a_handMade a_maker a_maker_print a_handMade_isThere a_handMade_boxes k_handMade_isThere k_handMade_boxes p1 p2 p4 p6 p8 v_this_familyCount v_handMade_count v_handMade_isThere v_handMade_boxes post hK _ _ h hP hD hS ls (lv_sub hl [] rfl)
    · intro c2
      replace h := h.2 c2
      exact w_F_hand_o_11 l C0 hE a_this a_reader a_families a_handMade a_maker a_maker_print a_handMade_isThere a_handMade_boxes k_handMade_isThere k_handMade_boxes p1 p2 p4 p6 p8 v_this_familyCount v_handMade_count v_handMade_isThere v_handMade_boxes post hK _ _ h hP hD hS ls (lv_sub hl [] rfl)
abbrev yF_hand_t : MethodName := ⟨"FootprintRules", "hand", "(IJJJJ)Z"⟩
abbrev cF_hand_t : ByteArray := prog_1_method_14_code
abbrev wsF_hand_t : List Cond := .code yF_hand_t cF_hand_t 10 (some .boolean) :: zT
set_option maxRecDepth 100000 in
theorem zc_F_hand_t : Cond.code yF_hand_t cF_hand_t 10 (some .boolean) ∈ zT := zm 1018 (by rfl) (by rfl)
theorem dF_hand_t_0 : decode cF_hand_t 0 = .ok (.iload_n 1, 1) := by decide +kernel
theorem dF_hand_t_1 : decode cF_hand_t 1 = .ok (.iconst 1, 1) := by decide +kernel
theorem dF_hand_t_2 : decode cF_hand_t 2 = .ok (.if_icmp .lt 9, 3) := by decide +kernel
theorem dF_hand_t_5 : decode cF_hand_t 5 = .ok (.iload_n 1, 1) := by decide +kernel
theorem dF_hand_t_6 : decode cF_hand_t 6 = .ok (.bipush 80, 2) := by decide +kernel
theorem dF_hand_t_8 : decode cF_hand_t 8 = .ok (.if_icmp .le 13, 3) := by decide +kernel
theorem dF_hand_t_11 : decode cF_hand_t 11 = .ok (.new 70, 3) := by decide +kernel
theorem dF_hand_t_14 : decode cF_hand_t 14 = .ok (.dup, 1) := by decide +kernel
theorem dF_hand_t_15 : decode cF_hand_t 15 = .ok (.ldc 163, 2) := by decide +kernel
theorem dF_hand_t_17 : decode cF_hand_t 17 = .ok (.invokespecial 74, 3) := by decide +kernel
theorem dF_hand_t_20 : decode cF_hand_t 20 = .ok (.athrow, 1) := by decide +kernel
theorem dF_hand_t_21 : decode cF_hand_t 21 = .ok (.lload_n 2, 1) := by decide +kernel
theorem dF_hand_t_22 : decode cF_hand_t 22 = .ok (.ldc2_w 165, 3) := by decide +kernel
theorem dF_hand_t_25 : decode cF_hand_t 25 = .ok (.ldc2_w 75, 3) := by decide +kernel
theorem dF_hand_t_28 : decode cF_hand_t 28 = .ok (.invokestatic 77, 3) := by decide +kernel
theorem dF_hand_t_31 : decode cF_hand_t 31 = .ok (.ifCond .eq 17, 3) := by decide +kernel
theorem dF_hand_t_34 : decode cF_hand_t 34 = .ok (.lload 4, 2) := by decide +kernel
theorem dF_hand_t_36 : decode cF_hand_t 36 = .ok (.ldc2_w 165, 3) := by decide +kernel
theorem dF_hand_t_39 : decode cF_hand_t 39 = .ok (.ldc2_w 75, 3) := by decide +kernel
theorem dF_hand_t_42 : decode cF_hand_t 42 = .ok (.invokestatic 77, 3) := by decide +kernel
theorem dF_hand_t_45 : decode cF_hand_t 45 = .ok (.ifCond .ne 13, 3) := by decide +kernel
theorem dF_hand_t_48 : decode cF_hand_t 48 = .ok (.new 81, 3) := by decide +kernel
theorem dF_hand_t_51 : decode cF_hand_t 51 = .ok (.dup, 1) := by decide +kernel
theorem dF_hand_t_52 : decode cF_hand_t 52 = .ok (.ldc 167, 2) := by decide +kernel
theorem dF_hand_t_54 : decode cF_hand_t 54 = .ok (.invokespecial 85, 3) := by decide +kernel
theorem dF_hand_t_57 : decode cF_hand_t 57 = .ok (.athrow, 1) := by decide +kernel
theorem dF_hand_t_58 : decode cF_hand_t 58 = .ok (.lload 6, 2) := by decide +kernel
theorem dF_hand_t_60 : decode cF_hand_t 60 = .ok (.lconst 1, 1) := by decide +kernel
theorem dF_hand_t_61 : decode cF_hand_t 61 = .ok (.ldc2_w 75, 3) := by decide +kernel
theorem dF_hand_t_64 : decode cF_hand_t 64 = .ok (.invokestatic 77, 3) := by decide +kernel
theorem dF_hand_t_67 : decode cF_hand_t 67 = .ok (.ifCond .eq 15, 3) := by decide +kernel
theorem dF_hand_t_70 : decode cF_hand_t 70 = .ok (.lload 8, 2) := by decide +kernel
theorem dF_hand_t_72 : decode cF_hand_t 72 = .ok (.lconst 1, 1) := by decide +kernel
theorem dF_hand_t_73 : decode cF_hand_t 73 = .ok (.ldc2_w 75, 3) := by decide +kernel
theorem dF_hand_t_76 : decode cF_hand_t 76 = .ok (.invokestatic 77, 3) := by decide +kernel
theorem dF_hand_t_79 : decode cF_hand_t 79 = .ok (.ifCond .ne 13, 3) := by decide +kernel
theorem dF_hand_t_82 : decode cF_hand_t 82 = .ok (.new 81, 3) := by decide +kernel
theorem dF_hand_t_85 : decode cF_hand_t 85 = .ok (.dup, 1) := by decide +kernel
theorem dF_hand_t_86 : decode cF_hand_t 86 = .ok (.ldc 169, 2) := by decide +kernel
theorem dF_hand_t_88 : decode cF_hand_t 88 = .ok (.invokespecial 85, 3) := by decide +kernel
theorem dF_hand_t_91 : decode cF_hand_t 91 = .ok (.athrow, 1) := by decide +kernel
-- FootprintRules.hand(IJJJJ)Z
abbrev w_F_hand_t (ad : Nat → Nat → Nat) (a_this : Nat)   : va_W := []
def P_F_hand_t_11  (post : String → Prop)  : Prop := post "java/lang/IndexOutOfBoundsException"
set_option maxHeartbeats 4000000 in
set_option maxRecDepth 100000 in
theorem w_F_hand_t_11 (l : Launch) {p : Program} {e : Env} {s : State} {m : MethodId} {args : Array Value} {below : List Frame} {meth : Method} {c : Code} {dC : Nat → ClassId} {dI : Nat → Nat → Nat} {ad : Nat → Nat → Nat} {A : Nat → Prop} (hlt : l.stackTraces = false) (hnx : ∀ (k : Nat), ∀ x ∈ c.exceptionTable.toList, covers x k = false) (C0 : zC p s m args meth c cF_hand_t 10 RF zT (some .boolean) A) (hE : zE ad A s) (a_this : Nat)  (p1 : Int32) (p2 : Int64) (p4 : Int64) (p6 : Int64) (p8 : Int64) (post : String → Prop) (hK : va_K (dC, dI) vwCl [] s) : ∀  (H : Heap) (locs : List Loc), P_F_hand_t_11 post → va_P (dC, dI) vwCl (w_F_hand_t ad a_this) H → va_D A (w_F_hand_t ad a_this) → va_S A s.heap H locs → ∀ ls : Array Slot, lv_has ls 10 [] → W p l e (headSpec wsF_hand_t { frames := 6, cells := 1, slots := 6, locals := 91 }).room s m args below meth c H locs 0 0 (zQT below (dC, dI) A s (fun (E : String) (u : Unit) => post E) (fun (u : Unit) => (w_F_hand_t ad a_this)) 1 6) (F0 m 11 ls []) := by
  obtain ⟨hx, hb, hr, hml, hown, hts, hlocks, hA⟩ := id C0
  intro  H locs h hP hD hS ls hl
  unfold P_F_hand_t_11 at h
  exact zt_W (u := (())) (own := RF) (cls := "java/lang/IndexOutOfBoundsException") (text := "no such number") (names := ["java/lang/RuntimeException", "java/lang/Exception"]) (ik := 70) (is := 163) (ic := 74) hx hb hlt hown (by decide +kernel) (by decide +kernel) zat_IndexOutOfBoundsException hts hE (hts _ zw_639) (hts _ zw_117) (hE.ldc ("FootprintRules", 163, "no such number", 11) (by decide)) (hl.1.trans hml.symm) dF_hand_t_11 dF_hand_t_14 dF_hand_t_15 dF_hand_t_17 dF_hand_t_20 hnx (by decide) (by decide) (by decide) (by decide) hlocks h hP hD hS
def P_F_hand_t_48  (post : String → Prop)  : Prop := post "java/lang/IllegalArgumentException"
set_option maxHeartbeats 4000000 in
set_option maxRecDepth 100000 in
theorem w_F_hand_t_48 (l : Launch) {p : Program} {e : Env} {s : State} {m : MethodId} {args : Array Value} {below : List Frame} {meth : Method} {c : Code} {dC : Nat → ClassId} {dI : Nat → Nat → Nat} {ad : Nat → Nat → Nat} {A : Nat → Prop} (hlt : l.stackTraces = false) (hnx : ∀ (k : Nat), ∀ x ∈ c.exceptionTable.toList, covers x k = false) (C0 : zC p s m args meth c cF_hand_t 10 RF zT (some .boolean) A) (hE : zE ad A s) (a_this : Nat)  (p1 : Int32) (p2 : Int64) (p4 : Int64) (p6 : Int64) (p8 : Int64) (post : String → Prop) (hK : va_K (dC, dI) vwCl [] s) : ∀  (H : Heap) (locs : List Loc), P_F_hand_t_48 post → va_P (dC, dI) vwCl (w_F_hand_t ad a_this) H → va_D A (w_F_hand_t ad a_this) → va_S A s.heap H locs → ∀ ls : Array Slot, lv_has ls 10 [] → W p l e (headSpec wsF_hand_t { frames := 6, cells := 1, slots := 6, locals := 91 }).room s m args below meth c H locs 0 0 (zQT below (dC, dI) A s (fun (E : String) (u : Unit) => post E) (fun (u : Unit) => (w_F_hand_t ad a_this)) 1 6) (F0 m 48 ls []) := by
  obtain ⟨hx, hb, hr, hml, hown, hts, hlocks, hA⟩ := id C0
  intro  H locs h hP hD hS ls hl
  unfold P_F_hand_t_48 at h
  exact zt_W (u := (())) (own := RF) (cls := "java/lang/IllegalArgumentException") (text := "a side is out of range") (names := ["java/lang/RuntimeException", "java/lang/Exception"]) (ik := 81) (is := 167) (ic := 85) hx hb hlt hown (by decide +kernel) (by decide +kernel) zat_IllegalArgumentException hts hE (hts _ zw_659) (hts _ zw_118) (hE.ldc ("FootprintRules", 167, "a side is out of range", 12) (by decide)) (hl.1.trans hml.symm) dF_hand_t_48 dF_hand_t_51 dF_hand_t_52 dF_hand_t_54 dF_hand_t_57 hnx (by decide) (by decide) (by decide) (by decide) hlocks h hP hD hS
def P_F_hand_t_82  (post : String → Prop)  : Prop := post "java/lang/IllegalArgumentException"
set_option maxHeartbeats 4000000 in
set_option maxRecDepth 100000 in
theorem w_F_hand_t_82 (l : Launch) {p : Program} {e : Env} {s : State} {m : MethodId} {args : Array Value} {below : List Frame} {meth : Method} {c : Code} {dC : Nat → ClassId} {dI : Nat → Nat → Nat} {ad : Nat → Nat → Nat} {A : Nat → Prop} (hlt : l.stackTraces = false) (hnx : ∀ (k : Nat), ∀ x ∈ c.exceptionTable.toList, covers x k = false) (C0 : zC p s m args meth c cF_hand_t 10 RF zT (some .boolean) A) (hE : zE ad A s) (a_this : Nat)  (p1 : Int32) (p2 : Int64) (p4 : Int64) (p6 : Int64) (p8 : Int64) (post : String → Prop) (hK : va_K (dC, dI) vwCl [] s) : ∀  (H : Heap) (locs : List Loc), P_F_hand_t_82 post → va_P (dC, dI) vwCl (w_F_hand_t ad a_this) H → va_D A (w_F_hand_t ad a_this) → va_S A s.heap H locs → ∀ ls : Array Slot, lv_has ls 10 [] → W p l e (headSpec wsF_hand_t { frames := 6, cells := 1, slots := 6, locals := 91 }).room s m args below meth c H locs 0 0 (zQT below (dC, dI) A s (fun (E : String) (u : Unit) => post E) (fun (u : Unit) => (w_F_hand_t ad a_this)) 1 6) (F0 m 82 ls []) := by
  obtain ⟨hx, hb, hr, hml, hown, hts, hlocks, hA⟩ := id C0
  intro  H locs h hP hD hS ls hl
  unfold P_F_hand_t_82 at h
  exact zt_W (u := (())) (own := RF) (cls := "java/lang/IllegalArgumentException") (text := "a size is out of range") (names := ["java/lang/RuntimeException", "java/lang/Exception"]) (ik := 81) (is := 169) (ic := 85) hx hb hlt hown (by decide +kernel) (by decide +kernel) zat_IllegalArgumentException hts hE (hts _ zw_659) (hts _ zw_118) (hE.ldc ("FootprintRules", 169, "a size is out of range", 13) (by decide)) (hl.1.trans hml.symm) dF_hand_t_82 dF_hand_t_85 dF_hand_t_86 dF_hand_t_88 dF_hand_t_91 hnx (by decide) (by decide) (by decide) (by decide) hlocks h hP hD hS
def P_F_hand_t (p1 : Int32) (p2 : Int64) (p4 : Int64) (p6 : Int64) (p8 : Int64) (post : String → Prop) : Prop := ((p1 < 1 → P_F_hand_t_11 post) ∧ (¬ p1 < 1 → ((p1 ≤ 80 → P_F_isWithin p2 (-100000000) 100000000 (fun (r3 : Int32) => ((r3 = 0 → P_F_hand_t_48 post) ∧ (¬ r3 = 0 → P_F_isWithin p4 (-100000000) 100000000 (fun (r5 : Int32) => ((¬ r5 = 0 → P_F_isWithin p6 1 100000000 (fun (r7 : Int32) => ((r7 = 0 → P_F_hand_t_82 post) ∧ (¬ r7 = 0 → P_F_isWithin p8 1 100000000 (fun (r9 : Int32) => ((¬ r9 = 0 → False) ∧ (r9 = 0 → P_F_hand_t_82 post))))))) ∧ (r5 = 0 → P_F_hand_t_48 post))))))) ∧ (¬ p1 ≤ 80 → P_F_hand_t_11 post))))
set_option maxHeartbeats 4000000 in
set_option maxRecDepth 100000 in
theorem c_F_hand_t (l : Launch) (hlt : l.stackTraces = false) (dC : Nat → ClassId) (dI : Nat → Nat → Nat) (ad : Nat → Nat → Nat) (a_this : Nat)  (sz : Nat) (p1 : Int32) (p2 : Int64) (p4 : Int64) (p6 : Int64) (p8 : Int64) (post : String → Prop) (h : P_F_hand_t p1 p2 p4 p6 p8 post) : zMT l yF_hand_t wsF_hand_t { frames := 6, cells := 1, slots := 6, locals := 91 } (dC, dI) ad [.ref a_this, .int p1, .long p2, .long p4, .long p6, .long p8] (w_F_hand_t ad a_this) [] sz (fun (E : String) (u : Unit) => post E) (fun (u : Unit) => (w_F_hand_t ad a_this)) 1 6 := by
  refine zMT.ofW (cc := cF_hand_t) (maxL := 10) (ret := (some .boolean)) (by decide +kernel) rfl ?_
  intro p e s m args below meth c s₁ B hml hnx hv
  obtain ⟨rfl, hsz, hP, hK, hD0, hE⟩ := hv
  have hx := B.exec
  have hb := B.bytes
  have hr := B.returns
  have hts0 := atoms_spec (ws := wsF_hand_t) B.pre
  have hts := fun w h => hts0 w (List.mem_cons_of_mem _ h)
  have hown : s.vm.findClass RF = some m.cls := findClass_of_methodNamed B.named
  have hlocks := B.notSynchronized
  subst hsz
  have hD := hD0.self (sz := s.heap.size)
  generalize hAe : va_A (w_F_hand_t ad a_this) s.heap.size = A at hD hE ⊢
  have hA : ∀ q : Nat, s.heap.size ≤ q → A q := fun q h => by rw [← hAe]; exact Or.inr h
  have C0 := zC.mk hx hb hr hml hown hts hlocks hA
  have hS : va_S A s.heap s.heap [] := va_S.rf
  have hl := lv_entry ([.ref a_this, .int p1, .long p2, .long p4, .long p6, .long p8]) (n := 10) (Nat.le_of_ble_eq_true rfl)
  rw [lg_entry_eq]
  generalize (lg_sl ([.ref a_this, .int p1, .long p2, .long p4, .long p6, .long p8]) ++ List.replicate (10 - (lg_sl ([.ref a_this, .int p1, .long p2, .long p4, .long p6, .long p8])).length) Slot.unset).toArray = ls at hl ⊢
  have hl : lv_has ls 10 [(0, .ref a_this), (1, .int p1), (2, .long p2), (4, .long p4), (6, .long p6), (8, .long p8)] := hl
  unfold P_F_hand_t at h
  refine lv_iload_n hx hb dF_hand_t_0 rfl (lv_at hl 1 rfl) ?_
  refine lv_iconst (v := 1) hx hb dF_hand_t_1 (by decide) ?_
  refine lv_icmp_lt (tgt := 11) hx hb dF_hand_t_2 (by decide) ?_ ?_
  · intro c1
    replace h := h.1 c1
    exact w_F_hand_t_11 l hlt hnx C0 hE a_this p1 p2 p4 p6 p8 post hK _ _ h hP hD hS ls (lv_sub hl [] rfl)
  · intro c1
    replace h := h.2 c1
    refine lv_iload_n hx hb dF_hand_t_5 rfl (lv_at hl 1 rfl) ?_
    refine lv_bipush (v := 80) hx hb dF_hand_t_6 (by decide) ?_
    refine lv_icmp_le (tgt := 21) hx hb dF_hand_t_8 (by decide) ?_ ?_
    · intro c2
      replace h := h.1 c2
      refine lv_lload_n hx hb dF_hand_t_21 rfl (lv_at hl 2 rfl) ?_
      refine lv_ldc2 (own := RF) (index := 165) (v := (-100000000)) hx hb hown (hts _ zw_1020) dF_hand_t_22 ?_
      refine lv_ldc2 (own := RF) (index := 75) (v := 100000000) hx hb hown (hts _ zw_655) dF_hand_t_25 ?_
      refine zcall_i hP hD hS hA [] [] (va_runS (As := [.long p2, .long (-100000000), .long 100000000]) (rest := []) ⟨hx, hb, hml, hown, hts⟩ (c_F_isWithin l dC dI ad _ p2 (-100000000) 100000000 _ h) ⟨callB_of 3 hts (zgood zc_F_isWithin) rfl rfl rfl (hts _ zw_95) (hts _ zw_656) (by decide +kernel) ⟨Nat.le_of_ble_eq_true rfl, Nat.le_of_ble_eq_true rfl⟩, (hts _ zw_657)⟩ (zpreS hE hK hP hD hS hA [] [] (by rfl) (by rfl) (by decide)) rfl rfl hl.1 rfl (lv_room (Nat.le_of_ble_eq_true rfl)) dF_hand_t_28 ⟨Nat.le_of_ble_eq_true rfl, Nat.le_of_ble_eq_true rfl⟩) (by rfl) (by rfl) (by decide) (by decide) (fun r3 u H locs h hP hD hS => ?_)
      try dsimp only at h
      have hP := hP.sub (ws' := (w_F_hand_t ad a_this)) [] rfl
      have hD := hD.sub (ws' := (w_F_hand_t ad a_this)) [] (by decide) rfl
      refine lv_if_eq (tgt := 48) hx hb dF_hand_t_31 (by decide) ?_ ?_
      · intro c4
        replace h := h.1 c4
        exact w_F_hand_t_48 l hlt hnx C0 hE a_this p1 p2 p4 p6 p8 post hK _ _ h hP hD hS ls (lv_sub hl [] rfl)
      · intro c4
        replace h := h.2 c4
        refine lv_lload hx hb dF_hand_t_34 (lv_at hl 3 rfl) ?_
        refine lv_ldc2 (own := RF) (index := 165) (v := (-100000000)) hx hb hown (hts _ zw_1020) dF_hand_t_36 ?_
        refine lv_ldc2 (own := RF) (index := 75) (v := 100000000) hx hb hown (hts _ zw_655) dF_hand_t_39 ?_
        refine zcall_i hP hD hS hA [] [] (va_runS (As := [.long p4, .long (-100000000), .long 100000000]) (rest := []) ⟨hx, hb, hml, hown, hts⟩ (c_F_isWithin l dC dI ad _ p4 (-100000000) 100000000 _ h) ⟨callB_of 3 hts (zgood zc_F_isWithin) rfl rfl rfl (hts _ zw_95) (hts _ zw_656) (by decide +kernel) ⟨Nat.le_of_ble_eq_true rfl, Nat.le_of_ble_eq_true rfl⟩, (hts _ zw_657)⟩ (zpreS hE hK hP hD hS hA [] [] (by rfl) (by rfl) (by decide)) rfl rfl hl.1 rfl (lv_room (Nat.le_of_ble_eq_true rfl)) dF_hand_t_42 ⟨Nat.le_of_ble_eq_true rfl, Nat.le_of_ble_eq_true rfl⟩) (by rfl) (by rfl) (by decide) (by decide) (fun r5 u H locs h hP hD hS => ?_)
        try dsimp only at h
        have hP := hP.sub (ws' := (w_F_hand_t ad a_this)) [] rfl
        have hD := hD.sub (ws' := (w_F_hand_t ad a_this)) [] (by decide) rfl
        refine lv_if_ne (tgt := 58) hx hb dF_hand_t_45 (by decide) ?_ ?_
        · intro c6
          replace h := h.1 c6
          refine lv_lload hx hb dF_hand_t_58 (lv_at hl 4 rfl) ?_
          refine lv_lconst (v := 1) hx hb dF_hand_t_60 (by decide) ?_
          refine lv_ldc2 (own := RF) (index := 75) (v := 100000000) hx hb hown (hts _ zw_655) dF_hand_t_61 ?_
          refine zcall_i hP hD hS hA [] [] (va_runS (As := [.long p6, .long 1, .long 100000000]) (rest := []) ⟨hx, hb, hml, hown, hts⟩ (c_F_isWithin l dC dI ad _ p6 1 100000000 _ h) ⟨callB_of 3 hts (zgood zc_F_isWithin) rfl rfl rfl (hts _ zw_95) (hts _ zw_656) (by decide +kernel) ⟨Nat.le_of_ble_eq_true rfl, Nat.le_of_ble_eq_true rfl⟩, (hts _ zw_657)⟩ (zpreS hE hK hP hD hS hA [] [] (by rfl) (by rfl) (by decide)) rfl rfl hl.1 rfl (lv_room (Nat.le_of_ble_eq_true rfl)) dF_hand_t_64 ⟨Nat.le_of_ble_eq_true rfl, Nat.le_of_ble_eq_true rfl⟩) (by rfl) (by rfl) (by decide) (by decide) (fun r7 u H locs h hP hD hS => ?_)
          try dsimp only at h
          have hP := hP.sub (ws' := (w_F_hand_t ad a_this)) [] rfl
          have hD := hD.sub (ws' := (w_F_hand_t ad a_this)) [] (by decide) rfl
          refine lv_if_eq (tgt := 82) hx hb dF_hand_t_67 (by decide) ?_ ?_
          · intro c8
            replace h := h.1 c8
            exact w_F_hand_t_82 l hlt hnx C0 hE a_this p1 p2 p4 p6 p8 post hK _ _ h hP hD hS ls (lv_sub hl [] rfl)
          · intro c8
            replace h := h.2 c8
            refine lv_lload hx hb dF_hand_t_70 (lv_at hl 5 rfl) ?_
            refine lv_lconst (v := 1) hx hb dF_hand_t_72 (by decide) ?_
            refine lv_ldc2 (own := RF) (index := 75) (v := 100000000) hx hb hown (hts _ zw_655) dF_hand_t_73 ?_
            refine zcall_i hP hD hS hA [] [] (va_runS (As := [.long p8, .long 1, .long 100000000]) (rest := []) ⟨hx, hb, hml, hown, hts⟩ (c_F_isWithin l dC dI ad _ p8 1 100000000 _ h) ⟨callB_of 3 hts (zgood zc_F_isWithin) rfl rfl rfl (hts _ zw_95) (hts _ zw_656) (by decide +kernel) ⟨Nat.le_of_ble_eq_true rfl, Nat.le_of_ble_eq_true rfl⟩, (hts _ zw_657)⟩ (zpreS hE hK hP hD hS hA [] [] (by rfl) (by rfl) (by decide)) rfl rfl hl.1 rfl (lv_room (Nat.le_of_ble_eq_true rfl)) dF_hand_t_76 ⟨Nat.le_of_ble_eq_true rfl, Nat.le_of_ble_eq_true rfl⟩) (by rfl) (by rfl) (by decide) (by decide) (fun r9 u H locs h hP hD hS => ?_)
            try dsimp only at h
            have hP := hP.sub (ws' := (w_F_hand_t ad a_this)) [] rfl
            have hD := hD.sub (ws' := (w_F_hand_t ad a_this)) [] (by decide) rfl
            refine lv_if_ne (tgt := 92) hx hb dF_hand_t_79 (by decide) ?_ ?_
            · intro c10
              replace h := h.1 c10
              exact False.elim h
            · intro c10
              replace h := h.2 c10
              exact w_F_hand_t_82 l hlt hnx C0 hE a_this p1 p2 p4 p6 p8 post hK _ _ h hP hD hS ls (lv_sub hl [] rfl)
        · intro c6
          replace h := h.2 c6
          exact w_F_hand_t_48 l hlt hnx C0 hE a_this p1 p2 p4 p6 p8 post hK _ _ h hP hD hS ls (lv_sub hl [] rfl)
    · intro c2
      replace h := h.2 c2
      exact w_F_hand_t_11 l hlt hnx C0 hE a_this p1 p2 p4 p6 p8 post hK _ _ h hP hD hS ls (lv_sub hl [] rfl)
abbrev yF_text_o : MethodName := ⟨"FootprintRules", "text", "(I)I"⟩
abbrev cF_text_o : ByteArray := prog_1_method_15_code
abbrev wsF_text_o : List Cond := .code yF_text_o cF_text_o 2 (some .int) :: zT
set_option maxRecDepth 100000 in
theorem zc_F_text_o : Cond.code yF_text_o cF_text_o 2 (some .int) ∈ zT := zm 1033 (by rfl) (by rfl)
theorem dF_text_o_0 : decode cF_text_o 0 = .ok (.aload_n 0, 1) := by decide +kernel
theorem dF_text_o_1 : decode cF_text_o 1 = .ok (.invokevirtual 121, 3) := by decide +kernel
theorem dF_text_o_4 : decode cF_text_o 4 = .ok (.iload_n 1, 1) := by decide +kernel
theorem dF_text_o_5 : decode cF_text_o 5 = .ok (.invokestatic 124, 3) := by decide +kernel
theorem dF_text_o_8 : decode cF_text_o 8 = .ok (.aload_n 0, 1) := by decide +kernel
theorem dF_text_o_9 : decode cF_text_o 9 = .ok (.getfield 40, 3) := by decide +kernel
theorem dF_text_o_12 : decode cF_text_o 12 = .ok (.iload_n 1, 1) := by decide +kernel
theorem dF_text_o_13 : decode cF_text_o 13 = .ok (.invokevirtual 175, 3) := by decide +kernel
theorem dF_text_o_16 : decode cF_text_o 16 = .ok (.ireturn, 1) := by decide +kernel
-- FootprintRules.text(I)I
abbrev w_F_text_o (ad : Nat → Nat → Nat) (a_this : Nat) (a_reader : Nat) (a_families : Nat) (a_handMade : Nat) (a_maker : Nat) (a_maker_print : Nat) (a_maker_spans : Nat) (a_maker_leftOut : Nat) (a_maker_print_cells : Nat) (a_maker_print_family : Nat) (a_maker_print_yard : Nat) (a_maker_print_columns : Nat) (a_maker_print_rows : Nat) (a_maker_print_line : Nat) (a_maker_print_line_units : Nat) (a_maker_print_family_values : Nat) (a_maker_print_family_letters : Nat) (k_maker_print_family_letters : ClassId) (k_maker_print_line_units : ClassId) (k_maker_print_cells : ClassId) (k_maker_print_yard : ClassId) (v_this_familyCount : Int32) (v_maker_rounding : Int64) (v_maker_toe : Int64) (v_maker_heel : Int64) (v_maker_side : Int64) (v_maker_pitch : Int64) (v_maker_outer : Int64) (v_maker_inner : Int64) (v_maker_across : Int64) (v_maker_hole : Int64) (v_maker_print_atHand : Int32) (v_maker_print_count : Int32) (v_maker_print_thermal : Int32) (v_maker_print_density : Int32) (v_maker_print_outerHigh : Int64) (v_maker_print_pasteLeft : Int64) (v_maker_print_pasteLow : Int64) (v_maker_print_nameLength : Int32) (v_maker_print_isWritten : Int32) (v_maker_print_line_length : Int32) (v_maker_print_family_letterCount : Int32) (v_maker_print_family_kind : Nat) (v_maker_print_family_letters : Nat → Int32) (v_maker_print_line_units : Nat → Int32) (v_maker_print_cells : Nat → Int64) (v_maker_print_yard : Nat → Int64) : va_W := [(a_this, .inr (9, [.ref a_reader, .ref a_families, .int v_this_familyCount, .ref a_handMade, .ref a_maker, .ref a_maker_print])), (a_maker, .inr (4, [.ref a_maker_spans, .ref a_maker_leftOut, .ref a_maker_print, .long v_maker_rounding, .long v_maker_toe, .long v_maker_heel, .long v_maker_side, .long v_maker_pitch, .long v_maker_outer, .long v_maker_inner, .long v_maker_across, .long v_maker_hole])), (a_maker_print, .inr (6, [.int v_maker_print_atHand, .ref a_maker_print_cells, .int v_maker_print_count, .int v_maker_print_thermal, .ref a_maker_print_family, .int v_maker_print_density, .long v_maker_print_outerHigh, .ref a_maker_print_yard, .ref a_maker_print_columns, .ref a_maker_print_rows, .long v_maker_print_pasteLeft, .long v_maker_print_pasteLow, .ref a_maker_print_line, .int v_maker_print_nameLength, .int v_maker_print_isWritten])), (a_maker_print_line, .inr (7, [.ref a_maker_print_line_units, .int v_maker_print_line_length])), (a_maker_print_family, .inr (2, [.ref a_maker_print_family_values, .ref a_maker_print_family_letters, .int v_maker_print_family_letterCount, .ref (ad 0 v_maker_print_family_kind)])), (a_maker_print_family_letters, .inl (k_maker_print_family_letters, 4, .inl v_maker_print_family_letters)), (a_maker_print_line_units, .inl (k_maker_print_line_units, 4096, .inl v_maker_print_line_units)), (a_maker_print_cells, .inl (k_maker_print_cells, 455, .inr (.inl v_maker_print_cells))), (a_maker_print_yard, .inl (k_maker_print_yard, 4, .inr (.inl v_maker_print_yard)))]
def P_F_text_o (p1 : Int32) (v_maker_print_atHand : Int32) (v_maker_print_count : Int32) (v_maker_print_density : Int32) (v_maker_print_outerHigh : Int64) (v_maker_print_nameLength : Int32) (v_maker_print_isWritten : Int32) (v_maker_print_line_length : Int32) (v_maker_print_family_letterCount : Int32) (v_maker_print_family_letters : Nat → Int32) (v_maker_print_line_units : Nat → Int32) (v_maker_print_cells : Nat → Int64) (v_maker_print_yard : Nat → Int64) (post : Int32 → Int32 → Int32 → Int32 → (Nat → Int32) → Prop) : Prop := P_F_needFootprint_o v_maker_print_atHand (P_F_needNotBelowZero_o p1 (P_Fp_textUnit p1 v_maker_print_count v_maker_print_density v_maker_print_outerHigh v_maker_print_nameLength v_maker_print_isWritten v_maker_print_line_length v_maker_print_family_letterCount v_maker_print_family_letters v_maker_print_line_units v_maker_print_cells v_maker_print_yard (fun (r5 : Int32) (u1 : Int32) (u2 : Int32) (u3 : Int32) (u4 : Nat → Int32) => post r5 u1 u2 u3 u4)))
set_option maxHeartbeats 4000000 in
set_option maxRecDepth 100000 in
theorem c_F_text_o (l : Launch) (dC : Nat → ClassId) (dI : Nat → Nat → Nat) (ad : Nat → Nat → Nat) (a_this : Nat) (a_reader : Nat) (a_families : Nat) (a_handMade : Nat) (a_maker : Nat) (a_maker_print : Nat) (a_maker_spans : Nat) (a_maker_leftOut : Nat) (a_maker_print_cells : Nat) (a_maker_print_family : Nat) (a_maker_print_yard : Nat) (a_maker_print_columns : Nat) (a_maker_print_rows : Nat) (a_maker_print_line : Nat) (a_maker_print_line_units : Nat) (a_maker_print_family_values : Nat) (a_maker_print_family_letters : Nat) (k_maker_print_family_letters : ClassId) (k_maker_print_line_units : ClassId) (k_maker_print_cells : ClassId) (k_maker_print_yard : ClassId) (sz : Nat) (p1 : Int32) (v_this_familyCount : Int32) (v_maker_rounding : Int64) (v_maker_toe : Int64) (v_maker_heel : Int64) (v_maker_side : Int64) (v_maker_pitch : Int64) (v_maker_outer : Int64) (v_maker_inner : Int64) (v_maker_across : Int64) (v_maker_hole : Int64) (v_maker_print_atHand : Int32) (v_maker_print_count : Int32) (v_maker_print_thermal : Int32) (v_maker_print_density : Int32) (v_maker_print_outerHigh : Int64) (v_maker_print_pasteLeft : Int64) (v_maker_print_pasteLow : Int64) (v_maker_print_nameLength : Int32) (v_maker_print_isWritten : Int32) (v_maker_print_line_length : Int32) (v_maker_print_family_letterCount : Int32) (v_maker_print_family_kind : Nat) (v_maker_print_family_letters : Nat → Int32) (v_maker_print_line_units : Nat → Int32) (v_maker_print_cells : Nat → Int64) (v_maker_print_yard : Nat → Int64) (post : Int32 → Int32 → Int32 → Int32 → (Nat → Int32) → Prop) (h : P_F_text_o p1 v_maker_print_atHand v_maker_print_count v_maker_print_density v_maker_print_outerHigh v_maker_print_nameLength v_maker_print_isWritten v_maker_print_line_length v_maker_print_family_letterCount v_maker_print_family_letters v_maker_print_line_units v_maker_print_cells v_maker_print_yard post) : zMi l yF_text_o wsF_text_o { frames := 7, cells := 0, slots := 0, locals := 149 } (dC, dI) ad [.ref a_this, .int p1] (w_F_text_o ad a_this a_reader a_families a_handMade a_maker a_maker_print a_maker_spans a_maker_leftOut a_maker_print_cells a_maker_print_family a_maker_print_yard a_maker_print_columns a_maker_print_rows a_maker_print_line a_maker_print_line_units a_maker_print_family_values a_maker_print_family_letters k_maker_print_family_letters k_maker_print_line_units k_maker_print_cells k_maker_print_yard v_this_familyCount v_maker_rounding v_maker_toe v_maker_heel v_maker_side v_maker_pitch v_maker_outer v_maker_inner v_maker_across v_maker_hole v_maker_print_atHand v_maker_print_count v_maker_print_thermal v_maker_print_density v_maker_print_outerHigh v_maker_print_pasteLeft v_maker_print_pasteLow v_maker_print_nameLength v_maker_print_isWritten v_maker_print_line_length v_maker_print_family_letterCount v_maker_print_family_kind v_maker_print_family_letters v_maker_print_line_units v_maker_print_cells v_maker_print_yard) [(k_maker_print_family_letters, .char), (k_maker_print_line_units, .char), (k_maker_print_cells, .long), (k_maker_print_yard, .long)] sz (fun (r : Int32) (u : Int32 × Int32 × Int32 × (Nat → Int32)) => post r u.1 u.2.1 u.2.2.1 u.2.2.2) (fun (u : Int32 × Int32 × Int32 × (Nat → Int32)) => (w_F_text_o ad a_this a_reader a_families a_handMade a_maker a_maker_print a_maker_spans a_maker_leftOut a_maker_print_cells a_maker_print_family a_maker_print_yard a_maker_print_columns a_maker_print_rows a_maker_print_line a_maker_print_line_units a_maker_print_family_values a_maker_print_family_letters k_maker_print_family_letters k_maker_print_line_units k_maker_print_cells k_maker_print_yard v_this_familyCount v_maker_rounding v_maker_toe v_maker_heel v_maker_side v_maker_pitch v_maker_outer v_maker_inner v_maker_across v_maker_hole v_maker_print_atHand v_maker_print_count v_maker_print_thermal v_maker_print_density v_maker_print_outerHigh v_maker_print_pasteLeft v_maker_print_pasteLow u.1 u.2.1 u.2.2.1 v_maker_print_family_letterCount v_maker_print_family_kind v_maker_print_family_letters u.2.2.2 v_maker_print_cells v_maker_print_yard)) 0 0 := by
  refine Met.ofW (cc := cF_text_o) (maxL := 2) (ret := (some .int)) (by decide +kernel) rfl ?_
  intro p e s m args below meth c s₁ B hml hv
  obtain ⟨rfl, hsz, hP, hK, hD0, hE⟩ := hv
  have hx := B.exec
  have hb := B.bytes
  have hr := B.returns
  have hts0 := atoms_spec (ws := wsF_text_o) B.pre
  have hts := fun w h => hts0 w (List.mem_cons_of_mem _ h)
  have hown : s.vm.findClass RF = some m.cls := findClass_of_methodNamed B.named
  have hlocks := B.notSynchronized
  subst hsz
  have hD := hD0.self (sz := s.heap.size)
  generalize hAe : va_A (w_F_text_o ad a_this a_reader a_families a_handMade a_maker a_maker_print a_maker_spans a_maker_leftOut a_maker_print_cells a_maker_print_family a_maker_print_yard a_maker_print_columns a_maker_print_rows a_maker_print_line a_maker_print_line_units a_maker_print_family_values a_maker_print_family_letters k_maker_print_family_letters k_maker_print_line_units k_maker_print_cells k_maker_print_yard v_this_familyCount v_maker_rounding v_maker_toe v_maker_heel v_maker_side v_maker_pitch v_maker_outer v_maker_inner v_maker_across v_maker_hole v_maker_print_atHand v_maker_print_count v_maker_print_thermal v_maker_print_density v_maker_print_outerHigh v_maker_print_pasteLeft v_maker_print_pasteLow v_maker_print_nameLength v_maker_print_isWritten v_maker_print_line_length v_maker_print_family_letterCount v_maker_print_family_kind v_maker_print_family_letters v_maker_print_line_units v_maker_print_cells v_maker_print_yard) s.heap.size = A at hD hE ⊢
  have hA : ∀ q : Nat, s.heap.size ≤ q → A q := fun q h => by rw [← hAe]; exact Or.inr h
  have C0 := zC.mk hx hb hr hml hown hts hlocks hA
  have hS : va_S A s.heap s.heap [] := va_S.rf
  have hl := lv_entry ([.ref a_this, .int p1]) (n := 2) (Nat.le_of_ble_eq_true rfl)
  rw [lg_entry_eq]
  generalize (lg_sl ([.ref a_this, .int p1]) ++ List.replicate (2 - (lg_sl ([.ref a_this, .int p1])).length) Slot.unset).toArray = ls at hl ⊢
  have hl : lv_has ls 2 [(0, .ref a_this), (1, .int p1)] := hl
  unfold P_F_text_o at h
  refine lv_aload_n hx hb dF_text_o_0 rfl (lv_at hl 0 rfl) ?_
  refine zcall_v hP hD hS hA [0, 2] [1, 3, 4, 5, 6, 7, 8] (va_runV (As := []) (rest := []) ⟨hx, hb, hml, hown, hts⟩ (c_F_needFootprint_o l dC dI ad a_this a_reader a_families a_handMade a_maker a_maker_print a_maker_print_cells a_maker_print_family a_maker_print_yard a_maker_print_columns a_maker_print_rows a_maker_print_line _ v_this_familyCount v_maker_print_atHand v_maker_print_count v_maker_print_thermal v_maker_print_density v_maker_print_outerHigh v_maker_print_pasteLeft v_maker_print_pasteLow v_maker_print_nameLength v_maker_print_isWritten _ h) ⟨callB_of 0 hts (zgood zc_F_needFootprint_o) rfl rfl rfl (hts _ zw_95) (hts _ zw_847) (by decide +kernel) ⟨Nat.le_of_ble_eq_true rfl, Nat.le_of_ble_eq_true rfl⟩, (hts _ zw_849), (hts _ zw_48)⟩ (zpreV hE hK hP hD hS hA [0, 2] [] (by rfl) (by rfl) (by decide) (ci := 9) (q0 := 0) rfl (by rfl)) rfl rfl hl.1 rfl (lv_room (Nat.le_of_ble_eq_true rfl)) dF_text_o_1 ⟨Nat.le_of_ble_eq_true rfl, Nat.le_of_ble_eq_true rfl⟩) (by rfl) (by rfl) (by decide) (by decide) (fun u H locs h hP hD hS => ?_)
  try dsimp only at h
  have hP := hP.sub (ws' := (w_F_text_o ad a_this a_reader a_families a_handMade a_maker a_maker_print a_maker_spans a_maker_leftOut a_maker_print_cells a_maker_print_family a_maker_print_yard a_maker_print_columns a_maker_print_rows a_maker_print_line a_maker_print_line_units a_maker_print_family_values a_maker_print_family_letters k_maker_print_family_letters k_maker_print_line_units k_maker_print_cells k_maker_print_yard v_this_familyCount v_maker_rounding v_maker_toe v_maker_heel v_maker_side v_maker_pitch v_maker_outer v_maker_inner v_maker_across v_maker_hole v_maker_print_atHand v_maker_print_count v_maker_print_thermal v_maker_print_density v_maker_print_outerHigh v_maker_print_pasteLeft v_maker_print_pasteLow v_maker_print_nameLength v_maker_print_isWritten v_maker_print_line_length v_maker_print_family_letterCount v_maker_print_family_kind v_maker_print_family_letters v_maker_print_line_units v_maker_print_cells v_maker_print_yard)) [7, 0, 8, 1, 2, 3, 4, 5, 6] rfl
  have hD := hD.sub (ws' := (w_F_text_o ad a_this a_reader a_families a_handMade a_maker a_maker_print a_maker_spans a_maker_leftOut a_maker_print_cells a_maker_print_family a_maker_print_yard a_maker_print_columns a_maker_print_rows a_maker_print_line a_maker_print_line_units a_maker_print_family_values a_maker_print_family_letters k_maker_print_family_letters k_maker_print_line_units k_maker_print_cells k_maker_print_yard v_this_familyCount v_maker_rounding v_maker_toe v_maker_heel v_maker_side v_maker_pitch v_maker_outer v_maker_inner v_maker_across v_maker_hole v_maker_print_atHand v_maker_print_count v_maker_print_thermal v_maker_print_density v_maker_print_outerHigh v_maker_print_pasteLeft v_maker_print_pasteLow v_maker_print_nameLength v_maker_print_isWritten v_maker_print_line_length v_maker_print_family_letterCount v_maker_print_family_kind v_maker_print_family_letters v_maker_print_line_units v_maker_print_cells v_maker_print_yard)) [7, 0, 8, 1, 2, 3, 4, 5, 6] (by decide) rfl
  refine lv_iload_n hx hb dF_text_o_4 rfl (lv_at hl 1 rfl) ?_
  refine zcall_v hP hD hS hA [] [0, 1, 2, 3, 4, 5, 6, 7, 8] (va_runS (As := [.int p1]) (rest := []) ⟨hx, hb, hml, hown, hts⟩ (c_F_needNotBelowZero_o l dC dI ad _ p1 _ h) ⟨callB_of 1 hts (zgood zc_F_needNotBelowZero_o) rfl rfl rfl (hts _ zw_95) (hts _ zw_864) (by decide +kernel) ⟨Nat.le_of_ble_eq_true rfl, Nat.le_of_ble_eq_true rfl⟩, (hts _ zw_865)⟩ (zpreS hE hK hP hD hS hA [] [] (by rfl) (by rfl) (by decide)) rfl rfl hl.1 rfl (lv_room (Nat.le_of_ble_eq_true rfl)) dF_text_o_5 ⟨Nat.le_of_ble_eq_true rfl, Nat.le_of_ble_eq_true rfl⟩) (by rfl) (by rfl) (by decide) (by decide) (fun u H locs h hP hD hS => ?_)
  try dsimp only at h
  have hP := hP.sub (ws' := (w_F_text_o ad a_this a_reader a_families a_handMade a_maker a_maker_print a_maker_spans a_maker_leftOut a_maker_print_cells a_maker_print_family a_maker_print_yard a_maker_print_columns a_maker_print_rows a_maker_print_line a_maker_print_line_units a_maker_print_family_values a_maker_print_family_letters k_maker_print_family_letters k_maker_print_line_units k_maker_print_cells k_maker_print_yard v_this_familyCount v_maker_rounding v_maker_toe v_maker_heel v_maker_side v_maker_pitch v_maker_outer v_maker_inner v_maker_across v_maker_hole v_maker_print_atHand v_maker_print_count v_maker_print_thermal v_maker_print_density v_maker_print_outerHigh v_maker_print_pasteLeft v_maker_print_pasteLow v_maker_print_nameLength v_maker_print_isWritten v_maker_print_line_length v_maker_print_family_letterCount v_maker_print_family_kind v_maker_print_family_letters v_maker_print_line_units v_maker_print_cells v_maker_print_yard)) [0, 1, 2, 3, 4, 5, 6, 7, 8] rfl
  have hD := hD.sub (ws' := (w_F_text_o ad a_this a_reader a_families a_handMade a_maker a_maker_print a_maker_spans a_maker_leftOut a_maker_print_cells a_maker_print_family a_maker_print_yard a_maker_print_columns a_maker_print_rows a_maker_print_line a_maker_print_line_units a_maker_print_family_values a_maker_print_family_letters k_maker_print_family_letters k_maker_print_line_units k_maker_print_cells k_maker_print_yard v_this_familyCount v_maker_rounding v_maker_toe v_maker_heel v_maker_side v_maker_pitch v_maker_outer v_maker_inner v_maker_across v_maker_hole v_maker_print_atHand v_maker_print_count v_maker_print_thermal v_maker_print_density v_maker_print_outerHigh v_maker_print_pasteLeft v_maker_print_pasteLow v_maker_print_nameLength v_maker_print_isWritten v_maker_print_line_length v_maker_print_family_letterCount v_maker_print_family_kind v_maker_print_family_letters v_maker_print_line_units v_maker_print_cells v_maker_print_yard)) [0, 1, 2, 3, 4, 5, 6, 7, 8] (by decide) rfl
  refine lv_aload_n hx hb dF_text_o_8 rfl (lv_at hl 0 rfl) ?_
  refine va_get (D := (dC, dI)) (ci := 9) (v := .ref a_maker_print) (C := RF) (T := TF) (N := 6) hx hb hts inZ_F hown hK hP 0 rfl rfl 5 (by decide) (hts _ zw_377) (fun _ h9 => h9) rfl dF_text_o_9 ?_
  refine lv_iload_n hx hb dF_text_o_12 rfl (lv_at hl 1 rfl) ?_
  refine zcall_i hP hD hS hA [2, 3, 4, 5, 6, 7, 8] [0, 1] (va_runVN (As := [.int p1]) (rest := []) ⟨hx, hb, hml, hown, hts⟩ (c_Fp_textUnit l dC dI ad a_maker_print a_maker_print_cells a_maker_print_family a_maker_print_yard a_maker_print_columns a_maker_print_rows a_maker_print_line a_maker_print_line_units a_maker_print_family_values a_maker_print_family_letters k_maker_print_family_letters k_maker_print_line_units k_maker_print_cells k_maker_print_yard _ p1 v_maker_print_atHand v_maker_print_count v_maker_print_thermal v_maker_print_density v_maker_print_outerHigh v_maker_print_pasteLeft v_maker_print_pasteLow v_maker_print_nameLength v_maker_print_isWritten v_maker_print_line_length v_maker_print_family_letterCount v_maker_print_family_kind v_maker_print_family_letters v_maker_print_line_units v_maker_print_cells v_maker_print_yard _ h) ⟨va_cnB 1 hts (zgood zc_Fp_textUnit) rfl rfl rfl (hE.nw _ zn_1034) (hts _ zw_101) (by decide +kernel) ⟨Nat.le_of_ble_eq_true rfl, Nat.le_of_ble_eq_true rfl⟩, (hts _ zw_1036), (hts _ zw_68)⟩ (zpreV hE hK hP hD hS hA [2, 3, 4, 5, 6, 7, 8] [0, 1, 2, 3] (by rfl) (by rfl) (by decide) (ci := 6) (q0 := 2) rfl (by rfl)) rfl rfl hl.1 rfl (lv_room (Nat.le_of_ble_eq_true rfl)) dF_text_o_13 ⟨Nat.le_of_ble_eq_true rfl, Nat.le_of_ble_eq_true rfl⟩) (by rfl) (by rfl) (by decide) (by decide) (fun r5 u H locs h hP hD hS => ?_)
  obtain ⟨u1, u2, u3, u4⟩ := u
  try dsimp only at h
  have hP := hP.sub (ws' := (w_F_text_o ad a_this a_reader a_families a_handMade a_maker a_maker_print a_maker_spans a_maker_leftOut a_maker_print_cells a_maker_print_family a_maker_print_yard a_maker_print_columns a_maker_print_rows a_maker_print_line a_maker_print_line_units a_maker_print_family_values a_maker_print_family_letters k_maker_print_family_letters k_maker_print_line_units k_maker_print_cells k_maker_print_yard v_this_familyCount v_maker_rounding v_maker_toe v_maker_heel v_maker_side v_maker_pitch v_maker_outer v_maker_inner v_maker_across v_maker_hole v_maker_print_atHand v_maker_print_count v_maker_print_thermal v_maker_print_density v_maker_print_outerHigh v_maker_print_pasteLeft v_maker_print_pasteLow u1 u2 u3 v_maker_print_family_letterCount v_maker_print_family_kind v_maker_print_family_letters u4 v_maker_print_cells v_maker_print_yard)) [0, 1, 2, 3, 4, 5, 6, 7, 8] rfl
  have hD := hD.sub (ws' := (w_F_text_o ad a_this a_reader a_families a_handMade a_maker a_maker_print a_maker_spans a_maker_leftOut a_maker_print_cells a_maker_print_family a_maker_print_yard a_maker_print_columns a_maker_print_rows a_maker_print_line a_maker_print_line_units a_maker_print_family_values a_maker_print_family_letters k_maker_print_family_letters k_maker_print_line_units k_maker_print_cells k_maker_print_yard v_this_familyCount v_maker_rounding v_maker_toe v_maker_heel v_maker_side v_maker_pitch v_maker_outer v_maker_inner v_maker_across v_maker_hole v_maker_print_atHand v_maker_print_count v_maker_print_thermal v_maker_print_density v_maker_print_outerHigh v_maker_print_pasteLeft v_maker_print_pasteLow u1 u2 u3 v_maker_print_family_letterCount v_maker_print_family_kind v_maker_print_family_letters u4 v_maker_print_cells v_maker_print_yard)) [0, 1, 2, 3, 4, 5, 6, 7, 8] (by decide) rfl
  exact W.iret (v := r5) hx hb hr (fun t ht hW => ⟨⟨r5, (u1, u2, u3, u4), rfl, h, by rw [ht]; exact hP, hD⟩, hS.F ht⟩) hS.2.2 dF_text_o_16
abbrev yF_text_t : MethodName := ⟨"FootprintRules", "text", "(I)I"⟩
abbrev cF_text_t : ByteArray := prog_1_method_15_code
abbrev wsF_text_t : List Cond := .code yF_text_t cF_text_t 2 (some .int) :: zT
set_option maxRecDepth 100000 in
theorem zc_F_text_t : Cond.code yF_text_t cF_text_t 2 (some .int) ∈ zT := zm 1033 (by rfl) (by rfl)
theorem dF_text_t_0 : decode cF_text_t 0 = .ok (.aload_n 0, 1) := by decide +kernel
theorem dF_text_t_1 : decode cF_text_t 1 = .ok (.invokevirtual 121, 3) := by decide +kernel
theorem dF_text_t_4 : decode cF_text_t 4 = .ok (.iload_n 1, 1) := by decide +kernel
theorem dF_text_t_5 : decode cF_text_t 5 = .ok (.invokestatic 124, 3) := by decide +kernel
-- FootprintRules.text(I)I
abbrev w_F_text_t (ad : Nat → Nat → Nat) (a_this : Nat) (a_reader : Nat) (a_families : Nat) (a_handMade : Nat) (a_maker : Nat) (a_maker_print : Nat) (a_maker_spans : Nat) (a_maker_leftOut : Nat) (a_maker_print_cells : Nat) (a_maker_print_family : Nat) (a_maker_print_yard : Nat) (a_maker_print_columns : Nat) (a_maker_print_rows : Nat) (a_maker_print_line : Nat)  (v_this_familyCount : Int32) (v_maker_rounding : Int64) (v_maker_toe : Int64) (v_maker_heel : Int64) (v_maker_side : Int64) (v_maker_pitch : Int64) (v_maker_outer : Int64) (v_maker_inner : Int64) (v_maker_across : Int64) (v_maker_hole : Int64) (v_maker_print_atHand : Int32) (v_maker_print_count : Int32) (v_maker_print_thermal : Int32) (v_maker_print_density : Int32) (v_maker_print_outerHigh : Int64) (v_maker_print_pasteLeft : Int64) (v_maker_print_pasteLow : Int64) (v_maker_print_nameLength : Int32) (v_maker_print_isWritten : Int32) : va_W := [(a_this, .inr (9, [.ref a_reader, .ref a_families, .int v_this_familyCount, .ref a_handMade, .ref a_maker, .ref a_maker_print])), (a_maker, .inr (4, [.ref a_maker_spans, .ref a_maker_leftOut, .ref a_maker_print, .long v_maker_rounding, .long v_maker_toe, .long v_maker_heel, .long v_maker_side, .long v_maker_pitch, .long v_maker_outer, .long v_maker_inner, .long v_maker_across, .long v_maker_hole])), (a_maker_print, .inr (6, [.int v_maker_print_atHand, .ref a_maker_print_cells, .int v_maker_print_count, .int v_maker_print_thermal, .ref a_maker_print_family, .int v_maker_print_density, .long v_maker_print_outerHigh, .ref a_maker_print_yard, .ref a_maker_print_columns, .ref a_maker_print_rows, .long v_maker_print_pasteLeft, .long v_maker_print_pasteLow, .ref a_maker_print_line, .int v_maker_print_nameLength, .int v_maker_print_isWritten]))]
def P_F_text_t (p1 : Int32) (v_maker_print_atHand : Int32) (post : String → Prop) : Prop := ((P_F_needFootprint_o v_maker_print_atHand (P_F_needNotBelowZero_t p1 (fun (E : String) => post E))) ∨ (P_F_needFootprint_t v_maker_print_atHand (fun (E : String) => post E)))
set_option maxHeartbeats 4000000 in
set_option maxRecDepth 100000 in
theorem c_F_text_t (l : Launch) (hlt : l.stackTraces = false) (dC : Nat → ClassId) (dI : Nat → Nat → Nat) (ad : Nat → Nat → Nat) (a_this : Nat) (a_reader : Nat) (a_families : Nat) (a_handMade : Nat) (a_maker : Nat) (a_maker_print : Nat) (a_maker_spans : Nat) (a_maker_leftOut : Nat) (a_maker_print_cells : Nat) (a_maker_print_family : Nat) (a_maker_print_yard : Nat) (a_maker_print_columns : Nat) (a_maker_print_rows : Nat) (a_maker_print_line : Nat)  (sz : Nat) (p1 : Int32) (v_this_familyCount : Int32) (v_maker_rounding : Int64) (v_maker_toe : Int64) (v_maker_heel : Int64) (v_maker_side : Int64) (v_maker_pitch : Int64) (v_maker_outer : Int64) (v_maker_inner : Int64) (v_maker_across : Int64) (v_maker_hole : Int64) (v_maker_print_atHand : Int32) (v_maker_print_count : Int32) (v_maker_print_thermal : Int32) (v_maker_print_density : Int32) (v_maker_print_outerHigh : Int64) (v_maker_print_pasteLeft : Int64) (v_maker_print_pasteLow : Int64) (v_maker_print_nameLength : Int32) (v_maker_print_isWritten : Int32) (post : String → Prop) (h : P_F_text_t p1 v_maker_print_atHand post) : zMT l yF_text_t wsF_text_t { frames := 7, cells := 1, slots := 6, locals := 111 } (dC, dI) ad [.ref a_this, .int p1] (w_F_text_t ad a_this a_reader a_families a_handMade a_maker a_maker_print a_maker_spans a_maker_leftOut a_maker_print_cells a_maker_print_family a_maker_print_yard a_maker_print_columns a_maker_print_rows a_maker_print_line v_this_familyCount v_maker_rounding v_maker_toe v_maker_heel v_maker_side v_maker_pitch v_maker_outer v_maker_inner v_maker_across v_maker_hole v_maker_print_atHand v_maker_print_count v_maker_print_thermal v_maker_print_density v_maker_print_outerHigh v_maker_print_pasteLeft v_maker_print_pasteLow v_maker_print_nameLength v_maker_print_isWritten) [] sz (fun (E : String) (u : Unit) => post E) (fun (u : Unit) => (w_F_text_t ad a_this a_reader a_families a_handMade a_maker a_maker_print a_maker_spans a_maker_leftOut a_maker_print_cells a_maker_print_family a_maker_print_yard a_maker_print_columns a_maker_print_rows a_maker_print_line v_this_familyCount v_maker_rounding v_maker_toe v_maker_heel v_maker_side v_maker_pitch v_maker_outer v_maker_inner v_maker_across v_maker_hole v_maker_print_atHand v_maker_print_count v_maker_print_thermal v_maker_print_density v_maker_print_outerHigh v_maker_print_pasteLeft v_maker_print_pasteLow v_maker_print_nameLength v_maker_print_isWritten)) 1 6 := by
  refine zMT.ofW (cc := cF_text_t) (maxL := 2) (ret := (some .int)) (by decide +kernel) rfl ?_
  intro p e s m args below meth c s₁ B hml hnx hv
  obtain ⟨rfl, hsz, hP, hK, hD0, hE⟩ := hv
  have hx := B.exec
  have hb := B.bytes
  have hr := B.returns
  have hts0 := atoms_spec (ws := wsF_text_t) B.pre
  have hts := fun w h => hts0 w (List.mem_cons_of_mem _ h)
  have hown : s.vm.findClass RF = some m.cls := findClass_of_methodNamed B.named
  have hlocks := B.notSynchronized
  subst hsz
  have hD := hD0.self (sz := s.heap.size)
  generalize hAe : va_A (w_F_text_t ad a_this a_reader a_families a_handMade a_maker a_maker_print a_maker_spans a_maker_leftOut a_maker_print_cells a_maker_print_family a_maker_print_yard a_maker_print_columns a_maker_print_rows a_maker_print_line v_this_familyCount v_maker_rounding v_maker_toe v_maker_heel v_maker_side v_maker_pitch v_maker_outer v_maker_inner v_maker_across v_maker_hole v_maker_print_atHand v_maker_print_count v_maker_print_thermal v_maker_print_density v_maker_print_outerHigh v_maker_print_pasteLeft v_maker_print_pasteLow v_maker_print_nameLength v_maker_print_isWritten) s.heap.size = A at hD hE ⊢
  have hA : ∀ q : Nat, s.heap.size ≤ q → A q := fun q h => by rw [← hAe]; exact Or.inr h
  have C0 := zC.mk hx hb hr hml hown hts hlocks hA
  have hS : va_S A s.heap s.heap [] := va_S.rf
  have hl := lv_entry ([.ref a_this, .int p1]) (n := 2) (Nat.le_of_ble_eq_true rfl)
  rw [lg_entry_eq]
  generalize (lg_sl ([.ref a_this, .int p1]) ++ List.replicate (2 - (lg_sl ([.ref a_this, .int p1])).length) Slot.unset).toArray = ls at hl ⊢
  have hl : lv_has ls 2 [(0, .ref a_this), (1, .int p1)] := hl
  unfold P_F_text_t at h
  refine lv_aload_n hx hb dF_text_t_0 rfl (lv_at hl 0 rfl) ?_
  rcases h with h | h
  · skip
    refine zcall_v hP hD hS hA [0, 2] [1] (va_runV (As := []) (rest := []) ⟨hx, hb, hml, hown, hts⟩ (c_F_needFootprint_o l dC dI ad a_this a_reader a_families a_handMade a_maker a_maker_print a_maker_print_cells a_maker_print_family a_maker_print_yard a_maker_print_columns a_maker_print_rows a_maker_print_line _ v_this_familyCount v_maker_print_atHand v_maker_print_count v_maker_print_thermal v_maker_print_density v_maker_print_outerHigh v_maker_print_pasteLeft v_maker_print_pasteLow v_maker_print_nameLength v_maker_print_isWritten _ h) ⟨callB_of 0 hts (zgood zc_F_needFootprint_o) rfl rfl rfl (hts _ zw_95) (hts _ zw_847) (by decide +kernel) ⟨Nat.le_of_ble_eq_true rfl, Nat.le_of_ble_eq_true rfl⟩, (hts _ zw_849), (hts _ zw_48)⟩ (zpreV hE hK hP hD hS hA [0, 2] [] (by rfl) (by rfl) (by decide) (ci := 9) (q0 := 0) rfl (by rfl)) rfl rfl hl.1 rfl (lv_room (Nat.le_of_ble_eq_true rfl)) dF_text_t_1 ⟨Nat.le_of_ble_eq_true rfl, Nat.le_of_ble_eq_true rfl⟩) (by rfl) (by rfl) (by decide) (by decide) (fun u H locs h hP hD hS => ?_)
    try dsimp only at h
    have hP := hP.sub (ws' := (w_F_text_t ad a_this a_reader a_families a_handMade a_maker a_maker_print a_maker_spans a_maker_leftOut a_maker_print_cells a_maker_print_family a_maker_print_yard a_maker_print_columns a_maker_print_rows a_maker_print_line v_this_familyCount v_maker_rounding v_maker_toe v_maker_heel v_maker_side v_maker_pitch v_maker_outer v_maker_inner v_maker_across v_maker_hole v_maker_print_atHand v_maker_print_count v_maker_print_thermal v_maker_print_density v_maker_print_outerHigh v_maker_print_pasteLeft v_maker_print_pasteLow v_maker_print_nameLength v_maker_print_isWritten)) [1, 0, 2] rfl
    have hD := hD.sub (ws' := (w_F_text_t ad a_this a_reader a_families a_handMade a_maker a_maker_print a_maker_spans a_maker_leftOut a_maker_print_cells a_maker_print_family a_maker_print_yard a_maker_print_columns a_maker_print_rows a_maker_print_line v_this_familyCount v_maker_rounding v_maker_toe v_maker_heel v_maker_side v_maker_pitch v_maker_outer v_maker_inner v_maker_across v_maker_hole v_maker_print_atHand v_maker_print_count v_maker_print_thermal v_maker_print_density v_maker_print_outerHigh v_maker_print_pasteLeft v_maker_print_pasteLow v_maker_print_nameLength v_maker_print_isWritten)) [1, 0, 2] (by decide) rfl
    refine lv_iload_n hx hb dF_text_t_4 rfl (lv_at hl 1 rfl) ?_
    refine zt_out hP hD hS hA [] [0, 1, 2] (zt_runS (As := [.int p1]) (rest := []) ⟨hx, hb, hml, hown, hts⟩ (c_F_needNotBelowZero_t l hlt dC dI ad _ p1 _ h) ⟨callB_of 1 hts (zgood zc_F_needNotBelowZero_t) rfl rfl rfl (hts _ zw_95) (hts _ zw_864) (by decide +kernel) ⟨Nat.le_of_ble_eq_true rfl, Nat.le_of_ble_eq_true rfl⟩, (hts _ zw_865)⟩ (zpreS hE hK hP hD hS hA [] [] (by rfl) (by rfl) (by decide)) rfl rfl hl.1 rfl (lv_room (Nat.le_of_ble_eq_true rfl)) dF_text_t_5 ⟨Nat.le_of_ble_eq_true rfl, Nat.le_of_ble_eq_true rfl⟩) (by rfl) (by rfl) (by decide) (by decide) hnx hlocks (fun E u H h hP hD => ?_)
    try dsimp only at h
    have hP := hP.sub (ws' := (w_F_text_t ad a_this a_reader a_families a_handMade a_maker a_maker_print a_maker_spans a_maker_leftOut a_maker_print_cells a_maker_print_family a_maker_print_yard a_maker_print_columns a_maker_print_rows a_maker_print_line v_this_familyCount v_maker_rounding v_maker_toe v_maker_heel v_maker_side v_maker_pitch v_maker_outer v_maker_inner v_maker_across v_maker_hole v_maker_print_atHand v_maker_print_count v_maker_print_thermal v_maker_print_density v_maker_print_outerHigh v_maker_print_pasteLeft v_maker_print_pasteLow v_maker_print_nameLength v_maker_print_isWritten)) [0, 1, 2] rfl
    have hD := hD.sub (ws' := (w_F_text_t ad a_this a_reader a_families a_handMade a_maker a_maker_print a_maker_spans a_maker_leftOut a_maker_print_cells a_maker_print_family a_maker_print_yard a_maker_print_columns a_maker_print_rows a_maker_print_line v_this_familyCount v_maker_rounding v_maker_toe v_maker_heel v_maker_side v_maker_pitch v_maker_outer v_maker_inner v_maker_across v_maker_hole v_maker_print_atHand v_maker_print_count v_maker_print_thermal v_maker_print_density v_maker_print_outerHigh v_maker_print_pasteLeft v_maker_print_pasteLow v_maker_print_nameLength v_maker_print_isWritten)) [0, 1, 2] (by decide) rfl
    exact ⟨(()), h, hP, hD⟩
  · skip
    refine zt_out hP hD hS hA [0, 2] [1] (zt_runV (As := []) (rest := []) ⟨hx, hb, hml, hown, hts⟩ (c_F_needFootprint_t l hlt dC dI ad a_this a_reader a_families a_handMade a_maker a_maker_print a_maker_print_cells a_maker_print_family a_maker_print_yard a_maker_print_columns a_maker_print_rows a_maker_print_line _ v_this_familyCount v_maker_print_atHand v_maker_print_count v_maker_print_thermal v_maker_print_density v_maker_print_outerHigh v_maker_print_pasteLeft v_maker_print_pasteLow v_maker_print_nameLength v_maker_print_isWritten _ h) ⟨callB_of 0 hts (zgood zc_F_needFootprint_t) rfl rfl rfl (hts _ zw_95) (hts _ zw_847) (by decide +kernel) ⟨Nat.le_of_ble_eq_true rfl, Nat.le_of_ble_eq_true rfl⟩, (hts _ zw_849), (hts _ zw_48)⟩ (zpreV hE hK hP hD hS hA [0, 2] [] (by rfl) (by rfl) (by decide) (ci := 9) (q0 := 0) rfl (by rfl)) rfl rfl hl.1 rfl (lv_room (Nat.le_of_ble_eq_true rfl)) dF_text_t_1 ⟨Nat.le_of_ble_eq_true rfl, Nat.le_of_ble_eq_true rfl⟩) (by rfl) (by rfl) (by decide) (by decide) hnx hlocks (fun E u H h hP hD => ?_)
    try dsimp only at h
    have hP := hP.sub (ws' := (w_F_text_t ad a_this a_reader a_families a_handMade a_maker a_maker_print a_maker_spans a_maker_leftOut a_maker_print_cells a_maker_print_family a_maker_print_yard a_maker_print_columns a_maker_print_rows a_maker_print_line v_this_familyCount v_maker_rounding v_maker_toe v_maker_heel v_maker_side v_maker_pitch v_maker_outer v_maker_inner v_maker_across v_maker_hole v_maker_print_atHand v_maker_print_count v_maker_print_thermal v_maker_print_density v_maker_print_outerHigh v_maker_print_pasteLeft v_maker_print_pasteLow v_maker_print_nameLength v_maker_print_isWritten)) [1, 0, 2] rfl
    have hD := hD.sub (ws' := (w_F_text_t ad a_this a_reader a_families a_handMade a_maker a_maker_print a_maker_spans a_maker_leftOut a_maker_print_cells a_maker_print_family a_maker_print_yard a_maker_print_columns a_maker_print_rows a_maker_print_line v_this_familyCount v_maker_rounding v_maker_toe v_maker_heel v_maker_side v_maker_pitch v_maker_outer v_maker_inner v_maker_across v_maker_hole v_maker_print_atHand v_maker_print_count v_maker_print_thermal v_maker_print_density v_maker_print_outerHigh v_maker_print_pasteLeft v_maker_print_pasteLow v_maker_print_nameLength v_maker_print_isWritten)) [1, 0, 2] (by decide) rfl
    exact ⟨(()), h, hP, hD⟩
