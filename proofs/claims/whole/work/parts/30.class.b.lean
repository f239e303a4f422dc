abbrev yFp_cell : MethodName := ⟨"FootprintRules$Footprint", "cell", "(II)J"⟩
abbrev cFp_cell : ByteArray := prog_5_method_4_code
abbrev wsFp_cell : List Cond := .code yFp_cell cFp_cell 3 (some .long) :: zT
set_option maxRecDepth 100000 in
theorem zc_Fp_cell : Cond.code yFp_cell cFp_cell 3 (some .long) ∈ zT := zm 821 (by rfl) (by rfl)
theorem dFp_cell_0 : decode cFp_cell 0 = .ok (.iload_n 1, 1) := by decide +kernel
theorem dFp_cell_1 : decode cFp_cell 1 = .ok (.ifCond .lt 19, 3) := by decide +kernel
theorem dFp_cell_4 : decode cFp_cell 4 = .ok (.iload_n 1, 1) := by decide +kernel
theorem dFp_cell_5 : decode cFp_cell 5 = .ok (.bipush 65, 2) := by decide +kernel
theorem dFp_cell_7 : decode cFp_cell 7 = .ok (.if_icmp .ge 13, 3) := by decide +kernel
theorem dFp_cell_10 : decode cFp_cell 10 = .ok (.iload_n 2, 1) := by decide +kernel
theorem dFp_cell_11 : decode cFp_cell 11 = .ok (.ifCond .lt 9, 3) := by decide +kernel
theorem dFp_cell_14 : decode cFp_cell 14 = .ok (.iload_n 2, 1) := by decide +kernel
theorem dFp_cell_15 : decode cFp_cell 15 = .ok (.bipush 7, 2) := by decide +kernel
theorem dFp_cell_17 : decode cFp_cell 17 = .ok (.if_icmp .lt 5, 3) := by decide +kernel
theorem dFp_cell_20 : decode cFp_cell 20 = .ok (.lconst 0, 1) := by decide +kernel
theorem dFp_cell_21 : decode cFp_cell 21 = .ok (.lreturn, 1) := by decide +kernel
theorem dFp_cell_22 : decode cFp_cell 22 = .ok (.aload_n 0, 1) := by decide +kernel
theorem dFp_cell_23 : decode cFp_cell 23 = .ok (.getfield 9, 3) := by decide +kernel
theorem dFp_cell_26 : decode cFp_cell 26 = .ok (.iload_n 1, 1) := by decide +kernel
theorem dFp_cell_27 : decode cFp_cell 27 = .ok (.bipush 7, 2) := by decide +kernel
theorem dFp_cell_29 : decode cFp_cell 29 = .ok (.imul, 1) := by decide +kernel
theorem dFp_cell_30 : decode cFp_cell 30 = .ok (.iload_n 2, 1) := by decide +kernel
theorem dFp_cell_31 : decode cFp_cell 31 = .ok (.iadd, 1) := by decide +kernel
theorem dFp_cell_32 : decode cFp_cell 32 = .ok (.laload, 1) := by decide +kernel
theorem dFp_cell_33 : decode cFp_cell 33 = .ok (.lreturn, 1) := by decide +kernel
-- FootprintRules$Footprint.cell(II)J
abbrev w_Fp_cell (ad : Nat → Nat → Nat) (a_this : Nat) (a_cells : Nat) (a_family : Nat) (a_yard : Nat) (a_columns : Nat) (a_rows : Nat) (a_line : Nat) (k_cells : ClassId) (v_this_atHand : Int32) (v_this_count : Int32) (v_this_thermal : Int32) (v_this_density : Int32) (v_this_outerHigh : Int64) (v_this_pasteLeft : Int64) (v_this_pasteLow : Int64) (v_this_nameLength : Int32) (v_this_isWritten : Int32) (v_cells : Nat → Int64) : va_W := [(a_this, .inr (6, [.int v_this_atHand, .ref a_cells, .int v_this_count, .int v_this_thermal, .ref a_family, .int v_this_density, .long v_this_outerHigh, .ref a_yard, .ref a_columns, .ref a_rows, .long v_this_pasteLeft, .long v_this_pasteLow, .ref a_line, .int v_this_nameLength, .int v_this_isWritten])), (a_cells, .inl (k_cells, 455, .inr (.inl v_cells)))]
def P_Fp_cell (p1 : Int32) (p2 : Int32) (v_cells : Nat → Int64) (post : Int64 → Prop) : Prop := ((p1 < 0 → post 0) ∧ (¬ p1 < 0 → ((65 ≤ p1 → post 0) ∧ (¬ 65 ≤ p1 → ((p2 < 0 → post 0) ∧ (¬ p2 < 0 → ((p2 < 7 → vp_in ((p1 * 7) + p2) 455 ∧ post (v_cells ((p1 * 7) + p2).toNatClampNeg)) ∧ (¬ p2 < 7 → post 0))))))))
set_option maxHeartbeats 4000000 in
set_option maxRecDepth 100000 in
theorem c_Fp_cell (l : Launch) (dC : Nat → ClassId) (dI : Nat → Nat → Nat) (ad : Nat → Nat → Nat) (a_this : Nat) (a_cells : Nat) (a_family : Nat) (a_yard : Nat) (a_columns : Nat) (a_rows : Nat) (a_line : Nat) (k_cells : ClassId) (sz : Nat) (p1 : Int32) (p2 : Int32) (v_this_atHand : Int32) (v_this_count : Int32) (v_this_thermal : Int32) (v_this_density : Int32) (v_this_outerHigh : Int64) (v_this_pasteLeft : Int64) (v_this_pasteLow : Int64) (v_this_nameLength : Int32) (v_this_isWritten : Int32) (v_cells : Nat → Int64) (post : Int64 → Prop) (h : P_Fp_cell p1 p2 v_cells post) : zMl l yFp_cell wsFp_cell { frames := 0, cells := 0, slots := 0, locals := 0 } (dC, dI) ad [.ref a_this, .int p1, .int p2] (w_Fp_cell ad a_this a_cells a_family a_yard a_columns a_rows a_line k_cells v_this_atHand v_this_count v_this_thermal v_this_density v_this_outerHigh v_this_pasteLeft v_this_pasteLow v_this_nameLength v_this_isWritten v_cells) [(k_cells, .long)] sz (fun (r : Int64) (u : Unit) => post r) (fun (u : Unit) => (w_Fp_cell ad a_this a_cells a_family a_yard a_columns a_rows a_line k_cells v_this_atHand v_this_count v_this_thermal v_this_density v_this_outerHigh v_this_pasteLeft v_this_pasteLow v_this_nameLength v_this_isWritten v_cells)) 0 0 := by
  refine Met.ofW (cc := cFp_cell) (maxL := 3) (ret := (some .long)) (by decide +kernel) rfl ?_
  intro p e s m args below meth c s₁ B hml hv
  obtain ⟨rfl, hsz, hP, hK, hD0, hE⟩ := hv
  have hx := B.exec
  have hb := B.bytes
  have hr := B.returns
  have hts0 := atoms_spec (ws := wsFp_cell) B.pre
  have hts := fun w h => hts0 w (List.mem_cons_of_mem _ h)
  have hown : s.vm.findClass RFp = some m.cls := findClass_of_methodNamed B.named
  have hlocks := B.notSynchronized
  subst hsz
  have hD := hD0.self (sz := s.heap.size)
  generalize hAe : va_A (w_Fp_cell ad a_this a_cells a_family a_yard a_columns a_rows a_line k_cells v_this_atHand v_this_count v_this_thermal v_this_density v_this_outerHigh v_this_pasteLeft v_this_pasteLow v_this_nameLength v_this_isWritten v_cells) s.heap.size = A at hD hE ⊢
  have hA : ∀ q : Nat, s.heap.size ≤ q → A q := fun q h => by rw [← hAe]; exact Or.inr h
  have C0 := zC.mk hx hb hr hml hown hts hlocks hA
  have hS : va_S A s.heap s.heap [] := va_S.rf
  have hl := lv_entry ([.ref a_this, .int p1, .int p2]) (n := 3) (Nat.le_of_ble_eq_true rfl)
  rw [lg_entry_eq]
  generalize (lg_sl ([.ref a_this, .int p1, .int p2]) ++ List.replicate (3 - (lg_sl ([.ref a_this, .int p1, .int p2])).length) Slot.unset).toArray = ls at hl ⊢
  have hl : lv_has ls 3 [(0, .ref a_this), (1, .int p1), (2, .int p2)] := hl
  unfold P_Fp_cell at h
  refine lv_iload_n hx hb dFp_cell_0 rfl (lv_at hl 1 rfl) ?_
  refine lv_if_lt (tgt := 20) hx hb dFp_cell_1 (by decide) ?_ ?_
  · intro c1
    replace h := h.1 c1
    refine lv_lconst (v := 0) hx hb dFp_cell_20 (by decide) ?_
    exact W.lret (v := 0) hx hb hr (fun t ht hW => ⟨⟨0, (()), rfl, h, by rw [ht]; exact hP, hD⟩, hS.F ht⟩) hS.2.2 dFp_cell_21
  · intro c1
    replace h := h.2 c1
    refine lv_iload_n hx hb dFp_cell_4 rfl (lv_at hl 1 rfl) ?_
    refine lv_bipush (v := 65) hx hb dFp_cell_5 (by decide) ?_
    refine lv_icmp_ge (tgt := 20) hx hb dFp_cell_7 (by decide) ?_ ?_
    · intro c2
      replace h := h.1 c2
      refine lv_lconst (v := 0) hx hb dFp_cell_20 (by decide) ?_
      exact W.lret (v := 0) hx hb hr (fun t ht hW => ⟨⟨0, (()), rfl, h, by rw [ht]; exact hP, hD⟩, hS.F ht⟩) hS.2.2 dFp_cell_21
    · intro c2
      replace h := h.2 c2
      refine lv_iload_n hx hb dFp_cell_10 rfl (lv_at hl 2 rfl) ?_
      refine lv_if_lt (tgt := 20) hx hb dFp_cell_11 (by decide) ?_ ?_
      · intro c3
        replace h := h.1 c3
        refine lv_lconst (v := 0) hx hb dFp_cell_20 (by decide) ?_
        exact W.lret (v := 0) hx hb hr (fun t ht hW => ⟨⟨0, (()), rfl, h, by rw [ht]; exact hP, hD⟩, hS.F ht⟩) hS.2.2 dFp_cell_21
      · intro c3
        replace h := h.2 c3
        refine lv_iload_n hx hb dFp_cell_14 rfl (lv_at hl 2 rfl) ?_
        refine lv_bipush (v := 7) hx hb dFp_cell_15 (by decide) ?_
        refine lv_icmp_lt (tgt := 22) hx hb dFp_cell_17 (by decide) ?_ ?_
        · intro c4
          replace h := h.1 c4
          refine lv_aload_n hx hb dFp_cell_22 rfl (lv_at hl 0 rfl) ?_
          refine va_get (D := (dC, dI)) (ci := 6) (v := .ref a_cells) (C := RFp) (T := TFp) (N := 15) hx hb hts inZ_Fp hown hK hP 0 rfl rfl 1 (by decide) (hts _ zw_281) (fun _ h9 => h9) rfl dFp_cell_23 ?_
          refine lv_iload_n hx hb dFp_cell_26 rfl (lv_at hl 1 rfl) ?_
          refine lv_bipush (v := 7) hx hb dFp_cell_27 (by decide) ?_
          refine lv_imul hx hb dFp_cell_29 ?_
          refine lv_iload_n hx hb dFp_cell_30 rfl (lv_at hl 2 rfl) ?_
          refine lv_iadd hx hb dFp_cell_31 ?_
          obtain ⟨hn5, h⟩ := h
          refine va_lald hx hb hK hP 1 0 rfl rfl hn5 dFp_cell_32 ?_
          exact W.lret (v := (v_cells ((p1 * 7) + p2).toNatClampNeg)) hx hb hr (fun t ht hW => ⟨⟨(v_cells ((p1 * 7) + p2).toNatClampNeg), (()), rfl, h, by rw [ht]; exact hP, hD⟩, hS.F ht⟩) hS.2.2 dFp_cell_33
        · intro c4
          replace h := h.2 c4
          refine lv_lconst (v := 0) hx hb dFp_cell_20 (by decide) ?_
          exact W.lret (v := 0) hx hb hr (fun t ht hW => ⟨⟨0, (()), rfl, h, by rw [ht]; exact hP, hD⟩, hS.F ht⟩) hS.2.2 dFp_cell_21
abbrev yF_down : MethodName := ⟨"FootprintRules", "down", "(JJ)J"⟩
abbrev cF_down : ByteArray := prog_1_method_23_code
abbrev wsF_down : List Cond := .code yF_down cF_down 4 (some .long) :: zT
set_option maxRecDepth 100000 in
theorem zc_F_down : Cond.code yF_down cF_down 4 (some .long) ∈ zT := zm 779 (by rfl) (by rfl)
theorem dF_down_0 : decode cF_down 0 = .ok (.lload_n 2, 1) := by decide +kernel
theorem dF_down_1 : decode cF_down 1 = .ok (.lconst 0, 1) := by decide +kernel
theorem dF_down_2 : decode cF_down 2 = .ok (.lcmp, 1) := by decide +kernel
theorem dF_down_3 : decode cF_down 3 = .ok (.ifCond .gt 7, 3) := by decide +kernel
theorem dF_down_6 : decode cF_down 6 = .ok (.lload_n 0, 1) := by decide +kernel
theorem dF_down_7 : decode cF_down 7 = .ok (.goto 10, 3) := by decide +kernel
theorem dF_down_10 : decode cF_down 10 = .ok (.lload_n 0, 1) := by decide +kernel
theorem dF_down_11 : decode cF_down 11 = .ok (.lload_n 0, 1) := by decide +kernel
theorem dF_down_12 : decode cF_down 12 = .ok (.lload_n 2, 1) := by decide +kernel
theorem dF_down_13 : decode cF_down 13 = .ok (.invokestatic 192, 3) := by decide +kernel
theorem dF_down_16 : decode cF_down 16 = .ok (.lsub, 1) := by decide +kernel
theorem dF_down_17 : decode cF_down 17 = .ok (.lreturn, 1) := by decide +kernel
-- FootprintRules.down(JJ)J
abbrev w_F_down (ad : Nat → Nat → Nat)    : va_W := []
def P_F_down (p0 : Int64) (p2 : Int64) (post : Int64 → Prop) : Prop := ((0 < p2 → P_JM_floorMod p0 p2 (fun (r2 : Int64) => post (p0 - r2))) ∧ (¬ 0 < p2 → post p0))
set_option maxHeartbeats 4000000 in
set_option maxRecDepth 100000 in
theorem c_F_down (l : Launch) (dC : Nat → ClassId) (dI : Nat → Nat → Nat) (ad : Nat → Nat → Nat)   (sz : Nat) (p0 : Int64) (p2 : Int64) (post : Int64 → Prop) (h : P_F_down p0 p2 post) : zMl l yF_down wsF_down { frames := 1, cells := 0, slots := 0, locals := 25 } (dC, dI) ad [.long p0, .long p2] (w_F_down ad ) [] sz (fun (r : Int64) (u : Unit) => post r) (fun (u : Unit) => (w_F_down ad )) 0 0 := by
  refine Met.ofW (cc := cF_down) (maxL := 4) (ret := (some .long)) (by decide +kernel) rfl ?_
  intro p e s m args below meth c s₁ B hml hv
  obtain ⟨rfl, hsz, hP, hK, hD0, hE⟩ := hv
  have hx := B.exec
  have hb := B.bytes
  have hr := B.returns
  have hts0 := atoms_spec (ws := wsF_down) B.pre
  have hts := fun w h => hts0 w (List.mem_cons_of_mem _ h)
  have hown : s.vm.findClass RF = some m.cls := findClass_of_methodNamed B.named
  have hlocks := B.notSynchronized
  subst hsz
  have hD := hD0.self (sz := s.heap.size)
  generalize hAe : va_A (w_F_down ad ) s.heap.size = A at hD hE ⊢
  have hA : ∀ q : Nat, s.heap.size ≤ q → A q := fun q h => by rw [← hAe]; exact Or.inr h
  have C0 := zC.mk hx hb hr hml hown hts hlocks hA
  have hS : va_S A s.heap s.heap [] := va_S.rf
  have hl := lv_entry ([.long p0, .long p2]) (n := 4) (Nat.le_of_ble_eq_true rfl)
  rw [lg_entry_eq]
  generalize (lg_sl ([.long p0, .long p2]) ++ List.replicate (4 - (lg_sl ([.long p0, .long p2])).length) Slot.unset).toArray = ls at hl ⊢
  have hl : lv_has ls 4 [(0, .long p0), (2, .long p2)] := hl
  unfold P_F_down at h
  refine lv_lload_n hx hb dF_down_0 rfl (lv_at hl 1 rfl) ?_
  refine lv_lconst (v := 0) hx hb dF_down_1 (by decide) ?_
  refine zz_lcmp_gt (tgt := 10) hx hb dF_down_2 dF_down_3 (by decide) ?_ ?_
  · intro c1
    replace h := h.1 c1
    refine lv_lload_n hx hb dF_down_10 rfl (lv_at hl 0 rfl) ?_
    refine lv_lload_n hx hb dF_down_11 rfl (lv_at hl 0 rfl) ?_
    refine lv_lload_n hx hb dF_down_12 rfl (lv_at hl 1 rfl) ?_
    refine zcall_l hP hD hS hA [] [] (va_runS (As := [.long p0, .long p2]) (rest := [.long p0]) ⟨hx, hb, hml, hown, hts⟩ (c_JM_floorMod l dC dI ad _ p0 p2 _ h) ⟨callB_of 2 hts (zgood zc_JM_floorMod) rfl rfl rfl (hts _ zw_119) (hts _ zw_743) (by decide +kernel) ⟨Nat.le_of_ble_eq_true rfl, Nat.le_of_ble_eq_true rfl⟩, (hts _ zw_744)⟩ (zpreS hE hK hP hD hS hA [] [] (by rfl) (by rfl) (by decide)) rfl rfl hl.1 rfl (lv_room (Nat.le_of_ble_eq_true rfl)) dF_down_13 ⟨Nat.le_of_ble_eq_true rfl, Nat.le_of_ble_eq_true rfl⟩) (by rfl) (by rfl) (by decide) (by decide) (fun r2 u H locs h hP hD hS => ?_)
    try dsimp only at h
    have hP := hP.sub (ws' := (w_F_down ad )) [] rfl
    have hD := hD.sub (ws' := (w_F_down ad )) [] (by decide) rfl
    refine lv_lsub hx hb dF_down_16 ?_
    exact W.lret (v := (p0 - r2)) hx hb hr (fun t ht hW => ⟨⟨(p0 - r2), (()), rfl, h, by rw [ht]; exact hP, hD⟩, hS.F ht⟩) hS.2.2 dF_down_17
  · intro c1
    replace h := h.2 c1
    refine lv_lload_n hx hb dF_down_6 rfl (lv_at hl 0 rfl) ?_
    refine lv_goto (tgt := 17) hx hb dF_down_7 (by decide) ?_
    exact W.lret (v := p0) hx hb hr (fun t ht hW => ⟨⟨p0, (()), rfl, h, by rw [ht]; exact hP, hD⟩, hS.F ht⟩) hS.2.2 dF_down_17
abbrev yF_up : MethodName := ⟨"FootprintRules", "up", "(JJ)J"⟩
abbrev cF_up : ByteArray := prog_1_method_22_code
abbrev wsF_up : List Cond := .code yF_up cF_up 4 (some .long) :: zT
set_option maxRecDepth 100000 in
theorem zc_F_up : Cond.code yF_up cF_up 4 (some .long) ∈ zT := zm 742 (by rfl) (by rfl)
theorem dF_up_0 : decode cF_up 0 = .ok (.lload_n 2, 1) := by decide +kernel
theorem dF_up_1 : decode cF_up 1 = .ok (.lconst 0, 1) := by decide +kernel
theorem dF_up_2 : decode cF_up 2 = .ok (.lcmp, 1) := by decide +kernel
theorem dF_up_3 : decode cF_up 3 = .ok (.ifCond .gt 7, 3) := by decide +kernel
theorem dF_up_6 : decode cF_up 6 = .ok (.lload_n 0, 1) := by decide +kernel
theorem dF_up_7 : decode cF_up 7 = .ok (.goto 11, 3) := by decide +kernel
theorem dF_up_10 : decode cF_up 10 = .ok (.lload_n 0, 1) := by decide +kernel
theorem dF_up_11 : decode cF_up 11 = .ok (.lload_n 0, 1) := by decide +kernel
theorem dF_up_12 : decode cF_up 12 = .ok (.lneg, 1) := by decide +kernel
theorem dF_up_13 : decode cF_up 13 = .ok (.lload_n 2, 1) := by decide +kernel
theorem dF_up_14 : decode cF_up 14 = .ok (.invokestatic 192, 3) := by decide +kernel
theorem dF_up_17 : decode cF_up 17 = .ok (.ladd, 1) := by decide +kernel
theorem dF_up_18 : decode cF_up 18 = .ok (.lreturn, 1) := by decide +kernel
-- FootprintRules.up(JJ)J
abbrev w_F_up (ad : Nat → Nat → Nat)    : va_W := []
def P_F_up (p0 : Int64) (p2 : Int64) (post : Int64 → Prop) : Prop := ((0 < p2 → P_JM_floorMod (-p0) p2 (fun (r2 : Int64) => post (p0 + r2))) ∧ (¬ 0 < p2 → post p0))
set_option maxHeartbeats 4000000 in
set_option maxRecDepth 100000 in
theorem c_F_up (l : Launch) (dC : Nat → ClassId) (dI : Nat → Nat → Nat) (ad : Nat → Nat → Nat)   (sz : Nat) (p0 : Int64) (p2 : Int64) (post : Int64 → Prop) (h : P_F_up p0 p2 post) : zMl l yF_up wsF_up { frames := 1, cells := 0, slots := 0, locals := 25 } (dC, dI) ad [.long p0, .long p2] (w_F_up ad ) [] sz (fun (r : Int64) (u : Unit) => post r) (fun (u : Unit) => (w_F_up ad )) 0 0 := by
  refine Met.ofW (cc := cF_up) (maxL := 4) (ret := (some .long)) (by decide +kernel) rfl ?_
  intro p e s m args below meth c s₁ B hml hv
  obtain ⟨rfl, hsz, hP, hK, hD0, hE⟩ := hv
  have hx := B.exec
  have hb := B.bytes
  have hr := B.returns
  have hts0 := atoms_spec (ws := wsF_up) B.pre
  have hts := fun w h => hts0 w (List.mem_cons_of_mem _ h)
  have hown : s.vm.findClass RF = some m.cls := findClass_of_methodNamed B.named
  have hlocks := B.notSynchronized
  subst hsz
  have hD := hD0.self (sz := s.heap.size)
  generalize hAe : va_A (w_F_up ad ) s.heap.size = A at hD hE ⊢
  have hA : ∀ q : Nat, s.heap.size ≤ q → A q := fun q h => by rw [← hAe]; exact Or.inr h
  have C0 := zC.mk hx hb hr hml hown hts hlocks hA
  have hS : va_S A s.heap s.heap [] := va_S.rf
  have hl := lv_entry ([.long p0, .long p2]) (n := 4) (Nat.le_of_ble_eq_true rfl)
  rw [lg_entry_eq]
  generalize (lg_sl ([.long p0, .long p2]) ++ List.replicate (4 - (lg_sl ([.long p0, .long p2])).length) Slot.unset).toArray = ls at hl ⊢
  have hl : lv_has ls 4 [(0, .long p0), (2, .long p2)] := hl
  unfold P_F_up at h
  refine lv_lload_n hx hb dF_up_0 rfl (lv_at hl 1 rfl) ?_
  refine lv_lconst (v := 0) hx hb dF_up_1 (by decide) ?_
  refine zz_lcmp_gt (tgt := 10) hx hb dF_up_2 dF_up_3 (by decide) ?_ ?_
  · intro c1
    replace h := h.1 c1
    refine lv_lload_n hx hb dF_up_10 rfl (lv_at hl 0 rfl) ?_
    refine lv_lload_n hx hb dF_up_11 rfl (lv_at hl 0 rfl) ?_
    refine lv_lneg hx hb dF_up_12 ?_
    refine lv_lload_n hx hb dF_up_13 rfl (lv_at hl 1 rfl) ?_
    refine zcall_l hP hD hS hA [] [] (va_runS (As := [.long (-p0), .long p2]) (rest := [.long p0]) ⟨hx, hb, hml, hown, hts⟩ (c_JM_floorMod l dC dI ad _ (-p0) p2 _ h) ⟨callB_of 2 hts (zgood zc_JM_floorMod) rfl rfl rfl (hts _ zw_119) (hts _ zw_743) (by decide +kernel) ⟨Nat.le_of_ble_eq_true rfl, Nat.le_of_ble_eq_true rfl⟩, (hts _ zw_744)⟩ (zpreS hE hK hP hD hS hA [] [] (by rfl) (by rfl) (by decide)) rfl rfl hl.1 rfl (lv_room (Nat.le_of_ble_eq_true rfl)) dF_up_14 ⟨Nat.le_of_ble_eq_true rfl, Nat.le_of_ble_eq_true rfl⟩) (by rfl) (by rfl) (by decide) (by decide) (fun r2 u H locs h hP hD hS => ?_)
    try dsimp only at h
    have hP := hP.sub (ws' := (w_F_up ad )) [] rfl
    have hD := hD.sub (ws' := (w_F_up ad )) [] (by decide) rfl
    refine lv_ladd hx hb dF_up_17 ?_
    exact W.lret (v := (p0 + r2)) hx hb hr (fun t ht hW => ⟨⟨(p0 + r2), (()), rfl, h, by rw [ht]; exact hP, hD⟩, hS.F ht⟩) hS.2.2 dF_up_18
  · intro c1
    replace h := h.2 c1
    refine lv_lload_n hx hb dF_up_6 rfl (lv_at hl 0 rfl) ?_
    refine lv_goto (tgt := 18) hx hb dF_up_7 (by decide) ?_
    exact W.lret (v := p0) hx hb hr (fun t ht hW => ⟨⟨p0, (()), rfl, h, by rw [ht]; exact hP, hD⟩, hS.F ht⟩) hS.2.2 dF_up_18
abbrev yFp_layYard : MethodName := ⟨"FootprintRules$Footprint", "layYard", "(JJZ)V"⟩
abbrev cFp_layYard : ByteArray := prog_5_method_5_code
abbrev wsFp_layYard : List Cond := .code yFp_layYard cFp_layYard 18 none :: zT
set_option maxRecDepth 100000 in
theorem zc_Fp_layYard : Cond.code yFp_layYard cFp_layYard 18 none ∈ zT := zm 817 (by rfl) (by rfl)
theorem dFp_layYard_0 : decode cFp_layYard 0 = .ok (.aload_n 0, 1) := by decide +kernel
theorem dFp_layYard_1 : decode cFp_layYard 1 = .ok (.iconst 0, 1) := by decide +kernel
theorem dFp_layYard_2 : decode cFp_layYard 2 = .ok (.iconst 1, 1) := by decide +kernel
theorem dFp_layYard_3 : decode cFp_layYard 3 = .ok (.invokevirtual 63, 3) := by decide +kernel
theorem dFp_layYard_6 : decode cFp_layYard 6 = .ok (.lstore 6, 2) := by decide +kernel
theorem dFp_layYard_8 : decode cFp_layYard 8 = .ok (.aload_n 0, 1) := by decide +kernel
theorem dFp_layYard_9 : decode cFp_layYard 9 = .ok (.iconst 0, 1) := by decide +kernel
theorem dFp_layYard_10 : decode cFp_layYard 10 = .ok (.iconst 2, 1) := by decide +kernel
theorem dFp_layYard_11 : decode cFp_layYard 11 = .ok (.invokevirtual 63, 3) := by decide +kernel
theorem dFp_layYard_14 : decode cFp_layYard 14 = .ok (.lstore 8, 2) := by decide +kernel
theorem dFp_layYard_16 : decode cFp_layYard 16 = .ok (.lload 6, 2) := by decide +kernel
theorem dFp_layYard_18 : decode cFp_layYard 18 = .ok (.aload_n 0, 1) := by decide +kernel
theorem dFp_layYard_19 : decode cFp_layYard 19 = .ok (.iconst 0, 1) := by decide +kernel
theorem dFp_layYard_20 : decode cFp_layYard 20 = .ok (.iconst 3, 1) := by decide +kernel
theorem dFp_layYard_21 : decode cFp_layYard 21 = .ok (.invokevirtual 63, 3) := by decide +kernel
theorem dFp_layYard_24 : decode cFp_layYard 24 = .ok (.ladd, 1) := by decide +kernel
theorem dFp_layYard_25 : decode cFp_layYard 25 = .ok (.lstore 10, 2) := by decide +kernel
theorem dFp_layYard_27 : decode cFp_layYard 27 = .ok (.lload 8, 2) := by decide +kernel
theorem dFp_layYard_29 : decode cFp_layYard 29 = .ok (.aload_n 0, 1) := by decide +kernel
theorem dFp_layYard_30 : decode cFp_layYard 30 = .ok (.iconst 0, 1) := by decide +kernel
theorem dFp_layYard_31 : decode cFp_layYard 31 = .ok (.iconst 4, 1) := by decide +kernel
theorem dFp_layYard_32 : decode cFp_layYard 32 = .ok (.invokevirtual 63, 3) := by decide +kernel
theorem dFp_layYard_35 : decode cFp_layYard 35 = .ok (.ladd, 1) := by decide +kernel
theorem dFp_layYard_36 : decode cFp_layYard 36 = .ok (.lstore 12, 2) := by decide +kernel
theorem dFp_layYard_38 : decode cFp_layYard 38 = .ok (.iconst 1, 1) := by decide +kernel
theorem dFp_layYard_39 : decode cFp_layYard 39 = .ok (.istore 14, 2) := by decide +kernel
theorem dFp_layYard_41 : decode cFp_layYard 41 = .ok (.iload 14, 2) := by decide +kernel
theorem dFp_layYard_43 : decode cFp_layYard 43 = .ok (.aload_n 0, 1) := by decide +kernel
theorem dFp_layYard_44 : decode cFp_layYard 44 = .ok (.getfield 49, 3) := by decide +kernel
theorem dFp_layYard_47 : decode cFp_layYard 47 = .ok (.if_icmp .ge 81, 3) := by decide +kernel
theorem dFp_layYard_50 : decode cFp_layYard 50 = .ok (.lload 6, 2) := by decide +kernel
theorem dFp_layYard_52 : decode cFp_layYard 52 = .ok (.aload_n 0, 1) := by decide +kernel
theorem dFp_layYard_53 : decode cFp_layYard 53 = .ok (.iload 14, 2) := by decide +kernel
theorem dFp_layYard_55 : decode cFp_layYard 55 = .ok (.iconst 1, 1) := by decide +kernel
theorem dFp_layYard_56 : decode cFp_layYard 56 = .ok (.invokevirtual 63, 3) := by decide +kernel
theorem dFp_layYard_59 : decode cFp_layYard 59 = .ok (.invokestatic 67, 3) := by decide +kernel
theorem dFp_layYard_62 : decode cFp_layYard 62 = .ok (.lstore 6, 2) := by decide +kernel
theorem dFp_layYard_64 : decode cFp_layYard 64 = .ok (.lload 8, 2) := by decide +kernel
theorem dFp_layYard_66 : decode cFp_layYard 66 = .ok (.aload_n 0, 1) := by decide +kernel
theorem dFp_layYard_67 : decode cFp_layYard 67 = .ok (.iload 14, 2) := by decide +kernel
theorem dFp_layYard_69 : decode cFp_layYard 69 = .ok (.iconst 2, 1) := by decide +kernel
theorem dFp_layYard_70 : decode cFp_layYard 70 = .ok (.invokevirtual 63, 3) := by decide +kernel
theorem dFp_layYard_73 : decode cFp_layYard 73 = .ok (.invokestatic 67, 3) := by decide +kernel
theorem dFp_layYard_76 : decode cFp_layYard 76 = .ok (.lstore 8, 2) := by decide +kernel
theorem dFp_layYard_78 : decode cFp_layYard 78 = .ok (.lload 10, 2) := by decide +kernel
theorem dFp_layYard_80 : decode cFp_layYard 80 = .ok (.aload_n 0, 1) := by decide +kernel
theorem dFp_layYard_81 : decode cFp_layYard 81 = .ok (.iload 14, 2) := by decide +kernel
theorem dFp_layYard_83 : decode cFp_layYard 83 = .ok (.iconst 1, 1) := by decide +kernel
theorem dFp_layYard_84 : decode cFp_layYard 84 = .ok (.invokevirtual 63, 3) := by decide +kernel
theorem dFp_layYard_87 : decode cFp_layYard 87 = .ok (.aload_n 0, 1) := by decide +kernel
theorem dFp_layYard_88 : decode cFp_layYard 88 = .ok (.iload 14, 2) := by decide +kernel
theorem dFp_layYard_90 : decode cFp_layYard 90 = .ok (.iconst 3, 1) := by decide +kernel
theorem dFp_layYard_91 : decode cFp_layYard 91 = .ok (.invokevirtual 63, 3) := by decide +kernel
theorem dFp_layYard_94 : decode cFp_layYard 94 = .ok (.ladd, 1) := by decide +kernel
theorem dFp_layYard_95 : decode cFp_layYard 95 = .ok (.invokestatic 73, 3) := by decide +kernel
theorem dFp_layYard_98 : decode cFp_layYard 98 = .ok (.lstore 10, 2) := by decide +kernel
theorem dFp_layYard_100 : decode cFp_layYard 100 = .ok (.lload 12, 2) := by decide +kernel
theorem dFp_layYard_102 : decode cFp_layYard 102 = .ok (.aload_n 0, 1) := by decide +kernel
theorem dFp_layYard_103 : decode cFp_layYard 103 = .ok (.iload 14, 2) := by decide +kernel
theorem dFp_layYard_105 : decode cFp_layYard 105 = .ok (.iconst 2, 1) := by decide +kernel
theorem dFp_layYard_106 : decode cFp_layYard 106 = .ok (.invokevirtual 63, 3) := by decide +kernel
theorem dFp_layYard_109 : decode cFp_layYard 109 = .ok (.aload_n 0, 1) := by decide +kernel
theorem dFp_layYard_110 : decode cFp_layYard 110 = .ok (.iload 14, 2) := by decide +kernel
theorem dFp_layYard_112 : decode cFp_layYard 112 = .ok (.iconst 4, 1) := by decide +kernel
theorem dFp_layYard_113 : decode cFp_layYard 113 = .ok (.invokevirtual 63, 3) := by decide +kernel
theorem dFp_layYard_116 : decode cFp_layYard 116 = .ok (.ladd, 1) := by decide +kernel
theorem dFp_layYard_117 : decode cFp_layYard 117 = .ok (.invokestatic 73, 3) := by decide +kernel
theorem dFp_layYard_120 : decode cFp_layYard 120 = .ok (.lstore 12, 2) := by decide +kernel
theorem dFp_layYard_122 : decode cFp_layYard 122 = .ok (.iinc 14 1, 3) := by decide +kernel
theorem dFp_layYard_125 : decode cFp_layYard 125 = .ok (.goto (-84), 3) := by decide +kernel
theorem dFp_layYard_128 : decode cFp_layYard 128 = .ok (.iload 5, 2) := by decide +kernel
theorem dFp_layYard_130 : decode cFp_layYard 130 = .ok (.ifCond .eq 53, 3) := by decide +kernel
theorem dFp_layYard_133 : decode cFp_layYard 133 = .ok (.lload 6, 2) := by decide +kernel
theorem dFp_layYard_135 : decode cFp_layYard 135 = .ok (.lload_n 1, 1) := by decide +kernel
theorem dFp_layYard_136 : decode cFp_layYard 136 = .ok (.lneg, 1) := by decide +kernel
theorem dFp_layYard_137 : decode cFp_layYard 137 = .ok (.ldc2_w 76, 3) := by decide +kernel
theorem dFp_layYard_140 : decode cFp_layYard 140 = .ok (.ldiv, 1) := by decide +kernel
theorem dFp_layYard_141 : decode cFp_layYard 141 = .ok (.invokestatic 67, 3) := by decide +kernel
theorem dFp_layYard_144 : decode cFp_layYard 144 = .ok (.lstore 6, 2) := by decide +kernel
theorem dFp_layYard_146 : decode cFp_layYard 146 = .ok (.lload 8, 2) := by decide +kernel
theorem dFp_layYard_148 : decode cFp_layYard 148 = .ok (.lload_n 3, 1) := by decide +kernel
theorem dFp_layYard_149 : decode cFp_layYard 149 = .ok (.lneg, 1) := by decide +kernel
theorem dFp_layYard_150 : decode cFp_layYard 150 = .ok (.ldc2_w 76, 3) := by decide +kernel
theorem dFp_layYard_153 : decode cFp_layYard 153 = .ok (.ldiv, 1) := by decide +kernel
theorem dFp_layYard_154 : decode cFp_layYard 154 = .ok (.invokestatic 67, 3) := by decide +kernel
theorem dFp_layYard_157 : decode cFp_layYard 157 = .ok (.lstore 8, 2) := by decide +kernel
theorem dFp_layYard_159 : decode cFp_layYard 159 = .ok (.lload 10, 2) := by decide +kernel
theorem dFp_layYard_161 : decode cFp_layYard 161 = .ok (.lload_n 1, 1) := by decide +kernel
theorem dFp_layYard_162 : decode cFp_layYard 162 = .ok (.ldc2_w 76, 3) := by decide +kernel
theorem dFp_layYard_165 : decode cFp_layYard 165 = .ok (.ldiv, 1) := by decide +kernel
theorem dFp_layYard_166 : decode cFp_layYard 166 = .ok (.invokestatic 73, 3) := by decide +kernel
theorem dFp_layYard_169 : decode cFp_layYard 169 = .ok (.lstore 10, 2) := by decide +kernel
theorem dFp_layYard_171 : decode cFp_layYard 171 = .ok (.lload 12, 2) := by decide +kernel
theorem dFp_layYard_173 : decode cFp_layYard 173 = .ok (.lload_n 3, 1) := by decide +kernel
theorem dFp_layYard_174 : decode cFp_layYard 174 = .ok (.ldc2_w 76, 3) := by decide +kernel
theorem dFp_layYard_177 : decode cFp_layYard 177 = .ok (.ldiv, 1) := by decide +kernel
theorem dFp_layYard_178 : decode cFp_layYard 178 = .ok (.invokestatic 73, 3) := by decide +kernel
theorem dFp_layYard_181 : decode cFp_layYard 181 = .ok (.lstore 12, 2) := by decide +kernel
theorem dFp_layYard_183 : decode cFp_layYard 183 = .ok (.aload_n 0, 1) := by decide +kernel
theorem dFp_layYard_184 : decode cFp_layYard 184 = .ok (.getfield 18, 3) := by decide +kernel
theorem dFp_layYard_187 : decode cFp_layYard 187 = .ok (.getstatic 78, 3) := by decide +kernel
theorem dFp_layYard_190 : decode cFp_layYard 190 = .ok (.aload_n 0, 1) := by decide +kernel
theorem dFp_layYard_191 : decode cFp_layYard 191 = .ok (.getfield 56, 3) := by decide +kernel
theorem dFp_layYard_194 : decode cFp_layYard 194 = .ok (.invokevirtual 84, 3) := by decide +kernel
theorem dFp_layYard_197 : decode cFp_layYard 197 = .ok (.lstore 14, 2) := by decide +kernel
theorem dFp_layYard_199 : decode cFp_layYard 199 = .ok (.aload_n 0, 1) := by decide +kernel
theorem dFp_layYard_200 : decode cFp_layYard 200 = .ok (.getfield 18, 3) := by decide +kernel
theorem dFp_layYard_203 : decode cFp_layYard 203 = .ok (.getstatic 88, 3) := by decide +kernel
theorem dFp_layYard_206 : decode cFp_layYard 206 = .ok (.invokevirtual 91, 3) := by decide +kernel
theorem dFp_layYard_209 : decode cFp_layYard 209 = .ok (.lstore 16, 2) := by decide +kernel
theorem dFp_layYard_211 : decode cFp_layYard 211 = .ok (.aload_n 0, 1) := by decide +kernel
theorem dFp_layYard_212 : decode cFp_layYard 212 = .ok (.getfield 22, 3) := by decide +kernel
theorem dFp_layYard_215 : decode cFp_layYard 215 = .ok (.iconst 0, 1) := by decide +kernel
theorem dFp_layYard_216 : decode cFp_layYard 216 = .ok (.lload 6, 2) := by decide +kernel
theorem dFp_layYard_218 : decode cFp_layYard 218 = .ok (.lload 14, 2) := by decide +kernel
theorem dFp_layYard_220 : decode cFp_layYard 220 = .ok (.lsub, 1) := by decide +kernel
theorem dFp_layYard_221 : decode cFp_layYard 221 = .ok (.lload 16, 2) := by decide +kernel
theorem dFp_layYard_223 : decode cFp_layYard 223 = .ok (.invokestatic 95, 3) := by decide +kernel
theorem dFp_layYard_226 : decode cFp_layYard 226 = .ok (.lastore, 1) := by decide +kernel
theorem dFp_layYard_227 : decode cFp_layYard 227 = .ok (.aload_n 0, 1) := by decide +kernel
theorem dFp_layYard_228 : decode cFp_layYard 228 = .ok (.getfield 22, 3) := by decide +kernel
theorem dFp_layYard_231 : decode cFp_layYard 231 = .ok (.iconst 1, 1) := by decide +kernel
theorem dFp_layYard_232 : decode cFp_layYard 232 = .ok (.lload 8, 2) := by decide +kernel
theorem dFp_layYard_234 : decode cFp_layYard 234 = .ok (.lload 14, 2) := by decide +kernel
theorem dFp_layYard_236 : decode cFp_layYard 236 = .ok (.lsub, 1) := by decide +kernel
theorem dFp_layYard_237 : decode cFp_layYard 237 = .ok (.lload 16, 2) := by decide +kernel
theorem dFp_layYard_239 : decode cFp_layYard 239 = .ok (.invokestatic 95, 3) := by decide +kernel
theorem dFp_layYard_242 : decode cFp_layYard 242 = .ok (.lastore, 1) := by decide +kernel
theorem dFp_layYard_243 : decode cFp_layYard 243 = .ok (.aload_n 0, 1) := by decide +kernel
theorem dFp_layYard_244 : decode cFp_layYard 244 = .ok (.getfield 22, 3) := by decide +kernel
theorem dFp_layYard_247 : decode cFp_layYard 247 = .ok (.iconst 2, 1) := by decide +kernel
theorem dFp_layYard_248 : decode cFp_layYard 248 = .ok (.lload 10, 2) := by decide +kernel
theorem dFp_layYard_250 : decode cFp_layYard 250 = .ok (.lload 14, 2) := by decide +kernel
theorem dFp_layYard_252 : decode cFp_layYard 252 = .ok (.ladd, 1) := by decide +kernel
theorem dFp_layYard_253 : decode cFp_layYard 253 = .ok (.lload 16, 2) := by decide +kernel
theorem dFp_layYard_255 : decode cFp_layYard 255 = .ok (.invokestatic 98, 3) := by decide +kernel
theorem dFp_layYard_258 : decode cFp_layYard 258 = .ok (.lastore, 1) := by decide +kernel
theorem dFp_layYard_259 : decode cFp_layYard 259 = .ok (.aload_n 0, 1) := by decide +kernel
theorem dFp_layYard_260 : decode cFp_layYard 260 = .ok (.getfield 22, 3) := by decide +kernel
theorem dFp_layYard_263 : decode cFp_layYard 263 = .ok (.iconst 3, 1) := by decide +kernel
theorem dFp_layYard_264 : decode cFp_layYard 264 = .ok (.lload 12, 2) := by decide +kernel
theorem dFp_layYard_266 : decode cFp_layYard 266 = .ok (.lload 14, 2) := by decide +kernel
theorem dFp_layYard_268 : decode cFp_layYard 268 = .ok (.ladd, 1) := by decide +kernel
theorem dFp_layYard_269 : decode cFp_layYard 269 = .ok (.lload 16, 2) := by decide +kernel
theorem dFp_layYard_271 : decode cFp_layYard 271 = .ok (.invokestatic 98, 3) := by decide +kernel
theorem dFp_layYard_274 : decode cFp_layYard 274 = .ok (.lastore, 1) := by decide +kernel
theorem dFp_layYard_275 : decode cFp_layYard 275 = .ok (.return_, 1) := by decide +kernel
-- FootprintRules$Footprint.layYard(JJZ)V
abbrev w_Fp_layYard (ad : Nat → Nat → Nat) (a_this : Nat) (a_cells : Nat) (a_family : Nat) (a_yard : Nat) (a_columns : Nat) (a_rows : Nat) (a_line : Nat) (a_family_values : Nat) (a_family_letters : Nat) (k_cells : ClassId) (k_family_values : ClassId) (k_yard : ClassId) (v_this_atHand : Int32) (v_this_count : Int32) (v_this_thermal : Int32) (v_this_density : Int32) (v_this_outerHigh : Int64) (v_this_pasteLeft : Int64) (v_this_pasteLow : Int64) (v_this_nameLength : Int32) (v_this_isWritten : Int32) (v_cells : Nat → Int64) (v_family_letterCount : Int32) (v_family_kind : Nat) (v_family_values : Nat → Int32) (v_yard : Nat → Int64) : va_W := [(a_this, .inr (6, [.int v_this_atHand, .ref a_cells, .int v_this_count, .int v_this_thermal, .ref a_family, .int v_this_density, .long v_this_outerHigh, .ref a_yard, .ref a_columns, .ref a_rows, .long v_this_pasteLeft, .long v_this_pasteLow, .ref a_line, .int v_this_nameLength, .int v_this_isWritten])), (a_cells, .inl (k_cells, 455, .inr (.inl v_cells))), (a_family, .inr (2, [.ref a_family_values, .ref a_family_letters, .int v_family_letterCount, .ref (ad 0 v_family_kind)])), (a_family_values, .inl (k_family_values, 18, .inl v_family_values)), (a_yard, .inl (k_yard, 4, .inr (.inl v_yard)))]
def P_Fp_layYard_183 (v_this_density : Int32) (v_family_values : Nat → Int32) (v_yard : Nat → Int64) (post : (Nat → Int64) → Prop) (y6 : Int64) (y8 : Int64) (y10 : Int64) (y12 : Int64) : Prop := P_Fa_ofDensity 3 v_this_density v_family_values (fun (r1 : Int64) => P_Fa_of 4 v_family_values (fun (r2 : Int64) => P_F_down (y6 - r1) r2 (fun (r3 : Int64) => vp_in 0 4 ∧ P_F_down (y8 - r1) r2 (fun (r5 : Int64) => vp_in 1 4 ∧ P_F_up (y10 + r1) r2 (fun (r7 : Int64) => vp_in 2 4 ∧ P_F_up (y12 + r1) r2 (fun (r9 : Int64) => vp_in 3 4 ∧ post (vp_updL (vp_updL (vp_updL (vp_updL v_yard (0 : Int32).toNatClampNeg r3) (1 : Int32).toNatClampNeg r5) (2 : Int32).toNatClampNeg r7) (3 : Int32).toNatClampNeg r9)))))))
set_option maxHeartbeats 4000000 in
set_option maxRecDepth 100000 in
theorem w_Fp_layYard_183 (l : Launch) {p : Program} {e : Env} {s : State} {m : MethodId} {args : Array Value} {below : List Frame} {meth : Method} {c : Code} {dC : Nat → ClassId} {dI : Nat → Nat → Nat} {ad : Nat → Nat → Nat} {A : Nat → Prop} (C0 : zC p s m args meth c cFp_layYard 18 RFp zT none A) (hE : zE ad A s) (a_this : Nat) (a_cells : Nat) (a_family : Nat) (a_yard : Nat) (a_columns : Nat) (a_rows : Nat) (a_line : Nat) (a_family_values : Nat) (a_family_letters : Nat) (k_cells : ClassId) (k_family_values : ClassId) (k_yard : ClassId) (p1 : Int64) (p3 : Int64) (p5 : Int32) (v_this_atHand : Int32) (v_this_count : Int32) (v_this_thermal : Int32) (v_this_density : Int32) (v_this_outerHigh : Int64) (v_this_pasteLeft : Int64) (v_this_pasteLow : Int64) (v_this_nameLength : Int32) (v_this_isWritten : Int32) (v_cells : Nat → Int64) (v_family_letterCount : Int32) (v_family_kind : Nat) (v_family_values : Nat → Int32) (v_yard : Nat → Int64) (post : (Nat → Int64) → Prop) (hK : va_K (dC, dI) vwCl [(k_cells, .long), (k_family_values, .int), (k_yard, .long)] s) : ∀ (y6 : Int64) (y8 : Int64) (y10 : Int64) (y12 : Int64) (H : Heap) (locs : List Loc), P_Fp_layYard_183 v_this_density v_family_values v_yard post y6 y8 y10 y12 → va_P (dC, dI) vwCl (w_Fp_layYard ad a_this a_cells a_family a_yard a_columns a_rows a_line a_family_values a_family_letters k_cells k_family_values k_yard v_this_atHand v_this_count v_this_thermal v_this_density v_this_outerHigh v_this_pasteLeft v_this_pasteLow v_this_nameLength v_this_isWritten v_cells v_family_letterCount v_family_kind v_family_values v_yard) H → va_D A (w_Fp_layYard ad a_this a_cells a_family a_yard a_columns a_rows a_line a_family_values a_family_letters k_cells k_family_values k_yard v_this_atHand v_this_count v_this_thermal v_this_density v_this_outerHigh v_this_pasteLeft v_this_pasteLow v_this_nameLength v_this_isWritten v_cells v_family_letterCount v_family_kind v_family_values v_yard) → va_S A s.heap H locs → ∀ ls : Array Slot, lv_has ls 18 [(0, .ref a_this), (6, .long y6), (8, .long y8), (10, .long y10), (12, .long y12)] → W p l e (headSpec wsFp_layYard { frames := 2, cells := 0, slots := 0, locals := 48 }).room s m args below meth c H locs 0 0 (MQ below (va_Qv (fun (u : (Nat → Int64)) => post u) (zB (dC, dI) A (fun (u : (Nat → Int64)) => (w_Fp_layYard ad a_this a_cells a_family a_yard a_columns a_rows a_line a_family_values a_family_letters k_cells k_family_values k_yard v_this_atHand v_this_count v_this_thermal v_this_density v_this_outerHigh v_this_pasteLeft v_this_pasteLow v_this_nameLength v_this_isWritten v_cells v_family_letterCount v_family_kind v_family_values u))) A) args s 0 0 A) (F0 m 183 ls []) := by
  obtain ⟨hx, hb, hr, hml, hown, hts, hlocks, hA⟩ := id C0
  intro y6 y8 y10 y12 H locs h hP hD hS ls hl
  unfold P_Fp_layYard_183 at h
  refine lv_aload_n hx hb dFp_layYard_183 rfl (lv_at hl 0 rfl) ?_
  refine va_get (D := (dC, dI)) (ci := 6) (v := .ref a_family) (C := RFp) (T := TFp) (N := 15) hx hb hts inZ_Fp hown hK hP 0 rfl rfl 4 (by decide) (hts _ zw_288) (fun _ h9 => h9) rfl dFp_layYard_184 ?_
  refine va_gets (C := "FootprintRules$Key") (n := "COURT") (d := "LFootprintRules$Key;") hx hb (hE.enKey.1 3 (by decide)).1 hS hown (hts _ zw_829) (fun _ h9 => h9) dFp_layYard_187 ?_
  refine lv_aload_n hx hb dFp_layYard_190 rfl (lv_at hl 0 rfl) ?_
  refine va_get (D := (dC, dI)) (ci := 6) (v := .int v_this_density) (C := RFp) (T := TFp) (N := 15) hx hb hts inZ_Fp hown hK hP 0 rfl rfl 5 (by decide) (hts _ zw_289) (fun _ h9 => h9) rfl dFp_layYard_191 ?_
  refine zcall_l hP hD hS hA [2, 3] [0, 1, 4] (va_runVN (As := [.ref (ad 1 3), .int v_this_density]) (rest := []) ⟨hx, hb, hml, hown, hts⟩ (c_Fa_ofDensity l dC dI ad a_family a_family_values a_family_letters k_family_values _ 3 v_this_density v_family_letterCount v_family_kind v_family_values _ h) ⟨va_cnB 2 hts (zgood zc_Fa_ofDensity) rfl rfl rfl (hE.nw _ zn_831) (hts _ zw_102) (by decide +kernel) ⟨Nat.le_of_ble_eq_true rfl, Nat.le_of_ble_eq_true rfl⟩, (hts _ zw_720), (hts _ zw_30)⟩ (zpreV hE hK hP hD hS hA [2, 3] [1] (by rfl) (by rfl) (by decide) (ci := 2) (q0 := 2) rfl (by rfl)) rfl rfl hl.1 rfl (lv_room (Nat.le_of_ble_eq_true rfl)) dFp_layYard_194 ⟨Nat.le_of_ble_eq_true rfl, Nat.le_of_ble_eq_true rfl⟩) (by rfl) (by rfl) (by decide) (by decide) (fun r1 u H locs h hP hD hS => ?_)
  try dsimp only at h
  have hP := hP.sub (ws' := (w_Fp_layYard ad a_this a_cells a_family a_yard a_columns a_rows a_line a_family_values a_family_letters k_cells k_family_values k_yard v_this_atHand v_this_count v_this_thermal v_this_density v_this_outerHigh v_this_pasteLeft v_this_pasteLow v_this_nameLength v_this_isWritten v_cells v_family_letterCount v_family_kind v_family_values v_yard)) [0, 1, 3, 4, 2] rfl
  have hD := hD.sub (ws' := (w_Fp_layYard ad a_this a_cells a_family a_yard a_columns a_rows a_line a_family_values a_family_letters k_cells k_family_values k_yard v_this_atHand v_this_count v_this_thermal v_this_density v_this_outerHigh v_this_pasteLeft v_this_pasteLow v_this_nameLength v_this_isWritten v_cells v_family_letterCount v_family_kind v_family_values v_yard)) [0, 1, 3, 4, 2] (by decide) rfl
  refine lv_lstore (lv' := [(14, .long r1), (0, .ref a_this), (6, .long y6), (8, .long y8), (10, .long y10), (12, .long y12)]) hx hb dFp_layYard_197 hl (by decide) rfl (fun ls hl => ?_)
  refine lv_aload_n hx hb dFp_layYard_199 rfl (lv_at hl 1 rfl) ?_
  refine va_get (D := (dC, dI)) (ci := 6) (v := .ref a_family) (C := RFp) (T := TFp) (N := 15) hx hb hts inZ_Fp hown hK hP 0 rfl rfl 4 (by decide) (hts _ zw_288) (fun _ h9 => h9) rfl dFp_layYard_200 ?_
  refine va_gets (C := "FootprintRules$Key") (n := "ROUNDING") (d := "LFootprintRules$Key;") hx hb (hE.enKey.1 4 (by decide)).1 hS hown (hts _ zw_832) (fun _ h9 => h9) dFp_layYard_203 ?_
  refine zcall_l hP hD hS hA [2, 3] [0, 1, 4] (va_runVN (As := [.ref (ad 1 4)]) (rest := []) ⟨hx, hb, hml, hown, hts⟩ (c_Fa_of l dC dI ad a_family a_family_values a_family_letters k_family_values _ 4 v_family_letterCount v_family_kind v_family_values _ h) ⟨va_cnB 1 hts (zgood zc_Fa_of) rfl rfl rfl (hE.nw _ zn_833) (hts _ zw_102) (by decide +kernel) ⟨Nat.le_of_ble_eq_true rfl, Nat.le_of_ble_eq_true rfl⟩, (hts _ zw_716), (hts _ zw_29)⟩ (zpreV hE hK hP hD hS hA [2, 3] [1] (by rfl) (by rfl) (by decide) (ci := 2) (q0 := 2) rfl (by rfl)) rfl rfl hl.1 rfl (lv_room (Nat.le_of_ble_eq_true rfl)) dFp_layYard_206 ⟨Nat.le_of_ble_eq_true rfl, Nat.le_of_ble_eq_true rfl⟩) (by rfl) (by rfl) (by decide) (by decide) (fun r2 u H locs h hP hD hS => ?_)
  try dsimp only at h
  have hP := hP.sub (ws' := (w_Fp_layYard ad a_this a_cells a_family a_yard a_columns a_rows a_line a_family_values a_family_letters k_cells k_family_values k_yard v_this_atHand v_this_count v_this_thermal v_this_density v_this_outerHigh v_this_pasteLeft v_this_pasteLow v_this_nameLength v_this_isWritten v_cells v_family_letterCount v_family_kind v_family_values v_yard)) [0, 1, 3, 4, 2] rfl
  have hD := hD.sub (ws' := (w_Fp_layYard ad a_this a_cells a_family a_yard a_columns a_rows a_line a_family_values a_family_letters k_cells k_family_values k_yard v_this_atHand v_this_count v_this_thermal v_this_density v_this_outerHigh v_this_pasteLeft v_this_pasteLow v_this_nameLength v_this_isWritten v_cells v_family_letterCount v_family_kind v_family_values v_yard)) [0, 1, 3, 4, 2] (by decide) rfl
  refine lv_lstore (lv' := [(16, .long r2), (14, .long r1), (0, .ref a_this), (6, .long y6), (8, .long y8), (10, .long y10), (12, .long y12)]) hx hb dFp_layYard_209 hl (by decide) rfl (fun ls hl => ?_)
  refine lv_aload_n hx hb dFp_layYard_211 rfl (lv_at hl 2 rfl) ?_
  refine va_get (D := (dC, dI)) (ci := 6) (v := .ref a_yard) (C := RFp) (T := TFp) (N := 15) hx hb hts inZ_Fp hown hK hP 0 rfl rfl 7 (by decide) (hts _ zw_291) (fun _ h9 => h9) rfl dFp_layYard_212 ?_
  refine lv_iconst (v := 0) hx hb dFp_layYard_215 (by decide) ?_
  refine lv_lload hx hb dFp_layYard_216 (lv_at hl 3 rfl) ?_
  refine lv_lload hx hb dFp_layYard_218 (lv_at hl 1 rfl) ?_
  refine lv_lsub hx hb dFp_layYard_220 ?_
  refine lv_lload hx hb dFp_layYard_221 (lv_at hl 0 rfl) ?_
  refine zcall_l hP hD hS hA [] [0, 1, 2, 3, 4] (va_runSN (As := [.long (y6 - r1), .long r2]) (rest := [.int 0, .ref a_yard]) ⟨hx, hb, hml, hown, hts⟩ (c_F_down l dC dI ad _ (y6 - r1) r2 _ h) ⟨va_cnB 2 hts (zgood zc_F_down) rfl rfl rfl (hE.nw _ zn_834) (hts _ zw_95) (by decide +kernel) ⟨Nat.le_of_ble_eq_true rfl, Nat.le_of_ble_eq_true rfl⟩, (hts _ zw_778), trivial⟩ (zpreS hE hK hP hD hS hA [] [] (by rfl) (by rfl) (by decide)) rfl rfl hl.1 rfl (lv_room (Nat.le_of_ble_eq_true rfl)) dFp_layYard_223 ⟨Nat.le_of_ble_eq_true rfl, Nat.le_of_ble_eq_true rfl⟩) (by rfl) (by rfl) (by decide) (by decide) (fun r3 u H locs h hP hD hS => ?_)
  try dsimp only at h
  have hP := hP.sub (ws' := (w_Fp_layYard ad a_this a_cells a_family a_yard a_columns a_rows a_line a_family_values a_family_letters k_cells k_family_values k_yard v_this_atHand v_this_count v_this_thermal v_this_density v_this_outerHigh v_this_pasteLeft v_this_pasteLow v_this_nameLength v_this_isWritten v_cells v_family_letterCount v_family_kind v_family_values v_yard)) [0, 1, 2, 3, 4] rfl
  have hD := hD.sub (ws' := (w_Fp_layYard ad a_this a_cells a_family a_yard a_columns a_rows a_line a_family_values a_family_letters k_cells k_family_values k_yard v_this_atHand v_this_count v_this_thermal v_this_density v_this_outerHigh v_this_pasteLeft v_this_pasteLow v_this_nameLength v_this_isWritten v_cells v_family_letterCount v_family_kind v_family_values v_yard)) [0, 1, 2, 3, 4] (by decide) rfl
  obtain ⟨hn4, h⟩ := h
  refine va_last hx hb hK hP hD hS 4 2 rfl rfl hn4 dFp_layYard_226 (fun H locs hP hD hS => ?_)
  have hP : va_P (dC, dI) vwCl (w_Fp_layYard ad a_this a_cells a_family a_yard a_columns a_rows a_line a_family_values a_family_letters k_cells k_family_values k_yard v_this_atHand v_this_count v_this_thermal v_this_density v_this_outerHigh v_this_pasteLeft v_this_pasteLow v_this_nameLength v_this_isWritten v_cells v_family_letterCount v_family_kind v_family_values (vp_updL v_yard (0 : Int32).toNatClampNeg r3)) H := hP
  have hD : va_D A (w_Fp_layYard ad a_this a_cells a_family a_yard a_columns a_rows a_line a_family_values a_family_letters k_cells k_family_values k_yard v_this_atHand v_this_count v_this_thermal v_this_density v_this_outerHigh v_this_pasteLeft v_this_pasteLow v_this_nameLength v_this_isWritten v_cells v_family_letterCount v_family_kind v_family_values (vp_updL v_yard (0 : Int32).toNatClampNeg r3)) := hD
  refine lv_aload_n hx hb dFp_layYard_227 rfl (lv_at hl 2 rfl) ?_
  refine va_get (D := (dC, dI)) (ci := 6) (v := .ref a_yard) (C := RFp) (T := TFp) (N := 15) hx hb hts inZ_Fp hown hK hP 0 rfl rfl 7 (by decide) (hts _ zw_291) (fun _ h9 => h9) rfl dFp_layYard_228 ?_
  refine lv_iconst (v := 1) hx hb dFp_layYard_231 (by decide) ?_
  refine lv_lload hx hb dFp_layYard_232 (lv_at hl 4 rfl) ?_
  refine lv_lload hx hb dFp_layYard_234 (lv_at hl 1 rfl) ?_
  refine lv_lsub hx hb dFp_layYard_236 ?_
  refine lv_lload hx hb dFp_layYard_237 (lv_at hl 0 rfl) ?_
  refine zcall_l hP hD hS hA [] [0, 1, 2, 3, 4] (va_runSN (As := [.long (y8 - r1), .long r2]) (rest := [.int 1, .ref a_yard]) ⟨hx, hb, hml, hown, hts⟩ (c_F_down l dC dI ad _ (y8 - r1) r2 _ h) ⟨va_cnB 2 hts (zgood zc_F_down) rfl rfl rfl (hE.nw _ zn_834) (hts _ zw_95) (by decide +kernel) ⟨Nat.le_of_ble_eq_true rfl, Nat.le_of_ble_eq_true rfl⟩, (hts _ zw_778), trivial⟩ (zpreS hE hK hP hD hS hA [] [] (by rfl) (by rfl) (by decide)) rfl rfl hl.1 rfl (lv_room (Nat.le_of_ble_eq_true rfl)) dFp_layYard_239 ⟨Nat.le_of_ble_eq_true rfl, Nat.le_of_ble_eq_true rfl⟩) (by rfl) (by rfl) (by decide) (by decide) (fun r5 u H locs h hP hD hS => ?_)
  try dsimp only at h
  have hP := hP.sub (ws' := (w_Fp_layYard ad a_this a_cells a_family a_yard a_columns a_rows a_line a_family_values a_family_letters k_cells k_family_values k_yard v_this_atHand v_this_count v_this_thermal v_this_density v_this_outerHigh v_this_pasteLeft v_this_pasteLow v_this_nameLength v_this_isWritten v_cells v_family_letterCount v_family_kind v_family_values (vp_updL v_yard (0 : Int32).toNatClampNeg r3))) [0, 1, 2, 3, 4] rfl
  have hD := hD.sub (ws' := (w_Fp_layYard ad a_this a_cells a_family a_yard a_columns a_rows a_line a_family_values a_family_letters k_cells k_family_values k_yard v_this_atHand v_this_count v_this_thermal v_this_density v_this_outerHigh v_this_pasteLeft v_this_pasteLow v_this_nameLength v_this_isWritten v_cells v_family_letterCount v_family_kind v_family_values (vp_updL v_yard (0 : Int32).toNatClampNeg r3))) [0, 1, 2, 3, 4] (by decide) rfl
  obtain ⟨hn6, h⟩ := h
  refine va_last hx hb hK hP hD hS 4 2 rfl rfl hn6 dFp_layYard_242 (fun H locs hP hD hS => ?_)
  have hP : va_P (dC, dI) vwCl (w_Fp_layYard ad a_this a_cells a_family a_yard a_columns a_rows a_line a_family_values a_family_letters k_cells k_family_values k_yard v_this_atHand v_this_count v_this_thermal v_this_density v_this_outerHigh v_this_pasteLeft v_this_pasteLow v_this_nameLength v_this_isWritten v_cells v_family_letterCount v_family_kind v_family_values (vp_updL (vp_updL v_yard (0 : Int32).toNatClampNeg r3) (1 : Int32).toNatClampNeg r5)) H := hP
  have hD : va_D A (w_Fp_layYard ad a_this a_cells a_family a_yard a_columns a_rows a_line a_family_values a_family_letters k_cells k_family_values k_yard v_this_atHand v_this_count v_this_thermal v_this_density v_this_outerHigh v_this_pasteLeft v_this_pasteLow v_this_nameLength v_this_isWritten v_cells v_family_letterCount v_family_kind v_family_values (vp_updL (vp_updL v_yard (0 : Int32).toNatClampNeg r3) (1 : Int32).toNatClampNeg r5)) := hD
  refine lv_aload_n hx hb dFp_layYard_243 rfl (lv_at hl 2 rfl) ?_
  refine va_get (D := (dC, dI)) (ci := 6) (v := .ref a_yard) (C := RFp) (T := TFp) (N := 15) hx hb hts inZ_Fp hown hK hP 0 rfl rfl 7 (by decide) (hts _ zw_291) (fun _ h9 => h9) rfl dFp_layYard_244 ?_
  refine lv_iconst (v := 2) hx hb dFp_layYard_247 (by decide) ?_
  refine lv_lload hx hb dFp_layYard_248 (lv_at hl 5 rfl) ?_
  refine lv_lload hx hb dFp_layYard_250 (lv_at hl 1 rfl) ?_
  refine lv_ladd hx hb dFp_layYard_252 ?_
  refine lv_lload hx hb dFp_layYard_253 (lv_at hl 0 rfl) ?_
  refine zcall_l hP hD hS hA [] [0, 1, 2, 3, 4] (va_runSN (As := [.long (y10 + r1), .long r2]) (rest := [.int 2, .ref a_yard]) ⟨hx, hb, hml, hown, hts⟩ (c_F_up l dC dI ad _ (y10 + r1) r2 _ h) ⟨va_cnB 2 hts (zgood zc_F_up) rfl rfl rfl (hE.nw _ zn_835) (hts _ zw_95) (by decide +kernel) ⟨Nat.le_of_ble_eq_true rfl, Nat.le_of_ble_eq_true rfl⟩, (hts _ zw_741), trivial⟩ (zpreS hE hK hP hD hS hA [] [] (by rfl) (by rfl) (by decide)) rfl rfl hl.1 rfl (lv_room (Nat.le_of_ble_eq_true rfl)) dFp_layYard_255 ⟨Nat.le_of_ble_eq_true rfl, Nat.le_of_ble_eq_true rfl⟩) (by rfl) (by rfl) (by decide) (by decide) (fun r7 u H locs h hP hD hS => ?_)
  try dsimp only at h
  have hP := hP.sub (ws' := (w_Fp_layYard ad a_this a_cells a_family a_yard a_columns a_rows a_line a_family_values a_family_letters k_cells k_family_values k_yard v_this_atHand v_this_count v_this_thermal v_this_density v_this_outerHigh v_this_pasteLeft v_this_pasteLow v_this_nameLength v_this_isWritten v_cells v_family_letterCount v_family_kind v_family_values (vp_updL (vp_updL v_yard (0 : Int32).toNatClampNeg r3) (1 : Int32).toNatClampNeg r5))) [0, 1, 2, 3, 4] rfl
  have hD := hD.sub (ws' := (w_Fp_layYard ad a_this a_cells a_family a_yard a_columns a_rows a_line a_family_values a_family_letters k_cells k_family_values k_yard v_this_atHand v_this_count v_this_thermal v_this_density v_this_outerHigh v_this_pasteLeft v_this_pasteLow v_this_nameLength v_this_isWritten v_cells v_family_letterCount v_family_kind v_family_values (vp_updL (vp_updL v_yard (0 : Int32).toNatClampNeg r3) (1 : Int32).toNatClampNeg r5))) [0, 1, 2, 3, 4] (by decide) rfl
  obtain ⟨hn8, h⟩ := h
  refine va_last hx hb hK hP hD hS 4 2 rfl rfl hn8 dFp_layYard_258 (fun H locs hP hD hS => ?_)
  have hP : va_P (dC, dI) vwCl (w_Fp_layYard ad a_this a_cells a_family a_yard a_columns a_rows a_line a_family_values a_family_letters k_cells k_family_values k_yard v_this_atHand v_this_count v_this_thermal v_this_density v_this_outerHigh v_this_pasteLeft v_this_pasteLow v_this_nameLength v_this_isWritten v_cells v_family_letterCount v_family_kind v_family_values (vp_updL (vp_updL (vp_updL v_yard (0 : Int32).toNatClampNeg r3) (1 : Int32).toNatClampNeg r5) (2 : Int32).toNatClampNeg r7)) H := hP
  have hD : va_D A (w_Fp_layYard ad a_this a_cells a_family a_yard a_columns a_rows a_line a_family_values a_family_letters k_cells k_family_values k_yard v_this_atHand v_this_count v_this_thermal v_this_density v_this_outerHigh v_this_pasteLeft v_this_pasteLow v_this_nameLength v_this_isWritten v_cells v_family_letterCount v_family_kind v_family_values (vp_updL (vp_updL (vp_updL v_yard (0 : Int32).toNatClampNeg r3) (1 : Int32).toNatClampNeg r5) (2 : Int32).toNatClampNeg r7)) := hD
  refine lv_aload_n hx hb dFp_layYard_259 rfl (lv_at hl 2 rfl) ?_
  refine va_get (D := (dC, dI)) (ci := 6) (v := .ref a_yard) (C := RFp) (T := TFp) (N := 15) hx hb hts inZ_Fp hown hK hP 0 rfl rfl 7 (by decide) (hts _ zw_291) (fun _ h9 => h9) rfl dFp_layYard_260 ?_
  refine lv_iconst (v := 3) hx hb dFp_layYard_263 (by decide) ?_
  refine lv_lload hx hb dFp_layYard_264 (lv_at hl 6 rfl) ?_
  refine lv_lload hx hb dFp_layYard_266 (lv_at hl 1 rfl) ?_
  refine lv_ladd hx hb dFp_layYard_268 ?_
  refine lv_lload hx hb dFp_layYard_269 (lv_at hl 0 rfl) ?_
  refine zcall_l hP hD hS hA [] [0, 1, 2, 3, 4] (va_runSN (As := [.long (y12 + r1), .long r2]) (rest := [.int 3, .ref a_yard]) ⟨hx, hb, hml, hown, hts⟩ (c_F_up l dC dI ad _ (y12 + r1) r2 _ h) ⟨va_cnB 2 hts (zgood zc_F_up) rfl rfl rfl (hE.nw _ zn_835) (hts _ zw_95) (by decide +kernel) ⟨Nat.le_of_ble_eq_true rfl, Nat.le_of_ble_eq_true rfl⟩, (hts _ zw_741), trivial⟩ (zpreS hE hK hP hD hS hA [] [] (by rfl) (by rfl) (by decide)) rfl rfl hl.1 rfl (lv_room (Nat.le_of_ble_eq_true rfl)) dFp_layYard_271 ⟨Nat.le_of_ble_eq_true rfl, Nat.le_of_ble_eq_true rfl⟩) (by rfl) (by rfl) (by decide) (by decide) (fun r9 u H locs h hP hD hS => ?_)
  try dsimp only at h
  have hP := hP.sub (ws' := (w_Fp_layYard ad a_this a_cells a_family a_yard a_columns a_rows a_line a_family_values a_family_letters k_cells k_family_values k_yard v_this_atHand v_this_count v_this_thermal v_this_density v_this_outerHigh v_this_pasteLeft v_this_pasteLow v_this_nameLength v_this_isWritten v_cells v_family_letterCount v_family_kind v_family_values (vp_updL (vp_updL (vp_updL v_yard (0 : Int32).toNatClampNeg r3) (1 : Int32).toNatClampNeg r5) (2 : Int32).toNatClampNeg r7))) [0, 1, 2, 3, 4] rfl
  have hD := hD.sub (ws' := (w_Fp_layYard ad a_this a_cells a_family a_yard a_columns a_rows a_line a_family_values a_family_letters k_cells k_family_values k_yard v_this_atHand v_this_count v_this_thermal v_this_density v_this_outerHigh v_this_pasteLeft v_this_pasteLow v_this_nameLength v_this_isWritten v_cells v_family_letterCount v_family_kind v_family_values (vp_updL (vp_updL (vp_updL v_yard (0 : Int32).toNatClampNeg r3) (1 : Int32).toNatClampNeg r5) (2 : Int32).toNatClampNeg r7))) [0, 1, 2, 3, 4] (by decide) rfl
  obtain ⟨hn10, h⟩ := h
  refine va_last hx hb hK hP hD hS 4 2 rfl rfl hn10 dFp_layYard_274 (fun H locs hP hD hS => ?_)
  have hP : va_P (dC, dI) vwCl (w_Fp_layYard ad a_this a_cells a_family a_yard a_columns a_rows a_line a_family_values a_family_letters k_cells k_family_values k_yard v_this_atHand v_this_count v_this_thermal v_this_density v_this_outerHigh v_this_pasteLeft v_this_pasteLow v_this_nameLength v_this_isWritten v_cells v_family_letterCount v_family_kind v_family_values (vp_updL (vp_updL (vp_updL (vp_updL v_yard (0 : Int32).toNatClampNeg r3) (1 : Int32).toNatClampNeg r5) (2 : Int32).toNatClampNeg r7) (3 : Int32).toNatClampNeg r9)) H := hP
  have hD : va_D A (w_Fp_layYard ad a_this a_cells a_family a_yard a_columns a_rows a_line a_family_values a_family_letters k_cells k_family_values k_yard v_this_atHand v_this_count v_this_thermal v_this_density v_this_outerHigh v_this_pasteLeft v_this_pasteLow v_this_nameLength v_this_isWritten v_cells v_family_letterCount v_family_kind v_family_values (vp_updL (vp_updL (vp_updL (vp_updL v_yard (0 : Int32).toNatClampNeg r3) (1 : Int32).toNatClampNeg r5) (2 : Int32).toNatClampNeg r7) (3 : Int32).toNatClampNeg r9)) := hD
  exact W.vret hx hb hr (fun t ht hW => ⟨⟨(vp_updL (vp_updL (vp_updL (vp_updL v_yard (0 : Int32).toNatClampNeg r3) (1 : Int32).toNatClampNeg r5) (2 : Int32).toNatClampNeg r7) (3 : Int32).toNatClampNeg r9), rfl, h, by rw [ht]; exact hP, hD⟩, hS.F ht⟩) hS.2.2 dFp_layYard_275
def P_Fp_layYard_41 (p1 : Int64) (p3 : Int64) (p5 : Int32) (v_this_count : Int32) (v_this_density : Int32) (v_cells : Nat → Int64) (v_family_values : Nat → Int32) (v_yard : Nat → Int64) (post : (Nat → Int64) → Prop) : Nat → Int64 → Int64 → Int64 → Int64 → Int32 → Prop
  | 0, _, _, _, _, _ => False
  | n + 1, y6, y8, y10, y12, y14 => ((v_this_count ≤ y14 → ((p5 = 0 → P_Fp_layYard_183 v_this_density v_family_values v_yard post y6 y8 y10 y12) ∧ (¬ p5 = 0 → P_JM_min y6 ((-p1) / 2) (fun (r3 : Int64) => P_JM_min y8 ((-p3) / 2) (fun (r4 : Int64) => P_JM_max y10 (p1 / 2) (fun (r5 : Int64) => P_JM_max y12 (p3 / 2) (fun (r6 : Int64) => P_Fp_layYard_183 v_this_density v_family_values v_yard post r3 r4 r5 r6))))))) ∧ (¬ v_this_count ≤ y14 → P_Fp_cell y14 1 v_cells (fun (r7 : Int64) => P_JM_min y6 r7 (fun (r8 : Int64) => P_Fp_cell y14 2 v_cells (fun (r9 : Int64) => P_JM_min y8 r9 (fun (r10 : Int64) => P_Fp_cell y14 1 v_cells (fun (r11 : Int64) => P_Fp_cell y14 3 v_cells (fun (r12 : Int64) => P_JM_max y10 (r11 + r12) (fun (r13 : Int64) => P_Fp_cell y14 2 v_cells (fun (r14 : Int64) => P_Fp_cell y14 4 v_cells (fun (r15 : Int64) => P_JM_max y12 (r14 + r15) (fun (r16 : Int64) => ∀ x17 : Int32, x17 = y14 + 1 → P_Fp_layYard_41 p1 p3 p5 v_this_count v_this_density v_cells v_family_values v_yard post n r8 r10 r13 r16 x17))))))))))))
set_option maxHeartbeats 4000000 in
set_option maxRecDepth 100000 in
theorem w_Fp_layYard_41 (l : Launch) {p : Program} {e : Env} {s : State} {m : MethodId} {args : Array Value} {below : List Frame} {meth : Method} {c : Code} {dC : Nat → ClassId} {dI : Nat → Nat → Nat} {ad : Nat → Nat → Nat} {A : Nat → Prop} (C0 : zC p s m args meth c cFp_layYard 18 RFp zT none A) (hE : zE ad A s) (a_this : Nat) (a_cells : Nat) (a_family : Nat) (a_yard : Nat) (a_columns : Nat) (a_rows : Nat) (a_line : Nat) (a_family_values : Nat) (a_family_letters : Nat) (k_cells : ClassId) (k_family_values : ClassId) (k_yard : ClassId) (p1 : Int64) (p3 : Int64) (p5 : Int32) (v_this_atHand : Int32) (v_this_count : Int32) (v_this_thermal : Int32) (v_this_density : Int32) (v_this_outerHigh : Int64) (v_this_pasteLeft : Int64) (v_this_pasteLow : Int64) (v_this_nameLength : Int32) (v_this_isWritten : Int32) (v_cells : Nat → Int64) (v_family_letterCount : Int32) (v_family_kind : Nat) (v_family_values : Nat → Int32) (v_yard : Nat → Int64) (post : (Nat → Int64) → Prop) (hK : va_K (dC, dI) vwCl [(k_cells, .long), (k_family_values, .int), (k_yard, .long)] s) : ∀ (n : Nat), ∀ (y6 : Int64) (y8 : Int64) (y10 : Int64) (y12 : Int64) (y14 : Int32) (H : Heap) (locs : List Loc), P_Fp_layYard_41 p1 p3 p5 v_this_count v_this_density v_cells v_family_values v_yard post n y6 y8 y10 y12 y14 → va_P (dC, dI) vwCl (w_Fp_layYard ad a_this a_cells a_family a_yard a_columns a_rows a_line a_family_values a_family_letters k_cells k_family_values k_yard v_this_atHand v_this_count v_this_thermal v_this_density v_this_outerHigh v_this_pasteLeft v_this_pasteLow v_this_nameLength v_this_isWritten v_cells v_family_letterCount v_family_kind v_family_values v_yard) H → va_D A (w_Fp_layYard ad a_this a_cells a_family a_yard a_columns a_rows a_line a_family_values a_family_letters k_cells k_family_values k_yard v_this_atHand v_this_count v_this_thermal v_this_density v_this_outerHigh v_this_pasteLeft v_this_pasteLow v_this_nameLength v_this_isWritten v_cells v_family_letterCount v_family_kind v_family_values v_yard) → va_S A s.heap H locs → ∀ ls : Array Slot, lv_has ls 18 [(0, .ref a_this), (1, .long p1), (3, .long p3), (5, .int p5), (6, .long y6), (8, .long y8), (10, .long y10), (12, .long y12), (14, .int y14)] → W p l e (headSpec wsFp_layYard { frames := 2, cells := 0, slots := 0, locals := 48 }).room s m args below meth c H locs 0 0 (MQ below (va_Qv (fun (u : (Nat → Int64)) => post u) (zB (dC, dI) A (fun (u : (Nat → Int64)) => (w_Fp_layYard ad a_this a_cells a_family a_yard a_columns a_rows a_line a_family_values a_family_letters k_cells k_family_values k_yard v_this_atHand v_this_count v_this_thermal v_this_density v_this_outerHigh v_this_pasteLeft v_this_pasteLow v_this_nameLength v_this_isWritten v_cells v_family_letterCount v_family_kind v_family_values u))) A) args s 0 0 A) (F0 m 41 ls []) := by
  obtain ⟨hx, hb, hr, hml, hown, hts, hlocks, hA⟩ := id C0
  intro n
  induction n with
  | zero =>
    intro y6 y8 y10 y12 y14 H locs h
    exact False.elim h
  | succ n ih =>
    intro y6 y8 y10 y12 y14 H locs h hP hD hS ls hl
    rw [P_Fp_layYard_41] at h
    refine lv_iload hx hb dFp_layYard_41 (lv_at hl 8 rfl) ?_
    refine lv_aload_n hx hb dFp_layYard_43 rfl (lv_at hl 0 rfl) ?_
    refine va_get (D := (dC, dI)) (ci := 6) (v := .int v_this_count) (C := RFp) (T := TFp) (N := 15) hx hb hts inZ_Fp hown hK hP 0 rfl rfl 2 (by decide) (hts _ zw_282) (fun _ h9 => h9) rfl dFp_layYard_44 ?_
    refine lv_icmp_ge (tgt := 128) hx hb dFp_layYard_47 (by decide) ?_ ?_
    · intro c1
      replace h := h.1 c1
      refine lv_iload hx hb dFp_layYard_128 (lv_at hl 3 rfl) ?_
      refine lv_if_eq (tgt := 183) hx hb dFp_layYard_130 (by decide) ?_ ?_
      · intro c2
        replace h := h.1 c2
        exact w_Fp_layYard_183 l C0 hE a_this a_cells a_family a_yard a_columns a_rows a_line a_family_values a_family_letters k_cells k_family_values k_yard p1 p3 p5 v_this_atHand v_this_count v_this_thermal v_this_density v_this_outerHigh v_this_pasteLeft v_this_pasteLow v_this_nameLength v_this_isWritten v_cells v_family_letterCount v_family_kind v_family_values v_yard post hK y6 y8 y10 y12 _ _ h hP hD hS ls (lv_sub hl [0, 4, 5, 6, 7] rfl)
      · intro c2
        replace h := h.2 c2
        refine lv_lload hx hb dFp_layYard_133 (lv_at hl 4 rfl) ?_
        refine lv_lload_n hx hb dFp_layYard_135 rfl (lv_at hl 1 rfl) ?_
        refine lv_lneg hx hb dFp_layYard_136 ?_
        refine lv_ldc2 (own := RFp) (index := 76) (v := 2) hx hb hown (hts _ zw_828) dFp_layYard_137 ?_
        refine lv_ldiv hx hb dFp_layYard_140 (by decide) ?_
        refine zcall_l hP hD hS hA [] [0, 1, 2, 3, 4] (va_runS (As := [.long y6, .long ((-p1) / 2)]) (rest := []) ⟨hx, hb, hml, hown, hts⟩ (c_JM_min l dC dI ad _ y6 ((-p1) / 2) _ h) ⟨callB_of 2 hts (zgood zc_JM_min) rfl rfl rfl (hts _ zw_119) (hts _ zw_822) (by decide +kernel) ⟨Nat.le_of_ble_eq_true rfl, Nat.le_of_ble_eq_true rfl⟩, (hts _ zw_823)⟩ (zpreS hE hK hP hD hS hA [] [] (by rfl) (by rfl) (by decide)) rfl rfl hl.1 rfl (lv_room (Nat.le_of_ble_eq_true rfl)) dFp_layYard_141 ⟨Nat.le_of_ble_eq_true rfl, Nat.le_of_ble_eq_true rfl⟩) (by rfl) (by rfl) (by decide) (by decide) (fun r3 u H locs h hP hD hS => ?_)
        try dsimp only at h
        have hP := hP.sub (ws' := (w_Fp_layYard ad a_this a_cells a_family a_yard a_columns a_rows a_line a_family_values a_family_letters k_cells k_family_values k_yard v_this_atHand v_this_count v_this_thermal v_this_density v_this_outerHigh v_this_pasteLeft v_this_pasteLow v_this_nameLength v_this_isWritten v_cells v_family_letterCount v_family_kind v_family_values v_yard)) [0, 1, 2, 3, 4] rfl
        have hD := hD.sub (ws' := (w_Fp_layYard ad a_this a_cells a_family a_yard a_columns a_rows a_line a_family_values a_family_letters k_cells k_family_values k_yard v_this_atHand v_this_count v_this_thermal v_this_density v_this_outerHigh v_this_pasteLeft v_this_pasteLow v_this_nameLength v_this_isWritten v_cells v_family_letterCount v_family_kind v_family_values v_yard)) [0, 1, 2, 3, 4] (by decide) rfl
        refine lv_lstore (lv' := [(6, .long r3), (0, .ref a_this), (1, .long p1), (3, .long p3), (5, .int p5), (8, .long y8), (10, .long y10), (12, .long y12), (14, .int y14)]) hx hb dFp_layYard_144 hl (by decide) rfl (fun ls hl => ?_)
        refine lv_lload hx hb dFp_layYard_146 (lv_at hl 5 rfl) ?_
        refine lv_lload_n hx hb dFp_layYard_148 rfl (lv_at hl 3 rfl) ?_
        refine lv_lneg hx hb dFp_layYard_149 ?_
        refine lv_ldc2 (own := RFp) (index := 76) (v := 2) hx hb hown (hts _ zw_828) dFp_layYard_150 ?_
        refine lv_ldiv hx hb dFp_layYard_153 (by decide) ?_
        refine zcall_l hP hD hS hA [] [0, 1, 2, 3, 4] (va_runS (As := [.long y8, .long ((-p3) / 2)]) (rest := []) ⟨hx, hb, hml, hown, hts⟩ (c_JM_min l dC dI ad _ y8 ((-p3) / 2) _ h) ⟨callB_of 2 hts (zgood zc_JM_min) rfl rfl rfl (hts _ zw_119) (hts _ zw_822) (by decide +kernel) ⟨Nat.le_of_ble_eq_true rfl, Nat.le_of_ble_eq_true rfl⟩, (hts _ zw_823)⟩ (zpreS hE hK hP hD hS hA [] [] (by rfl) (by rfl) (by decide)) rfl rfl hl.1 rfl (lv_room (Nat.le_of_ble_eq_true rfl)) dFp_layYard_154 ⟨Nat.le_of_ble_eq_true rfl, Nat.le_of_ble_eq_true rfl⟩) (by rfl) (by rfl) (by decide) (by decide) (fun r4 u H locs h hP hD hS => ?_)
        try dsimp only at h
        have hP := hP.sub (ws' := (w_Fp_layYard ad a_this a_cells a_family a_yard a_columns a_rows a_line a_family_values a_family_letters k_cells k_family_values k_yard v_this_atHand v_this_count v_this_thermal v_this_density v_this_outerHigh v_this_pasteLeft v_this_pasteLow v_this_nameLength v_this_isWritten v_cells v_family_letterCount v_family_kind v_family_values v_yard)) [0, 1, 2, 3, 4] rfl
        have hD := hD.sub (ws' := (w_Fp_layYard ad a_this a_cells a_family a_yard a_columns a_rows a_line a_family_values a_family_letters k_cells k_family_values k_yard v_this_atHand v_this_count v_this_thermal v_this_density v_this_outerHigh v_this_pasteLeft v_this_pasteLow v_this_nameLength v_this_isWritten v_cells v_family_letterCount v_family_kind v_family_values v_yard)) [0, 1, 2, 3, 4] (by decide) rfl
        refine lv_lstore (lv' := [(8, .long r4), (6, .long r3), (0, .ref a_this), (1, .long p1), (3, .long p3), (5, .int p5), (10, .long y10), (12, .long y12), (14, .int y14)]) hx hb dFp_layYard_157 hl (by decide) rfl (fun ls hl => ?_)
        refine lv_lload hx hb dFp_layYard_159 (lv_at hl 6 rfl) ?_
        refine lv_lload_n hx hb dFp_layYard_161 rfl (lv_at hl 3 rfl) ?_
        refine lv_ldc2 (own := RFp) (index := 76) (v := 2) hx hb hown (hts _ zw_828) dFp_layYard_162 ?_
        refine lv_ldiv hx hb dFp_layYard_165 (by decide) ?_
        refine zcall_l hP hD hS hA [] [0, 1, 2, 3, 4] (va_runS (As := [.long y10, .long (p1 / 2)]) (rest := []) ⟨hx, hb, hml, hown, hts⟩ (c_JM_max l dC dI ad _ y10 (p1 / 2) _ h) ⟨callB_of 2 hts (zgood zc_JM_max) rfl rfl rfl (hts _ zw_119) (hts _ zw_825) (by decide +kernel) ⟨Nat.le_of_ble_eq_true rfl, Nat.le_of_ble_eq_true rfl⟩, (hts _ zw_826)⟩ (zpreS hE hK hP hD hS hA [] [] (by rfl) (by rfl) (by decide)) rfl rfl hl.1 rfl (lv_room (Nat.le_of_ble_eq_true rfl)) dFp_layYard_166 ⟨Nat.le_of_ble_eq_true rfl, Nat.le_of_ble_eq_true rfl⟩) (by rfl) (by rfl) (by decide) (by decide) (fun r5 u H locs h hP hD hS => ?_)
        try dsimp only at h
        have hP := hP.sub (ws' := (w_Fp_layYard ad a_this a_cells a_family a_yard a_columns a_rows a_line a_family_values a_family_letters k_cells k_family_values k_yard v_this_atHand v_this_count v_this_thermal v_this_density v_this_outerHigh v_this_pasteLeft v_this_pasteLow v_this_nameLength v_this_isWritten v_cells v_family_letterCount v_family_kind v_family_values v_yard)) [0, 1, 2, 3, 4] rfl
        have hD := hD.sub (ws' := (w_Fp_layYard ad a_this a_cells a_family a_yard a_columns a_rows a_line a_family_values a_family_letters k_cells k_family_values k_yard v_this_atHand v_this_count v_this_thermal v_this_density v_this_outerHigh v_this_pasteLeft v_this_pasteLow v_this_nameLength v_this_isWritten v_cells v_family_letterCount v_family_kind v_family_values v_yard)) [0, 1, 2, 3, 4] (by decide) rfl
        refine lv_lstore (lv' := [(10, .long r5), (8, .long r4), (6, .long r3), (0, .ref a_this), (1, .long p1), (3, .long p3), (5, .int p5), (12, .long y12), (14, .int y14)]) hx hb dFp_layYard_169 hl (by decide) rfl (fun ls hl => ?_)
        refine lv_lload hx hb dFp_layYard_171 (lv_at hl 7 rfl) ?_
        refine lv_lload_n hx hb dFp_layYard_173 rfl (lv_at hl 5 rfl) ?_
        refine lv_ldc2 (own := RFp) (index := 76) (v := 2) hx hb hown (hts _ zw_828) dFp_layYard_174 ?_
        refine lv_ldiv hx hb dFp_layYard_177 (by decide) ?_
        refine zcall_l hP hD hS hA [] [0, 1, 2, 3, 4] (va_runS (As := [.long y12, .long (p3 / 2)]) (rest := []) ⟨hx, hb, hml, hown, hts⟩ (c_JM_max l dC dI ad _ y12 (p3 / 2) _ h) ⟨callB_of 2 hts (zgood zc_JM_max) rfl rfl rfl (hts _ zw_119) (hts _ zw_825) (by decide +kernel) ⟨Nat.le_of_ble_eq_true rfl, Nat.le_of_ble_eq_true rfl⟩, (hts _ zw_826)⟩ (zpreS hE hK hP hD hS hA [] [] (by rfl) (by rfl) (by decide)) rfl rfl hl.1 rfl (lv_room (Nat.le_of_ble_eq_true rfl)) dFp_layYard_178 ⟨Nat.le_of_ble_eq_true rfl, Nat.le_of_ble_eq_true rfl⟩) (by rfl) (by rfl) (by decide) (by decide) (fun r6 u H locs h hP hD hS => ?_)
        try dsimp only at h
        have hP := hP.sub (ws' := (w_Fp_layYard ad a_this a_cells a_family a_yard a_columns a_rows a_line a_family_values a_family_letters k_cells k_family_values k_yard v_this_atHand v_this_count v_this_thermal v_this_density v_this_outerHigh v_this_pasteLeft v_this_pasteLow v_this_nameLength v_this_isWritten v_cells v_family_letterCount v_family_kind v_family_values v_yard)) [0, 1, 2, 3, 4] rfl
        have hD := hD.sub (ws' := (w_Fp_layYard ad a_this a_cells a_family a_yard a_columns a_rows a_line a_family_values a_family_letters k_cells k_family_values k_yard v_this_atHand v_this_count v_this_thermal v_this_density v_this_outerHigh v_this_pasteLeft v_this_pasteLow v_this_nameLength v_this_isWritten v_cells v_family_letterCount v_family_kind v_family_values v_yard)) [0, 1, 2, 3, 4] (by decide) rfl
        refine lv_lstore (lv' := [(12, .long r6), (10, .long r5), (8, .long r4), (6, .long r3), (0, .ref a_this), (1, .long p1), (3, .long p3), (5, .int p5), (14, .int y14)]) hx hb dFp_layYard_181 hl (by decide) rfl (fun ls hl => ?_)
        exact w_Fp_layYard_183 l C0 hE a_this a_cells a_family a_yard a_columns a_rows a_line a_family_values a_family_letters k_cells k_family_values k_yard p1 p3 p5 v_this_atHand v_this_count v_this_thermal v_this_density v_this_outerHigh v_this_pasteLeft v_this_pasteLow v_this_nameLength v_this_isWritten v_cells v_family_letterCount v_family_kind v_family_values v_yard post hK r3 r4 r5 r6 _ _ h hP hD hS ls (lv_sub hl [4, 3, 2, 1, 0] rfl)
    · intro c1
      replace h := h.2 c1
      refine lv_lload hx hb dFp_layYard_50 (lv_at hl 4 rfl) ?_
      refine lv_aload_n hx hb dFp_layYard_52 rfl (lv_at hl 0 rfl) ?_
      refine lv_iload hx hb dFp_layYard_53 (lv_at hl 8 rfl) ?_
      refine lv_iconst (v := 1) hx hb dFp_layYard_55 (by decide) ?_
      refine zcall_l hP hD hS hA [0, 1] [2, 3, 4] (va_runV (As := [.int y14, .int 1]) (rest := [.long y6]) ⟨hx, hb, hml, hown, hts⟩ (c_Fp_cell l dC dI ad a_this a_cells a_family a_yard a_columns a_rows a_line k_cells _ y14 1 v_this_atHand v_this_count v_this_thermal v_this_density v_this_outerHigh v_this_pasteLeft v_this_pasteLow v_this_nameLength v_this_isWritten v_cells _ h) ⟨callB_of 2 hts (zgood zc_Fp_cell) rfl rfl rfl (hts _ zw_101) (hts _ zw_818) (by decide +kernel) ⟨Nat.le_of_ble_eq_true rfl, Nat.le_of_ble_eq_true rfl⟩, (hts _ zw_820), (hts _ zw_46)⟩ (zpreV hE hK hP hD hS hA [0, 1] [0] (by rfl) (by rfl) (by decide) (ci := 6) (q0 := 0) rfl (by rfl)) rfl rfl hl.1 rfl (lv_room (Nat.le_of_ble_eq_true rfl)) dFp_layYard_56 ⟨Nat.le_of_ble_eq_true rfl, Nat.le_of_ble_eq_true rfl⟩) (by rfl) (by rfl) (by decide) (by decide) (fun r7 u H locs h hP hD hS => ?_)
      try dsimp only at h
      have hP := hP.sub (ws' := (w_Fp_layYard ad a_this a_cells a_family a_yard a_columns a_rows a_line a_family_values a_family_letters k_cells k_family_values k_yard v_this_atHand v_this_count v_this_thermal v_this_density v_this_outerHigh v_this_pasteLeft v_this_pasteLow v_this_nameLength v_this_isWritten v_cells v_family_letterCount v_family_kind v_family_values v_yard)) [3, 4, 0, 1, 2] rfl
      have hD := hD.sub (ws' := (w_Fp_layYard ad a_this a_cells a_family a_yard a_columns a_rows a_line a_family_values a_family_letters k_cells k_family_values k_yard v_this_atHand v_this_count v_this_thermal v_this_density v_this_outerHigh v_this_pasteLeft v_this_pasteLow v_this_nameLength v_this_isWritten v_cells v_family_letterCount v_family_kind v_family_values v_yard)) [3, 4, 0, 1, 2] (by decide) rfl
      refine zcall_l hP hD hS hA [] [0, 1, 2, 3, 4] (va_runS (As := [.long y6, .long r7]) (rest := []) ⟨hx, hb, hml, hown, hts⟩ (c_JM_min l dC dI ad _ y6 r7 _ h) ⟨callB_of 2 hts (zgood zc_JM_min) rfl rfl rfl (hts _ zw_119) (hts _ zw_822) (by decide +kernel) ⟨Nat.le_of_ble_eq_true rfl, Nat.le_of_ble_eq_true rfl⟩, (hts _ zw_823)⟩ (zpreS hE hK hP hD hS hA [] [] (by rfl) (by rfl) (by decide)) rfl rfl hl.1 rfl (lv_room (Nat.le_of_ble_eq_true rfl)) dFp_layYard_59 ⟨Nat.le_of_ble_eq_true rfl, Nat.le_of_ble_eq_true rfl⟩) (by rfl) (by rfl) (by decide) (by decide) (fun r8 u H locs h hP hD hS => ?_)
      try dsimp only at h
      have hP := hP.sub (ws' := (w_Fp_layYard ad a_this a_cells a_family a_yard a_columns a_rows a_line a_family_values a_family_letters k_cells k_family_values k_yard v_this_atHand v_this_count v_this_thermal v_this_density v_this_outerHigh v_this_pasteLeft v_this_pasteLow v_this_nameLength v_this_isWritten v_cells v_family_letterCount v_family_kind v_family_values v_yard)) [0, 1, 2, 3, 4] rfl
      have hD := hD.sub (ws' := (w_Fp_layYard ad a_this a_cells a_family a_yard a_columns a_rows a_line a_family_values a_family_letters k_cells k_family_values k_yard v_this_atHand v_this_count v_this_thermal v_this_density v_this_outerHigh v_this_pasteLeft v_this_pasteLow v_this_nameLength v_this_isWritten v_cells v_family_letterCount v_family_kind v_family_values v_yard)) [0, 1, 2, 3, 4] (by decide) rfl
      refine lv_lstore (lv' := [(6, .long r8), (0, .ref a_this), (1, .long p1), (3, .long p3), (5, .int p5), (8, .long y8), (10, .long y10), (12, .long y12), (14, .int y14)]) hx hb dFp_layYard_62 hl (by decide) rfl (fun ls hl => ?_)
      refine lv_lload hx hb dFp_layYard_64 (lv_at hl 5 rfl) ?_
      refine lv_aload_n hx hb dFp_layYard_66 rfl (lv_at hl 1 rfl) ?_
      refine lv_iload hx hb dFp_layYard_67 (lv_at hl 8 rfl) ?_
      refine lv_iconst (v := 2) hx hb dFp_layYard_69 (by decide) ?_
      refine zcall_l hP hD hS hA [0, 1] [2, 3, 4] (va_runV (As := [.int y14, .int 2]) (rest := [.long y8]) ⟨hx, hb, hml, hown, hts⟩ (c_Fp_cell l dC dI ad a_this a_cells a_family a_yard a_columns a_rows a_line k_cells _ y14 2 v_this_atHand v_this_count v_this_thermal v_this_density v_this_outerHigh v_this_pasteLeft v_this_pasteLow v_this_nameLength v_this_isWritten v_cells _ h) ⟨callB_of 2 hts (zgood zc_Fp_cell) rfl rfl rfl (hts _ zw_101) (hts _ zw_818) (by decide +kernel) ⟨Nat.le_of_ble_eq_true rfl, Nat.le_of_ble_eq_true rfl⟩, (hts _ zw_820), (hts _ zw_46)⟩ (zpreV hE hK hP hD hS hA [0, 1] [0] (by rfl) (by rfl) (by decide) (ci := 6) (q0 := 0) rfl (by rfl)) rfl rfl hl.1 rfl (lv_room (Nat.le_of_ble_eq_true rfl)) dFp_layYard_70 ⟨Nat.le_of_ble_eq_true rfl, Nat.le_of_ble_eq_true rfl⟩) (by rfl) (by rfl) (by decide) (by decide) (fun r9 u H locs h hP hD hS => ?_)
      try dsimp only at h
      have hP := hP.sub (ws' := (w_Fp_layYard ad a_this a_cells a_family a_yard a_columns a_rows a_line a_family_values a_family_letters k_cells k_family_values k_yard v_this_atHand v_this_count v_this_thermal v_this_density v_this_outerHigh v_this_pasteLeft v_this_pasteLow v_this_nameLength v_this_isWritten v_cells v_family_letterCount v_family_kind v_family_values v_yard)) [3, 4, 0, 1, 2] rfl
      have hD := hD.sub (ws' := (w_Fp_layYard ad a_this a_cells a_family a_yard a_columns a_rows a_line a_family_values a_family_letters k_cells k_family_values k_yard v_this_atHand v_this_count v_this_thermal v_this_density v_this_outerHigh v_this_pasteLeft v_this_pasteLow v_this_nameLength v_this_isWritten v_cells v_family_letterCount v_family_kind v_family_values v_yard)) [3, 4, 0, 1, 2] (by decide) rfl
      refine zcall_l hP hD hS hA [] [0, 1, 2, 3, 4] (va_runS (As := [.long y8, .long r9]) (rest := []) ⟨hx, hb, hml, hown, hts⟩ (c_JM_min l dC dI ad _ y8 r9 _ h) ⟨callB_of 2 hts (zgood zc_JM_min) rfl rfl rfl (hts _ zw_119) (hts _ zw_822) (by decide +kernel) ⟨Nat.le_of_ble_eq_true rfl, Nat.le_of_ble_eq_true rfl⟩, (hts _ zw_823)⟩ (zpreS hE hK hP hD hS hA [] [] (by rfl) (by rfl) (by decide)) rfl rfl hl.1 rfl (lv_room (Nat.le_of_ble_eq_true rfl)) dFp_layYard_73 ⟨Nat.le_of_ble_eq_true rfl, Nat.le_of_ble_eq_true rfl⟩) (by rfl) (by rfl) (by decide) (by decide) (fun r10 u H locs h hP hD hS => ?_)
      try dsimp only at h
      have hP := hP.sub (ws' := (w_Fp_layYard ad a_this a_cells a_family a_yard a_columns a_rows a_line a_family_values a_family_letters k_cells k_family_values k_yard v_this_atHand v_this_count v_this_thermal v_this_density v_this_outerHigh v_this_pasteLeft v_this_pasteLow v_this_nameLength v_this_isWritten v_cells v_family_letterCount v_family_kind v_family_values v_yard)) [0, 1, 2, 3, 4] rfl
      have hD := hD.sub (ws' := (w_Fp_layYard ad a_this a_cells a_family a_yard a_columns a_rows a_line a_family_values a_family_letters k_cells k_family_values k_yard v_this_atHand v_this_count v_this_thermal v_this_density v_this_outerHigh v_this_pasteLeft v_this_pasteLow v_this_nameLength v_this_isWritten v_cells v_family_letterCount v_family_kind v_family_values v_yard)) [0, 1, 2, 3, 4] (by decide) rfl
      refine lv_lstore (lv' := [(8, .long r10), (6, .long r8), (0, .ref a_this), (1, .long p1), (3, .long p3), (5, .int p5), (10, .long y10), (12, .long y12), (14, .int y14)]) hx hb dFp_layYard_76 hl (by decide) rfl (fun ls hl => ?_)
      refine lv_lload hx hb dFp_layYard_78 (lv_at hl 6 rfl) ?_
      refine lv_aload_n hx hb dFp_layYard_80 rfl (lv_at hl 2 rfl) ?_
      refine lv_iload hx hb dFp_layYard_81 (lv_at hl 8 rfl) ?_
      refine lv_iconst (v := 1) hx hb dFp_layYard_83 (by decide) ?_
      refine zcall_l hP hD hS hA [0, 1] [2, 3, 4] (va_runV (As := [.int y14, .int 1]) (rest := [.long y10]) ⟨hx, hb, hml, hown, hts⟩ (c_Fp_cell l dC dI ad a_this a_cells a_family a_yard a_columns a_rows a_line k_cells _ y14 1 v_this_atHand v_this_count v_this_thermal v_this_density v_this_outerHigh v_this_pasteLeft v_this_pasteLow v_this_nameLength v_this_isWritten v_cells _ h) ⟨callB_of 2 hts (zgood zc_Fp_cell) rfl rfl rfl (hts _ zw_101) (hts _ zw_818) (by decide +kernel) ⟨Nat.le_of_ble_eq_true rfl, Nat.le_of_ble_eq_true rfl⟩, (hts _ zw_820), (hts _ zw_46)⟩ (zpreV hE hK hP hD hS hA [0, 1] [0] (by rfl) (by rfl) (by decide) (ci := 6) (q0 := 0) rfl (by rfl)) rfl rfl hl.1 rfl (lv_room (Nat.le_of_ble_eq_true rfl)) dFp_layYard_84 ⟨Nat.le_of_ble_eq_true rfl, Nat.le_of_ble_eq_true rfl⟩) (by rfl) (by rfl) (by decide) (by decide) (fun r11 u H locs h hP hD hS => ?_)
      try dsimp only at h
      have hP := hP.sub (ws' := (w_Fp_layYard ad a_this a_cells a_family a_yard a_columns a_rows a_line a_family_values a_family_letters k_cells k_family_values k_yard v_this_atHand v_this_count v_this_thermal v_this_density v_this_outerHigh v_this_pasteLeft v_this_pasteLow v_this_nameLength v_this_isWritten v_cells v_family_letterCount v_family_kind v_family_values v_yard)) [3, 4, 0, 1, 2] rfl
      have hD := hD.sub (ws' := (w_Fp_layYard ad a_this a_cells a_family a_yard a_columns a_rows a_line a_family_values a_family_letters k_cells k_family_values k_yard v_this_atHand v_this_count v_this_thermal v_this_density v_this_outerHigh v_this_pasteLeft v_this_pasteLow v_this_nameLength v_this_isWritten v_cells v_family_letterCount v_family_kind v_family_values v_yard)) [3, 4, 0, 1, 2] (by decide) rfl
      refine lv_aload_n hx hb dFp_layYard_87 rfl (lv_at hl 2 rfl) ?_
      refine lv_iload hx hb dFp_layYard_88 (lv_at hl 8 rfl) ?_
      refine lv_iconst (v := 3) hx hb dFp_layYard_90 (by decide) ?_
      refine zcall_l hP hD hS hA [0, 1] [2, 3, 4] (va_runV (As := [.int y14, .int 3]) (rest := [.long r11, .long y10]) ⟨hx, hb, hml, hown, hts⟩ (c_Fp_cell l dC dI ad a_this a_cells a_family a_yard a_columns a_rows a_line k_cells _ y14 3 v_this_atHand v_this_count v_this_thermal v_this_density v_this_outerHigh v_this_pasteLeft v_this_pasteLow v_this_nameLength v_this_isWritten v_cells _ h) ⟨callB_of 2 hts (zgood zc_Fp_cell) rfl rfl rfl (hts _ zw_101) (hts _ zw_818) (by decide +kernel) ⟨Nat.le_of_ble_eq_true rfl, Nat.le_of_ble_eq_true rfl⟩, (hts _ zw_820), (hts _ zw_46)⟩ (zpreV hE hK hP hD hS hA [0, 1] [0] (by rfl) (by rfl) (by decide) (ci := 6) (q0 := 0) rfl (by rfl)) rfl rfl hl.1 rfl (lv_room (Nat.le_of_ble_eq_true rfl)) dFp_layYard_91 ⟨Nat.le_of_ble_eq_true rfl, Nat.le_of_ble_eq_true rfl⟩) (by rfl) (by rfl) (by decide) (by decide) (fun r12 u H locs h hP hD hS => ?_)
      try dsimp only at h
      have hP := hP.sub (ws' := (w_Fp_layYard ad a_this a_cells a_family a_yard a_columns a_rows a_line a_family_values a_family_letters k_cells k_family_values k_yard v_this_atHand v_this_count v_this_thermal v_this_density v_this_outerHigh v_this_pasteLeft v_this_pasteLow v_this_nameLength v_this_isWritten v_cells v_family_letterCount v_family_kind v_family_values v_yard)) [3, 4, 0, 1, 2] rfl
      have hD := hD.sub (ws' := (w_Fp_layYard ad a_this a_cells a_family a_yard a_columns a_rows a_line a_family_values a_family_letters k_cells k_family_values k_yard v_this_atHand v_this_count v_this_thermal v_this_density v_this_outerHigh v_this_pasteLeft v_this_pasteLow v_this_nameLength v_this_isWritten v_cells v_family_letterCount v_family_kind v_family_values v_yard)) [3, 4, 0, 1, 2] (by decide) rfl
      refine lv_ladd hx hb dFp_layYard_94 ?_
      refine zcall_l hP hD hS hA [] [0, 1, 2, 3, 4] (va_runS (As := [.long y10, .long (r11 + r12)]) (rest := []) ⟨hx, hb, hml, hown, hts⟩ (c_JM_max l dC dI ad _ y10 (r11 + r12) _ h) ⟨callB_of 2 hts (zgood zc_JM_max) rfl rfl rfl (hts _ zw_119) (hts _ zw_825) (by decide +kernel) ⟨Nat.le_of_ble_eq_true rfl, Nat.le_of_ble_eq_true rfl⟩, (hts _ zw_826)⟩ (zpreS hE hK hP hD hS hA [] [] (by rfl) (by rfl) (by decide)) rfl rfl hl.1 rfl (lv_room (Nat.le_of_ble_eq_true rfl)) dFp_layYard_95 ⟨Nat.le_of_ble_eq_true rfl, Nat.le_of_ble_eq_true rfl⟩) (by rfl) (by rfl) (by decide) (by decide) (fun r13 u H locs h hP hD hS => ?_)
      try dsimp only at h
      have hP := hP.sub (ws' := (w_Fp_layYard ad a_this a_cells a_family a_yard a_columns a_rows a_line a_family_values a_family_letters k_cells k_family_values k_yard v_this_atHand v_this_count v_this_thermal v_this_density v_this_outerHigh v_this_pasteLeft v_this_pasteLow v_this_nameLength v_this_isWritten v_cells v_family_letterCount v_family_kind v_family_values v_yard)) [0, 1, 2, 3, 4] rfl
      have hD := hD.sub (ws' := (w_Fp_layYard ad a_this a_cells a_family a_yard a_columns a_rows a_line a_family_values a_family_letters k_cells k_family_values k_yard v_this_atHand v_this_count v_this_thermal v_this_density v_this_outerHigh v_this_pasteLeft v_this_pasteLow v_this_nameLength v_this_isWritten v_cells v_family_letterCount v_family_kind v_family_values v_yard)) [0, 1, 2, 3, 4] (by decide) rfl
      refine lv_lstore (lv' := [(10, .long r13), (8, .long r10), (6, .long r8), (0, .ref a_this), (1, .long p1), (3, .long p3), (5, .int p5), (12, .long y12), (14, .int y14)]) hx hb dFp_layYard_98 hl (by decide) rfl (fun ls hl => ?_)
      refine lv_lload hx hb dFp_layYard_100 (lv_at hl 7 rfl) ?_
      refine lv_aload_n hx hb dFp_layYard_102 rfl (lv_at hl 3 rfl) ?_
      refine lv_iload hx hb dFp_layYard_103 (lv_at hl 8 rfl) ?_
      refine lv_iconst (v := 2) hx hb dFp_layYard_105 (by decide) ?_
      refine zcall_l hP hD hS hA [0, 1] [2, 3, 4] (va_runV (As := [.int y14, .int 2]) (rest := [.long y12]) ⟨hx, hb, hml, hown, hts⟩ (c_Fp_cell l dC dI ad a_this a_cells a_family a_yard a_columns a_rows a_line k_cells _ y14 2 v_this_atHand v_this_count v_this_thermal v_this_density v_this_outerHigh v_this_pasteLeft v_this_pasteLow v_this_nameLength v_this_isWritten v_cells _ h) ⟨callB_of 2 hts (zgood zc_Fp_cell) rfl rfl rfl (hts _ zw_101) (hts _ zw_818) (by decide +kernel) ⟨Nat.le_of_ble_eq_true rfl, Nat.le_of_ble_eq_true rfl⟩, (hts _ zw_820), (hts _ zw_46)⟩ (zpreV hE hK hP hD hS hA [0, 1] [0] (by rfl) (by rfl) (by decide) (ci := 6) (q0 := 0) rfl (by rfl)) rfl rfl hl.1 rfl (lv_room (Nat.le_of_ble_eq_true rfl)) dFp_layYard_106 ⟨Nat.le_of_ble_eq_true rfl, Nat.le_of_ble_eq_true rfl⟩) (by rfl) (by rfl) (by decide) (by decide) (fun r14 u H locs h hP hD hS => ?_)
      try dsimp only at h
      have hP := hP.sub (ws' := (w_Fp_layYard ad a_this a_cells a_family a_yard a_columns a_rows a_line a_family_values a_family_letters k_cells k_family_values k_yard v_this_atHand v_this_count v_this_thermal v_this_density v_this_outerHigh v_this_pasteLeft v_this_pasteLow v_this_nameLength v_this_isWritten v_cells v_family_letterCount v_family_kind v_family_values v_yard)) [3, 4, 0, 1, 2] rfl
      have hD := hD.sub (ws' := (w_Fp_layYard ad a_this a_cells a_family a_yard a_columns a_rows a_line a_family_values a_family_letters k_cells k_family_values k_yard v_this_atHand v_this_count v_this_thermal v_this_density v_this_outerHigh v_this_pasteLeft v_this_pasteLow v_this_nameLength v_this_isWritten v_cells v_family_letterCount v_family_kind v_family_values v_yard)) [3, 4, 0, 1, 2] (by decide) rfl
      refine lv_aload_n hx hb dFp_layYard_109 rfl (lv_at hl 3 rfl) ?_
      refine lv_iload hx hb dFp_layYard_110 (lv_at hl 8 rfl) ?_
      refine lv_iconst (v := 4) hx hb dFp_layYard_112 (by decide) ?_
      refine zcall_l hP hD hS hA [0, 1] [2, 3, 4] (va_runV (As := [.int y14, .int 4]) (rest := [.long r14, .long y12]) ⟨hx, hb, hml, hown, hts⟩ (c_Fp_cell l dC dI ad a_this a_cells a_family a_yard a_columns a_rows a_line k_cells _ y14 4 v_this_atHand v_this_count v_this_thermal v_this_density v_this_outerHigh v_this_pasteLeft v_this_pasteLow v_this_nameLength v_this_isWritten v_cells _ h) ⟨callB_of 2 hts (zgood zc_Fp_cell) rfl rfl rfl (hts _ zw_101) (hts _ zw_818) (by decide +kernel) ⟨Nat.le_of_ble_eq_true rfl, Nat.le_of_ble_eq_true rfl⟩, (hts _ zw_820), (hts _ zw_46)⟩ (zpreV hE hK hP hD hS hA [0, 1] [0] (by rfl) (by rfl) (by decide) (ci := 6) (q0 := 0) rfl (by rfl)) rfl rfl hl.1 rfl (lv_room (Nat.le_of_ble_eq_true rfl)) dFp_layYard_113 ⟨Nat.le_of_ble_eq_true rfl, Nat.le_of_ble_eq_true rfl⟩) (by rfl) (by rfl) (by decide) (by decide) (fun r15 u H locs h hP hD hS => ?_)
      try dsimp only at h
      have hP := hP.sub (ws' := (w_Fp_layYard ad a_this a_cells a_family a_yard a_columns a_rows a_line a_family_values a_family_letters k_cells k_family_values k_yard v_this_atHand v_this_count v_this_thermal v_this_density v_this_outerHigh v_this_pasteLeft v_this_pasteLow v_this_nameLength v_this_isWritten v_cells v_family_letterCount v_family_kind v_family_values v_yard)) [3, 4, 0, 1, 2] rfl
      have hD := hD.sub (ws' := (w_Fp_layYard ad a_this a_cells a_family a_yard a_columns a_rows a_line a_family_values a_family_letters k_cells k_family_values k_yard v_this_atHand v_this_count v_this_thermal v_this_density v_this_outerHigh v_this_pasteLeft v_this_pasteLow v_this_nameLength v_this_isWritten v_cells v_family_letterCount v_family_kind v_family_values v_yard)) [3, 4, 0, 1, 2] (by decide) rfl
      refine lv_ladd hx hb dFp_layYard_116 ?_
      refine zcall_l hP hD hS hA [] [0, 1, 2, 3, 4] (va_runS (As := [.long y12, .long (r14 + r15)]) (rest := []) ⟨hx, hb, hml, hown, hts⟩ (c_JM_max l dC dI ad _ y12 (r14 + r15) _ h) ⟨callB_of 2 hts (zgood zc_JM_max) rfl rfl rfl (hts _ zw_119) (hts _ zw_825) (by decide +kernel) ⟨Nat.le_of_ble_eq_true rfl, Nat.le_of_ble_eq_true rfl⟩, (hts _ zw_826)⟩ (zpreS hE hK hP hD hS hA [] [] (by rfl) (by rfl) (by decide)) rfl rfl hl.1 rfl (lv_room (Nat.le_of_ble_eq_true rfl)) dFp_layYard_117 ⟨Nat.le_of_ble_eq_true rfl, Nat.le_of_ble_eq_true rfl⟩) (by rfl) (by rfl) (by decide) (by decide) (fun r16 u H locs h hP hD hS => ?_)
      try dsimp only at h
      have hP := hP.sub (ws' := (w_Fp_layYard ad a_this a_cells a_family a_yard a_columns a_rows a_line a_family_values a_family_letters k_cells k_family_values k_yard v_this_atHand v_this_count v_this_thermal v_this_density v_this_outerHigh v_this_pasteLeft v_this_pasteLow v_this_nameLength v_this_isWritten v_cells v_family_letterCount v_family_kind v_family_values v_yard)) [0, 1, 2, 3, 4] rfl
      have hD := hD.sub (ws' := (w_Fp_layYard ad a_this a_cells a_family a_yard a_columns a_rows a_line a_family_values a_family_letters k_cells k_family_values k_yard v_this_atHand v_this_count v_this_thermal v_this_density v_this_outerHigh v_this_pasteLeft v_this_pasteLow v_this_nameLength v_this_isWritten v_cells v_family_letterCount v_family_kind v_family_values v_yard)) [0, 1, 2, 3, 4] (by decide) rfl
      refine lv_lstore (lv' := [(12, .long r16), (10, .long r13), (8, .long r10), (6, .long r8), (0, .ref a_this), (1, .long p1), (3, .long p3), (5, .int p5), (14, .int y14)]) hx hb dFp_layYard_120 hl (by decide) rfl (fun ls hl => ?_)
      obtain ⟨x17, ex17⟩ : ∃ y : Int32, y = y14 + 1 := ⟨_, rfl⟩
      replace h := h x17 ex17
      refine lv_iinc (v := x17) (lv' := [(14, .int x17), (12, .long r16), (10, .long r13), (8, .long r10), (6, .long r8), (0, .ref a_this), (1, .long p1), (3, .long p3), (5, .int p5)]) hx hb dFp_layYard_122 hl (k := 8) rfl (by rw [ex17]; rfl) (by decide) rfl (fun ls hl => ?_)
      refine lv_goto (tgt := 41) hx hb dFp_layYard_125 (by decide) ?_
      exact ih r8 r10 r13 r16 x17 _ _ h hP hD hS ls (lv_sub hl [5, 6, 7, 8, 4, 3, 2, 1, 0] rfl)
def P_Fp_layYard (p1 : Int64) (p3 : Int64) (p5 : Int32) (v_this_count : Int32) (v_this_density : Int32) (v_cells : Nat → Int64) (v_family_values : Nat → Int32) (v_yard : Nat → Int64) (post : (Nat → Int64) → Prop) : Prop := P_Fp_cell 0 1 v_cells (fun (r1 : Int64) => P_Fp_cell 0 2 v_cells (fun (r2 : Int64) => P_Fp_cell 0 3 v_cells (fun (r3 : Int64) => ∀ x4 : Int64, x4 = r1 + r3 → P_Fp_cell 0 4 v_cells (fun (r5 : Int64) => ∀ x6 : Int64, x6 = r2 + r5 → ∃ n7, P_Fp_layYard_41 p1 p3 p5 v_this_count v_this_density v_cells v_family_values v_yard post n7 r1 r2 x4 x6 1))))
set_option maxHeartbeats 4000000 in
set_option maxRecDepth 100000 in
theorem c_Fp_layYard (l : Launch) (dC : Nat → ClassId) (dI : Nat → Nat → Nat) (ad : Nat → Nat → Nat) (a_this : Nat) (a_cells : Nat) (a_family : Nat) (a_yard : Nat) (a_columns : Nat) (a_rows : Nat) (a_line : Nat) (a_family_values : Nat) (a_family_letters : Nat) (k_cells : ClassId) (k_family_values : ClassId) (k_yard : ClassId) (sz : Nat) (p1 : Int64) (p3 : Int64) (p5 : Int32) (v_this_atHand : Int32) (v_this_count : Int32) (v_this_thermal : Int32) (v_this_density : Int32) (v_this_outerHigh : Int64) (v_this_pasteLeft : Int64) (v_this_pasteLow : Int64) (v_this_nameLength : Int32) (v_this_isWritten : Int32) (v_cells : Nat → Int64) (v_family_letterCount : Int32) (v_family_kind : Nat) (v_family_values : Nat → Int32) (v_yard : Nat → Int64) (post : (Nat → Int64) → Prop) (h : P_Fp_layYard p1 p3 p5 v_this_count v_this_density v_cells v_family_values v_yard post) : zMv l yFp_layYard wsFp_layYard { frames := 2, cells := 0, slots := 0, locals := 48 } (dC, dI) ad [.ref a_this, .long p1, .long p3, .int p5] (w_Fp_layYard ad a_this a_cells a_family a_yard a_columns a_rows a_line a_family_values a_family_letters k_cells k_family_values k_yard v_this_atHand v_this_count v_this_thermal v_this_density v_this_outerHigh v_this_pasteLeft v_this_pasteLow v_this_nameLength v_this_isWritten v_cells v_family_letterCount v_family_kind v_family_values v_yard) [(k_cells, .long), (k_family_values, .int), (k_yard, .long)] sz (fun (u : (Nat → Int64)) => post u) (fun (u : (Nat → Int64)) => (w_Fp_layYard ad a_this a_cells a_family a_yard a_columns a_rows a_line a_family_values a_family_letters k_cells k_family_values k_yard v_this_atHand v_this_count v_this_thermal v_this_density v_this_outerHigh v_this_pasteLeft v_this_pasteLow v_this_nameLength v_this_isWritten v_cells v_family_letterCount v_family_kind v_family_values u)) 0 0 := by
  refine Met.ofW (cc := cFp_layYard) (maxL := 18) (ret := none) (by decide +kernel) rfl ?_
  intro p e s m args below meth c s₁ B hml hv
  obtain ⟨rfl, hsz, hP, hK, hD0, hE⟩ := hv
  have hx := B.exec
  have hb := B.bytes
  have hr := B.returns
  have hts0 := atoms_spec (ws := wsFp_layYard) B.pre
  have hts := fun w h => hts0 w (List.mem_cons_of_mem _ h)
  have hown : s.vm.findClass RFp = some m.cls := findClass_of_methodNamed B.named
  have hlocks := B.notSynchronized
  subst hsz
  have hD := hD0.self (sz := s.heap.size)
  generalize hAe : va_A (w_Fp_layYard ad a_this a_cells a_family a_yard a_columns a_rows a_line a_family_values a_family_letters k_cells k_family_values k_yard v_this_atHand v_this_count v_this_thermal v_this_density v_this_outerHigh v_this_pasteLeft v_this_pasteLow v_this_nameLength v_this_isWritten v_cells v_family_letterCount v_family_kind v_family_values v_yard) s.heap.size = A at hD hE ⊢
  have hA : ∀ q : Nat, s.heap.size ≤ q → A q := fun q h => by rw [← hAe]; exact Or.inr h
  have C0 := zC.mk hx hb hr hml hown hts hlocks hA
  have hS : va_S A s.heap s.heap [] := va_S.rf
  have hl := lv_entry ([.ref a_this, .long p1, .long p3, .int p5]) (n := 18) (Nat.le_of_ble_eq_true rfl)
  rw [lg_entry_eq]
  generalize (lg_sl ([.ref a_this, .long p1, .long p3, .int p5]) ++ List.replicate (18 - (lg_sl ([.ref a_this, .long p1, .long p3, .int p5])).length) Slot.unset).toArray = ls at hl ⊢
  have hl : lv_has ls 18 [(0, .ref a_this), (1, .long p1), (3, .long p3), (5, .int p5)] := hl
  unfold P_Fp_layYard at h
  refine lv_aload_n hx hb dFp_layYard_0 rfl (lv_at hl 0 rfl) ?_
  refine lv_iconst (v := 0) hx hb dFp_layYard_1 (by decide) ?_
  refine lv_iconst (v := 1) hx hb dFp_layYard_2 (by decide) ?_
  refine zcall_l hP hD hS hA [0, 1] [2, 3, 4] (va_runV (As := [.int 0, .int 1]) (rest := []) ⟨hx, hb, hml, hown, hts⟩ (c_Fp_cell l dC dI ad a_this a_cells a_family a_yard a_columns a_rows a_line k_cells _ 0 1 v_this_atHand v_this_count v_this_thermal v_this_density v_this_outerHigh v_this_pasteLeft v_this_pasteLow v_this_nameLength v_this_isWritten v_cells _ h) ⟨callB_of 2 hts (zgood zc_Fp_cell) rfl rfl rfl (hts _ zw_101) (hts _ zw_818) (by decide +kernel) ⟨Nat.le_of_ble_eq_true rfl, Nat.le_of_ble_eq_true rfl⟩, (hts _ zw_820), (hts _ zw_46)⟩ (zpreV hE hK hP hD hS hA [0, 1] [0] (by rfl) (by rfl) (by decide) (ci := 6) (q0 := 0) rfl (by rfl)) rfl rfl hl.1 rfl (lv_room (Nat.le_of_ble_eq_true rfl)) dFp_layYard_3 ⟨Nat.le_of_ble_eq_true rfl, Nat.le_of_ble_eq_true rfl⟩) (by rfl) (by rfl) (by decide) (by decide) (fun r1 u H locs h hP hD hS => ?_)
  try dsimp only at h
  have hP := hP.sub (ws' := (w_Fp_layYard ad a_this a_cells a_family a_yard a_columns a_rows a_line a_family_values a_family_letters k_cells k_family_values k_yard v_this_atHand v_this_count v_this_thermal v_this_density v_this_outerHigh v_this_pasteLeft v_this_pasteLow v_this_nameLength v_this_isWritten v_cells v_family_letterCount v_family_kind v_family_values v_yard)) [3, 4, 0, 1, 2] rfl
  have hD := hD.sub (ws' := (w_Fp_layYard ad a_this a_cells a_family a_yard a_columns a_rows a_line a_family_values a_family_letters k_cells k_family_values k_yard v_this_atHand v_this_count v_this_thermal v_this_density v_this_outerHigh v_this_pasteLeft v_this_pasteLow v_this_nameLength v_this_isWritten v_cells v_family_letterCount v_family_kind v_family_values v_yard)) [3, 4, 0, 1, 2] (by decide) rfl
  refine lv_lstore (lv' := [(6, .long r1), (0, .ref a_this), (1, .long p1), (3, .long p3), (5, .int p5)]) hx hb dFp_layYard_6 hl (by decide) rfl (fun ls hl => ?_)
  refine lv_aload_n hx hb dFp_layYard_8 rfl (lv_at hl 1 rfl) ?_
  refine lv_iconst (v := 0) hx hb dFp_layYard_9 (by decide) ?_
  refine lv_iconst (v := 2) hx hb dFp_layYard_10 (by decide) ?_
  refine zcall_l hP hD hS hA [0, 1] [2, 3, 4] (va_runV (As := [.int 0, .int 2]) (rest := []) ⟨hx, hb, hml, hown, hts⟩ (c_Fp_cell l dC dI ad a_this a_cells a_family a_yard a_columns a_rows a_line k_cells _ 0 2 v_this_atHand v_this_count v_this_thermal v_this_density v_this_outerHigh v_this_pasteLeft v_this_pasteLow v_this_nameLength v_this_isWritten v_cells _ h) ⟨callB_of 2 hts (zgood zc_Fp_cell) rfl rfl rfl (hts _ zw_101) (hts _ zw_818) (by decide +kernel) ⟨Nat.le_of_ble_eq_true rfl, Nat.le_of_ble_eq_true rfl⟩, (hts _ zw_820), (hts _ zw_46)⟩ (zpreV hE hK hP hD hS hA [0, 1] [0] (by rfl) (by rfl) (by decide) (ci := 6) (q0 := 0) rfl (by rfl)) rfl rfl hl.1 rfl (lv_room (Nat.le_of_ble_eq_true rfl)) dFp_layYard_11 ⟨Nat.le_of_ble_eq_true rfl, Nat.le_of_ble_eq_true rfl⟩) (by rfl) (by rfl) (by decide) (by decide) (fun r2 u H locs h hP hD hS => ?_)
  try dsimp only at h
  have hP := hP.sub (ws' := (w_Fp_layYard ad a_this a_cells a_family a_yard a_columns a_rows a_line a_family_values a_family_letters k_cells k_family_values k_yard v_this_atHand v_this_count v_this_thermal v_this_density v_this_outerHigh v_this_pasteLeft v_this_pasteLow v_this_nameLength v_this_isWritten v_cells v_family_letterCount v_family_kind v_family_values v_yard)) [3, 4, 0, 1, 2] rfl
  have hD := hD.sub (ws' := (w_Fp_layYard ad a_this a_cells a_family a_yard a_columns a_rows a_line a_family_values a_family_letters k_cells k_family_values k_yard v_this_atHand v_this_count v_this_thermal v_this_density v_this_outerHigh v_this_pasteLeft v_this_pasteLow v_this_nameLength v_this_isWritten v_cells v_family_letterCount v_family_kind v_family_values v_yard)) [3, 4, 0, 1, 2] (by decide) rfl
  refine lv_lstore (lv' := [(8, .long r2), (6, .long r1), (0, .ref a_this), (1, .long p1), (3, .long p3), (5, .int p5)]) hx hb dFp_layYard_14 hl (by decide) rfl (fun ls hl => ?_)
  refine lv_lload hx hb dFp_layYard_16 (lv_at hl 1 rfl) ?_
  refine lv_aload_n hx hb dFp_layYard_18 rfl (lv_at hl 2 rfl) ?_
  refine lv_iconst (v := 0) hx hb dFp_layYard_19 (by decide) ?_
  refine lv_iconst (v := 3) hx hb dFp_layYard_20 (by decide) ?_
  refine zcall_l hP hD hS hA [0, 1] [2, 3, 4] (va_runV (As := [.int 0, .int 3]) (rest := [.long r1]) ⟨hx, hb, hml, hown, hts⟩ (c_Fp_cell l dC dI ad a_this a_cells a_family a_yard a_columns a_rows a_line k_cells _ 0 3 v_this_atHand v_this_count v_this_thermal v_this_density v_this_outerHigh v_this_pasteLeft v_this_pasteLow v_this_nameLength v_this_isWritten v_cells _ h) ⟨callB_of 2 hts (zgood zc_Fp_cell) rfl rfl rfl (hts _ zw_101) (hts _ zw_818) (by decide +kernel) ⟨Nat.le_of_ble_eq_true rfl, Nat.le_of_ble_eq_true rfl⟩, (hts _ zw_820), (hts _ zw_46)⟩ (zpreV hE hK hP hD hS hA [0, 1] [0] (by rfl) (by rfl) (by decide) (ci := 6) (q0 := 0) rfl (by rfl)) rfl rfl hl.1 rfl (lv_room (Nat.le_of_ble_eq_true rfl)) dFp_layYard_21 ⟨Nat.le_of_ble_eq_true rfl, Nat.le_of_ble_eq_true rfl⟩) (by rfl) (by rfl) (by decide) (by decide) (fun r3 u H locs h hP hD hS => ?_)
  try dsimp only at h
  have hP := hP.sub (ws' := (w_Fp_layYard ad a_this a_cells a_family a_yard a_columns a_rows a_line a_family_values a_family_letters k_cells k_family_values k_yard v_this_atHand v_this_count v_this_thermal v_this_density v_this_outerHigh v_this_pasteLeft v_this_pasteLow v_this_nameLength v_this_isWritten v_cells v_family_letterCount v_family_kind v_family_values v_yard)) [3, 4, 0, 1, 2] rfl
  have hD := hD.sub (ws' := (w_Fp_layYard ad a_this a_cells a_family a_yard a_columns a_rows a_line a_family_values a_family_letters k_cells k_family_values k_yard v_this_atHand v_this_count v_this_thermal v_this_density v_this_outerHigh v_this_pasteLeft v_this_pasteLow v_this_nameLength v_this_isWritten v_cells v_family_letterCount v_family_kind v_family_values v_yard)) [3, 4, 0, 1, 2] (by decide) rfl
  refine lv_ladd hx hb dFp_layYard_24 ?_
  refine lv_topl (fun x4 ex4 => ?_)
  replace h := h x4 ex4
  refine lv_lstore (lv' := [(10, .long x4), (8, .long r2), (6, .long r1), (0, .ref a_this), (1, .long p1), (3, .long p3), (5, .int p5)]) hx hb dFp_layYard_25 hl (by decide) rfl (fun ls hl => ?_)
  refine lv_lload hx hb dFp_layYard_27 (lv_at hl 1 rfl) ?_
  refine lv_aload_n hx hb dFp_layYard_29 rfl (lv_at hl 3 rfl) ?_
  refine lv_iconst (v := 0) hx hb dFp_layYard_30 (by decide) ?_
  refine lv_iconst (v := 4) hx hb dFp_layYard_31 (by decide) ?_
  refine zcall_l hP hD hS hA [0, 1] [2, 3, 4] (va_runV (As := [.int 0, .int 4]) (rest := [.long r2]) ⟨hx, hb, hml, hown, hts⟩ (c_Fp_cell l dC dI ad a_this a_cells a_family a_yard a_columns a_rows a_line k_cells _ 0 4 v_this_atHand v_this_count v_this_thermal v_this_density v_this_outerHigh v_this_pasteLeft v_this_pasteLow v_this_nameLength v_this_isWritten v_cells _ h) ⟨callB_of 2 hts (zgood zc_Fp_cell) rfl rfl rfl (hts _ zw_101) (hts _ zw_818) (by decide +kernel) ⟨Nat.le_of_ble_eq_true rfl, Nat.le_of_ble_eq_true rfl⟩, (hts _ zw_820), (hts _ zw_46)⟩ (zpreV hE hK hP hD hS hA [0, 1] [0] (by rfl) (by rfl) (by decide) (ci := 6) (q0 := 0) rfl (by rfl)) rfl rfl hl.1 rfl (lv_room (Nat.le_of_ble_eq_true rfl)) dFp_layYard_32 ⟨Nat.le_of_ble_eq_true rfl, Nat.le_of_ble_eq_true rfl⟩) (by rfl) (by rfl) (by decide) (by decide) (fun r5 u H locs h hP hD hS => ?_)
  try dsimp only at h
  have hP := hP.sub (ws' := (w_Fp_layYard ad a_this a_cells a_family a_yard a_columns a_rows a_line a_family_values a_family_letters k_cells k_family_values k_yard v_this_atHand v_this_count v_this_thermal v_this_density v_this_outerHigh v_this_pasteLeft v_this_pasteLow v_this_nameLength v_this_isWritten v_cells v_family_letterCount v_family_kind v_family_values v_yard)) [3, 4, 0, 1, 2] rfl
  have hD := hD.sub (ws' := (w_Fp_layYard ad a_this a_cells a_family a_yard a_columns a_rows a_line a_family_values a_family_letters k_cells k_family_values k_yard v_this_atHand v_this_count v_this_thermal v_this_density v_this_outerHigh v_this_pasteLeft v_this_pasteLow v_this_nameLength v_this_isWritten v_cells v_family_letterCount v_family_kind v_family_values v_yard)) [3, 4, 0, 1, 2] (by decide) rfl
  refine lv_ladd hx hb dFp_layYard_35 ?_
  refine lv_topl (fun x6 ex6 => ?_)
  replace h := h x6 ex6
  refine lv_lstore (lv' := [(12, .long x6), (10, .long x4), (8, .long r2), (6, .long r1), (0, .ref a_this), (1, .long p1), (3, .long p3), (5, .int p5)]) hx hb dFp_layYard_36 hl (by decide) rfl (fun ls hl => ?_)
  refine lv_iconst (v := 1) hx hb dFp_layYard_38 (by decide) ?_
  refine lv_istore (lv' := [(14, .int 1), (12, .long x6), (10, .long x4), (8, .long r2), (6, .long r1), (0, .ref a_this), (1, .long p1), (3, .long p3), (5, .int p5)]) hx hb dFp_layYard_39 hl (by decide) rfl (fun ls hl => ?_)
  obtain ⟨n7, h⟩ := h
  exact w_Fp_layYard_41 l C0 hE a_this a_cells a_family a_yard a_columns a_rows a_line a_family_values a_family_letters k_cells k_family_values k_yard p1 p3 p5 v_this_atHand v_this_count v_this_thermal v_this_density v_this_outerHigh v_this_pasteLeft v_this_pasteLow v_this_nameLength v_this_isWritten v_cells v_family_letterCount v_family_kind v_family_values v_yard post hK n7 r1 r2 x4 x6 1 _ _ h hP hD hS ls (lv_sub hl [5, 6, 7, 8, 4, 3, 2, 1, 0] rfl)
abbrev yFp_maskCell : MethodName := ⟨"FootprintRules$Footprint", "maskCell", "(II)J"⟩
abbrev cFp_maskCell : ByteArray := prog_5_method_6_code
abbrev wsFp_maskCell : List Cond := .code yFp_maskCell cFp_maskCell 7 (some .long) :: zT
set_option maxRecDepth 100000 in
theorem zc_Fp_maskCell : Cond.code yFp_maskCell cFp_maskCell 7 (some .long) ∈ zT := zm 927 (by rfl) (by rfl)
theorem dFp_maskCell_0 : decode cFp_maskCell 0 = .ok (.aload_n 0, 1) := by decide +kernel
theorem dFp_maskCell_1 : decode cFp_maskCell 1 = .ok (.getfield 18, 3) := by decide +kernel
theorem dFp_maskCell_4 : decode cFp_maskCell 4 = .ok (.getstatic 101, 3) := by decide +kernel
theorem dFp_maskCell_7 : decode cFp_maskCell 7 = .ok (.invokevirtual 91, 3) := by decide +kernel
theorem dFp_maskCell_10 : decode cFp_maskCell 10 = .ok (.lstore_n 3, 1) := by decide +kernel
theorem dFp_maskCell_11 : decode cFp_maskCell 11 = .ok (.aload_n 0, 1) := by decide +kernel
theorem dFp_maskCell_12 : decode cFp_maskCell 12 = .ok (.iload_n 1, 1) := by decide +kernel
theorem dFp_maskCell_13 : decode cFp_maskCell 13 = .ok (.iconst 1, 1) := by decide +kernel
theorem dFp_maskCell_14 : decode cFp_maskCell 14 = .ok (.iload_n 2, 1) := by decide +kernel
theorem dFp_maskCell_15 : decode cFp_maskCell 15 = .ok (.iadd, 1) := by decide +kernel
theorem dFp_maskCell_16 : decode cFp_maskCell 16 = .ok (.invokevirtual 63, 3) := by decide +kernel
theorem dFp_maskCell_19 : decode cFp_maskCell 19 = .ok (.lstore 5, 2) := by decide +kernel
theorem dFp_maskCell_21 : decode cFp_maskCell 21 = .ok (.iload_n 2, 1) := by decide +kernel
theorem dFp_maskCell_22 : decode cFp_maskCell 22 = .ok (.iconst 2, 1) := by decide +kernel
theorem dFp_maskCell_23 : decode cFp_maskCell 23 = .ok (.if_icmp .ge 10, 3) := by decide +kernel
theorem dFp_maskCell_26 : decode cFp_maskCell 26 = .ok (.lload 5, 2) := by decide +kernel
theorem dFp_maskCell_28 : decode cFp_maskCell 28 = .ok (.lload_n 3, 1) := by decide +kernel
theorem dFp_maskCell_29 : decode cFp_maskCell 29 = .ok (.lsub, 1) := by decide +kernel
theorem dFp_maskCell_30 : decode cFp_maskCell 30 = .ok (.goto 11, 3) := by decide +kernel
theorem dFp_maskCell_33 : decode cFp_maskCell 33 = .ok (.lload 5, 2) := by decide +kernel
theorem dFp_maskCell_35 : decode cFp_maskCell 35 = .ok (.ldc2_w 76, 3) := by decide +kernel
theorem dFp_maskCell_38 : decode cFp_maskCell 38 = .ok (.lload_n 3, 1) := by decide +kernel
theorem dFp_maskCell_39 : decode cFp_maskCell 39 = .ok (.lmul, 1) := by decide +kernel
theorem dFp_maskCell_40 : decode cFp_maskCell 40 = .ok (.ladd, 1) := by decide +kernel
theorem dFp_maskCell_41 : decode cFp_maskCell 41 = .ok (.lreturn, 1) := by decide +kernel
-- FootprintRules$Footprint.maskCell(II)J
abbrev w_Fp_maskCell (ad : Nat → Nat → Nat) (a_this : Nat) (a_cells : Nat) (a_family : Nat) (a_yard : Nat) (a_columns : Nat) (a_rows : Nat) (a_line : Nat) (a_family_values : Nat) (a_family_letters : Nat) (k_family_values : ClassId) (k_cells : ClassId) (v_this_atHand : Int32) (v_this_count : Int32) (v_this_thermal : Int32) (v_this_density : Int32) (v_this_outerHigh : Int64) (v_this_pasteLeft : Int64) (v_this_pasteLow : Int64) (v_this_nameLength : Int32) (v_this_isWritten : Int32) (v_family_letterCount : Int32) (v_family_kind : Nat) (v_family_values : Nat → Int32) (v_cells : Nat → Int64) : va_W := [(a_this, .inr (6, [.int v_this_atHand, .ref a_cells, .int v_this_count, .int v_this_thermal, .ref a_family, .int v_this_density, .long v_this_outerHigh, .ref a_yard, .ref a_columns, .ref a_rows, .long v_this_pasteLeft, .long v_this_pasteLow, .ref a_line, .int v_this_nameLength, .int v_this_isWritten])), (a_family, .inr (2, [.ref a_family_values, .ref a_family_letters, .int v_family_letterCount, .ref (ad 0 v_family_kind)])), (a_family_values, .inl (k_family_values, 18, .inl v_family_values)), (a_cells, .inl (k_cells, 455, .inr (.inl v_cells)))]
def P_Fp_maskCell (p1 : Int32) (p2 : Int32) (v_family_values : Nat → Int32) (v_cells : Nat → Int64) (post : Int64 → Prop) : Prop := P_Fa_of 5 v_family_values (fun (r1 : Int64) => P_Fp_cell p1 (1 + p2) v_cells (fun (r2 : Int64) => ((2 ≤ p2 → post (r2 + (2 * r1))) ∧ (¬ 2 ≤ p2 → post (r2 - r1)))))
set_option maxHeartbeats 4000000 in
set_option maxRecDepth 100000 in
theorem c_Fp_maskCell (l : Launch) (dC : Nat → ClassId) (dI : Nat → Nat → Nat) (ad : Nat → Nat → Nat) (a_this : Nat) (a_cells : Nat) (a_family : Nat) (a_yard : Nat) (a_columns : Nat) (a_rows : Nat) (a_line : Nat) (a_family_values : Nat) (a_family_letters : Nat) (k_family_values : ClassId) (k_cells : ClassId) (sz : Nat) (p1 : Int32) (p2 : Int32) (v_this_atHand : Int32) (v_this_count : Int32) (v_this_thermal : Int32) (v_this_density : Int32) (v_this_outerHigh : Int64) (v_this_pasteLeft : Int64) (v_this_pasteLow : Int64) (v_this_nameLength : Int32) (v_this_isWritten : Int32) (v_family_letterCount : Int32) (v_family_kind : Nat) (v_family_values : Nat → Int32) (v_cells : Nat → Int64) (post : Int64 → Prop) (h : P_Fp_maskCell p1 p2 v_family_values v_cells post) : zMl l yFp_maskCell wsFp_maskCell { frames := 2, cells := 0, slots := 0, locals := 44 } (dC, dI) ad [.ref a_this, .int p1, .int p2] (w_Fp_maskCell ad a_this a_cells a_family a_yard a_columns a_rows a_line a_family_values a_family_letters k_family_values k_cells v_this_atHand v_this_count v_this_thermal v_this_density v_this_outerHigh v_this_pasteLeft v_this_pasteLow v_this_nameLength v_this_isWritten v_family_letterCount v_family_kind v_family_values v_cells) [(k_family_values, .int), (k_cells, .long)] sz (fun (r : Int64) (u : Unit) => post r) (fun (u : Unit) => (w_Fp_maskCell ad a_this a_cells a_family a_yard a_columns a_rows a_line a_family_values a_family_letters k_family_values k_cells v_this_atHand v_this_count v_this_thermal v_this_density v_this_outerHigh v_this_pasteLeft v_this_pasteLow v_this_nameLength v_this_isWritten v_family_letterCount v_family_kind v_family_values v_cells)) 0 0 := by
  refine Met.ofW (cc := cFp_maskCell) (maxL := 7) (ret := (some .long)) (by decide +kernel) rfl ?_
  intro p e s m args below meth c s₁ B hml hv
  obtain ⟨rfl, hsz, hP, hK, hD0, hE⟩ := hv
  have hx := B.exec
  have hb := B.bytes
  have hr := B.returns
  have hts0 := atoms_spec (ws := wsFp_maskCell) B.pre
  have hts := fun w h => hts0 w (List.mem_cons_of_mem _ h)
  have hown : s.vm.findClass RFp = some m.cls := findClass_of_methodNamed B.named
  have hlocks := B.notSynchronized
  subst hsz
  have hD := hD0.self (sz := s.heap.size)
  generalize hAe : va_A (w_Fp_maskCell ad a_this a_cells a_family a_yard a_columns a_rows a_line a_family_values a_family_letters k_family_values k_cells v_this_atHand v_this_count v_this_thermal v_this_density v_this_outerHigh v_this_pasteLeft v_this_pasteLow v_this_nameLength v_this_isWritten v_family_letterCount v_family_kind v_family_values v_cells) s.heap.size = A at hD hE ⊢
  have hA : ∀ q : Nat, s.heap.size ≤ q → A q := fun q h => by rw [← hAe]; exact Or.inr h
  have C0 := zC.mk hx hb hr hml hown hts hlocks hA
  have hS : va_S A s.heap s.heap [] := va_S.rf
  have hl := lv_entry ([.ref a_this, .int p1, .int p2]) (n := 7) (Nat.le_of_ble_eq_true rfl)
  rw [lg_entry_eq]
  generalize (lg_sl ([.ref a_this, .int p1, .int p2]) ++ List.replicate (7 - (lg_sl ([.ref a_this, .int p1, .int p2])).length) Slot.unset).toArray = ls at hl ⊢
  have hl : lv_has ls 7 [(0, .ref a_this), (1, .int p1), (2, .int p2)] := hl
  unfold P_Fp_maskCell at h
  refine lv_aload_n hx hb dFp_maskCell_0 rfl (lv_at hl 0 rfl) ?_
  refine va_get (D := (dC, dI)) (ci := 6) (v := .ref a_family) (C := RFp) (T := TFp) (N := 15) hx hb hts inZ_Fp hown hK hP 0 rfl rfl 4 (by decide) (hts _ zw_288) (fun _ h9 => h9) rfl dFp_maskCell_1 ?_
  refine va_gets (C := "FootprintRules$Key") (n := "MASK") (d := "LFootprintRules$Key;") hx hb (hE.enKey.1 5 (by decide)).1 hS hown (hts _ zw_928) (fun _ h9 => h9) dFp_maskCell_4 ?_
  refine zcall_l hP hD hS hA [1, 2] [0, 3] (va_runVN (As := [.ref (ad 1 5)]) (rest := []) ⟨hx, hb, hml, hown, hts⟩ (c_Fa_of l dC dI ad a_family a_family_values a_family_letters k_family_values _ 5 v_family_letterCount v_family_kind v_family_values _ h) ⟨va_cnB 1 hts (zgood zc_Fa_of) rfl rfl rfl (hE.nw _ zn_833) (hts _ zw_102) (by decide +kernel) ⟨Nat.le_of_ble_eq_true rfl, Nat.le_of_ble_eq_true rfl⟩, (hts _ zw_716), (hts _ zw_29)⟩ (zpreV hE hK hP hD hS hA [1, 2] [0] (by rfl) (by rfl) (by decide) (ci := 2) (q0 := 1) rfl (by rfl)) rfl rfl hl.1 rfl (lv_room (Nat.le_of_ble_eq_true rfl)) dFp_maskCell_7 ⟨Nat.le_of_ble_eq_true rfl, Nat.le_of_ble_eq_true rfl⟩) (by rfl) (by rfl) (by decide) (by decide) (fun r1 u H locs h hP hD hS => ?_)
  try dsimp only at h
  have hP := hP.sub (ws' := (w_Fp_maskCell ad a_this a_cells a_family a_yard a_columns a_rows a_line a_family_values a_family_letters k_family_values k_cells v_this_atHand v_this_count v_this_thermal v_this_density v_this_outerHigh v_this_pasteLeft v_this_pasteLow v_this_nameLength v_this_isWritten v_family_letterCount v_family_kind v_family_values v_cells)) [0, 2, 3, 1] rfl
  have hD := hD.sub (ws' := (w_Fp_maskCell ad a_this a_cells a_family a_yard a_columns a_rows a_line a_family_values a_family_letters k_family_values k_cells v_this_atHand v_this_count v_this_thermal v_this_density v_this_outerHigh v_this_pasteLeft v_this_pasteLow v_this_nameLength v_this_isWritten v_family_letterCount v_family_kind v_family_values v_cells)) [0, 2, 3, 1] (by decide) rfl
  refine lv_lstore_n (lv' := [(3, .long r1), (0, .ref a_this), (1, .int p1), (2, .int p2)]) hx hb dFp_maskCell_10 rfl hl (by decide) rfl (fun ls hl => ?_)
  refine lv_aload_n hx hb dFp_maskCell_11 rfl (lv_at hl 1 rfl) ?_
  refine lv_iload_n hx hb dFp_maskCell_12 rfl (lv_at hl 2 rfl) ?_
  refine lv_iconst (v := 1) hx hb dFp_maskCell_13 (by decide) ?_
  refine lv_iload_n hx hb dFp_maskCell_14 rfl (lv_at hl 3 rfl) ?_
  refine lv_iadd hx hb dFp_maskCell_15 ?_
  refine zcall_l hP hD hS hA [0, 3] [1, 2] (va_runV (As := [.int p1, .int (1 + p2)]) (rest := []) ⟨hx, hb, hml, hown, hts⟩ (c_Fp_cell l dC dI ad a_this a_cells a_family a_yard a_columns a_rows a_line k_cells _ p1 (1 + p2) v_this_atHand v_this_count v_this_thermal v_this_density v_this_outerHigh v_this_pasteLeft v_this_pasteLow v_this_nameLength v_this_isWritten v_cells _ h) ⟨callB_of 2 hts (zgood zc_Fp_cell) rfl rfl rfl (hts _ zw_101) (hts _ zw_818) (by decide +kernel) ⟨Nat.le_of_ble_eq_true rfl, Nat.le_of_ble_eq_true rfl⟩, (hts _ zw_820), (hts _ zw_46)⟩ (zpreV hE hK hP hD hS hA [0, 3] [1] (by rfl) (by rfl) (by decide) (ci := 6) (q0 := 0) rfl (by rfl)) rfl rfl hl.1 rfl (lv_room (Nat.le_of_ble_eq_true rfl)) dFp_maskCell_16 ⟨Nat.le_of_ble_eq_true rfl, Nat.le_of_ble_eq_true rfl⟩) (by rfl) (by rfl) (by decide) (by decide) (fun r2 u H locs h hP hD hS => ?_)
  try dsimp only at h
  have hP := hP.sub (ws' := (w_Fp_maskCell ad a_this a_cells a_family a_yard a_columns a_rows a_line a_family_values a_family_letters k_family_values k_cells v_this_atHand v_this_count v_this_thermal v_this_density v_this_outerHigh v_this_pasteLeft v_this_pasteLow v_this_nameLength v_this_isWritten v_family_letterCount v_family_kind v_family_values v_cells)) [2, 0, 1, 3] rfl
  have hD := hD.sub (ws' := (w_Fp_maskCell ad a_this a_cells a_family a_yard a_columns a_rows a_line a_family_values a_family_letters k_family_values k_cells v_this_atHand v_this_count v_this_thermal v_this_density v_this_outerHigh v_this_pasteLeft v_this_pasteLow v_this_nameLength v_this_isWritten v_family_letterCount v_family_kind v_family_values v_cells)) [2, 0, 1, 3] (by decide) rfl
  refine lv_lstore (lv' := [(5, .long r2), (3, .long r1), (0, .ref a_this), (1, .int p1), (2, .int p2)]) hx hb dFp_maskCell_19 hl (by decide) rfl (fun ls hl => ?_)
  refine lv_iload_n hx hb dFp_maskCell_21 rfl (lv_at hl 4 rfl) ?_
  refine lv_iconst (v := 2) hx hb dFp_maskCell_22 (by decide) ?_
  refine lv_icmp_ge (tgt := 33) hx hb dFp_maskCell_23 (by decide) ?_ ?_
  · intro c3
    replace h := h.1 c3
    refine lv_lload hx hb dFp_maskCell_33 (lv_at hl 0 rfl) ?_
    refine lv_ldc2 (own := RFp) (index := 76) (v := 2) hx hb hown (hts _ zw_828) dFp_maskCell_35 ?_
    refine lv_lload_n hx hb dFp_maskCell_38 rfl (lv_at hl 1 rfl) ?_
    refine lv_lmul hx hb dFp_maskCell_39 ?_
    refine lv_ladd hx hb dFp_maskCell_40 ?_
    exact W.lret (v := (r2 + (2 * r1))) hx hb hr (fun t ht hW => ⟨⟨(r2 + (2 * r1)), (()), rfl, h, by rw [ht]; exact hP, hD⟩, hS.F ht⟩) hS.2.2 dFp_maskCell_41
  · intro c3
    replace h := h.2 c3
    refine lv_lload hx hb dFp_maskCell_26 (lv_at hl 0 rfl) ?_
    refine lv_lload_n hx hb dFp_maskCell_28 rfl (lv_at hl 1 rfl) ?_
    refine lv_lsub hx hb dFp_maskCell_29 ?_
    refine lv_goto (tgt := 41) hx hb dFp_maskCell_30 (by decide) ?_
    exact W.lret (v := (r2 - r1)) hx hb hr (fun t ht hW => ⟨⟨(r2 - r1), (()), rfl, h, by rw [ht]; exact hP, hD⟩, hS.F ht⟩) hS.2.2 dFp_maskCell_41
abbrev yFp_cutPaste : MethodName := ⟨"FootprintRules$Footprint", "cutPaste", "(I)I"⟩
abbrev cFp_cutPaste : ByteArray := prog_5_method_7_code
abbrev wsFp_cutPaste : List Cond := .code yFp_cutPaste cFp_cutPaste 10 (some .int) :: zT
set_option maxRecDepth 100000 in
theorem zc_Fp_cutPaste : Cond.code yFp_cutPaste cFp_cutPaste 10 (some .int) ∈ zT := zm 940 (by rfl) (by rfl)
theorem dFp_cutPaste_0 : decode cFp_cutPaste 0 = .ok (.aload_n 0, 1) := by decide +kernel
theorem dFp_cutPaste_1 : decode cFp_cutPaste 1 = .ok (.getfield 18, 3) := by decide +kernel
theorem dFp_cutPaste_4 : decode cFp_cutPaste 4 = .ok (.getstatic 104, 3) := by decide +kernel
theorem dFp_cutPaste_7 : decode cFp_cutPaste 7 = .ok (.invokevirtual 91, 3) := by decide +kernel
theorem dFp_cutPaste_10 : decode cFp_cutPaste 10 = .ok (.lstore_n 2, 1) := by decide +kernel
theorem dFp_cutPaste_11 : decode cFp_cutPaste 11 = .ok (.aload_n 0, 1) := by decide +kernel
theorem dFp_cutPaste_12 : decode cFp_cutPaste 12 = .ok (.getfield 18, 3) := by decide +kernel
theorem dFp_cutPaste_15 : decode cFp_cutPaste 15 = .ok (.getstatic 107, 3) := by decide +kernel
theorem dFp_cutPaste_18 : decode cFp_cutPaste 18 = .ok (.invokevirtual 91, 3) := by decide +kernel
theorem dFp_cutPaste_21 : decode cFp_cutPaste 21 = .ok (.lstore 4, 2) := by decide +kernel
theorem dFp_cutPaste_23 : decode cFp_cutPaste 23 = .ok (.aload_n 0, 1) := by decide +kernel
theorem dFp_cutPaste_24 : decode cFp_cutPaste 24 = .ok (.iload_n 1, 1) := by decide +kernel
theorem dFp_cutPaste_25 : decode cFp_cutPaste 25 = .ok (.iconst 3, 1) := by decide +kernel
theorem dFp_cutPaste_26 : decode cFp_cutPaste 26 = .ok (.invokevirtual 63, 3) := by decide +kernel
theorem dFp_cutPaste_29 : decode cFp_cutPaste 29 = .ok (.ldc2_w 76, 3) := by decide +kernel
theorem dFp_cutPaste_32 : decode cFp_cutPaste 32 = .ok (.lload_n 2, 1) := by decide +kernel
theorem dFp_cutPaste_33 : decode cFp_cutPaste 33 = .ok (.lmul, 1) := by decide +kernel
theorem dFp_cutPaste_34 : decode cFp_cutPaste 34 = .ok (.lsub, 1) := by decide +kernel
theorem dFp_cutPaste_35 : decode cFp_cutPaste 35 = .ok (.lstore 6, 2) := by decide +kernel
theorem dFp_cutPaste_37 : decode cFp_cutPaste 37 = .ok (.aload_n 0, 1) := by decide +kernel
theorem dFp_cutPaste_38 : decode cFp_cutPaste 38 = .ok (.iload_n 1, 1) := by decide +kernel
theorem dFp_cutPaste_39 : decode cFp_cutPaste 39 = .ok (.iconst 4, 1) := by decide +kernel
theorem dFp_cutPaste_40 : decode cFp_cutPaste 40 = .ok (.invokevirtual 63, 3) := by decide +kernel
theorem dFp_cutPaste_43 : decode cFp_cutPaste 43 = .ok (.ldc2_w 76, 3) := by decide +kernel
theorem dFp_cutPaste_46 : decode cFp_cutPaste 46 = .ok (.lload_n 2, 1) := by decide +kernel
theorem dFp_cutPaste_47 : decode cFp_cutPaste 47 = .ok (.lmul, 1) := by decide +kernel
theorem dFp_cutPaste_48 : decode cFp_cutPaste 48 = .ok (.lsub, 1) := by decide +kernel
theorem dFp_cutPaste_49 : decode cFp_cutPaste 49 = .ok (.lstore 8, 2) := by decide +kernel
theorem dFp_cutPaste_51 : decode cFp_cutPaste 51 = .ok (.aload_n 0, 1) := by decide +kernel
theorem dFp_cutPaste_52 : decode cFp_cutPaste 52 = .ok (.aload_n 0, 1) := by decide +kernel
theorem dFp_cutPaste_53 : decode cFp_cutPaste 53 = .ok (.iload_n 1, 1) := by decide +kernel
theorem dFp_cutPaste_54 : decode cFp_cutPaste 54 = .ok (.iconst 1, 1) := by decide +kernel
theorem dFp_cutPaste_55 : decode cFp_cutPaste 55 = .ok (.invokevirtual 63, 3) := by decide +kernel
theorem dFp_cutPaste_58 : decode cFp_cutPaste 58 = .ok (.lload_n 2, 1) := by decide +kernel
theorem dFp_cutPaste_59 : decode cFp_cutPaste 59 = .ok (.ladd, 1) := by decide +kernel
theorem dFp_cutPaste_60 : decode cFp_cutPaste 60 = .ok (.putfield 110, 3) := by decide +kernel
theorem dFp_cutPaste_63 : decode cFp_cutPaste 63 = .ok (.aload_n 0, 1) := by decide +kernel
theorem dFp_cutPaste_64 : decode cFp_cutPaste 64 = .ok (.aload_n 0, 1) := by decide +kernel
theorem dFp_cutPaste_65 : decode cFp_cutPaste 65 = .ok (.iload_n 1, 1) := by decide +kernel
theorem dFp_cutPaste_66 : decode cFp_cutPaste 66 = .ok (.iconst 2, 1) := by decide +kernel
theorem dFp_cutPaste_67 : decode cFp_cutPaste 67 = .ok (.invokevirtual 63, 3) := by decide +kernel
theorem dFp_cutPaste_70 : decode cFp_cutPaste 70 = .ok (.lload_n 2, 1) := by decide +kernel
theorem dFp_cutPaste_71 : decode cFp_cutPaste 71 = .ok (.ladd, 1) := by decide +kernel
theorem dFp_cutPaste_72 : decode cFp_cutPaste 72 = .ok (.putfield 113, 3) := by decide +kernel
theorem dFp_cutPaste_75 : decode cFp_cutPaste 75 = .ok (.lload 4, 2) := by decide +kernel
theorem dFp_cutPaste_77 : decode cFp_cutPaste 77 = .ok (.lconst 0, 1) := by decide +kernel
theorem dFp_cutPaste_78 : decode cFp_cutPaste 78 = .ok (.lcmp, 1) := by decide +kernel
theorem dFp_cutPaste_79 : decode cFp_cutPaste 79 = .ok (.ifCond .le 59, 3) := by decide +kernel
theorem dFp_cutPaste_82 : decode cFp_cutPaste 82 = .ok (.aload_n 0, 1) := by decide +kernel
theorem dFp_cutPaste_83 : decode cFp_cutPaste 83 = .ok (.iload_n 1, 1) := by decide +kernel
theorem dFp_cutPaste_84 : decode cFp_cutPaste 84 = .ok (.iconst 5, 1) := by decide +kernel
theorem dFp_cutPaste_85 : decode cFp_cutPaste 85 = .ok (.invokevirtual 63, 3) := by decide +kernel
theorem dFp_cutPaste_88 : decode cFp_cutPaste 88 = .ok (.lconst 0, 1) := by decide +kernel
theorem dFp_cutPaste_89 : decode cFp_cutPaste 89 = .ok (.lcmp, 1) := by decide +kernel
theorem dFp_cutPaste_90 : decode cFp_cutPaste 90 = .ok (.ifCond .ne 48, 3) := by decide +kernel
theorem dFp_cutPaste_93 : decode cFp_cutPaste 93 = .ok (.aload_n 0, 1) := by decide +kernel
theorem dFp_cutPaste_94 : decode cFp_cutPaste 94 = .ok (.getfield 28, 3) := by decide +kernel
theorem dFp_cutPaste_97 : decode cFp_cutPaste 97 = .ok (.lload 6, 2) := by decide +kernel
theorem dFp_cutPaste_99 : decode cFp_cutPaste 99 = .ok (.lload 4, 2) := by decide +kernel
theorem dFp_cutPaste_101 : decode cFp_cutPaste 101 = .ok (.aload_n 0, 1) := by decide +kernel
theorem dFp_cutPaste_102 : decode cFp_cutPaste 102 = .ok (.getfield 18, 3) := by decide +kernel
theorem dFp_cutPaste_105 : decode cFp_cutPaste 105 = .ok (.getstatic 116, 3) := by decide +kernel
theorem dFp_cutPaste_108 : decode cFp_cutPaste 108 = .ok (.invokevirtual 91, 3) := by decide +kernel
theorem dFp_cutPaste_111 : decode cFp_cutPaste 111 = .ok (.invokevirtual 119, 3) := by decide +kernel
theorem dFp_cutPaste_114 : decode cFp_cutPaste 114 = .ok (.aload_n 0, 1) := by decide +kernel
theorem dFp_cutPaste_115 : decode cFp_cutPaste 115 = .ok (.getfield 32, 3) := by decide +kernel
theorem dFp_cutPaste_118 : decode cFp_cutPaste 118 = .ok (.lload 8, 2) := by decide +kernel
theorem dFp_cutPaste_120 : decode cFp_cutPaste 120 = .ok (.lload 4, 2) := by decide +kernel
theorem dFp_cutPaste_122 : decode cFp_cutPaste 122 = .ok (.aload_n 0, 1) := by decide +kernel
theorem dFp_cutPaste_123 : decode cFp_cutPaste 123 = .ok (.getfield 18, 3) := by decide +kernel
theorem dFp_cutPaste_126 : decode cFp_cutPaste 126 = .ok (.getstatic 116, 3) := by decide +kernel
theorem dFp_cutPaste_129 : decode cFp_cutPaste 129 = .ok (.invokevirtual 91, 3) := by decide +kernel
theorem dFp_cutPaste_132 : decode cFp_cutPaste 132 = .ok (.invokevirtual 119, 3) := by decide +kernel
theorem dFp_cutPaste_135 : decode cFp_cutPaste 135 = .ok (.goto 21, 3) := by decide +kernel
theorem dFp_cutPaste_138 : decode cFp_cutPaste 138 = .ok (.aload_n 0, 1) := by decide +kernel
theorem dFp_cutPaste_139 : decode cFp_cutPaste 139 = .ok (.getfield 28, 3) := by decide +kernel
theorem dFp_cutPaste_142 : decode cFp_cutPaste 142 = .ok (.lload 6, 2) := by decide +kernel
theorem dFp_cutPaste_144 : decode cFp_cutPaste 144 = .ok (.invokevirtual 123, 3) := by decide +kernel
theorem dFp_cutPaste_147 : decode cFp_cutPaste 147 = .ok (.aload_n 0, 1) := by decide +kernel
theorem dFp_cutPaste_148 : decode cFp_cutPaste 148 = .ok (.getfield 32, 3) := by decide +kernel
theorem dFp_cutPaste_151 : decode cFp_cutPaste 151 = .ok (.lload 8, 2) := by decide +kernel
theorem dFp_cutPaste_153 : decode cFp_cutPaste 153 = .ok (.invokevirtual 123, 3) := by decide +kernel
theorem dFp_cutPaste_156 : decode cFp_cutPaste 156 = .ok (.aload_n 0, 1) := by decide +kernel
theorem dFp_cutPaste_157 : decode cFp_cutPaste 157 = .ok (.iload_n 1, 1) := by decide +kernel
theorem dFp_cutPaste_158 : decode cFp_cutPaste 158 = .ok (.bipush 6, 2) := by decide +kernel
theorem dFp_cutPaste_160 : decode cFp_cutPaste 160 = .ok (.invokevirtual 63, 3) := by decide +kernel
theorem dFp_cutPaste_163 : decode cFp_cutPaste 163 = .ok (.lconst 0, 1) := by decide +kernel
theorem dFp_cutPaste_164 : decode cFp_cutPaste 164 = .ok (.lcmp, 1) := by decide +kernel
theorem dFp_cutPaste_165 : decode cFp_cutPaste 165 = .ok (.ifCond .gt 27, 3) := by decide +kernel
theorem dFp_cutPaste_168 : decode cFp_cutPaste 168 = .ok (.aload_n 0, 1) := by decide +kernel
theorem dFp_cutPaste_169 : decode cFp_cutPaste 169 = .ok (.getfield 28, 3) := by decide +kernel
theorem dFp_cutPaste_172 : decode cFp_cutPaste 172 = .ok (.getfield 127, 3) := by decide +kernel
theorem dFp_cutPaste_175 : decode cFp_cutPaste 175 = .ok (.lconst 0, 1) := by decide +kernel
theorem dFp_cutPaste_176 : decode cFp_cutPaste 176 = .ok (.lcmp, 1) := by decide +kernel
theorem dFp_cutPaste_177 : decode cFp_cutPaste 177 = .ok (.ifCond .le 15, 3) := by decide +kernel
theorem dFp_cutPaste_180 : decode cFp_cutPaste 180 = .ok (.aload_n 0, 1) := by decide +kernel
theorem dFp_cutPaste_181 : decode cFp_cutPaste 181 = .ok (.getfield 32, 3) := by decide +kernel
theorem dFp_cutPaste_184 : decode cFp_cutPaste 184 = .ok (.getfield 127, 3) := by decide +kernel
theorem dFp_cutPaste_187 : decode cFp_cutPaste 187 = .ok (.lconst 0, 1) := by decide +kernel
theorem dFp_cutPaste_188 : decode cFp_cutPaste 188 = .ok (.lcmp, 1) := by decide +kernel
theorem dFp_cutPaste_189 : decode cFp_cutPaste 189 = .ok (.ifCond .gt 5, 3) := by decide +kernel
theorem dFp_cutPaste_192 : decode cFp_cutPaste 192 = .ok (.iconst 0, 1) := by decide +kernel
theorem dFp_cutPaste_193 : decode cFp_cutPaste 193 = .ok (.ireturn, 1) := by decide +kernel
theorem dFp_cutPaste_194 : decode cFp_cutPaste 194 = .ok (.aload_n 0, 1) := by decide +kernel
theorem dFp_cutPaste_195 : decode cFp_cutPaste 195 = .ok (.getfield 28, 3) := by decide +kernel
theorem dFp_cutPaste_198 : decode cFp_cutPaste 198 = .ok (.getfield 130, 3) := by decide +kernel
theorem dFp_cutPaste_201 : decode cFp_cutPaste 201 = .ok (.aload_n 0, 1) := by decide +kernel
theorem dFp_cutPaste_202 : decode cFp_cutPaste 202 = .ok (.getfield 32, 3) := by decide +kernel
theorem dFp_cutPaste_205 : decode cFp_cutPaste 205 = .ok (.getfield 130, 3) := by decide +kernel
theorem dFp_cutPaste_208 : decode cFp_cutPaste 208 = .ok (.lmul, 1) := by decide +kernel
theorem dFp_cutPaste_209 : decode cFp_cutPaste 209 = .ok (.l2i, 1) := by decide +kernel
theorem dFp_cutPaste_210 : decode cFp_cutPaste 210 = .ok (.ireturn, 1) := by decide +kernel
-- FootprintRules$Footprint.cutPaste(I)I
abbrev w_Fp_cutPaste (ad : Nat → Nat → Nat) (a_this : Nat) (a_cells : Nat) (a_family : Nat) (a_yard : Nat) (a_columns : Nat) (a_rows : Nat) (a_line : Nat) (a_family_values : Nat) (a_family_letters : Nat) (k_family_values : ClassId) (k_cells : ClassId) (v_this_atHand : Int32) (v_this_count : Int32) (v_this_thermal : Int32) (v_this_density : Int32) (v_this_outerHigh : Int64) (v_this_pasteLeft : Int64) (v_this_pasteLow : Int64) (v_this_nameLength : Int32) (v_this_isWritten : Int32) (v_family_letterCount : Int32) (v_family_kind : Nat) (v_family_values : Nat → Int32) (v_cells : Nat → Int64) (v_columns_parts : Int64) (v_columns_size : Int64) (v_columns_ahead : Int64) (v_columns_gap : Int64) (v_rows_parts : Int64) (v_rows_size : Int64) (v_rows_ahead : Int64) (v_rows_gap : Int64) : va_W := [(a_this, .inr (6, [.int v_this_atHand, .ref a_cells, .int v_this_count, .int v_this_thermal, .ref a_family, .int v_this_density, .long v_this_outerHigh, .ref a_yard, .ref a_columns, .ref a_rows, .long v_this_pasteLeft, .long v_this_pasteLow, .ref a_line, .int v_this_nameLength, .int v_this_isWritten])), (a_family, .inr (2, [.ref a_family_values, .ref a_family_letters, .int v_family_letterCount, .ref (ad 0 v_family_kind)])), (a_family_values, .inl (k_family_values, 18, .inl v_family_values)), (a_cells, .inl (k_cells, 455, .inr (.inl v_cells))), (a_columns, .inr (5, [.long v_columns_parts, .long v_columns_size, .long v_columns_ahead, .long v_columns_gap])), (a_rows, .inr (5, [.long v_rows_parts, .long v_rows_size, .long v_rows_ahead, .long v_rows_gap]))]
def P_Fp_cutPaste_156 (p1 : Int32) (v_cells : Nat → Int64) (post : Int32 → Int64 → Int64 → Int64 → Int64 → Int64 → Int64 → Int64 → Int64 → Int64 → Int64 → Prop) (u_this_pasteLeft : Int64) (u_this_pasteLow : Int64) (u_columns_parts : Int64) (u_columns_size : Int64) (u_columns_ahead : Int64) (u_columns_gap : Int64) (u_rows_parts : Int64) (u_rows_size : Int64) (u_rows_ahead : Int64) (u_rows_gap : Int64) : Prop := P_Fp_cell p1 6 v_cells (fun (r1 : Int64) => ((0 < r1 → post 0 u_this_pasteLeft u_this_pasteLow u_columns_parts u_columns_size u_columns_ahead u_columns_gap u_rows_parts u_rows_size u_rows_ahead u_rows_gap) ∧ (¬ 0 < r1 → ((u_columns_size ≤ 0 → post 0 u_this_pasteLeft u_this_pasteLow u_columns_parts u_columns_size u_columns_ahead u_columns_gap u_rows_parts u_rows_size u_rows_ahead u_rows_gap) ∧ (¬ u_columns_size ≤ 0 → ((0 < u_rows_size → post ((u_columns_parts * u_rows_parts).toInt32) u_this_pasteLeft u_this_pasteLow u_columns_parts u_columns_size u_columns_ahead u_columns_gap u_rows_parts u_rows_size u_rows_ahead u_rows_gap) ∧ (¬ 0 < u_rows_size → post 0 u_this_pasteLeft u_this_pasteLow u_columns_parts u_columns_size u_columns_ahead u_columns_gap u_rows_parts u_rows_size u_rows_ahead u_rows_gap)))))))
set_option maxHeartbeats 4000000 in
set_option maxRecDepth 100000 in
theorem w_Fp_cutPaste_156 (l : Launch) {p : Program} {e : Env} {s : State} {m : MethodId} {args : Array Value} {below : List Frame} {meth : Method} {c : Code} {dC : Nat → ClassId} {dI : Nat → Nat → Nat} {ad : Nat → Nat → Nat} {A : Nat → Prop} (C0 : zC p s m args meth c cFp_cutPaste 10 RFp zT (some .int) A) (hE : zE ad A s) (a_this : Nat) (a_cells : Nat) (a_family : Nat) (a_yard : Nat) (a_columns : Nat) (a_rows : Nat) (a_line : Nat) (a_family_values : Nat) (a_family_letters : Nat) (k_family_values : ClassId) (k_cells : ClassId) (p1 : Int32) (v_this_atHand : Int32) (v_this_count : Int32) (v_this_thermal : Int32) (v_this_density : Int32) (v_this_outerHigh : Int64) (v_this_pasteLeft : Int64) (v_this_pasteLow : Int64) (v_this_nameLength : Int32) (v_this_isWritten : Int32) (v_family_letterCount : Int32) (v_family_kind : Nat) (v_family_values : Nat → Int32) (v_cells : Nat → Int64) (v_columns_parts : Int64) (v_columns_size : Int64) (v_columns_ahead : Int64) (v_columns_gap : Int64) (v_rows_parts : Int64) (v_rows_size : Int64) (v_rows_ahead : Int64) (v_rows_gap : Int64) (post : Int32 → Int64 → Int64 → Int64 → Int64 → Int64 → Int64 → Int64 → Int64 → Int64 → Int64 → Prop) (hK : va_K (dC, dI) vwCl [(k_family_values, .int), (k_cells, .long)] s) : ∀ (u_this_pasteLeft : Int64) (u_this_pasteLow : Int64) (u_columns_parts : Int64) (u_columns_size : Int64) (u_columns_ahead : Int64) (u_columns_gap : Int64) (u_rows_parts : Int64) (u_rows_size : Int64) (u_rows_ahead : Int64) (u_rows_gap : Int64) (H : Heap) (locs : List Loc), P_Fp_cutPaste_156 p1 v_cells post u_this_pasteLeft u_this_pasteLow u_columns_parts u_columns_size u_columns_ahead u_columns_gap u_rows_parts u_rows_size u_rows_ahead u_rows_gap → va_P (dC, dI) vwCl (w_Fp_cutPaste ad a_this a_cells a_family a_yard a_columns a_rows a_line a_family_values a_family_letters k_family_values k_cells v_this_atHand v_this_count v_this_thermal v_this_density v_this_outerHigh u_this_pasteLeft u_this_pasteLow v_this_nameLength v_this_isWritten v_family_letterCount v_family_kind v_family_values v_cells u_columns_parts u_columns_size u_columns_ahead u_columns_gap u_rows_parts u_rows_size u_rows_ahead u_rows_gap) H → va_D A (w_Fp_cutPaste ad a_this a_cells a_family a_yard a_columns a_rows a_line a_family_values a_family_letters k_family_values k_cells v_this_atHand v_this_count v_this_thermal v_this_density v_this_outerHigh u_this_pasteLeft u_this_pasteLow v_this_nameLength v_this_isWritten v_family_letterCount v_family_kind v_family_values v_cells u_columns_parts u_columns_size u_columns_ahead u_columns_gap u_rows_parts u_rows_size u_rows_ahead u_rows_gap) → va_S A s.heap H locs → ∀ ls : Array Slot, lv_has ls 10 [(0, .ref a_this), (1, .int p1)] → W p l e (headSpec wsFp_cutPaste { frames := 2, cells := 0, slots := 0, locals := 57 }).room s m args below meth c H locs 0 0 (MQ below (va_Qi (fun (r : Int32) (u : Int64 × Int64 × Int64 × Int64 × Int64 × Int64 × Int64 × Int64 × Int64 × Int64) => post r u.1 u.2.1 u.2.2.1 u.2.2.2.1 u.2.2.2.2.1 u.2.2.2.2.2.1 u.2.2.2.2.2.2.1 u.2.2.2.2.2.2.2.1 u.2.2.2.2.2.2.2.2.1 u.2.2.2.2.2.2.2.2.2) (zB (dC, dI) A (fun (u : Int64 × Int64 × Int64 × Int64 × Int64 × Int64 × Int64 × Int64 × Int64 × Int64) => (w_Fp_cutPaste ad a_this a_cells a_family a_yard a_columns a_rows a_line a_family_values a_family_letters k_family_values k_cells v_this_atHand v_this_count v_this_thermal v_this_density v_this_outerHigh u.1 u.2.1 v_this_nameLength v_this_isWritten v_family_letterCount v_family_kind v_family_values v_cells u.2.2.1 u.2.2.2.1 u.2.2.2.2.1 u.2.2.2.2.2.1 u.2.2.2.2.2.2.1 u.2.2.2.2.2.2.2.1 u.2.2.2.2.2.2.2.2.1 u.2.2.2.2.2.2.2.2.2))) A) args s 0 0 A) (F0 m 156 ls []) := by
  obtain ⟨hx, hb, hr, hml, hown, hts, hlocks, hA⟩ := id C0
  intro u_this_pasteLeft u_this_pasteLow u_columns_parts u_columns_size u_columns_ahead u_columns_gap u_rows_parts u_rows_size u_rows_ahead u_rows_gap H locs h hP hD hS ls hl
  unfold P_Fp_cutPaste_156 at h
  refine lv_aload_n hx hb dFp_cutPaste_156 rfl (lv_at hl 0 rfl) ?_
  refine lv_iload_n hx hb dFp_cutPaste_157 rfl (lv_at hl 1 rfl) ?_
  refine lv_bipush (v := 6) hx hb dFp_cutPaste_158 (by decide) ?_
  refine zcall_l hP hD hS hA [0, 3] [1, 2, 4, 5] (va_runV (As := [.int p1, .int 6]) (rest := []) ⟨hx, hb, hml, hown, hts⟩ (c_Fp_cell l dC dI ad a_this a_cells a_family a_yard a_columns a_rows a_line k_cells _ p1 6 v_this_atHand v_this_count v_this_thermal v_this_density v_this_outerHigh u_this_pasteLeft u_this_pasteLow v_this_nameLength v_this_isWritten v_cells _ h) ⟨callB_of 2 hts (zgood zc_Fp_cell) rfl rfl rfl (hts _ zw_101) (hts _ zw_818) (by decide +kernel) ⟨Nat.le_of_ble_eq_true rfl, Nat.le_of_ble_eq_true rfl⟩, (hts _ zw_820), (hts _ zw_46)⟩ (zpreV hE hK hP hD hS hA [0, 3] [1] (by rfl) (by rfl) (by decide) (ci := 6) (q0 := 0) rfl (by rfl)) rfl rfl hl.1 rfl (lv_room (Nat.le_of_ble_eq_true rfl)) dFp_cutPaste_160 ⟨Nat.le_of_ble_eq_true rfl, Nat.le_of_ble_eq_true rfl⟩) (by rfl) (by rfl) (by decide) (by decide) (fun r1 u H locs h hP hD hS => ?_)
  try dsimp only at h
  have hP := hP.sub (ws' := (w_Fp_cutPaste ad a_this a_cells a_family a_yard a_columns a_rows a_line a_family_values a_family_letters k_family_values k_cells v_this_atHand v_this_count v_this_thermal v_this_density v_this_outerHigh u_this_pasteLeft u_this_pasteLow v_this_nameLength v_this_isWritten v_family_letterCount v_family_kind v_family_values v_cells u_columns_parts u_columns_size u_columns_ahead u_columns_gap u_rows_parts u_rows_size u_rows_ahead u_rows_gap)) [4, 0, 1, 5, 2, 3] rfl
  have hD := hD.sub (ws' := (w_Fp_cutPaste ad a_this a_cells a_family a_yard a_columns a_rows a_line a_family_values a_family_letters k_family_values k_cells v_this_atHand v_this_count v_this_thermal v_this_density v_this_outerHigh u_this_pasteLeft u_this_pasteLow v_this_nameLength v_this_isWritten v_family_letterCount v_family_kind v_family_values v_cells u_columns_parts u_columns_size u_columns_ahead u_columns_gap u_rows_parts u_rows_size u_rows_ahead u_rows_gap)) [4, 0, 1, 5, 2, 3] (by decide) rfl
  refine lv_lconst (v := 0) hx hb dFp_cutPaste_163 (by decide) ?_
  refine zz_lcmp_gt (tgt := 192) hx hb dFp_cutPaste_164 dFp_cutPaste_165 (by decide) ?_ ?_
  · intro c2
    replace h := h.1 c2
    refine lv_iconst (v := 0) hx hb dFp_cutPaste_192 (by decide) ?_
    exact W.iret (v := 0) hx hb hr (fun t ht hW => ⟨⟨0, (u_this_pasteLeft, u_this_pasteLow, u_columns_parts, u_columns_size, u_columns_ahead, u_columns_gap, u_rows_parts, u_rows_size, u_rows_ahead, u_rows_gap), rfl, h, by rw [ht]; exact hP, hD⟩, hS.F ht⟩) hS.2.2 dFp_cutPaste_193
  · intro c2
    replace h := h.2 c2
    refine lv_aload_n hx hb dFp_cutPaste_168 rfl (lv_at hl 0 rfl) ?_
    refine va_get (D := (dC, dI)) (ci := 6) (v := .ref a_columns) (C := RFp) (T := TFp) (N := 15) hx hb hts inZ_Fp hown hK hP 0 rfl rfl 8 (by decide) (hts _ zw_293) (fun _ h9 => h9) rfl dFp_cutPaste_169 ?_
    refine va_getN (D := (dC, dI)) (ci := 5) (v := .long u_columns_size) (C := RCu) (T := TCu) (N := 4) hx hb hts inZ_Cu hown hK hP 4 rfl rfl 1 (by decide) ((hE.nw _ zn_252).use rfl) (fun _ h9 => h9) rfl dFp_cutPaste_172 ?_
    refine lv_lconst (v := 0) hx hb dFp_cutPaste_175 (by decide) ?_
    refine zz_lcmp_le (tgt := 192) hx hb dFp_cutPaste_176 dFp_cutPaste_177 (by decide) ?_ ?_
    · intro c3
      replace h := h.1 c3
      refine lv_iconst (v := 0) hx hb dFp_cutPaste_192 (by decide) ?_
      exact W.iret (v := 0) hx hb hr (fun t ht hW => ⟨⟨0, (u_this_pasteLeft, u_this_pasteLow, u_columns_parts, u_columns_size, u_columns_ahead, u_columns_gap, u_rows_parts, u_rows_size, u_rows_ahead, u_rows_gap), rfl, h, by rw [ht]; exact hP, hD⟩, hS.F ht⟩) hS.2.2 dFp_cutPaste_193
    · intro c3
      replace h := h.2 c3
      refine lv_aload_n hx hb dFp_cutPaste_180 rfl (lv_at hl 0 rfl) ?_
      refine va_get (D := (dC, dI)) (ci := 6) (v := .ref a_rows) (C := RFp) (T := TFp) (N := 15) hx hb hts inZ_Fp hown hK hP 0 rfl rfl 9 (by decide) (hts _ zw_294) (fun _ h9 => h9) rfl dFp_cutPaste_181 ?_
      refine va_getN (D := (dC, dI)) (ci := 5) (v := .long u_rows_size) (C := RCu) (T := TCu) (N := 4) hx hb hts inZ_Cu hown hK hP 5 rfl rfl 1 (by decide) ((hE.nw _ zn_252).use rfl) (fun _ h9 => h9) rfl dFp_cutPaste_184 ?_
      refine lv_lconst (v := 0) hx hb dFp_cutPaste_187 (by decide) ?_
      refine zz_lcmp_gt (tgt := 194) hx hb dFp_cutPaste_188 dFp_cutPaste_189 (by decide) ?_ ?_
      · intro c4
        replace h := h.1 c4
        refine lv_aload_n hx hb dFp_cutPaste_194 rfl (lv_at hl 0 rfl) ?_
        refine va_get (D := (dC, dI)) (ci := 6) (v := .ref a_columns) (C := RFp) (T := TFp) (N := 15) hx hb hts inZ_Fp hown hK hP 0 rfl rfl 8 (by decide) (hts _ zw_293) (fun _ h9 => h9) rfl dFp_cutPaste_195 ?_
        refine va_getN (D := (dC, dI)) (ci := 5) (v := .long u_columns_parts) (C := RCu) (T := TCu) (N := 4) hx hb hts inZ_Cu hown hK hP 4 rfl rfl 0 (by decide) ((hE.nw _ zn_250).use rfl) (fun _ h9 => h9) rfl dFp_cutPaste_198 ?_
        refine lv_aload_n hx hb dFp_cutPaste_201 rfl (lv_at hl 0 rfl) ?_
        refine va_get (D := (dC, dI)) (ci := 6) (v := .ref a_rows) (C := RFp) (T := TFp) (N := 15) hx hb hts inZ_Fp hown hK hP 0 rfl rfl 9 (by decide) (hts _ zw_294) (fun _ h9 => h9) rfl dFp_cutPaste_202 ?_
        refine va_getN (D := (dC, dI)) (ci := 5) (v := .long u_rows_parts) (C := RCu) (T := TCu) (N := 4) hx hb hts inZ_Cu hown hK hP 5 rfl rfl 0 (by decide) ((hE.nw _ zn_250).use rfl) (fun _ h9 => h9) rfl dFp_cutPaste_205 ?_
        refine lv_lmul hx hb dFp_cutPaste_208 ?_
        refine lv_l2i hx hb dFp_cutPaste_209 rfl ?_
        exact W.iret (v := ((u_columns_parts * u_rows_parts).toInt32)) hx hb hr (fun t ht hW => ⟨⟨((u_columns_parts * u_rows_parts).toInt32), (u_this_pasteLeft, u_this_pasteLow, u_columns_parts, u_columns_size, u_columns_ahead, u_columns_gap, u_rows_parts, u_rows_size, u_rows_ahead, u_rows_gap), rfl, h, by rw [ht]; exact hP, hD⟩, hS.F ht⟩) hS.2.2 dFp_cutPaste_210
      · intro c4
        replace h := h.2 c4
        refine lv_iconst (v := 0) hx hb dFp_cutPaste_192 (by decide) ?_
        exact W.iret (v := 0) hx hb hr (fun t ht hW => ⟨⟨0, (u_this_pasteLeft, u_this_pasteLow, u_columns_parts, u_columns_size, u_columns_ahead, u_columns_gap, u_rows_parts, u_rows_size, u_rows_ahead, u_rows_gap), rfl, h, by rw [ht]; exact hP, hD⟩, hS.F ht⟩) hS.2.2 dFp_cutPaste_193
def P_Fp_cutPaste_138 (p1 : Int32) (v_cells : Nat → Int64) (post : Int32 → Int64 → Int64 → Int64 → Int64 → Int64 → Int64 → Int64 → Int64 → Int64 → Int64 → Prop) (y6 : Int64) (y8 : Int64) (u_this_pasteLeft : Int64) (u_this_pasteLow : Int64) : Prop := P_Cu_whole y6 (fun (u1 : Int64) (u2 : Int64) (u3 : Int64) (u4 : Int64) => P_Cu_whole y8 (fun (u5 : Int64) (u6 : Int64) (u7 : Int64) (u8 : Int64) => P_Fp_cutPaste_156 p1 v_cells post u_this_pasteLeft u_this_pasteLow u1 u2 u3 u4 u5 u6 u7 u8))
set_option maxHeartbeats 4000000 in
set_option maxRecDepth 100000 in
theorem w_Fp_cutPaste_138 (l : Launch) {p : Program} {e : Env} {s : State} {m : MethodId} {args : Array Value} {below : List Frame} {meth : Method} {c : Code} {dC : Nat → ClassId} {dI : Nat → Nat → Nat} {ad : Nat → Nat → Nat} {A : Nat → Prop} (C0 : zC p s m args meth c cFp_cutPaste 10 RFp zT (some .int) A) (hE : zE ad A s) (a_this : Nat) (a_cells : Nat) (a_family : Nat) (a_yard : Nat) (a_columns : Nat) (a_rows : Nat) (a_line : Nat) (a_family_values : Nat) (a_family_letters : Nat) (k_family_values : ClassId) (k_cells : ClassId) (p1 : Int32) (v_this_atHand : Int32) (v_this_count : Int32) (v_this_thermal : Int32) (v_this_density : Int32) (v_this_outerHigh : Int64) (v_this_pasteLeft : Int64) (v_this_pasteLow : Int64) (v_this_nameLength : Int32) (v_this_isWritten : Int32) (v_family_letterCount : Int32) (v_family_kind : Nat) (v_family_values : Nat → Int32) (v_cells : Nat → Int64) (v_columns_parts : Int64) (v_columns_size : Int64) (v_columns_ahead : Int64) (v_columns_gap : Int64) (v_rows_parts : Int64) (v_rows_size : Int64) (v_rows_ahead : Int64) (v_rows_gap : Int64) (post : Int32 → Int64 → Int64 → Int64 → Int64 → Int64 → Int64 → Int64 → Int64 → Int64 → Int64 → Prop) (hK : va_K (dC, dI) vwCl [(k_family_values, .int), (k_cells, .long)] s) : ∀ (y6 : Int64) (y8 : Int64) (u_this_pasteLeft : Int64) (u_this_pasteLow : Int64) (H : Heap) (locs : List Loc), P_Fp_cutPaste_138 p1 v_cells post y6 y8 u_this_pasteLeft u_this_pasteLow → va_P (dC, dI) vwCl (w_Fp_cutPaste ad a_this a_cells a_family a_yard a_columns a_rows a_line a_family_values a_family_letters k_family_values k_cells v_this_atHand v_this_count v_this_thermal v_this_density v_this_outerHigh u_this_pasteLeft u_this_pasteLow v_this_nameLength v_this_isWritten v_family_letterCount v_family_kind v_family_values v_cells v_columns_parts v_columns_size v_columns_ahead v_columns_gap v_rows_parts v_rows_size v_rows_ahead v_rows_gap) H → va_D A (w_Fp_cutPaste ad a_this a_cells a_family a_yard a_columns a_rows a_line a_family_values a_family_letters k_family_values k_cells v_this_atHand v_this_count v_this_thermal v_this_density v_this_outerHigh u_this_pasteLeft u_this_pasteLow v_this_nameLength v_this_isWritten v_family_letterCount v_family_kind v_family_values v_cells v_columns_parts v_columns_size v_columns_ahead v_columns_gap v_rows_parts v_rows_size v_rows_ahead v_rows_gap) → va_S A s.heap H locs → ∀ ls : Array Slot, lv_has ls 10 [(0, .ref a_this), (1, .int p1), (6, .long y6), (8, .long y8)] → W p l e (headSpec wsFp_cutPaste { frames := 2, cells := 0, slots := 0, locals := 57 }).room s m args below meth c H locs 0 0 (MQ below (va_Qi (fun (r : Int32) (u : Int64 × Int64 × Int64 × Int64 × Int64 × Int64 × Int64 × Int64 × Int64 × Int64) => post r u.1 u.2.1 u.2.2.1 u.2.2.2.1 u.2.2.2.2.1 u.2.2.2.2.2.1 u.2.2.2.2.2.2.1 u.2.2.2.2.2.2.2.1 u.2.2.2.2.2.2.2.2.1 u.2.2.2.2.2.2.2.2.2) (zB (dC, dI) A (fun (u : Int64 × Int64 × Int64 × Int64 × Int64 × Int64 × Int64 × Int64 × Int64 × Int64) => (w_Fp_cutPaste ad a_this a_cells a_family a_yard a_columns a_rows a_line a_family_values a_family_letters k_family_values k_cells v_this_atHand v_this_count v_this_thermal v_this_density v_this_outerHigh u.1 u.2.1 v_this_nameLength v_this_isWritten v_family_letterCount v_family_kind v_family_values v_cells u.2.2.1 u.2.2.2.1 u.2.2.2.2.1 u.2.2.2.2.2.1 u.2.2.2.2.2.2.1 u.2.2.2.2.2.2.2.1 u.2.2.2.2.2.2.2.2.1 u.2.2.2.2.2.2.2.2.2))) A) args s 0 0 A) (F0 m 138 ls []) := by
  obtain ⟨hx, hb, hr, hml, hown, hts, hlocks, hA⟩ := id C0
  intro y6 y8 u_this_pasteLeft u_this_pasteLow H locs h hP hD hS ls hl
  unfold P_Fp_cutPaste_138 at h
  refine lv_aload_n hx hb dFp_cutPaste_138 rfl (lv_at hl 0 rfl) ?_
  refine va_get (D := (dC, dI)) (ci := 6) (v := .ref a_columns) (C := RFp) (T := TFp) (N := 15) hx hb hts inZ_Fp hown hK hP 0 rfl rfl 8 (by decide) (hts _ zw_293) (fun _ h9 => h9) rfl dFp_cutPaste_139 ?_
  refine lv_lload hx hb dFp_cutPaste_142 (lv_at hl 2 rfl) ?_
  refine zcall_v hP hD hS hA [4] [0, 1, 2, 3, 5] (va_runVN (As := [.long y6]) (rest := []) ⟨hx, hb, hml, hown, hts⟩ (c_Cu_whole l dC dI ad a_columns _ y6 v_columns_parts v_columns_size v_columns_ahead v_columns_gap _ h) ⟨va_cnB 1 hts (zgood zc_Cu_whole) rfl rfl rfl (hE.nw _ zn_959) (hts _ zw_105) (by decide +kernel) ⟨Nat.le_of_ble_eq_true rfl, Nat.le_of_ble_eq_true rfl⟩, (hts _ zw_953), (hts _ zw_60)⟩ (zpreV hE hK hP hD hS hA [4] [] (by rfl) (by rfl) (by decide) (ci := 5) (q0 := 4) rfl (by rfl)) rfl rfl hl.1 rfl (lv_room (Nat.le_of_ble_eq_true rfl)) dFp_cutPaste_144 ⟨Nat.le_of_ble_eq_true rfl, Nat.le_of_ble_eq_true rfl⟩) (by rfl) (by rfl) (by decide) (by decide) (fun u H locs h hP hD hS => ?_)
  obtain ⟨u1, u2, u3, u4⟩ := u
  try dsimp only at h
  have hP := hP.sub (ws' := (w_Fp_cutPaste ad a_this a_cells a_family a_yard a_columns a_rows a_line a_family_values a_family_letters k_family_values k_cells v_this_atHand v_this_count v_this_thermal v_this_density v_this_outerHigh u_this_pasteLeft u_this_pasteLow v_this_nameLength v_this_isWritten v_family_letterCount v_family_kind v_family_values v_cells u1 u2 u3 u4 v_rows_parts v_rows_size v_rows_ahead v_rows_gap)) [0, 1, 2, 3, 5, 4] rfl
  have hD := hD.sub (ws' := (w_Fp_cutPaste ad a_this a_cells a_family a_yard a_columns a_rows a_line a_family_values a_family_letters k_family_values k_cells v_this_atHand v_this_count v_this_thermal v_this_density v_this_outerHigh u_this_pasteLeft u_this_pasteLow v_this_nameLength v_this_isWritten v_family_letterCount v_family_kind v_family_values v_cells u1 u2 u3 u4 v_rows_parts v_rows_size v_rows_ahead v_rows_gap)) [0, 1, 2, 3, 5, 4] (by decide) rfl
  refine lv_aload_n hx hb dFp_cutPaste_147 rfl (lv_at hl 0 rfl) ?_
  refine va_get (D := (dC, dI)) (ci := 6) (v := .ref a_rows) (C := RFp) (T := TFp) (N := 15) hx hb hts inZ_Fp hown hK hP 0 rfl rfl 9 (by decide) (hts _ zw_294) (fun _ h9 => h9) rfl dFp_cutPaste_148 ?_
  refine lv_lload hx hb dFp_cutPaste_151 (lv_at hl 3 rfl) ?_
  refine zcall_v hP hD hS hA [5] [0, 1, 2, 3, 4] (va_runVN (As := [.long y8]) (rest := []) ⟨hx, hb, hml, hown, hts⟩ (c_Cu_whole l dC dI ad a_rows _ y8 v_rows_parts v_rows_size v_rows_ahead v_rows_gap _ h) ⟨va_cnB 1 hts (zgood zc_Cu_whole) rfl rfl rfl (hE.nw _ zn_959) (hts _ zw_105) (by decide +kernel) ⟨Nat.le_of_ble_eq_true rfl, Nat.le_of_ble_eq_true rfl⟩, (hts _ zw_953), (hts _ zw_60)⟩ (zpreV hE hK hP hD hS hA [5] [] (by rfl) (by rfl) (by decide) (ci := 5) (q0 := 5) rfl (by rfl)) rfl rfl hl.1 rfl (lv_room (Nat.le_of_ble_eq_true rfl)) dFp_cutPaste_153 ⟨Nat.le_of_ble_eq_true rfl, Nat.le_of_ble_eq_true rfl⟩) (by rfl) (by rfl) (by decide) (by decide) (fun u H locs h hP hD hS => ?_)
  obtain ⟨u5, u6, u7, u8⟩ := u
  try dsimp only at h
  have hP := hP.sub (ws' := (w_Fp_cutPaste ad a_this a_cells a_family a_yard a_columns a_rows a_line a_family_values a_family_letters k_family_values k_cells v_this_atHand v_this_count v_this_thermal v_this_density v_this_outerHigh u_this_pasteLeft u_this_pasteLow v_this_nameLength v_this_isWritten v_family_letterCount v_family_kind v_family_values v_cells u1 u2 u3 u4 u5 u6 u7 u8)) [0, 1, 2, 3, 4, 5] rfl
  have hD := hD.sub (ws' := (w_Fp_cutPaste ad a_this a_cells a_family a_yard a_columns a_rows a_line a_family_values a_family_letters k_family_values k_cells v_this_atHand v_this_count v_this_thermal v_this_density v_this_outerHigh u_this_pasteLeft u_this_pasteLow v_this_nameLength v_this_isWritten v_family_letterCount v_family_kind v_family_values v_cells u1 u2 u3 u4 u5 u6 u7 u8)) [0, 1, 2, 3, 4, 5] (by decide) rfl
  exact w_Fp_cutPaste_156 l C0 hE a_this a_cells a_family a_yard a_columns a_rows a_line a_family_values a_family_letters k_family_values k_cells p1 v_this_atHand v_this_count v_this_thermal v_this_density v_this_outerHigh v_this_pasteLeft v_this_pasteLow v_this_nameLength v_this_isWritten v_family_letterCount v_family_kind v_family_values v_cells v_columns_parts v_columns_size v_columns_ahead v_columns_gap v_rows_parts v_rows_size v_rows_ahead v_rows_gap post hK u_this_pasteLeft u_this_pasteLow u1 u2 u3 u4 u5 u6 u7 u8 _ _ h hP hD hS ls (lv_sub hl [0, 1] rfl)
def P_Fp_cutPaste (p1 : Int32) (v_family_values : Nat → Int32) (v_cells : Nat → Int64) (post : Int32 → Int64 → Int64 → Int64 → Int64 → Int64 → Int64 → Int64 → Int64 → Int64 → Int64 → Prop) : Prop := P_Fa_of 6 v_family_values (fun (r1 : Int64) => P_Fa_of 8 v_family_values (fun (r2 : Int64) => P_Fp_cell p1 3 v_cells (fun (r3 : Int64) => ∀ x4 : Int64, x4 = r3 - (2 * r1) → P_Fp_cell p1 4 v_cells (fun (r5 : Int64) => ∀ x6 : Int64, x6 = r5 - (2 * r1) → P_Fp_cell p1 1 v_cells (fun (r7 : Int64) => ∀ x8 : Int64, x8 = r7 + r1 → P_Fp_cell p1 2 v_cells (fun (r9 : Int64) => ∀ x10 : Int64, x10 = r9 + r1 → ((r2 ≤ 0 → P_Fp_cutPaste_138 p1 v_cells post x4 x6 x8 x10) ∧ (¬ r2 ≤ 0 → P_Fp_cell p1 5 v_cells (fun (r12 : Int64) => ((¬ r12 = 0 → P_Fp_cutPaste_138 p1 v_cells post x4 x6 x8 x10) ∧ (r12 = 0 → P_Fa_of 7 v_family_values (fun (r14 : Int64) => P_Cu_split x4 r2 r14 (fun (u15 : Int64) (u16 : Int64) (u17 : Int64) (u18 : Int64) => P_Fa_of 7 v_family_values (fun (r19 : Int64) => P_Cu_split x6 r2 r19 (fun (u20 : Int64) (u21 : Int64) (u22 : Int64) (u23 : Int64) => P_Fp_cutPaste_156 p1 v_cells post x8 x10 u15 u16 u17 u18 u20 u21 u22 u23)))))))))))))))
set_option maxHeartbeats 4000000 in
set_option maxRecDepth 100000 in
theorem c_Fp_cutPaste (l : Launch) (dC : Nat → ClassId) (dI : Nat → Nat → Nat) (ad : Nat → Nat → Nat) (a_this : Nat) (a_cells : Nat) (a_family : Nat) (a_yard : Nat) (a_columns : Nat) (a_rows : Nat) (a_line : Nat) (a_family_values : Nat) (a_family_letters : Nat) (k_family_values : ClassId) (k_cells : ClassId) (sz : Nat) (p1 : Int32) (v_this_atHand : Int32) (v_this_count : Int32) (v_this_thermal : Int32) (v_this_density : Int32) (v_this_outerHigh : Int64) (v_this_pasteLeft : Int64) (v_this_pasteLow : Int64) (v_this_nameLength : Int32) (v_this_isWritten : Int32) (v_family_letterCount : Int32) (v_family_kind : Nat) (v_family_values : Nat → Int32) (v_cells : Nat → Int64) (v_columns_parts : Int64) (v_columns_size : Int64) (v_columns_ahead : Int64) (v_columns_gap : Int64) (v_rows_parts : Int64) (v_rows_size : Int64) (v_rows_ahead : Int64) (v_rows_gap : Int64) (post : Int32 → Int64 → Int64 → Int64 → Int64 → Int64 → Int64 → Int64 → Int64 → Int64 → Int64 → Prop) (h : P_Fp_cutPaste p1 v_family_values v_cells post) : zMi l yFp_cutPaste wsFp_cutPaste { frames := 2, cells := 0, slots := 0, locals := 57 } (dC, dI) ad [.ref a_this, .int p1] (w_Fp_cutPaste ad a_this a_cells a_family a_yard a_columns a_rows a_line a_family_values a_family_letters k_family_values k_cells v_this_atHand v_this_count v_this_thermal v_this_density v_this_outerHigh v_this_pasteLeft v_this_pasteLow v_this_nameLength v_this_isWritten v_family_letterCount v_family_kind v_family_values v_cells v_columns_parts v_columns_size v_columns_ahead v_columns_gap v_rows_parts v_rows_size v_rows_ahead v_rows_gap) [(k_family_values, .int), (k_cells, .long)] sz (fun (r : Int32) (u : Int64 × Int64 × Int64 × Int64 × Int64 × Int64 × Int64 × Int64 × Int64 × Int64) => post r u.1 u.2.1 u.2.2.1 u.2.2.2.1 u.2.2.2.2.1 u.2.2.2.2.2.1 u.2.2.2.2.2.2.1 u.2.2.2.2.2.2.2.1 u.2.2.2.2.2.2.2.2.1 u.2.2.2.2.2.2.2.2.2) (fun (u : Int64 × Int64 × Int64 × Int64 × Int64 × Int64 × Int64 × Int64 × Int64 × Int64) => (w_Fp_cutPaste ad a_this a_cells a_family a_yard a_columns a_rows a_line a_family_values a_family_letters k_family_values k_cells v_this_atHand v_this_count v_this_thermal v_this_density v_this_outerHigh u.1 u.2.1 v_this_nameLength v_this_isWritten v_family_letterCount v_family_kind v_family_values v_cells u.2.2.1 u.2.2.2.1 u.2.2.2.2.1 u.2.2.2.2.2.1 u.2.2.2.2.2.2.1 u.2.2.2.2.2.2.2.1 u.2.2.2.2.2.2.2.2.1 u.2.2.2.2.2.2.2.2.2)) 0 0 := by
  refine Met.ofW (cc := cFp_cutPaste) (maxL := 10) (ret := (some .int)) (by decide +kernel) rfl ?_
  intro p e s m args below meth c s₁ B hml hv
  obtain ⟨rfl, hsz, hP, hK, hD0, hE⟩ := hv
  have hx := B.exec
  have hb := B.bytes
  have hr := B.returns
  have hts0 := atoms_spec (ws := wsFp_cutPaste) B.pre
  have hts := fun w h => hts0 w (List.mem_cons_of_mem _ h)
  have hown : s.vm.findClass RFp = some m.cls := findClass_of_methodNamed B.named
  have hlocks := B.notSynchronized
  subst hsz
  have hD := hD0.self (sz := s.heap.size)
  generalize hAe : va_A (w_Fp_cutPaste ad a_this a_cells a_family a_yard a_columns a_rows a_line a_family_values a_family_letters k_family_values k_cells v_this_atHand v_this_count v_this_thermal v_this_density v_this_outerHigh v_this_pasteLeft v_this_pasteLow v_this_nameLength v_this_isWritten v_family_letterCount v_family_kind v_family_values v_cells v_columns_parts v_columns_size v_columns_ahead v_columns_gap v_rows_parts v_rows_size v_rows_ahead v_rows_gap) s.heap.size = A at hD hE ⊢
  have hA : ∀ q : Nat, s.heap.size ≤ q → A q := fun q h => by rw [← hAe]; exact Or.inr h
  have C0 := zC.mk hx hb hr hml hown hts hlocks hA
  have hS : va_S A s.heap s.heap [] := va_S.rf
  have hl := lv_entry ([.ref a_this, .int p1]) (n := 10) (Nat.le_of_ble_eq_true rfl)
  rw [lg_entry_eq]
  generalize (lg_sl ([.ref a_this, .int p1]) ++ List.replicate (10 - (lg_sl ([.ref a_this, .int p1])).length) Slot.unset).toArray = ls at hl ⊢
  have hl : lv_has ls 10 [(0, .ref a_this), (1, .int p1)] := hl
  unfold P_Fp_cutPaste at h
  refine lv_aload_n hx hb dFp_cutPaste_0 rfl (lv_at hl 0 rfl) ?_
  refine va_get (D := (dC, dI)) (ci := 6) (v := .ref a_family) (C := RFp) (T := TFp) (N := 15) hx hb hts inZ_Fp hown hK hP 0 rfl rfl 4 (by decide) (hts _ zw_288) (fun _ h9 => h9) rfl dFp_cutPaste_1 ?_
  refine va_gets (C := "FootprintRules$Key") (n := "PASTE") (d := "LFootprintRules$Key;") hx hb (hE.enKey.1 6 (by decide)).1 hS hown (hts _ zw_941) (fun _ h9 => h9) dFp_cutPaste_4 ?_
  refine zcall_l hP hD hS hA [1, 2] [0, 3, 4, 5] (va_runVN (As := [.ref (ad 1 6)]) (rest := []) ⟨hx, hb, hml, hown, hts⟩ (c_Fa_of l dC dI ad a_family a_family_values a_family_letters k_family_values _ 6 v_family_letterCount v_family_kind v_family_values _ h) ⟨va_cnB 1 hts (zgood zc_Fa_of) rfl rfl rfl (hE.nw _ zn_833) (hts _ zw_102) (by decide +kernel) ⟨Nat.le_of_ble_eq_true rfl, Nat.le_of_ble_eq_true rfl⟩, (hts _ zw_716), (hts _ zw_29)⟩ (zpreV hE hK hP hD hS hA [1, 2] [0] (by rfl) (by rfl) (by decide) (ci := 2) (q0 := 1) rfl (by rfl)) rfl rfl hl.1 rfl (lv_room (Nat.le_of_ble_eq_true rfl)) dFp_cutPaste_7 ⟨Nat.le_of_ble_eq_true rfl, Nat.le_of_ble_eq_true rfl⟩) (by rfl) (by rfl) (by decide) (by decide) (fun r1 u H locs h hP hD hS => ?_)
  try dsimp only at h
  have hP := hP.sub (ws' := (w_Fp_cutPaste ad a_this a_cells a_family a_yard a_columns a_rows a_line a_family_values a_family_letters k_family_values k_cells v_this_atHand v_this_count v_this_thermal v_this_density v_this_outerHigh v_this_pasteLeft v_this_pasteLow v_this_nameLength v_this_isWritten v_family_letterCount v_family_kind v_family_values v_cells v_columns_parts v_columns_size v_columns_ahead v_columns_gap v_rows_parts v_rows_size v_rows_ahead v_rows_gap)) [0, 4, 5, 1, 2, 3] rfl
  have hD := hD.sub (ws' := (w_Fp_cutPaste ad a_this a_cells a_family a_yard a_columns a_rows a_line a_family_values a_family_letters k_family_values k_cells v_this_atHand v_this_count v_this_thermal v_this_density v_this_outerHigh v_this_pasteLeft v_this_pasteLow v_this_nameLength v_this_isWritten v_family_letterCount v_family_kind v_family_values v_cells v_columns_parts v_columns_size v_columns_ahead v_columns_gap v_rows_parts v_rows_size v_rows_ahead v_rows_gap)) [0, 4, 5, 1, 2, 3] (by decide) rfl
  refine lv_lstore_n (lv' := [(2, .long r1), (0, .ref a_this), (1, .int p1)]) hx hb dFp_cutPaste_10 rfl hl (by decide) rfl (fun ls hl => ?_)
  refine lv_aload_n hx hb dFp_cutPaste_11 rfl (lv_at hl 1 rfl) ?_
  refine va_get (D := (dC, dI)) (ci := 6) (v := .ref a_family) (C := RFp) (T := TFp) (N := 15) hx hb hts inZ_Fp hown hK hP 0 rfl rfl 4 (by decide) (hts _ zw_288) (fun _ h9 => h9) rfl dFp_cutPaste_12 ?_
  refine va_gets (C := "FootprintRules$Key") (n := "PART") (d := "LFootprintRules$Key;") hx hb (hE.enKey.1 8 (by decide)).1 hS hown (hts _ zw_943) (fun _ h9 => h9) dFp_cutPaste_15 ?_
  refine zcall_l hP hD hS hA [1, 2] [0, 3, 4, 5] (va_runVN (As := [.ref (ad 1 8)]) (rest := []) ⟨hx, hb, hml, hown, hts⟩ (c_Fa_of l dC dI ad a_family a_family_values a_family_letters k_family_values _ 8 v_family_letterCount v_family_kind v_family_values _ h) ⟨va_cnB 1 hts (zgood zc_Fa_of) rfl rfl rfl (hE.nw _ zn_833) (hts _ zw_102) (by decide +kernel) ⟨Nat.le_of_ble_eq_true rfl, Nat.le_of_ble_eq_true rfl⟩, (hts _ zw_716), (hts _ zw_29)⟩ (zpreV hE hK hP hD hS hA [1, 2] [0] (by rfl) (by rfl) (by decide) (ci := 2) (q0 := 1) rfl (by rfl)) rfl rfl hl.1 rfl (lv_room (Nat.le_of_ble_eq_true rfl)) dFp_cutPaste_18 ⟨Nat.le_of_ble_eq_true rfl, Nat.le_of_ble_eq_true rfl⟩) (by rfl) (by rfl) (by decide) (by decide) (fun r2 u H locs h hP hD hS => ?_)
  try dsimp only at h
  have hP := hP.sub (ws' := (w_Fp_cutPaste ad a_this a_cells a_family a_yard a_columns a_rows a_line a_family_values a_family_letters k_family_values k_cells v_this_atHand v_this_count v_this_thermal v_this_density v_this_outerHigh v_this_pasteLeft v_this_pasteLow v_this_nameLength v_this_isWritten v_family_letterCount v_family_kind v_family_values v_cells v_columns_parts v_columns_size v_columns_ahead v_columns_gap v_rows_parts v_rows_size v_rows_ahead v_rows_gap)) [0, 4, 5, 1, 2, 3] rfl
  have hD := hD.sub (ws' := (w_Fp_cutPaste ad a_this a_cells a_family a_yard a_columns a_rows a_line a_family_values a_family_letters k_family_values k_cells v_this_atHand v_this_count v_this_thermal v_this_density v_this_outerHigh v_this_pasteLeft v_this_pasteLow v_this_nameLength v_this_isWritten v_family_letterCount v_family_kind v_family_values v_cells v_columns_parts v_columns_size v_columns_ahead v_columns_gap v_rows_parts v_rows_size v_rows_ahead v_rows_gap)) [0, 4, 5, 1, 2, 3] (by decide) rfl
  refine lv_lstore (lv' := [(4, .long r2), (2, .long r1), (0, .ref a_this), (1, .int p1)]) hx hb dFp_cutPaste_21 hl (by decide) rfl (fun ls hl => ?_)
  refine lv_aload_n hx hb dFp_cutPaste_23 rfl (lv_at hl 2 rfl) ?_
  refine lv_iload_n hx hb dFp_cutPaste_24 rfl (lv_at hl 3 rfl) ?_
  refine lv_iconst (v := 3) hx hb dFp_cutPaste_25 (by decide) ?_
  refine zcall_l hP hD hS hA [0, 3] [1, 2, 4, 5] (va_runV (As := [.int p1, .int 3]) (rest := []) ⟨hx, hb, hml, hown, hts⟩ (c_Fp_cell l dC dI ad a_this a_cells a_family a_yard a_columns a_rows a_line k_cells _ p1 3 v_this_atHand v_this_count v_this_thermal v_this_density v_this_outerHigh v_this_pasteLeft v_this_pasteLow v_this_nameLength v_this_isWritten v_cells _ h) ⟨callB_of 2 hts (zgood zc_Fp_cell) rfl rfl rfl (hts _ zw_101) (hts _ zw_818) (by decide +kernel) ⟨Nat.le_of_ble_eq_true rfl, Nat.le_of_ble_eq_true rfl⟩, (hts _ zw_820), (hts _ zw_46)⟩ (zpreV hE hK hP hD hS hA [0, 3] [1] (by rfl) (by rfl) (by decide) (ci := 6) (q0 := 0) rfl (by rfl)) rfl rfl hl.1 rfl (lv_room (Nat.le_of_ble_eq_true rfl)) dFp_cutPaste_26 ⟨Nat.le_of_ble_eq_true rfl, Nat.le_of_ble_eq_true rfl⟩) (by rfl) (by rfl) (by decide) (by decide) (fun r3 u H locs h hP hD hS => ?_)
  try dsimp only at h
  have hP := hP.sub (ws' := (w_Fp_cutPaste ad a_this a_cells a_family a_yard a_columns a_rows a_line a_family_values a_family_letters k_family_values k_cells v_this_atHand v_this_count v_this_thermal v_this_density v_this_outerHigh v_this_pasteLeft v_this_pasteLow v_this_nameLength v_this_isWritten v_family_letterCount v_family_kind v_family_values v_cells v_columns_parts v_columns_size v_columns_ahead v_columns_gap v_rows_parts v_rows_size v_rows_ahead v_rows_gap)) [4, 0, 1, 5, 2, 3] rfl
  have hD := hD.sub (ws' := (w_Fp_cutPaste ad a_this a_cells a_family a_yard a_columns a_rows a_line a_family_values a_family_letters k_family_values k_cells v_this_atHand v_this_count v_this_thermal v_this_density v_this_outerHigh v_this_pasteLeft v_this_pasteLow v_this_nameLength v_this_isWritten v_family_letterCount v_family_kind v_family_values v_cells v_columns_parts v_columns_size v_columns_ahead v_columns_gap v_rows_parts v_rows_size v_rows_ahead v_rows_gap)) [4, 0, 1, 5, 2, 3] (by decide) rfl
  refine lv_ldc2 (own := RFp) (index := 76) (v := 2) hx hb hown (hts _ zw_828) dFp_cutPaste_29 ?_
  refine lv_lload_n hx hb dFp_cutPaste_32 rfl (lv_at hl 1 rfl) ?_
  refine lv_lmul hx hb dFp_cutPaste_33 ?_
  refine lv_lsub hx hb dFp_cutPaste_34 ?_
  refine lv_topl (fun x4 ex4 => ?_)
  replace h := h x4 ex4
  refine lv_lstore (lv' := [(6, .long x4), (4, .long r2), (2, .long r1), (0, .ref a_this), (1, .int p1)]) hx hb dFp_cutPaste_35 hl (by decide) rfl (fun ls hl => ?_)
  refine lv_aload_n hx hb dFp_cutPaste_37 rfl (lv_at hl 3 rfl) ?_
  refine lv_iload_n hx hb dFp_cutPaste_38 rfl (lv_at hl 4 rfl) ?_
  refine lv_iconst (v := 4) hx hb dFp_cutPaste_39 (by decide) ?_
  refine zcall_l hP hD hS hA [0, 3] [1, 2, 4, 5] (va_runV (As := [.int p1, .int 4]) (rest := []) ⟨hx, hb, hml, hown, hts⟩ (c_Fp_cell l dC dI ad a_this a_cells a_family a_yard a_columns a_rows a_line k_cells _ p1 4 v_this_atHand v_this_count v_this_thermal v_this_density v_this_outerHigh v_this_pasteLeft v_this_pasteLow v_this_nameLength v_this_isWritten v_cells _ h) ⟨callB_of 2 hts (zgood zc_Fp_cell) rfl rfl rfl (hts _ zw_101) (hts _ zw_818) (by decide +kernel) ⟨Nat.le_of_ble_eq_true rfl, Nat.le_of_ble_eq_true rfl⟩, (hts _ zw_820), (hts _ zw_46)⟩ (zpreV hE hK hP hD hS hA [0, 3] [1] (by rfl) (by rfl) (by decide) (ci := 6) (q0 := 0) rfl (by rfl)) rfl rfl hl.1 rfl (lv_room (Nat.le_of_ble_eq_true rfl)) dFp_cutPaste_40 ⟨Nat.le_of_ble_eq_true rfl, Nat.le_of_ble_eq_true rfl⟩) (by rfl) (by rfl) (by decide) (by decide) (fun r5 u H locs h hP hD hS => ?_)
  try dsimp only at h
  have hP := hP.sub (ws' := (w_Fp_cutPaste ad a_this a_cells a_family a_yard a_columns a_rows a_line a_family_values a_family_letters k_family_values k_cells v_this_atHand v_this_count v_this_thermal v_this_density v_this_outerHigh v_this_pasteLeft v_this_pasteLow v_this_nameLength v_this_isWritten v_family_letterCount v_family_kind v_family_values v_cells v_columns_parts v_columns_size v_columns_ahead v_columns_gap v_rows_parts v_rows_size v_rows_ahead v_rows_gap)) [4, 0, 1, 5, 2, 3] rfl
  have hD := hD.sub (ws' := (w_Fp_cutPaste ad a_this a_cells a_family a_yard a_columns a_rows a_line a_family_values a_family_letters k_family_values k_cells v_this_atHand v_this_count v_this_thermal v_this_density v_this_outerHigh v_this_pasteLeft v_this_pasteLow v_this_nameLength v_this_isWritten v_family_letterCount v_family_kind v_family_values v_cells v_columns_parts v_columns_size v_columns_ahead v_columns_gap v_rows_parts v_rows_size v_rows_ahead v_rows_gap)) [4, 0, 1, 5, 2, 3] (by decide) rfl
  refine lv_ldc2 (own := RFp) (index := 76) (v := 2) hx hb hown (hts _ zw_828) dFp_cutPaste_43 ?_
  refine lv_lload_n hx hb dFp_cutPaste_46 rfl (lv_at hl 2 rfl) ?_
  refine lv_lmul hx hb dFp_cutPaste_47 ?_
  refine lv_lsub hx hb dFp_cutPaste_48 ?_
  refine lv_topl (fun x6 ex6 => ?_)
  replace h := h x6 ex6
  refine lv_lstore (lv' := [(8, .long x6), (6, .long x4), (4, .long r2), (2, .long r1), (0, .ref a_this), (1, .int p1)]) hx hb dFp_cutPaste_49 hl (by decide) rfl (fun ls hl => ?_)
  refine lv_aload_n hx hb dFp_cutPaste_51 rfl (lv_at hl 4 rfl) ?_
  refine lv_aload_n hx hb dFp_cutPaste_52 rfl (lv_at hl 4 rfl) ?_
  refine lv_iload_n hx hb dFp_cutPaste_53 rfl (lv_at hl 5 rfl) ?_
  refine lv_iconst (v := 1) hx hb dFp_cutPaste_54 (by decide) ?_
  refine zcall_l hP hD hS hA [0, 3] [1, 2, 4, 5] (va_runV (As := [.int p1, .int 1]) (rest := [.ref a_this]) ⟨hx, hb, hml, hown, hts⟩ (c_Fp_cell l dC dI ad a_this a_cells a_family a_yard a_columns a_rows a_line k_cells _ p1 1 v_this_atHand v_this_count v_this_thermal v_this_density v_this_outerHigh v_this_pasteLeft v_this_pasteLow v_this_nameLength v_this_isWritten v_cells _ h) ⟨callB_of 2 hts (zgood zc_Fp_cell) rfl rfl rfl (hts _ zw_101) (hts _ zw_818) (by decide +kernel) ⟨Nat.le_of_ble_eq_true rfl, Nat.le_of_ble_eq_true rfl⟩, (hts _ zw_820), (hts _ zw_46)⟩ (zpreV hE hK hP hD hS hA [0, 3] [1] (by rfl) (by rfl) (by decide) (ci := 6) (q0 := 0) rfl (by rfl)) rfl rfl hl.1 rfl (lv_room (Nat.le_of_ble_eq_true rfl)) dFp_cutPaste_55 ⟨Nat.le_of_ble_eq_true rfl, Nat.le_of_ble_eq_true rfl⟩) (by rfl) (by rfl) (by decide) (by decide) (fun r7 u H locs h hP hD hS => ?_)
  try dsimp only at h
  have hP := hP.sub (ws' := (w_Fp_cutPaste ad a_this a_cells a_family a_yard a_columns a_rows a_line a_family_values a_family_letters k_family_values k_cells v_this_atHand v_this_count v_this_thermal v_this_density v_this_outerHigh v_this_pasteLeft v_this_pasteLow v_this_nameLength v_this_isWritten v_family_letterCount v_family_kind v_family_values v_cells v_columns_parts v_columns_size v_columns_ahead v_columns_gap v_rows_parts v_rows_size v_rows_ahead v_rows_gap)) [4, 0, 1, 5, 2, 3] rfl
  have hD := hD.sub (ws' := (w_Fp_cutPaste ad a_this a_cells a_family a_yard a_columns a_rows a_line a_family_values a_family_letters k_family_values k_cells v_this_atHand v_this_count v_this_thermal v_this_density v_this_outerHigh v_this_pasteLeft v_this_pasteLow v_this_nameLength v_this_isWritten v_family_letterCount v_family_kind v_family_values v_cells v_columns_parts v_columns_size v_columns_ahead v_columns_gap v_rows_parts v_rows_size v_rows_ahead v_rows_gap)) [4, 0, 1, 5, 2, 3] (by decide) rfl
  refine lv_lload_n hx hb dFp_cutPaste_58 rfl (lv_at hl 3 rfl) ?_
  refine lv_ladd hx hb dFp_cutPaste_59 ?_
  refine lv_topl (fun x8 ex8 => ?_)
  replace h := h x8 ex8
  refine va_put (D := (dC, dI)) (ci := 6) (v := .long x8) (ty := .long) (C := RFp) (T := TFp) (N := 15) hx hb hts inZ_Fp tyFp tyFp_ok nmFp hown hK hP hD hS 0 rfl rfl 10 (by decide) (hts _ zw_295) (fun _ h9 => h9) rfl (by decide +kernel) rfl rfl (Nat.le_of_ble_eq_true rfl) dFp_cutPaste_60 (fun H locs hP hD hS => ?_)
  have hP : va_P (dC, dI) vwCl (w_Fp_cutPaste ad a_this a_cells a_family a_yard a_columns a_rows a_line a_family_values a_family_letters k_family_values k_cells v_this_atHand v_this_count v_this_thermal v_this_density v_this_outerHigh x8 v_this_pasteLow v_this_nameLength v_this_isWritten v_family_letterCount v_family_kind v_family_values v_cells v_columns_parts v_columns_size v_columns_ahead v_columns_gap v_rows_parts v_rows_size v_rows_ahead v_rows_gap) H := hP
  have hD : va_D A (w_Fp_cutPaste ad a_this a_cells a_family a_yard a_columns a_rows a_line a_family_values a_family_letters k_family_values k_cells v_this_atHand v_this_count v_this_thermal v_this_density v_this_outerHigh x8 v_this_pasteLow v_this_nameLength v_this_isWritten v_family_letterCount v_family_kind v_family_values v_cells v_columns_parts v_columns_size v_columns_ahead v_columns_gap v_rows_parts v_rows_size v_rows_ahead v_rows_gap) := hD
  refine lv_aload_n hx hb dFp_cutPaste_63 rfl (lv_at hl 4 rfl) ?_
  refine lv_aload_n hx hb dFp_cutPaste_64 rfl (lv_at hl 4 rfl) ?_
  refine lv_iload_n hx hb dFp_cutPaste_65 rfl (lv_at hl 5 rfl) ?_
  refine lv_iconst (v := 2) hx hb dFp_cutPaste_66 (by decide) ?_
  refine zcall_l hP hD hS hA [0, 3] [1, 2, 4, 5] (va_runV (As := [.int p1, .int 2]) (rest := [.ref a_this]) ⟨hx, hb, hml, hown, hts⟩ (c_Fp_cell l dC dI ad a_this a_cells a_family a_yard a_columns a_rows a_line k_cells _ p1 2 v_this_atHand v_this_count v_this_thermal v_this_density v_this_outerHigh x8 v_this_pasteLow v_this_nameLength v_this_isWritten v_cells _ h) ⟨callB_of 2 hts (zgood zc_Fp_cell) rfl rfl rfl (hts _ zw_101) (hts _ zw_818) (by decide +kernel) ⟨Nat.le_of_ble_eq_true rfl, Nat.le_of_ble_eq_true rfl⟩, (hts _ zw_820), (hts _ zw_46)⟩ (zpreV hE hK hP hD hS hA [0, 3] [1] (by rfl) (by rfl) (by decide) (ci := 6) (q0 := 0) rfl (by rfl)) rfl rfl hl.1 rfl (lv_room (Nat.le_of_ble_eq_true rfl)) dFp_cutPaste_67 ⟨Nat.le_of_ble_eq_true rfl, Nat.le_of_ble_eq_true rfl⟩) (by rfl) (by rfl) (by decide) (by decide) (fun r9 u H locs h hP hD hS => ?_)
  try dsimp only at h
  have hP := hP.sub (ws' := (w_Fp_cutPaste ad a_this a_cells a_family a_yard a_columns a_rows a_line a_family_values a_family_letters k_family_values k_cells v_this_atHand v_this_count v_this_thermal v_this_density v_this_outerHigh x8 v_this_pasteLow v_this_nameLength v_this_isWritten v_family_letterCount v_family_kind v_family_values v_cells v_columns_parts v_columns_size v_columns_ahead v_columns_gap v_rows_parts v_rows_size v_rows_ahead v_rows_gap)) [4, 0, 1, 5, 2, 3] rfl
  have hD := hD.sub (ws' := (w_Fp_cutPaste ad a_this a_cells a_family a_yard a_columns a_rows a_line a_family_values a_family_letters k_family_values k_cells v_this_atHand v_this_count v_this_thermal v_this_density v_this_outerHigh x8 v_this_pasteLow v_this_nameLength v_this_isWritten v_family_letterCount v_family_kind v_family_values v_cells v_columns_parts v_columns_size v_columns_ahead v_columns_gap v_rows_parts v_rows_size v_rows_ahead v_rows_gap)) [4, 0, 1, 5, 2, 3] (by decide) rfl
  refine lv_lload_n hx hb dFp_cutPaste_70 rfl (lv_at hl 3 rfl) ?_
  refine lv_ladd hx hb dFp_cutPaste_71 ?_
  refine lv_topl (fun x10 ex10 => ?_)
  replace h := h x10 ex10
  refine va_put (D := (dC, dI)) (ci := 6) (v := .long x10) (ty := .long) (C := RFp) (T := TFp) (N := 15) hx hb hts inZ_Fp tyFp tyFp_ok nmFp hown hK hP hD hS 0 rfl rfl 11 (by decide) (hts _ zw_296) (fun _ h9 => h9) rfl (by decide +kernel) rfl rfl (Nat.le_of_ble_eq_true rfl) dFp_cutPaste_72 (fun H locs hP hD hS => ?_)
  have hP : va_P (dC, dI) vwCl (w_Fp_cutPaste ad a_this a_cells a_family a_yard a_columns a_rows a_line a_family_values a_family_letters k_family_values k_cells v_this_atHand v_this_count v_this_thermal v_this_density v_this_outerHigh x8 x10 v_this_nameLength v_this_isWritten v_family_letterCount v_family_kind v_family_values v_cells v_columns_parts v_columns_size v_columns_ahead v_columns_gap v_rows_parts v_rows_size v_rows_ahead v_rows_gap) H := hP
  have hD : va_D A (w_Fp_cutPaste ad a_this a_cells a_family a_yard a_columns a_rows a_line a_family_values a_family_letters k_family_values k_cells v_this_atHand v_this_count v_this_thermal v_this_density v_this_outerHigh x8 x10 v_this_nameLength v_this_isWritten v_family_letterCount v_family_kind v_family_values v_cells v_columns_parts v_columns_size v_columns_ahead v_columns_gap v_rows_parts v_rows_size v_rows_ahead v_rows_gap) := hD
  refine lv_lload hx hb dFp_cutPaste_75 (lv_at hl 2 rfl) ?_
  refine lv_lconst (v := 0) hx hb dFp_cutPaste_77 (by decide) ?_
  refine zz_lcmp_le (tgt := 138) hx hb dFp_cutPaste_78 dFp_cutPaste_79 (by decide) ?_ ?_
  · intro c11
    replace h := h.1 c11
    exact w_Fp_cutPaste_138 l C0 hE a_this a_cells a_family a_yard a_columns a_rows a_line a_family_values a_family_letters k_family_values k_cells p1 v_this_atHand v_this_count v_this_thermal v_this_density v_this_outerHigh v_this_pasteLeft v_this_pasteLow v_this_nameLength v_this_isWritten v_family_letterCount v_family_kind v_family_values v_cells v_columns_parts v_columns_size v_columns_ahead v_columns_gap v_rows_parts v_rows_size v_rows_ahead v_rows_gap post hK x4 x6 x8 x10 _ _ h hP hD hS ls (lv_sub hl [4, 5, 1, 0] rfl)
  · intro c11
    replace h := h.2 c11
    refine lv_aload_n hx hb dFp_cutPaste_82 rfl (lv_at hl 4 rfl) ?_
    refine lv_iload_n hx hb dFp_cutPaste_83 rfl (lv_at hl 5 rfl) ?_
    refine lv_iconst (v := 5) hx hb dFp_cutPaste_84 (by decide) ?_
    refine zcall_l hP hD hS hA [0, 3] [1, 2, 4, 5] (va_runV (As := [.int p1, .int 5]) (rest := []) ⟨hx, hb, hml, hown, hts⟩ (c_Fp_cell l dC dI ad a_this a_cells a_family a_yard a_columns a_rows a_line k_cells _ p1 5 v_this_atHand v_this_count v_this_thermal v_this_density v_this_outerHigh x8 x10 v_this_nameLength v_this_isWritten v_cells _ h) ⟨callB_of 2 hts (zgood zc_Fp_cell) rfl rfl rfl (hts _ zw_101) (hts _ zw_818) (by decide +kernel) ⟨Nat.le_of_ble_eq_true rfl, Nat.le_of_ble_eq_true rfl⟩, (hts _ zw_820), (hts _ zw_46)⟩ (zpreV hE hK hP hD hS hA [0, 3] [1] (by rfl) (by rfl) (by decide) (ci := 6) (q0 := 0) rfl (by rfl)) rfl rfl hl.1 rfl (lv_room (Nat.le_of_ble_eq_true rfl)) dFp_cutPaste_85 ⟨Nat.le_of_ble_eq_true rfl, Nat.le_of_ble_eq_true rfl⟩) (by rfl) (by rfl) (by decide) (by decide) (fun r12 u H locs h hP hD hS => ?_)
    try dsimp only at h
    have hP := hP.sub (ws' := (w_Fp_cutPaste ad a_this a_cells a_family a_yard a_columns a_rows a_line a_family_values a_family_letters k_family_values k_cells v_this_atHand v_this_count v_this_thermal v_this_density v_this_outerHigh x8 x10 v_this_nameLength v_this_isWritten v_family_letterCount v_family_kind v_family_values v_cells v_columns_parts v_columns_size v_columns_ahead v_columns_gap v_rows_parts v_rows_size v_rows_ahead v_rows_gap)) [4, 0, 1, 5, 2, 3] rfl
    have hD := hD.sub (ws' := (w_Fp_cutPaste ad a_this a_cells a_family a_yard a_columns a_rows a_line a_family_values a_family_letters k_family_values k_cells v_this_atHand v_this_count v_this_thermal v_this_density v_this_outerHigh x8 x10 v_this_nameLength v_this_isWritten v_family_letterCount v_family_kind v_family_values v_cells v_columns_parts v_columns_size v_columns_ahead v_columns_gap v_rows_parts v_rows_size v_rows_ahead v_rows_gap)) [4, 0, 1, 5, 2, 3] (by decide) rfl
    refine lv_lconst (v := 0) hx hb dFp_cutPaste_88 (by decide) ?_
    refine zz_lcmp_ne (tgt := 138) hx hb dFp_cutPaste_89 dFp_cutPaste_90 (by decide) ?_ ?_
    · intro c13
      replace h := h.1 c13
      exact w_Fp_cutPaste_138 l C0 hE a_this a_cells a_family a_yard a_columns a_rows a_line a_family_values a_family_letters k_family_values k_cells p1 v_this_atHand v_this_count v_this_thermal v_this_density v_this_outerHigh v_this_pasteLeft v_this_pasteLow v_this_nameLength v_this_isWritten v_family_letterCount v_family_kind v_family_values v_cells v_columns_parts v_columns_size v_columns_ahead v_columns_gap v_rows_parts v_rows_size v_rows_ahead v_rows_gap post hK x4 x6 x8 x10 _ _ h hP hD hS ls (lv_sub hl [4, 5, 1, 0] rfl)
    · intro c13
      replace h := h.2 c13
      refine lv_aload_n hx hb dFp_cutPaste_93 rfl (lv_at hl 4 rfl) ?_
      refine va_get (D := (dC, dI)) (ci := 6) (v := .ref a_columns) (C := RFp) (T := TFp) (N := 15) hx hb hts inZ_Fp hown hK hP 0 rfl rfl 8 (by decide) (hts _ zw_293) (fun _ h9 => h9) rfl dFp_cutPaste_94 ?_
      refine lv_lload hx hb dFp_cutPaste_97 (lv_at hl 1 rfl) ?_
      refine lv_lload hx hb dFp_cutPaste_99 (lv_at hl 2 rfl) ?_
      refine lv_aload_n hx hb dFp_cutPaste_101 rfl (lv_at hl 4 rfl) ?_
      refine va_get (D := (dC, dI)) (ci := 6) (v := .ref a_family) (C := RFp) (T := TFp) (N := 15) hx hb hts inZ_Fp hown hK hP 0 rfl rfl 4 (by decide) (hts _ zw_288) (fun _ h9 => h9) rfl dFp_cutPaste_102 ?_
      refine va_gets (C := "FootprintRules$Key") (n := "GAP") (d := "LFootprintRules$Key;") hx hb (hE.enKey.1 7 (by decide)).1 hS hown (hts _ zw_945) (fun _ h9 => h9) dFp_cutPaste_105 ?_
      refine zcall_l hP hD hS hA [1, 2] [0, 3, 4, 5] (va_runVN (As := [.ref (ad 1 7)]) (rest := [.long r2, .long x4, .ref a_columns]) ⟨hx, hb, hml, hown, hts⟩ (c_Fa_of l dC dI ad a_family a_family_values a_family_letters k_family_values _ 7 v_family_letterCount v_family_kind v_family_values _ h) ⟨va_cnB 1 hts (zgood zc_Fa_of) rfl rfl rfl (hE.nw _ zn_833) (hts _ zw_102) (by decide +kernel) ⟨Nat.le_of_ble_eq_true rfl, Nat.le_of_ble_eq_true rfl⟩, (hts _ zw_716), (hts _ zw_29)⟩ (zpreV hE hK hP hD hS hA [1, 2] [0] (by rfl) (by rfl) (by decide) (ci := 2) (q0 := 1) rfl (by rfl)) rfl rfl hl.1 rfl (lv_room (Nat.le_of_ble_eq_true rfl)) dFp_cutPaste_108 ⟨Nat.le_of_ble_eq_true rfl, Nat.le_of_ble_eq_true rfl⟩) (by rfl) (by rfl) (by decide) (by decide) (fun r14 u H locs h hP hD hS => ?_)
      try dsimp only at h
      have hP := hP.sub (ws' := (w_Fp_cutPaste ad a_this a_cells a_family a_yard a_columns a_rows a_line a_family_values a_family_letters k_family_values k_cells v_this_atHand v_this_count v_this_thermal v_this_density v_this_outerHigh x8 x10 v_this_nameLength v_this_isWritten v_family_letterCount v_family_kind v_family_values v_cells v_columns_parts v_columns_size v_columns_ahead v_columns_gap v_rows_parts v_rows_size v_rows_ahead v_rows_gap)) [0, 4, 5, 1, 2, 3] rfl
      have hD := hD.sub (ws' := (w_Fp_cutPaste ad a_this a_cells a_family a_yard a_columns a_rows a_line a_family_values a_family_letters k_family_values k_cells v_this_atHand v_this_count v_this_thermal v_this_density v_this_outerHigh x8 x10 v_this_nameLength v_this_isWritten v_family_letterCount v_family_kind v_family_values v_cells v_columns_parts v_columns_size v_columns_ahead v_columns_gap v_rows_parts v_rows_size v_rows_ahead v_rows_gap)) [0, 4, 5, 1, 2, 3] (by decide) rfl
      refine zcall_v hP hD hS hA [4] [0, 1, 2, 3, 5] (va_runVN (As := [.long x4, .long r2, .long r14]) (rest := []) ⟨hx, hb, hml, hown, hts⟩ (c_Cu_split l dC dI ad a_columns _ x4 r2 r14 v_columns_parts v_columns_size v_columns_ahead v_columns_gap _ h) ⟨va_cnB 3 hts (zgood zc_Cu_split) rfl rfl rfl (hE.nw _ zn_947) (hts _ zw_105) (by decide +kernel) ⟨Nat.le_of_ble_eq_true rfl, Nat.le_of_ble_eq_true rfl⟩, (hts _ zw_949), (hts _ zw_59)⟩ (zpreV hE hK hP hD hS hA [4] [] (by rfl) (by rfl) (by decide) (ci := 5) (q0 := 4) rfl (by rfl)) rfl rfl hl.1 rfl (lv_room (Nat.le_of_ble_eq_true rfl)) dFp_cutPaste_111 ⟨Nat.le_of_ble_eq_true rfl, Nat.le_of_ble_eq_true rfl⟩) (by rfl) (by rfl) (by decide) (by decide) (fun u H locs h hP hD hS => ?_)
      obtain ⟨u15, u16, u17, u18⟩ := u
      try dsimp only at h
      have hP := hP.sub (ws' := (w_Fp_cutPaste ad a_this a_cells a_family a_yard a_columns a_rows a_line a_family_values a_family_letters k_family_values k_cells v_this_atHand v_this_count v_this_thermal v_this_density v_this_outerHigh x8 x10 v_this_nameLength v_this_isWritten v_family_letterCount v_family_kind v_family_values v_cells u15 u16 u17 u18 v_rows_parts v_rows_size v_rows_ahead v_rows_gap)) [0, 1, 2, 3, 5, 4] rfl
      have hD := hD.sub (ws' := (w_Fp_cutPaste ad a_this a_cells a_family a_yard a_columns a_rows a_line a_family_values a_family_letters k_family_values k_cells v_this_atHand v_this_count v_this_thermal v_this_density v_this_outerHigh x8 x10 v_this_nameLength v_this_isWritten v_family_letterCount v_family_kind v_family_values v_cells u15 u16 u17 u18 v_rows_parts v_rows_size v_rows_ahead v_rows_gap)) [0, 1, 2, 3, 5, 4] (by decide) rfl
      refine lv_aload_n hx hb dFp_cutPaste_114 rfl (lv_at hl 4 rfl) ?_
      refine va_get (D := (dC, dI)) (ci := 6) (v := .ref a_rows) (C := RFp) (T := TFp) (N := 15) hx hb hts inZ_Fp hown hK hP 0 rfl rfl 9 (by decide) (hts _ zw_294) (fun _ h9 => h9) rfl dFp_cutPaste_115 ?_
      refine lv_lload hx hb dFp_cutPaste_118 (lv_at hl 0 rfl) ?_
      refine lv_lload hx hb dFp_cutPaste_120 (lv_at hl 2 rfl) ?_
      refine lv_aload_n hx hb dFp_cutPaste_122 rfl (lv_at hl 4 rfl) ?_
      refine va_get (D := (dC, dI)) (ci := 6) (v := .ref a_family) (C := RFp) (T := TFp) (N := 15) hx hb hts inZ_Fp hown hK hP 0 rfl rfl 4 (by decide) (hts _ zw_288) (fun _ h9 => h9) rfl dFp_cutPaste_123 ?_
      refine va_gets (C := "FootprintRules$Key") (n := "GAP") (d := "LFootprintRules$Key;") hx hb (hE.enKey.1 7 (by decide)).1 hS hown (hts _ zw_945) (fun _ h9 => h9) dFp_cutPaste_126 ?_
      refine zcall_l hP hD hS hA [1, 2] [0, 3, 4, 5] (va_runVN (As := [.ref (ad 1 7)]) (rest := [.long r2, .long x6, .ref a_rows]) ⟨hx, hb, hml, hown, hts⟩ (c_Fa_of l dC dI ad a_family a_family_values a_family_letters k_family_values _ 7 v_family_letterCount v_family_kind v_family_values _ h) ⟨va_cnB 1 hts (zgood zc_Fa_of) rfl rfl rfl (hE.nw _ zn_833) (hts _ zw_102) (by decide +kernel) ⟨Nat.le_of_ble_eq_true rfl, Nat.le_of_ble_eq_true rfl⟩, (hts _ zw_716), (hts _ zw_29)⟩ (zpreV hE hK hP hD hS hA [1, 2] [0] (by rfl) (by rfl) (by decide) (ci := 2) (q0 := 1) rfl (by rfl)) rfl rfl hl.1 rfl (lv_room (Nat.le_of_ble_eq_true rfl)) dFp_cutPaste_129 ⟨Nat.le_of_ble_eq_true rfl, Nat.le_of_ble_eq_true rfl⟩) (by rfl) (by rfl) (by decide) (by decide) (fun r19 u H locs h hP hD hS => ?_)
      try dsimp only at h
      have hP := hP.sub (ws' := (w_Fp_cutPaste ad a_this a_cells a_family a_yard a_columns a_rows a_line a_family_values a_family_letters k_family_values k_cells v_this_atHand v_this_count v_this_thermal v_this_density v_this_outerHigh x8 x10 v_this_nameLength v_this_isWritten v_family_letterCount v_family_kind v_family_values v_cells u15 u16 u17 u18 v_rows_parts v_rows_size v_rows_ahead v_rows_gap)) [0, 4, 5, 1, 2, 3] rfl
      have hD := hD.sub (ws' := (w_Fp_cutPaste ad a_this a_cells a_family a_yard a_columns a_rows a_line a_family_values a_family_letters k_family_values k_cells v_this_atHand v_this_count v_this_thermal v_this_density v_this_outerHigh x8 x10 v_this_nameLength v_this_isWritten v_family_letterCount v_family_kind v_family_values v_cells u15 u16 u17 u18 v_rows_parts v_rows_size v_rows_ahead v_rows_gap)) [0, 4, 5, 1, 2, 3] (by decide) rfl
      refine zcall_v hP hD hS hA [5] [0, 1, 2, 3, 4] (va_runVN (As := [.long x6, .long r2, .long r19]) (rest := []) ⟨hx, hb, hml, hown, hts⟩ (c_Cu_split l dC dI ad a_rows _ x6 r2 r19 v_rows_parts v_rows_size v_rows_ahead v_rows_gap _ h) ⟨va_cnB 3 hts (zgood zc_Cu_split) rfl rfl rfl (hE.nw _ zn_947) (hts _ zw_105) (by decide +kernel) ⟨Nat.le_of_ble_eq_true rfl, Nat.le_of_ble_eq_true rfl⟩, (hts _ zw_949), (hts _ zw_59)⟩ (zpreV hE hK hP hD hS hA [5] [] (by rfl) (by rfl) (by decide) (ci := 5) (q0 := 5) rfl (by rfl)) rfl rfl hl.1 rfl (lv_room (Nat.le_of_ble_eq_true rfl)) dFp_cutPaste_132 ⟨Nat.le_of_ble_eq_true rfl, Nat.le_of_ble_eq_true rfl⟩) (by rfl) (by rfl) (by decide) (by decide) (fun u H locs h hP hD hS => ?_)
      obtain ⟨u20, u21, u22, u23⟩ := u
      try dsimp only at h
      have hP := hP.sub (ws' := (w_Fp_cutPaste ad a_this a_cells a_family a_yard a_columns a_rows a_line a_family_values a_family_letters k_family_values k_cells v_this_atHand v_this_count v_this_thermal v_this_density v_this_outerHigh x8 x10 v_this_nameLength v_this_isWritten v_family_letterCount v_family_kind v_family_values v_cells u15 u16 u17 u18 u20 u21 u22 u23)) [0, 1, 2, 3, 4, 5] rfl
      have hD := hD.sub (ws' := (w_Fp_cutPaste ad a_this a_cells a_family a_yard a_columns a_rows a_line a_family_values a_family_letters k_family_values k_cells v_this_atHand v_this_count v_this_thermal v_this_density v_this_outerHigh x8 x10 v_this_nameLength v_this_isWritten v_family_letterCount v_family_kind v_family_values v_cells u15 u16 u17 u18 u20 u21 u22 u23)) [0, 1, 2, 3, 4, 5] (by decide) rfl
      refine lv_goto (tgt := 156) hx hb dFp_cutPaste_135 (by decide) ?_
      exact w_Fp_cutPaste_156 l C0 hE a_this a_cells a_family a_yard a_columns a_rows a_line a_family_values a_family_letters k_family_values k_cells p1 v_this_atHand v_this_count v_this_thermal v_this_density v_this_outerHigh v_this_pasteLeft v_this_pasteLow v_this_nameLength v_this_isWritten v_family_letterCount v_family_kind v_family_values v_cells v_columns_parts v_columns_size v_columns_ahead v_columns_gap v_rows_parts v_rows_size v_rows_ahead v_rows_gap post hK x8 x10 u15 u16 u17 u18 u20 u21 u22 u23 _ _ h hP hD hS ls (lv_sub hl [4, 5] rfl)
