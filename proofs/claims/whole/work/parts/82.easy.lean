theorem y_v01 : vp_in 0 1 := y_in (by decide) (by decide)
theorem y_vlt {q : Int32} {n : Nat} (h : vp_in q n) : q.toNatClampNeg < n := by
  unfold vp_in at h
  omega
theorem yc6 {L0 : Nat} {xs : Nat → Int32} {i0 at1 at2 : Int32} {yard out court : Nat → Int64} {K : (Nat → Int64) → Int32 → Prop} (i1 : vp_in (i0 + 1) L0) (e : at1 = at2) (hy : ¬ at2 = 0 → ∀ k : Nat, k < 4 → yard k = court k) (hK : ∀ u t, K u t) : P_L_c6 L0 xs i0 at1 yard out at2 court K := by
  refine ⟨i1, ?_⟩
  generalize xs (i0 + 1).toNatClampNeg = q
  subst e
  by_cases hA : at1 = 0
  · simp [P_L_court, P_F_court_o, P_F_court_t, P_F_needFootprint_o, P_F_needFootprint_t, P_F_needWithin_t, P_F_needWithin_t_9, P_F_needWithin_o, P_F_needWithin_o_9, P_F_needPad_o, P_F_needPad_t, P_M_court, P_M_court_15, P_M_court_16, P_M_refusal, P_M_thrown, hA, hK, i1]
  · by_cases h1 : q < 0
    · simp [P_L_court, P_F_court_o, P_F_court_t, P_F_needFootprint_o, P_F_needFootprint_t, P_F_needWithin_t, P_F_needWithin_t_9, P_F_needWithin_o, P_F_needWithin_o_9, P_F_needPad_o, P_F_needPad_t, P_M_court, P_M_court_15, P_M_court_16, P_M_refusal, P_M_thrown, hA, hK, i1, h1]
    · by_cases h2 : q < 4
      · have h3 : ¬ 4 ≤ q := by rw [y_le]; rw [y_lt] at h2; omega
        have hv : vp_in q 4 := by
          rw [y_lt] at h1 h2
          have e0 : (0 : Int32).toInt = 0 := by decide
          have e4 : (4 : Int32).toInt = 4 := by decide
          exact y_in (by omega) (by omega)
        have hq := hy hA _ (y_vlt hv)
        refine Or.inl ?_
        simp [P_F_court_o, P_F_needFootprint_o, P_F_needFootprint_t, P_F_needWithin_t, P_F_needWithin_t_9, P_F_needWithin_o, P_F_needWithin_o_9, P_F_needPad_o, P_F_needPad_t, P_M_court, P_M_court_15, P_M_court_16, P_M_refusal, P_M_thrown, hA, hK, i1, h1, h2, h3, hv, hq, y_v01, y_updL]
      · have h3 : 4 ≤ q := by rw [y_le]; rw [y_lt] at h2; omega
        simp [P_L_court, P_F_court_o, P_F_court_t, P_F_needFootprint_o, P_F_needFootprint_t, P_F_needWithin_t, P_F_needWithin_t_9, P_F_needWithin_o, P_F_needWithin_o_9, P_F_needPad_o, P_F_needPad_t, P_M_court, P_M_court_15, P_M_court_16, P_M_refusal, P_M_thrown, hA, hK, i1, h1, h2, h3]

theorem z_c6 (L0 : Nat) (xs : Nat → Int32) : zStep_c6 zInv L0 xs := by
  intro v_p1_familyCount v_p1_reader_toldKeys v_p1_reader_words_length v_p1_reader_words_start v_p1_reader_words_end v_p1_reader_words_place v_p1_reader_words_units v_p1_handMade_count v_p1_handMade_isThere v_p1_handMade_boxes v_p1_maker_rounding v_p1_maker_toe v_p1_maker_heel v_p1_maker_side v_p1_maker_pitch v_p1_maker_outer v_p1_maker_inner v_p1_maker_across v_p1_maker_hole v_p1_maker_spans_toldBits v_p1_maker_spans_exactBits v_p1_maker_spans_lows v_p1_maker_spans_highs v_p1_maker_leftOut v_p1_maker_print_atHand v_p1_maker_print_count v_p1_maker_print_thermal v_p1_maker_print_density v_p1_maker_print_outerHigh v_p1_maker_print_pasteLeft v_p1_maker_print_pasteLow v_p1_maker_print_nameLength v_p1_maker_print_isWritten v_p1_maker_print_cells v_p1_maker_print_yard v_p1_maker_print_columns_parts v_p1_maker_print_columns_size v_p1_maker_print_columns_ahead v_p1_maker_print_columns_gap v_p1_maker_print_rows_parts v_p1_maker_print_rows_size v_p1_maker_print_rows_ahead v_p1_maker_print_rows_gap v_p1_maker_print_line_length v_p1_maker_print_line_units v_p2_thrown v_p2_size v_p2_families v_p2_atHand v_p2_family v_p2_density v_p2_pads v_p2_hasThermal v_p2_titleSize v_p2_written v_p2_at v_p2_begin v_p2_words v_p2_paste0 v_p2_units v_p2_kinds v_p2_values v_p2_names v_p2_low v_p2_high v_p2_told v_p2_leftOut v_p2_isMade v_p2_hands v_p2_pad v_p2_court v_p2_title v_p2_out v_p3 fC fK fV fL pj i0 hpj hI hin
  obtain ⟨hW, hF, hSp, hL, hH, hP⟩ := hI
  exact yc6 hin.2.1 hP.1 (fun h => (hP.2.resolve_left h).2.2.2.2.2.2.2.2.2.2.1) (fun _ _ => ⟨hW, hF, hSp, hL, hH, hP⟩)

theorem yc4 {L0 : Nat} {xs : Nat → Int32} {i0 at1 at2 cnt pads : Int32} {cells out pad : Nat → Int64} {K : (Nat → Int64) → Int32 → Prop} (i1 : vp_in (i0 + 1) L0) (i2 : vp_in (i0 + 2) L0) (e : at1 = at2) (hy : ¬ at2 = 0 → cnt = pads ∧ pads.toInt ≤ 65 ∧ ∀ k : Nat, (k : Int) < 7 * pads.toInt → cells k = pad k) (hK : ∀ u t, K u t) : P_L_c4 L0 xs i0 at1 cnt cells out at2 pads pad K := by
  refine ⟨i1, i2, ?_⟩
  generalize xs (i0 + 1).toNatClampNeg = q
  generalize xs (i0 + 2).toNatClampNeg = w
  subst e
  have e0 : (0 : Int32).toInt = 0 := by decide
  have e7 : (7 : Int32).toInt = 7 := by decide
  have e65 : (65 : Int32).toInt = 65 := by decide
  by_cases hA : at1 = 0
  · simp [P_L_pad, P_F_pad_o, P_F_pad_t, P_F_needFootprint_o, P_F_needFootprint_t, P_F_needWithin_t, P_F_needWithin_t_9, P_F_needWithin_o, P_F_needWithin_o_9, P_F_needPad_o, P_F_needPad_t, P_M_pad, P_M_pad_28, P_M_pad_29, P_M_refusal, P_M_thrown, hA, hK, i1, i2]
  · obtain ⟨ec, h65, hc⟩ := hy hA
    subst ec
    by_cases h1 : q < 0
    · simp [P_L_pad, P_F_pad_o, P_F_pad_t, P_F_needFootprint_o, P_F_needFootprint_t, P_F_needWithin_t, P_F_needWithin_t_9, P_F_needWithin_o, P_F_needWithin_o_9, P_F_needPad_o, P_F_needPad_t, P_M_pad, P_M_pad_28, P_M_pad_29, P_M_refusal, P_M_thrown, hA, hK, i1, i2, h1]
    · by_cases h2 : q < cnt
      · have h2' : ¬ cnt ≤ q := by rw [y_le]; rw [y_lt] at h2; omega
        by_cases h3 : w < 0
        · simp [P_L_pad, P_F_pad_o, P_F_pad_t, P_F_needFootprint_o, P_F_needFootprint_t, P_F_needWithin_t, P_F_needWithin_t_9, P_F_needWithin_o, P_F_needWithin_o_9, P_F_needPad_o, P_F_needPad_t, P_M_pad, P_M_pad_28, P_M_pad_29, P_M_refusal, P_M_thrown, hA, hK, i1, i2, h1, h2, h2', h3]
        · by_cases h4 : w < 7
          · have h4' : ¬ 7 ≤ w := by rw [y_le]; rw [y_lt] at h4; omega
            have h5 : ¬ 65 ≤ q := by rw [y_le]; rw [y_lt] at h2; omega
            have b1 : 0 ≤ q.toInt := by rw [y_lt] at h1; omega
            have b2 : q.toInt < cnt.toInt := by rw [y_lt] at h2; omega
            have b3 : 0 ≤ w.toInt := by rw [y_lt] at h3; omega
            have b4 : w.toInt < 7 := by rw [y_lt] at h4; omega
            have m1 : (7 * q).toInt = 7 * q.toInt := by rw [y_mul (by rw [e7]; omega) (by rw [e7]; omega), e7]
            have m2 : (q * 7).toInt = 7 * q.toInt := by rw [y_mul (by rw [e7]; omega) (by rw [e7]; omega), e7]; omega
            have s1 : (7 * q + w).toInt = 7 * q.toInt + w.toInt := by rw [y_add (by omega) (by omega), m1]
            have s2 : q * 7 + w = 7 * q + w := by rw [y_eq, s1, y_add (by omega) (by omega), m2]
            have hv : vp_in (7 * q + w) 455 := y_in (by omega) (by omega)
            have hq : cells (7 * q + w).toNatClampNeg = pad (7 * q + w).toNatClampNeg := hc _ (by rw [y_nat]; omega)
            refine Or.inl ?_
            simp [P_F_pad_o, P_Fp_cell, P_F_needFootprint_o, P_F_needFootprint_t, P_F_needWithin_t, P_F_needWithin_t_9, P_F_needWithin_o, P_F_needWithin_o_9, P_F_needPad_o, P_F_needPad_t, P_M_pad, P_M_pad_28, P_M_pad_29, P_M_refusal, P_M_thrown, hA, hK, i1, i2, h1, h2, h2', h3, h4, h4', h5, s2, hv, hq, y_v01, y_updL]
          · have h4' : 7 ≤ w := by rw [y_le]; rw [y_lt] at h4; omega
            simp [P_L_pad, P_F_pad_o, P_F_pad_t, P_F_needFootprint_o, P_F_needFootprint_t, P_F_needWithin_t, P_F_needWithin_t_9, P_F_needWithin_o, P_F_needWithin_o_9, P_F_needPad_o, P_F_needPad_t, P_M_pad, P_M_pad_28, P_M_pad_29, P_M_refusal, P_M_thrown, hA, hK, i1, i2, h1, h2, h2', h3, h4, h4']
      · have h2' : cnt ≤ q := by rw [y_le]; rw [y_lt] at h2; omega
        simp [P_L_pad, P_F_pad_o, P_F_pad_t, P_F_needFootprint_o, P_F_needFootprint_t, P_F_needWithin_t, P_F_needWithin_t_9, P_F_needWithin_o, P_F_needWithin_o_9, P_F_needPad_o, P_F_needPad_t, P_M_pad, P_M_pad_28, P_M_pad_29, P_M_refusal, P_M_thrown, hA, hK, i1, i2, h1, h2, h2']

theorem z_c4 (L0 : Nat) (xs : Nat → Int32) : zStep_c4 zInv L0 xs := by
  intro v_p1_familyCount v_p1_reader_toldKeys v_p1_reader_words_length v_p1_reader_words_start v_p1_reader_words_end v_p1_reader_words_place v_p1_reader_words_units v_p1_handMade_count v_p1_handMade_isThere v_p1_handMade_boxes v_p1_maker_rounding v_p1_maker_toe v_p1_maker_heel v_p1_maker_side v_p1_maker_pitch v_p1_maker_outer v_p1_maker_inner v_p1_maker_across v_p1_maker_hole v_p1_maker_spans_toldBits v_p1_maker_spans_exactBits v_p1_maker_spans_lows v_p1_maker_spans_highs v_p1_maker_leftOut v_p1_maker_print_atHand v_p1_maker_print_count v_p1_maker_print_thermal v_p1_maker_print_density v_p1_maker_print_outerHigh v_p1_maker_print_pasteLeft v_p1_maker_print_pasteLow v_p1_maker_print_nameLength v_p1_maker_print_isWritten v_p1_maker_print_cells v_p1_maker_print_yard v_p1_maker_print_columns_parts v_p1_maker_print_columns_size v_p1_maker_print_columns_ahead v_p1_maker_print_columns_gap v_p1_maker_print_rows_parts v_p1_maker_print_rows_size v_p1_maker_print_rows_ahead v_p1_maker_print_rows_gap v_p1_maker_print_line_length v_p1_maker_print_line_units v_p2_thrown v_p2_size v_p2_families v_p2_atHand v_p2_family v_p2_density v_p2_pads v_p2_hasThermal v_p2_titleSize v_p2_written v_p2_at v_p2_begin v_p2_words v_p2_paste0 v_p2_units v_p2_kinds v_p2_values v_p2_names v_p2_low v_p2_high v_p2_told v_p2_leftOut v_p2_isMade v_p2_hands v_p2_pad v_p2_court v_p2_title v_p2_out v_p3 fC fK fV fL pj i0 hpj hI hin
  obtain ⟨hW, hF, hSp, hL, hH, hP⟩ := hI
  exact yc4 hin.2.1 hin.2.2.1 hP.1 (fun h => ⟨(hP.2.resolve_left h).2.2.2.2.2.2.1, (hP.2.resolve_left h).2.2.2.2.2.2.2.2.1, (hP.2.resolve_left h).2.2.2.2.2.2.2.2.2.1⟩) (fun _ _ => ⟨hW, hF, hSp, hL, hH, hP⟩)

theorem yc9 {L0 : Nat} {xs : Nat → Int32} {i0 : Int32} {lo ml : Nat → Int32} {out : Nat → Int64} {K : (Nat → Int32) → (Nat → Int64) → Int32 → (Nat → Int32) → Prop} (i1 : vp_in (i0 + 1) L0) (h : yL lo ml) (hK : ∀ a u t b, yL a b → K a u t b) : P_L_c9 L0 xs i0 lo out ml K := by
  refine ⟨i1, ?_⟩
  generalize xs (i0 + 1).toNatClampNeg = q
  have e1 : (1 : Int32).toInt = 1 := by decide
  have e64 : (64 : Int32).toInt = 64 := by decide
  have hK0 := fun u t => hK lo u t ml h
  by_cases h1 : q < 1
  · simp [P_L_leave, P_F_leave_o, P_F_leave_o_11, P_F_leave_t, P_F_leave_t_11, P_M_leave, P_M_leave_12, P_M_leave_17, P_M_thrown, h1, i1, hK0]
  · by_cases h2 : q ≤ 64
    · have b1 : 1 ≤ q.toInt := by rw [y_lt] at h1; omega
      have b2 : q.toInt ≤ 64 := by rw [y_le] at h2; omega
      have hv : vp_in q 65 := y_in (by omega) (by omega)
      obtain ⟨g1, g2⟩ := h _ (y_vlt hv)
      have hU : ∀ x : Int32, x = 0 ∨ x = 1 → yL (upd lo q.toNatClampNeg x) (upd ml q.toNatClampNeg x) := by
        intro x hx k hk
        rw [y_upd, y_upd]
        by_cases hkq : k = q.toNatClampNeg
        · simp [hkq, hx]
        · simp [hkq, h k hk]
      have k0 := fun u t => hK _ u t _ (hU 0 (Or.inl rfl))
      have k1 := fun u t => hK _ u t _ (hU 1 (Or.inr rfl))
      refine Or.inl ?_
      rcases g2 with g | g
      · rw [g] at g1
        simp [P_F_leave_o, P_F_leave_o_46, P_L_leave_15, P_M_leave, P_M_leave_12, P_M_leave_17, P_M_leave_48, P_M_thrown, h1, h2, i1, hv, g, g1, y_v01, y_b1, y_n1, y_upd]
        simpa [y_updL] using k1 _ _
      · rw [g] at g1
        simp [P_F_leave_o, P_F_leave_o_46, P_L_leave_15, P_M_leave, P_M_leave_12, P_M_leave_17, P_M_leave_48, P_M_thrown, h1, h2, i1, hv, g, g1, y_v01, y_b0, y_n0, y_upd]
        simpa [y_updL] using k0 _ _
    · simp [P_L_leave, P_F_leave_o, P_F_leave_o_11, P_F_leave_t, P_F_leave_t_11, P_M_leave, P_M_leave_12, P_M_leave_17, P_M_thrown, h1, h2, i1, hK0]

theorem z_c9 (L0 : Nat) (xs : Nat → Int32) : zStep_c9 zInv L0 xs := by
  intro v_p1_familyCount v_p1_reader_toldKeys v_p1_reader_words_length v_p1_reader_words_start v_p1_reader_words_end v_p1_reader_words_place v_p1_reader_words_units v_p1_handMade_count v_p1_handMade_isThere v_p1_handMade_boxes v_p1_maker_rounding v_p1_maker_toe v_p1_maker_heel v_p1_maker_side v_p1_maker_pitch v_p1_maker_outer v_p1_maker_inner v_p1_maker_across v_p1_maker_hole v_p1_maker_spans_toldBits v_p1_maker_spans_exactBits v_p1_maker_spans_lows v_p1_maker_spans_highs v_p1_maker_leftOut v_p1_maker_print_atHand v_p1_maker_print_count v_p1_maker_print_thermal v_p1_maker_print_density v_p1_maker_print_outerHigh v_p1_maker_print_pasteLeft v_p1_maker_print_pasteLow v_p1_maker_print_nameLength v_p1_maker_print_isWritten v_p1_maker_print_cells v_p1_maker_print_yard v_p1_maker_print_columns_parts v_p1_maker_print_columns_size v_p1_maker_print_columns_ahead v_p1_maker_print_columns_gap v_p1_maker_print_rows_parts v_p1_maker_print_rows_size v_p1_maker_print_rows_ahead v_p1_maker_print_rows_gap v_p1_maker_print_line_length v_p1_maker_print_line_units v_p2_thrown v_p2_size v_p2_families v_p2_atHand v_p2_family v_p2_density v_p2_pads v_p2_hasThermal v_p2_titleSize v_p2_written v_p2_at v_p2_begin v_p2_words v_p2_paste0 v_p2_units v_p2_kinds v_p2_values v_p2_names v_p2_low v_p2_high v_p2_told v_p2_leftOut v_p2_isMade v_p2_hands v_p2_pad v_p2_court v_p2_title v_p2_out v_p3 fC fK fV fL pj i0 hpj hI hin
  obtain ⟨hW, hF, hSp, hL, hH, hP⟩ := hI
  exact yc9 hin.2.1 hL (fun _ _ _ _ h => ⟨hW, hF, hSp, h, hH, hP⟩)

theorem y_ofNat {u : Int32} (h : 0 ≤ u.toInt) : u = Int32.ofNat u.toInt.toNat := by
  have := y_r u
  rw [y_eq, zl_n32 (by omega)]
  omega
theorem y_char0 : ∀ n : Nat, n < 65536 / 512 → vp_nar .char ((Int32.ofNat n).toUInt32 % 65536).toInt32 = Int32.ofNat n := by decide +kernel
theorem y_char {u : Int32} (h : yOk u) : vp_nar .char (u.toUInt32 % 65536).toInt32 = u := by
  have h0 : 0 ≤ u.toInt ∧ u.toInt < 128 := by unfold yOk at h; omega
  have := y_char0 u.toInt.toNat (by omega)
  rwa [← y_ofNat h0.1] at this
theorem yc0 {L0 : Nat} {xs : Nat → Int32} {i0 len sz : Int32} {un mu : Nat → Int32} {K : Int32 → (Nat → Int32) → Int32 → Int32 → (Nat → Int32) → Prop} (i1 : vp_in (i0 + 1) L0) (h : yW len un sz mu) (hK : ∀ a b t c d, yW a b c d → K a b t c d) : P_L_c0 L0 xs i0 len un sz mu K := by
  refine ⟨i1, ?_⟩
  generalize xs (i0 + 1).toNatClampNeg = q
  have hK0 := fun t => hK len un t sz mu h
  obtain ⟨e, s0, s6, hu⟩ := h
  subst e
  have e0 : (0 : Int32).toInt = 0 := by decide
  have e1 : (1 : Int32).toInt = 1 := by decide
  have e10 : (10 : Int32).toInt = 10 := by decide
  have e32 : (32 : Int32).toInt = 32 := by decide
  have e126 : (126 : Int32).toInt = 126 := by decide
  have e600 : (600 : Int32).toInt = 600 := by decide
  have n0 : ¬ len < 0 := by rw [y_lt]; omega
  by_cases hf : len < 600
  · have hne : ¬ len = 600 := by rw [y_eq]; rw [y_lt] at hf; omega
    have b2 : len.toInt < 600 := by rw [y_lt] at hf; omega
    have hv : vp_in len 600 := y_in (by omega) (by omega)
    have hK1 : yOk q → ∀ t, K (len + 1) (upd un len.toNatClampNeg q) t (len + 1) (upd mu len.toNatClampNeg q) := by
      intro ok t
      have es : (len + 1).toInt = len.toInt + 1 := by rw [y_add (by omega) (by omega), e1]
      refine hK _ _ t _ _ ⟨rfl, by omega, by omega, fun k hk => ?_⟩
      rw [y_upd, y_upd]
      by_cases hkq : k = len.toNatClampNeg
      · simp [hkq, ok]
      · simp only [hkq, if_false]
        exact hu k (by rw [y_nat] at hkq; omega)
    by_cases c1 : q = 10
    · have ok : yOk q := Or.inl (by rw [c1]; exact e10)
      have hc := y_char ok
      have k1 := hK1 ok
      subst c1
      simp [P_F_unit, P_Wo_add, P_Wo_add_18, P_M_unit, P_M_unit_17, P_M_unit_23, P_M_unit_28, n0, hf, hne, hv, i1, y_n1, hc]
      simpa [hc] using k1 0
    · by_cases c2 : q < 32
      · simp [P_F_unit, P_Wo_add, P_Wo_add_18, P_M_unit, P_M_unit_17, P_M_unit_23, P_M_unit_28, c1, c2, i1, y_n0, hK0]
      · by_cases c3 : 126 < q
        · have c3' : ¬ q ≤ 126 := by rw [y_le]; rw [y_lt] at c3; omega
          simp [P_F_unit, P_Wo_add, P_Wo_add_18, P_M_unit, P_M_unit_17, P_M_unit_23, P_M_unit_28, c1, c2, c3, c3', i1, y_n0, hK0]
        · have c3' : q ≤ 126 := by rw [y_le]; rw [y_lt] at c3; omega
          have ok : yOk q := Or.inr (by rw [y_lt] at c2 c3; omega)
          have hc := y_char ok
          have k1 := hK1 ok
          simp [P_F_unit, P_Wo_add, P_Wo_add_18, P_M_unit, P_M_unit_17, P_M_unit_23, P_M_unit_28, n0, hf, hne, hv, i1, y_n1, hc, c1, c2, c3, c3']
          simpa [hc] using k1 0
  · have he : len = 600 := by rw [y_eq]; rw [y_lt] at hf; omega
    subst he
    by_cases c1 : q = 10 <;> by_cases c2 : q < 32 <;> by_cases c3 : 126 < q <;> by_cases c4 : q ≤ 126 <;> simp [P_F_unit, P_Wo_add, P_Wo_add_18, P_M_unit, P_M_unit_17, P_M_unit_23, P_M_unit_28, c1, c2, c3, c4, i1, y_n0, hK0]

theorem z_c0 (L0 : Nat) (xs : Nat → Int32) : zStep_c0 zInv L0 xs := by
  intro v_p1_familyCount v_p1_reader_toldKeys v_p1_reader_words_length v_p1_reader_words_start v_p1_reader_words_end v_p1_reader_words_place v_p1_reader_words_units v_p1_handMade_count v_p1_handMade_isThere v_p1_handMade_boxes v_p1_maker_rounding v_p1_maker_toe v_p1_maker_heel v_p1_maker_side v_p1_maker_pitch v_p1_maker_outer v_p1_maker_inner v_p1_maker_across v_p1_maker_hole v_p1_maker_spans_toldBits v_p1_maker_spans_exactBits v_p1_maker_spans_lows v_p1_maker_spans_highs v_p1_maker_leftOut v_p1_maker_print_atHand v_p1_maker_print_count v_p1_maker_print_thermal v_p1_maker_print_density v_p1_maker_print_outerHigh v_p1_maker_print_pasteLeft v_p1_maker_print_pasteLow v_p1_maker_print_nameLength v_p1_maker_print_isWritten v_p1_maker_print_cells v_p1_maker_print_yard v_p1_maker_print_columns_parts v_p1_maker_print_columns_size v_p1_maker_print_columns_ahead v_p1_maker_print_columns_gap v_p1_maker_print_rows_parts v_p1_maker_print_rows_size v_p1_maker_print_rows_ahead v_p1_maker_print_rows_gap v_p1_maker_print_line_length v_p1_maker_print_line_units v_p2_thrown v_p2_size v_p2_families v_p2_atHand v_p2_family v_p2_density v_p2_pads v_p2_hasThermal v_p2_titleSize v_p2_written v_p2_at v_p2_begin v_p2_words v_p2_paste0 v_p2_units v_p2_kinds v_p2_values v_p2_names v_p2_low v_p2_high v_p2_told v_p2_leftOut v_p2_isMade v_p2_hands v_p2_pad v_p2_court v_p2_title v_p2_out v_p3 fC fK fV fL pj i0 hpj hI hin
  obtain ⟨hW, hF, hSp, hL, hH, hP⟩ := hI
  exact yc0 hin.2.1 hW (fun _ _ _ _ _ h => ⟨h, hF, hSp, hL, hH, hP⟩)
