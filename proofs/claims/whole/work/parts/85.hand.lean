theorem q_put {q : Int32} {a b c d : Int64} {cnt : Int32} {isT isM : Nat → Int32} {bx hd : Nat → Int64} (h : yH cnt isT bx isM hd) (h1 : 1 ≤ q.toInt) (h2 : q.toInt ≤ 80) : ∃ (r : Int32) (cnt' : Int32) (isT' isM' : Nat → Int32) (bx' hd' : Nat → Int64), (r = 0 ∨ r = 1) ∧ yH cnt' isT' bx' isM' hd' ∧ (∀ post : Int32 → Int32 → (Nat → Int32) → (Nat → Int64) → Prop, post r cnt' isT' bx' → P_Hm_put q a b c d cnt isT bx post) ∧ (∀ post : Int32 → Int32 → (Nat → Int32) → (Nat → Int64) → Prop, post r 0 isM' hd' → P_M_hand_99 q a b c d isM hd post 0) := by
  have e0 : (0 : Int32).toInt = 0 := by decide
  have e1 : (1 : Int32).toInt = 1 := by decide
  have e2 : (2 : Int32).toInt = 2 := by decide
  have e3 : (3 : Int32).toInt = 3 := by decide
  have e4 : (4 : Int32).toInt = 4 := by decide
  have e80 : (80 : Int32).toInt = 80 := by decide
  obtain ⟨hc, hk⟩ := h
  have hq := hk q.toInt.toNat (by omega) (by omega)
  have g1 : ¬ q < 1 := by rw [y_lt]; omega
  have g2 : q ≤ 80 := by rw [y_le]; omega
  have hv : vp_in q 81 := y_in (by omega) (by omega)
  have hx : (q * 4).toInt = q.toInt * 4 := by rw [y_mul (by rw [e4]; omega) (by rw [e4]; omega), e4]
  have hx1 : (q * 4 + 1).toInt = q.toInt * 4 + 1 := by rw [y_add (by omega) (by omega), hx, e1]
  have hx2 : (q * 4 + 2).toInt = q.toInt * 4 + 2 := by rw [y_add (by omega) (by omega), hx, e2]
  have hx3 : (q * 4 + 3).toInt = q.toInt * 4 + 3 := by rw [y_add (by omega) (by omega), hx, e3]
  have hy : (4 * q).toInt = 4 * q.toInt := by rw [y_mul (by rw [e4]; omega) (by rw [e4]; omega), e4]
  have hy4 : (4 * q - 4).toInt = 4 * q.toInt - 4 := by rw [y_sub (by omega) (by omega), hy, e4]
  have hy3 : (4 * q - 3).toInt = 4 * q.toInt - 3 := by rw [y_sub (by omega) (by omega), hy, e3]
  have hy2 : (4 * q - 2).toInt = 4 * q.toInt - 2 := by rw [y_sub (by omega) (by omega), hy, e2]
  have hy1 : (4 * q - 1).toInt = 4 * q.toInt - 1 := by rw [y_sub (by omega) (by omega), hy, e1]
  have v0 : vp_in (q * 4) 324 := y_in (by omega) (by omega)
  have v1 : vp_in (q * 4 + 1) 324 := y_in (by omega) (by omega)
  have v2 : vp_in (q * 4 + 2) 324 := y_in (by omega) (by omega)
  have v3 : vp_in (q * 4 + 3) 324 := y_in (by omega) (by omega)
  have w0 : vp_in (4 * q - 4) 324 := y_in (by omega) (by omega)
  have w1 : vp_in (4 * q - 3) 324 := y_in (by omega) (by omega)
  have w2 : vp_in (4 * q - 2) 324 := y_in (by omega) (by omega)
  have w3 : vp_in (4 * q - 1) 324 := y_in (by omega) (by omega)
  have hb : ∀ k : Nat, 1 ≤ k → k ≤ 80 → (isM k = 1 ∨ k = q.toInt.toNat) → ∀ i : Nat, i < 4 → vp_updL (vp_updL (vp_updL (vp_updL bx (q * 4).toNatClampNeg a) (q * 4 + 1).toNatClampNeg b) (q * 4 + 2).toNatClampNeg c) (q * 4 + 3).toNatClampNeg d (4 * k + i) = vp_updL (vp_updL (vp_updL (vp_updL hd (4 * q - 4).toNatClampNeg a) (4 * q - 3).toNatClampNeg b) (4 * q - 2).toNatClampNeg c) (4 * q - 1).toNatClampNeg d (4 * k - 4 + i) := by
    intro k k1 k2 hm i hi
    simp only [y_updL, y_nat, hx, hx1, hx2, hx3, hy4, hy3, hy2, hy1]
    by_cases e : k = q.toInt.toNat
    · have hi' : i = 0 ∨ i = 1 ∨ i = 2 ∨ i = 3 := by omega
      rcases hi' with rfl | rfl | rfl | rfl
      · rw [if_neg (by omega), if_neg (by omega), if_neg (by omega), if_pos (by omega), if_neg (by omega), if_neg (by omega), if_neg (by omega), if_pos (by omega)]
      · rw [if_neg (by omega), if_neg (by omega), if_pos (by omega), if_neg (by omega), if_neg (by omega), if_pos (by omega)]
      · rw [if_neg (by omega), if_pos (by omega), if_neg (by omega), if_pos (by omega)]
      · rw [if_pos (by omega), if_pos (by omega)]
    · rw [if_neg (by omega), if_neg (by omega), if_neg (by omega), if_neg (by omega), if_neg (by omega), if_neg (by omega), if_neg (by omega), if_neg (by omega)]
      exact (hk k k1 k2).2.2 (hm.resolve_right e) i hi
  have hcr := q_cntR 80 (fun k h1 h2 => (hk k h1 h2).2.1)
  by_cases hz : isM q.toInt.toNat = 0
  · have hz2 : isT q.toNatClampNeg = 0 := by rw [y_nat, hq.1, hz]
    have hz3 : isM q.toNatClampNeg = 0 := by rw [y_nat, hz]
    refine ⟨1, cnt + 1, upd isT q.toNatClampNeg 1, upd isM q.toNatClampNeg 1, _, _, Or.inr rfl, ⟨?_, fun k k1 k2 => ⟨?_, ?_, fun hm => hb k k1 k2 ?_⟩⟩, fun post hp => ?_, fun post hp => ?_⟩
    · rw [q_cntU (by rw [y_nat]; omega), if_pos (by rw [y_nat]; omega), hz3, y_add (by omega) (by omega), hc]
      omega
    · rw [y_upd, y_upd, (hk k k1 k2).1]
    · rw [y_upd]
      by_cases e : k = q.toNatClampNeg
      · rw [if_pos e]
        exact Or.inr rfl
      · rw [if_neg e]
        exact (hk k k1 k2).2.1
    · rw [y_upd] at hm
      by_cases e : k = q.toNatClampNeg
      · exact Or.inr (by rw [e, y_nat])
      · rw [if_neg e] at hm
        exact Or.inl hm
    · simp only [P_Hm_put, P_Hm_put_27, P_Hm_put_51, g1, g2, hv, hz2, y_b1, y_n1]
      simp [v0, v1, v2, v3, hp]
    · simp only [P_M_hand_99, P_M_hand_125, hv, hz3, y_b1, y_n1]
      simp [w0, w1, w2, w3, hp]
  · have hz0 : isM q.toNatClampNeg = 1 := by rw [y_nat]; exact hq.2.1.resolve_left hz
    have hz2 : ¬ isT q.toNatClampNeg = 0 := by rw [y_nat, hq.1]; exact hz
    have hz3 : ¬ isM q.toNatClampNeg = 0 := by rw [y_nat]; exact hz
    have hu : upd isM q.toNatClampNeg 1 = isM := by
      funext j
      rw [y_upd]
      by_cases e : j = q.toNatClampNeg
      · rw [if_pos e, e, hz0]
      · rw [if_neg e]
    refine ⟨0, cnt, isT, isM, _, _, Or.inl rfl, ⟨hc, fun k k1 k2 => ⟨(hk k k1 k2).1, (hk k k1 k2).2.1, fun hm => hb k k1 k2 (Or.inl hm)⟩⟩, fun post hp => ?_, fun post hp => ?_⟩
    · simp only [P_Hm_put, P_Hm_put_27, P_Hm_put_51, g1, g2, hv, hz2, y_n0]
      simp [v0, v1, v2, v3, hp]
    · simp only [P_M_hand_99, P_M_hand_125, hv, hz3, y_b1, y_n0, hu]
      simp [w0, w1, w2, w3, hp]
theorem yc12 {L0 : Nat} {xs : Nat → Int32} {i0 cnt : Int32} {isT isM : Nat → Int32} {bx hd out : Nat → Int64} {K : Int32 → (Nat → Int32) → (Nat → Int64) → (Nat → Int64) → Int32 → (Nat → Int32) → (Nat → Int64) → Prop} (i1 : vp_in (i0 + 1) L0) (i2 : vp_in (i0 + 2) L0) (i3 : vp_in (i0 + 3) L0) (i4 : vp_in (i0 + 4) L0) (i5 : vp_in (i0 + 5) L0) (i6 : vp_in (i0 + 6) L0) (i7 : vp_in (i0 + 7) L0) (i8 : vp_in (i0 + 8) L0) (i9 : vp_in (i0 + 9) L0) (h : yH cnt isT bx isM hd) (hK : ∀ c t b u n m d, yH c t b m d → K c t b u n m d) : P_L_c12 L0 xs i0 cnt isT bx out isM hd K := by
  refine ⟨i1, i2, i3, i4, i5, i6, i7, i8, i9, ?_⟩
  generalize xs (i0 + 1).toNatClampNeg = q
  generalize (((xs (i0 + 2).toNatClampNeg).toInt64) <<< ((32 : Int32).toInt64 &&& 63)) ||| (((xs (i0 + 3).toNatClampNeg).toInt64) &&& 4294967295) = a
  generalize (((xs (i0 + 4).toNatClampNeg).toInt64) <<< ((32 : Int32).toInt64 &&& 63)) ||| (((xs (i0 + 5).toNatClampNeg).toInt64) &&& 4294967295) = b
  generalize (((xs (i0 + 6).toNatClampNeg).toInt64) <<< ((32 : Int32).toInt64 &&& 63)) ||| (((xs (i0 + 7).toNatClampNeg).toInt64) &&& 4294967295) = c
  generalize (((xs (i0 + 8).toNatClampNeg).toInt64) <<< ((32 : Int32).toInt64 &&& 63)) ||| (((xs (i0 + 9).toNatClampNeg).toInt64) &&& 4294967295) = d
  have hK0 : ∀ u n, K cnt isT bx u n isM hd := fun u n => hK _ _ _ _ _ _ _ h
  have e1 : (1 : Int32).toInt = 1 := by decide
  have e80 : (80 : Int32).toInt = 80 := by decide
  by_cases h1 : q < 1
  · simp [P_L_hand, P_F_hand_o, P_F_hand_t, P_F_isWithin, P_F_hand_o_11, P_F_hand_o_48, P_F_hand_o_82, P_F_hand_t_11, P_F_hand_t_48, P_F_hand_t_82, P_M_hand, P_M_hand_70, P_M_hand_71, P_M_hand_85, P_M_hand_99, P_M_thrown, i1, i2, i3, i4, i5, i6, i7, i8, i9, h1, hK0]
  · by_cases h2 : q ≤ 80
    · obtain ⟨r, cnt', isT', isM', bx', hd', hr, hh, hA, hB⟩ := q_put (q := q) (a := a) (b := b) (c := c) (d := d) h (by rw [y_lt] at h1; omega) (by rw [y_le] at h2; omega)
      have hK1 : ∀ u n, K cnt' isT' bx' u n isM' hd' := fun u n => hK _ _ _ _ _ _ _ hh
      simp only [P_L_hand, P_F_hand_o, P_F_hand_t, P_F_isWithin, P_F_hand_o_11, P_F_hand_o_48, P_F_hand_o_82, P_F_hand_t_11, P_F_hand_t_48, P_F_hand_t_82, P_M_hand, P_M_hand_70, P_M_hand_71, P_M_hand_85, P_M_thrown, i1, i2, i3, i4, i5, i6, i7, i8, i9, h1, h2]
      generalize (a < -100000000) = A1
      generalize (100000000 < a) = A2
      generalize (b < -100000000) = B1
      generalize (100000000 < b) = B2
      generalize (c < 1) = C1
      generalize (100000000 < c) = C2
      generalize (d < 1) = D1
      generalize (100000000 < d) = D2
      by_cases hall : A1 ∨ A2 ∨ B1 ∨ B2 ∨ C1 ∨ C2 ∨ D1 ∨ D2
      · have hM : ∀ post : Int32 → Int32 → (Nat → Int32) → (Nat → Int64) → Prop, P_M_hand_99 q a b c d isM hd post 2 = post 0 2 isM hd := fun post => by simp [P_M_hand_99]
        simp only [hM]
        by_cases gA1 : A1
        · simp [gA1, hK0]
        by_cases gA2 : A2
        · simp [gA2, hK0, gA1]
        by_cases gB1 : B1
        · simp [gB1, hK0, gA1, gA2]
        by_cases gB2 : B2
        · simp [gB2, hK0, gA1, gA2, gB1]
        by_cases gC1 : C1
        · simp [gC1, hK0, gA1, gA2, gB1, gB2]
        by_cases gC2 : C2
        · simp [gC2, hK0, gA1, gA2, gB1, gB2, gC1]
        by_cases gD1 : D1
        · simp [gD1, hK0, gA1, gA2, gB1, gB2, gC1, gC2]
        by_cases gD2 : D2
        · simp [gD2, hK0, gA1, gA2, gB1, gB2, gC1, gC2, gD1]
        simp_all
      · simp only [not_or] at hall
        refine Or.inl ?_
        simp only [hall]
        simp only [not_false_eq_true, forall_const, not_true_eq_false, false_implies, and_true, true_and, (by decide : ¬ (1 : Int32) = 0), (by decide : (0 : Int32) = 0)]
        rcases hr with rfl | rfl
        · refine hA _ ⟨y_n0, ?_⟩
          refine ⟨fun _ => ⟨y_v01, hB _ ?_⟩, fun h => absurd rfl h⟩
          simp [y_updL, hK1, y_v01]
        · refine hA _ ⟨y_n1, ?_⟩
          refine ⟨fun h => absurd h (by decide), fun _ => ⟨y_v01, hB _ ?_⟩⟩
          simp [y_updL, hK1, y_v01]
    · simp [P_L_hand, P_F_hand_o, P_F_hand_t, P_F_isWithin, P_F_hand_o_11, P_F_hand_o_48, P_F_hand_o_82, P_F_hand_t_11, P_F_hand_t_48, P_F_hand_t_82, P_M_hand, P_M_hand_70, P_M_hand_71, P_M_hand_85, P_M_hand_99, P_M_thrown, i1, i2, i3, i4, i5, i6, i7, i8, i9, h1, h2, hK0]
theorem z_c12 (L0 : Nat) (xs : Nat → Int32) : zStep_c12 zInv L0 xs := by
  intro v_p1_familyCount v_p1_reader_toldKeys v_p1_reader_words_length v_p1_reader_words_start v_p1_reader_words_end v_p1_reader_words_place v_p1_reader_words_units v_p1_handMade_count v_p1_handMade_isThere v_p1_handMade_boxes v_p1_maker_rounding v_p1_maker_toe v_p1_maker_heel v_p1_maker_side v_p1_maker_pitch v_p1_maker_outer v_p1_maker_inner v_p1_maker_across v_p1_maker_hole v_p1_maker_spans_toldBits v_p1_maker_spans_exactBits v_p1_maker_spans_lows v_p1_maker_spans_highs v_p1_maker_leftOut v_p1_maker_print_atHand v_p1_maker_print_count v_p1_maker_print_thermal v_p1_maker_print_density v_p1_maker_print_outerHigh v_p1_maker_print_pasteLeft v_p1_maker_print_pasteLow v_p1_maker_print_nameLength v_p1_maker_print_isWritten v_p1_maker_print_cells v_p1_maker_print_yard v_p1_maker_print_columns_parts v_p1_maker_print_columns_size v_p1_maker_print_columns_ahead v_p1_maker_print_columns_gap v_p1_maker_print_rows_parts v_p1_maker_print_rows_size v_p1_maker_print_rows_ahead v_p1_maker_print_rows_gap v_p1_maker_print_line_length v_p1_maker_print_line_units v_p2_thrown v_p2_size v_p2_families v_p2_atHand v_p2_family v_p2_density v_p2_pads v_p2_hasThermal v_p2_titleSize v_p2_written v_p2_at v_p2_begin v_p2_words v_p2_paste0 v_p2_units v_p2_kinds v_p2_values v_p2_names v_p2_low v_p2_high v_p2_told v_p2_leftOut v_p2_isMade v_p2_hands v_p2_pad v_p2_court v_p2_title v_p2_out v_p3 fC fK fV fL pj i0 hpj hI hin
  obtain ⟨hW, hF, hSp, hL, hH, hP⟩ := hI
  exact yc12 hin.2.1 hin.2.2.1 hin.2.2.2.1 hin.2.2.2.2.1 hin.2.2.2.2.2.1 hin.2.2.2.2.2.2.1 hin.2.2.2.2.2.2.2.1 hin.2.2.2.2.2.2.2.2.1 hin.2.2.2.2.2.2.2.2.2 hH (fun _ _ _ _ _ _ _ hh => ⟨hW, hF, hSp, hL, hh, hP⟩)
