theorem y_dist (a b c : Int32) : (a ||| b) &&& c = (a &&& c) ||| (b &&& c) := by
  apply Int32.toBitVec_inj.mp
  simp only [Int32.toBitVec_and, Int32.toBitVec_or]
  apply BitVec.eq_of_getLsbD_eq
  intro i _
  simp only [BitVec.getLsbD_and, BitVec.getLsbD_or]
  cases a.toBitVec.getLsbD i <;> cases b.toBitVec.getLsbD i <;> cases c.toBitVec.getLsbD i <;> rfl
theorem y_absorb (a c : Int32) : (a &&& c) ||| c = c := by
  apply Int32.toBitVec_inj.mp
  simp only [Int32.toBitVec_and, Int32.toBitVec_or]
  apply BitVec.eq_of_getLsbD_eq
  intro i _
  simp only [BitVec.getLsbD_and, BitVec.getLsbD_or]
  cases a.toBitVec.getLsbD i <;> cases c.toBitVec.getLsbD i <;> rfl
theorem y_shl : ∀ n : Nat, n < 12 → (1 : Int32) <<< (Int32.ofNat n &&& 31) = yPow n := by decide
theorem y_pw : ∀ k : Nat, k < 12 → ∀ w : Nat, w < 12 → (k ≠ w → yPow k &&& yPow w = 0 ∧ (yPow k ^^^ (-1)) &&& yPow w = yPow w) ∧ yPow w &&& yPow w = yPow w ∧ (yPow w ^^^ (-1)) &&& yPow w = 0 ∧ ¬ yPow w = 0 := by decide
theorem y_shlp {p : Int32} (h0 : 0 ≤ p.toInt) (h : p.toInt < 12) : (1 : Int32) <<< (p &&& 31) = yPow p.toNatClampNeg := by
  have h1 := y_shl p.toInt.toNat (by omega)
  rw [← y_ofNat h0] at h1
  exact h1
theorem y_set {x : Int32} {k w : Nat} (hk : k < 12) (hw : w < 12) : yBit (x ||| yPow k) w ↔ k = w ∨ yBit x w := by
  unfold yBit
  rw [y_dist]
  by_cases h : k = w
  · subst h
    rw [(y_pw k hk k hk).2.1, y_absorb]
    simp
  · rw [((y_pw k hk w hw).1 h).1]
    simp [h]
theorem y_clr {x : Int32} {k w : Nat} (hk : k < 12) (hw : w < 12) : yBit (x &&& (yPow k ^^^ (-1))) w ↔ k ≠ w ∧ yBit x w := by
  unfold yBit
  rw [Int32.and_assoc]
  by_cases h : k = w
  · subst h
    rw [(y_pw k hk k hk).2.2.1]
    have := (y_pw k hk k hk).2.2.2
    simp
    intro h
    exact this h.symm
  · rw [((y_pw k hk w hw).1 h).2]
    simp [h]
theorem q_tell {tb eb p : Int32} {lo hi ml mh : Nat → Int64} {mt : Nat → Int32} {a b : Int64} (h : ySp tb eb lo hi ml mh mt) (h0 : 0 ≤ p.toInt) (h1 : p.toInt < 12) (a0 : 0 ≤ a.toInt) (ab : a.toInt ≤ b.toInt) (b1 : b.toInt ≤ 100000000) :
    ySp (tb ||| (1 <<< (p &&& 31))) (if a = b then eb ||| (1 <<< (p &&& 31)) else eb &&& ((1 <<< (p &&& 31)) ^^^ (-1))) (vp_updL lo p.toNatClampNeg a) (vp_updL hi p.toNatClampNeg b) (vp_updL ml p.toNatClampNeg a) (vp_updL mh p.toNatClampNeg b) (upd mt p.toNatClampNeg 1) := by
  rw [y_shlp h0 h1]
  have hk : p.toNatClampNeg < 12 := by rw [y_nat]; omega
  generalize p.toNatClampNeg = k at hk
  intro w hw
  obtain ⟨g1, g2, g3, g4⟩ := h w hw
  rw [y_upd, y_updL, y_updL, y_updL, y_updL]
  have e01 : ¬ (0 : Int32) = 1 := by decide
  by_cases hwk : w = k
  · subst hwk
    simp only [if_true]
    refine ⟨Or.inr trivial, ?_, ?_, fun _ => ⟨trivial, trivial, a0, ab, b1⟩⟩
    · rw [y_set hk hw]
      simp
    · by_cases e : a = b
      · rw [if_pos e, y_set hk hw]
        simp [e]
      · rw [if_neg e, y_clr hk hw]
        simp [e]
  · have hkw : ¬ k = w := fun h => hwk h.symm
    simp only [hwk, if_false]
    refine ⟨g1, ?_, ?_, g4⟩
    · rw [y_set hk hw]
      simp [hkw, g2]
    · by_cases e : a = b
      · rw [if_pos e, y_set hk hw]
        simp [hkw, g3]
      · rw [if_neg e, y_clr hk hw]
        simp [hkw, g3]

theorem yc2 {L0 : Nat} {xs : Nat → Int32} {i0 tb eb : Int32} {lo hi out ml mh : Nat → Int64} {mt : Nat → Int32} {K : Int32 → Int32 → (Nat → Int64) → (Nat → Int64) → (Nat → Int64) → Int32 → (Nat → Int64) → (Nat → Int64) → (Nat → Int32) → Prop} (i1 : vp_in (i0 + 1) L0) (i2 : vp_in (i0 + 2) L0) (i3 : vp_in (i0 + 3) L0) (i4 : vp_in (i0 + 4) L0) (i5 : vp_in (i0 + 5) L0) (h : ySp tb eb lo hi ml mh mt) (hK : ∀ a b c d u t e f g, ySp a b c d e f g → K a b c d u t e f g) : P_L_c2 L0 xs i0 tb eb lo hi out ml mh mt K := by
  refine ⟨i1, i2, i3, i4, i5, ?_⟩
  generalize xs (i0 + 1).toNatClampNeg = q
  generalize (((xs (i0 + 2).toNatClampNeg).toInt64) <<< ((32 : Int32).toInt64 &&& 63)) ||| (((xs (i0 + 3).toNatClampNeg).toInt64) &&& 4294967295) = a
  generalize (((xs (i0 + 4).toNatClampNeg).toInt64) <<< ((32 : Int32).toInt64 &&& 63)) ||| (((xs (i0 + 5).toNatClampNeg).toInt64) &&& 4294967295) = b
  have hK0 := fun u t => hK tb eb lo hi u t ml mh mt h
  have e0 : (0 : Int32).toInt = 0 := by decide
  have e11 : (11 : Int32).toInt = 11 := by decide
  have e12 : (12 : Int32).toInt = 12 := by decide
  have f0 : (0 : Int64).toInt = 0 := by decide
  have f8 : (100000000 : Int64).toInt = 100000000 := by decide
  by_cases h1 : q < 0
  · by_cases a1 : a < 0 <;> by_cases a2 : 100000000 < a <;> by_cases b1 : b < 0 <;> by_cases b2 : 100000000 < b <;> simp [P_L_span, P_F_span_o, P_F_span_t, P_F_span_o_10, P_F_span_o_43, P_F_span_t_10, P_F_span_t_43, P_F_isWithin, P_Sp_tell, P_M_span, P_M_span_34, P_M_span_35, P_M_span_48, P_M_span_62, P_M_thrown, P_L_span_19, h1, a1, a2, b1, b2, hK0, i1, i2, i3, i4, i5]
  · by_cases h2 : q < 12
    · have h2' : q ≤ 11 := by rw [y_le]; rw [y_lt] at h2; omega
      by_cases a1 : a < 0
      · simp [P_L_span, P_F_span_o, P_F_span_t, P_F_span_o_10, P_F_span_o_43, P_F_span_t_10, P_F_span_t_43, P_F_isWithin, P_Sp_tell, P_M_span, P_M_span_34, P_M_span_35, P_M_span_48, P_M_span_62, P_M_thrown, P_L_span_19, h1, h2, h2', a1, hK0, i1, i2, i3, i4, i5]
      · by_cases a2 : 100000000 < a
        · simp [P_L_span, P_F_span_o, P_F_span_t, P_F_span_o_10, P_F_span_o_43, P_F_span_t_10, P_F_span_t_43, P_F_isWithin, P_Sp_tell, P_M_span, P_M_span_34, P_M_span_35, P_M_span_48, P_M_span_62, P_M_thrown, P_L_span_19, h1, h2, h2', a1, a2, hK0, i1, i2, i3, i4, i5]
        · by_cases b1 : b < 0
          · simp [P_L_span, P_F_span_o, P_F_span_t, P_F_span_o_10, P_F_span_o_43, P_F_span_t_10, P_F_span_t_43, P_F_isWithin, P_Sp_tell, P_M_span, P_M_span_34, P_M_span_35, P_M_span_48, P_M_span_62, P_M_thrown, P_L_span_19, h1, h2, h2', a1, a2, b1, hK0, i1, i2, i3, i4, i5]
          · by_cases b2 : 100000000 < b
            · simp [P_L_span, P_F_span_o, P_F_span_t, P_F_span_o_10, P_F_span_o_43, P_F_span_t_10, P_F_span_t_43, P_F_isWithin, P_Sp_tell, P_M_span, P_M_span_34, P_M_span_35, P_M_span_48, P_M_span_62, P_M_thrown, P_L_span_19, h1, h2, h2', a1, a2, b1, b2, hK0, i1, i2, i3, i4, i5]
            · refine Or.inl ?_
              by_cases c : b < a
              · have c' : ¬ a ≤ b := by rw [y_le6]; rw [y_lt6] at c; omega
                simp [P_L_span, P_F_span_o, P_F_span_t, P_F_span_o_10, P_F_span_o_43, P_F_span_t_10, P_F_span_t_43, P_F_isWithin, P_Sp_tell, P_M_span, P_M_span_34, P_M_span_35, P_M_span_48, P_M_span_62, P_M_thrown, P_L_span_19, h1, h2, h2', a1, a2, b1, b2, c, c', hK0, i1, i2, i3, i4, i5, y_n0, y_v01, y_updL]
              · have c' : a ≤ b := by rw [y_le6]; rw [y_lt6] at c; omega
                have hv : vp_in q 12 := by
                  rw [y_lt] at h1 h2
                  exact y_in (by omega) (by omega)
                have hs := q_tell (p := q) (a := a) (b := b) h (by rw [y_lt] at h1; omega) (by rw [y_lt] at h2; omega) (by rw [y_lt6] at a1; omega) (by rw [y_le6] at c'; omega) (by rw [y_lt6] at b2; omega)
                have hk := fun u t => hK _ _ _ _ u t _ _ _ hs
                by_cases e : a = b
                · simp only [if_pos e] at hk
                  simp [P_L_span, P_F_span_o, P_F_span_t, P_F_span_o_10, P_F_span_o_43, P_F_span_t_10, P_F_span_t_43, P_F_isWithin, P_Sp_tell, P_M_span, P_M_span_34, P_M_span_35, P_M_span_48, P_M_span_62, P_M_thrown, P_L_span_19, h1, h2, h2', a1, a2, b1, b2, c, c', i1, i2, i3, i4, i5, y_n1, y_v01, y_b1, hv, e] at hk ⊢
                  simpa [y_updL] using hk _ _
                · simp only [if_neg e] at hk
                  simp [P_L_span, P_F_span_o, P_F_span_t, P_F_span_o_10, P_F_span_o_43, P_F_span_t_10, P_F_span_t_43, P_F_isWithin, P_Sp_tell, P_M_span, P_M_span_34, P_M_span_35, P_M_span_48, P_M_span_62, P_M_thrown, P_L_span_19, h1, h2, h2', a1, a2, b1, b2, c, c', i1, i2, i3, i4, i5, y_n1, y_v01, y_b1, hv, e] at hk ⊢
                  simpa [y_updL] using hk _ _
    · have h2' : ¬ q ≤ 11 := by rw [y_le]; rw [y_lt] at h2; omega
      by_cases a1 : a < 0 <;> by_cases a2 : 100000000 < a <;> by_cases b1 : b < 0 <;> by_cases b2 : 100000000 < b <;> simp [P_L_span, P_F_span_o, P_F_span_t, P_F_span_o_10, P_F_span_o_43, P_F_span_t_10, P_F_span_t_43, P_F_isWithin, P_Sp_tell, P_M_span, P_M_span_34, P_M_span_35, P_M_span_48, P_M_span_62, P_M_thrown, P_L_span_19, h1, h2, h2', a1, a2, b1, b2, hK0, i1, i2, i3, i4, i5]

theorem z_c2 (L0 : Nat) (xs : Nat → Int32) : zStep_c2 zInv L0 xs := by
  intro v_p1_familyCount v_p1_reader_toldKeys v_p1_reader_words_length v_p1_reader_words_start v_p1_reader_words_end v_p1_reader_words_place v_p1_reader_words_units v_p1_handMade_count v_p1_handMade_isThere v_p1_handMade_boxes v_p1_maker_rounding v_p1_maker_toe v_p1_maker_heel v_p1_maker_side v_p1_maker_pitch v_p1_maker_outer v_p1_maker_inner v_p1_maker_across v_p1_maker_hole v_p1_maker_spans_toldBits v_p1_maker_spans_exactBits v_p1_maker_spans_lows v_p1_maker_spans_highs v_p1_maker_leftOut v_p1_maker_print_atHand v_p1_maker_print_count v_p1_maker_print_thermal v_p1_maker_print_density v_p1_maker_print_outerHigh v_p1_maker_print_pasteLeft v_p1_maker_print_pasteLow v_p1_maker_print_nameLength v_p1_maker_print_isWritten v_p1_maker_print_cells v_p1_maker_print_yard v_p1_maker_print_columns_parts v_p1_maker_print_columns_size v_p1_maker_print_columns_ahead v_p1_maker_print_columns_gap v_p1_maker_print_rows_parts v_p1_maker_print_rows_size v_p1_maker_print_rows_ahead v_p1_maker_print_rows_gap v_p1_maker_print_line_length v_p1_maker_print_line_units v_p2_thrown v_p2_size v_p2_families v_p2_atHand v_p2_family v_p2_density v_p2_pads v_p2_hasThermal v_p2_titleSize v_p2_written v_p2_at v_p2_begin v_p2_words v_p2_paste0 v_p2_units v_p2_kinds v_p2_values v_p2_names v_p2_low v_p2_high v_p2_told v_p2_leftOut v_p2_isMade v_p2_hands v_p2_pad v_p2_court v_p2_title v_p2_out v_p3 fC fK fV fL pj i0 hpj hI hin
  obtain ⟨hW, hF, hSp, hL, hH, hP⟩ := hI
  obtain ⟨-, i1, i2, i3, i4, i5, -⟩ := hin
  exact yc2 i1 i2 i3 i4 i5 hSp (fun _ _ _ _ _ _ _ _ _ h => ⟨hW, hF, h, hL, hH, hP⟩)
