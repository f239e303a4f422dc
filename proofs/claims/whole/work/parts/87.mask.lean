theorem y_div {a b : Int32} (h : a.toInt ≠ -2147483648) : (a / b).toInt = a.toInt.tdiv b.toInt := by
  have ha := y_r a
  have h1 := Int.natAbs_tdiv a.toInt b.toInt
  have h2 : (a.toInt.tdiv b.toInt).natAbs ≤ a.toInt.natAbs := by
    rw [h1]
    exact Nat.div_le_self _ _
  clear h1
  rw [Int32.toInt_div]
  generalize a.toInt.tdiv b.toInt = t at h2
  rw [Int.bmod_eq_of_le (by omega) (by omega)]
theorem q_mulb {a b A B : Int} (h1 : -A ≤ a) (h2 : a ≤ A) (h3 : 0 ≤ b) (h4 : b ≤ B) : -(A * B) ≤ a * b ∧ a * b ≤ A * B := by
  have hA : 0 ≤ A := by omega
  have g1 : a * b ≤ A * b := Int.mul_le_mul_of_nonneg_right h2 h3
  have g2 : A * b ≤ A * B := Int.mul_le_mul_of_nonneg_left h4 hA
  have g3 : (-A) * b ≤ a * b := Int.mul_le_mul_of_nonneg_right h1 h3
  have g4 : (-A) * b = -(A * b) := Int.neg_mul A b
  omega
theorem q_ofD {p : Nat} {d : Int32} {V : Nat → Int32} {post : Int64 → Prop} {s : Nat} (hp : p < 11) (hs : ((zKey_first.getD p 0) + d).toInt = s) (h18 : s < 18) (h : post (V s).toInt64) : P_Fa_ofDensity p d V post := by
  refine ⟨hp, fun x ex => ?_⟩
  subst ex
  have e0 : (0 : Int32).toInt = 0 := by decide
  have e18 : (18 : Int32).toInt = 18 := by decide
  have hn : ((zKey_first.getD p 0) + d).toNatClampNeg = s := by rw [y_nat]; omega
  refine ⟨fun hx => ?_, fun _ => ⟨fun hx => ?_, fun _ => ⟨y_in (by omega) (by omega), ?_⟩⟩⟩
  · rw [y_lt] at hx
    omega
  · rw [y_le] at hx
    omega
  · rw [hn]
    exact h
theorem q_of {p : Nat} {V : Nat → Int32} {post : Int64 → Prop} {s : Nat} (hp : p < 11) (hs : ((zKey_first.getD p 0) + 0).toInt = s) (h18 : s < 18) (h : post (V s).toInt64) : P_Fa_of p V post := q_ofD hp hs h18 h
theorem q_Mof {p fam dens : Int32} {values : Nat → Int64} {post : Int64 → Prop} {f m : Nat} (hf : fam.toInt = f) (hf8 : f < 8) (hm : p.toInt = m) (h1 : 4 ≤ m) (h2 : m ≤ 9) (h : post (values (30 * f + 3 * m))) : P_M_of p fam dens values post := by
  have e4 : (4 : Int32).toInt = 4 := by decide
  have e3 : (3 : Int32).toInt = 3 := by decide
  have e30 : (30 : Int32).toInt = 30 := by decide
  have e0 : (0 : Int32).toInt = 0 := by decide
  have hx : (30 * fam).toInt = 30 * fam.toInt := by rw [y_mul (by rw [e30]; omega) (by rw [e30]; omega), e30]
  have hy : (3 * p).toInt = 3 * p.toInt := by rw [y_mul (by rw [e3]; omega) (by rw [e3]; omega), e3]
  have hz : (30 * fam + 3 * p).toInt = 30 * f + 3 * m := by rw [y_add (by omega) (by omega), hx, hy]; omega
  have hw : (30 * fam + 3 * p + 0).toInt = 30 * f + 3 * m := by rw [y_add (by omega) (by omega), hz, e0]; omega
  have hn : (30 * fam + 3 * p + 0).toNatClampNeg = 30 * f + 3 * m := by rw [y_nat]; omega
  refine ⟨fun _ => ⟨y_in (by omega) (by omega), by rw [hn]; exact h⟩, fun hx => absurd ?_ hx⟩
  rw [y_le]
  omega
theorem q_MofD {p fam dens : Int32} {values : Nat → Int64} {post : Int64 → Prop} {f m d : Nat} (hf : fam.toInt = f) (hf8 : f < 8) (hm : p.toInt = m) (h1 : m < 4) (hd : dens.toInt = d) (hd2 : d < 3) (h : post (values (30 * f + 3 * m + d))) : P_M_of p fam dens values post := by
  have e4 : (4 : Int32).toInt = 4 := by decide
  have e3 : (3 : Int32).toInt = 3 := by decide
  have e30 : (30 : Int32).toInt = 30 := by decide
  have hx : (30 * fam).toInt = 30 * fam.toInt := by rw [y_mul (by rw [e30]; omega) (by rw [e30]; omega), e30]
  have hy : (3 * p).toInt = 3 * p.toInt := by rw [y_mul (by rw [e3]; omega) (by rw [e3]; omega), e3]
  have hz : (30 * fam + 3 * p).toInt = 30 * f + 3 * m := by rw [y_add (by omega) (by omega), hx, hy]; omega
  have hw : (30 * fam + 3 * p + dens).toInt = 30 * f + 3 * m + d := by rw [y_add (by omega) (by omega), hz, hd]
  have hn : (30 * fam + 3 * p + dens).toNatClampNeg = 30 * f + 3 * m + d := by rw [y_nat]; omega
  refine ⟨fun hx => ?_, fun _ => ⟨y_in (by omega) (by omega), by rw [hn]; exact h⟩⟩
  rw [y_le] at hx
  omega
theorem q_value {C : Int32} {Kd : Nat} {V L : Nat → Int32} {kind : Int32} {mv : Nat → Int64} {name : Int64} (h : yF1 C Kd V L kind mv name) {s : Nat} (h1 : 12 ≤ s) (h2 : s < 18) : mv (3 * (s - 8)) = (V s).toInt64 := by
  rw [y_eq6, y_64]
  exact h.2.2.2.1 s h1 h2
theorem q_valueD {C : Int32} {Kd : Nat} {V L : Nat → Int32} {kind : Int32} {mv : Nat → Int64} {name : Int64} (h : yF1 C Kd V L kind mv name) {s : Nat} (h2 : s < 12) : mv s = (V s).toInt64 := by
  rw [y_eq6, y_64]
  exact h.2.2.1 s h2
theorem yc7 {L0 : Nat} {xs : Nat → Int32} {i0 at1 at2 cnt fam dens pads : Int32} {V : Nat → Int32} {cells out pad values : Nat → Int64} {K : (Nat → Int64) → Int32 → Prop} (i1 : vp_in (i0 + 1) L0) (i2 : vp_in (i0 + 2) L0) (e : at1 = at2) (hy : ¬ at2 = 0 → cnt = pads ∧ pads.toInt ≤ 65 ∧ (∀ k : Nat, (k : Int) < 7 * pads.toInt → cells k = pad k) ∧ ∃ f : Nat, f < 8 ∧ fam.toInt = f ∧ values (30 * f + 15) = (V 13).toInt64) (hK : ∀ u t, K u t) : P_L_c7 L0 xs i0 at1 cnt V cells out at2 fam dens pads values pad K := by
  refine ⟨i1, i2, ?_⟩
  generalize xs (i0 + 1).toNatClampNeg = q
  generalize xs (i0 + 2).toNatClampNeg = w
  subst e
  have e0 : (0 : Int32).toInt = 0 := by decide
  have e1 : (1 : Int32).toInt = 1 := by decide
  have e4 : (4 : Int32).toInt = 4 := by decide
  have e7 : (7 : Int32).toInt = 7 := by decide
  by_cases hA : at1 = 0
  · simp [P_L_mask, P_F_mask_o, P_F_mask_t, P_F_needPad_o, P_F_needPad_t, P_F_needWithin_o, P_F_needWithin_o_9, P_F_needWithin_t, P_F_needWithin_t_9, P_F_needFootprint_o, P_F_needFootprint_t, P_M_mask, P_M_mask_27, P_M_mask_28, P_M_refusal, P_M_thrown, hA, hK, i1, i2]
  · obtain ⟨hc, hp, hcells, f, hf8, hf, hval⟩ := hy hA
    subst hc
    by_cases h1 : q < 0
    · simp [P_L_mask, P_F_mask_o, P_F_mask_t, P_F_needPad_o, P_F_needPad_t, P_F_needWithin_o, P_F_needWithin_o_9, P_F_needWithin_t, P_F_needWithin_t_9, P_F_needFootprint_o, P_F_needFootprint_t, P_M_mask, P_M_mask_27, P_M_mask_28, P_M_refusal, P_M_thrown, hA, hK, i1, i2, h1]
    · by_cases h2 : q < cnt
      · have h3 : ¬ cnt ≤ q := by rw [y_le]; rw [y_lt] at h2; omega
        by_cases h4 : w < 0
        · simp [P_L_mask, P_F_mask_o, P_F_mask_t, P_F_needPad_o, P_F_needPad_t, P_F_needWithin_o, P_F_needWithin_o_9, P_F_needWithin_t, P_F_needWithin_t_9, P_F_needFootprint_o, P_F_needFootprint_t, P_M_mask, P_M_mask_27, P_M_mask_28, P_M_refusal, P_M_thrown, hA, hK, i1, i2, h1, h2, h3, h4]
        · by_cases h5 : w < 4
          · have h6 : ¬ 4 ≤ w := by rw [y_le]; rw [y_lt] at h5; omega
            rw [y_lt] at h1 h4
            have h2' := y_lt.1 h2
            have h5' := y_lt.1 h5
            have h1' : ¬ q < 0 := by rw [y_lt]; omega
            have h4' : ¬ w < 0 := by rw [y_lt]; omega
            have hx : (7 * q).toInt = 7 * q.toInt := by rw [y_mul (by rw [e7]; omega) (by rw [e7]; omega), e7]
            have hx1 : (7 * q + 1).toInt = 7 * q.toInt + 1 := by rw [y_add (by omega) (by omega), hx, e1]
            have hx2 : (7 * q + 1 + w).toInt = 7 * q.toInt + 1 + w.toInt := by rw [y_add (by omega) (by omega), hx1]
            have hxn : (7 * q + 1 + w).toNatClampNeg = 7 * q.toInt.toNat + (1 + w.toInt.toNat) := by rw [y_nat]; omega
            have hv : vp_in (7 * q + 1 + w) 455 := y_in (by omega) (by omega)
            have hw1 : (1 + w).toInt = (1 + w.toInt.toNat : Nat) := by rw [y_add (by omega) (by omega), e1]; omega
            refine Or.inl ?_
            simp only [P_F_mask_o, P_F_needPad_o, P_F_needWithin_o, P_F_needFootprint_o, hA, h1', h2, h4', h5, not_false_eq_true, forall_const, true_and, and_true, false_implies, not_true_eq_false, implies_true, P_Fp_maskCell]
            refine q_of (s := 13) (by decide) (by decide) (by decide) (q_cell (k := q.toInt.toNat) (j := 1 + w.toInt.toNat) (by omega) (by omega) hw1 (by omega) ?_)
            rw [hcells _ (by omega)]
            have hM : ∀ post : Int32 → Int32 → Prop, (2 ≤ w → post (pad (7 * q.toInt.toNat + (1 + w.toInt.toNat)) + 2 * (V 13).toInt64).toInt32 0) → (¬ 2 ≤ w → post (pad (7 * q.toInt.toNat + (1 + w.toInt.toNat)) - (V 13).toInt64).toInt32 0) → P_M_mask q w at1 fam dens cnt values pad post := by
              intro post p1 p2
              simp only [P_M_mask, P_M_mask_28, P_M_refusal, hA, h1', h3, h4', h6, not_false_eq_true, forall_const, true_and, and_true, false_implies, not_true_eq_false, implies_true, (by decide : ¬ (1 : Int32) = 0)]
              refine q_Mof (m := 5) hf hf8 (by decide) (by decide) (by decide) ?_
              rw [hxn, hval]
              exact ⟨fun h => ⟨hv, p1 h⟩, fun h => ⟨hv, p2 h⟩⟩
            refine ⟨fun hb x ex => ?_, fun hb x ex => ?_⟩
            · subst ex
              refine ⟨y_v01, i1, i2, hM _ (fun _ => ?_) (fun h => absurd hb h)⟩
              simp [P_M_thrown, hK, y_v01, y_updL]
            · subst ex
              refine ⟨y_v01, i1, i2, hM _ (fun h => absurd h hb) (fun _ => ?_)⟩
              simp [P_M_thrown, hK, y_v01, y_updL]
          · have h6 : 4 ≤ w := by rw [y_le]; rw [y_lt] at h5; omega
            simp [P_L_mask, P_F_mask_o, P_F_mask_t, P_F_needPad_o, P_F_needPad_t, P_F_needWithin_o, P_F_needWithin_o_9, P_F_needWithin_t, P_F_needWithin_t_9, P_F_needFootprint_o, P_F_needFootprint_t, P_M_mask, P_M_mask_27, P_M_mask_28, P_M_refusal, P_M_thrown, hA, hK, i1, i2, h1, h2, h3, h4, h5, h6]
      · have h3 : cnt ≤ q := by rw [y_le]; rw [y_lt] at h2; omega
        simp [P_L_mask, P_F_mask_o, P_F_mask_t, P_F_needPad_o, P_F_needPad_t, P_F_needWithin_o, P_F_needWithin_o_9, P_F_needWithin_t, P_F_needWithin_t_9, P_F_needFootprint_o, P_F_needFootprint_t, P_M_mask, P_M_mask_27, P_M_mask_28, P_M_refusal, P_M_thrown, hA, hK, i1, i2, h1, h2, h3]
theorem z_c7 (L0 : Nat) (xs : Nat → Int32) : zStep_c7 zInv L0 xs := by
  intro v_p1_familyCount v_p1_reader_toldKeys v_p1_reader_words_length v_p1_reader_words_start v_p1_reader_words_end v_p1_reader_words_place v_p1_reader_words_units v_p1_handMade_count v_p1_handMade_isThere v_p1_handMade_boxes v_p1_maker_rounding v_p1_maker_toe v_p1_maker_heel v_p1_maker_side v_p1_maker_pitch v_p1_maker_outer v_p1_maker_inner v_p1_maker_across v_p1_maker_hole v_p1_maker_spans_toldBits v_p1_maker_spans_exactBits v_p1_maker_spans_lows v_p1_maker_spans_highs v_p1_maker_leftOut v_p1_maker_print_atHand v_p1_maker_print_count v_p1_maker_print_thermal v_p1_maker_print_density v_p1_maker_print_outerHigh v_p1_maker_print_pasteLeft v_p1_maker_print_pasteLow v_p1_maker_print_nameLength v_p1_maker_print_isWritten v_p1_maker_print_cells v_p1_maker_print_yard v_p1_maker_print_columns_parts v_p1_maker_print_columns_size v_p1_maker_print_columns_ahead v_p1_maker_print_columns_gap v_p1_maker_print_rows_parts v_p1_maker_print_rows_size v_p1_maker_print_rows_ahead v_p1_maker_print_rows_gap v_p1_maker_print_line_length v_p1_maker_print_line_units v_p2_thrown v_p2_size v_p2_families v_p2_atHand v_p2_family v_p2_density v_p2_pads v_p2_hasThermal v_p2_titleSize v_p2_written v_p2_at v_p2_begin v_p2_words v_p2_paste0 v_p2_units v_p2_kinds v_p2_values v_p2_names v_p2_low v_p2_high v_p2_told v_p2_leftOut v_p2_isMade v_p2_hands v_p2_pad v_p2_court v_p2_title v_p2_out v_p3 fC fK fV fL pj i0 hpj hI hin
  obtain ⟨hW, hF, hSp, hL, hH, hP⟩ := hI
  exact yc7 hin.2.1 hin.2.2.1 hP.1 (fun h => by
    have h := hP.2.resolve_left h
    have hp : pj < 8 := by have := hF.2.2.1; omega
    exact ⟨h.2.2.2.2.2.2.1, h.2.2.2.2.2.2.2.2.1, h.2.2.2.2.2.2.2.2.2.1, pj, hp, h.2.2.1, q_value (hF.2.2.2 pj h.2.1) (s := 13) (by decide) (by decide)⟩) (fun _ _ => ⟨hW, hF, hSp, hL, hH, hP⟩)
