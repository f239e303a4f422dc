theorem q_inc {y : Int32} {n : Int} (h : y.toInt + 1 ≤ n) (hn : n < 2147483648) (h0 : -2147483648 ≤ y.toInt) : (y + 1).toInt = y.toInt + 1 := by
  have e1 : (1 : Int32).toInt = 1 := by decide
  rw [y_add (by omega) (by omega), e1]
theorem q_Hm_forget {post : Int32 → (Nat → Int32) → Prop} : ∀ (d : Nat) (y c : Int32) (a : Nat → Int32), 0 ≤ y.toInt → y.toInt + d = 81 → (∀ a', (∀ j : Nat, j < 81 → (y.toInt ≤ j → a' j = 0) ∧ ((j : Int) < y.toInt → a' j = a j)) → post c a') → P_Hm_forget_7 post (d + 1) y c a := by
  have e81 : (81 : Int32).toInt = 81 := by decide
  intro d
  induction d with
  | zero =>
    intro y c a h0 hd h
    refine ⟨fun _ => h a (fun j hj => ⟨fun h => by omega, fun _ => rfl⟩), fun hn => ?_⟩
    rw [y_le] at hn
    omega
  | succ d ih =>
    intro y c a h0 hd h
    refine ⟨fun hn => ?_, fun hn => ⟨y_in h0 (by omega), fun x ex => ?_⟩⟩
    · rw [y_le] at hn
      omega
    · subst ex
      have es := q_inc (y := y) (n := 81) (by omega) (by omega) (by omega)
      refine ih (y + 1) c _ (by omega) (by omega) (fun a' ha => h a' (fun j hj => ?_))
      obtain ⟨g1, g2⟩ := ha j hj
      rw [es] at g1 g2
      refine ⟨fun hj2 => ?_, fun hj2 => ?_⟩
      · by_cases e : (j : Int) = y.toInt
        · rw [g2 (by omega), y_upd, y_b0, if_pos (by rw [y_nat]; omega)]
        · exact g1 (by omega)
      · rw [g2 (by omega), y_upd, if_neg (by rw [y_nat]; omega)]
theorem q_Ma_forget {post : Int32 → Int32 → Int32 → (Nat → Int32) → Prop} : ∀ (d : Nat) (y c1 c2 c3 : Int32) (a : Nat → Int32), 0 ≤ y.toInt → y.toInt + d = 65 → (∀ a', (∀ j : Nat, j < 65 → (y.toInt ≤ j → a' j = 0) ∧ ((j : Int) < y.toInt → a' j = a j)) → post c1 c2 c3 a') → P_Ma_forget_17 post (d + 1) y c1 c2 c3 a := by
  have e81 : (65 : Int32).toInt = 65 := by decide
  intro d
  induction d with
  | zero =>
    intro y c1 c2 c3 a h0 hd h
    refine ⟨fun _ => h a (fun j hj => ⟨fun h => by omega, fun _ => rfl⟩), fun hn => ?_⟩
    rw [y_le] at hn
    omega
  | succ d ih =>
    intro y c1 c2 c3 a h0 hd h
    refine ⟨fun hn => ?_, fun hn => ⟨y_in h0 (by omega), fun x ex => ?_⟩⟩
    · rw [y_le] at hn
      omega
    · subst ex
      have es := q_inc (y := y) (n := 65) (by omega) (by omega) (by omega)
      refine ih (y + 1) c1 c2 c3 _ (by omega) (by omega) (fun a' ha => h a' (fun j hj => ?_))
      obtain ⟨g1, g2⟩ := ha j hj
      rw [es] at g1 g2
      refine ⟨fun hj2 => ?_, fun hj2 => ?_⟩
      · by_cases e : (j : Int) = y.toInt
        · rw [g2 (by omega), y_upd, y_b0, if_pos (by rw [y_nat]; omega)]
        · exact g1 (by omega)
      · rw [g2 (by omega), y_upd, if_neg (by rw [y_nat]; omega)]

theorem q_M_clear3 {post : Int32 → Int32 → Int32 → (Nat → Int32) → (Nat → Int32) → (Nat → Int32) → Prop} : ∀ (d : Nat) (y c1 c2 c3 : Int32) (A B : Nat → Int32) (a : Nat → Int32), 0 ≤ y.toInt → y.toInt + d = 81 → (∀ a', (∀ j : Nat, j < 81 → (y.toInt ≤ j → a' j = 0) ∧ ((j : Int) < y.toInt → a' j = a j)) → post c1 c2 c3 A B a') → P_M_clear_59 post (d + 1) y c1 c2 c3 A B a := by
  have e81 : (81 : Int32).toInt = 81 := by decide
  intro d
  induction d with
  | zero =>
    intro y c1 c2 c3 A B a h0 hd h
    refine ⟨fun _ => h a (fun j hj => ⟨fun h => by omega, fun _ => rfl⟩), fun hn => ?_⟩
    rw [y_le] at hn
    omega
  | succ d ih =>
    intro y c1 c2 c3 A B a h0 hd h
    refine ⟨fun hn => ?_, fun hn => ⟨y_in h0 (by omega), fun x ex => ?_⟩⟩
    · rw [y_le] at hn
      omega
    · subst ex
      have es := q_inc (y := y) (n := 81) (by omega) (by omega) (by omega)
      refine ih (y + 1) c1 c2 c3 A B _ (by omega) (by omega) (fun a' ha => h a' (fun j hj => ?_))
      obtain ⟨g1, g2⟩ := ha j hj
      rw [es] at g1 g2
      refine ⟨fun hj2 => ?_, fun hj2 => ?_⟩
      · by_cases e : (j : Int) = y.toInt
        · rw [g2 (by omega), y_upd, y_b0, if_pos (by rw [y_nat]; omega)]
        · exact g1 (by omega)
      · rw [g2 (by omega), y_upd, if_neg (by rw [y_nat]; omega)]

theorem q_M_clear2 {post : Int32 → Int32 → Int32 → (Nat → Int32) → (Nat → Int32) → (Nat → Int32) → Prop} {M : Nat → Int32} : ∀ (d : Nat) (y c1 c2 c3 : Int32) (A : Nat → Int32) (a : Nat → Int32), 0 ≤ y.toInt → y.toInt + d = 65 → (∀ a', (∀ j : Nat, j < 65 → (y.toInt ≤ j → a' j = 0) ∧ ((j : Int) < y.toInt → a' j = a j)) → ∃ n2, P_M_clear_59 post n2 0 c1 c2 c3 A a' M) → P_M_clear_38 M post (d + 1) y c1 c2 c3 A a := by
  have e81 : (65 : Int32).toInt = 65 := by decide
  intro d
  induction d with
  | zero =>
    intro y c1 c2 c3 A a h0 hd h
    refine ⟨fun _ => h a (fun j hj => ⟨fun h => by omega, fun _ => rfl⟩), fun hn => ?_⟩
    rw [y_le] at hn
    omega
  | succ d ih =>
    intro y c1 c2 c3 A a h0 hd h
    refine ⟨fun hn => ?_, fun hn => ⟨y_in h0 (by omega), fun x ex => ?_⟩⟩
    · rw [y_le] at hn
      omega
    · subst ex
      have es := q_inc (y := y) (n := 65) (by omega) (by omega) (by omega)
      refine ih (y + 1) c1 c2 c3 A _ (by omega) (by omega) (fun a' ha => h a' (fun j hj => ?_))
      obtain ⟨g1, g2⟩ := ha j hj
      rw [es] at g1 g2
      refine ⟨fun hj2 => ?_, fun hj2 => ?_⟩
      · by_cases e : (j : Int) = y.toInt
        · rw [g2 (by omega), y_upd, y_b0, if_pos (by rw [y_nat]; omega)]
        · exact g1 (by omega)
      · rw [g2 (by omega), y_upd, if_neg (by rw [y_nat]; omega)]

theorem q_M_clear1 {post : Int32 → Int32 → Int32 → (Nat → Int32) → (Nat → Int32) → (Nat → Int32) → Prop} {M : Nat → Int32} {B : Nat → Int32} : ∀ (d : Nat) (y c1 c2 c3 : Int32) (a : Nat → Int32), 0 ≤ y.toInt → y.toInt + d = 12 → (∀ a', (∀ j : Nat, j < 12 → (y.toInt ≤ j → a' j = 0) ∧ ((j : Int) < y.toInt → a' j = a j)) → ∃ n2, P_M_clear_38 M post n2 0 c1 c2 c3 a' B) → P_M_clear_17 B M post (d + 1) y c1 c2 c3 a := by
  have e81 : (12 : Int32).toInt = 12 := by decide
  intro d
  induction d with
  | zero =>
    intro y c1 c2 c3 a h0 hd h
    refine ⟨fun _ => h a (fun j hj => ⟨fun h => by omega, fun _ => rfl⟩), fun hn => ?_⟩
    rw [y_le] at hn
    omega
  | succ d ih =>
    intro y c1 c2 c3 a h0 hd h
    refine ⟨fun hn => ?_, fun hn => ⟨y_in h0 (by omega), fun x ex => ?_⟩⟩
    · rw [y_le] at hn
      omega
    · subst ex
      have es := q_inc (y := y) (n := 12) (by omega) (by omega) (by omega)
      refine ih (y + 1) c1 c2 c3 _ (by omega) (by omega) (fun a' ha => h a' (fun j hj => ?_))
      obtain ⟨g1, g2⟩ := ha j hj
      rw [es] at g1 g2
      refine ⟨fun hj2 => ?_, fun hj2 => ?_⟩
      · by_cases e : (j : Int) = y.toInt
        · rw [g2 (by omega), y_upd, y_b0, if_pos (by rw [y_nat]; omega)]
        · exact g1 (by omega)
      · rw [g2 (by omega), y_upd, if_neg (by rw [y_nat]; omega)]

theorem q_cnt0 {m : Nat → Int32} : ∀ n : Nat, (∀ k : Nat, 1 ≤ k → k ≤ n → m k = 0) → yCnt m n = 0 := by
  intro n
  induction n with
  | zero => intro _; rfl
  | succ n ih =>
    intro h
    have e0 : (0 : Int32).toInt = 0 := by decide
    rw [yCnt, ih (fun k h1 h2 => h k h1 (by omega)), h (n + 1) (by omega) (by omega), e0]
    rfl
theorem q_cntR {m : Nat → Int32} : ∀ n : Nat, (∀ k : Nat, 1 ≤ k → k ≤ n → m k = 0 ∨ m k = 1) → 0 ≤ yCnt m n ∧ yCnt m n ≤ n := by
  intro n
  have e0 : (0 : Int32).toInt = 0 := by decide
  have e1 : (1 : Int32).toInt = 1 := by decide
  induction n with
  | zero => intro _; exact ⟨Int.le_refl _, Int.le_refl _⟩
  | succ n ih =>
    intro h
    have := ih (fun k h1 h2 => h k h1 (by omega))
    rw [yCnt]
    rcases h (n + 1) (by omega) (by omega) with g | g <;> rw [g] <;> omega
theorem q_cntU {m : Nat → Int32} {k : Nat} {x : Int32} (hk : 1 ≤ k) : ∀ n : Nat, yCnt (upd m k x) n = yCnt m n + if k ≤ n then x.toInt - (m k).toInt else 0 := by
  intro n
  induction n with
  | zero =>
    rw [if_neg (by omega)]
    rfl
  | succ n ih =>
    rw [yCnt, yCnt, ih, y_upd]
    by_cases h : n + 1 = k
    · rw [if_neg (by omega), if_pos h, if_pos (by omega), h]
      omega
    · rw [if_neg h]
      by_cases h2 : k ≤ n
      · rw [if_pos h2, if_pos (by omega)]
        omega
      · rw [if_neg h2, if_neg (by omega)]
        omega

theorem z_c14 (L0 : Nat) (xs : Nat → Int32) : zStep_c14 zInv L0 xs := by
  intro v_p1_familyCount v_p1_reader_toldKeys v_p1_reader_words_length v_p1_reader_words_start v_p1_reader_words_end v_p1_reader_words_place v_p1_reader_words_units v_p1_handMade_count v_p1_handMade_isThere v_p1_handMade_boxes v_p1_maker_rounding v_p1_maker_toe v_p1_maker_heel v_p1_maker_side v_p1_maker_pitch v_p1_maker_outer v_p1_maker_inner v_p1_maker_across v_p1_maker_hole v_p1_maker_spans_toldBits v_p1_maker_spans_exactBits v_p1_maker_spans_lows v_p1_maker_spans_highs v_p1_maker_leftOut v_p1_maker_print_atHand v_p1_maker_print_count v_p1_maker_print_thermal v_p1_maker_print_density v_p1_maker_print_outerHigh v_p1_maker_print_pasteLeft v_p1_maker_print_pasteLow v_p1_maker_print_nameLength v_p1_maker_print_isWritten v_p1_maker_print_cells v_p1_maker_print_yard v_p1_maker_print_columns_parts v_p1_maker_print_columns_size v_p1_maker_print_columns_ahead v_p1_maker_print_columns_gap v_p1_maker_print_rows_parts v_p1_maker_print_rows_size v_p1_maker_print_rows_ahead v_p1_maker_print_rows_gap v_p1_maker_print_line_length v_p1_maker_print_line_units v_p2_thrown v_p2_size v_p2_families v_p2_atHand v_p2_family v_p2_density v_p2_pads v_p2_hasThermal v_p2_titleSize v_p2_written v_p2_at v_p2_begin v_p2_words v_p2_paste0 v_p2_units v_p2_kinds v_p2_values v_p2_names v_p2_low v_p2_high v_p2_told v_p2_leftOut v_p2_isMade v_p2_hands v_p2_pad v_p2_court v_p2_title v_p2_out v_p3 fC fK fV fL pj i0 hpj hI hin
  obtain ⟨hW, hF, hSp, hL, hH, hP⟩ := hI
  have e0 : (0 : Int32).toInt = 0 := by decide
  show P_L_c14 _ _ _ _ _ _
  unfold P_L_c14 P_F_clear P_Wo_drop P_Ma_forget P_Sp_forget P_Hm_forget P_M_clear
  refine ⟨66, q_Ma_forget 65 0 0 0 0 _ (by decide) (by decide) (fun aL hL1 => ⟨82, q_Hm_forget 81 0 0 _ (by decide) (by decide) (fun aH hH1 => ⟨13, q_M_clear1 12 0 0 0 0 _ (by decide) (by decide) (fun bT hT1 => ⟨66, q_M_clear2 65 0 0 0 0 bT _ (by decide) (by decide) (fun bL hL2 => ⟨82, q_M_clear3 81 0 0 0 0 bT bL _ (by decide) (by decide) (fun bM hM1 => ?_)⟩)⟩)⟩)⟩)⟩
  have z1 : ∀ j : Nat, (0 : Int32).toInt ≤ (j : Int) := fun j => by rw [e0]; omega
  show zInv v_p1_familyCount v_p1_reader_toldKeys 0 v_p1_reader_words_start v_p1_reader_words_end v_p1_reader_words_place v_p1_reader_words_units 0 aH v_p1_handMade_boxes v_p1_maker_rounding v_p1_maker_toe v_p1_maker_heel v_p1_maker_side v_p1_maker_pitch v_p1_maker_outer v_p1_maker_inner v_p1_maker_across v_p1_maker_hole 0 0 v_p1_maker_spans_lows v_p1_maker_spans_highs aL 0 v_p1_maker_print_count v_p1_maker_print_thermal v_p1_maker_print_density v_p1_maker_print_outerHigh v_p1_maker_print_pasteLeft v_p1_maker_print_pasteLow v_p1_maker_print_nameLength v_p1_maker_print_isWritten v_p1_maker_print_cells v_p1_maker_print_yard v_p1_maker_print_columns_parts v_p1_maker_print_columns_size v_p1_maker_print_columns_ahead v_p1_maker_print_columns_gap v_p1_maker_print_rows_parts v_p1_maker_print_rows_size v_p1_maker_print_rows_ahead v_p1_maker_print_rows_gap v_p1_maker_print_line_length v_p1_maker_print_line_units 0 0 v_p2_families 0 v_p2_family v_p2_density v_p2_pads v_p2_hasThermal v_p2_titleSize v_p2_written v_p2_at v_p2_begin v_p2_words v_p2_paste0 v_p2_units v_p2_kinds v_p2_values v_p2_names v_p2_low v_p2_high bT bL bM v_p2_hands v_p2_pad v_p2_court v_p2_title v_p2_out v_p3 fC fK fV fL pj
  refine ⟨⟨rfl, by decide, by decide, fun k hk => ?_⟩, hF, fun w hw => ?_, fun k hk => ?_, ⟨?_, fun k h1 h2 => ?_⟩, ⟨rfl, Or.inl rfl⟩⟩
  · rw [e0] at hk
    omega
  · have ht := (hT1 w hw).1 (z1 w)
    have hz : ∀ w : Nat, w < 12 → ¬ yBit 0 w := by unfold yBit; decide
    rw [ht]
    simp [hz w hw]
  · have := (hL1 k hk).1 (z1 k)
    have := (hL2 k hk).1 (z1 k)
    simp [*]
  · rw [q_cnt0 80 (fun k h1 h2 => (hM1 k (by omega)).1 (z1 k))]
    rfl
  · have g1 := (hH1 k (by omega)).1 (z1 k)
    have g2 := (hM1 k (by omega)).1 (z1 k)
    rw [g1, g2]
    simp
