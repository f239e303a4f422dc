theorem yc3a {tb eb : Int32} {lo hi ml mh : Nat → Int64} {mt : Nat → Int32} (h : ySp tb eb lo hi ml mh mt) {L0 : Nat} {xs : Nat → Int32} {a0 : Nat} {i0 fams fams2 : Int32} {vf : Nat → Option Nat} {kind : Nat} {R T H S P O I A X : Int64} {V lf lf2 L : Nat → Int32} {C32 : Int32} {cells yard o3 : Nat → Int64} {mAt mFam mDens mPads mTh mTs mWr : Int32} {mPaste : Int64} {values names mpad mcourt : Nat → Int64} {kinds mout mtitle : Nat → Int32} {K : Int64 → Int64 → Int64 → Int64 → Int64 → Int64 → Int64 → Int64 → Int64 → Int32 → Int32 → Int32 → Int32 → Int64 → Int32 → (Nat → Int64) → (Nat → Int64) → (Nat → Int64) → Int32 → Int32 → Int32 → Int32 → Int32 → Int32 → Int32 → Int32 → Int64 → (Nat → Int64) → (Nat → Int64) → (Nat → Int32) → (Nat → Int32) → Prop} {j d C : Nat} (i1 : vp_in (i0 + 1) L0) (i2 : vp_in (i0 + 2) L0) (ef : fams = fams2) (hf8 : fams.toInt ≤ 8) (hq : (xs (i0 + 1).toNatClampNeg).toInt = j) (hj : (j : Int) < fams.toInt) (hw : (xs (i0 + 2).toNatClampNeg).toInt = d) (hvf : vf j = some a0) (hv : yVs V values j d) (hv4 : values (30 * j + 12) = (V 12).toInt64) (hv6 : values (30 * j + 18) = (V 14).toInt64) (hk : (kinds j).toInt = kind) (hk5 : kind < 5) (hlf : ∀ k : Nat, k < 65 → lf k = lf2 k ∧ (lf2 k = 0 ∨ lf2 k = 1)) (hC : C32.toInt = C) (hC1 : 1 ≤ C ∧ C ≤ 4) (hL : ∀ i : Nat, i < C → 65 ≤ (L i).toInt ∧ (L i).toInt ≤ 90) (hname : (names j).toInt = yCode L C) (hKb : ∀ a1 a2 a3 a4 a5 a6 a7 a8 a9 cnt th d32 oh iw cells' yard' o t fm dn pd ht ts wr ps pad court out title, K a1 a2 a3 a4 a5 a6 a7 a8 a9 0 cnt th d32 oh iw cells' yard' o t 0 fm dn pd ht ts wr ps pad court out title) (hKg : ∀ a1 a2 a3 a4 a5 a6 a7 a8 a9 (cnt th : Int32) (cells' yard' : Nat → Int64) o t (pads ht ts wr : Int32) (pad court : Nat → Int64) (out title : Nat → Int32), cnt = pads → 1 ≤ pads.toInt → pads.toInt ≤ 65 → (∀ k : Nat, (k : Int) < 7 * pads.toInt → cells' k = pad k) → (∀ k : Nat, k < 4 → yard' k = court k) → (ht = 0 ∧ th = -1 ∨ ht = 1 ∧ th.toInt = pads.toInt - 1) → yPads pad pads.toInt → yTx (yName C32 L pads.toInt (yHi mt mh 0).toInt (xs (i0 + 2).toNatClampNeg).toInt) (yText (yName C32 L pads.toInt (yHi mt mh 0).toInt (xs (i0 + 2).toNatClampNeg).toInt) pad court pads.toInt.toNat) ts wr title out 0 0 0 (fun _ => 0) → (∀ k : Nat, k < 4 → -4000000000 ≤ (court k).toInt ∧ (court k).toInt ≤ 4000000000) → K a1 a2 a3 a4 a5 a6 a7 a8 a9 1 cnt th (xs (i0 + 2).toNatClampNeg) (yHi mt mh 0) 0 cells' yard' o t 1 (xs (i0 + 1).toNatClampNeg) (xs (i0 + 2).toNatClampNeg) pads ht ts wr (V 14).toInt64 pad court out title) : P_L_c3a L0 xs a0 i0 fams vf kind R T H S P O I A X tb eb hi V lo cells lf yard o3 fams2 mAt mFam mDens mPads mTh mTs mWr mPaste values kinds mt mh ml mpad lf2 mcourt names mout mtitle K := by
  refine ⟨i1, i2, ?_⟩
  generalize xs (i0 + 1).toNatClampNeg = q at hq hKg ⊢
  generalize xs (i0 + 2).toNatClampNeg = w at hw hKg ⊢
  subst ef
  have e0 : (0 : Int32).toInt = 0 := by decide
  have e2 : (2 : Int32).toInt = 2 := by decide
  have e3 : (3 : Int32).toInt = 3 := by decide
  have e8 : (8 : Int32).toInt = 8 := by decide
  have hd3 := hv.2.1
  have hr1 := hv.2.2.2.1
  have hr := hv.2.2.1 12 (by decide)
  have bc := hv.2.2.1 (9 + d) (by omega)
  have q0 : ¬ q < 0 := by rw [y_lt]; omega
  have q1 : ¬ fams ≤ q := by rw [y_le]; omega
  have q2 : q < 8 := by rw [y_lt]; omega
  have q3 : q < fams := by rw [y_lt]; omega
  have w0 : ¬ w < 0 := by rw [y_lt]; omega
  have w1 : w < 3 := by rw [y_lt]; omega
  have w2 : w ≤ 2 := by rw [y_le]; omega
  have qn : q.toNatClampNeg = j := by rw [y_nat]; omega
  have vq : vp_in q 8 := y_in (by omega) (by omega)
  have b0 := q_hiB h (k := 0) (by decide)
  have b10 := q_hiB h (k := 10) (by decide)
  have b11 := q_hiB h (k := 11) (by decide)
  have u10 := q_upB (p := (yHi mt mh 10).toInt) (r := 2 * (V 12).toInt) (by omega)
  have u11 := q_upB (p := (yHi mt mh 11).toInt) (r := 2 * (V 12).toInt) (by omega)
  obtain ⟨G, N, F, tf, hok, hCs, hMs⟩ := q_kinds (lf := lf) (lf2 := lf2) h hv hq hw hk hk5 hlf
  have hM : ∀ post : Int32 → Int32 → Int32 → Int32 → Int32 → Int32 → Int32 → Int32 → Int32 → Int64 → (Nat → Int64) → (Nat → Int64) → (Nat → Int32) → (Nat → Int32) → Prop, (¬ G → ∀ fm dn pd ht ts wr ps pad court out title, post (-1) 0 0 fm dn pd ht ts wr ps pad court out title) → (G → ∀ (pads : Int32) (pad court' : Nat → Int64) (ts' wr' : Int32) (out' title' : Nat → Int32), pads.toInt = N → yLay pad N F → (∀ j : Nat, j < 4 → (court' j).toInt = yYard N F (yBody mt) (yBw mt mh (V 12).toInt 10) (yBw mt mh (V 12).toInt 11) (V (9 + d)).toInt (V 12).toInt j) → (yText (yName C32 L pads.toInt (yHi mt mh 0).toInt w.toInt) pad court' N).length ≤ 4096 → yIs ts' title' (yName C32 L pads.toInt (yHi mt mh 0).toInt w.toInt) → yIs wr' out' (yText (yName C32 L pads.toInt (yHi mt mh 0).toInt w.toInt) pad court' N) → post pads 0 1 q w pads (if tf then 1 else 0) ts' wr' (V 14).toInt64 pad court' out' title') → P_M_make q w fams mAt mFam mDens mPads mTh mTs mWr mPaste values kinds mt mh ml mpad lf2 mcourt names mout mtitle post := by
    intro post pb pg
    refine ⟨fun hx => absurd hx q0, fun _ => ⟨fun _ => ⟨fun hx => absurd hx w0, fun _ => ⟨fun _ => ⟨fun _ => ?_, fun hx => absurd rfl hx⟩, fun hx => absurd w2 hx⟩⟩, fun hx => absurd q3 hx⟩⟩
    refine q_Mof (m := 4) hq (by omega) (by decide) (by decide) (by decide) ?_
    rw [hv4, qn]
    refine ⟨vq, hMs mpad (fun t0 pads ht pad => P_M_make_117 mTs mWr mPaste values mt mh mcourt names mout mtitle post (V 12).toInt64 t0 0 q w pads ht pad) (fun hG a b c => ⟨⟨y_n0, by decide⟩, fun hx => absurd rfl hx, fun _ => pb hG _ _ _ _ _ _ _ _ _ _ _⟩) (fun hG pads pad' k l => ?_)⟩
    exact q_M117 h hv hq hw hv6 hC hC1 hL hname k (hok hG) l (fun court' ts' wr' out' title' g1 g2 g3 g4 => pg hG pads pad' court' ts' wr' out' title' k l g1 g2 g3 g4)
  refine ⟨fun hx => absurd hx q0, fun _ => ⟨fun hx => absurd hx q1, fun _ => ⟨fun _ => ⟨fun hx => absurd hx w0, fun _ => ⟨fun _ => ⟨vq, by rw [qn]; exact hvf, ?_⟩, fun hx => absurd w1 hx⟩⟩, fun hx => absurd q2 hx⟩⟩⟩
  refine hCs R T H S P O I A X cells yard _ (fun hG a1 a2 a3 a4 a5 a6 a7 a8 a9 cnt th cells' => ⟨fun _ x ex => ⟨y_v01, i1, i2, ?_⟩, fun hx => absurd rfl hx⟩) (fun hG a1 a2 a3 a4 a5 a6 a7 a8 a9 cnt th cells' yard' k l ht hy => ⟨fun hx => absurd hx (by decide), fun _ x ex => ⟨y_v01, i1, i2, ?_⟩⟩)
  · subst ex
    refine hM _ (fun _ fm dn pd ht ts wr ps pad court out title => ?_) (fun hx => absurd hx hG)
    simp [P_M_thrown, y_v01, y_updL, hKb]
  · subst ex
    refine hM _ (fun hx => absurd hG hx) (fun _ pads pad court' ts' wr' out' title' k' l' g1 g2 g3 g4 => ?_)
    have hcp : cnt = pads := by rw [y_eq, k, k']
    subst hcp
    have hokG := hok hG
    have hNb := hokG.1
    have hNn : cnt.toInt.toNat = N := by omega
    have hcell : ∀ k : Nat, (k : Int) < 7 * cnt.toInt → cells' k = pad k := by
      intro t ht
      have ht7 : t = 7 * (t / 7) + t % 7 := by omega
      have a1 := l (t / 7) (by omega) (t % 7) (by omega)
      have a2 := l' (t / 7) (by omega) (t % 7) (by omega)
      rw [← ht7] at a1 a2
      rw [y_eq6, a1, a2]
    have hyd : ∀ k : Nat, k < 4 → yard' k = court' k := fun k hk => by rw [y_eq6, hy k hk, g1 k hk]
    have hcb : ∀ k : Nat, k < 4 → -4000000000 ≤ (court' k).toInt ∧ (court' k).toInt ≤ 4000000000 := fun k hk => by
      rw [g1 k hk]
      exact q_yardB hokG (by unfold yBw; omega) (by unfold yBw; omega) bc (by omega) k
    have hth : (if tf then (1 : Int32) else 0) = 0 ∧ th = -1 ∨ (if tf then (1 : Int32) else 0) = 1 ∧ th.toInt = cnt.toInt - 1 := by
      cases tf with
      | false => exact Or.inl ⟨rfl, by simpa using ht⟩
      | true => exact Or.inr ⟨rfl, by simp at ht; omega⟩
    have hpp : yPads pad cnt.toInt := by rw [k']; exact q_okPads hokG l'
    have hKg' := fun o t => hKg a1 a2 a3 a4 a5 a6 a7 a8 a9 cnt th cells' yard' o t cnt (if tf then 1 else 0) ts' wr' pad court' out' title' rfl (by omega) (by omega) hcell hyd hth hpp ⟨by rw [hNn]; exact g2, g3, by rw [hNn]; exact g4, Or.inl rfl⟩ hcb
    simp [P_M_thrown, y_v01, y_updL, hKg']
theorem yc3b {L0 : Nat} {xs : Nat → Int32} {i0 fams fams2 mAt mFam mDens mPads mTh mTs mWr : Int32} {mPaste : Int64} {values names mpad mcourt mh ml o3 : Nat → Int64} {mt kinds lf2 mout mtitle : Nat → Int32} {K : Int32 → Int32 → Int32 → Int32 → Int32 → Int32 → Int32 → Int32 → Int64 → (Nat → Int64) → (Nat → Int64) → (Nat → Int32) → (Nat → Int32) → Prop} (i1 : vp_in (i0 + 1) L0) (i2 : vp_in (i0 + 2) L0) (ef : fams = fams2) (hf8 : fams.toInt ≤ 8) (hbad : ¬ (0 ≤ (xs (i0 + 1).toNatClampNeg).toInt ∧ (xs (i0 + 1).toNatClampNeg).toInt < fams.toInt ∧ 0 ≤ (xs (i0 + 2).toNatClampNeg).toInt ∧ (xs (i0 + 2).toNatClampNeg).toInt ≤ 2)) (hK : ∀ t, K t mAt mFam mDens mPads mTh mTs mWr mPaste mpad mcourt mout mtitle) : P_L_c3b L0 xs i0 fams fams2 mAt mFam mDens mPads mTh mTs mWr mPaste values kinds mt mh ml mpad lf2 mcourt names mout mtitle o3 K := by
  refine ⟨i1, i2, ?_⟩
  generalize xs (i0 + 1).toNatClampNeg = q at hbad ⊢
  generalize xs (i0 + 2).toNatClampNeg = w at hbad ⊢
  subst ef
  have e0 : (0 : Int32).toInt = 0 := by decide
  have e2 : (2 : Int32).toInt = 2 := by decide
  have e3 : (3 : Int32).toInt = 3 := by decide
  have e8 : (8 : Int32).toInt = 8 := by decide
  by_cases q0 : q < 0
  · simp [P_L_make_b, P_F_make_t, P_F_make_t_18, P_F_make_t_37, P_M_make, P_M_make_13, P_M_make_26, P_M_make_31, P_M_thrown, q0, i1, i2, hK]
  · by_cases q1 : fams ≤ q
    · have q2 : ¬ q < fams := by rw [y_lt]; rw [y_le] at q1; omega
      simp [P_L_make_b, P_F_make_t, P_F_make_t_18, P_F_make_t_37, P_M_make, P_M_make_13, P_M_make_26, P_M_make_31, P_M_thrown, q0, q1, q2, i1, i2, hK]
    · have q2 : q < fams := by rw [y_lt]; rw [y_le] at q1; omega
      have q3 : q < 8 := by rw [y_lt]; rw [y_le] at q1; omega
      by_cases w0 : w < 0
      · simp [P_L_make_b, P_F_make_t, P_F_make_t_18, P_F_make_t_37, P_M_make, P_M_make_13, P_M_make_26, P_M_make_31, P_M_thrown, q0, q1, q2, q3, w0, i1, i2, hK]
      · have w1 : ¬ w < 3 := by
          rw [y_lt] at q0 w0 q2 ⊢
          omega
        have w2 : ¬ w ≤ 2 := by
          rw [y_lt] at w1
          rw [y_le]
          omega
        simp [P_L_make_b, P_F_make_t, P_F_make_t_18, P_F_make_t_37, P_M_make, P_M_make_13, P_M_make_26, P_M_make_31, P_M_thrown, q0, q1, q2, q3, w0, w1, w2, i1, i2, hK]
theorem q_vs {C : Int32} {Kd : Nat} {V L : Nat → Int32} {kind : Int32} {values : Nat → Int64} {name : Int64} {f d : Nat} (h : yF1 C Kd V L kind (fun k => values (30 * f + k)) name) (hf : f < 8) (hd : d < 3) : yVs V values f d := by
  refine ⟨hf, hd, h.2.2.2.2.1, h.2.2.2.2.2.1, ?_, ?_, ?_, ?_⟩
  · have := q_valueD h (s := 0 + d) (by omega)
    rw [← this]
    congr 1
    omega
  · have := q_valueD h (s := 3 + d) (by omega)
    rw [← this]
    congr 1
    omega
  · have := q_valueD h (s := 6 + d) (by omega)
    rw [← this]
    congr 1
    omega
  · have := q_valueD h (s := 9 + d) (by omega)
    rw [← this]
    congr 1
    omega
theorem z_c3 (L0 : Nat) (xs : Nat → Int32) : zStep_c3 zInv L0 xs := by
  intro v_p1_familyCount v_p1_reader_toldKeys v_p1_reader_words_length v_p1_reader_words_start v_p1_reader_words_end v_p1_reader_words_place v_p1_reader_words_units v_p1_handMade_count v_p1_handMade_isThere v_p1_handMade_boxes v_p1_maker_rounding v_p1_maker_toe v_p1_maker_heel v_p1_maker_side v_p1_maker_pitch v_p1_maker_outer v_p1_maker_inner v_p1_maker_across v_p1_maker_hole v_p1_maker_spans_toldBits v_p1_maker_spans_exactBits v_p1_maker_spans_lows v_p1_maker_spans_highs v_p1_maker_leftOut v_p1_maker_print_atHand v_p1_maker_print_count v_p1_maker_print_thermal v_p1_maker_print_density v_p1_maker_print_outerHigh v_p1_maker_print_pasteLeft v_p1_maker_print_pasteLow v_p1_maker_print_nameLength v_p1_maker_print_isWritten v_p1_maker_print_cells v_p1_maker_print_yard v_p1_maker_print_columns_parts v_p1_maker_print_columns_size v_p1_maker_print_columns_ahead v_p1_maker_print_columns_gap v_p1_maker_print_rows_parts v_p1_maker_print_rows_size v_p1_maker_print_rows_ahead v_p1_maker_print_rows_gap v_p1_maker_print_line_length v_p1_maker_print_line_units v_p2_thrown v_p2_size v_p2_families v_p2_atHand v_p2_family v_p2_density v_p2_pads v_p2_hasThermal v_p2_titleSize v_p2_written v_p2_at v_p2_begin v_p2_words v_p2_paste0 v_p2_units v_p2_kinds v_p2_values v_p2_names v_p2_low v_p2_high v_p2_told v_p2_leftOut v_p2_isMade v_p2_hands v_p2_pad v_p2_court v_p2_title v_p2_out v_p3 fC fK fV fL pj i0 hpj hI hin
  obtain ⟨hW, hF, hSp, hL, hH, hP⟩ := hI
  by_cases hgood : 0 ≤ (xs (i0 + 1).toNatClampNeg).toInt ∧ (xs (i0 + 1).toNatClampNeg).toInt < v_p1_familyCount.toInt ∧ 0 ≤ (xs (i0 + 2).toNatClampNeg).toInt ∧ (xs (i0 + 2).toNatClampNeg).toInt ≤ 2
  · left
    have h8 := hF.2.2.1
    refine ⟨(xs (i0 + 1).toNatClampNeg).toInt.toNat, by omega, fun vf a hvf => ?_⟩
    have hf := hF.2.2.2 (xs (i0 + 1).toNatClampNeg).toInt.toNat (by omega)
    refine yc3a (j := (xs (i0 + 1).toNatClampNeg).toInt.toNat) (d := (xs (i0 + 2).toNatClampNeg).toInt.toNat) (C := (fC (xs (i0 + 1).toNatClampNeg).toInt.toNat).toInt.toNat) (C32 := fC (xs (i0 + 1).toNatClampNeg).toInt.toNat) (L := fL (xs (i0 + 1).toNatClampNeg).toInt.toNat) hSp hin.2.1 hin.2.2.1 hF.1 h8 (by omega) (by omega) (by omega) hvf (q_vs hf (by omega) (by omega)) (q_value hf (s := 12) (by decide) (by decide)) (q_value hf (s := 14) (by decide) (by decide)) hf.2.1 hf.1 hL (by have := hf.2.2.2.2.2.2.2.2.2.1; omega) (by have := hf.2.2.2.2.2.2.2.2.2.1; have := hf.2.2.2.2.2.2.2.2.2.2.1; omega) (fun i hi => hf.2.2.2.2.2.2.2.2.2.2.2.1 i (by omega)) hf.2.2.2.2.2.2.2.2.2.2.2.2 ?_ ?_
    · intro a1 a2 a3 a4 a5 a6 a7 a8 a9 cnt th d32 oh iw cells' yard' o t fm dn pd ht ts wr ps pad court out title
      exact ⟨hW, hF, hSp, hL, hH, ⟨rfl, Or.inl rfl⟩⟩
    · intro a1 a2 a3 a4 a5 a6 a7 a8 a9 cnt th cells' yard' o t pads ht ts wr pad court out title g1 g2 g3 g4 g5 g6 g7 g8 g9
      have b0 := q_hiB hSp (k := 0) (by decide)
      exact ⟨hW, hF, hSp, hL, hH, ⟨rfl, Or.inr ⟨rfl, by omega, by omega, rfl, hgood.2.2.1, hgood.2.2.2, g1, g2, g3, g4, g5, g6, y_64 _, g7, ⟨g8.1, g8.2.1, g8.2.2.1, Or.inl rfl⟩, b0.1, b0.2.1, g9⟩⟩⟩
  · right
    exact yc3b hin.2.1 hin.2.2.1 hF.1 hF.2.2.1 hgood (fun _ => ⟨hW, hF, hSp, hL, hH, hP⟩)
