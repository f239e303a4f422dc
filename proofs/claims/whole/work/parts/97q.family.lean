theorem yc1 {a0 : Nat} {fc fams told len st en pl C0 size at' bg wd : Int32} {vf : Nat → Option Nat} {un mu V0 L0 kinds : Nat → Int32} {K0 j : Nat} {o3 values names : Nat → Int64} {K : Int32 → Int32 → Int32 → Int32 → Int32 → Int32 → Int32 → Nat → (Nat → Int32) → (Nat → Int32) → (Nat → Int64) → Int32 → Int32 → Int32 → Int32 → Int32 → Int32 → (Nat → Int64) → (Nat → Int32) → (Nat → Int64) → Prop} (ef : fc = fams) (hW : yW len un size mu) (hj : fc.toInt = j) (hj8 : j < 8) (hvf : vf j = some a0) (hK1 : ∀ (fc' t' s' e' p' C' : Int32) (Kd : Nat) (V' L' : Nat → Int32) (o : Nat → Int64) (a' bg' w' : Int32) (values' : Nat → Int64) (kinds' : Nat → Int32) (names' : Nat → Int64), fc'.toInt = j + 1 → yF1 C' Kd V' L' (kinds' j) (fun k => values' (30 * j + k)) (names' j) → yFr j values values' names names' → (∀ f : Nat, f < j → kinds' f = kinds f) → K fc' t' 0 s' e' p' C' Kd V' L' o 0 0 fc' a' bg' w' values' kinds' names') (hK0 : ∀ (t' s' e' p' C' : Int32) (Kd : Nat) (V' L' : Nat → Int32) (o : Nat → Int64) (a' bg' w' : Int32) (values' : Nat → Int64) (kinds' : Nat → Int32) (names' : Nat → Int64), yFr j values values' names names' → (∀ f : Nat, f < j → kinds' f = kinds f) → K fc t' 0 s' e' p' C' Kd V' L' o 0 0 fc a' bg' w' values' kinds' names') : P_L_c1 a0 fc vf told len st en pl un C0 K0 V0 L0 o3 size fams at' bg wd values mu kinds names K := by
  subst ef
  obtain ⟨rfl, hs0, hs6, hu⟩ := hW
  have e0 : (0 : Int32).toInt = 0 := by decide
  have e1 : (1 : Int32).toInt = 1 := by decide
  have e8 : (8 : Int32).toInt = 8 := by decide
  have em : (-1 : Int32).toInt = -1 := by decide
  have c0 : ¬ fc < 0 := by rw [y_lt]; omega
  have c8 : fc < 8 := by rw [y_lt]; omega
  have cn8 : ¬ fc = 8 := by rw [y_eq]; omega
  have vc : vp_in fc 8 := y_in (by omega) (by omega)
  have hcn : fc.toNatClampNeg = j := by rw [y_nat]; omega
  have hs := q_inc (y := fc) (n := 8) (by omega) (by omega) (by omega)
  have hsub : fc + 1 - 1 = fc := by rw [y_eq, y_sub (by omega) (by omega), hs, e1]; omega
  rcases q_family (size := len) (un := un) (mu := mu) (y1 := fc) (j := j) (fams := fc) (K0 := K0) (C0 := C0) (V0 := V0) (L0 := L0) (kinds := kinds) (values := values) (names := names) (n := len.toInt.toNat) (by omega) (by omega) (fun k hk => hu k (by omega)) hj hj8 with ⟨t', s', e', p', C', a', bg', w', Kd, L', V', kinds', values', names', z1, z2, z3, zC, zM⟩ | ⟨t', s', e', p', C', a', bg', w', Kd, L', V', kinds', values', names', z1, z2, z3, z4, z5, zC, zM⟩
  · refine Or.inl ⟨fun hx => absurd hx c0, fun _ => ⟨fun _ => ⟨vc, by rw [hcn]; exact hvf, zC _ ⟨fun _ x ex y ey => ⟨y_v01, ?_⟩, fun hx => absurd rfl hx⟩⟩, fun hx => absurd c8 hx⟩⟩
    subst ex
    rw [hsub] at ey
    subst ey
    refine ⟨fun _ => ⟨fun _ => zM _ (fun x2 ex2 => ?_), fun hx => absurd rfl hx⟩, fun hx => absurd hx cn8⟩
    subst ex2
    have := fun o => hK1 (fc + 1) t' s' e' p' C' Kd V' L' o a' bg' w' values' kinds' names' (by omega) z1 z2 z3
    simp [P_M_thrown, y_v01, y_updL, this]
  · have hne : ¬ p' = -1 := by rw [y_eq, em]; omega
    refine Or.inl ⟨fun hx => absurd hx c0, fun _ => ⟨fun _ => ⟨vc, by rw [hcn]; exact hvf, zC _ ⟨fun hx => absurd hx hne, fun _ y ey => ⟨y_v01, ?_⟩⟩⟩, fun hx => absurd c8 hx⟩⟩
    subst ey
    have hneg : (-1 : Int32) - p' = -w' := by
      have hn : (-w').toInt = -w'.toInt := by
        have := y_r w'
        rw [Int32.toInt_neg, Int.bmod_eq_of_le (by omega) (by omega)]
      rw [y_eq, y_sub (by omega) (by omega), em, hn, z3]
      omega
    refine ⟨fun _ => ⟨fun _ => zM _ ?_, fun hx => absurd rfl hx⟩, fun hx => absurd hx cn8⟩
    have := fun o => hK0 t' s' e' p' C' Kd V' L' o a' bg' w' values' kinds' names' z4 z5
    rw [hneg]
    simp [P_M_thrown, y_v01, y_updL, this]
theorem yc1t {a0 : Nat} {fc fams told len st en pl C0 size at' bg wd : Int32} {vf : Nat → Option Nat} {un mu V0 L0 kinds : Nat → Int32} {K0 : Nat} {o3 values names : Nat → Int64} {K : Int32 → Int32 → Int32 → Int32 → Int32 → Int32 → Int32 → Nat → (Nat → Int32) → (Nat → Int32) → (Nat → Int64) → Int32 → Int32 → Int32 → Int32 → Int32 → Int32 → (Nat → Int64) → (Nat → Int32) → (Nat → Int64) → Prop} (ef : fc = fams) (h8 : fc.toInt = 8) (hK : ∀ o t, K fc told len st en pl C0 K0 V0 L0 o t size fams at' bg wd values kinds names) : P_L_c1 a0 fc vf told len st en pl un C0 K0 V0 L0 o3 size fams at' bg wd values mu kinds names K := by
  subst ef
  have e8 : (8 : Int32).toInt = 8 := by decide
  have : fc = 8 := by rw [y_eq, h8, e8]
  subst this
  refine Or.inr ⟨fun hx => absurd hx (by decide), fun _ => ⟨fun hx => absurd hx (by decide), fun _ => ⟨rfl, ?_⟩⟩⟩
  refine ⟨fun hx => absurd rfl hx, fun _ => ⟨fun hx => absurd hx (by decide), fun _ => ?_⟩⟩
  simp [P_M_thrown, hK]
theorem q_f1C {C : Int32} {Kd : Nat} {V L : Nat → Int32} {kind kind' : Int32} {mv mv' : Nat → Int64} {name name' : Int64} (h : yF1 C Kd V L kind mv name) (hk : kind' = kind) (hm : ∀ k : Nat, k < 30 → mv' k = mv k) (hn : name' = name) : yF1 C Kd V L kind' mv' name' := by
  subst hk hn
  exact ⟨h.1, h.2.1, fun s hs => by rw [hm s (by omega)]; exact h.2.2.1 s hs, fun s hs hs2 => by rw [hm _ (by omega)]; exact h.2.2.2.1 s hs hs2, h.2.2.2.2⟩
theorem q_zupE {α : Type} {f : Nat → α} {j : Nat} : zup f j (f j) = f := by
  funext i
  unfold zup
  by_cases e : i = j
  · rw [if_pos e, e]
  · rw [if_neg e]
theorem q_zupN {α : Type} {f : Nat → α} {j i : Nat} {x : α} (h : i ≠ j) : zup f j x i = f i := by
  unfold zup
  rw [if_neg h]
theorem q_zupP {α : Type} {f : Nat → α} {j : Nat} {x : α} : zup f j x j = x := by
  unfold zup
  rw [if_pos rfl]
theorem q_famFr {n mn : Int32} {fC : Nat → Int32} {fK : Nat → Nat} {fV fL : Nat → Nat → Int32} {kinds kinds' : Nat → Int32} {values names values' names' : Nat → Int64} (hF : yFam n mn fC fK fV fL kinds values names) {j : Nat} (hj : n.toInt = j) {C' : Int32} {Kd : Nat} {V' L' : Nat → Int32} (hfr : yFr j values values' names names') (hk : ∀ f : Nat, f < j → kinds' f = kinds f) : ∀ f : Nat, f < j → yF1 (zup fC j C' f) (zup fK j Kd f) (zup fV j V' f) (zup fL j L' f) (kinds' f) (fun k => values' (30 * f + k)) (names' f) := by
  intro f hf
  rw [q_zupN (by omega), q_zupN (by omega), q_zupN (by omega), q_zupN (by omega)]
  exact q_f1C (hF.2.2.2 f (by omega)) (hk f hf) (fun k hk => hfr.1 _ (by omega)) (hfr.2 f hf)
theorem q_pZup {fams fams' : Int32} {fC : Nat → Int32} {fV fL : Nat → Nat → Int32} {pj : Nat} {atHand count thermal density : Int32} {outerHigh : Int64} {nameLength isWritten : Int32} {cells yard : Nat → Int64} {lineLen : Int32} {lineU : Nat → Int32} {mAt mFam mDens pads hasTh titleSize written : Int32} {paste0 : Int64} {pad court : Nat → Int64} {title out : Nat → Int32} (hP : yP fams fC fV fL pj atHand count thermal density outerHigh nameLength isWritten cells yard lineLen lineU mAt mFam mDens pads hasTh titleSize written paste0 pad court title out) {j : Nat} (hj : fams.toInt = j) (hf : fams.toInt ≤ fams'.toInt) {C' : Int32} {V' L' : Nat → Int32} : yP fams' (zup fC j C') (zup fV j V') (zup fL j L') pj atHand count thermal density outerHigh nameLength isWritten cells yard lineLen lineU mAt mFam mDens pads hasTh titleSize written paste0 pad court title out := by
  obtain ⟨h0, hp⟩ := hP
  refine ⟨h0, ?_⟩
  rcases hp with hp | hp
  · exact Or.inl hp
  · right
    have hne : pj ≠ j := by have := hp.2.1; omega
    rw [q_zupN hne, q_zupN hne, q_zupN hne]
    exact ⟨hp.1, by have := hp.2.1; omega, hp.2.2⟩
theorem z_c1 (L0 : Nat) (xs : Nat → Int32) : zStep_c1 zInv L0 xs := by
  intro v_p1_familyCount v_p1_reader_toldKeys v_p1_reader_words_length v_p1_reader_words_start v_p1_reader_words_end v_p1_reader_words_place v_p1_reader_words_units v_p1_handMade_count v_p1_handMade_isThere v_p1_handMade_boxes v_p1_maker_rounding v_p1_maker_toe v_p1_maker_heel v_p1_maker_side v_p1_maker_pitch v_p1_maker_outer v_p1_maker_inner v_p1_maker_across v_p1_maker_hole v_p1_maker_spans_toldBits v_p1_maker_spans_exactBits v_p1_maker_spans_lows v_p1_maker_spans_highs v_p1_maker_leftOut v_p1_maker_print_atHand v_p1_maker_print_count v_p1_maker_print_thermal v_p1_maker_print_density v_p1_maker_print_outerHigh v_p1_maker_print_pasteLeft v_p1_maker_print_pasteLow v_p1_maker_print_nameLength v_p1_maker_print_isWritten v_p1_maker_print_cells v_p1_maker_print_yard v_p1_maker_print_columns_parts v_p1_maker_print_columns_size v_p1_maker_print_columns_ahead v_p1_maker_print_columns_gap v_p1_maker_print_rows_parts v_p1_maker_print_rows_size v_p1_maker_print_rows_ahead v_p1_maker_print_rows_gap v_p1_maker_print_line_length v_p1_maker_print_line_units v_p2_thrown v_p2_size v_p2_families v_p2_atHand v_p2_family v_p2_density v_p2_pads v_p2_hasThermal v_p2_titleSize v_p2_written v_p2_at v_p2_begin v_p2_words v_p2_paste0 v_p2_units v_p2_kinds v_p2_values v_p2_names v_p2_low v_p2_high v_p2_told v_p2_leftOut v_p2_isMade v_p2_hands v_p2_pad v_p2_court v_p2_title v_p2_out v_p3 fC fK fV fL pj i0 hpj hI hin
  obtain ⟨hW, hF, hSp, hL, hH, hP⟩ := hI
  have h8 := hF.2.2.1
  have h0 := hF.2.1
  by_cases hc : v_p1_familyCount.toInt = 8
  · refine ⟨0, by decide, fun vf a hvf => yc1t hF.1 hc (fun o t => ?_)⟩
    rw [q_zupE, q_zupE, q_zupE, q_zupE]
    exact ⟨hW, hF, hSp, hL, hH, hP⟩
  · have hj : v_p1_familyCount.toInt = (v_p1_familyCount.toInt.toNat : Int) := by omega
    refine ⟨v_p1_familyCount.toInt.toNat, by omega, fun vf a hvf => yc1 hF.1 hW hj (by omega) hvf ?_ ?_⟩
    · intro fc' t' s' e' p' C' Kd V' L' o a' bg' w' values' kinds' names' g1 g2 g3 g4
      refine ⟨⟨rfl, by decide, by decide, fun k hk => ?_⟩, ⟨rfl, by omega, by omega, fun f hf => ?_⟩, hSp, hL, hH, q_pZup hP hj (by omega)⟩
      · rw [(by decide : (0 : Int32).toInt = 0)] at hk
        omega
      · by_cases e : f = v_p1_familyCount.toInt.toNat
        · rw [e, q_zupP, q_zupP, q_zupP, q_zupP]
          exact g2
        · exact q_famFr hF hj g3 g4 f (by omega)
    · intro t' s' e' p' C' Kd V' L' o a' bg' w' values' kinds' names' g3 g4
      refine ⟨⟨rfl, by decide, by decide, fun k hk => ?_⟩, ⟨rfl, h0, h8, fun f hf => q_famFr hF hj g3 g4 f (by omega)⟩, hSp, hL, hH, q_pZup hP hj (by omega)⟩
      rw [(by decide : (0 : Int32).toInt = 0)] at hk
      omega
