theorem q_tabC : ∀ w : Nat, w < 34 → ∀ i : Nat, i < zLen.getD w 0 → (((((zByt.getD w []).getD i 0) &&& 255).toUInt32 % 65536).toInt32) = (zByt.getD w []).getD i 0 ∧ vp_nar .char ((zByt.getD w []).getD i 0) = (zByt.getD w []).getD i 0 := by decide +kernel
theorem q_tabL : ∀ w : Nat, w < 34 → Int32.ofNat (zLen.getD w 0) >>> ((0 : Int32) &&& 31) = Int32.ofNat (zLen.getD w 0) ∧ zLen.getD w 0 < 30 := by decide +kernel
theorem q_length {w : Nat} (hw : w < 34) {post : Int32 → Prop} (h : post (Int32.ofNat (zLen.getD w 0))) : P_JS_length w post := by
  refine ⟨hw, hw, hw, fun h => absurd h (by decide), fun _ => ⟨hw, ?_⟩⟩
  show post _
  rw [(q_tabL w hw).1]
  exact h
theorem q_nar {c : Int32} (h : vp_nar .char c = c) : narrow .char (.int c) = .int c := by
  have : vp_nar .char c = c.toUInt32.toUInt16.toUInt32.toInt32 := rfl
  show Value.int _ = Value.int _
  rw [← this, h]
theorem q_charAt {w : Nat} {i : Int32} {post : Int32 → Prop} (hw : w < 34) (h0 : 0 ≤ i.toInt) (h1 : i.toInt < (zLen.getD w 0 : Nat)) (h : post ((zByt.getD w []).getD i.toInt.toNat 0)) : P_JS_charAt w i post := by
  have e0 : (0 : Int32).toInt = 0 := by decide
  have ht := q_tabC w hw i.toInt.toNat (by omega)
  have hl := (q_tabL w hw).2
  refine ⟨hw, fun h => absurd h (by decide), fun _ => ⟨hw, fun h => absurd rfl h, fun _ => ⟨fun h => absurd h (by decide), fun _ => ⟨hw, hw, ?_⟩⟩⟩⟩
  refine ⟨fun hx => ?_, fun _ => ⟨fun _ => ⟨hw, y_in h0 h1, ?_⟩, fun hx => ?_⟩⟩
  · rw [y_lt] at hx
    omega
  · rw [y_nat, ht.1]
    exact ⟨q_nar ht.2, q_nar ht.2, h⟩
  · rw [y_lt, zl_n32 (by omega)] at hx
    exact absurd h1 hx
theorem q_takeS {B : List Int32} {k : Nat} (h : k < B.length) : B.take (k + 1) = B.take k ++ [B.getD k 0] := by
  rw [List.take_add_one, List.getD_eq_getElem?_getD, List.getElem?_eq_getElem h]
  rfl
theorem q_addWord {w : Nat} (hw : w < 34) {post : Int32 → (Nat → Int32) → Prop} {T : List Int32} (hl : (T ++ (zByt.getD w []).take (zLen.getD w 0)).length ≤ 4096) (hz : (zByt.getD w []).length = zLen.getD w 0) (hp : ∀ len' u', yIs len' u' (T ++ (zByt.getD w []).take (zLen.getD w 0)) → post len' u') : ∀ (d : Nat) (y len : Int32) (u : Nat → Int32), 0 ≤ y.toInt → y.toInt + d = (zLen.getD w 0 : Nat) → yIs len u (T ++ (zByt.getD w []).take y.toInt.toNat) → P_Li_addWord_2 w post (d + 1) y len u := by
  have hb := (q_tabL w hw).2
  intro d
  induction d with
  | zero =>
    intro y len u h0 h1 h
    refine ⟨hw, q_length hw ⟨fun _ => hp len u ?_, fun hx => ?_⟩⟩
    · have : y.toInt.toNat = zLen.getD w 0 := by omega
      rw [this] at h
      exact h
    · rw [y_le, zl_n32 (by omega)] at hx
      omega
  | succ d ih =>
    intro y len u h0 h1 h
    have hi := q_inc (y := y) (n := 30) (by omega) (by omega) (by omega)
    have hn : (y + 1).toInt.toNat = y.toInt.toNat + 1 := by omega
    have htake : (zByt.getD w []).take (y.toInt.toNat + 1) = (zByt.getD w []).take y.toInt.toNat ++ [(zByt.getD w []).getD y.toInt.toNat 0] := q_takeS (by omega)
    refine ⟨hw, q_length hw ⟨fun hx => ?_, fun _ => ⟨hw, q_charAt hw h0 (by omega) (q_addUnit h ?_ (q_tabC w hw _ (by omega)).2 (fun len' u' h' x ex => ?_))⟩⟩⟩
    · rw [y_le, zl_n32 (by omega)] at hx
      omega
    · rw [List.length_append, List.length_take] at hl
      rw [List.length_append, List.length_append, List.length_singleton, List.length_take]
      omega
    · subst ex
      refine ih (y + 1) len' u' (by omega) (by omega) ?_
      rw [hn, htake, ← List.append_assoc]
      exact h'
theorem q_letS {L : Nat → Int32} {n : Nat} : yLet L (n + 1) = yLet L n ++ [L n] := by
  unfold yLet
  rw [List.range_succ, List.map_append]
  rfl
theorem q_letL {L : Nat → Int32} {n : Nat} : (yLet L n).length = n := by
  unfold yLet
  rw [List.length_map, List.length_range]
theorem q_writeName {count dens : Int32} {oh : Int64} {C : Int32} {L : Nat → Int32} {post : Int32 → (Nat → Int32) → Prop} (hC : 1 ≤ C.toInt ∧ C.toInt ≤ 4) (hL : ∀ i : Nat, (i : Int) < C.toInt → 65 ≤ (L i).toInt ∧ (L i).toInt ≤ 90) (hc : 0 ≤ count.toInt) (ho : 0 ≤ oh.toInt) (hl : (yName C L count.toInt oh.toInt dens.toInt).length ≤ 4096) (hp : ∀ len' u', yIs len' u' (yName C L count.toInt oh.toInt dens.toInt) → post len' u') : ∀ (d : Nat) (y len : Int32) (u : Nat → Int32), 0 ≤ y.toInt → y.toInt + d = C.toInt → yIs len u (yLet L y.toInt.toNat) → P_Fp_writeName_2 count dens oh C L post (d + 1) y len u := by
  have e0 : (0 : Int32).toInt = 0 := by decide
  have e1 : (1 : Int32).toInt = 1 := by decide
  have e4 : (4 : Int32).toInt = 4 := by decide
  have f1000 : (1000 : Int64).toInt = 1000 := by decide
  intro d
  induction d with
  | zero =>
    intro y len u h0 h1 h
    refine ⟨fun _ => ?_, fun hx => ?_⟩
    · have hy : y.toInt.toNat = C.toInt.toNat := by omega
      rw [hy] at h
      have hoh : (oh / 1000).toInt = oh.toInt / 1000 := by
        have := y_r6 oh
        rw [y_div6 (by omega), f1000, Int.tdiv_eq_ediv_of_nonneg ho]
      have hcr := y_r count
      have hor := y_r6 oh
      unfold yName at hl hp
      have hl' := hl
      simp only [List.length_append] at hl'
      refine q_addNumber h (by rw [y_64]; omega) (by rw [y_64]; simp only [List.length_append]; omega) (fun len1 u1 g1 => q_addUnit g1 (by rw [y_64]; simp only [List.length_append]; omega) (by decide) (fun len2 u2 g2 => q_addNumber g2 (by rw [hoh]; omega) (by rw [y_64, hoh]; simp only [List.length_append]; omega) (fun len3 u3 g3 => ?_)))
      rw [y_64, hoh] at g3
      refine ⟨fun hd => ⟨fun hd1 => ?_, fun hd1 => ?_⟩, fun hd => ?_⟩
      · rw [if_neg (by rw [y_eq] at hd; omega), if_neg (by rw [y_eq] at hd1; omega)] at hl hp
        exact q_addUnit g3 hl (by decide) hp
      · rw [if_neg (by rw [y_eq] at hd; omega), if_pos (by rw [y_eq] at hd1; omega)] at hl hp
        exact q_addUnit g3 hl (by decide) hp
      · rw [if_pos (by rw [y_eq] at hd; omega)] at hl hp
        exact q_addUnit g3 hl (by decide) hp
    · rw [y_le] at hx
      omega
  | succ d ih =>
    intro y len u h0 h1 h
    have hi := q_inc (y := y) (n := 4) (by omega) (by omega) (by omega)
    have hn : (y + 1).toInt.toNat = y.toInt.toNat + 1 := by omega
    have hlt := hL y.toInt.toNat (by omega)
    refine ⟨fun hx => ?_, fun _ => ⟨fun hx => ?_, fun _ => ⟨y_in h0 (by omega), ?_⟩⟩⟩
    · rw [y_le] at hx
      omega
    · rw [y_le] at hx
      omega
    · rw [y_nat]
      refine q_addUnit h (by rw [List.length_append, q_letL, List.length_singleton]; omega) (y_charOk (Or.inr (by omega))) (fun len' u' h' x ex => ?_)
      subst ex
      refine ih (y + 1) len' u' (by omega) (by omega) ?_
      rw [hn, q_letS]
      exact h'
theorem q_writePad1 {p : Int32} {cells : Nat → Int64} {post : Int32 → (Nat → Int32) → Prop} {k j : Nat} {y len : Int32} {u : Nat → Int32} {T : List Int32} {n : Nat} (hp : p.toInt = k) (hk : k < 65) (hy : y.toInt = j) (hj0 : 1 ≤ j) (hj : j < 7) (hv : -9000000000000000000 ≤ (cells (7 * k + j)).toInt) (h : yIs len u T) (hl : (T ++ [32] ++ yNum (cells (7 * k + j)).toInt).length ≤ 4096) (hK : ∀ len' u', yIs len' u' (T ++ [32] ++ yNum (cells (7 * k + j)).toInt) → P_Fp_writePad_2 p cells post n (y + 1) len' u') : P_Fp_writePad_2 p cells post (n + 1) y len u := by
  have e0 : (0 : Int32).toInt = 0 := by decide
  have e7 : (7 : Int32).toInt = 7 := by decide
  have hl' := hl
  simp only [List.length_append] at hl'
  refine ⟨fun hx => ?_, fun _ => ⟨fun hx => ?_, fun _ => q_addUnit h (by simp only [List.length_append]; omega) (by decide) (fun len1 u1 g1 => q_cell hp hk hy hj (q_addNumber g1 hv hl (fun len2 u2 g2 x ex => ?_)))⟩⟩
  · rw [y_le] at hx
    omega
  · rw [y_le] at hx
    omega
  · subst ex
    exact hK _ _ g2
theorem q_writePad {p : Int32} {cells : Nat → Int64} {post : Int32 → (Nat → Int32) → Prop} {k : Nat} {len : Int32} {u : Nat → Int32} {T : List Int32} (hp : p.toInt = k) (hk : k < 65) (hv : ∀ j : Nat, j < 7 → -9000000000000000000 ≤ (cells (7 * k + j)).toInt) (h : yIs len u T) (hl : (T ++ yPadT cells k).length ≤ 4096) (hK : ∀ len' u', yIs len' u' (T ++ yPadT cells k) → post len' u') : P_Fp_writePad p len u cells post := by
  have e0 : (0 : Int32).toInt = 0 := by decide
  unfold yPadT at hl hK
  have hl' := hl
  simp only [List.length_append] at hl'
  have hK' : ∀ len' u', yIs len' u' (T ++ yNum (cells (7 * k + 0)).toInt ++ [32] ++ yNum (cells (7 * k + 1)).toInt ++ [32] ++ yNum (cells (7 * k + 2)).toInt ++ [32] ++ yNum (cells (7 * k + 3)).toInt ++ [32] ++ yNum (cells (7 * k + 4)).toInt ++ [32] ++ yNum (cells (7 * k + 5)).toInt ++ [32] ++ yNum (cells (7 * k + 6)).toInt ++ [10]) → post len' u' := by
    intro len' u' h
    refine hK _ _ ?_
    simp only [List.append_assoc] at h ⊢
    exact h
  refine ⟨8, ⟨fun hx => absurd hx (by decide), fun _ => ⟨fun _ => q_cell (j := 0) hp hk e0 (by decide) (q_addNumber h (hv 0 (by decide)) (by simp only [List.length_append, Nat.add_zero]; omega) (fun len1 u1 g1 x ex => ?_)), fun hx => absurd (by decide) hx⟩⟩⟩
  subst ex
  refine q_writePad1 (j := 1) hp hk (by decide) (by decide) (by decide) (hv 1 (by decide)) g1 (by simp only [List.length_append, Nat.add_zero]; omega) (fun len2 u2 g2 => ?_)
  refine q_writePad1 (j := 2) hp hk (by decide) (by decide) (by decide) (hv 2 (by decide)) g2 (by simp only [List.length_append, Nat.add_zero]; omega) (fun len3 u3 g3 => ?_)
  refine q_writePad1 (j := 3) hp hk (by decide) (by decide) (by decide) (hv 3 (by decide)) g3 (by simp only [List.length_append, Nat.add_zero]; omega) (fun len4 u4 g4 => ?_)
  refine q_writePad1 (j := 4) hp hk (by decide) (by decide) (by decide) (hv 4 (by decide)) g4 (by simp only [List.length_append, Nat.add_zero]; omega) (fun len5 u5 g5 => ?_)
  refine q_writePad1 (j := 5) hp hk (by decide) (by decide) (by decide) (hv 5 (by decide)) g5 (by simp only [List.length_append, Nat.add_zero]; omega) (fun len6 u6 g6 => ?_)
  refine q_writePad1 (j := 6) hp hk (by decide) (by decide) (by decide) (hv 6 (by decide)) g6 (by simp only [List.length_append, Nat.add_zero]; omega) (fun len7 u7 g7 => ?_)
  refine ⟨fun _ => q_addUnit g7 (by simp only [List.length_append, Nat.add_zero]; omega) (by decide) hK', fun hx => absurd (by decide) hx⟩
theorem q_writeYard1 {yard : Nat → Int64} {post : Int32 → Int32 → Int32 → (Nat → Int32) → Prop} {j n : Nat} {y nl iw len : Int32} {u : Nat → Int32} {T : List Int32} (hy : y.toInt = j) (hj : j < 4) (hv : -9000000000000000000 ≤ (yard j).toInt) (h : yIs len u T) (hl : (T ++ [32] ++ yNum (yard j).toInt).length ≤ 4096) (hK : ∀ len' u', yIs len' u' (T ++ [32] ++ yNum (yard j).toInt) → P_Fp_writeOnce_77 yard post n (y + 1) nl iw len' u') : P_Fp_writeOnce_77 yard post (n + 1) y nl iw len u := by
  have e4 : (4 : Int32).toInt = 4 := by decide
  have hl' := hl
  simp only [List.length_append] at hl'
  have hn : y.toNatClampNeg = j := by rw [y_nat]; omega
  refine ⟨fun hx => ?_, fun _ => q_addUnit h (by simp only [List.length_append]; omega) (by decide) (fun len1 u1 g1 => ⟨y_in (by omega) (by omega), ?_⟩)⟩
  · rw [y_le] at hx
    omega
  · rw [hn]
    refine q_addNumber g1 hv hl (fun len2 u2 g2 x ex => ?_)
    subst ex
    exact hK _ _ g2
theorem q_writeYard {yard : Nat → Int64} {post : Int32 → Int32 → Int32 → (Nat → Int32) → Prop} {nl iw len : Int32} {u : Nat → Int32} {T : List Int32} (hv : ∀ j : Nat, j < 4 → -9000000000000000000 ≤ (yard j).toInt) (h : yIs len u T) (hl : (T ++ yCourtT yard).length ≤ 4096) (hK : ∀ len' u', yIs len' u' (T ++ yCourtT yard) → post nl iw len' u') : P_Li_addWord 8 len u (fun (u2 : Int32) (u3 : Nat → Int32) => ∃ n4, P_Fp_writeOnce_77 yard post n4 0 nl iw u2 u3) := by
  unfold yCourtT at hl hK
  have hl' := hl
  simp only [List.length_append] at hl'
  have hw : (zByt.getD 8 []).take (zLen.getD 8 0) = [99, 111, 117, 114, 116] := by decide
  have hK' : ∀ len' u', yIs len' u' (T ++ [99, 111, 117, 114, 116] ++ [32] ++ yNum (yard 0).toInt ++ [32] ++ yNum (yard 1).toInt ++ [32] ++ yNum (yard 2).toInt ++ [32] ++ yNum (yard 3).toInt ++ [10]) → post nl iw len' u' := by
    intro len' u' h
    refine hK _ _ ?_
    simp only [List.append_assoc] at h ⊢
    exact h
  refine ⟨6, q_addWord (T := T) (by decide) (by rw [hw]; simp only [List.length_append]; omega) (by decide) (fun len1 u1 g1 => ⟨5, ?_⟩) 5 0 len u (by decide) (by decide) (by simpa using h)⟩
  rw [hw] at g1
  refine q_writeYard1 (j := 0) (by decide) (by decide) (hv 0 (by decide)) g1 (by simp only [List.length_append]; omega) (fun len2 u2 g2 => ?_)
  refine q_writeYard1 (j := 1) (by decide) (by decide) (hv 1 (by decide)) g2 (by simp only [List.length_append]; omega) (fun len3 u3 g3 => ?_)
  refine q_writeYard1 (j := 2) (by decide) (by decide) (hv 2 (by decide)) g3 (by simp only [List.length_append]; omega) (fun len4 u4 g4 => ?_)
  refine q_writeYard1 (j := 3) (by decide) (by decide) (hv 3 (by decide)) g4 (by simp only [List.length_append]; omega) (fun len5 u5 g5 => ?_)
  exact ⟨fun _ => q_addUnit g5 (by simp only [List.length_append]; omega) (by decide) hK', fun hx => absurd (by decide) hx⟩
theorem q_padsT_len {pad : Nat → Int64} {n : Nat} : ∀ m : Nat, n ≤ m → (yPadsT pad n).length ≤ (yPadsT pad m).length := by
  intro m
  induction m with
  | zero => intro h; rw [Nat.le_zero.1 h]; exact Nat.le_refl _
  | succ m ih =>
    intro h
    by_cases e : n = m + 1
    · rw [e]
      exact Nat.le_refl _
    · have := ih (by omega)
      rw [yPadsT, List.length_append]
      omega
theorem q_writePads {count : Int32} {cells yard : Nat → Int64} {post : Int32 → Int32 → Int32 → (Nat → Int32) → Prop} {nl iw : Int32} {N : List Int32} {n : Nat} (hn : count.toInt = n) (hn65 : n ≤ 65) (hv : ∀ k : Nat, k < 7 * n → -9000000000000000000 ≤ (cells k).toInt) (hw : ∀ j : Nat, j < 4 → -9000000000000000000 ≤ (yard j).toInt) (hl : (yText N cells yard n).length ≤ 4096) (hK : ∀ len' u', yIs len' u' (yText N cells yard n) → post nl iw len' u') : ∀ (d : Nat) (y len : Int32) (u : Nat → Int32), 0 ≤ y.toInt → y.toInt + d = n → yIs len u (N ++ [10] ++ yPadsT cells y.toInt.toNat) → P_Fp_writeOnce_47 count cells yard post (d + 1) y nl iw len u := by
  intro d
  induction d with
  | zero =>
    intro y len u h0 h1 h
    have hy : y.toInt.toNat = n := by omega
    rw [hy] at h
    refine ⟨fun _ => q_writeYard hw h hl hK, fun hx => ?_⟩
    rw [y_le] at hx
    omega
  | succ d ih =>
    intro y len u h0 h1 h
    have hi := q_inc (y := y) (n := 65) (by omega) (by omega) (by omega)
    have hs : (y + 1).toInt.toNat = y.toInt.toNat + 1 := by omega
    have hle := q_padsT_len (pad := cells) (n := y.toInt.toNat + 1) n (by omega)
    unfold yText at hl
    simp only [List.length_append] at hl
    refine ⟨fun hx => ?_, fun _ => q_writePad (k := y.toInt.toNat) (by omega) (by omega) (fun j hj => hv _ (by omega)) h ?_ (fun len' u' h' x ex => ?_)⟩
    · rw [y_le] at hx
      omega
    · rw [yPadsT, List.length_append] at hle
      simp only [List.length_append]
      omega
    · subst ex
      refine ih (y + 1) len' u' (by omega) (by omega) ?_
      rw [hs, yPadsT, ← List.append_assoc]
      exact h'
theorem q_textC {N : List Int32} {c c' y y' : Nat → Int64} {n : Nat} (h1 : ∀ k : Nat, k < 7 * n → c k = c' k) (h2 : ∀ k : Nat, k < 4 → y k = y' k) : yText N c y n = yText N c' y' n := by
  have hp : ∀ m : Nat, m ≤ n → yPadsT c m = yPadsT c' m := by
    intro m
    induction m with
    | zero => intro _; rfl
    | succ m ih =>
      intro hm
      rw [yPadsT, yPadsT, ih (by omega)]
      unfold yPadT
      rw [h1 (7 * m) (by omega), h1 (7 * m + 1) (by omega), h1 (7 * m + 2) (by omega), h1 (7 * m + 3) (by omega), h1 (7 * m + 4) (by omega), h1 (7 * m + 5) (by omega), h1 (7 * m + 6) (by omega)]
  unfold yText yCourtT
  rw [hp n (Nat.le_refl n), h2 0 (by decide), h2 1 (by decide), h2 2 (by decide), h2 3 (by decide)]
theorem q_emitL : ∀ n r s : Nat, (yEmit n r s).length ≤ n := by
  intro n
  induction n with
  | zero => intro r s; exact Nat.le_refl _
  | succ n ih =>
    intro r s
    rw [yEmit]
    split
    · exact Nat.zero_le _
    · rw [List.length_cons]
      have := ih r (s / 10)
      omega
theorem q_numL {v : Int} : (yNum v).length ≤ 21 := by
  unfold yNum
  rw [List.length_append]
  have := q_emitL 20 v.natAbs (yScale 18 v.natAbs 1)
  split
  · rw [List.length_singleton]
    omega
  · rw [List.length_nil]
    omega
theorem q_nameL {C : Int32} {L : Nat → Int32} {p o d : Int} (hC : C.toInt ≤ 4) : (yName C L p o d).length ≤ 60 := by
  unfold yName
  have h1 := q_numL (v := p)
  have h2 := q_numL (v := o / 1000)
  simp only [List.length_append, q_letL, List.length_singleton]
  omega
theorem q_writeOnce {count dens : Int32} {oh : Int64} {nl iw len C : Int32} {L u : Nat → Int32} {cells yard : Nat → Int64} {post : Int32 → Int32 → Int32 → (Nat → Int32) → Prop} {n : Nat} (hC : 1 ≤ C.toInt ∧ C.toInt ≤ 4) (hL : ∀ i : Nat, (i : Int) < C.toInt → 65 ≤ (L i).toInt ∧ (L i).toInt ≤ 90) (ho : 0 ≤ oh.toInt) (hn : count.toInt = n) (hn65 : n ≤ 65) (hv : ∀ k : Nat, k < 7 * n → -9000000000000000000 ≤ (cells k).toInt) (hw : ∀ j : Nat, j < 4 → -9000000000000000000 ≤ (yard j).toInt) (hl : (yText (yName C L count.toInt oh.toInt dens.toInt) cells yard n).length ≤ 4096) (hi : iw = 0 ∨ iw = 1 ∧ nl.toInt = (yName C L count.toInt oh.toInt dens.toInt).length ∧ yIs len u (yText (yName C L count.toInt oh.toInt dens.toInt) cells yard n)) (hK : ∀ (nl' len' : Int32) (u' : Nat → Int32), nl'.toInt = (yName C L count.toInt oh.toInt dens.toInt).length → yIs len' u' (yText (yName C L count.toInt oh.toInt dens.toInt) cells yard n) → post nl' 1 len' u') : P_Fp_writeOnce count dens oh nl iw len C L u cells yard post := by
  have e0 : (0 : Int32).toInt = 0 := by decide
  have hl2 := hl
  unfold yText at hl2
  simp only [List.length_append] at hl2
  rcases hi with rfl | ⟨rfl, hi1, hi2⟩
  · refine ⟨fun _ => ⟨C.toInt.toNat + 1, q_writeName hC hL (by omega) ho (by omega) (fun len1 u1 g1 => q_addUnit g1 (by simp only [List.length_append]; omega) (by decide) (fun len2 u2 g2 => ⟨n + 1, q_writePads hn hn65 hv hw hl (fun len3 u3 g3 => hK _ _ _ g1.1 g3) n 0 len2 u2 (by decide) (by rw [e0]; omega) (by simpa [yPadsT] using g2)⟩)) C.toInt.toNat 0 0 u (by decide) (by rw [e0]; omega) ⟨rfl, fun k hk => absurd hk (Nat.not_lt_zero k)⟩⟩, fun h => absurd rfl h⟩
  · exact ⟨fun h => absurd h (by decide), fun _ => hK _ _ _ hi1 hi2⟩
/-- what both steps need of a footprint at hand -/
def yTxt (count dens : Int32) (oh : Int64) (nl iw len C : Int32) (L u : Nat → Int32) (cells yard : Nat → Int64) (titleSize written : Int32) (title out : Nat → Int32) : Prop :=
  (1 ≤ C.toInt ∧ C.toInt ≤ 4) ∧ (∀ i : Nat, (i : Int) < C.toInt → 65 ≤ (L i).toInt ∧ (L i).toInt ≤ 90) ∧ 0 ≤ oh.toInt ∧ 0 ≤ count.toInt ∧ count.toInt ≤ 65 ∧ (∀ k : Nat, k < 7 * count.toInt.toNat → -9000000000000000000 ≤ (cells k).toInt) ∧ (∀ j : Nat, j < 4 → -9000000000000000000 ≤ (yard j).toInt) ∧ yTx (yName C L count.toInt oh.toInt dens.toInt) (yText (yName C L count.toInt oh.toInt dens.toInt) cells yard count.toInt.toNat) titleSize written title out iw nl len u
theorem yc5 {L0 : Nat} {xs : Nat → Int32} {i0 at1 at2 count dens nl iw len C ts wr : Int32} {oh : Int64} {L u title out : Nat → Int32} {cells yard o3 : Nat → Int64} {K : Int32 → Int32 → Int32 → (Nat → Int32) → (Nat → Int64) → Int32 → Prop} (i1 : vp_in (i0 + 1) L0) (e : at1 = at2) (hy : ¬ at2 = 0 → yTxt count dens oh nl iw len C L u cells yard ts wr title out) (hK0 : ∀ o t, K nl iw len u o t) (hK : ¬ at2 = 0 → ∀ nl' len' u' o t, yTxt count dens oh nl' 1 len' C L u' cells yard ts wr title out → K nl' 1 len' u' o t) : P_L_c5 L0 xs i0 at1 count dens oh nl iw len C L u cells yard o3 at2 ts title K := by
  refine ⟨i1, ?_⟩
  generalize xs (i0 + 1).toNatClampNeg = q
  subst e
  have e0 : (0 : Int32).toInt = 0 := by decide
  have e4096 : (4096 : Int32).toInt = 4096 := by decide
  by_cases hA : at1 = 0
  · simp [P_L_name, P_F_name_o, P_F_name_t, P_F_needNotBelowZero_o, P_F_needNotBelowZero_t, P_F_needFootprint_o, P_F_needFootprint_t, P_M_name, P_M_name_11, P_M_refusal, P_M_thrown, hA, hK0, i1]
  · obtain ⟨hC, hL, ho, hc0, hc, hv, hw, hl, ht, hwr, hi⟩ := hy hA
    by_cases h1 : q < 0
    · have h1' : ¬ 0 ≤ q := by rw [y_le]; rw [y_lt] at h1; omega
      simp [P_L_name, P_F_name_o, P_F_name_t, P_F_needNotBelowZero_o, P_F_needNotBelowZero_t, P_F_needFootprint_o, P_F_needFootprint_t, P_M_name, P_M_name_11, P_M_refusal, P_M_thrown, hA, hK0, i1, h1, h1']
    · have h1' : 0 ≤ q := by rw [y_le]; rw [y_lt] at h1; omega
      have hq0 : 0 ≤ q.toInt := by rw [y_le] at h1'; omega
      have hN := q_nameL (L := L) (p := count.toInt) (o := oh.toInt) (d := dens.toInt) hC.2
      refine Or.inl ⟨fun _ => ⟨fun _ => q_writeOnce (n := count.toInt.toNat) hC hL ho (by omega) (by omega) hv hw hl hi (fun nl' len' u' g1 g2 => ?_), fun h => absurd h1' h⟩, fun h => absurd h hA⟩
      have hK1 : ∀ o t, K nl' 1 len' u' o t := fun o t => hK hA nl' len' u' o t ⟨hC, hL, ho, hc0, hc, hv, hw, hl, ht, hwr, Or.inr ⟨rfl, g1, g2⟩⟩
      have hts : ts.toInt = nl'.toInt := by rw [g1, ht.1]
      by_cases hq : q.toInt < nl'.toInt
      · have k1 : ¬ nl' ≤ q := by rw [y_le]; omega
        have k2 : ¬ ts ≤ q := by rw [y_le]; omega
        have hTl : (yName C L count.toInt oh.toInt dens.toInt).length ≤ (yText (yName C L count.toInt oh.toInt dens.toInt) cells yard count.toInt.toNat).length := by
          unfold yText
          simp only [List.length_append]
          omega
        have k3 : ¬ len' ≤ q := by rw [y_le, g2.1]; omega
        have k4 : ¬ 4096 ≤ q := by rw [y_le]; omega
        have hval : u' q.toNatClampNeg = title q.toNatClampNeg := by
          rw [y_nat, ht.2 _ (by omega), g2.2 _ (by omega)]
          unfold yText
          rw [List.append_assoc, List.append_assoc, q_getL (by omega)]
        refine ⟨fun h => absurd h k1, fun _ => ⟨fun h => absurd h h1, fun _ => ⟨fun h => absurd h k3, fun _ => ⟨fun h => absurd h k4, fun _ => ⟨y_in hq0 (by omega), fun x ex => ⟨y_v01, i1, fun h => absurd h h1, fun _ => ?_⟩⟩⟩⟩⟩⟩
        subst ex
        have v60 : vp_in q 60 := y_in hq0 (by omega)
        rw [hval]
        simp [P_M_name_11, P_M_refusal, P_M_thrown, hA, k2, v60, y_v01, y_updL, hK1]
      · have k1 : nl' ≤ q := by rw [y_le]; omega
        have k2 : ts ≤ q := by rw [y_le]; omega
        refine ⟨fun _ x ex => ⟨y_v01, i1, fun h => absurd h h1, fun _ => ?_⟩, fun h => absurd k1 h⟩
        subst ex
        simp [P_M_name_11, P_M_refusal, P_M_thrown, hA, k2, y_v01, y_updL, hK1]
theorem yc13 {L0 : Nat} {xs : Nat → Int32} {i0 at1 at2 count dens nl iw len C ts wr : Int32} {oh : Int64} {L u title out : Nat → Int32} {cells yard o3 : Nat → Int64} {K : Int32 → Int32 → Int32 → (Nat → Int32) → (Nat → Int64) → Int32 → Prop} (i1 : vp_in (i0 + 1) L0) (e : at1 = at2) (hy : ¬ at2 = 0 → yTxt count dens oh nl iw len C L u cells yard ts wr title out) (hK0 : ∀ o t, K nl iw len u o t) (hK : ¬ at2 = 0 → ∀ nl' len' u' o t, yTxt count dens oh nl' 1 len' C L u' cells yard ts wr title out → K nl' 1 len' u' o t) : P_L_c13 L0 xs i0 at1 count dens oh nl iw len C L u cells yard o3 at2 wr out K := by
  refine ⟨i1, ?_⟩
  generalize xs (i0 + 1).toNatClampNeg = q
  subst e
  have e0 : (0 : Int32).toInt = 0 := by decide
  have e4096 : (4096 : Int32).toInt = 4096 := by decide
  by_cases hA : at1 = 0
  · simp [P_L_text, P_F_text_o, P_F_text_t, P_F_needNotBelowZero_o, P_F_needNotBelowZero_t, P_F_needFootprint_o, P_F_needFootprint_t, P_M_text, P_M_text_11, P_M_refusal, P_M_thrown, hA, hK0, i1]
  · obtain ⟨hC, hL, ho, hc0, hc, hv, hw, hl, ht, hwr, hi⟩ := hy hA
    by_cases h1 : q < 0
    · have h1' : ¬ 0 ≤ q := by rw [y_le]; rw [y_lt] at h1; omega
      simp [P_L_text, P_F_text_o, P_F_text_t, P_F_needNotBelowZero_o, P_F_needNotBelowZero_t, P_F_needFootprint_o, P_F_needFootprint_t, P_M_text, P_M_text_11, P_M_refusal, P_M_thrown, hA, hK0, i1, h1, h1']
    · have h1' : 0 ≤ q := by rw [y_le]; rw [y_lt] at h1; omega
      have hq0 : 0 ≤ q.toInt := by rw [y_le] at h1'; omega
      refine Or.inl ⟨fun _ => ⟨fun _ => q_writeOnce (n := count.toInt.toNat) hC hL ho (by omega) (by omega) hv hw hl hi (fun nl' len' u' g1 g2 => ?_), fun h => absurd h1' h⟩, fun h => absurd h hA⟩
      have hK1 : ∀ o t, K nl' 1 len' u' o t := fun o t => hK hA nl' len' u' o t ⟨hC, hL, ho, hc0, hc, hv, hw, hl, ht, hwr, Or.inr ⟨rfl, g1, g2⟩⟩
      have hts : wr.toInt = len'.toInt := by rw [g2.1, hwr.1]
      by_cases hq : q.toInt < len'.toInt
      · have k2 : ¬ wr ≤ q := by rw [y_le]; omega
        have k3 : ¬ len' ≤ q := by rw [y_le]; omega
        have hql := g2.1
        have k4 : ¬ 4096 ≤ q := by rw [y_le]; omega
        have hval : u' q.toNatClampNeg = out q.toNatClampNeg := by
          rw [y_nat, hwr.2 _ (by omega), g2.2 _ (by omega)]
        refine ⟨fun h => absurd h h1, fun _ => ⟨fun h => absurd h k3, fun _ => ⟨fun h => absurd h k4, fun _ => ⟨y_in hq0 (by omega), fun x ex => ⟨y_v01, i1, fun h => absurd h h1, fun _ => ?_⟩⟩⟩⟩⟩
        subst ex
        have v60 : vp_in q 8000 := y_in hq0 (by omega)
        rw [hval]
        simp [P_M_text_11, P_M_refusal, P_M_thrown, hA, k2, v60, y_v01, y_updL, hK1]
      · have k1 : len' ≤ q := by rw [y_le]; omega
        have k2 : wr ≤ q := by rw [y_le]; omega
        refine ⟨fun h => absurd h h1, fun _ => ⟨fun _ x ex => ⟨y_v01, i1, fun h => absurd h h1, fun _ => ?_⟩, fun h => absurd k1 h⟩⟩
        subst ex
        simp [P_M_text_11, P_M_refusal, P_M_thrown, hA, k2, y_v01, y_updL, hK1]
theorem q_txt {fams : Int32} {fC : Nat → Int32} {fK : Nat → Nat} {fV fL : Nat → Nat → Int32} {pj : Nat} {atHand count thermal density : Int32} {outerHigh : Int64} {nameLength isWritten : Int32} {cells yard : Nat → Int64} {lineLen : Int32} {lineU : Nat → Int32} {mAt mFam mDens pads hasTh titleSize written : Int32} {paste0 : Int64} {pad court : Nat → Int64} {title out : Nat → Int32} {mn : Int32} {kinds : Nat → Int32} {values names : Nat → Int64} (hF : yFam fams mn fC fK fV fL kinds values names) (hP : yP fams fC fV fL pj atHand count thermal density outerHigh nameLength isWritten cells yard lineLen lineU mAt mFam mDens pads hasTh titleSize written paste0 pad court title out) (h : ¬ mAt = 0) : yTxt count density outerHigh nameLength isWritten lineLen (fC pj) (fL pj) lineU cells yard titleSize written title out := by
  obtain ⟨_, hp⟩ := hP
  obtain ⟨a1, a2, a3, a4, a5, a6, a7, a8, a9, a10, a11, a12, a13, a14, a15, a16, a17, a18⟩ := hp.resolve_left h
  subst a4 a7
  have hf := hF.2.2.2 pj a2
  have hT : yText (yName (fC pj) (fL pj) count.toInt outerHigh.toInt density.toInt) cells yard count.toInt.toNat = yText (yName (fC pj) (fL pj) count.toInt outerHigh.toInt density.toInt) pad court count.toInt.toNat := q_textC (fun k hk => a10 k (by omega)) a11
  refine ⟨⟨hf.2.2.2.2.2.2.2.2.2.1, hf.2.2.2.2.2.2.2.2.2.2.1⟩, hf.2.2.2.2.2.2.2.2.2.2.2.1, a16, by omega, a9, fun k hk => ?_, fun j hj => ?_, by rw [hT]; exact a15⟩
  · rw [a10 k (by omega)]
    have := a14.1 (k / 7) (by omega)
    have hk7 : k = 7 * (k / 7) + k % 7 := by omega
    have hm : k % 7 = 0 ∨ k % 7 = 1 ∨ k % 7 = 2 ∨ k % 7 = 3 ∨ k % 7 = 4 ∨ k % 7 = 5 ∨ k % 7 = 6 := by omega
    have z5 : (pad (7 * (k / 7) + 5)).toInt = 0 ∨ (pad (7 * (k / 7) + 5)).toInt = 1 := by
      rcases this.2.2.2.2.2.2.2.2.2.2.1 with h | h
      · rw [h]
        exact Or.inl (by decide)
      · rw [h]
        exact Or.inr (by decide)
    rcases hm with h | h | h | h | h | h | h <;> rw [h] at hk7 <;> rw [hk7] <;> (try rw [Nat.add_zero]) <;> omega
  · rw [a11 j hj]
    have := a18 j hj
    omega
theorem q_txtP {fams : Int32} {fC : Nat → Int32} {fV fL : Nat → Nat → Int32} {pj : Nat} {atHand count thermal density : Int32} {outerHigh : Int64} {nameLength isWritten : Int32} {cells yard : Nat → Int64} {lineLen : Int32} {lineU : Nat → Int32} {mAt mFam mDens pads hasTh titleSize written : Int32} {paste0 : Int64} {pad court : Nat → Int64} {title out : Nat → Int32} (hP : yP fams fC fV fL pj atHand count thermal density outerHigh nameLength isWritten cells yard lineLen lineU mAt mFam mDens pads hasTh titleSize written paste0 pad court title out) (h : ¬ mAt = 0) {nl' iw' len' : Int32} {u' : Nat → Int32} (ht : yTxt count density outerHigh nl' iw' len' (fC pj) (fL pj) u' cells yard titleSize written title out) : yP fams fC fV fL pj atHand count thermal density outerHigh nl' iw' cells yard len' u' mAt mFam mDens pads hasTh titleSize written paste0 pad court title out := by
  obtain ⟨h0, hp⟩ := hP
  obtain ⟨a1, a2, a3, a4, a5, a6, a7, a8, a9, a10, a11, a12, a13, a14, a15, a16, a17, a18⟩ := hp.resolve_left h
  subst a4 a7
  have hT : yText (yName (fC pj) (fL pj) count.toInt outerHigh.toInt density.toInt) cells yard count.toInt.toNat = yText (yName (fC pj) (fL pj) count.toInt outerHigh.toInt density.toInt) pad court count.toInt.toNat := q_textC (fun k hk => a10 k (by omega)) a11
  have ht := ht.2.2.2.2.2.2.2
  rw [hT] at ht
  exact ⟨h0, Or.inr ⟨a1, a2, a3, rfl, a5, a6, rfl, a8, a9, a10, a11, a12, a13, a14, ht, a16, a17, a18⟩⟩
theorem z_c5 (L0 : Nat) (xs : Nat → Int32) : zStep_c5 zInv L0 xs := by
  intro v_p1_familyCount v_p1_reader_toldKeys v_p1_reader_words_length v_p1_reader_words_start v_p1_reader_words_end v_p1_reader_words_place v_p1_reader_words_units v_p1_handMade_count v_p1_handMade_isThere v_p1_handMade_boxes v_p1_maker_rounding v_p1_maker_toe v_p1_maker_heel v_p1_maker_side v_p1_maker_pitch v_p1_maker_outer v_p1_maker_inner v_p1_maker_across v_p1_maker_hole v_p1_maker_spans_toldBits v_p1_maker_spans_exactBits v_p1_maker_spans_lows v_p1_maker_spans_highs v_p1_maker_leftOut v_p1_maker_print_atHand v_p1_maker_print_count v_p1_maker_print_thermal v_p1_maker_print_density v_p1_maker_print_outerHigh v_p1_maker_print_pasteLeft v_p1_maker_print_pasteLow v_p1_maker_print_nameLength v_p1_maker_print_isWritten v_p1_maker_print_cells v_p1_maker_print_yard v_p1_maker_print_columns_parts v_p1_maker_print_columns_size v_p1_maker_print_columns_ahead v_p1_maker_print_columns_gap v_p1_maker_print_rows_parts v_p1_maker_print_rows_size v_p1_maker_print_rows_ahead v_p1_maker_print_rows_gap v_p1_maker_print_line_length v_p1_maker_print_line_units v_p2_thrown v_p2_size v_p2_families v_p2_atHand v_p2_family v_p2_density v_p2_pads v_p2_hasThermal v_p2_titleSize v_p2_written v_p2_at v_p2_begin v_p2_words v_p2_paste0 v_p2_units v_p2_kinds v_p2_values v_p2_names v_p2_low v_p2_high v_p2_told v_p2_leftOut v_p2_isMade v_p2_hands v_p2_pad v_p2_court v_p2_title v_p2_out v_p3 fC fK fV fL pj i0 hpj hI hin
  obtain ⟨hW, hF, hSp, hL, hH, hP⟩ := hI
  exact yc5 hin.2.1 hP.1 (fun h => q_txt hF hP h) (fun _ _ => ⟨hW, hF, hSp, hL, hH, hP⟩) (fun h _ _ _ _ _ ht => ⟨hW, hF, hSp, hL, hH, q_txtP hP h ht⟩)
theorem z_c13 (L0 : Nat) (xs : Nat → Int32) : zStep_c13 zInv L0 xs := by
  intro v_p1_familyCount v_p1_reader_toldKeys v_p1_reader_words_length v_p1_reader_words_start v_p1_reader_words_end v_p1_reader_words_place v_p1_reader_words_units v_p1_handMade_count v_p1_handMade_isThere v_p1_handMade_boxes v_p1_maker_rounding v_p1_maker_toe v_p1_maker_heel v_p1_maker_side v_p1_maker_pitch v_p1_maker_outer v_p1_maker_inner v_p1_maker_across v_p1_maker_hole v_p1_maker_spans_toldBits v_p1_maker_spans_exactBits v_p1_maker_spans_lows v_p1_maker_spans_highs v_p1_maker_leftOut v_p1_maker_print_atHand v_p1_maker_print_count v_p1_maker_print_thermal v_p1_maker_print_density v_p1_maker_print_outerHigh v_p1_maker_print_pasteLeft v_p1_maker_print_pasteLow v_p1_maker_print_nameLength v_p1_maker_print_isWritten v_p1_maker_print_cells v_p1_maker_print_yard v_p1_maker_print_columns_parts v_p1_maker_print_columns_size v_p1_maker_print_columns_ahead v_p1_maker_print_columns_gap v_p1_maker_print_rows_parts v_p1_maker_print_rows_size v_p1_maker_print_rows_ahead v_p1_maker_print_rows_gap v_p1_maker_print_line_length v_p1_maker_print_line_units v_p2_thrown v_p2_size v_p2_families v_p2_atHand v_p2_family v_p2_density v_p2_pads v_p2_hasThermal v_p2_titleSize v_p2_written v_p2_at v_p2_begin v_p2_words v_p2_paste0 v_p2_units v_p2_kinds v_p2_values v_p2_names v_p2_low v_p2_high v_p2_told v_p2_leftOut v_p2_isMade v_p2_hands v_p2_pad v_p2_court v_p2_title v_p2_out v_p3 fC fK fV fL pj i0 hpj hI hin
  obtain ⟨hW, hF, hSp, hL, hH, hP⟩ := hI
  exact yc13 hin.2.1 hP.1 (fun h => q_txt hF hP h) (fun _ _ => ⟨hW, hF, hSp, hL, hH, hP⟩) (fun h _ _ _ _ _ ht => ⟨hW, hF, hSp, hL, hH, q_txtP hP h ht⟩)
