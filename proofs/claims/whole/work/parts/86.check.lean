theorem y_32 {a : Int64} (h1 : -2147483648 ≤ a.toInt) (h2 : a.toInt < 2147483648) : a.toInt32.toInt = a.toInt := by
  rw [Int64.toInt_toInt32, Int.bmod_eq_of_le (by omega) (by omega)]
theorem q_cell {p1 p2 : Int32} {cells : Nat → Int64} {post : Int64 → Prop} {k j : Nat} (h1 : p1.toInt = k) (hk : k < 65) (h2 : p2.toInt = j) (hj : j < 7) (h : post (cells (7 * k + j))) : P_Fp_cell p1 p2 cells post := by
  have e0 : (0 : Int32).toInt = 0 := by decide
  have e7 : (7 : Int32).toInt = 7 := by decide
  have e65 : (65 : Int32).toInt = 65 := by decide
  have g1 : ¬ p1 < 0 := by rw [y_lt]; omega
  have g2 : ¬ 65 ≤ p1 := by rw [y_le]; omega
  have g3 : ¬ p2 < 0 := by rw [y_lt]; omega
  have g4 : p2 < 7 := by rw [y_lt]; omega
  have hx : (p1 * 7).toInt = p1.toInt * 7 := by rw [y_mul (by rw [e7]; omega) (by rw [e7]; omega), e7]
  have hy : (p1 * 7 + p2).toInt = 7 * k + j := by rw [y_add (by omega) (by omega), hx]; omega
  have hv : vp_in (p1 * 7 + p2) 455 := y_in (by omega) (by omega)
  have hn : (p1 * 7 + p2).toNatClampNeg = 7 * k + j := by rw [y_nat]; omega
  simp [P_Fp_cell, g1, g2, g3, g4, hv, hn, h]
theorem q_isSame15 {p1 p3 : Int32} {bx cells : Nat → Int64} {post : Int32 → Prop} {k h : Nat} (h1 : p1.toInt = h) (hh : h ≤ 80) (h3 : p3.toInt = k) (hk : k < 65) : ∀ (d : Nat) (y : Int32), 0 ≤ y.toInt → y.toInt + d = 4 → ((∀ i : Nat, i < 4 → y.toInt ≤ i → bx (4 * h + i) = cells (7 * k + 1 + i)) → post 1) → ((∃ i : Nat, i < 4 ∧ ¬ bx (4 * h + i) = cells (7 * k + 1 + i)) → post 0) → P_Hm_isSame_15 p1 p3 bx cells post (d + 1) y := by
  have e4 : (4 : Int32).toInt = 4 := by decide
  have e1 : (1 : Int32).toInt = 1 := by decide
  intro d
  induction d with
  | zero =>
    intro y h0 hd hA hB
    refine ⟨fun _ => hA (fun i hi hy => by omega), fun hn => ?_⟩
    rw [y_le] at hn
    omega
  | succ d ih =>
    intro y h0 hd hA hB
    have hx : (p1 * 4).toInt = p1.toInt * 4 := by rw [y_mul (by rw [e4]; omega) (by rw [e4]; omega), e4]
    have hy : (p1 * 4 + y).toInt = 4 * h + y.toInt.toNat := by rw [y_add (by omega) (by omega), hx]; omega
    have hv : vp_in (p1 * 4 + y) 324 := y_in (by omega) (by omega)
    have hn : (p1 * 4 + y).toNatClampNeg = 4 * h + y.toInt.toNat := by rw [y_nat]; omega
    have hz : (1 + y).toInt = (1 + y.toInt.toNat : Nat) := by rw [y_add (by omega) (by omega), e1]; omega
    refine ⟨fun hn => ?_, fun _ => ⟨hv, q_cell h3 hk hz (by omega) ⟨fun he x ex => ?_, fun hne => ?_⟩⟩⟩
    · rw [y_le] at hn
      omega
    · subst ex
      have es := q_inc (y := y) (n := 4) (by omega) (by omega) (by omega)
      refine ih (y + 1) (by omega) (by omega) (fun hall => hA (fun i hi hyi => ?_)) hB
      by_cases e : (i : Int) = y.toInt
      · have e' : y.toInt.toNat = i := by omega
        rw [hn, e'] at he
        rw [he]
        congr 1
        omega
      · exact hall i hi (by omega)
    · refine hB ⟨y.toInt.toNat, by omega, fun he => hne ?_⟩
      rw [hn, he]
      congr 1
      omega
theorem q_isSame {p1 p3 : Int32} {bx cells : Nat → Int64} {post : Int32 → Prop} {k h : Nat} (h1 : p1.toInt = h) (hh : h ≤ 80) (h3 : p3.toInt = k) (hk : k < 65) (hA : (∀ i : Nat, i < 4 → bx (4 * h + i) = cells (7 * k + 1 + i)) → post 1) (hB : ¬ (∀ i : Nat, i < 4 → bx (4 * h + i) = cells (7 * k + 1 + i)) → post 0) : P_Hm_isSame p1 p3 bx cells post := by
  have e0 : (0 : Int32).toInt = 0 := by decide
  have e80 : (80 : Int32).toInt = 80 := by decide
  have g1 : ¬ p1 < 0 := by rw [y_lt]; omega
  have g2 : p1 ≤ 80 := by rw [y_le]; omega
  refine ⟨fun h => absurd h g1, fun _ => ⟨fun _ => ⟨5, q_isSame15 h1 hh h3 hk 4 0 (by decide) (by decide) (fun h => hA (fun i hi => h i hi (by rw [e0]; omega))) (fun ⟨i, hi, hne⟩ => hB (fun hall => hne (hall i hi)))⟩, fun h => absurd g2 h⟩⟩
/-- is pad k the same as hand-made h -/
def ySame (pad hd : Nat → Int64) (k h : Nat) : Prop := ∀ i : Nat, i < 4 → pad (7 * k + 1 + i) = hd (4 * h - 4 + i)
def yNo (pad : Nat → Int64) (k : Nat) : Nat := (pad (7 * k)).toInt.toNat
noncomputable def yOne (p : Prop) : Int32 := @ite Int32 p (Classical.propDecidable p) 0 1
theorem yOne_t {p : Prop} (h : p) : yOne p = 0 := if_pos h
theorem yOne_f {p : Prop} (h : ¬ p) : yOne p = 1 := if_neg h
noncomputable def yDif (isM : Nat → Int32) (pad hd : Nat → Int64) : Nat → (Nat → Int32)
  | 0 => isM
  | m + 1 => upd (yDif isM pad hd m) (yNo pad m) (yOne (isM (yNo pad m) = 1 ∧ ySame pad hd m (yNo pad m)))
theorem q_dif0 {isM : Nat → Int32} {pad hd : Nat → Int64} {h : Nat} : ∀ m : Nat, (∀ k : Nat, k < m → yNo pad k ≠ h) → yDif isM pad hd m h = isM h := by
  intro m
  induction m with
  | zero => intro _; rfl
  | succ m ih =>
    intro hm
    rw [yDif, y_upd, if_neg (fun e => hm m (by omega) e.symm)]
    exact ih (fun k hk => hm k (by omega))
theorem q_dif1 {isM : Nat → Int32} {pad hd : Nat → Int64} {k : Nat} : ∀ m : Nat, k < m → (∀ k' : Nat, k' < m → yNo pad k' = yNo pad k → k' = k) → yDif isM pad hd m (yNo pad k) = yOne (isM (yNo pad k) = 1 ∧ ySame pad hd k (yNo pad k)) := by
  intro m
  induction m with
  | zero => intro h; omega
  | succ m ih =>
    intro hk hm
    rw [yDif, y_upd]
    by_cases e : k = m
    · rw [if_pos (by rw [e]), e]
    · rw [if_neg (fun e2 => e (hm m (by omega) e2.symm).symm)]
      exact ih (by omega) (fun k' h1 h2 => hm k' (by omega) h2)
/-- numbers of pads are distinct and small -/
def yNos (pad : Nat → Int64) (n : Nat) : Prop := n ≤ 65 ∧ (∀ k : Nat, k < n → (pad (7 * k)).toInt = yNo pad k ∧ 1 ≤ yNo pad k ∧ yNo pad k ≤ 65) ∧ ∀ k k' : Nat, k < n → k' < n → yNo pad k' = yNo pad k → k' = k
theorem q_nos {pad : Nat → Int64} {n : Int} (h : yPads pad n) (hn : n ≤ 65) : yNos pad n.toNat := by
  obtain ⟨h1, h2⟩ := h
  refine ⟨by omega, fun k hk => ?_, fun k k' hk hk' he => ?_⟩
  · have := h1 k (by omega)
    unfold yNo
    omega
  · have g1 := h1 k (by omega)
    have g2 := h1 k' (by omega)
    refine h2 k' k (by omega) (by omega) ?_
    rw [y_eq6]
    unfold yNo at he
    omega
theorem q_Hm_diff {count cnt : Int32} {cells bx pad hd : Nat → Int64} {isT isM : Nat → Int32} {post : Int32 → Prop} {n : Nat} (hn : count.toInt = n) (hN : yNos pad n) (hc : ∀ k : Nat, k < 7 * n → cells k = pad k) (hH : yH cnt isT bx isM hd) (hpost : ∀ r : Int32, r.toInt = yCnt (yDif isM pad hd n) 80 → post r) : ∀ (d : Nat) (y2 y3 y4 : Int32), 0 ≤ y4.toInt → y4.toInt + d = n → 0 ≤ y2.toInt → y2.toInt ≤ y4.toInt → 0 ≤ y3.toInt → y3.toInt ≤ y4.toInt → y2.toInt + cnt.toInt - y3.toInt = yCnt (yDif isM pad hd y4.toInt.toNat) 80 → P_Hm_differences_7 count cnt cells isT bx post (d + 1) y2 y3 y4 := by
  have e0 : (0 : Int32).toInt = 0 := by decide
  have e1 : (1 : Int32).toInt = 1 := by decide
  have f1 : (1 : Int64).toInt = 1 := by decide
  have f80 : (80 : Int64).toInt = 80 := by decide
  obtain ⟨hn65, hN1, hN2⟩ := hN
  have hcr := q_cntR 80 (fun k h1 h2 => (hH.2 k h1 h2).2.1)
  intro d
  induction d with
  | zero =>
    intro y2 y3 y4 h0 hdd a1 a2 b1 b2 hs
    refine ⟨fun _ => hpost _ ?_, fun h => ?_⟩
    · have ha : (y2 + cnt).toInt = y2.toInt + cnt.toInt := y_add (by rw [hH.1]; omega) (by rw [hH.1]; omega)
      rw [y_sub (by rw [ha, hH.1]; omega) (by rw [ha, hH.1]; omega), ha, hs]
      congr 2
      omega
    · rw [y_le] at h
      omega
  | succ d ih =>
    intro y2 y3 y4 h0 hdd a1 a2 b1 b2 hs
    refine ⟨fun h => ?_, fun _ => q_cell (k := y4.toInt.toNat) (j := 0) (by omega) (by omega) e0 (by omega) ?_⟩
    · rw [y_le] at h
      omega
    rw [hc _ (by omega)]
    show _ ∧ _
    generalize hk : y4.toInt.toNat = k at *
    obtain ⟨g1, g2, g3⟩ := hN1 k (by omega)
    have es := q_inc (y := y4) (n := n) (by omega) (by omega) (by omega)
    have hk1 : (y4 + 1).toInt.toNat = k + 1 := by omega
    have hr1 : ¬ pad (7 * k + 0) < 1 := by rw [y_lt6]; simp only [Nat.add_zero]; omega
    have hr2 : ¬ 80 < pad (7 * k + 0) := by rw [y_lt6]; simp only [Nat.add_zero]; omega
    have hi : (pad (7 * k + 0)).toInt32.toInt = yNo pad k := by
      simp only [Nat.add_zero]
      rw [y_32 (by omega) (by omega), g1]
    have hv : vp_in (pad (7 * k + 0)).toInt32 81 := y_in (by omega) (by omega)
    have hin : (pad (7 * k + 0)).toInt32.toNatClampNeg = yNo pad k := by rw [y_nat]; omega
    obtain ⟨hT, hM, hB⟩ := hH.2 (yNo pad k) g2 (by omega)
    have hd0 : yDif isM pad hd k (yNo pad k) = isM (yNo pad k) := q_dif0 k (fun k' hk' he => by have := hN2 k k' (by omega) (by omega) he; omega)
    have hstep : yCnt (yDif isM pad hd (k + 1)) 80 = yCnt (yDif isM pad hd k) 80 + ((yOne (isM (yNo pad k) = 1 ∧ ySame pad hd k (yNo pad k))).toInt - (isM (yNo pad k)).toInt) := by
      rw [yDif, q_cntU g2, if_pos (by omega), hd0]
    refine ⟨fun h => absurd h hr1, fun _ => ⟨fun h => absurd h hr2, fun _ => ⟨hv, ?_⟩⟩⟩
    rw [hin, hT]
    have hy2 : (y2 + 1).toInt = y2.toInt + 1 := q_inc (n := n) (by omega) (by omega) (by omega)
    have hy3 : (y3 + 1).toInt = y3.toInt + 1 := q_inc (n := n) (by omega) (by omega) (by omega)
    rcases hM with hM | hM
    · refine ⟨fun _ => ⟨fun _ => ⟨fun _ x1 ex1 x2 ex2 => ?_, fun h => absurd rfl h⟩, fun h => absurd rfl h⟩, fun h => absurd hM h⟩
      subst ex1 ex2
      refine ih (y2 + 1) y3 (y4 + 1) (by omega) (by omega) (by omega) (by omega) (by omega) (by omega) ?_
      rw [hk1, hstep, ← hs, hM, yOne_f (fun h => absurd h.1 (by decide)), hy2, e1, e0]
      omega
    · refine ⟨fun h => absurd (hM.symm.trans h) (by decide), fun _ => ⟨fun h => absurd h (by decide), fun _ x ex => ⟨fun h => absurd h (by decide), fun _ => ?_⟩⟩⟩
      subst ex
      have hsame : (∀ i : Nat, i < 4 → bx (4 * yNo pad k + i) = cells (7 * k + 1 + i)) ↔ ySame pad hd k (yNo pad k) := by
        constructor
        · intro h i hi
          have := h i hi
          rw [hB hM i hi, hc _ (by omega)] at this
          exact this.symm
        · intro h i hi
          rw [hB hM i hi, hc _ (by omega)]
          exact (h i hi).symm
      refine q_isSame (k := k) (h := yNo pad k) hi (by omega) (by omega) (by omega) (fun h => ⟨fun _ x1 ex1 => ?_, fun h => absurd h (by decide)⟩) (fun h => ⟨fun h => absurd rfl h, fun _ x1 ex1 x2 ex2 => ?_⟩)
      · subst ex1
        refine ih y2 (y3 + 1) (y4 + 1) (by omega) (by omega) (by omega) (by omega) (by omega) (by omega) ?_
        rw [hk1, hstep, ← hs, hM, yOne_t ⟨rfl, hsame.1 h⟩, hy3, e1, e0]
        omega
      · subst ex1 ex2
        refine ih (y2 + 1) (y3 + 1) (y4 + 1) (by omega) (by omega) (by omega) (by omega) (by omega) (by omega) ?_
        rw [hk1, hstep, ← hs, hM, yOne_f (fun hh => h (hsame.2 hh.2)), hy2, hy3, e1]
        omega
theorem q_M_same {isM : Nat → Int32} {pad hd : Nat → Int64} {post : Int32 → Int32 → Prop} {K22 : Int32 → Int32 → Int32 → Prop} {y2 y3 : Int32} {k h : Nat} (h2 : y2.toInt = h) (hh1 : 1 ≤ h) (hh : h ≤ 80) (h3 : y3.toInt = k) (hk : k < 65) {t : Int32} {y1 : Int32} (hA : ySame pad hd k h → K22 y1 (y2 + 1) t) (hB : ¬ ySame pad hd k h → K22 (y1 + 1) (y2 + 1) t) : ∀ (d : Nat) (y5 : Int32), 0 ≤ y5.toInt → y5.toInt + d = 4 → (∀ i : Nat, (i : Int) < y5.toInt → pad (7 * k + 1 + i) = hd (4 * h - 4 + i)) → P_M_check_95 isM pad hd post K22 (d + 1) y1 y2 y3 1 y5 t := by
  have e4 : (4 : Int32).toInt = 4 := by decide
  have e1 : (1 : Int32).toInt = 1 := by decide
  have e7 : (7 : Int32).toInt = 7 := by decide
  have hm : ¬ y3 = -1 := by
    rw [y_eq, (by decide : (-1 : Int32).toInt = -1)]
    omega
  have hx : (7 * y3).toInt = 7 * y3.toInt := by rw [y_mul (by rw [e7]; omega) (by rw [e7]; omega), e7]
  have hx1 : (7 * y3 + 1).toInt = 7 * y3.toInt + 1 := by rw [y_add (by omega) (by omega), hx, e1]
  have hy : (4 * y2).toInt = 4 * y2.toInt := by rw [y_mul (by rw [e4]; omega) (by rw [e4]; omega), e4]
  have hy1 : (4 * y2 - 4).toInt = 4 * y2.toInt - 4 := by rw [y_sub (by omega) (by omega), hy, e4]
  have ha0 : y1 + 0 = y1 := by simp
  intro d
  induction d with
  | zero =>
    intro y5 h0 hdd hs
    refine ⟨fun _ => ⟨fun _ => ⟨fun _ x ex x2 ex2 => ?_, fun h => absurd h (by decide)⟩, fun h => absurd h hm⟩, fun h => ?_⟩
    · subst ex ex2
      rw [ha0]
      exact hA (fun i hi => hs i (by omega))
    · rw [y_le] at h
      omega
  | succ d ih =>
    intro y5 h0 hdd hs
    have ex5 : (7 * y3 + 1 + y5).toInt = 7 * k + 1 + y5.toInt.toNat := by rw [y_add (by omega) (by omega), hx1]; omega
    have ey5 : (4 * y2 - 4 + y5).toInt = 4 * h - 4 + y5.toInt.toNat := by rw [y_add (by omega) (by omega), hy1]; omega
    have nx5 : (7 * y3 + 1 + y5).toNatClampNeg = 7 * k + 1 + y5.toInt.toNat := by rw [y_nat]; omega
    have ny5 : (4 * y2 - 4 + y5).toNatClampNeg = 4 * h - 4 + y5.toInt.toNat := by rw [y_nat]; omega
    have es := q_inc (y := y5) (n := 4) (by omega) (by omega) (by omega)
    refine ⟨fun h => ?_, fun _ => ⟨fun h => absurd h (by decide), fun _ => ⟨y_in (by omega) (by omega), y_in (by omega) (by omega), ?_⟩⟩⟩
    · rw [y_le] at h
      omega
    rw [nx5, ny5]
    refine ⟨fun hne x ex => ?_, fun he x ex => ?_⟩
    · subst ex
      have hno : K22 (y1 + 1) (y2 + 1) t := hB (fun hall => hne (hall _ (by omega)))
      have h150 : P_M_check_150 isM post K22 y1 y2 y3 0 t := by
        refine ⟨fun _ => ⟨fun h => absurd rfl h, fun _ x ex x2 ex2 => ?_⟩, fun h => absurd h hm⟩
        subst ex ex2
        exact hno
      exact ⟨fun _ => h150, fun _ => ⟨fun _ => h150, fun h => absurd rfl h⟩⟩
    · subst ex
      refine ih (y5 + 1) (by omega) (by omega) (fun i hi => ?_)
      by_cases e : (i : Int) = y5.toInt
      · have e' : i = y5.toInt.toNat := by omega
        rw [e']
        exact he
      · exact hs i (by omega)
theorem q_M_found {pads : Int32} {isM : Nat → Int32} {pad hd : Nat → Int64} {post : Int32 → Int32 → Prop} {K22 : Int32 → Int32 → Int32 → Prop} {y1 y2 t : Int32} {n h : Nat} (hn : pads.toInt = n) (hN : yNos pad n) (h2 : y2.toInt = h) (hh1 : 1 ≤ h) (hh : h ≤ 80) (hM : isM h = 0 ∨ isM h = 1) (hy1 : 0 ≤ y1.toInt ∧ y1.toInt ≤ 1000) (hK : ∀ x : Int32, x.toInt = y1.toInt + (yDif isM pad hd n h).toInt → K22 x (y2 + 1) t) : ∀ (d : Nat) (y3 y4 : Int32), 0 ≤ y4.toInt → y4.toInt + d = n → (y3.toInt = -1 ∧ (∀ k : Nat, (k : Int) < y4.toInt → yNo pad k ≠ h) ∨ ∃ k : Nat, y3.toInt = k ∧ (k : Int) < y4.toInt ∧ yNo pad k = h) → P_M_check_33 pads isM pad hd post K22 (d + 1) y1 y2 y3 y4 t := by
  have e0 : (0 : Int32).toInt = 0 := by decide
  have e1 : (1 : Int32).toInt = 1 := by decide
  have e7 : (7 : Int32).toInt = 7 := by decide
  have em : (-1 : Int32).toInt = -1 := by decide
  obtain ⟨hn65, hN1, hN2⟩ := hN
  have hv2 : vp_in y2 81 := y_in (by omega) (by omega)
  have hn2 : y2.toNatClampNeg = h := by rw [y_nat]; omega
  have ha0 : y1 + 0 = y1 := by simp
  have hy11 : (y1 + 1).toInt = y1.toInt + 1 := q_inc (n := 1001) (by omega) (by omega) (by omega)
  intro d
  induction d with
  | zero =>
    intro y3 y4 h0 hdd hs
    refine ⟨fun _ => ?_, fun h => ?_⟩
    rcases hs with ⟨hs1, hs2⟩ | ⟨k, hs1, hs2, hs3⟩
    · have e3 : y3 = -1 := by rw [y_eq, em, hs1]
      have hdf : yDif isM pad hd n h = isM h := q_dif0 n (fun k hk => hs2 k (by omega))
      rw [hdf] at hK
      refine ⟨fun _ => ⟨1, ?_⟩, fun h => absurd e3 h⟩
      have h150 : P_M_check_150 isM post K22 y1 y2 y3 0 t := by
        refine ⟨fun h => absurd e3 h, fun _ => ⟨hv2, ?_⟩⟩
        rw [hn2]
        refine ⟨fun hz x ex x2 ex2 => ?_, fun hz => ⟨fun h => absurd rfl h, fun _ x ex x2 ex2 => ?_⟩⟩
        · subst ex ex2
          rw [ha0]
          exact hK _ (by rw [hz, e0]; omega)
        · subst ex ex2
          exact hK _ (by rw [hM.resolve_left hz, e1, hy11])
      exact ⟨fun _ => h150, fun _ => ⟨fun _ => h150, fun h => absurd rfl h⟩⟩
    · have e3 : ¬ y3 = -1 := by rw [y_eq, em]; omega
      have hdf := q_dif1 (isM := isM) (hd := hd) n (by omega) (fun k' h1 h2 => hN2 k k' (by omega) h1 h2)
      rw [hs3] at hdf
      rw [hdf] at hK
      refine ⟨fun h => absurd h e3, fun _ => ⟨hv2, ?_⟩⟩
      rw [hn2]
      refine ⟨fun hz => ⟨1, ?_⟩, fun hz => ⟨5, q_M_same h2 hh1 hh hs1 (by omega) (fun h => ?_) (fun h => ?_) 4 0 (by decide) (by decide) (fun i hi => by rw [e0] at hi; omega)⟩⟩
      · have h150 : P_M_check_150 isM post K22 y1 y2 y3 0 t := by
          refine ⟨fun _ => ⟨fun h => absurd rfl h, fun _ x ex x2 ex2 => ?_⟩, fun h => absurd h e3⟩
          subst ex ex2
          refine hK _ ?_
          rw [yOne_f (fun h => absurd (hz.symm.trans h.1) (by decide)), hy11, e1]
        exact ⟨fun _ => h150, fun _ => ⟨fun _ => h150, fun h => absurd rfl h⟩⟩
      · refine hK _ ?_
        rw [yOne_t ⟨hM.resolve_left hz, h⟩, e0]
        omega
      · refine hK _ ?_
        rw [yOne_f (fun hh => h hh.2), hy11, e1]
    · rw [y_le] at h
      omega
  | succ d ih =>
    intro y3 y4 h0 hdd hs
    have hx : (7 * y4).toInt = 7 * y4.toInt := by rw [y_mul (by rw [e7]; omega) (by rw [e7]; omega), e7]
    have hxn : (7 * y4).toNatClampNeg = 7 * y4.toInt.toNat := by rw [y_nat]; omega
    have es := q_inc (y := y4) (n := n) (by omega) (by omega) (by omega)
    have hg := hN1 y4.toInt.toNat (by omega)
    refine ⟨fun h => ?_, fun _ => ⟨y_in (by omega) (by omega), ?_⟩⟩
    · rw [y_le] at h
      omega
    rw [hxn, y_eq6, y_64, hg.1, h2]
    refine ⟨fun hne x ex => ?_, fun he x ex => ?_⟩
    · subst ex
      refine ih y3 (y4 + 1) (by omega) (by omega) ?_
      rcases hs with ⟨hs1, hs2⟩ | ⟨k, hs1, hs2, hs3⟩
      · refine Or.inl ⟨hs1, fun k hk he => ?_⟩
        by_cases e : (k : Int) = y4.toInt
        · have e' : y4.toInt.toNat = k := by omega
          rw [e'] at hne
          omega
        · exact hs2 k (by omega) he
      · exact Or.inr ⟨k, hs1, by omega, hs3⟩
    · subst ex
      refine ih y4 (y4 + 1) (by omega) (by omega) (Or.inr ⟨y4.toInt.toNat, by omega, by omega, by omega⟩)
theorem q_M_check {pads : Int32} {isM : Nat → Int32} {pad hd : Nat → Int64} {post : Int32 → Int32 → Prop} {t : Int32} {n : Nat} (hn : pads.toInt = n) (hN : yNos pad n) (hM : ∀ k : Nat, 1 ≤ k → k ≤ 80 → isM k = 0 ∨ isM k = 1) (hD : ∀ k : Nat, 1 ≤ k → k ≤ 80 → yDif isM pad hd n k = 0 ∨ yDif isM pad hd n k = 1) (hpost : ∀ r : Int32, r.toInt = yCnt (yDif isM pad hd n) 80 → post r t) : ∀ (d : Nat) (y1 y2 : Int32) (m : Nat), y2.toInt = m + 1 → m + d = 80 → y1.toInt = yCnt (yDif isM pad hd n) m → P_M_check_22 pads isM pad hd post (d + 1) y1 y2 t := by
  have e80 : (80 : Int32).toInt = 80 := by decide
  intro d
  induction d with
  | zero =>
    intro y1 y2 m h1 h2 h3
    have hm : m = 80 := by omega
    subst hm
    refine ⟨fun _ => hpost _ h3, fun h => ?_⟩
    rw [y_lt] at h
    omega
  | succ d ih =>
    intro y1 y2 m h1 h2 h3
    have hcr := q_cntR (m := yDif isM pad hd n) m (fun k g1 g2 => hD k g1 (by omega))
    have es := q_inc (y := y2) (n := 81) (by omega) (by omega) (by omega)
    refine ⟨fun h => ?_, fun _ => ⟨n + 1, q_M_found (h := m + 1) hn hN (by omega) (by omega) (by omega) (hM _ (by omega) (by omega)) (by omega) (fun x hx => ?_) n (-1) 0 (by decide) (by rw [(by decide : (0 : Int32).toInt = 0)]; omega) (Or.inl ⟨by decide, fun k hk => by rw [(by decide : (0 : Int32).toInt = 0)] at hk; omega⟩)⟩⟩
    · rw [y_lt] at h
      omega
    · refine ih x (y2 + 1) (m + 1) (by omega) (by omega) ?_
      rw [hx, h3]
      rfl
theorem q_difR {isM : Nat → Int32} {pad hd : Nat → Int64} (hM : ∀ k : Nat, 1 ≤ k → k ≤ 80 → isM k = 0 ∨ isM k = 1) : ∀ m k : Nat, 1 ≤ k → k ≤ 80 → yDif isM pad hd m k = 0 ∨ yDif isM pad hd m k = 1 := by
  intro m
  induction m with
  | zero => exact hM
  | succ m ih =>
    intro k h1 h2
    rw [yDif, y_upd]
    by_cases e : k = yNo pad m
    · rw [if_pos e]
      by_cases hp : isM (yNo pad m) = 1 ∧ ySame pad hd m (yNo pad m)
      · exact Or.inl (yOne_t hp)
      · exact Or.inr (yOne_f hp)
    · rw [if_neg e]
      exact ih k h1 h2
theorem yc11 {at1 count cnt at2 pads : Int32} {cells bx pad hd out : Nat → Int64} {isT isM : Nat → Int32} {K : (Nat → Int64) → Int32 → Prop} (e : at1 = at2) (hH : yH cnt isT bx isM hd) (hy : ¬ at2 = 0 → count = pads ∧ 1 ≤ pads.toInt ∧ pads.toInt ≤ 65 ∧ (∀ k : Nat, (k : Int) < 7 * pads.toInt → cells k = pad k) ∧ yPads pad pads.toInt) (hK : ∀ u t, K u t) : P_L_c11 at1 count cnt cells isT bx out at2 pads isM pad hd K := by
  subst e
  have e0 : (0 : Int32).toInt = 0 := by decide
  by_cases hA : at1 = 0
  · simp [P_L_c11, P_L_check, P_F_check_o, P_F_check_t, P_F_needFootprint_o, P_F_needFootprint_t, P_M_check, P_M_refusal, P_M_thrown, hA, hK]
  · obtain ⟨hc, hp1, hp2, hcells, hpads⟩ := hy hA
    subst hc
    have hN := q_nos hpads hp2
    have hM : ∀ k : Nat, 1 ≤ k → k ≤ 80 → isM k = 0 ∨ isM k = 1 := fun k h1 h2 => (hH.2 k h1 h2).2.1
    refine Or.inl ⟨fun _ => ⟨count.toInt.toNat + 1, q_Hm_diff (n := count.toInt.toNat) (by omega) hN (fun k hk => hcells k (by omega)) hH (fun r hr x ex => ?_) count.toInt.toNat 0 0 0 (by decide) (by rw [e0]; omega) (by decide) (by decide) (by decide) (by decide) (by rw [e0, hH.1]; simp; rfl)⟩, fun h => absurd h hA⟩
    subst ex
    refine ⟨y_v01, ?_⟩
    refine ⟨fun _ => ⟨fun h => absurd h (by decide), fun _ => ⟨fun _ => ⟨81, q_M_check (n := count.toInt.toNat) (by omega) hN hM (q_difR hM _) (fun r2 hr2 => ?_) 80 0 1 0 (by decide) (by omega) rfl⟩, fun h => absurd rfl h⟩⟩, fun h => absurd h hA⟩
    have er : r = r2 := by rw [y_eq, hr, hr2]
    subst er
    simp [P_M_thrown, hK, y_v01, y_updL]
theorem z_c11 (L0 : Nat) (xs : Nat → Int32) : zStep_c11 zInv L0 xs := by
  intro v_p1_familyCount v_p1_reader_toldKeys v_p1_reader_words_length v_p1_reader_words_start v_p1_reader_words_end v_p1_reader_words_place v_p1_reader_words_units v_p1_handMade_count v_p1_handMade_isThere v_p1_handMade_boxes v_p1_maker_rounding v_p1_maker_toe v_p1_maker_heel v_p1_maker_side v_p1_maker_pitch v_p1_maker_outer v_p1_maker_inner v_p1_maker_across v_p1_maker_hole v_p1_maker_spans_toldBits v_p1_maker_spans_exactBits v_p1_maker_spans_lows v_p1_maker_spans_highs v_p1_maker_leftOut v_p1_maker_print_atHand v_p1_maker_print_count v_p1_maker_print_thermal v_p1_maker_print_density v_p1_maker_print_outerHigh v_p1_maker_print_pasteLeft v_p1_maker_print_pasteLow v_p1_maker_print_nameLength v_p1_maker_print_isWritten v_p1_maker_print_cells v_p1_maker_print_yard v_p1_maker_print_columns_parts v_p1_maker_print_columns_size v_p1_maker_print_columns_ahead v_p1_maker_print_columns_gap v_p1_maker_print_rows_parts v_p1_maker_print_rows_size v_p1_maker_print_rows_ahead v_p1_maker_print_rows_gap v_p1_maker_print_line_length v_p1_maker_print_line_units v_p2_thrown v_p2_size v_p2_families v_p2_atHand v_p2_family v_p2_density v_p2_pads v_p2_hasThermal v_p2_titleSize v_p2_written v_p2_at v_p2_begin v_p2_words v_p2_paste0 v_p2_units v_p2_kinds v_p2_values v_p2_names v_p2_low v_p2_high v_p2_told v_p2_leftOut v_p2_isMade v_p2_hands v_p2_pad v_p2_court v_p2_title v_p2_out v_p3 fC fK fV fL pj i0 hpj hI hin
  obtain ⟨hW, hF, hSp, hL, hH, hP⟩ := hI
  exact yc11 hP.1 hH (fun h => by
    have h := hP.2.resolve_left h
    exact ⟨h.2.2.2.2.2.2.1, h.2.2.2.2.2.2.2.1, h.2.2.2.2.2.2.2.2.1, h.2.2.2.2.2.2.2.2.2.1, h.2.2.2.2.2.2.2.2.2.2.2.2.2.1⟩) (fun _ _ => ⟨hW, hF, hSp, hL, hH, hP⟩)
