theorem q_middle {i n p : Int64} (hi : 0 ≤ i.toInt ∧ i.toInt ≤ 1000000000) (hn : 0 ≤ n.toInt ∧ n.toInt ≤ 1000000) (hp : 0 ≤ p.toInt ∧ p.toInt ≤ 100000000) (h2 : p.toInt % 2 = 0) : (2 * i - (n - 1)) * (p / 2) = i * p - ((n - 1) * p) / 2 := by
  have f1 : (1 : Int64).toInt = 1 := by decide
  have f2 : (2 : Int64).toInt = 2 := by decide
  have a1 : (2 * i).toInt = 2 * i.toInt := by rw [y_mul6 (by rw [f2]; omega) (by rw [f2]; omega), f2]
  have a2 : (n - 1).toInt = n.toInt - 1 := by rw [y_sub6 (by omega) (by omega), f1]
  have a3 : (2 * i - (n - 1)).toInt = 2 * i.toInt - (n.toInt - 1) := by rw [y_sub6 (by omega) (by omega), a1, a2]
  obtain ⟨m, hm⟩ : ∃ m : Int, p.toInt = 2 * m := ⟨p.toInt / 2, by omega⟩
  have a4 : (p / 2).toInt = m := by
    rw [y_div6 (by omega), f2, hm, Int.mul_tdiv_cancel_left _ (by decide)]
  have b1 := q_mulb (a := 2 * i.toInt - (n.toInt - 1)) (b := m) (A := 3000000000) (B := 100000000) (by omega) (by omega) (by omega) (by omega)
  have b2 := q_mulb (a := i.toInt) (b := p.toInt) (A := 1000000000) (B := 100000000) (by omega) (by omega) (by omega) (by omega)
  have b3 := q_mulb (a := n.toInt - 1) (b := p.toInt) (A := 1000000) (B := 100000000) (by omega) (by omega) (by omega) (by omega)
  have a5 : (i * p).toInt = i.toInt * p.toInt := y_mul6 (by omega) (by omega)
  have a6 : ((n - 1) * p).toInt = (n.toInt - 1) * p.toInt := by rw [y_mul6 (by rw [a2]; omega) (by rw [a2]; omega), a2]
  have a7 : (((n - 1) * p) / 2).toInt = (n.toInt - 1) * m := by
    rw [y_div6 (by omega), f2, a6, hm, show (n.toInt - 1) * (2 * m) = 2 * ((n.toInt - 1) * m) by rw [Int.mul_left_comm], Int.mul_tdiv_cancel_left _ (by decide)]
  have b4 := q_mulb (a := n.toInt - 1) (b := m) (A := 1000000) (B := 100000000) (by omega) (by omega) (by omega) (by omega)
  rw [y_eq6, y_mul6 (by rw [a3, a4]; omega) (by rw [a3, a4]; omega), a3, a4, y_sub6 (by rw [a5, a7]; omega) (by rw [a5, a7]; omega), a5, a7, hm, Int.sub_mul]
  congr 1
  rw [Int.mul_left_comm, Int.mul_assoc]
/-- how many vias go into a length -/
def yVia (th : Int32) (V : Nat → Int32) (w : Int64) : Int := if th.toInt < 0 ∨ (V 17).toInt = 0 then 0 else w.toInt / (V 17).toInt
theorem q_viaR {th : Int32} {V : Nat → Int32} {w : Int64} (h0 : 0 ≤ w.toInt) (h1 : w.toInt ≤ 200000000) (hV : (V 17).toInt = 0 ∨ 10000 ≤ (V 17).toInt) : 0 ≤ yVia th V w ∧ yVia th V w ≤ 20000 := by
  unfold yVia
  split
  · omega
  · rename_i h
    have hv : 10000 ≤ (V 17).toInt := by omega
    have g1 : 0 ≤ w.toInt / (V 17).toInt := Int.ediv_nonneg h0 (by omega)
    have g2 := Int.ediv_mul_le w.toInt (b := (V 17).toInt) (by omega)
    have g3 := Int.mul_le_mul_of_nonneg_left hv g1
    omega
theorem q_viasInto {th p : Int32} {V : Nat → Int32} {cells : Nat → Int64} {j : Nat} (hth : th.toInt < 65) (hp : p.toInt = j) (hj : j < 7) (hw : 0 ≤ th.toInt → 0 ≤ (cells (7 * th.toInt.toNat + j)).toInt ∧ (cells (7 * th.toInt.toNat + j)).toInt ≤ 200000000) (hV : (V 17).toInt = 0 ∨ 10000 ≤ (V 17).toInt) : ∃ r : Int32, r.toInt = yVia th V (cells (7 * th.toInt.toNat + j)) ∧ ∀ post : Int32 → Prop, post r → P_Fp_viasInto p th V cells post := by
  have e0 : (0 : Int32).toInt = 0 := by decide
  have f0 : (0 : Int64).toInt = 0 := by decide
  by_cases h1 : th.toInt < 0
  · refine ⟨0, by rw [yVia, if_pos (Or.inl h1), e0], fun post h => q_of (s := 17) (by decide) (by decide) (by decide) ⟨fun _ => h, fun h' => absurd ?_ h'⟩⟩
    rw [y_lt]
    omega
  · have g1 : ¬ th < 0 := by rw [y_lt]; omega
    by_cases h2 : (V 17).toInt = 0
    · refine ⟨0, by rw [yVia, if_pos (Or.inr h2), e0], fun post h => q_of (s := 17) (by decide) (by decide) (by decide) ⟨fun h' => absurd h' g1, fun _ => ⟨fun h' => ?_, fun _ => h⟩⟩⟩
      rw [y_lt6, y_64] at h'
      omega
    · have hw := hw (by omega)
      have hr := q_viaR (th := th) (V := V) hw.1 hw.2 hV
      have hd : (cells (7 * th.toInt.toNat + j) / (V 17).toInt64).toInt = yVia th V (cells (7 * th.toInt.toNat + j)) := by
        rw [y_div6 (by omega), y_64, yVia, if_neg (by omega), Int.tdiv_eq_ediv_of_nonneg hw.1]
      refine ⟨_, by rw [y_32 (by rw [hd]; omega) (by rw [hd]; omega), hd], fun post h => q_of (s := 17) (by decide) (by decide) (by decide) ⟨fun h' => absurd h' g1, fun _ => ⟨fun _ => q_cell (k := th.toInt.toNat) (j := j) (by omega) (by omega) hp hj ⟨fun h' => h2 ?_, h⟩, fun h' => absurd ?_ h'⟩⟩⟩
      · rw [y_eq6, y_64] at h'
        omega
      · rw [y_lt6, y_64]
        omega
theorem q_M_via {at2 fam dens pads hasTh th : Int32} {V : Nat → Int32} {values pad : Nat → Int64} {q w : Int32} {f : Nat} (hA : ¬ at2 = 0) (hf8 : f < 8) (hf : fam.toInt = f) (hval : values (30 * f + 27) = (V 17).toInt64) (hp1 : 1 ≤ pads.toInt) (hp : pads.toInt ≤ 65) (hth : hasTh = 0 ∧ th = -1 ∨ hasTh = 1 ∧ th.toInt = pads.toInt - 1) (hV : (V 17).toInt = 0 ∨ 10000 ≤ (V 17).toInt) (hw3 : 0 ≤ th.toInt → 0 ≤ (pad (7 * th.toInt.toNat + 3)).toInt ∧ (pad (7 * th.toInt.toNat + 3)).toInt ≤ 200000000) (hw4 : 0 ≤ th.toInt → 0 ≤ (pad (7 * th.toInt.toNat + 4)).toInt ∧ (pad (7 * th.toInt.toNat + 4)).toInt ≤ 200000000) {r1 r2 : Int32} (h1 : r1.toInt = yVia th V (pad (7 * th.toInt.toNat + 3))) (h2 : r2.toInt = yVia th V (pad (7 * th.toInt.toNat + 4))) {post : Int32 → Int32 → Prop} (h : P_M_via_102 q w at2 post (V 17).toInt64 r1.toInt64 r2.toInt64) : P_M_via q w at2 fam dens pads hasTh values pad post := by
  have e0 : (0 : Int32).toInt = 0 := by decide
  have e3 : (3 : Int32).toInt = 3 := by decide
  have e4 : (4 : Int32).toInt = 4 := by decide
  have e7 : (7 : Int32).toInt = 7 := by decide
  have f0 : (0 : Int64).toInt = 0 := by decide
  refine ⟨fun h' => absurd h' hA, fun _ => q_Mof (m := 9) hf hf8 (by decide) (by decide) (by decide) ?_⟩
  rw [hval]
  intro x ex
  subst ex
  have hx : (7 * pads).toInt = 7 * pads.toInt := by rw [y_mul (by rw [e7]; omega) (by rw [e7]; omega), e7]
  have hx1 : (7 * pads - 7).toInt = 7 * pads.toInt - 7 := by rw [y_sub (by omega) (by omega), hx, e7]
  have hx3 : (7 * pads - 7 + 3).toInt = 7 * pads.toInt - 4 := by rw [y_add (by omega) (by omega), hx1, e3]; omega
  have hx4 : (7 * pads - 7 + 4).toInt = 7 * pads.toInt - 3 := by rw [y_add (by omega) (by omega), hx1, e4]; omega
  refine ⟨fun h' => absurd h' hA, fun _ => ?_⟩
  have hzero : th.toInt < 0 ∨ (V 17).toInt = 0 → P_M_via_102 q w at2 post (V 17).toInt64 0 0 := by
    intro hz
    rw [yVia, if_pos hz] at h1 h2
    have g1 : r1.toInt64 = 0 := by rw [y_eq6, y_64, h1, f0]
    have g2 : r2.toInt64 = 0 := by rw [y_eq6, y_64, h2, f0]
    rw [g1, g2] at h
    exact h
  rcases hth with ⟨hh, ht⟩ | ⟨hh, ht⟩
  · have ht' : th.toInt < 0 := by rw [ht]; decide
    subst hh
    exact ⟨fun _ => ⟨fun h' => absurd h' hA, fun _ => ⟨fun _ => hzero (Or.inl ht'), fun h' => absurd rfl h'⟩⟩, fun h' => absurd rfl h'⟩
  · subst hh
    have n1 : ¬ (1 : Int32) = 0 := by decide
    refine ⟨fun h' => absurd h' n1, fun _ => ?_⟩
    by_cases hz : (V 17).toInt = 0
    · have hle : (V 17).toInt64 ≤ 0 := by rw [y_le6, y_64, f0]; omega
      exact ⟨fun _ => ⟨fun h' => absurd h' hA, fun _ => ⟨fun h' => absurd h' n1, fun _ => ⟨fun _ => hzero (Or.inr hz), fun h' => absurd hle h'⟩⟩⟩, fun h' => absurd hle h'⟩
    · have hle : ¬ (V 17).toInt64 ≤ 0 := by rw [y_le6, y_64, f0]; omega
      have hne : ¬ (V 17).toInt64 = 0 := by rw [y_eq6, y_64, f0]; omega
      have hn3 : (7 * pads - 7 + 3).toNatClampNeg = 7 * th.toInt.toNat + 3 := by rw [y_nat]; omega
      have hn4 : (7 * pads - 7 + 4).toNatClampNeg = 7 * th.toInt.toNat + 4 := by rw [y_nat]; omega
      have hw3 := hw3 (by omega)
      have hw4 := hw4 (by omega)
      have hd3 : pad (7 * th.toInt.toNat + 3) / (V 17).toInt64 = r1.toInt64 := by
        rw [y_eq6, y_64, h1, y_div6 (by omega), y_64, yVia, if_neg (by omega), Int.tdiv_eq_ediv_of_nonneg hw3.1]
      have hd4 : pad (7 * th.toInt.toNat + 4) / (V 17).toInt64 = r2.toInt64 := by
        rw [y_eq6, y_64, h2, y_div6 (by omega), y_64, yVia, if_neg (by omega), Int.tdiv_eq_ediv_of_nonneg hw4.1]
      refine ⟨fun h' => absurd h' hle, fun _ => ⟨y_in (by omega) (by omega), hne, ?_⟩⟩
      refine ⟨fun h' => absurd h' hA, fun _ => ⟨fun h' => absurd h' n1, fun _ => ⟨fun h' => absurd h' hle, fun _ => ⟨y_in (by omega) (by omega), hne, ?_⟩⟩⟩⟩
      rw [hn3, hn4, hd3, hd4]
      exact h
theorem yc10 {L0 : Nat} {xs : Nat → Int32} {i0 at1 at2 fam dens pads hasTh th : Int32} {V : Nat → Int32} {cells out pad values : Nat → Int64} {K : (Nat → Int64) → Int32 → Prop} (i1 : vp_in (i0 + 1) L0) (i2 : vp_in (i0 + 2) L0) (e : at1 = at2) (hy : ¬ at2 = 0 → 1 ≤ pads.toInt ∧ pads.toInt ≤ 65 ∧ (∀ k : Nat, (k : Int) < 7 * pads.toInt → cells k = pad k) ∧ (hasTh = 0 ∧ th = -1 ∨ hasTh = 1 ∧ th.toInt = pads.toInt - 1) ∧ ((V 17).toInt = 0 ∨ 10000 ≤ (V 17).toInt) ∧ (V 17).toInt ≤ 10000000 ∧ (V 17).toInt % 2 = 0 ∧ (∀ k : Nat, (k : Int) < pads.toInt → 0 ≤ (pad (7 * k + 3)).toInt ∧ (pad (7 * k + 3)).toInt ≤ 200000000 ∧ 0 ≤ (pad (7 * k + 4)).toInt ∧ (pad (7 * k + 4)).toInt ≤ 200000000) ∧ ∃ f : Nat, f < 8 ∧ fam.toInt = f ∧ values (30 * f + 27) = (V 17).toInt64) (hK : ∀ u t, K u t) : P_L_c10 L0 xs i0 at1 th V cells out at2 fam dens pads hasTh values pad K := by
  refine ⟨i1, i2, ?_⟩
  generalize xs (i0 + 1).toNatClampNeg = q
  generalize xs (i0 + 2).toNatClampNeg = w
  subst e
  have e0 : (0 : Int32).toInt = 0 := by decide
  have e2 : (2 : Int32).toInt = 2 := by decide
  have em : (-1 : Int32).toInt = -1 := by decide
  by_cases hA : at1 = 0
  · simp [P_L_via, P_F_via_o, P_F_via_t, P_F_needFootprint_o, P_F_needFootprint_t, P_M_via, P_M_via_17, P_M_via_64, P_M_via_65, P_M_via_101, P_M_refusal, P_M_thrown, hA, hK, i1, i2]
    have hk : ∀ (x y : Int64) (z : Int32), P_M_via_102 q w 0 (fun r8 u7 => (u7 = 1 → K out u7) ∧ u7 = 1) x y 0 := by
      intro x y z
      simp [P_M_via_102, P_M_via_135, P_M_via_139, P_M_via_140, P_M_refusal, hK]
    simp [P_M_via_102, P_M_via_135, P_M_via_139, P_M_via_140, P_M_refusal, hK]
  · obtain ⟨hp1, hp, hcells, hth, hV, hVm, hV2, hpad, f, hf8, hf, hval⟩ := hy hA
    have ht65 : th.toInt < pads.toInt := by
      rcases hth with ⟨_, ht⟩ | ⟨_, ht⟩
      · rw [ht]
        omega
      · omega
    have c3 : 0 ≤ th.toInt → cells (7 * th.toInt.toNat + 3) = pad (7 * th.toInt.toNat + 3) := fun h => hcells _ (by omega)
    have c4 : 0 ≤ th.toInt → cells (7 * th.toInt.toNat + 4) = pad (7 * th.toInt.toNat + 4) := fun h => hcells _ (by omega)
    have p3 : 0 ≤ th.toInt → 0 ≤ (pad (7 * th.toInt.toNat + 3)).toInt ∧ (pad (7 * th.toInt.toNat + 3)).toInt ≤ 200000000 := fun h => ⟨(hpad _ (by omega)).1, (hpad _ (by omega)).2.1⟩
    have p4 : 0 ≤ th.toInt → 0 ≤ (pad (7 * th.toInt.toNat + 4)).toInt ∧ (pad (7 * th.toInt.toNat + 4)).toInt ≤ 200000000 := fun h => ⟨(hpad _ (by omega)).2.2.1, (hpad _ (by omega)).2.2.2⟩
    obtain ⟨r1, hr1, hI1⟩ := q_viasInto (p := 3) (j := 3) (V := V) (cells := cells) (th := th) (by omega) (by decide) (by decide) (fun h => by rw [c3 h]; exact p3 h) hV
    obtain ⟨r2, hr2, hI2⟩ := q_viasInto (p := 4) (j := 4) (V := V) (cells := cells) (th := th) (by omega) (by decide) (by decide) (fun h => by rw [c4 h]; exact p4 h) hV
    have s1 : r1.toInt = yVia th V (pad (7 * th.toInt.toNat + 3)) := by
      by_cases h : 0 ≤ th.toInt
      · rw [hr1, c3 h]
      · rw [hr1, yVia, yVia, if_pos (by omega), if_pos (by omega)]
    have s2 : r2.toInt = yVia th V (pad (7 * th.toInt.toNat + 4)) := by
      by_cases h : 0 ≤ th.toInt
      · rw [hr2, c4 h]
      · rw [hr2, yVia, yVia, if_pos (by omega), if_pos (by omega)]
    have b1 : 0 ≤ r1.toInt ∧ r1.toInt ≤ 20000 := by
      by_cases h : 0 ≤ th.toInt
      · rw [s1]
        exact q_viaR (p3 h).1 (p3 h).2 hV
      · rw [s1, yVia, if_pos (by omega)]
        omega
    have b2 : 0 ≤ r2.toInt ∧ r2.toInt ≤ 20000 := by
      by_cases h : 0 ≤ th.toInt
      · rw [s2]
        exact q_viaR (p4 h).1 (p4 h).2 hV
      · rw [s2, yVia, if_pos (by omega)]
        omega
    have hM : ∀ post : Int32 → Int32 → Prop, P_M_via_102 q w at1 post (V 17).toInt64 r1.toInt64 r2.toInt64 → P_M_via q w at1 fam dens pads hasTh values pad post := fun post h => q_M_via hA hf8 hf hval hp1 hp hth hV p3 p4 s1 s2 h
    have bm := q_mulb (a := r1.toInt) (b := r2.toInt) (A := 20000) (B := 20000) (by omega) (by omega) (by omega) (by omega)
    have bm0 : 0 ≤ r1.toInt * r2.toInt := Int.mul_nonneg b1.1 b2.1
    have hm : (r1 * r2).toInt = r1.toInt * r2.toInt := y_mul (by omega) (by omega)
    have hm6 : (r1.toInt64 * r2.toInt64).toInt = r1.toInt * r2.toInt := by rw [y_mul6 (by rw [y_64, y_64]; omega) (by rw [y_64, y_64]; omega), y_64, y_64]
    have hmm : (r1.toInt64 * r2.toInt64).toInt32 = r1 * r2 := by rw [y_eq, y_32 (by omega) (by omega), hm6, hm]
    by_cases hq : q = -1
    · refine Or.inl ⟨fun _ => hI1 _ (hI2 _ (fun x ex => ⟨fun h => absurd hq h, fun _ y ey => ?_⟩)), fun h => absurd h hA⟩
      subst ex ey
      refine ⟨y_v01, i1, i2, hM _ ⟨fun _ => ⟨fun _ => ⟨fun h => absurd h (by decide), fun _ => ⟨fun _ => ⟨fun h => absurd hq h, fun _ => ?_⟩, fun h => absurd rfl h⟩⟩, fun h => absurd h hA⟩, fun h => absurd hq h⟩⟩
      rw [hmm]
      simp [P_M_thrown, hK, y_v01, y_updL]
    · by_cases hin : 0 ≤ q.toInt ∧ q.toInt < r1.toInt * r2.toInt
      · have k1 : ¬ q < 0 := by rw [y_lt]; omega
        have k2 : q < r1 * r2 := by rw [y_lt]; omega
        have k3 : ¬ r1.toInt64 * r2.toInt64 ≤ q.toInt64 := by rw [y_le6, y_64, hm6]; omega
        by_cases hw : 0 ≤ w.toInt ∧ w.toInt < 2
        · have k4 : ¬ w < 0 := by rw [y_lt]; omega
          have k5 : w < 2 := by rw [y_lt]; omega
          have k6 : ¬ 2 ≤ w := by rw [y_le]; omega
          have rpos : 1 ≤ r1.toInt := by
            by_cases h : r1.toInt = 0
            · rw [h] at hin
              omega
            · omega
          have k7 : 0 < r1 := by rw [y_lt]; omega
          have k8 : ¬ r1 = 0 := by rw [y_eq]; omega
          have k9 : ¬ r1.toInt64 = 0 := by rw [y_eq6, y_64, (by decide : (0 : Int64).toInt = 0)]; omega
          have hdiv : (q / r1).toInt = q.toInt / r1.toInt := by rw [y_div (by omega), Int.tdiv_eq_ediv_of_nonneg hin.1]
          have hdiv6 : (q.toInt64 / r1.toInt64) = (q / r1).toInt64 := by rw [y_eq6, y_64, hdiv, y_div6 (by rw [y_64]; omega), y_64, y_64, Int.tdiv_eq_ediv_of_nonneg hin.1]
          have d1 : 0 ≤ q.toInt / r1.toInt := Int.ediv_nonneg hin.1 (by omega)
          have d2 : q.toInt / r1.toInt * r1.toInt ≤ q.toInt := Int.ediv_mul_le _ (by omega)
          have d3 : q.toInt / r1.toInt * 1 ≤ q.toInt / r1.toInt * r1.toInt := Int.mul_le_mul_of_nonneg_left rpos d1
          have d4 : 0 ≤ q.toInt / r1.toInt * r1.toInt := Int.mul_nonneg d1 (by omega)
          have hmod1 : (q / r1 * r1).toInt = q.toInt / r1.toInt * r1.toInt := by rw [y_mul (by rw [hdiv]; omega) (by rw [hdiv]; omega), hdiv]
          have hmod : (q - q / r1 * r1).toInt = q.toInt - q.toInt / r1.toInt * r1.toInt := by rw [y_sub (by omega) (by omega), hmod1]
          have hmod6a : ((q / r1).toInt64 * r1.toInt64).toInt = q.toInt / r1.toInt * r1.toInt := by rw [y_mul6 (by rw [y_64, y_64, hdiv]; omega) (by rw [y_64, y_64, hdiv]; omega), y_64, y_64, hdiv]
          have hmod6 : q.toInt64 - q.toInt64 / r1.toInt64 * r1.toInt64 = (q - q / r1 * r1).toInt64 := by rw [hdiv6, y_eq6, y_64, hmod, y_sub6 (by rw [y_64]; omega) (by rw [y_64]; omega), y_64, hmod6a]
          have hmid1 := q_middle (i := (q / r1).toInt64) (n := r2.toInt64) (p := (V 17).toInt64) (by rw [y_64, hdiv]; omega) (by rw [y_64]; omega) (by rw [y_64]; omega) (by rw [y_64]; omega)
          have hmid2 := q_middle (i := (q - q / r1 * r1).toInt64) (n := r1.toInt64) (p := (V 17).toInt64) (by rw [y_64, hmod]; omega) (by rw [y_64]; omega) (by rw [y_64]; omega) (by rw [y_64]; omega)
          refine Or.inl ⟨fun _ => hI1 _ (hI2 _ (fun x ex => ⟨fun _ => ?_, fun h => absurd h hq⟩)), fun h => absurd h hA⟩
          subst ex
          refine ⟨fun h => absurd h k1, fun _ => ⟨fun _ => ⟨fun h => absurd h k4, fun _ => ⟨fun _ => ⟨fun _ => ⟨fun hw0 => ⟨k8, hI2 _ (q_of (s := 17) (by decide) (by decide) (by decide) (fun y ey => ?_))⟩, fun hw0 => ⟨k8, hI1 _ (q_of (s := 17) (by decide) (by decide) (by decide) (fun y ey => ?_))⟩⟩, fun h => absurd k7 h⟩, fun h => absurd k5 h⟩⟩, fun h => absurd k2 h⟩⟩
          · subst ey
            refine ⟨y_v01, i1, i2, hM _ ⟨fun h => absurd h hq, fun _ => ⟨fun h => absurd h k1, fun _ => ⟨fun h => absurd h k3, fun _ => ⟨fun h => absurd h k4, fun _ => ⟨fun h => absurd h k6, fun _ => ⟨fun _ => ⟨fun h => absurd h (by decide), fun _ => ⟨fun _ => ⟨fun _ => ⟨fun _ => ⟨k9, ?_⟩, fun h => absurd h hw0⟩, fun h => absurd h hq⟩, fun h => absurd rfl h⟩⟩, fun h => absurd h hA⟩⟩⟩⟩⟩⟩⟩
            rw [hdiv6]
            show P_M_thrown _ _
            rw [hmid1]
            simp [P_M_thrown, hK, y_v01, y_updL]
          · subst ey
            refine ⟨y_v01, i1, i2, hM _ ⟨fun h => absurd h hq, fun _ => ⟨fun h => absurd h k1, fun _ => ⟨fun h => absurd h k3, fun _ => ⟨fun h => absurd h k4, fun _ => ⟨fun h => absurd h k6, fun _ => ⟨fun _ => ⟨fun h => absurd h (by decide), fun _ => ⟨fun _ => ⟨fun _ => ⟨fun h => absurd hw0 h, fun _ => ⟨k9, ?_⟩⟩, fun h => absurd h hq⟩, fun h => absurd rfl h⟩⟩, fun h => absurd h hA⟩⟩⟩⟩⟩⟩⟩
            rw [hmod6]
            show P_M_thrown _ _
            rw [hmid2]
            simp [P_M_thrown, hK, y_v01, y_updL]
        · have k4 : ∀ (post : String → Prop), post "java/lang/IndexOutOfBoundsException" → P_F_needWithin_t w 2 post := by
            intro post h
            refine ⟨fun _ => h, fun h1 => ⟨fun h2 => ?_, fun _ => h⟩⟩
            rw [y_lt] at h1 h2
            omega
          refine Or.inr (Or.inl ⟨fun _ => hI1 _ (hI2 _ (fun x ex => ⟨fun _ => Or.inl ?_, fun h => absurd h hq⟩)), fun h => absurd h hA⟩)
          subst ex
          refine ⟨fun h => absurd h k1, fun _ => ⟨fun _ => k4 _ (Or.inr ⟨rfl, i1, i2, hM _ ?_⟩), fun h => absurd k2 h⟩⟩
          have k5 : ¬ w < 0 → 2 ≤ w := by
            rw [y_lt, y_le]
            omega
          by_cases hw0 : w < 0
          · simp [P_M_via_102, P_M_via_135, P_M_via_139, P_M_via_140, P_M_refusal, P_M_thrown, hq, k1, k3, hw0, hA, hK]
          · simp [P_M_via_102, P_M_via_135, P_M_via_139, P_M_via_140, P_M_refusal, P_M_thrown, hq, k1, k3, hw0, k5 hw0, hA, hK]
      · have k4 : ∀ (post : String → Prop), post "java/lang/IndexOutOfBoundsException" → P_F_needWithin_t q (r1 * r2) post := by
          intro post h
          refine ⟨fun _ => h, fun h1 => ⟨fun h2 => ?_, fun _ => h⟩⟩
          rw [y_lt] at h1 h2
          omega
        refine Or.inr (Or.inl ⟨fun _ => hI1 _ (hI2 _ (fun x ex => ⟨fun _ => Or.inr ?_, fun h => absurd h hq⟩)), fun h => absurd h hA⟩)
        subst ex
        refine k4 _ (Or.inr ⟨rfl, i1, i2, hM _ ?_⟩)
        have k5 : ¬ q < 0 → r1.toInt64 * r2.toInt64 ≤ q.toInt64 := by
          rw [y_lt, y_le6, hm6, y_64]
          omega
        by_cases hq0 : q < 0
        · simp [P_M_via_102, P_M_via_135, P_M_via_139, P_M_via_140, P_M_refusal, P_M_thrown, hq, hq0, hA, hK]
        · simp [P_M_via_102, P_M_via_135, P_M_via_139, P_M_via_140, P_M_refusal, P_M_thrown, hq, hq0, k5 hq0, hA, hK]
theorem z_c10 (L0 : Nat) (xs : Nat → Int32) : zStep_c10 zInv L0 xs := by
  intro v_p1_familyCount v_p1_reader_toldKeys v_p1_reader_words_length v_p1_reader_words_start v_p1_reader_words_end v_p1_reader_words_place v_p1_reader_words_units v_p1_handMade_count v_p1_handMade_isThere v_p1_handMade_boxes v_p1_maker_rounding v_p1_maker_toe v_p1_maker_heel v_p1_maker_side v_p1_maker_pitch v_p1_maker_outer v_p1_maker_inner v_p1_maker_across v_p1_maker_hole v_p1_maker_spans_toldBits v_p1_maker_spans_exactBits v_p1_maker_spans_lows v_p1_maker_spans_highs v_p1_maker_leftOut v_p1_maker_print_atHand v_p1_maker_print_count v_p1_maker_print_thermal v_p1_maker_print_density v_p1_maker_print_outerHigh v_p1_maker_print_pasteLeft v_p1_maker_print_pasteLow v_p1_maker_print_nameLength v_p1_maker_print_isWritten v_p1_maker_print_cells v_p1_maker_print_yard v_p1_maker_print_columns_parts v_p1_maker_print_columns_size v_p1_maker_print_columns_ahead v_p1_maker_print_columns_gap v_p1_maker_print_rows_parts v_p1_maker_print_rows_size v_p1_maker_print_rows_ahead v_p1_maker_print_rows_gap v_p1_maker_print_line_length v_p1_maker_print_line_units v_p2_thrown v_p2_size v_p2_families v_p2_atHand v_p2_family v_p2_density v_p2_pads v_p2_hasThermal v_p2_titleSize v_p2_written v_p2_at v_p2_begin v_p2_words v_p2_paste0 v_p2_units v_p2_kinds v_p2_values v_p2_names v_p2_low v_p2_high v_p2_told v_p2_leftOut v_p2_isMade v_p2_hands v_p2_pad v_p2_court v_p2_title v_p2_out v_p3 fC fK fV fL pj i0 hpj hI hin
  obtain ⟨hW, hF, hSp, hL, hH, hP⟩ := hI
  exact yc10 hin.2.1 hin.2.2.1 hP.1 (fun h => by
    have h := hP.2.resolve_left h
    have hp : pj < 8 := by have := hF.2.2.1; omega
    have hf := hF.2.2.2 pj h.2.1
    have hq := h.2.2.2.2.2.2.2.2.2.2.2.2.2.1
    have hv := hf.2.2.2.2.1 17 (by decide)
    exact ⟨h.2.2.2.2.2.2.2.1, h.2.2.2.2.2.2.2.2.1, h.2.2.2.2.2.2.2.2.2.1, h.2.2.2.2.2.2.2.2.2.2.2.1, hf.2.2.2.2.2.2.2.1, hv.2, hf.2.2.2.2.2.2.2.2.1, (fun k hk => by have := hq.1 k hk; omega), pj, hp, h.2.2.1, q_value hf (s := 17) (by decide) (by decide)⟩) (fun _ _ => ⟨hW, hF, hSp, hL, hH, hP⟩)
