theorem q_cutPaste {q : Int32} {V : Nat → Int32} {cells pad : Nat → Int64} {k : Nat} (hq : q.toInt = k) (hk : k < 65) (hcell : ∀ j : Nat, j < 7 → cells (7 * k + j) = pad (7 * k + j)) (hr5 : pad (7 * k + 5) = 0 ∨ pad (7 * k + 5) = 1) (hV : (V 16).toInt = 0 ∨ 10000 ≤ (V 16).toInt) {c s a g c' s' a' g' : Int64} (hA1 : (V 16).toInt = 0 ∨ pad (7 * k + 5) = 1 → c = 1 ∧ s = pad (7 * k + 3) - 2 * (V 14).toInt64 ∧ a = 0 ∧ g = 0) (hA2 : 10000 ≤ (V 16).toInt → pad (7 * k + 5) = 0 → ∀ post : Int64 → Int64 → Int64 → Int64 → Prop, post c s a g → P_Cu_split (pad (7 * k + 3) - 2 * (V 14).toInt64) (V 16).toInt64 (V 15).toInt64 post) (hB1 : (V 16).toInt = 0 ∨ pad (7 * k + 5) = 1 → c' = 1 ∧ s' = pad (7 * k + 4) - 2 * (V 14).toInt64 ∧ a' = 0 ∧ g' = 0) (hB2 : 10000 ≤ (V 16).toInt → pad (7 * k + 5) = 0 → ∀ post : Int64 → Int64 → Int64 → Int64 → Prop, post c' s' a' g' → P_Cu_split (pad (7 * k + 4) - 2 * (V 14).toInt64) (V 16).toInt64 (V 15).toInt64 post) {post : Int32 → Int64 → Int64 → Int64 → Int64 → Int64 → Int64 → Int64 → Int64 → Int64 → Int64 → Prop} (h0 : 0 < (pad (7 * k + 6)).toInt ∨ s.toInt ≤ 0 ∨ s'.toInt ≤ 0 → post 0 (pad (7 * k + 1) + (V 14).toInt64) (pad (7 * k + 2) + (V 14).toInt64) c s a g c' s' a' g') (h1 : ¬ (0 < (pad (7 * k + 6)).toInt ∨ s.toInt ≤ 0 ∨ s'.toInt ≤ 0) → post (c * c').toInt32 (pad (7 * k + 1) + (V 14).toInt64) (pad (7 * k + 2) + (V 14).toInt64) c s a g c' s' a' g') : P_Fp_cutPaste q V cells post := by
  have f0 : (0 : Int64).toInt = 0 := by decide
  refine q_of (s := 14) (by decide) (by decide) (by decide) (q_of (s := 16) (by decide) (by decide) (by decide) ?_)
  refine q_cell (k := k) (j := 3) hq hk (by decide) (by decide) (fun x4 e4 => q_cell (k := k) (j := 4) hq hk (by decide) (by decide) (fun x6 e6 => q_cell (k := k) (j := 1) hq hk (by decide) (by decide) (fun x8 e8 => q_cell (k := k) (j := 2) hq hk (by decide) (by decide) (fun x10 e10 => ?_))))
  rw [hcell _ (by decide)] at e4 e6 e8 e10
  have h156 : P_Fp_cutPaste_156 q cells post x8 x10 c s a g c' s' a' g' := by
    refine q_cell (k := k) (j := 6) hq hk (by decide) (by decide) ?_
    rw [hcell _ (by decide), e8, e10]
    refine ⟨fun h => h0 (Or.inl ?_), fun h => ⟨fun h2 => h0 (Or.inr (Or.inl ?_)), fun h2 => ⟨fun h3 => h1 ?_, fun h3 => h0 (Or.inr (Or.inr ?_))⟩⟩⟩
    · rw [y_lt6, f0] at h
      exact h
    · rw [y_le6, f0] at h2
      exact h2
    · rw [y_lt6, f0] at h h3
      rw [y_le6, f0] at h2
      omega
    · rw [y_lt6, f0] at h3
      omega
  have h138 : (V 16).toInt = 0 ∨ pad (7 * k + 5) = 1 → P_Fp_cutPaste_138 q cells post x4 x6 x8 x10 := by
    intro h
    obtain ⟨r1, r2, r3, r4⟩ := hA1 h
    obtain ⟨r5, r6, r7, r8⟩ := hB1 h
    rw [r1, r2, r3, r4, r5, r6, r7, r8, ← e4, ← e6] at h156
    exact h156
  refine ⟨fun h => h138 (Or.inl ?_), fun h => q_cell (k := k) (j := 5) hq hk (by decide) (by decide) ?_⟩
  · rw [y_le6, y_64, f0] at h
    omega
  · rw [hcell _ (by decide)]
    rw [y_le6, y_64, f0] at h
    have h16 : 10000 ≤ (V 16).toInt := by omega
    refine ⟨fun hn => h138 (Or.inr (hr5.resolve_left hn)), fun hz => q_of (s := 15) (by decide) (by decide) (by decide) ?_⟩
    rw [e4, e6]
    exact hA2 h16 hz _ (q_of (s := 15) (by decide) (by decide) (by decide) (hB2 h16 hz _ h156))
theorem q_M_left {q : Int32} {pad : Nat → Int64} {paste0 : Int64} {k : Nat} (hq : q.toInt = k) (hk : k < 65) {p2 : Int32} {j : Nat} (hj : p2.toInt = j) (hj2 : j < 2) {post : Int64 → Prop} (h : post (if 0 < (pad (7 * k + 6)).toInt then 0 else pad (7 * k + 3 + j) - 2 * paste0)) : P_M_left q p2 paste0 pad post := by
  have f0 : (0 : Int64).toInt = 0 := by decide
  have e3 : (3 : Int32).toInt = 3 := by decide
  have e6 : (6 : Int32).toInt = 6 := by decide
  have e7 : (7 : Int32).toInt = 7 := by decide
  have hx : (7 * q).toInt = 7 * q.toInt := by rw [y_mul (by rw [e7]; omega) (by rw [e7]; omega), e7]
  have hx6 : (7 * q + 6).toInt = 7 * q.toInt + 6 := by rw [y_add (by omega) (by omega), hx, e6]
  have hx3 : (7 * q + 3).toInt = 7 * q.toInt + 3 := by rw [y_add (by omega) (by omega), hx, e3]
  have hxj : (7 * q + 3 + p2).toInt = 7 * q.toInt + 3 + j := by rw [y_add (by omega) (by omega), hx3, hj]
  have hn6 : (7 * q + 6).toNatClampNeg = 7 * k + 6 := by rw [y_nat]; omega
  have hnj : (7 * q + 3 + p2).toNatClampNeg = 7 * k + 3 + j := by rw [y_nat]; omega
  refine ⟨y_in (by omega) (by omega), ?_⟩
  rw [hn6, hnj]
  refine ⟨fun hle => ⟨y_in (by omega) (by omega), ?_⟩, fun hle => ?_⟩
  · rw [y_le6, f0] at hle
    rw [if_neg (by omega)] at h
    exact h
  · rw [y_le6, f0] at hle
    rw [if_pos (by omega)] at h
    exact h
theorem q_M_paste {q w at2 fam dens pads : Int32} {paste0 : Int64} {pad values : Nat → Int64} {r3 r4 r5 r6 : Int64} (hA : ¬ at2 = 0) (hq0 : 0 ≤ q.toInt) (hq1 : q.toInt < pads.toInt) (h3 : ∀ post : Int64 → Prop, post r3 → P_M_left q 0 paste0 pad post) (h4 : ∀ post : Int64 → Prop, post r4 → P_M_left q 1 paste0 pad post) (h5 : ∀ post : Int64 → Prop, post r5 → P_M_columns q r3 fam dens values pad post) (h6 : ∀ post : Int64 → Prop, post r6 → P_M_columns q r4 fam dens values pad post) {post : Int32 → Int32 → Prop} (g1 : w.toInt < -1 → post 0 2) (g2 : w.toInt = -1 → post (r5 * r6).toInt32 0) (g3 : 0 ≤ w.toInt → (r5 * r6).toInt ≤ (w / 4).toInt → post 0 2) (g4 : 0 ≤ w.toInt → (w / 4).toInt < (r5 * r6).toInt → P_M_paste_111 q w fam dens paste0 pad values post r3 r4 r5 r6 (w / 4).toInt64 0 0) : P_M_paste q w at2 fam dens pads paste0 pad values post := by
  have e0 : (0 : Int32).toInt = 0 := by decide
  have em : (-1 : Int32).toInt = -1 := by decide
  have k1 : ¬ q < 0 := by rw [y_lt]; omega
  have k2 : ¬ pads ≤ q := by rw [y_le]; omega
  refine ⟨fun h => absurd h k1, fun _ => ⟨fun h => absurd h k2, fun _ => ⟨fun h => ?_, fun h => ?_⟩⟩⟩
  · rw [y_lt, em] at h
    exact ⟨fun _ => ⟨fun _ => ⟨fun h => absurd h (by decide), fun _ => g1 h⟩, fun h => absurd rfl h⟩, fun h => absurd h hA⟩
  · rw [y_lt, em] at h
    refine ⟨fun _ => ⟨fun h => absurd h (by decide), fun _ => ⟨fun _ => h3 _ (h4 _ (h5 _ (h6 _ (fun x ex => ?_)))), fun h => absurd rfl h⟩⟩, fun h => absurd h hA⟩
    subst ex
    refine ⟨fun hw x ex => ?_, fun hw => g2 (by rw [hw, em])⟩
    subst ex
    have hw' : 0 ≤ w.toInt := by
      rw [y_eq, em] at hw
      omega
    refine ⟨fun hle => ⟨fun h => absurd h (by decide), fun _ => g3 hw' ?_⟩, fun hle => g4 hw' ?_⟩
    · rw [y_le6, y_64] at hle
      exact hle
    · rw [y_le6, y_64] at hle
      omega
theorem yc8 {L0 : Nat} {xs : Nat → Int32} {i0 at1 at2 cnt fam dens pads : Int32} {pl pw paste0 : Int64} {V : Nat → Int32} {cells out pad values : Nat → Int64} {c1 c2 c3 c4 c5 c6 c7 c8 : Int64} {K : Int64 → Int64 → Int64 → Int64 → Int64 → Int64 → Int64 → Int64 → Int64 → Int64 → (Nat → Int64) → Int32 → Prop} (i1 : vp_in (i0 + 1) L0) (i2 : vp_in (i0 + 2) L0) (e : at1 = at2) (hy : ¬ at2 = 0 → cnt = pads ∧ pads.toInt ≤ 65 ∧ (∀ k : Nat, (k : Int) < 7 * pads.toInt → cells k = pad k) ∧ (∀ k : Nat, (k : Int) < pads.toInt → 0 ≤ (pad (7 * k + 3)).toInt ∧ (pad (7 * k + 3)).toInt ≤ 200000000 ∧ 0 ≤ (pad (7 * k + 4)).toInt ∧ (pad (7 * k + 4)).toInt ≤ 200000000 ∧ (pad (7 * k + 5) = 0 ∨ pad (7 * k + 5) = 1)) ∧ paste0 = (V 14).toInt64 ∧ (0 ≤ (V 14).toInt ∧ (V 14).toInt ≤ 10000000) ∧ (0 ≤ (V 15).toInt ∧ (V 15).toInt ≤ 10000000) ∧ ((V 16).toInt = 0 ∨ 10000 ≤ (V 16).toInt) ∧ (V 16).toInt ≤ 10000000 ∧ ∃ f : Nat, f < 8 ∧ fam.toInt = f ∧ values (30 * f + 21) = (V 15).toInt64 ∧ values (30 * f + 24) = (V 16).toInt64) (hK : ∀ a1 a2 a3 a4 a5 a6 a7 a8 a9 a10 u t, K a1 a2 a3 a4 a5 a6 a7 a8 a9 a10 u t) : P_L_c8 L0 xs i0 at1 cnt pl pw V cells c1 c2 c3 c4 c5 c6 c7 c8 out at2 fam dens pads paste0 pad values K := by
  refine ⟨i1, i2, ?_⟩
  generalize xs (i0 + 1).toNatClampNeg = q
  generalize xs (i0 + 2).toNatClampNeg = w
  subst e
  have e0 : (0 : Int32).toInt = 0 := by decide
  have e1 : (1 : Int32).toInt = 1 := by decide
  have e2 : (2 : Int32).toInt = 2 := by decide
  have e4 : (4 : Int32).toInt = 4 := by decide
  have e7 : (7 : Int32).toInt = 7 := by decide
  have em : (-1 : Int32).toInt = -1 := by decide
  have f0 : (0 : Int64).toInt = 0 := by decide
  have f2 : (2 : Int64).toInt = 2 := by decide
  by_cases hA : at1 = 0
  · simp [P_L_paste, P_F_paste_o, P_F_paste_t, P_F_needPad_o, P_F_needPad_t, P_F_needWithin_o, P_F_needWithin_o_9, P_F_needWithin_t, P_F_needWithin_t_9, P_F_needFootprint_o, P_F_needFootprint_t, P_M_paste, P_M_paste_21, P_M_paste_22, P_M_refusal, P_M_thrown, hA, hK, i1, i2]
  · obtain ⟨hc, hp, hcells, hpad, hpaste, hV14, hV15, hV16, hV16b, f, hf8, hf, hval7, hval8⟩ := hy hA
    subst hc
    by_cases h1 : q < 0
    · simp [P_L_paste, P_F_paste_o, P_F_paste_t, P_F_needPad_o, P_F_needPad_t, P_F_needWithin_o, P_F_needWithin_o_9, P_F_needWithin_t, P_F_needWithin_t_9, P_F_needFootprint_o, P_F_needFootprint_t, P_M_paste, P_M_paste_21, P_M_paste_22, P_M_refusal, P_M_thrown, hA, hK, i1, i2, h1]
    · by_cases h2 : q < cnt
      · have h3 : ¬ cnt ≤ q := by rw [y_le]; rw [y_lt] at h2; omega
        have h1' := h1
        have h2' := h2
        rw [y_lt] at h1' h2'
        obtain ⟨k, hk⟩ : ∃ k : Nat, q.toInt = k := ⟨q.toInt.toNat, by omega⟩
        obtain ⟨p3, p3', p4, p4', p5⟩ := hpad k (by omega)
        have hcell : ∀ j : Nat, j < 7 → cells (7 * k + j) = pad (7 * k + j) := fun j hj => hcells _ (by omega)
        have t1 : (2 * (V 14).toInt64).toInt = 2 * (V 14).toInt := by rw [y_mul6 (by rw [f2, y_64]; omega) (by rw [f2, y_64]; omega), f2, y_64]
        have t3 : (pad (7 * k + 3) - 2 * (V 14).toInt64).toInt = (pad (7 * k + 3)).toInt - 2 * (V 14).toInt := by rw [y_sub6 (by omega) (by omega), t1]
        have t4 : (pad (7 * k + 4) - 2 * (V 14).toInt64).toInt = (pad (7 * k + 4)).toInt - 2 * (V 14).toInt := by rw [y_sub6 (by omega) (by omega), t1]
        obtain ⟨c, s, a, g, hA1, hA2, hA3, hA4⟩ := q_axis (len := pad (7 * k + 3) - 2 * (V 14).toInt64) (dens := dens) hk (by omega) p5 hf hf8 hval7 hval8 hV15 hV16 hV16b (by omega) (by omega)
        obtain ⟨c', s', a', g', hB1, hB2, hB3, hB4⟩ := q_axis (len := pad (7 * k + 4) - 2 * (V 14).toInt64) (dens := dens) hk (by omega) p5 hf hf8 hval7 hval8 hV15 hV16 hV16b (by omega) (by omega)
        have hx : (7 * q).toInt = 7 * q.toInt := by rw [y_mul (by rw [e7]; omega) (by rw [e7]; omega), e7]
        have hx1 : (7 * q + 1).toInt = 7 * q.toInt + 1 := by rw [y_add (by omega) (by omega), hx, e1]
        have hx2 : (7 * q + 2).toInt = 7 * q.toInt + 2 := by rw [y_add (by omega) (by omega), hx, e2]
        have hn1 : (7 * q + 1).toNatClampNeg = 7 * k + 1 := by rw [y_nat]; omega
        have hn2 : (7 * q + 2).toNatClampNeg = 7 * k + 2 := by rw [y_nat]; omega
        have hdv : 0 ≤ w.toInt → (w / 4).toInt = w.toInt / 4 := fun h => by rw [y_div (by omega), e4, Int.tdiv_eq_ediv_of_nonneg h]
        have hno : ∀ pst : Prop, pst → P_F_needPad_o q at1 cnt pst := fun pst h => ⟨fun _ => ⟨fun h => absurd h h1, fun _ => ⟨fun _ => h, fun h => absurd h2 h⟩⟩, fun h => absurd h hA⟩
        have common : ∀ (n32 : Int32) (r3 r4 r5 r6 : Int64), n32.toInt = (r5 * r6).toInt → 0 ≤ n32.toInt → (∀ post : Int64 → Prop, post r3 → P_M_left q 0 paste0 pad post) → (∀ post : Int64 → Prop, post r4 → P_M_left q 1 paste0 pad post) → (∀ post : Int64 → Prop, post r5 → P_M_columns q r3 fam dens values pad post) → (∀ post : Int64 → Prop, post r6 → P_M_columns q r4 fam dens values pad post) → (∀ post : Int32 → Int64 → Int64 → Int64 → Int64 → Int64 → Int64 → Int64 → Int64 → Int64 → Int64 → Prop, post n32 (pad (7 * k + 1) + (V 14).toInt64) (pad (7 * k + 2) + (V 14).toInt64) c s a g c' s' a' g' → P_Fp_cutPaste q V cells post) → (0 ≤ w.toInt → (w / 4).toInt < n32.toInt → ∃ v : Int64, (∀ pst : Int64 → Prop, pst v → P_Fp_pasteCell (w / 4) (w - w / 4 * 4) (pad (7 * k + 1) + (V 14).toInt64) (pad (7 * k + 2) + (V 14).toInt64) c s a g s' a' g' pst) ∧ ∀ post : Int32 → Int32 → Prop, post v.toInt32 0 → P_M_paste_111 q w fam dens paste0 pad values post r3 r4 r5 r6 (w / 4).toInt64 0 0) → P_L_paste q w at1 cnt pl pw V cells c1 c2 c3 c4 c5 c6 c7 c8 out (fun (r14 : Int32) (u3 : Int64) (u4 : Int64) (u5 : Int64) (u6 : Int64) (u7 : Int64) (u8 : Int64) (u9 : Int64) (u10 : Int64) (u11 : Int64) (u12 : Int64) (u13 : Nat → Int64) => vp_in (i0 + 1) L0 ∧ vp_in (i0 + 2) L0 ∧ P_M_paste q w at1 fam dens cnt paste0 pad values (fun (r18 : Int32) (u17 : Int32) => P_M_thrown u17 (fun (r19 : Int32) => ((r19 = r14 → ((¬ r14 = 0 → K u3 u4 u5 u6 u7 u8 u9 u10 u11 u12 u13 u17) ∧ (r14 = 0 → vp_in 0 1 ∧ (((u13 (0 : Int32).toNatClampNeg) = r18.toInt64 → K u3 u4 u5 u6 u7 u8 u9 u10 u11 u12 u13 u17) ∧ (¬ (u13 (0 : Int32).toNatClampNeg) = r18.toInt64 → False))))) ∧ (¬ r19 = r14 → False))))) := by
          intro n32 r3 r4 r5 r6 hn hn0 m3 m4 m5 m6 hcut hgood
          have hrange := y_r n32
          have hn32 : (r5 * r6).toInt32 = n32 := by rw [y_eq, y_32 (by omega) (by omega), hn]
          by_cases hwm : w.toInt = -1
          · have hw : w = -1 := by rw [y_eq, em]; exact hwm
            refine Or.inl (hno _ (hcut _ ⟨fun h => absurd hw h, fun _ x ex => ⟨y_v01, i1, i2, q_M_paste hA (by omega) (by omega) m3 m4 m5 m6 (fun h => by omega) (fun _ => ?_) (fun h => by omega) (fun h => by omega)⟩⟩))
            subst ex
            rw [hn32]
            simp [P_M_thrown, hK, y_v01, y_updL]
          · have hw : ¬ w = -1 := by rw [y_eq, em]; exact hwm
            by_cases hw0 : w.toInt < 0
            · have hw1 : w < 0 := by rw [y_lt]; omega
              refine Or.inr (Or.inl (hno _ (hcut _ ⟨fun _ => ⟨fun _ => Or.inr ⟨rfl, i1, i2, q_M_paste hA (by omega) (by omega) m3 m4 m5 m6 (fun _ => ?_) (fun h => absurd h hwm) (fun h => by omega) (fun h => by omega)⟩, fun h => absurd hw1 h⟩, fun h => absurd h hw⟩)))
              simp [P_M_thrown, hK]
            · have hw1 : ¬ w < 0 := by rw [y_lt]; omega
              by_cases hlt : (w / 4).toInt < n32.toInt
              · have hlt' : w / 4 < n32 := by rw [y_lt]; exact hlt
                obtain ⟨v, hv1, hv2⟩ := hgood (by omega) hlt
                refine Or.inl (hno _ (hcut _ ⟨fun _ => ⟨fun h => absurd h hw1, fun _ => ⟨fun _ => hv1 _ (fun x ex => ⟨y_v01, i1, i2, q_M_paste hA (by omega) (by omega) m3 m4 m5 m6 (fun h => by omega) (fun h => by omega) (fun _ h => by omega) (fun _ _ => hv2 _ ?_)⟩), fun h => absurd hlt' h⟩⟩, fun h => absurd h hw⟩))
                subst ex
                simp [P_M_thrown, hK, y_v01, y_updL]
              · have hlt' : ¬ w / 4 < n32 := by rw [y_lt]; exact hlt
                refine Or.inr (Or.inl (hno _ (hcut _ ⟨fun _ => ⟨fun h => absurd h hw1, fun _ => ⟨fun h => absurd h hlt', fun _ => Or.inr ⟨rfl, i1, i2, q_M_paste hA (by omega) (by omega) m3 m4 m5 m6 (fun _ => by omega) (fun h => absurd h hwm) (fun _ _ => ?_) (fun _ h => by omega)⟩⟩⟩, fun h => absurd h hw⟩)))
                simp [P_M_thrown, hK]
        have hcut := fun (post : Int32 → Int64 → Int64 → Int64 → Int64 → Int64 → Int64 → Int64 → Int64 → Int64 → Int64 → Prop) => q_cutPaste (post := post) hk (by omega) hcell p5 hV16 hA1 hA2 hB1 hB2
        have l3 : ∀ post : Int64 → Prop, post (if 0 < (pad (7 * k + 6)).toInt then 0 else pad (7 * k + 3) - 2 * (V 14).toInt64) → P_M_left q 0 paste0 pad post := fun post h => q_M_left (j := 0) hk (by omega) (by decide) (by decide) (by rw [hpaste]; exact h)
        have l4 : ∀ post : Int64 → Prop, post (if 0 < (pad (7 * k + 6)).toInt then 0 else pad (7 * k + 4) - 2 * (V 14).toInt64) → P_M_left q 1 paste0 pad post := fun post h => q_M_left (j := 1) hk (by omega) (by decide) (by decide) (by rw [hpaste]; exact h)
        by_cases hole : 0 < (pad (7 * k + 6)).toInt
        · simp only [if_pos hole] at l3 l4
          have hz : ∀ post : Int64 → Prop, post 0 → P_M_columns q 0 fam dens values pad post := fun post h => q_M_columns hk (by omega) p5 hf hf8 hval7 hval8 hV15 hV16 (by rw [f0]; omega) (fun _ => h) (fun h => by rw [f0] at h; omega) (fun h => by rw [f0] at h; omega) (fun h => by rw [f0] at h; omega)
          exact common 0 0 0 0 0 (by decide) (by decide) l3 l4 hz hz (fun post h => hcut post (fun _ => h) (fun hn => absurd (Or.inl hole) hn)) (fun h h' => by rw [e0, hdv h] at h'; omega)
        · simp only [if_neg hole] at l3 l4
          by_cases hs : s.toInt ≤ 0
          · have hex : ∃ r6 : Int64, ∀ post : Int64 → Prop, post r6 → P_M_columns q (pad (7 * k + 4) - 2 * (V 14).toInt64) fam dens values pad post := by
              by_cases hs' : s'.toInt ≤ 0
              · exact ⟨0, hB3 hs'⟩
              · exact ⟨c', (hB4 (by omega)).2.1⟩
            obtain ⟨r6, h6⟩ := hex
            exact common 0 _ _ 0 r6 (by simp) (by decide) l3 l4 (hA3 hs) h6 (fun post h => hcut post (fun _ => h) (fun hn => absurd (Or.inr (Or.inl hs)) hn)) (fun h h' => by rw [e0, hdv h] at h'; omega)
          · obtain ⟨hcb, hc1, hc2, hc3⟩ := hA4 (by omega)
            by_cases hs' : s'.toInt ≤ 0
            · exact common 0 _ _ c 0 (by simp) (by decide) l3 l4 hc1 (hB3 hs') (fun post h => hcut post (fun _ => h) (fun hn => absurd (Or.inr (Or.inr hs')) hn)) (fun h h' => by rw [e0, hdv h] at h'; omega)
            · obtain ⟨hcb', hc1', hc2', hc3'⟩ := hB4 (by omega)
              have bm := q_mulb (a := c.toInt) (b := c'.toInt) (A := 30000) (B := 30000) (by omega) (by omega) (by omega) (by omega)
              have bm0 : 0 ≤ c.toInt * c'.toInt := Int.mul_nonneg (by omega) (by omega)
              have hm6 : (c * c').toInt = c.toInt * c'.toInt := y_mul6 (by omega) (by omega)
              have hm : (c * c').toInt32.toInt = (c * c').toInt := y_32 (by omega) (by omega)
              refine common (c * c').toInt32 _ _ c c' hm (by omega) l3 l4 hc1 hc1' (fun post h => hcut post (fun hn => absurd hn (by omega)) (fun _ => h)) (fun hw hlt => ?_)
              rw [hm, hm6, hdv hw] at hlt
              have hwr := y_r w
              have hd1 : (w / 4 * 4).toInt = w.toInt / 4 * 4 := by rw [y_mul (by rw [hdv hw, e4]; omega) (by rw [hdv hw, e4]; omega), hdv hw, e4]
              have hd2 : (w - w / 4 * 4).toInt = w.toInt % 4 := by rw [y_sub (by omega) (by omega), hd1]; omega
              have cpos : 0 < c := by rw [y_lt6, f0]; omega
              have cne : ¬ c = 0 := by rw [y_eq6, f0]; omega
              have v1 : vp_in (7 * q + 1) 455 := y_in (by omega) (by omega)
              have v2 : vp_in (7 * q + 2) 455 := y_in (by omega) (by omega)
              have n0 : 0 ≤ w.toInt / 4 := by omega
              have hn6 : ((w / 4).toInt64 / c).toInt = w.toInt / 4 / c.toInt := by rw [y_div6 (by rw [y_64, hdv hw]; omega), y_64, hdv hw, Int.tdiv_eq_ediv_of_nonneg n0]
              have d1 : 0 ≤ w.toInt / 4 / c.toInt := Int.ediv_nonneg n0 (by omega)
              have d2 : w.toInt / 4 / c.toInt * c.toInt ≤ w.toInt / 4 := Int.ediv_mul_le _ (by omega)
              have d3 := Int.mul_le_mul_of_nonneg_left (show (1 : Int) ≤ c.toInt by omega) d1
              have d4 : w.toInt / 4 < (w.toInt / 4 / c.toInt + 1) * c.toInt := Int.lt_ediv_add_one_mul_self _ (by omega)
              have d5 : w.toInt / 4 / c.toInt < c'.toInt := by
                rw [Int.ediv_lt_iff_lt_mul (by omega), Int.mul_comm]
                exact hlt
              have hk6a : ((w / 4).toInt64 / c * c).toInt = w.toInt / 4 / c.toInt * c.toInt := by rw [y_mul6 (by rw [hn6]; omega) (by rw [hn6]; omega), hn6]
              have hk6 : ((w / 4).toInt64 - (w / 4).toInt64 / c * c).toInt = w.toInt / 4 - w.toInt / 4 / c.toInt * c.toInt := by rw [y_sub6 (by rw [y_64, hdv hw, hk6a]; omega) (by rw [y_64, hdv hw, hk6a]; omega), y_64, hdv hw, hk6a]
              rw [Int.add_mul, Int.one_mul] at d4
              generalize hpart : w - w / 4 * 4 = pt at hd2 ⊢
              by_cases q0 : pt = 0
              · refine ⟨_, fun pst h => ⟨fun _ => ⟨fun _ => ⟨cne, h⟩, fun h => absurd q0 h⟩, fun h => absurd cpos h⟩, fun post h => ⟨fun _ x ex => ?_, fun h => absurd rfl h⟩⟩
                rw [ex, hpart, hn1, hpaste]
                exact ⟨fun _ => ⟨v1, cne, hc3 _ _ _ (by rw [hk6]; omega) (by rw [hk6]; omega) h⟩, fun h => absurd q0 h⟩
              · by_cases q1 : pt = 1
                · refine ⟨_, fun pst h => ⟨fun _ => ⟨fun h => absurd h q0, fun _ => ⟨fun _ => ⟨cne, h⟩, fun h => absurd q1 h⟩⟩, fun h => absurd cpos h⟩, fun post h => ⟨fun _ x ex => ?_, fun h => absurd rfl h⟩⟩
                  rw [ex, hpart, hn2, hpaste]
                  exact ⟨fun h => absurd h q0, fun _ => ⟨fun _ => ⟨v2, cne, hc3' _ _ _ (by rw [hn6]; omega) (by rw [hn6]; omega) h⟩, fun h => absurd q1 h⟩⟩
                · by_cases q2 : pt = 2
                  · refine ⟨_, fun pst h => ⟨fun _ => ⟨fun h => absurd h q0, fun _ => ⟨fun h => absurd h q1, fun _ => ⟨fun _ => h, fun h => absurd q2 h⟩⟩⟩, fun h => absurd cpos h⟩, fun post h => ⟨fun _ x ex => ?_, fun h => absurd rfl h⟩⟩
                    rw [ex, hpart]
                    exact ⟨fun h => absurd h q0, fun _ => ⟨fun h => absurd h q1, fun _ => ⟨fun _ => hc2 _ h, fun h => absurd q2 h⟩⟩⟩
                  · refine ⟨_, fun pst h => ⟨fun _ => ⟨fun h => absurd h q0, fun _ => ⟨fun h => absurd h q1, fun _ => ⟨fun h => absurd h q2, fun _ => h⟩⟩⟩, fun h => absurd cpos h⟩, fun post h => ⟨fun _ x ex => ?_, fun h => absurd rfl h⟩⟩
                    rw [ex, hpart]
                    exact ⟨fun h => absurd h q0, fun _ => ⟨fun h => absurd h q1, fun _ => ⟨fun h => absurd h q2, fun _ => hc2' _ h⟩⟩⟩
      · have h3 : cnt ≤ q := by rw [y_le]; rw [y_lt] at h2; omega
        simp [P_L_paste, P_F_paste_o, P_F_paste_t, P_F_needPad_o, P_F_needPad_t, P_F_needWithin_o, P_F_needWithin_o_9, P_F_needWithin_t, P_F_needWithin_t_9, P_F_needFootprint_o, P_F_needFootprint_t, P_M_paste, P_M_paste_21, P_M_paste_22, P_M_refusal, P_M_thrown, hA, hK, i1, i2, h1, h2, h3]
theorem z_c8 (L0 : Nat) (xs : Nat → Int32) : zStep_c8 zInv L0 xs := by
  intro v_p1_familyCount v_p1_reader_toldKeys v_p1_reader_words_length v_p1_reader_words_start v_p1_reader_words_end v_p1_reader_words_place v_p1_reader_words_units v_p1_handMade_count v_p1_handMade_isThere v_p1_handMade_boxes v_p1_maker_rounding v_p1_maker_toe v_p1_maker_heel v_p1_maker_side v_p1_maker_pitch v_p1_maker_outer v_p1_maker_inner v_p1_maker_across v_p1_maker_hole v_p1_maker_spans_toldBits v_p1_maker_spans_exactBits v_p1_maker_spans_lows v_p1_maker_spans_highs v_p1_maker_leftOut v_p1_maker_print_atHand v_p1_maker_print_count v_p1_maker_print_thermal v_p1_maker_print_density v_p1_maker_print_outerHigh v_p1_maker_print_pasteLeft v_p1_maker_print_pasteLow v_p1_maker_print_nameLength v_p1_maker_print_isWritten v_p1_maker_print_cells v_p1_maker_print_yard v_p1_maker_print_columns_parts v_p1_maker_print_columns_size v_p1_maker_print_columns_ahead v_p1_maker_print_columns_gap v_p1_maker_print_rows_parts v_p1_maker_print_rows_size v_p1_maker_print_rows_ahead v_p1_maker_print_rows_gap v_p1_maker_print_line_length v_p1_maker_print_line_units v_p2_thrown v_p2_size v_p2_families v_p2_atHand v_p2_family v_p2_density v_p2_pads v_p2_hasThermal v_p2_titleSize v_p2_written v_p2_at v_p2_begin v_p2_words v_p2_paste0 v_p2_units v_p2_kinds v_p2_values v_p2_names v_p2_low v_p2_high v_p2_told v_p2_leftOut v_p2_isMade v_p2_hands v_p2_pad v_p2_court v_p2_title v_p2_out v_p3 fC fK fV fL pj i0 hpj hI hin
  obtain ⟨hW, hF, hSp, hL, hH, hP⟩ := hI
  exact yc8 hin.2.1 hin.2.2.1 hP.1 (fun h => by
    have h := hP.2.resolve_left h
    have hp : pj < 8 := by have := hF.2.2.1; omega
    have hf := hF.2.2.2 pj h.2.1
    have hq := h.2.2.2.2.2.2.2.2.2.2.2.2.2.1
    have h16 := hf.2.2.2.2.1 16 (by decide)
    refine ⟨h.2.2.2.2.2.2.1, h.2.2.2.2.2.2.2.2.1, h.2.2.2.2.2.2.2.2.2.1, (fun k hk => ?_), ?_, hf.2.2.2.2.1 14 (by decide), hf.2.2.2.2.1 15 (by decide), hf.2.2.2.2.2.2.1, h16.2, pj, hp, h.2.2.1, q_value hf (s := 15) (by decide) (by decide), q_value hf (s := 16) (by decide) (by decide)⟩
    · have := hq.1 k hk
      exact ⟨by omega, by omega, by omega, by omega, this.2.2.2.2.2.2.2.2.2.2.1⟩
    · rw [y_eq6, y_64]
      exact h.2.2.2.2.2.2.2.2.2.2.2.2.1) (fun _ _ _ _ _ _ _ _ _ _ _ _ => ⟨hW, hF, hSp, hL, hH, hP⟩)
