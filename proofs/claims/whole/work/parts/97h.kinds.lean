theorem q_holes {tb eb : Int32} {lo hi ml mh : Nat → Int64} {mt : Nat → Int32} (h : ySp tb eb lo hi ml mh mt) {V lf lf2 : Nat → Int32} {values : Nat → Int64} {fam d32 k32 : Int32} {f d : Nat} (hv : yVs V values f d) (hf : fam.toInt = f) (hd : d32.toInt = d) (hkk : k32.toInt = 4) : ∃ (G : Prop) (N : Nat) (F : Nat → Nat → Int) (tf : Bool), (G → yOK N F) ∧ yCs tb eb lo hi mh mt V lf 4 d32 d G N F tf ∧ yMs fam d32 k32 values mt lf2 ml mh (V 12).toInt64 G N F tf := by
  obtain ⟨hf8, hd3, hVb, hr1, v0, v1, v2, v3⟩ := hv
  have f0 : (0 : Int64).toInt = 0 := by decide
  have f2 : (2 : Int64).toInt = 2 := by decide
  have e3 : (3 : Int32).toInt = 3 := by decide
  have e4 : (4 : Int32).toInt = 4 := by decide
  have hr := hVb 12 (by decide)
  have bh := hVb (3 + d) (by omega)
  have bs := hVb (6 + d) (by omega)
  have bc := hVb (9 + d) (by omega)
  have h2r : (2 * (V 12).toInt64).toInt = 2 * (V 12).toInt := by rw [y_mul6 (by rw [f2, y_64]; omega) (by rw [f2, y_64]; omega), f2, y_64]
  have b0 := q_hiB h (k := 0) (by decide)
  have b2 := q_hiB h (k := 2) (by decide)
  have b3 := q_hiB h (k := 3) (by decide)
  have b4 := q_hiB h (k := 4) (by decide)
  have HH : ∀ k : Nat, mt k = 1 → yHi mt mh k = mh k := fun k hm => by unfold yHi; rw [if_pos hm]
  have h2 : (2 * (V (3 + d)).toInt64).toInt = 2 * (V (3 + d)).toInt := by rw [y_mul6 (by rw [f2, y_64]; omega) (by rw [f2, y_64]; omega), f2, y_64]
  have ph : (yHi mt mh 2 + 2 * (V (3 + d)).toInt64).toInt = (yHi mt mh 2).toInt + 2 * (V (3 + d)).toInt := by rw [y_add6 (by omega) (by omega), h2]
  obtain ⟨ho, hho, hoC, hoM⟩ := q_up (p := yHi mt mh 2 + 2 * (V (3 + d)).toInt64) (r := 2 * (V 12).toInt64) (by omega) (by omega)
  obtain ⟨ri, hri, riC, riM⟩ := q_up (p := (V (6 + d)).toInt64) (r := (V 12).toInt64) (by rw [y_64]; omega) (by rw [y_64]; omega)
  have hob := q_upB (p := (yHi mt mh 2 + 2 * (V (3 + d)).toInt64).toInt) (r := (2 * (V 12).toInt64).toInt) (by omega)
  have rib := q_upB (p := (V (6 + d)).toInt64.toInt) (r := (V 12).toInt64.toInt) (by rw [y_64]; omega)
  have hoe : ho.toInt % 2 = 0 := by rw [hho, h2r]; exact q_upEven
  rw [← hho] at hob
  rw [← hri] at rib
  rw [y_64, y_64] at rib
  obtain ⟨n, hn⟩ : ∃ n : Nat, yPer 4 (yHi mt mh 4).toInt = n := ⟨(yPer 4 (yHi mt mh 4).toInt).toNat, by unfold yPer; simp; omega⟩
  have bounds : ∀ G : yGoodH mt ml mh (yHi mt mh 0).toInt ho.toInt (ho.toInt + 2 * ri.toInt), (1 ≤ n ∧ n ≤ 32) ∧ yOK (2 * n) (yF2 n (-(((yHi mt mh 0).toInt + (ho.toInt + 2 * ri.toInt)) / 2)) (((yHi mt mh 0).toInt - (ho.toInt + 2 * ri.toInt)) / 2) (yHi mt mh 3).toInt (ho.toInt + 2 * ri.toInt) (ho.toInt + 2 * ri.toInt) 1 ho.toInt) := by
    intro G
    obtain ⟨_, _, _, _, g5, _, ⟨g7, g8, hx | hx⟩⟩ := G
    · exact absurd hx (by decide)
    · have hnn : 1 ≤ n ∧ n ≤ 32 := by
        unfold yPer at hn
        simp at hn hx
        omega
      exact ⟨hnn, q_ok2 hnn.1 hnn.2 (by omega) (by omega) (by omega) (by omega) (by omega) (Or.inr rfl) (by omega)⟩
  have kk3 : ¬ k32 = 3 := by rw [y_eq, e3]; omega
  have kk4 : k32 = 4 := by rw [y_eq, e4]; exact hkk
  have vf : vp_in fam 8 := y_in (by omega) (by omega)
  refine ⟨yGoodH mt ml mh (yHi mt mh 0).toInt ho.toInt (ho.toInt + 2 * ri.toInt), 2 * n, yF2 n (-(((yHi mt mh 0).toInt + (ho.toInt + 2 * ri.toInt)) / 2)) (((yHi mt mh 0).toInt - (ho.toInt + 2 * ri.toInt)) / 2) (yHi mt mh 3).toInt (ho.toInt + 2 * ri.toInt) (ho.toInt + 2 * ri.toInt) 1 ho.toInt, false, fun G => (bounds G).2, ?_, ?_⟩
  · intro R T H S P O I A X cells yard post hb hg
    refine q_Cpre h (by decide) [0, 2, 3, 4] [0, 3, 4] (by decide) (by decide) (by decide) (by decide) hd hd3 (fun hx => hb (fun G => hx ?_) _ _ _ _ _ _ _ _ _ _ _ _) (fun hte _ => ?_) (fun _ hx => absurd hx (by decide))
    · obtain ⟨g0, g2, g3, g4, _⟩ := G
      refine ⟨fun w hw => ?_, fun w hw => ?_⟩
      · simp at hw
        rcases hw with rfl | rfl | rfl | rfl
        · exact g0.1
        · exact g2
        · exact g3.1
        · exact g4.1
      · simp at hw
        rcases hw with rfl | rfl | rfl
        · exact g0
        · exact g3
        · exact g4
    · refine q_Choles h (by rw [y_64]; omega) rfl hoC riC (by omega) (by omega) hn (fun hx c1 c2 c3 c4 cnt thm cells' => q_C130b (hb (fun G => hx ⟨G.2.2.2.2.1, G.2.2.2.2.2.1, G.2.2.2.2.2.2⟩) _ _ _ _ _ _ _ _ _ _ _ _)) (fun hx hn32 c1 c2 c3 c4 cnt cells' k l => ?_)
      have G : yGoodH mt ml mh (yHi mt mh 0).toInt ho.toInt (ho.toInt + 2 * ri.toInt) := ⟨hte.2 0 (by decide), hte.1 2 (by decide), hte.2 3 (by decide), hte.2 4 (by decide), hx.1, hx.2.1, hx.2.2⟩
      exact q_C130 h hd hd3 (by omega) bc k (bounds G).2 l (fun yard' hy => hg G _ _ _ _ _ _ _ _ _ _ _ _ _ k l rfl hy)
  · intro pad K hb hg
    refine ⟨fun _ => ⟨vf, fun hx => absurd kk4 hx, fun _ => ?_⟩, fun hx => absurd hx kk3⟩
    exact q_Mholes h hf hf8 hd hd3 v1 v2 (fun hm pst hp => by rw [← HH 2 hm]; exact hoM pst hp) riM (by omega) hoe (by omega) hn (fun hx c1 c3 => hb hx _ _ _) (fun G cnt cells k l => hg G cnt cells k l)
theorem q_keptC {lf lf2 : Nat → Int32} {G : Nat → Nat → Int} (h : ∀ k : Nat, k < 65 → lf k = lf2 k) : ∀ M : Nat, M ≤ 64 → yKept lf M = yKept lf2 M ∧ yFg lf G M = yFg lf2 G M := by
  intro M
  induction M with
  | zero => intro _; exact ⟨rfl, rfl⟩
  | succ M ih =>
    intro hM
    have h1 := ih (by omega)
    have h2 := h (M + 1) (by omega)
    rw [yKept, yKept, yFg, yFg, h2, h1.1, h1.2]
    exact ⟨rfl, rfl⟩
theorem q_balls {tb eb : Int32} {lo hi ml mh : Nat → Int64} {mt : Nat → Int32} (h : ySp tb eb lo hi ml mh mt) {V lf lf2 : Nat → Int32} {values : Nat → Int64} {fam d32 k32 : Int32} {f d : Nat} (hv : yVs V values f d) (hf : fam.toInt = f) (hd : d32.toInt = d) (hkk : k32.toInt = 3) (hlf : ∀ k : Nat, k < 65 → lf k = lf2 k ∧ (lf2 k = 0 ∨ lf2 k = 1)) : ∃ (G : Prop) (N : Nat) (F : Nat → Nat → Int) (tf : Bool), (G → yOK N F) ∧ yCs tb eb lo hi mh mt V lf 3 d32 d G N F tf ∧ yMs fam d32 k32 values mt lf2 ml mh (V 12).toInt64 G N F tf := by
  obtain ⟨hf8, hd3, hVb, hr1, v0, v1, v2, v3⟩ := hv
  have f0 : (0 : Int64).toInt = 0 := by decide
  have e0 : (0 : Int32).toInt = 0 := by decide
  have f2 : (2 : Int64).toInt = 2 := by decide
  have e3 : (3 : Int32).toInt = 3 := by decide
  have hr := hVb 12 (by decide)
  have bs := hVb (6 + d) (by omega)
  have bc := hVb (9 + d) (by omega)
  have h2r : (2 * (V 12).toInt64).toInt = 2 * (V 12).toInt := by rw [y_mul6 (by rw [f2, y_64]; omega) (by rw [f2, y_64]; omega), f2, y_64]
  have b3 := q_hiB h (k := 3) (by decide)
  have b7 := q_hiB h (k := 7) (by decide)
  have HH : ∀ k : Nat, mt k = 1 → yHi mt mh k = mh k := fun k hm => by unfold yHi; rw [if_pos hm]
  have s2 : (2 * (V (6 + d)).toInt64).toInt = 2 * (V (6 + d)).toInt := by rw [y_mul6 (by rw [f2, y_64]; omega) (by rw [f2, y_64]; omega), f2, y_64]
  have ph : (yHi mt mh 7 + 2 * (V (6 + d)).toInt64).toInt = (yHi mt mh 7).toInt + 2 * (V (6 + d)).toInt := by rw [y_add6 (by omega) (by omega), s2]
  obtain ⟨sz, hsz, szC, szM⟩ := q_up (p := yHi mt mh 7 + 2 * (V (6 + d)).toInt64) (r := 2 * (V 12).toInt64) (by omega) (by omega)
  have szb := q_upB (p := (yHi mt mh 7 + 2 * (V (6 + d)).toInt64).toInt) (r := (2 * (V 12).toInt64).toInt) (by omega)
  rw [← hsz] at szb
  have kk3 : k32 = 3 := by rw [y_eq, e3]; exact hkk
  have bounds : ∀ G : yGoodB mt ml mh lf2 sz.toInt, yOK (yKept lf2 ((yHi mt mh 5).toInt.toNat * (yHi mt mh 6).toInt.toNat)) (yFg lf2 (yBall (yHi mt mh 5).toInt.toNat (yHi mt mh 6).toInt.toNat (yHi mt mh 3).toInt sz.toInt) ((yHi mt mh 5).toInt.toNat * (yHi mt mh 6).toInt.toNat)) := by
    intro G
    obtain ⟨_, _, _, _, g5, g6, g7, g8, g9, g10⟩ := G
    exact q_okg (by omega) (by omega) (by omega) (by omega) g10
  refine ⟨yGoodB mt ml mh lf2 sz.toInt, yKept lf2 ((yHi mt mh 5).toInt.toNat * (yHi mt mh 6).toInt.toNat), yFg lf2 (yBall (yHi mt mh 5).toInt.toNat (yHi mt mh 6).toInt.toNat (yHi mt mh 3).toInt sz.toInt) ((yHi mt mh 5).toInt.toNat * (yHi mt mh 6).toInt.toNat), false, bounds, ?_, ?_⟩
  · intro R T H S P O I A X cells yard post hb hg
    refine q_Cpre h (by decide) [3, 5, 6, 7] [3, 5, 6] (by decide) (by decide) (by decide) (by decide) hd hd3 (fun hx => hb (fun G => hx ?_) _ _ _ _ _ _ _ _ _ _ _ _) (fun _ hx => absurd rfl hx) (fun hte _ => ?_)
    · obtain ⟨g3, g5, g6, g7, _⟩ := G
      refine ⟨fun w hw => ?_, fun w hw => ?_⟩
      · simp at hw
        rcases hw with rfl | rfl | rfl | rfl
        · exact g3.1
        · exact g5.1
        · exact g6.1
        · exact g7
      · simp at hw
        rcases hw with rfl | rfl | rfl
        · exact g3
        · exact g5
        · exact g6
    · refine q_Cballs h (fun k hk => by rw [(hlf k hk).1]; exact (hlf k hk).2) szC (by omega) (fun hx c1 c2 => q_C130b (hb (fun G => hx ⟨G.2.2.2.2.1, G.2.2.2.2.2.1, G.2.2.2.2.2.2.1, G.2.2.2.2.2.2.2.1, G.2.2.2.2.2.2.2.2.1⟩) _ _ _ _ _ _ _ _ _ _ _ _)) (fun hx cnt cells' k l => ?_)
      have h64 : (yHi mt mh 5).toInt.toNat * (yHi mt mh 6).toInt.toNat ≤ 64 := by
        have := hx.2.2.2
        exact Nat.mul_le_mul (show (yHi mt mh 5).toInt.toNat ≤ 8 by omega) (show (yHi mt mh 6).toInt.toNat ≤ 8 by omega)
      have hce := q_keptC (G := yBall (yHi mt mh 5).toInt.toNat (yHi mt mh 6).toInt.toNat (yHi mt mh 3).toInt sz.toInt) (fun k hk => (hlf k hk).1) ((yHi mt mh 5).toInt.toNat * (yHi mt mh 6).toInt.toNat) h64
      rw [hce.1] at k l
      rw [hce.2] at l
      by_cases hz : yKept lf2 ((yHi mt mh 5).toInt.toNat * (yHi mt mh 6).toInt.toNat) = 0
      · refine ⟨fun hy => absurd hy (by decide), fun _ => ⟨fun _ => ⟨y_n0, hb (fun G => G.2.2.2.2.2.2.2.2.2 hz) _ _ _ _ _ _ _ _ _ _ _ _⟩, fun hy => ?_⟩⟩
        rw [y_le] at hy
        omega
      · have G : yGoodB mt ml mh lf2 sz.toInt := ⟨hte.2 3 (by decide), hte.2 5 (by decide), hte.2 6 (by decide), hte.1 7 (by decide), hx.1, hx.2.1, hx.2.2.1, hx.2.2.2.1, hx.2.2.2.2, hz⟩
        exact q_C130 h hd hd3 (by omega) bc k (bounds G) l (fun yard' hy => hg G _ _ _ _ _ _ _ _ _ _ _ _ _ k l rfl hy)
  · intro pad K hb hg
    refine ⟨fun hx => absurd kk3 hx, fun _ => ?_⟩
    exact q_Mballs h hf hf8 hd hd3 v2 (fun hm pst hp => by rw [← HH 7 hm]; exact szM pst hp) (by omega) (fun hx c1 c2 => hb hx _ _ _) (fun G cnt cells k l => hg G cnt cells k l)
theorem q_M117 {tb eb : Int32} {lo hi ml mh : Nat → Int64} {mt : Nat → Int32} (h : ySp tb eb lo hi ml mh mt) {V L : Nat → Int32} {C32 : Int32} {values names court pad : Nat → Int64} {out title : Nat → Int32} {ts wr fam d32 pads hasTh : Int32} {paste0 : Int64} {f d C N : Nat} {F : Nat → Nat → Int} {post : Int32 → Int32 → Int32 → Int32 → Int32 → Int32 → Int32 → Int32 → Int32 → Int64 → (Nat → Int64) → (Nat → Int64) → (Nat → Int32) → (Nat → Int32) → Prop} (hv : yVs V values f d) (hf : fam.toInt = f) (hd : d32.toInt = d) (hv6 : values (30 * f + 18) = (V 14).toInt64) (hC : C32.toInt = C) (hC1 : 1 ≤ C ∧ C ≤ 4) (hL : ∀ i : Nat, i < C → 65 ≤ (L i).toInt ∧ (L i).toInt ≤ 90) (hname : (names f).toInt = yCode L C) (hN : pads.toInt = N) (hok : yOK N F) (hl : yLay pad N F) (hp : ∀ (court' : Nat → Int64) (ts' wr' : Int32) (out' title' : Nat → Int32), (∀ j : Nat, j < 4 → (court' j).toInt = yYard N F (yBody mt) (yBw mt mh (V 12).toInt 10) (yBw mt mh (V 12).toInt 11) (V (9 + d)).toInt (V 12).toInt j) → (yText (yName C32 L pads.toInt (yHi mt mh 0).toInt d32.toInt) pad court' N).length ≤ 4096 → yIs ts' title' (yName C32 L pads.toInt (yHi mt mh 0).toInt d32.toInt) → yIs wr' out' (yText (yName C32 L pads.toInt (yHi mt mh 0).toInt d32.toInt) pad court' N) → post pads 0 1 fam d32 pads hasTh ts' wr' (V 14).toInt64 pad court' out' title') : P_M_make_117 ts wr paste0 values mt mh court names out title post (V 12).toInt64 1 0 fam d32 pads hasTh pad := by
  obtain ⟨hf8, hd3, hVb, hr1, v0, v1, v2, v3⟩ := hv
  have hr := hVb 12 (by decide)
  have bc := hVb (9 + d) (by omega)
  have b0 := q_hiB h (k := 0) (by decide)
  have b10 := q_hiB h (k := 10) (by decide)
  have b11 := q_hiB h (k := 11) (by decide)
  have u10 := q_upB (p := (yHi mt mh 10).toInt) (r := 2 * (V 12).toInt) (by omega)
  have u11 := q_upB (p := (yHi mt mh 11).toInt) (r := 2 * (V 12).toInt) (by omega)
  have hN1 := hok.1
  refine ⟨⟨y_n1, by decide⟩, fun _ => ?_, fun hx => absurd hx (by decide)⟩
  refine q_findCourt h hf hf8 hd hd3 rfl (by omega) v3 bc hN hN1.1 hN1.2 hl (q_okSm hok) hok.2.2.2 rfl rfl (fun court' hc' => ?_)
  have hcb : ∀ j : Nat, j < 4 → -4000000000 ≤ (court' j).toInt ∧ (court' j).toInt ≤ 4000000000 := fun j hj => by
    rw [hc' j hj]
    exact q_yardB hok (by omega) (by omega) bc (by omega) j
  have hNl := q_nameL (C := C32) (L := L) (p := pads.toInt) (o := (yHi mt mh 0).toInt) (d := d32.toInt) (by omega)
  have hTl := q_textL (pad := pad) (court := court') hok hl hNl hcb
  refine q_Mof (m := 6) hf hf8 (by decide) (by decide) (by decide) ?_
  rw [hv6]
  refine q_findName hf hf8 hC hC1 hL hname (by omega) (h 0 (by decide)).1 (fun hm => by have := (h 0 (by decide)).2.2.2 hm; omega) (by omega) (fun ts' wr' out' title' g1 g2 => ?_)
  refine q_findText (n := N) hN hN1.2 (fun k hk => ?_) (fun j hj => by have := hcb j hj; omega) (by omega) g1 (fun wr'' out'' g3 => hp court' ts' wr'' out'' title' hc' hTl g2 g3)
  have hk7 : k = 7 * (k / 7) + k % 7 := by omega
  have := hl (k / 7) (by omega) (k % 7) (by omega)
  rw [← hk7] at this
  rw [this]
  have := q_okSm hok (k / 7) (by omega) (k % 7) (by omega)
  omega
theorem q_kinds {tb eb : Int32} {lo hi ml mh : Nat → Int64} {mt : Nat → Int32} (h : ySp tb eb lo hi ml mh mt) {V lf lf2 : Nat → Int32} {values : Nat → Int64} {fam d32 k32 : Int32} {f d kind : Nat} (hv : yVs V values f d) (hf : fam.toInt = f) (hd : d32.toInt = d) (hkk : k32.toInt = kind) (hk : kind < 5) (hlf : ∀ k : Nat, k < 65 → lf k = lf2 k ∧ (lf2 k = 0 ∨ lf2 k = 1)) : ∃ (G : Prop) (N : Nat) (F : Nat → Nat → Int) (tf : Bool), (G → yOK N F) ∧ yCs tb eb lo hi mh mt V lf kind d32 d G N F tf ∧ yMs fam d32 k32 values mt lf2 ml mh (V 12).toInt64 G N F tf := by
  have hc : (kind = 0 ∨ kind = 1 ∨ kind = 2) ∨ kind = 3 ∨ kind = 4 := by omega
  rcases hc with hc | rfl | rfl
  · exact q_flat h hv hf hd hkk hc
  · exact q_balls h hv hf hd hkk hlf
  · exact q_holes h hv hf hd hkk
