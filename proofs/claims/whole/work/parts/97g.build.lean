theorem q_areTold {tb eb : Int32} {lo hi ml mh : Nat → Int64} {mt : Nat → Int32} (h : ySp tb eb lo hi ml mh mt) {m : Int32} (ws : List Nat) (hw : ∀ w ∈ ws, w < 12) (hm : m = ws.foldr (fun w a => yPow w ||| a) 0) {post : Int32 → Prop} (h1 : (∀ w ∈ ws, mt w = 1) → post 1) (h0 : ¬ (∀ w ∈ ws, mt w = 1) → post 0) : P_Sp_areTold m tb post := by
  subst hm
  have e : (∀ w ∈ ws, yBit tb w) ↔ ∀ w ∈ ws, mt w = 1 := ⟨fun g w hx => ((h w (hw w hx)).2.1).1 (g w hx), fun g w hx => ((h w (hw w hx)).2.1).2 (g w hx)⟩
  exact ⟨fun hx => h0 (fun hy => hx ((y_mask ws).2 (e.2 hy))), fun hx => h1 (e.1 ((y_mask ws).1 hx))⟩
theorem q_areExact {tb eb : Int32} {lo hi ml mh : Nat → Int64} {mt : Nat → Int32} (h : ySp tb eb lo hi ml mh mt) {m : Int32} (ws : List Nat) (hw : ∀ w ∈ ws, w < 12) (hm : m = ws.foldr (fun w a => yPow w ||| a) 0) {post : Int32 → Prop} (h1 : (∀ w ∈ ws, mt w = 1 ∧ ml w = mh w) → post 1) (h0 : ¬ (∀ w ∈ ws, mt w = 1 ∧ ml w = mh w) → post 0) : P_Sp_areExact m eb post := by
  subst hm
  have e : (∀ w ∈ ws, yBit eb w) ↔ ∀ w ∈ ws, mt w = 1 ∧ ml w = mh w := ⟨fun g w hx => ((h w (hw w hx)).2.2.1).1 (g w hx), fun g w hx => ((h w (hw w hx)).2.2.1).2 (g w hx)⟩
  exact ⟨fun hx => h0 (fun hy => hx ((y_mask ws).2 (e.2 hy))), fun hx => h1 (e.1 ((y_mask ws).1 hx))⟩
theorem q_Cpre {tb eb : Int32} {lo hi ml mh : Nat → Int64} {mt : Nat → Int32} (h : ySp tb eb lo hi ml mh mt) {kind : Nat} (hk : kind < 5) (wsN wsE : List Nat) (hwN : ∀ w ∈ wsN, w < 12) (hwE : ∀ w ∈ wsE, w < 12) (hN : zKind_needed.getD kind 0 = wsN.foldr (fun w a => yPow w ||| a) 0) (hE : zKind_exact.getD kind 0 = wsE.foldr (fun w a => yPow w ||| a) 0) {d32 : Int32} {d : Nat} (hd : d32.toInt = d) (hd3 : d < 3) {R T H S P O I A X : Int64} {V lf : Nat → Int32} {cells yard : Nat → Int64} {post : Int32 → Int64 → Int64 → Int64 → Int64 → Int64 → Int64 → Int64 → Int64 → Int64 → Int32 → Int32 → Int32 → Int32 → Int64 → Int32 → (Nat → Int64) → (Nat → Int64) → Prop} (hb : ¬ ((∀ w ∈ wsN, mt w = 1) ∧ ∀ w ∈ wsE, mt w = 1 ∧ ml w = mh w) → post 0 R T H S P O I A X 0 0 (-1) d32 (yHi mt mh 0) 0 cells yard) (hs : ((∀ w ∈ wsN, mt w = 1) ∧ ∀ w ∈ wsE, mt w = 1 ∧ ml w = mh w) → ¬ kind = 3 → P_Ma_makeSides kind (V 12).toInt64 (V (0 + d)).toInt64 (V (3 + d)).toInt64 (V (6 + d)).toInt64 (yHi mt mh 3) tb hi lo 0 (-1) cells (fun (r28 : Int32) (u21 : Int64) (u22 : Int64) (u23 : Int64) (u24 : Int64) (u25 : Int32) (u26 : Int32) (u27 : Nat → Int64) => P_Ma_build_130 tb hi V yard post r28 (V 12).toInt64 (V (0 + d)).toInt64 (V (3 + d)).toInt64 (V (6 + d)).toInt64 (yHi mt mh 3) u21 u22 u23 u24 0 u25 u26 d32 (yHi mt mh 0) 0 u27)) (hgr : ((∀ w ∈ wsN, mt w = 1) ∧ ∀ w ∈ wsE, mt w = 1 ∧ ml w = mh w) → kind = 3 → P_Ma_makeGrid (V 12).toInt64 (V (6 + d)).toInt64 (yHi mt mh 3) tb hi lf 0 cells (fun (r31 : Int32) (u29 : Int32) (u30 : Nat → Int64) => P_Ma_build_130 tb hi V yard post r31 (V 12).toInt64 (V (0 + d)).toInt64 (V (3 + d)).toInt64 (V (6 + d)).toInt64 (yHi mt mh 3) O I A X 0 u29 (-1) d32 (yHi mt mh 0) 0 u30)) : P_Ma_build d32 kind R T H S P O I A X tb eb hi V lo cells lf yard post := by
  have e3 : (3 : Int32).toInt = 3 := by decide
  have e6 : (6 : Int32).toInt = 6 := by decide
  have e0 : (0 : Int32).toInt = 0 := by decide
  have k0 : (zKey_first.getD 0 0 + d32).toInt = ((0 + d : Nat) : Int) := by
    show ((0 : Int32) + d32).toInt = _
    rw [y_add (by omega) (by omega), e0]
    omega
  have k1 : (zKey_first.getD 1 0 + d32).toInt = ((3 + d : Nat) : Int) := by
    show ((3 : Int32) + d32).toInt = _
    rw [y_add (by omega) (by omega), e3]
    omega
  have k2 : (zKey_first.getD 2 0 + d32).toInt = ((6 + d : Nat) : Int) := by
    show ((6 : Int32) + d32).toInt = _
    rw [y_add (by omega) (by omega), e6]
    omega
  refine q_highOf h (k := 0) (by decide) (by decide) ⟨hk, q_areTold h wsN hwN hN (fun gN => ⟨fun hx => absurd hx (by decide), fun _ => ⟨hk, q_areExact h wsE hwE hE (fun gE => ⟨fun _ => ?_, fun hx => absurd hx (by decide)⟩) (fun gE => ⟨fun hx => absurd rfl hx, fun _ => hb (fun hx => gE hx.2)⟩)⟩⟩) (fun gN => ⟨fun _ => hb (fun hx => gN hx.1), fun hx => absurd rfl hx⟩)⟩
  exact q_of (s := 12) (by decide) (by decide) (by decide) (q_ofD (s := 0 + d) (by decide) k0 (by omega) (q_ofD (s := 3 + d) (by decide) k1 (by omega) (q_ofD (s := 6 + d) (by decide) k2 (by omega) (q_highOf h (k := 3) (by decide) (by decide) ⟨hk, fun hx => hs ⟨gN, gE⟩ hx, fun hx => hgr ⟨gN, gE⟩ hx⟩))))
/-- the body told, and its sides -/
def yBody (mt : Nat → Int32) : Bool := decide (mt 10 = 1 ∧ mt 11 = 1)
def yBw (mt : Nat → Int32) (mh : Nat → Int64) (r : Int) (k : Nat) : Int := yUp (yHi mt mh k).toInt (2 * r)
theorem q_C130 {tb eb : Int32} {lo hi ml mh : Nat → Int64} {mt : Nat → Int32} (h : ySp tb eb lo hi ml mh mt) {V : Nat → Int32} {yard cells : Nat → Int64} {post : Int32 → Int64 → Int64 → Int64 → Int64 → Int64 → Int64 → Int64 → Int64 → Int64 → Int32 → Int32 → Int32 → Int32 → Int64 → Int32 → (Nat → Int64) → (Nat → Int64) → Prop} {T H S P O I A X oh : Int64} {cnt th d32 iw : Int32} {N d : Nat} {F : Nat → Nat → Int} (hd : d32.toInt = d) (hd3 : d < 3) (hr : 1 ≤ (V 12).toInt ∧ (V 12).toInt ≤ 10000000) (hc : 0 ≤ (V (9 + d)).toInt ∧ (V (9 + d)).toInt ≤ 10000000) (hN : cnt.toInt = N) (hok : yOK N F) (hl : yLay cells N F) (hp : ∀ yard', (∀ j : Nat, j < 4 → (yard' j).toInt = yYard N F (yBody mt) (yBw mt mh (V 12).toInt 10) (yBw mt mh (V 12).toInt 11) (V (9 + d)).toInt (V 12).toInt j) → post 1 (V 12).toInt64 T H S P O I A X 1 cnt th d32 oh iw cells yard') : P_Ma_build_130 tb hi V yard post 1 (V 12).toInt64 T H S P O I A X 0 cnt th d32 oh iw cells := by
  have e0 : (0 : Int32).toInt = 0 := by decide
  have f2 : (2 : Int64).toInt = 2 := by decide
  have h2r : (2 * (V 12).toInt64).toInt = 2 * (V 12).toInt := by rw [y_mul6 (by rw [f2, y_64]; omega) (by rw [f2, y_64]; omega), f2, y_64]
  have b10 := q_hiB h (k := 10) (by decide)
  have b11 := q_hiB h (k := 11) (by decide)
  have u10 := q_upB (p := (yHi mt mh 10).toInt) (r := 2 * (V 12).toInt) (by omega)
  have u11 := q_upB (p := (yHi mt mh 11).toInt) (r := 2 * (V 12).toInt) (by omega)
  have hN1 := hok.1
  refine ⟨fun hx => absurd hx (by decide), fun _ => ⟨fun hx => ?_, fun _ => ?_⟩⟩
  · rw [y_le] at hx
    omega
  refine q_highOf h (k := 10) (by decide) (by decide) (q_upC (by omega) (by omega) (fun r5 g5 => q_highOf h (k := 11) (by decide) (by decide) (q_upC (by omega) (by omega) (fun r6 g6 => ?_))))
  rw [h2r] at g5 g6
  have yd : ∀ p5 : Int32, (!decide (p5 = 0)) = yBody mt → P_Fp_layYard r5 r6 p5 cnt d32 cells V yard (fun (u8 : Nat → Int64) => post 1 (V 12).toInt64 T H S P O I A X 1 cnt th d32 oh iw cells u8) := by
    intro p5 hp5
    refine q_Cyard hN hN1.1 hN1.2 hl (q_okSm hok) hd hd3 hr hc (by omega) (by omega) (fun yard' hy => hp yard' (fun j hj => ?_))
    rw [hy j hj, hp5, g5, g6]
    rfl
  refine q_isTold h (k := 10) (by decide) (by decide) (fun t => ⟨fun hx => absurd hx (by decide), fun _ => q_isTold h (k := 11) (by decide) (by decide) (fun t2 => ⟨fun hx => absurd hx (by decide), fun _ => yd 1 ?_⟩) (fun t2 => ⟨fun _ => yd 0 ?_, fun hx => absurd rfl hx⟩)⟩) (fun t => ⟨fun _ => yd 0 ?_, fun hx => absurd rfl hx⟩)
  · unfold yBody
    rw [decide_eq_true (⟨t, t2⟩ : mt 10 = 1 ∧ mt 11 = 1)]
    rfl
  · unfold yBody
    rw [decide_eq_false (fun hx : mt 10 = 1 ∧ mt 11 = 1 => t2 hx.2)]
    rfl
  · unfold yBody
    rw [decide_eq_false (fun hx : mt 10 = 1 ∧ mt 11 = 1 => t hx.1)]
    rfl
theorem q_C130b {tb : Int32} {hi : Nat → Int64} {V : Nat → Int32} {yard cells : Nat → Int64} {post : Int32 → Int64 → Int64 → Int64 → Int64 → Int64 → Int64 → Int64 → Int64 → Int64 → Int32 → Int32 → Int32 → Int32 → Int64 → Int32 → (Nat → Int64) → (Nat → Int64) → Prop} {R T H S P O I A X oh : Int64} {cnt th d32 iw : Int32} (hp : post 0 R T H S P O I A X 0 cnt th d32 oh iw cells yard) : P_Ma_build_130 tb hi V yard post 0 R T H S P O I A X 0 cnt th d32 oh iw cells := ⟨fun _ => ⟨y_n0, hp⟩, fun hx => absurd rfl hx⟩
/-- what the one side does -/
def yCs (tb eb : Int32) (lo hi mh : Nat → Int64) (mt V lf : Nat → Int32) (kind : Nat) (d32 : Int32) (d : Nat) (G : Prop) (N : Nat) (F : Nat → Nat → Int) (tf : Bool) : Prop := ∀ (R T H S P O I A X : Int64) (cells yard : Nat → Int64) (post : Int32 → Int64 → Int64 → Int64 → Int64 → Int64 → Int64 → Int64 → Int64 → Int64 → Int32 → Int32 → Int32 → Int32 → Int64 → Int32 → (Nat → Int64) → (Nat → Int64) → Prop), (¬ G → ∀ a1 a2 a3 a4 a5 a6 a7 a8 a9 cnt th cells', post 0 a1 a2 a3 a4 a5 a6 a7 a8 a9 0 cnt th d32 (yHi mt mh 0) 0 cells' yard) → (G → ∀ a1 a2 a3 a4 a5 a6 a7 a8 a9 (cnt th : Int32) cells' yard', cnt.toInt = N → yLay cells' N F → (if tf then th.toInt = N - 1 else th = -1) → (∀ j : Nat, j < 4 → (yard' j).toInt = yYard N F (yBody mt) (yBw mt mh (V 12).toInt 10) (yBw mt mh (V 12).toInt 11) (V (9 + d)).toInt (V 12).toInt j) → post 1 a1 a2 a3 a4 a5 a6 a7 a8 a9 1 cnt th d32 (yHi mt mh 0) 0 cells' yard') → P_Ma_build d32 kind R T H S P O I A X tb eb hi V lo cells lf yard post
/-- how the other branches by kind -/
def yMd (fam dens k32 : Int32) (values : Nat → Int64) (mt lf : Nat → Int32) (ml mh : Nat → Int64) (r : Int64) (pad : Nat → Int64) (K : Int32 → Int32 → Int32 → (Nat → Int64) → Prop) : Prop := (¬ k32 = 3 → vp_in fam 8 ∧ ((¬ k32 = 4 → vp_in fam 8 ∧ P_M_makeSides k32 r fam dens 0 0 mt mh values ml pad (fun r11 u8 u9 u10 => K r11 u8 u9 u10)) ∧ (k32 = 4 → P_M_makeHoles r fam dens 0 mt ml mh values pad (fun r14 u12 u13 => K r14 u12 0 u13)))) ∧ (k32 = 3 → P_M_makeBalls r fam dens 0 mt ml mh values lf pad (fun r17 u15 u16 => K r17 u15 0 u16))
def yMs (fam dens k32 : Int32) (values : Nat → Int64) (mt lf : Nat → Int32) (ml mh : Nat → Int64) (r : Int64) (G : Prop) (N : Nat) (F : Nat → Nat → Int) (tf : Bool) : Prop := ∀ (pad : Nat → Int64) (K : Int32 → Int32 → Int32 → (Nat → Int64) → Prop), (¬ G → ∀ a b c, K 0 a b c) → (G → ∀ (pads : Int32) pad', pads.toInt = N → yLay pad' N F → K 1 pads (if tf then 1 else 0) pad') → yMd fam dens k32 values mt lf ml mh r pad K
/-- the values of a family, for one density -/
def yVs (V : Nat → Int32) (values : Nat → Int64) (f d : Nat) : Prop := f < 8 ∧ d < 3 ∧ (∀ s : Nat, s < 18 → 0 ≤ (V s).toInt ∧ (V s).toInt ≤ 10000000) ∧ 1 ≤ (V 12).toInt ∧ values (30 * f + 3 * 0 + d) = (V (0 + d)).toInt64 ∧ values (30 * f + 3 * 1 + d) = (V (3 + d)).toInt64 ∧ values (30 * f + 3 * 2 + d) = (V (6 + d)).toInt64 ∧ values (30 * f + 3 * 3 + d) = (V (9 + d)).toInt64
theorem q_flat {tb eb : Int32} {lo hi ml mh : Nat → Int64} {mt : Nat → Int32} (h : ySp tb eb lo hi ml mh mt) {V lf lf2 : Nat → Int32} {values : Nat → Int64} {fam d32 k32 : Int32} {f d kind : Nat} (hv : yVs V values f d) (hf : fam.toInt = f) (hd : d32.toInt = d) (hkk : k32.toInt = kind) (hkind : kind = 0 ∨ kind = 1 ∨ kind = 2) : ∃ (G : Prop) (N : Nat) (F : Nat → Nat → Int) (tf : Bool), (G → yOK N F) ∧ yCs tb eb lo hi mh mt V lf kind d32 d G N F tf ∧ yMs fam d32 k32 values mt lf2 ml mh (V 12).toInt64 G N F tf := by
  obtain ⟨hf8, hd3, hVb, hr1, v0, v1, v2, v3⟩ := hv
  have f0 : (0 : Int64).toInt = 0 := by decide
  have f2 : (2 : Int64).toInt = 2 := by decide
  have e3 : (3 : Int32).toInt = 3 := by decide
  have e4 : (4 : Int32).toInt = 4 := by decide
  have hr := hVb 12 (by decide)
  have bt := hVb (0 + d) (by omega)
  have bh := hVb (3 + d) (by omega)
  have bs := hVb (6 + d) (by omega)
  have bc := hVb (9 + d) (by omega)
  have h2r : (2 * (V 12).toInt64).toInt = 2 * (V 12).toInt := by rw [y_mul6 (by rw [f2, y_64]; omega) (by rw [f2, y_64]; omega), f2, y_64]
  have b0 := q_hiB h (k := 0) (by decide)
  have b1 := q_hiB h (k := 1) (by decide)
  have b2 := q_hiB h (k := 2) (by decide)
  have b3 := q_hiB h (k := 3) (by decide)
  have b4 := q_hiB h (k := 4) (by decide)
  have b8 := q_hiB h (k := 8) (by decide)
  have b9 := q_hiB h (k := 9) (by decide)
  have HH : ∀ k : Nat, mt k = 1 → yHi mt mh k = mh k := fun k hm => by unfold yHi; rw [if_pos hm]
  have HL : ∀ k : Nat, mt k = 1 → yHi mt ml k = ml k := fun k hm => by unfold yHi; rw [if_pos hm]
  have t2 : (2 * (V (0 + d)).toInt64).toInt = 2 * (V (0 + d)).toInt := by rw [y_mul6 (by rw [f2, y_64]; omega) (by rw [f2, y_64]; omega), f2, y_64]
  have h2 : (2 * (V (3 + d)).toInt64).toInt = 2 * (V (3 + d)).toInt := by rw [y_mul6 (by rw [f2, y_64]; omega) (by rw [f2, y_64]; omega), f2, y_64]
  have s2 : (2 * (V (6 + d)).toInt64).toInt = 2 * (V (6 + d)).toInt := by rw [y_mul6 (by rw [f2, y_64]; omega) (by rw [f2, y_64]; omega), f2, y_64]
  have po : (yHi mt mh 0 + 2 * (V (0 + d)).toInt64).toInt = (yHi mt mh 0).toInt + 2 * (V (0 + d)).toInt := by rw [y_add6 (by omega) (by omega), t2]
  have pi : (yHi mt ml 1 - 2 * (V (3 + d)).toInt64).toInt = (yHi mt ml 1).toInt - 2 * (V (3 + d)).toInt := by rw [y_sub6 (by omega) (by omega), h2]
  have pa : (yHi mt mh 2 + 2 * (V (6 + d)).toInt64).toInt = (yHi mt mh 2).toInt + 2 * (V (6 + d)).toInt := by rw [y_add6 (by omega) (by omega), s2]
  obtain ⟨o, ho, hoC, hoM⟩ := q_up (p := yHi mt mh 0 + 2 * (V (0 + d)).toInt64) (r := 2 * (V 12).toInt64) (by omega) (by omega)
  obtain ⟨i, hi', hiC, hiM⟩ := q_dn (p := yHi mt ml 1 - 2 * (V (3 + d)).toInt64) (r := 2 * (V 12).toInt64) (by omega) (by omega)
  obtain ⟨a, ha, haC, haM⟩ := q_up (p := yHi mt mh 2 + 2 * (V (6 + d)).toInt64) (r := 2 * (V 12).toInt64) (by omega) (by omega)
  obtain ⟨tw, htw, htwC, htwM⟩ := q_up (p := yHi mt mh 8) (r := 2 * (V 12).toInt64) (by omega) (by omega)
  obtain ⟨th, hth, hthC, hthM⟩ := q_up (p := yHi mt mh 9) (r := 2 * (V 12).toInt64) (by omega) (by omega)
  have ob := q_upB (p := (yHi mt mh 0 + 2 * (V (0 + d)).toInt64).toInt) (r := (2 * (V 12).toInt64).toInt) (by omega)
  have ib := q_dnB (p := (yHi mt ml 1 - 2 * (V (3 + d)).toInt64).toInt) (r := (2 * (V 12).toInt64).toInt) (by omega)
  have ab := q_upB (p := (yHi mt mh 2 + 2 * (V (6 + d)).toInt64).toInt) (r := (2 * (V 12).toInt64).toInt) (by omega)
  have twb := q_upB (p := (yHi mt mh 8).toInt) (r := (2 * (V 12).toInt64).toInt) (by omega)
  have thb := q_upB (p := (yHi mt mh 9).toInt) (r := (2 * (V 12).toInt64).toInt) (by omega)
  have oe : o.toInt % 2 = 0 := by rw [ho, h2r]; exact q_upEven
  have ie : i.toInt % 2 = 0 := by rw [hi', h2r]; exact q_dnEven
  rw [← ho] at ob
  rw [← hi'] at ib
  rw [← ha] at ab
  rw [← htw] at twb
  rw [← hth] at thb
  have hnn : ∃ n : Nat, yPer kind (yHi mt mh 4).toInt = n := by
    refine ⟨(yPer kind (yHi mt mh 4).toInt).toNat, ?_⟩
    unfold yPer
    split
    · rfl
    · split <;> omega
  obtain ⟨n, hn⟩ := hnn
  have ok2 : ¬ kind = 2 → yGoodF kind mt ml mh o.toInt i.toInt a.toInt tw.toInt th.toInt → 1 ≤ n ∧ n ≤ 32 := by
    intro hk2 G
    obtain ⟨_, _, _, ⟨_, _, hx | hx⟩, _⟩ := G
    · unfold yPer at hn
      rw [if_pos hx] at hn
      omega
    · unfold yPer at hn
      rw [if_neg hk2] at hn hx
      split at hn <;> omega
  have ok4 : kind = 2 → yGoodF kind mt ml mh o.toInt i.toInt a.toInt tw.toInt th.toInt → 1 ≤ n ∧ n ≤ 16 := by
    intro hk2 G
    subst hk2
    obtain ⟨_, _, _, ⟨_, _, hx | hx⟩, _⟩ := G
    · exact absurd hx (by decide)
    · unfold yPer at hn
      simp at hn hx
      omega
  have kk3 : ¬ k32 = 3 := by rw [y_eq, e3]; omega
  have kk4 : ¬ k32 = 4 := by rw [y_eq, e4]; omega
  have vf : vp_in fam 8 := y_in (by omega) (by omega)
  have sizeC : ∀ (cells : Nat → Int64) (post : Int32 → Int64 → Int64 → Int64 → Int64 → Int32 → Int32 → (Nat → Int64) → Prop), (a.toInt ≤ 0 → P_Ma_makeSides_18 kind (V 12).toInt64 (yHi mt mh 3) tb hi 0 (-1) cells post 0 o i a 0) → (0 < a.toInt → P_Ma_makeSides_18 kind (V 12).toInt64 (yHi mt mh 3) tb hi 0 (-1) cells post 1 o i a 0) → P_Ma_makeSides kind (V 12).toInt64 (V (0 + d)).toInt64 (V (3 + d)).toInt64 (V (6 + d)).toInt64 (yHi mt mh 3) tb hi lo 0 (-1) cells post := by
    intro cells post g0 g1
    refine ⟨by omega, fun _ => q_highOf h (k := 0) (by decide) (by decide) (hoC _ (q_lowOf h (k := 1) (by decide) (by decide) (hiC _ (q_highOf h (k := 2) (by decide) (by decide) (haC _ ⟨fun hx => g0 ?_, fun hx => g1 ?_⟩))))), fun hx => by omega⟩
    · rw [y_le6, f0] at hx
      omega
    · rw [y_le6, f0] at hx
      omega
  have Gw : ∀ wsN wsE : List Nat, (0 ∈ wsN ∧ 1 ∈ wsN ∧ 2 ∈ wsN) → (kind = 0 ∨ 3 ∈ wsE ∧ 4 ∈ wsE) → ((∀ w ∈ wsN, mt w = 1) ∧ ∀ w ∈ wsE, mt w = 1 ∧ ml w = mh w) → (mt 0 = 1 ∧ mt 1 = 1 ∧ mt 2 = 1) ∧ (kind = 0 ∨ (mt 3 = 1 ∧ ml 3 = mh 3) ∧ (mt 4 = 1 ∧ ml 4 = mh 4)) := fun wsN wsE m1 m2 g => ⟨⟨g.1 0 m1.1, g.1 1 m1.2.1, g.1 2 m1.2.2⟩, m2.imp_right (fun m => ⟨g.2 3 m.1, g.2 4 m.2⟩)⟩
  have ox : ∀ G : yGoodF kind mt ml mh o.toInt i.toInt a.toInt tw.toInt th.toInt, 0 < i.toInt ∧ i.toInt < o.toInt ∧ 0 < a.toInt := fun G => ⟨G.2.2.2.1.1, G.2.2.2.1.2.1, G.2.2.1⟩
  by_cases hk2 : kind = 2
  · subst hk2
    refine ⟨yGoodF 2 mt ml mh o.toInt i.toInt a.toInt tw.toInt th.toInt, 4 * n + (if mt 8 = 1 ∧ mt 9 = 1 then 1 else 0), yF4 n (-(o.toInt / 2)) (i.toInt / 2) (yHi mt mh 3).toInt a.toInt ((o.toInt - i.toInt) / 2) tw.toInt th.toInt, decide (mt 8 = 1 ∧ mt 9 = 1), fun G => ?_, ?_, ?_⟩
    · have hn16 := ok4 rfl G
      have hox := ox G
      have hT := G.2.2.2.2 rfl
      have := q_ok4 (n := n) (xl := -(o.toInt / 2)) (xr := i.toInt / 2) (p := (yHi mt mh 3).toInt) (a := a.toInt) (w := (o.toInt - i.toInt) / 2) (tw := tw.toInt) (th := th.toInt) (t := decide (mt 8 = 1 ∧ mt 9 = 1)) hn16.1 hn16.2 (by omega) (by omega) (by omega) (by omega) (by omega) (fun hx => by have := hT (of_decide_eq_true hx); omega)
      simpa using this
    · intro R T H S P O I A X cells yard post hb hg
      refine q_Cpre h (by decide) [0, 1, 2, 3, 4] [3, 4] (by decide) (by decide) (by decide) (by decide) hd hd3 (fun hx => hb (fun G => hx ?_) _ _ _ _ _ _ _ _ _ _ _ _) (fun hte _ => ?_) (fun _ hx => absurd hx (by decide))
      · obtain ⟨g1, g2 | g2, _⟩ := G
        · exact absurd g2 (by decide)
        · refine ⟨fun w hw => ?_, fun w hw => ?_⟩
          · simp at hw
            rcases hw with rfl | rfl | rfl | rfl | rfl
            · exact g1.1
            · exact g1.2.1
            · exact g1.2.2
            · exact g2.1.1
            · exact g2.2.1
          · simp at hw
            rcases hw with rfl | rfl
            · exact g2.1
            · exact g2.2
      · have hgw := Gw [0, 1, 2, 3, 4] [3, 4] (by decide) (Or.inr (by decide)) hte
        have step : ∀ t0 : Int32, (¬ t0 = 0 ↔ 0 < a.toInt) → P_Ma_makeSides_18 2 (V 12).toInt64 (yHi mt mh 3) tb hi 0 (-1) cells (fun (r28 : Int32) (u21 : Int64) (u22 : Int64) (u23 : Int64) (u24 : Int64) (u25 : Int32) (u26 : Int32) (u27 : Nat → Int64) => P_Ma_build_130 tb hi V yard post r28 (V 12).toInt64 (V (0 + d)).toInt64 (V (3 + d)).toInt64 (V (6 + d)).toInt64 (yHi mt mh 3) u21 u22 u23 u24 0 u25 u26 d32 (yHi mt mh 0) 0 u27) t0 o i a 0 := by
          intro t0 ht0
          refine q_C18quad h hn (by omega) (by omega) (by omega) (by omega) (fun hx => by have := ht0.1 hx; omega) htwC hthC (fun hx c1 c2 c3 c4 cnt thm cells' => q_C130b (hb (fun G => hx ⟨ht0.2 G.2.2.1, G.2.2.2.1, G.2.2.2.2 rfl⟩) _ _ _ _ _ _ _ _ _ _ _ _)) (fun hx hn16 c1 c2 c3 c4 cnt thm cells' k l ht => ?_)
          have G : yGoodF 2 mt ml mh o.toInt i.toInt a.toInt tw.toInt th.toInt := ⟨hgw.1, hgw.2, ht0.1 hx.1, hx.2.1, fun _ => hx.2.2⟩
          have hn16 := ok4 rfl G
          have hox := ox G
          have hok := q_ok4 (n := n) (xl := -(o.toInt / 2)) (xr := i.toInt / 2) (p := (yHi mt mh 3).toInt) (a := a.toInt) (w := (o.toInt - i.toInt) / 2) (tw := tw.toInt) (th := th.toInt) (t := decide (mt 8 = 1 ∧ mt 9 = 1)) hn16.1 hn16.2 (by omega) (by omega) (by omega) (by omega) (by omega) (fun hy => by have := hx.2.2 (of_decide_eq_true hy); omega)
          have hok' : yOK (4 * n + (if mt 8 = 1 ∧ mt 9 = 1 then 1 else 0)) (yF4 n (-(o.toInt / 2)) (i.toInt / 2) (yHi mt mh 3).toInt a.toInt ((o.toInt - i.toInt) / 2) tw.toInt th.toInt) := by simpa using hok
          refine q_C130 h hd hd3 (by omega) bc k hok' l (fun yard' hy => hg G _ _ _ _ _ _ _ _ _ _ _ _ _ k l ?_ hy)
          by_cases hb89 : mt 8 = 1 ∧ mt 9 = 1
          · rw [if_pos hb89] at ht ⊢
            rw [if_pos (by simpa using hb89)]
            omega
          · rw [if_neg hb89] at ht
            rw [if_neg (by simpa using hb89)]
            exact ht
        exact sizeC cells _ (fun hx => step 0 ⟨fun hy => absurd rfl hy, fun hy => by omega⟩) (fun hx => step 1 ⟨fun _ => hx, fun _ => by decide⟩)
    · intro pad K hb hg
      refine ⟨fun _ => ⟨vf, fun _ => ⟨vf, ?_⟩, fun hx => absurd hx kk4⟩, fun hx => absurd hx kk3⟩
      refine q_Mflat h hkk (Or.inr (Or.inr rfl)) hf hf8 hd hd3 v0 v1 v2 (fun hm pst hp => by rw [← HH 0 hm]; exact hoM pst hp) (fun hm pst hp => by rw [← HL 1 hm]; exact hiM pst hp) (fun hm pst hp => by rw [← HH 2 hm]; exact haM pst hp) (by omega) (by omega) (fun hm pst hp => by rw [← HH 8 hm]; exact htwM pst hp) (fun hm pst hp => by rw [← HH 9 hm]; exact hthM pst hp) hn (fun hx c1 c2 c3 => hb hx _ _ _) (fun hx => absurd rfl hx) (fun _ G cnt cells k l => ?_)
      have := hg G cnt cells k l
      simpa using this
  · have hk01 : kind = 0 ∨ kind = 1 := by omega
    refine ⟨yGoodF kind mt ml mh o.toInt i.toInt a.toInt tw.toInt th.toInt, 2 * n, yF2 n (-(o.toInt / 2)) (i.toInt / 2) (yHi mt mh 3).toInt a.toInt ((o.toInt - i.toInt) / 2) 0 0, false, fun G => ?_, ?_, ?_⟩
    · have hn32 := ok2 hk2 G
      have hox := ox G
      exact q_ok2 hn32.1 hn32.2 (by omega) (by omega) (by omega) (by omega) (by omega) (Or.inl rfl) (by omega)
    · intro R T H S P O I A X cells yard post hb hg
      have core : ∀ wsN wsE : List Nat, (0 ∈ wsN ∧ 1 ∈ wsN ∧ 2 ∈ wsN) → (kind = 0 ∨ 3 ∈ wsE ∧ 4 ∈ wsE) → ((∀ w ∈ wsN, mt w = 1) ∧ ∀ w ∈ wsE, mt w = 1 ∧ ml w = mh w) → P_Ma_makeSides kind (V 12).toInt64 (V (0 + d)).toInt64 (V (3 + d)).toInt64 (V (6 + d)).toInt64 (yHi mt mh 3) tb hi lo 0 (-1) cells (fun (r28 : Int32) (u21 : Int64) (u22 : Int64) (u23 : Int64) (u24 : Int64) (u25 : Int32) (u26 : Int32) (u27 : Nat → Int64) => P_Ma_build_130 tb hi V yard post r28 (V 12).toInt64 (V (0 + d)).toInt64 (V (3 + d)).toInt64 (V (6 + d)).toInt64 (yHi mt mh 3) u21 u22 u23 u24 0 u25 u26 d32 (yHi mt mh 0) 0 u27) := by
        intro wsN wsE m1 m2 hte
        have hgw := Gw wsN wsE m1 m2 hte
        have step : ∀ t0 : Int32, (¬ t0 = 0 ↔ 0 < a.toInt) → P_Ma_makeSides_18 kind (V 12).toInt64 (yHi mt mh 3) tb hi 0 (-1) cells (fun (r28 : Int32) (u21 : Int64) (u22 : Int64) (u23 : Int64) (u24 : Int64) (u25 : Int32) (u26 : Int32) (u27 : Nat → Int64) => P_Ma_build_130 tb hi V yard post r28 (V 12).toInt64 (V (0 + d)).toInt64 (V (3 + d)).toInt64 (V (6 + d)).toInt64 (yHi mt mh 3) u21 u22 u23 u24 0 u25 u26 d32 (yHi mt mh 0) 0 u27) t0 o i a 0 := by
          intro t0 ht0
          refine q_C18two h (by omega) hk2 hn (by omega) (by omega) (by omega) (by omega) (fun hx => by have := ht0.1 hx; omega) (fun hx c1 c2 c3 c4 cnt thm cells' => q_C130b (hb (fun G => hx ⟨ht0.2 G.2.2.1, G.2.2.2.1⟩) _ _ _ _ _ _ _ _ _ _ _ _)) (fun hx hn32 c1 c2 c3 c4 cnt cells' k l => ?_)
          have G : yGoodF kind mt ml mh o.toInt i.toInt a.toInt tw.toInt th.toInt := ⟨hgw.1, hgw.2, ht0.1 hx.1, hx.2, fun hy => absurd hy hk2⟩
          have hn32 := ok2 hk2 G
          have hox := ox G
          rw [f0, if_pos (by omega)] at l
          exact q_C130 h hd hd3 (by omega) bc k (q_ok2 hn32.1 hn32.2 (by omega) (by omega) (by omega) (by omega) (by omega) (Or.inl rfl) (by omega)) l (fun yard' hy => hg G _ _ _ _ _ _ _ _ _ _ _ _ _ k l rfl hy)
        exact sizeC cells _ (fun hx => step 0 ⟨fun hy => absurd rfl hy, fun hy => by omega⟩) (fun hx => step 1 ⟨fun _ => hx, fun _ => by decide⟩)
      rcases hk01 with rfl | rfl
      · refine q_Cpre h (by decide) [0, 1, 2] [] (by decide) (by decide) (by decide) (by decide) hd hd3 (fun hx => hb (fun G => hx ?_) _ _ _ _ _ _ _ _ _ _ _ _) (fun hte _ => core [0, 1, 2] [] (by decide) (Or.inl rfl) hte) (fun _ hx => absurd hx (by decide))
        obtain ⟨g1, _⟩ := G
        refine ⟨fun w hw => ?_, fun w hw => absurd hw (by simp)⟩
        simp at hw
        rcases hw with rfl | rfl | rfl
        · exact g1.1
        · exact g1.2.1
        · exact g1.2.2
      · refine q_Cpre h (by decide) [0, 1, 2, 3, 4] [3, 4] (by decide) (by decide) (by decide) (by decide) hd hd3 (fun hx => hb (fun G => hx ?_) _ _ _ _ _ _ _ _ _ _ _ _) (fun hte _ => core [0, 1, 2, 3, 4] [3, 4] (by decide) (Or.inr (by decide)) hte) (fun _ hx => absurd hx (by decide))
        obtain ⟨g1, g2 | g2, _⟩ := G
        · exact absurd g2 (by decide)
        · refine ⟨fun w hw => ?_, fun w hw => ?_⟩
          · simp at hw
            rcases hw with rfl | rfl | rfl | rfl | rfl
            · exact g1.1
            · exact g1.2.1
            · exact g1.2.2
            · exact g2.1.1
            · exact g2.2.1
          · simp at hw
            rcases hw with rfl | rfl
            · exact g2.1
            · exact g2.2
    · intro pad K hb hg
      refine ⟨fun _ => ⟨vf, fun _ => ⟨vf, ?_⟩, fun hx => absurd hx kk4⟩, fun hx => absurd hx kk3⟩
      exact q_Mflat h hkk hkind hf hf8 hd hd3 v0 v1 v2 (fun hm pst hp => by rw [← HH 0 hm]; exact hoM pst hp) (fun hm pst hp => by rw [← HL 1 hm]; exact hiM pst hp) (fun hm pst hp => by rw [← HH 2 hm]; exact haM pst hp) (by omega) (by omega) (fun hm pst hp => by rw [← HH 8 hm]; exact htwM pst hp) (fun hm pst hp => by rw [← HH 9 hm]; exact hthM pst hp) hn (fun hx c1 c2 c3 => hb hx _ _ _) (fun _ G cnt cells k l => hg G cnt cells k l) (fun hx => absurd hx hk2)
