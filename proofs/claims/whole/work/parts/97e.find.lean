theorem q_wider {p1 p3 p5 p7 : Int64} {u : Nat → Int64} {post : (Nat → Int64) → Prop} (h : ∀ v : Nat → Int64, (v 0).toInt = yLo (u 0).toInt p1.toInt → (v 1).toInt = yLo (u 1).toInt p3.toInt → (v 2).toInt = yHg (u 2).toInt p5.toInt → (v 3).toInt = yHg (u 3).toInt p7.toInt → post v) : P_M_wider p1 p3 p5 p7 u post := by
  have v0 : vp_in 0 4 := y_in (by decide) (by decide)
  have v1 : vp_in 1 4 := y_in (by decide) (by decide)
  have v2 : vp_in 2 4 := y_in (by decide) (by decide)
  have v3 : vp_in 3 4 := y_in (by decide) (by decide)
  have s3 : ∀ (a0 a1 a2 : Int64), a0.toInt = yLo (u 0).toInt p1.toInt → a1.toInt = yLo (u 1).toInt p3.toInt → a2.toInt = yHg (u 2).toInt p5.toInt → P_M_wider_82 p7 post a2 2 (vp_updL (vp_updL u (0 : Int32).toNatClampNeg a0) (1 : Int32).toNatClampNeg a1) := by
    intro a0 a1 a2 g0 g1 g2
    refine ⟨v2, v3, fun hx => ⟨v3, v3, h _ g0 g1 g2 ?_⟩, fun hx => ⟨v3, h _ g0 g1 g2 ?_⟩⟩
    · have hx : p7 ≤ u 3 := hx
      rw [y_le6] at hx
      show (u 3).toInt = _
      rw [yHg, if_pos hx]
    · have hx : ¬ p7 ≤ u 3 := hx
      rw [y_le6] at hx
      show p7.toInt = _
      rw [yHg, if_neg hx]
  have s2 : ∀ (a0 a1 : Int64), a0.toInt = yLo (u 0).toInt p1.toInt → a1.toInt = yLo (u 1).toInt p3.toInt → P_M_wider_53 p5 p7 post a1 1 (vp_updL u (0 : Int32).toNatClampNeg a0) := by
    intro a0 a1 g0 g1
    refine ⟨v1, v2, fun hx => ⟨v2, s3 a0 a1 _ g0 g1 ?_⟩, fun hx => s3 a0 a1 _ g0 g1 ?_⟩
    · have hx : p5 ≤ u 2 := hx
      rw [y_le6] at hx
      show (u 2).toInt = _
      rw [yHg, if_pos hx]
    · have hx : ¬ p5 ≤ u 2 := hx
      rw [y_le6] at hx
      rw [yHg, if_neg hx]
  have s1 : ∀ a0 : Int64, a0.toInt = yLo (u 0).toInt p1.toInt → P_M_wider_26 p3 p5 p7 u post a0 0 := by
    intro a0 g0
    refine ⟨v0, v1, fun hx => ⟨v1, s2 a0 _ g0 ?_⟩, fun hx => s2 a0 _ g0 ?_⟩
    · have hx : u 1 ≤ p3 := hx
      rw [y_le6] at hx
      show (u 1).toInt = _
      rw [yLo, if_pos hx]
    · have hx : ¬ u 1 ≤ p3 := hx
      rw [y_le6] at hx
      rw [yLo, if_neg hx]
  refine ⟨v0, fun hx => ⟨v0, s1 _ ?_⟩, fun hx => s1 _ ?_⟩
  · have hx : u 0 ≤ p1 := hx
    rw [y_le6] at hx
    show (u 0).toInt = _
    rw [yLo, if_pos hx]
  · have hx : ¬ u 0 ≤ p1 := hx
    rw [y_le6] at hx
    rw [yLo, if_neg hx]
def yMnB (B : Int) (f : Nat → Int) : Nat → Int
  | 0 => B
  | n + 1 => yLo (yMnB B f n) (f n)
def yMxB (B : Int) (f : Nat → Int) : Nat → Int
  | 0 => B
  | n + 1 => yHg (yMxB B f n) (f n)
theorem q_mnBs {B : Int} {f : Nat → Int} : ∀ n : Nat, yMnB B f (n + 1) = yLo B (yMn f n) := by
  intro n
  induction n with
  | zero => rfl
  | succ n ih =>
    rw [yMnB, ih, yMn]
    unfold yLo
    split <;> split <;> (repeat' split) <;> omega
theorem q_mxBs {B : Int} {f : Nat → Int} : ∀ n : Nat, yMxB B f (n + 1) = yHg B (yMx f n) := by
  intro n
  induction n with
  | zero => rfl
  | succ n ih =>
    rw [yMxB, ih, yMx]
    unfold yHg
    split <;> split <;> (repeat' split) <;> omega
theorem q_mnBE {B : Int} {f : Nat → Int} {N : Nat} (hN : 1 ≤ N) (h : ∃ k : Nat, k < N ∧ f k ≤ B) : yMnB B f N = yMn f (N - 1) := by
  obtain ⟨k, hk, hf⟩ := h
  have h1 := q_mnBs (B := B) (f := f) (N - 1)
  have h2 := q_mnL (f := f) (k := k) (N - 1) (by omega)
  rw [show N - 1 + 1 = N by omega] at h1
  rw [h1]
  unfold yLo
  split <;> omega
theorem q_mxBE {B : Int} {f : Nat → Int} {N : Nat} (hN : 1 ≤ N) (h : ∃ k : Nat, k < N ∧ B ≤ f k) : yMxB B f N = yMx f (N - 1) := by
  obtain ⟨k, hk, hf⟩ := h
  have h1 := q_mxBs (B := B) (f := f) (N - 1)
  have h2 := q_mxL (f := f) (k := k) (N - 1) (by omega)
  rw [show N - 1 + 1 = N by omega] at h1
  rw [h1]
  unfold yHg
  split <;> omega
/-- some pad's edges lie within the bounds that the other begins with -/
def yMeet (N : Nat) (F : Nat → Nat → Int) : Prop := (∃ k : Nat, k < N ∧ F k 1 ≤ 1000000000) ∧ (∃ k : Nat, k < N ∧ F k 2 ≤ 1000000000) ∧ (∃ k : Nat, k < N ∧ -1000000000 ≤ F k 1 + F k 3) ∧ ∃ k : Nat, k < N ∧ -1000000000 ≤ F k 2 + F k 4
theorem q_M179 {r : Int64} {fam dens : Int32} {values : Nat → Int64} {V : Nat → Int32} {post : (Nat → Int64) → Prop} {f d : Nat} (hf : fam.toInt = f) (hf8 : f < 8) (hd : dens.toInt = d) (hd3 : d < 3) (hr : r = (V 12).toInt64) (hrb : 1 ≤ (V 12).toInt ∧ (V 12).toInt ≤ 10000000) (hv : values (30 * f + 3 * 3 + d) = (V (9 + d)).toInt64) (hc : 0 ≤ (V (9 + d)).toInt ∧ (V (9 + d)).toInt ≤ 10000000) {u : Nat → Int64} {E : Nat → Int} (hE : ∀ j : Nat, -4000000000 ≤ E j ∧ E j ≤ 4000000000) (h0 : (u 0).toInt = E 0) (h1 : (u 1).toInt = E 1) (h2 : (u 2).toInt = E 2) (h3 : (u 3).toInt = E 3) (h : ∀ v : Nat → Int64, (∀ j : Nat, j < 4 → (v j).toInt = if j < 2 then yDn (E j - (V (9 + d)).toInt) (V 12).toInt else yUp (E j + (V (9 + d)).toInt) (V 12).toInt) → post v) : P_M_findCourt_179 r fam dens values post u := by
  have v0 : vp_in 0 4 := y_in (by decide) (by decide)
  have v1 : vp_in (0 + 1) 4 := y_in (by decide) (by decide)
  have v2 : vp_in (0 + 1 + 1) 4 := y_in (by decide) (by decide)
  have v3 : vp_in (0 + 1 + 1 + 1) 4 := y_in (by decide) (by decide)
  have E0 := hE 0
  have E1 := hE 1
  have E2 := hE 2
  have E3 := hE 3
  have s0 : (u 0 - (V (9 + d)).toInt64).toInt = E 0 - (V (9 + d)).toInt := by rw [y_sub6 (by rw [y_64]; omega) (by rw [y_64]; omega), y_64, h0]
  have s1 : (u 1 - (V (9 + d)).toInt64).toInt = E 1 - (V (9 + d)).toInt := by rw [y_sub6 (by rw [y_64]; omega) (by rw [y_64]; omega), y_64, h1]
  have s2 : (u 2 + (V (9 + d)).toInt64).toInt = E 2 + (V (9 + d)).toInt := by rw [y_add6 (by rw [y_64]; omega) (by rw [y_64]; omega), y_64, h2]
  have s3 : (u 3 + (V (9 + d)).toInt64).toInt = E 3 + (V (9 + d)).toInt := by rw [y_add6 (by rw [y_64]; omega) (by rw [y_64]; omega), y_64, h3]
  have hrr : r.toInt = (V 12).toInt := by rw [hr, y_64]
  refine ⟨5, ?_⟩
  refine ⟨fun hx => absurd hx (by decide), fun _ => ⟨fun hx => absurd hx (by decide), fun _ => ⟨v0, q_MofV (m := 3) hf hf8 (by decide) (by decide) hd hd3 hv (q_dnM (p := u 0 - (V (9 + d)).toInt64) (by omega) (by omega) (fun r3 g3 => ⟨v0, fun x ex => ?_⟩))⟩⟩⟩
  subst ex
  refine ⟨fun hx => absurd hx (by decide), fun _ => ⟨fun hx => absurd hx (by decide), fun _ => ⟨v1, q_MofV (m := 3) hf hf8 (by decide) (by decide) hd hd3 hv (q_dnM (p := u 1 - (V (9 + d)).toInt64) (by omega) (by omega) (fun r5 g5 => ⟨v1, fun x ex => ?_⟩))⟩⟩⟩
  subst ex
  refine ⟨fun hx => absurd hx (by decide), fun _ => ⟨fun _ => ⟨v2, q_MofV (m := 3) hf hf8 (by decide) (by decide) hd hd3 hv (q_upM (p := u 2 + (V (9 + d)).toInt64) (by omega) (by omega) (fun r7 g7 => ⟨v2, fun x ex => ?_⟩))⟩, fun hx => absurd (by decide) hx⟩⟩
  subst ex
  refine ⟨fun hx => absurd hx (by decide), fun _ => ⟨fun _ => ⟨v3, q_MofV (m := 3) hf hf8 (by decide) (by decide) hd hd3 hv (q_upM (p := u 3 + (V (9 + d)).toInt64) (by omega) (by omega) (fun r9 g9 => ⟨v3, fun x ex => ?_⟩))⟩, fun hx => absurd (by decide) hx⟩⟩
  subst ex
  refine ⟨fun _ => h _ (fun j hj => ?_), fun hx => absurd (by decide) hx⟩
  rw [s0, hrr] at g3
  rw [s1, hrr] at g5
  rw [s2, hrr] at g7
  rw [s3, hrr] at g9
  have hjj : j = 0 ∨ j = 1 ∨ j = 2 ∨ j = 3 := by omega
  rcases hjj with rfl | rfl | rfl | rfl
  · exact g3
  · exact g5
  · exact g7
  · exact g9
theorem q_findCourt {tb eb : Int32} {lo hi ml mh : Nat → Int64} {mt : Nat → Int32} (h : ySp tb eb lo hi ml mh mt) {r : Int64} {fam dens pads : Int32} {court pad values : Nat → Int64} {V : Nat → Int32} {post : (Nat → Int64) → Prop} {f d N : Nat} {F : Nat → Nat → Int} (hf : fam.toInt = f) (hf8 : f < 8) (hd : dens.toInt = d) (hd3 : d < 3) (hr : r = (V 12).toInt64) (hrb : 1 ≤ (V 12).toInt ∧ (V 12).toInt ≤ 10000000) (hv : values (30 * f + 3 * 3 + d) = (V (9 + d)).toInt64) (hc : 0 ≤ (V (9 + d)).toInt ∧ (V (9 + d)).toInt ≤ 10000000) (hN : pads.toInt = N) (hN1 : 1 ≤ N) (hN65 : N ≤ 65) (hl : yLay pad N F) (hs : ySm N F) (hm : yMeet N F) {bw bh : Int} (hbw : bw = yUp (yHi mt mh 10).toInt (2 * (V 12).toInt)) (hbh : bh = yUp (yHi mt mh 11).toInt (2 * (V 12).toInt)) (hpost : ∀ court' : Nat → Int64, (∀ j : Nat, j < 4 → (court' j).toInt = yYard N F (decide (mt 10 = 1 ∧ mt 11 = 1)) bw bh (V (9 + d)).toInt (V 12).toInt j) → post court') : P_M_findCourt r fam dens pads court mt mh pad values post := by
  have e0 : (0 : Int32).toInt = 0 := by decide
  have e1 : (1 : Int32).toInt = 1 := by decide
  have e2 : (2 : Int32).toInt = 2 := by decide
  have e3 : (3 : Int32).toInt = 3 := by decide
  have e4 : (4 : Int32).toInt = 4 := by decide
  have e7 : (7 : Int32).toInt = 7 := by decide
  have f2 : (2 : Int64).toInt = 2 := by decide
  have v10 : vp_in 10 12 := y_in (by decide) (by decide)
  have v11 : vp_in 11 12 := y_in (by decide) (by decide)
  have T := fun k (hk : k < 12) => (h k hk).1
  have B : ∀ k : Nat, k < N → ∀ j : Nat, j < 7 → -2000000000 ≤ (pad (7 * k + j)).toInt ∧ (pad (7 * k + j)).toInt ≤ 2000000000 := fun k hk j hj => by rw [hl k hk j hj]; exact hs k hk j hj
  have hrr : r.toInt = (V 12).toInt := by rw [hr, y_64]
  have h2r : (2 * r).toInt = 2 * (V 12).toInt := by rw [y_mul6 (by rw [f2]; omega) (by rw [f2]; omega), f2, hrr]
  have hb10 := q_hiB h (k := 10) (by decide)
  have hb11 := q_hiB h (k := 11) (by decide)
  have ub10 := q_upB (p := (yHi mt mh 10).toInt) (r := 2 * (V 12).toInt) (by omega)
  have ub11 := q_upB (p := (yHi mt mh 11).toInt) (r := 2 * (V 12).toInt) (by omega)
  rw [← hbw] at ub10
  rw [← hbh] at ub11
  obtain ⟨m1, m2, m3, m4⟩ := hm
  have hEb := fun j => q_edgeB (N := N) (F := F) (body := decide (mt 10 = 1 ∧ mt 11 = 1)) (bw := bw) (bh := bh) hN1 hs (by omega) (by omega) j
  have done : ∀ u : Nat → Int64, (u 0).toInt = yEdge N F (decide (mt 10 = 1 ∧ mt 11 = 1)) bw bh 0 → (u 1).toInt = yEdge N F (decide (mt 10 = 1 ∧ mt 11 = 1)) bw bh 1 → (u 2).toInt = yEdge N F (decide (mt 10 = 1 ∧ mt 11 = 1)) bw bh 2 → (u 3).toInt = yEdge N F (decide (mt 10 = 1 ∧ mt 11 = 1)) bw bh 3 → P_M_findCourt_179 r fam dens values post u := fun u g0 g1 g2 g3 => q_M179 hf hf8 hd hd3 hr hrb hv hc hEb g0 g1 g2 g3 (fun v hv => hpost v (fun j hj => by rw [hv j hj, yYard]))
  have hx7 : (7 * pads).toInt = 7 * N := by rw [y_mul (by rw [e7]; omega) (by rw [e7]; omega), e7, hN]
  have loop : ∀ (e : Nat) (y : Int32) (u : Nat → Int64) (k : Nat), y.toInt = 7 * k → k + e = N → (u 0).toInt = yMnB 1000000000 (fun k => F k 1) k → (u 1).toInt = yMnB 1000000000 (fun k => F k 2) k → (u 2).toInt = yMxB (-1000000000) (fun k => F k 1 + F k 3) k → (u 3).toInt = yMxB (-1000000000) (fun k => F k 2 + F k 4) k → P_M_findCourt_35 r fam dens pads mt mh pad values post (e + 1) y u := by
    intro e
    induction e with
    | zero =>
      intro y u k g0 g1 g2 g3 g4 g5
      have ek : k = N := by omega
      subst ek
      rw [q_mnBE hN1 m1] at g2
      rw [q_mnBE hN1 m2] at g3
      rw [q_mxBE hN1 m3] at g4
      rw [q_mxBE hN1 m4] at g5
      have nobody : ¬ (mt 10 = 1 ∧ mt 11 = 1) → P_M_findCourt_179 r fam dens values post u := by
        intro hx
        refine done u ?_ ?_ ?_ ?_
        · rw [g2]; simp [yEdge, hx]
        · rw [g3]; simp [yEdge, hx]
        · rw [g4]; simp [yEdge, hx]
        · rw [g5]; simp [yEdge, hx]
      refine ⟨fun _ => ⟨v10, fun t => nobody (fun hx => absurd (t.symm.trans hx.1) (by decide)), fun t => ⟨v11, fun t2 => nobody (fun hx => absurd (t2.symm.trans hx.2) (by decide)), fun t2 => ⟨v10, ?_⟩⟩⟩, fun hx => ?_⟩
      · have k10 : mt 10 = 1 := (T 10 (by decide)).resolve_left t
        have k11 : mt 11 = 1 := (T 11 (by decide)).resolve_left t2
        have hh10 : yHi mt mh 10 = mh 10 := by unfold yHi; rw [if_pos k10]
        have hh11 : yHi mt mh 11 = mh 11 := by unfold yHi; rw [if_pos k11]
        rw [hh10] at hb10 hbw ub10
        rw [hh11] at hb11 hbh ub11
        refine q_upM (p := mh 10) (by omega) (by omega) (fun r7 g7 x8 e8 => ⟨v11, q_upM (p := mh 11) (by omega) (by omega) (fun r10 g10 x11 e11 => ?_)⟩)
        rw [h2r, ← hbw] at g7
        rw [h2r, ← hbh] at g10
        have hx8 : x8.toInt = bw / 2 := by rw [e8, q_half (by omega), g7]
        have hx11 : x11.toInt = bh / 2 := by rw [e11, q_half (by omega), g10]
        have hn8 : (-x8).toInt = -(bw / 2) := by rw [y_neg6 (by omega), hx8]
        have hn11 : (-x11).toInt = -(bh / 2) := by rw [y_neg6 (by omega), hx11]
        refine q_wider (fun w j0 j1 j2 j3 => done w ?_ ?_ ?_ ?_)
        · rw [j0, g2, hn8]; simp [yEdge, k10, k11]
        · rw [j1, g3, hn11]; simp [yEdge, k10, k11]
        · rw [j2, g4, hx8]; simp [yEdge, k10, k11]
        · rw [j3, g5, hx11]; simp [yEdge, k10, k11]
      · rw [y_le, hx7] at hx
        omega
    | succ e ih =>
      intro y u k g0 g1 g2 g3 g4 g5
      have hk : k < N := by omega
      have y1 : (y + 1).toInt = 7 * k + 1 := by rw [y_add (by omega) (by omega), g0, e1]
      have y2 : (y + 2).toInt = 7 * k + 2 := by rw [y_add (by omega) (by omega), g0, e2]
      have y3 : (y + 3).toInt = 7 * k + 3 := by rw [y_add (by omega) (by omega), g0, e3]
      have y4 : (y + 4).toInt = 7 * k + 4 := by rw [y_add (by omega) (by omega), g0, e4]
      have y7 : (y + 7).toInt = 7 * (k + 1 : Nat) := by rw [y_add (by omega) (by omega), g0, e7]; omega
      have n1 : (y + 1).toNatClampNeg = 7 * k + 1 := by rw [y_nat]; omega
      have n2 : (y + 2).toNatClampNeg = 7 * k + 2 := by rw [y_nat]; omega
      have n3 : (y + 3).toNatClampNeg = 7 * k + 3 := by rw [y_nat]; omega
      have n4 : (y + 4).toNatClampNeg = 7 * k + 4 := by rw [y_nat]; omega
      have c1 := B k hk 1 (by decide)
      have c2 := B k hk 2 (by decide)
      have c3 := B k hk 3 (by decide)
      have c4 := B k hk 4 (by decide)
      have x13 : (pad (7 * k + 1) + pad (7 * k + 3)).toInt = F k 1 + F k 3 := by rw [y_add6 (by omega) (by omega), hl _ hk 1 (by decide), hl _ hk 3 (by decide)]
      have x24 : (pad (7 * k + 2) + pad (7 * k + 4)).toInt = F k 2 + F k 4 := by rw [y_add6 (by omega) (by omega), hl _ hk 2 (by decide), hl _ hk 4 (by decide)]
      refine ⟨fun hx => ?_, fun _ => ⟨y_in (by omega) (by omega), y_in (by omega) (by omega), y_in (by omega) (by omega), y_in (by omega) (by omega), y_in (by omega) (by omega), y_in (by omega) (by omega), ?_⟩⟩
      · rw [y_le, hx7] at hx
        omega
      rw [n1, n2, n3, n4]
      refine q_wider (fun w j0 j1 j2 j3 x ex => ?_)
      subst ex
      refine ih (y + 7) w (k + 1) y7 (by omega) ?_ ?_ ?_ ?_
      · rw [j0, g2, hl _ hk 1 (by decide), yMnB]
      · rw [j1, g3, hl _ hk 2 (by decide), yMnB]
      · rw [j2, g4, x13, yMxB]
      · rw [j3, g5, x24, yMxB]
  refine ⟨5, ?_⟩
  refine ⟨fun hx => absurd hx (by decide), fun _ => ⟨fun hx => absurd hx (by decide), fun _ => ⟨y_in (by decide) (by decide), fun x ex => ?_⟩⟩⟩
  subst ex
  refine ⟨fun hx => absurd hx (by decide), fun _ => ⟨fun hx => absurd hx (by decide), fun _ => ⟨y_in (by decide) (by decide), fun x ex => ?_⟩⟩⟩
  subst ex
  refine ⟨fun hx => absurd hx (by decide), fun _ => ⟨fun _ => ⟨y_in (by decide) (by decide), fun x ex => ?_⟩, fun hx => absurd (by decide) hx⟩⟩
  subst ex
  refine ⟨fun hx => absurd hx (by decide), fun _ => ⟨fun _ => ⟨y_in (by decide) (by decide), fun x ex => ?_⟩, fun hx => absurd (by decide) hx⟩⟩
  subst ex
  exact ⟨fun _ => ⟨N + 1, loop N 0 _ 0 (by decide) (by omega) rfl rfl rfl rfl⟩, fun hx => absurd (by decide) hx⟩
