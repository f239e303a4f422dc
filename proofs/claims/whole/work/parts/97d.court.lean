theorem q_upC {p r : Int64} (hp : -100000000000000000 ≤ p.toInt ∧ p.toInt ≤ 100000000000000000) (hr : 1 ≤ r.toInt ∧ r.toInt ≤ 100000000000000000) {post : Int64 → Prop} (h : ∀ s : Int64, s.toInt = yUp p.toInt r.toInt → post s) : P_F_up p r post := by
  obtain ⟨s, hs, h1, _⟩ := q_up hp hr
  exact h1 _ (h s hs)
theorem q_upM {p r : Int64} (hp : -100000000000000000 ≤ p.toInt ∧ p.toInt ≤ 100000000000000000) (hr : 1 ≤ r.toInt ∧ r.toInt ≤ 100000000000000000) {post : Int64 → Prop} (h : ∀ s : Int64, s.toInt = yUp p.toInt r.toInt → post s) : P_M_up p r post := by
  obtain ⟨s, hs, _, h1⟩ := q_up hp hr
  exact h1 _ (h s hs)
theorem q_dnC {p r : Int64} (hp : -100000000000000000 ≤ p.toInt ∧ p.toInt ≤ 100000000000000000) (hr : 1 ≤ r.toInt ∧ r.toInt ≤ 100000000000000000) {post : Int64 → Prop} (h : ∀ s : Int64, s.toInt = yDn p.toInt r.toInt → post s) : P_F_down p r post := by
  obtain ⟨s, hs, h1, _⟩ := q_dn hp hr
  exact h1 _ (h s hs)
theorem q_dnM {p r : Int64} (hp : -100000000000000000 ≤ p.toInt ∧ p.toInt ≤ 100000000000000000) (hr : 1 ≤ r.toInt ∧ r.toInt ≤ 100000000000000000) {post : Int64 → Prop} (h : ∀ s : Int64, s.toInt = yDn p.toInt r.toInt → post s) : P_M_down p r post := by
  obtain ⟨s, hs, _, h1⟩ := q_dn hp hr
  exact h1 _ (h s hs)
theorem q_min {p0 p2 : Int64} {post : Int64 → Prop} (h : ∀ r : Int64, r.toInt = (if p0.toInt ≤ p2.toInt then p0.toInt else p2.toInt) → post r) : P_JM_min p0 p2 post := by
  refine ⟨fun hx => h _ ?_, fun hx => h _ ?_⟩
  · rw [y_lt6] at hx
    rw [if_neg (by omega)]
  · rw [y_lt6] at hx
    rw [if_pos (by omega)]
theorem q_max {p0 p2 : Int64} {post : Int64 → Prop} (h : ∀ r : Int64, r.toInt = (if p2.toInt ≤ p0.toInt then p0.toInt else p2.toInt) → post r) : P_JM_max p0 p2 post := by
  refine ⟨fun hx => h _ ?_, fun hx => h _ ?_⟩
  · rw [y_lt6] at hx
    rw [if_neg (by omega)]
  · rw [y_lt6] at hx
    rw [if_pos (by omega)]
def yLo (a b : Int) : Int := if a ≤ b then a else b
def yHg (a b : Int) : Int := if b ≤ a then a else b
theorem q_loB {a b : Int} : (yLo a b = a ∨ yLo a b = b) ∧ yLo a b ≤ a ∧ yLo a b ≤ b := by
  unfold yLo
  split <;> omega
theorem q_hgB {a b : Int} : (yHg a b = a ∨ yHg a b = b) ∧ a ≤ yHg a b ∧ b ≤ yHg a b := by
  unfold yHg
  split <;> omega
def yMn (f : Nat → Int) : Nat → Int
  | 0 => f 0
  | n + 1 => yLo (yMn f n) (f (n + 1))
def yMx (f : Nat → Int) : Nat → Int
  | 0 => f 0
  | n + 1 => yHg (yMx f n) (f (n + 1))
theorem q_mnB {f : Nat → Int} {A B : Int} : ∀ n : Nat, (∀ k : Nat, k ≤ n → A ≤ f k ∧ f k ≤ B) → A ≤ yMn f n ∧ yMn f n ≤ B := by
  intro n
  induction n with
  | zero => intro h; exact h 0 (Nat.le_refl 0)
  | succ n ih =>
    intro h
    have h1 := ih (fun k hk => h k (by omega))
    have h2 := h (n + 1) (Nat.le_refl _)
    have h3 := q_loB (a := yMn f n) (b := f (n + 1))
    rw [yMn]
    omega
theorem q_mxB {f : Nat → Int} {A B : Int} : ∀ n : Nat, (∀ k : Nat, k ≤ n → A ≤ f k ∧ f k ≤ B) → A ≤ yMx f n ∧ yMx f n ≤ B := by
  intro n
  induction n with
  | zero => intro h; exact h 0 (Nat.le_refl 0)
  | succ n ih =>
    intro h
    have h1 := ih (fun k hk => h k (by omega))
    have h2 := h (n + 1) (Nat.le_refl _)
    have h3 := q_hgB (a := yMx f n) (b := f (n + 1))
    rw [yMx]
    omega
theorem q_mnL {f : Nat → Int} {k : Nat} : ∀ n : Nat, k ≤ n → yMn f n ≤ f k := by
  intro n
  induction n with
  | zero => intro h; rw [Nat.le_zero.1 h]; exact Int.le_refl _
  | succ n ih =>
    intro h
    have h3 := q_loB (a := yMn f n) (b := f (n + 1))
    rw [yMn]
    by_cases e : k = n + 1
    · rw [e]
      omega
    · have := ih (by omega)
      omega
theorem q_mxL {f : Nat → Int} {k : Nat} : ∀ n : Nat, k ≤ n → f k ≤ yMx f n := by
  intro n
  induction n with
  | zero => intro h; rw [Nat.le_zero.1 h]; exact Int.le_refl _
  | succ n ih =>
    intro h
    have h3 := q_hgB (a := yMx f n) (b := f (n + 1))
    rw [yMx]
    by_cases e : k = n + 1
    · rw [e]
      omega
    · have := ih (by omega)
      omega
/-- the edges of pads and body -/
def yEdge (N : Nat) (F : Nat → Nat → Int) (body : Bool) (bw bh : Int) (j : Nat) : Int := if j = 0 then (if body then yLo (yMn (fun k => F k 1) (N - 1)) (-(bw / 2)) else yMn (fun k => F k 1) (N - 1)) else if j = 1 then (if body then yLo (yMn (fun k => F k 2) (N - 1)) (-(bh / 2)) else yMn (fun k => F k 2) (N - 1)) else if j = 2 then (if body then yHg (yMx (fun k => F k 1 + F k 3) (N - 1)) (bw / 2) else yMx (fun k => F k 1 + F k 3) (N - 1)) else (if body then yHg (yMx (fun k => F k 2 + F k 4) (N - 1)) (bh / 2) else yMx (fun k => F k 2 + F k 4) (N - 1))
def yYard (N : Nat) (F : Nat → Nat → Int) (body : Bool) (bw bh c r : Int) (j : Nat) : Int := if j < 2 then yDn (yEdge N F body bw bh j - c) r else yUp (yEdge N F body bw bh j + c) r
/-- all numbers of the pads are small -/
def ySm (N : Nat) (F : Nat → Nat → Int) : Prop := ∀ k : Nat, k < N → ∀ j : Nat, j < 7 → -2000000000 ≤ F k j ∧ F k j ≤ 2000000000
theorem q_edgeB {N : Nat} {F : Nat → Nat → Int} {body : Bool} {bw bh : Int} (hN : 1 ≤ N) (h : ySm N F) (hb : 0 ≤ bw ∧ bw ≤ 1000000000) (hh : 0 ≤ bh ∧ bh ≤ 1000000000) (j : Nat) : -4000000000 ≤ yEdge N F body bw bh j ∧ yEdge N F body bw bh j ≤ 4000000000 := by
  have m1 := q_mnB (f := fun k => F k 1) (A := -2000000000) (B := 2000000000) (N - 1) (fun k hk => h k (by omega) 1 (by decide))
  have m2 := q_mnB (f := fun k => F k 2) (A := -2000000000) (B := 2000000000) (N - 1) (fun k hk => h k (by omega) 2 (by decide))
  have m3 := q_mxB (f := fun k => F k 1 + F k 3) (A := -4000000000) (B := 4000000000) (N - 1) (fun k hk => by have := h k (by omega) 1 (by decide); have := h k (by omega) 3 (by decide); omega)
  have m4 := q_mxB (f := fun k => F k 2 + F k 4) (A := -4000000000) (B := 4000000000) (N - 1) (fun k hk => by have := h k (by omega) 2 (by decide); have := h k (by omega) 4 (by decide); omega)
  have l1 := q_loB (a := yMn (fun k => F k 1) (N - 1)) (b := -(bw / 2))
  have l2 := q_loB (a := yMn (fun k => F k 2) (N - 1)) (b := -(bh / 2))
  have l3 := q_hgB (a := yMx (fun k => F k 1 + F k 3) (N - 1)) (b := bw / 2)
  have l4 := q_hgB (a := yMx (fun k => F k 2 + F k 4) (N - 1)) (b := bh / 2)
  unfold yEdge
  split
  · split <;> omega
  · split
    · split <;> omega
    · split
      · split <;> omega
      · split <;> omega
theorem q_C183 {d32 : Int32} {V : Nat → Int32} {yard : Nat → Int64} {post : (Nat → Int64) → Prop} {d : Nat} (hd : d32.toInt = d) (hd3 : d < 3) (hr : 1 ≤ (V 12).toInt ∧ (V 12).toInt ≤ 10000000) (hc : 0 ≤ (V (9 + d)).toInt ∧ (V (9 + d)).toInt ≤ 10000000) {y6 y8 y10 y12 : Int64} {E : Nat → Int} (hE : ∀ j : Nat, -4000000000 ≤ E j ∧ E j ≤ 4000000000) (h0 : y6.toInt = E 0) (h1 : y8.toInt = E 1) (h2 : y10.toInt = E 2) (h3 : y12.toInt = E 3) (h : ∀ yard', (∀ j : Nat, j < 4 → (yard' j).toInt = if j < 2 then yDn (E j - (V (9 + d)).toInt) (V 12).toInt else yUp (E j + (V (9 + d)).toInt) (V 12).toInt) → post yard') : P_Fp_layYard_183 d32 V yard post y6 y8 y10 y12 := by
  have e9 : (9 : Int32).toInt = 9 := by decide
  have hk : (zKey_first.getD 3 0 + d32).toInt = ((9 + d : Nat) : Int) := by
    show ((9 : Int32) + d32).toInt = _
    rw [y_add (by omega) (by omega), e9]
    omega
  have E0 := hE 0
  have E1 := hE 1
  have E2 := hE 2
  have E3 := hE 3
  have s0 : (y6 - (V (9 + d)).toInt64).toInt = E 0 - (V (9 + d)).toInt := by rw [y_sub6 (by rw [y_64]; omega) (by rw [y_64]; omega), y_64, h0]
  have s1 : (y8 - (V (9 + d)).toInt64).toInt = E 1 - (V (9 + d)).toInt := by rw [y_sub6 (by rw [y_64]; omega) (by rw [y_64]; omega), y_64, h1]
  have s2 : (y10 + (V (9 + d)).toInt64).toInt = E 2 + (V (9 + d)).toInt := by rw [y_add6 (by rw [y_64]; omega) (by rw [y_64]; omega), y_64, h2]
  have s3 : (y12 + (V (9 + d)).toInt64).toInt = E 3 + (V (9 + d)).toInt := by rw [y_add6 (by rw [y_64]; omega) (by rw [y_64]; omega), y_64, h3]
  refine q_ofD (s := 9 + d) (by decide) hk (by omega) (q_of (s := 12) (by decide) (by decide) (by decide) ?_)
  refine q_dnC (by omega) (by rw [y_64]; omega) (fun r3 g3 => ⟨y_in (by decide) (by decide), q_dnC (by omega) (by rw [y_64]; omega) (fun r5 g5 => ⟨y_in (by decide) (by decide), q_upC (by omega) (by rw [y_64]; omega) (fun r7 g7 => ⟨y_in (by decide) (by decide), q_upC (by omega) (by rw [y_64]; omega) (fun r9 g9 => ⟨y_in (by decide) (by decide), h _ (fun j hj => ?_)⟩)⟩)⟩)⟩)
  rw [s0, y_64] at g3
  rw [s1, y_64] at g5
  rw [s2, y_64] at g7
  rw [s3, y_64] at g9
  have hjj : j = 0 ∨ j = 1 ∨ j = 2 ∨ j = 3 := by omega
  rcases hjj with rfl | rfl | rfl | rfl
  · exact g3
  · exact g5
  · exact g7
  · exact g9
theorem q_Cyard {p1 p3 : Int64} {p5 cnt d32 : Int32} {cells yard : Nat → Int64} {V : Nat → Int32} {post : (Nat → Int64) → Prop} {N d : Nat} {F : Nat → Nat → Int} (hN : cnt.toInt = N) (hN1 : 1 ≤ N) (hN65 : N ≤ 65) (hl : yLay cells N F) (hs : ySm N F) (hd : d32.toInt = d) (hd3 : d < 3) (hr : 1 ≤ (V 12).toInt ∧ (V 12).toInt ≤ 10000000) (hc : 0 ≤ (V (9 + d)).toInt ∧ (V (9 + d)).toInt ≤ 10000000) (hb1 : 0 ≤ p1.toInt ∧ p1.toInt ≤ 1000000000) (hb3 : 0 ≤ p3.toInt ∧ p3.toInt ≤ 1000000000) (h : ∀ yard', (∀ j : Nat, j < 4 → (yard' j).toInt = yYard N F (!decide (p5 = 0)) p1.toInt p3.toInt (V (9 + d)).toInt (V 12).toInt j) → post yard') : P_Fp_layYard p1 p3 p5 cnt d32 cells V yard post := by
  have e0 : (0 : Int32).toInt = 0 := by decide
  have e1 : (1 : Int32).toInt = 1 := by decide
  have B : ∀ k : Nat, k < N → ∀ j : Nat, j < 7 → -2000000000 ≤ (cells (7 * k + j)).toInt ∧ (cells (7 * k + j)).toInt ≤ 2000000000 := fun k hk j hj => by rw [hl k hk j hj]; exact hs k hk j hj
  have hx0 := q_half hb1.1
  have hx1 := q_half hb3.1
  have hn0 := q_nhalf hb1.1
  have hn1 := q_nhalf hb3.1
  have loop : ∀ (e : Nat) (y6 y8 y10 y12 : Int64) (y14 : Int32) (c : Nat), y14.toInt = c + 1 → c + 1 + e = N → y6.toInt = yMn (fun k => F k 1) c → y8.toInt = yMn (fun k => F k 2) c → y10.toInt = yMx (fun k => F k 1 + F k 3) c → y12.toInt = yMx (fun k => F k 2 + F k 4) c → P_Fp_layYard_41 p1 p3 p5 cnt d32 cells V yard post (e + 1) y6 y8 y10 y12 y14 := by
    intro e
    induction e with
    | zero =>
      intro y6 y8 y10 y12 y14 c g0 g1 g2 g3 g4 g5
      have ec : c = N - 1 := by omega
      subst ec
      refine ⟨fun _ => ⟨fun hp => ?_, fun hp => ?_⟩, fun hx => ?_⟩
      · refine q_C183 (E := yEdge N F (!decide (p5 = 0)) p1.toInt p3.toInt) hd hd3 hr hc (q_edgeB hN1 hs hb1 hb3) ?_ ?_ ?_ ?_ (fun yard' hy => h yard' (fun j hj => by rw [hy j hj, yYard]))
        · rw [g2]; simp [yEdge, hp]
        · rw [g3]; simp [yEdge, hp]
        · rw [g4]; simp [yEdge, hp]
        · rw [g5]; simp [yEdge, hp]
      · refine q_min (fun r3 k3 => q_min (fun r4 k4 => q_max (fun r5 k5 => q_max (fun r6 k6 => q_C183 (E := yEdge N F (!decide (p5 = 0)) p1.toInt p3.toInt) hd hd3 hr hc (q_edgeB hN1 hs hb1 hb3) ?_ ?_ ?_ ?_ (fun yard' hy => h yard' (fun j hj => by rw [hy j hj, yYard]))))))
        · rw [k3, g2, hn0]; simp [yEdge, hp, yLo]
        · rw [k4, g3, hn1]; simp [yEdge, hp, yLo]
        · rw [k5, g4, hx0]; simp [yEdge, hp, yHg]
        · rw [k6, g5, hx1]; simp [yEdge, hp, yHg]
      · rw [y_le] at hx
        omega
    | succ e ih =>
      intro y6 y8 y10 y12 y14 c g0 g1 g2 g3 g4 g5
      have hs14 := q_inc (y := y14) (n := 65) (by omega) (by omega) (by omega)
      have hk : c + 1 < N := by omega
      have c1 := B (c + 1) hk 1 (by decide)
      have c2 := B (c + 1) hk 2 (by decide)
      have c3 := B (c + 1) hk 3 (by decide)
      have c4 := B (c + 1) hk 4 (by decide)
      have x13 : (cells (7 * (c + 1) + 1) + cells (7 * (c + 1) + 3)).toInt = F (c + 1) 1 + F (c + 1) 3 := by rw [y_add6 (by omega) (by omega), hl _ hk 1 (by decide), hl _ hk 3 (by decide)]
      have x24 : (cells (7 * (c + 1) + 2) + cells (7 * (c + 1) + 4)).toInt = F (c + 1) 2 + F (c + 1) 4 := by rw [y_add6 (by omega) (by omega), hl _ hk 2 (by decide), hl _ hk 4 (by decide)]
      have hq : y14.toInt = ((c + 1 : Nat) : Int) := by omega
      refine ⟨fun hx => ?_, fun _ => q_cell (k := c + 1) (j := 1) hq (by omega) (by decide) (by decide) (q_min (fun r8 k8 => q_cell (k := c + 1) (j := 2) hq (by omega) (by decide) (by decide) (q_min (fun r10 k10 => q_cell (k := c + 1) (j := 1) hq (by omega) (by decide) (by decide) (q_cell (k := c + 1) (j := 3) hq (by omega) (by decide) (by decide) (q_max (fun r13 k13 => q_cell (k := c + 1) (j := 2) hq (by omega) (by decide) (by decide) (q_cell (k := c + 1) (j := 4) hq (by omega) (by decide) (by decide) (q_max (fun r16 k16 x ex => ?_))))))))))⟩
      · rw [y_le] at hx
        omega
      · subst ex
        refine ih r8 r10 r13 r16 (y14 + 1) (c + 1) (by omega) (by omega) ?_ ?_ ?_ ?_
        · rw [k8, g2, hl _ hk 1 (by decide), yMn, yLo]
        · rw [k10, g3, hl _ hk 2 (by decide), yMn, yLo]
        · rw [k13, g4, x13, yMx, yHg]
        · rw [k16, g5, x24, yMx, yHg]
  have c1 := B 0 (by omega) 1 (by decide)
  have c2 := B 0 (by omega) 2 (by decide)
  have c3 := B 0 (by omega) 3 (by decide)
  have c4 := B 0 (by omega) 4 (by decide)
  refine q_cell (k := 0) (j := 1) (by decide) (by decide) (by decide) (by decide) (q_cell (k := 0) (j := 2) (by decide) (by decide) (by decide) (by decide) (q_cell (k := 0) (j := 3) (by decide) (by decide) (by decide) (by decide) (fun x4 e4 => q_cell (k := 0) (j := 4) (by decide) (by decide) (by decide) (by decide) (fun x6 e6 => ⟨N, ?_⟩))))
  have := loop (N - 1) (cells (7 * 0 + 1)) (cells (7 * 0 + 2)) x4 x6 1 0 (by decide) (by omega) (hl 0 (by omega) 1 (by decide)) (hl 0 (by omega) 2 (by decide)) (by rw [e4, y_add6 (by omega) (by omega), hl 0 (by omega) 1 (by decide), hl 0 (by omega) 3 (by decide)]; rfl) (by rw [e6, y_add6 (by omega) (by omega), hl 0 (by omega) 2 (by decide), hl 0 (by omega) 4 (by decide)]; rfl)
  rw [show N - 1 + 1 = N by omega] at this
  exact this
