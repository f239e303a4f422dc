/-- how many of the first numbers are not left out -/
def yKept (lo : Nat → Int32) : Nat → Nat
  | 0 => 0
  | m + 1 => yKept lo m + (if lo (m + 1) = 0 then 1 else 0)
/-- pads by their order, from pads by their number -/
def yFg (lo : Nat → Int32) (G : Nat → Nat → Int) : Nat → (Nat → Nat → Int)
  | 0 => fun _ _ => 0
  | m + 1 => if lo (m + 1) = 0 then (fun k => if k = yKept lo m then G m else yFg lo G m k) else yFg lo G m
theorem q_keptM {lo : Nat → Int32} {m : Nat} : ∀ m' : Nat, m ≤ m' → yKept lo m ≤ yKept lo m' := by
  intro m'
  induction m' with
  | zero => intro h; rw [Nat.le_zero.1 h]; exact Nat.le_refl _
  | succ m' ih =>
    intro h
    by_cases e : m = m' + 1
    · rw [e]
      exact Nat.le_refl _
    · have := ih (by omega)
      rw [yKept]
      omega
theorem q_keptS {lo : Nat → Int32} {m m' : Nat} (h : m < m') (hk : lo (m + 1) = 0) : yKept lo m < yKept lo m' := by
  have := q_keptM (lo := lo) (m := m + 1) m' h
  rw [yKept, if_pos hk] at this
  omega
theorem q_keptL {lo : Nat → Int32} : ∀ m : Nat, yKept lo m ≤ m := by
  intro m
  induction m with
  | zero => exact Nat.le_refl _
  | succ m ih =>
    rw [yKept]
    split <;> omega
theorem q_FgAt {lo : Nat → Int32} {G : Nat → Nat → Int} {m : Nat} (hk : lo (m + 1) = 0) : ∀ M : Nat, m < M → yFg lo G M (yKept lo m) = G m := by
  intro M
  induction M with
  | zero => intro h; omega
  | succ M ih =>
    intro h
    rw [yFg]
    by_cases e : m = M
    · subst e
      rw [if_pos hk]
      simp
    · by_cases hM : lo (M + 1) = 0
      · rw [if_pos hM]
        have := q_keptS (m := m) (m' := M) (by omega) hk
        show (if yKept lo m = yKept lo M then G M else yFg lo G M (yKept lo m)) = _
        rw [if_neg (by omega)]
        exact ih (by omega)
      · rw [if_neg hM]
        exact ih (by omega)
theorem q_keptE {lo : Nat → Int32} {k : Nat} : ∀ M : Nat, k < yKept lo M → ∃ m : Nat, m < M ∧ lo (m + 1) = 0 ∧ yKept lo m = k := by
  intro M
  induction M with
  | zero => intro h; exact absurd h (Nat.not_lt_zero k)
  | succ M ih =>
    intro h
    rw [yKept] at h
    by_cases hM : lo (M + 1) = 0
    · rw [if_pos hM] at h
      by_cases e : k = yKept lo M
      · exact ⟨M, by omega, hM, e.symm⟩
      · obtain ⟨m, h1, h2⟩ := ih (by omega)
        exact ⟨m, by omega, h2⟩
    · rw [if_neg hM] at h
      obtain ⟨m, h1, h2⟩ := ih h
      exact ⟨m, by omega, h2⟩
/-- a ball by its number less one -/
def yBall (rows cols : Nat) (P sz : Int) (m j : Nat) : Int := if j = 0 then m + 1 else if j = 1 then yMid (m % cols : Nat) cols P - sz / 2 else if j = 2 then yMid (rows - 1 - (m / cols : Nat)) rows P - sz / 2 else if j = 3 then sz else if j = 4 then sz else if j = 5 then 1 else 0
theorem q_dm {row col cols : Nat} (h : col < cols) : (row * cols + col) / cols = row ∧ (row * cols + col) % cols = col := by
  rw [Nat.mul_comm]
  exact ⟨by rw [Nat.mul_add_div (by omega), Nat.div_eq_of_lt h, Nat.add_zero], by rw [Nat.mul_add_mod, Nat.mod_eq_of_lt h]⟩
theorem q_midNeg {r n p : Int} : yMid (n - 1 - r) n p = -yMid r n p := by
  unfold yMid
  rw [← Int.neg_mul]
  congr 1
  omega
theorem q_lt64 {row rows cols col : Nat} (hr : row < rows) (hr8 : rows ≤ 8) (hc : col < cols) (hc8 : cols ≤ 8) : row * cols + col < rows * cols ∧ rows * cols ≤ 64 := by
  have h1 : (row + 1) * cols ≤ rows * cols := Nat.mul_le_mul_right _ hr
  have h2 : rows * cols ≤ 8 * 8 := Nat.mul_le_mul hr8 hc8
  rw [Nat.add_mul] at h1
  omega
theorem q_Cgrid {lo : Nat → Int32} {P y1 y3 sz : Int64} {rows cols : Nat} {post : Int32 → Int32 → (Nat → Int64) → Prop} (hlo : ∀ k : Nat, k < 65 → lo k = 0 ∨ lo k = 1) (h1 : y1.toInt = rows) (h3 : y3.toInt = cols) (hr8 : rows ≤ 8) (hc8 : cols ≤ 8) (hP : 0 ≤ P.toInt ∧ P.toInt ≤ 100000000) (hs : 0 ≤ sz.toInt ∧ sz.toInt ≤ 1000000000) (hpost : ∀ (cnt : Int32) (cells : Nat → Int64), cnt.toInt = yKept lo (rows * cols) → yLay cells (yKept lo (rows * cols)) (yFg lo (yBall rows cols P.toInt sz.toInt) (rows * cols)) → post 1 cnt cells) : ∀ (d : Nat) (y7 y8 cnt : Int32) (cells : Nat → Int64) (row : Nat), y8.toInt = row → row + d = rows → y7.toInt = (row * cols : Nat) → cnt.toInt = yKept lo (row * cols) → yLay cells (yKept lo (row * cols)) (yFg lo (yBall rows cols P.toInt sz.toInt) (rows * cols)) → P_Ma_makeGrid_100 P lo post (d + 1) y1 y3 sz y7 y8 cnt cells := by
  have e1 : (1 : Int32).toInt = 1 := by decide
  have e65 : (65 : Int32).toInt = 65 := by decide
  intro d
  induction d with
  | zero =>
    intro y7 y8 cnt cells row g1 g2 g3 g4 g5
    have : row = rows := by omega
    subst this
    refine ⟨fun _ => hpost _ _ g4 g5, fun hx => ?_⟩
    rw [y_le6, y_64] at hx
    omega
  | succ d ih =>
    intro y7 y8 cnt cells row g1 g2 g3 g4 g5
    refine ⟨fun hx => ?_, fun _ => ⟨cols + 1, ?_⟩⟩
    · rw [y_le6, y_64] at hx
      omega
    have hs8 := q_inc (y := y8) (n := 9) (by omega) (by omega) (by omega)
    have inner : ∀ (e : Nat) (y7 y9 cnt : Int32) (cells : Nat → Int64) (col : Nat), y9.toInt = col → col + e = cols → y7.toInt = (row * cols + col : Nat) → cnt.toInt = yKept lo (row * cols + col) → yLay cells (yKept lo (row * cols + col)) (yFg lo (yBall rows cols P.toInt sz.toInt) (rows * cols)) → P_Ma_makeGrid_111 P lo post (P_Ma_makeGrid_100 P lo post (d + 1)) (e + 1) y1 y3 sz y7 y8 y9 cnt cells := by
      intro e
      induction e with
      | zero =>
        intro y7 y9 cnt cells col k1 k2 k3 k4 k5
        have hcol : col = cols := by omega
        subst hcol
        refine ⟨fun _ x ex => ?_, fun hx => ?_⟩
        · subst ex
          have e2 : row * col + col = (row + 1) * col := by rw [Nat.add_mul, Nat.one_mul]
          rw [e2] at k3 k4 k5
          exact ih y7 (y8 + 1) cnt cells (row + 1) (by omega) (by omega) k3 k4 k5
        · rw [y_le6, y_64] at hx
          omega
      | succ e ihe =>
        intro y7 y9 cnt cells col k1 k2 k3 k4 k5
        have h64 := q_lt64 (row := row) (rows := rows) (cols := cols) (col := col) (by omega) hr8 (by omega) hc8
        have hdm := q_dm (row := row) (cols := cols) (col := col) (by omega)
        have hs9 := q_inc (y := y9) (n := 9) (by omega) (by omega) (by omega)
        have hs7 := q_inc (y := y7) (n := 65) (by omega) (by omega) (by omega)
        generalize hm : row * cols + col = m at h64 hdm k3 k4 k5
        refine ⟨fun hx => ?_, fun _ x3 ex3 => ?_⟩
        · rw [y_le6, y_64] at hx
          omega
        subst ex3
        have hn7 : (y7 + 1).toNatClampNeg = m + 1 := by rw [y_nat]; omega
        have hnext : ∀ (cnt' : Int32) (cells' : Nat → Int64), cnt'.toInt = yKept lo (m + 1) → yLay cells' (yKept lo (m + 1)) (yFg lo (yBall rows cols P.toInt sz.toInt) (rows * cols)) → P_Ma_makeGrid_202 post (P_Ma_makeGrid_111 P lo post (P_Ma_makeGrid_100 P lo post (d + 1)) (e + 1)) y1 y3 sz (y7 + 1) y8 y9 cnt' cells' := by
          intro cnt' cells' j1 j2 x ex
          subst ex
          have em : row * cols + (col + 1) = m + 1 := by omega
          refine ihe (y7 + 1) (y9 + 1) cnt' cells' (col + 1) (by omega) (by omega) ?_ ?_ ?_
          · rw [em]
            omega
          · rw [em]
            exact j1
          · rw [em]
            exact j2
        refine ⟨fun hx => ?_, fun _ => ⟨y_in (by omega) (by omega), ?_⟩⟩
        · rw [y_le] at hx
          omega
        rw [hn7]
        refine ⟨fun hl => hnext cnt cells ?_ ?_, fun hl => ?_⟩
        · rw [yKept, if_neg hl]
          exact k4
        · rw [yKept, if_neg hl]
          exact k5
        · have hF := q_FgAt (lo := lo) (G := yBall rows cols P.toInt sz.toInt) hl (rows * cols) h64.1
          have hkl := q_keptL (lo := lo) m
          have a1 := q_midC (i := y9.toInt64) (n := y3) (p := P) (by rw [y_64]; omega) (by omega) hP
          have c1 := q_midB (i := y9.toInt64.toInt) (n := y3.toInt) (p := P.toInt) (by rw [y_64]; omega) (by omega) hP
          have a2 := q_midC (i := y8.toInt64) (n := y1) (p := P) (by rw [y_64]; omega) (by omega) hP
          have c2 := q_midB (i := y8.toInt64.toInt) (n := y1.toInt) (p := P.toInt) (by rw [y_64]; omega) (by omega) hP
          have hsz := q_half hs.1
          rw [← a1] at c1
          rw [← a2] at c2
          intro x8 e8 x10 e10
          have hng : (-((2 * y8.toInt64 - (y1 - 1)) * (P / 2))).toInt = -((2 * y8.toInt64 - (y1 - 1)) * (P / 2)).toInt := y_neg6 (by omega)
          refine q_add (c := yKept lo m) k4 (by omega) k5 ?_ ?_ ?_ ?_ ?_ ?_ ?_ (fun cnt' cells' j1 j2 => hnext cnt' cells' (by rw [yKept, if_pos hl]; omega) (by rw [yKept, if_pos hl]; exact j2))
          · rw [hF, yBall, if_pos rfl]
            omega
          · rw [hF]
            simp only [yBall]
            rw [e8, y_sub6 (by omega) (by omega), a1, hsz, y_64, k1, h3, hdm.2]
            simp
          · rw [hF]
            simp only [yBall]
            rw [e10, y_sub6 (by omega) (by omega), hng, a2, hsz, y_64, g1, h1, hdm.1, q_midNeg]
            simp
          · rw [hF]
            rfl
          · rw [hF]
            rfl
          · rw [hF]
            rfl
          · rw [hF]
            rfl
    exact inner cols y7 0 cnt cells 0 (by decide) (by omega) (by simpa using g3) (by simpa using g4) (by simpa using g5)
theorem q_Mgrid {lo : Nat → Int32} {high : Nat → Int64} {sz : Int64} {rows cols : Nat} {post : Int32 → Int32 → (Nat → Int64) → Prop} (h1 : (high 5).toInt = rows) (h3 : (high 6).toInt = cols) (hr8 : rows ≤ 8) (hc8 : cols ≤ 8) (hP : 0 ≤ (high 3).toInt ∧ (high 3).toInt ≤ 100000000) (hP2 : (high 3).toInt % 2 = 0) (hs : 0 ≤ sz.toInt ∧ sz.toInt ≤ 1000000000) (hb : yKept lo (rows * cols) = 0 → ∀ c1 c2, post 0 c1 c2) (hpost : ∀ (cnt : Int32) (cells : Nat → Int64), ¬ yKept lo (rows * cols) = 0 → cnt.toInt = yKept lo (rows * cols) → yLay cells (yKept lo (rows * cols)) (yFg lo (yBall rows cols (high 3).toInt sz.toInt) (rows * cols)) → post 1 cnt cells) : ∀ (d : Nat) (y6 : Int64) (cnt : Int32) (cells : Nat → Int64) (row : Nat), y6.toInt = row → row + d = rows → cnt.toInt = yKept lo (row * cols) → yLay cells (yKept lo (row * cols)) (yFg lo (yBall rows cols (high 3).toInt sz.toInt) (rows * cols)) → P_M_makeBalls_157 high lo post (d + 1) sz y6 cnt cells := by
  have e0 : (0 : Int32).toInt = 0 := by decide
  have e1 : (1 : Int32).toInt = 1 := by decide
  have f1 : (1 : Int64).toInt = 1 := by decide
  have v3 : vp_in 3 12 := y_in (by decide) (by decide)
  have v5 : vp_in 5 12 := y_in (by decide) (by decide)
  have v6 : vp_in 6 12 := y_in (by decide) (by decide)
  intro d
  induction d with
  | zero =>
    intro y6 cnt cells row g1 g2 g4 g5
    have : row = rows := by omega
    subst this
    refine ⟨v5, fun _ => ⟨fun hx => hb ?_ _ _, fun hx => hpost _ _ ?_ g4 g5⟩, fun hx => ?_⟩
    · rw [y_le, e0] at hx
      omega
    · rw [y_le, e0] at hx
      omega
    · have hx : ¬ high 5 ≤ y6 := hx
      rw [y_le6] at hx
      omega
  | succ d ih =>
    intro y6 cnt cells row g1 g2 g4 g5
    refine ⟨v5, fun hx => ?_, fun _ => ⟨cols + 1, ?_⟩⟩
    · have hx : high 5 ≤ y6 := hx
      rw [y_le6] at hx
      omega
    have hs6 : (y6 + 1).toInt = y6.toInt + 1 := by rw [y_add6 (by omega) (by omega), f1]
    have inner : ∀ (e : Nat) (y8 : Int64) (cnt : Int32) (cells : Nat → Int64) (col : Nat), y8.toInt = col → col + e = cols → cnt.toInt = yKept lo (row * cols + col) → yLay cells (yKept lo (row * cols + col)) (yFg lo (yBall rows cols (high 3).toInt sz.toInt) (rows * cols)) → P_M_makeBalls_172 high lo post (P_M_makeBalls_157 high lo post (d + 1)) (e + 1) sz y6 y8 cnt cells := by
      intro e
      induction e with
      | zero =>
        intro y8 cnt cells col k1 k2 k4 k5
        have hcol : col = cols := by omega
        subst hcol
        refine ⟨v6, fun _ x ex => ?_, fun hx => ?_⟩
        · subst ex
          have e2 : row * col + col = (row + 1) * col := by rw [Nat.add_mul, Nat.one_mul]
          rw [e2] at k4 k5
          exact ih (y6 + 1) cnt cells (row + 1) (by omega) (by omega) k4 k5
        · have hx : ¬ high 6 ≤ y8 := hx
          rw [y_le6] at hx
          omega
      | succ e ihe =>
        intro y8 cnt cells col k1 k2 k4 k5
        have h64 := q_lt64 (row := row) (rows := rows) (cols := cols) (col := col) (by omega) hr8 (by omega) hc8
        have hdm := q_dm (row := row) (cols := cols) (col := col) (by omega)
        have hs8 : (y8 + 1).toInt = y8.toInt + 1 := by rw [y_add6 (by omega) (by omega), f1]
        have hmu : y6.toInt * (high 6).toInt = (row * cols : Nat) := by rw [g1, h3, Int.natCast_mul]
        generalize hm : row * cols + col = m at h64 hdm k4 k5
        have hmu6 : (y6 * high 6).toInt = (row * cols : Nat) := by rw [y_mul6 (by rw [hmu]; omega) (by rw [hmu]; omega), hmu]
        have had : (y6 * high 6 + y8).toInt = m := by rw [y_add6 (by omega) (by omega), hmu6]; omega
        have h32 : (y6 * high 6 + y8).toInt32.toInt = m := by rw [y_32 (by omega) (by omega), had]
        have hx5 : ((y6 * high 6 + y8).toInt32 + 1).toInt = m + 1 := by rw [y_add (by omega) (by omega), h32, e1]
        refine ⟨v6, fun hx => ?_, fun _ => ⟨v6, fun x5 e5 => ?_⟩⟩
        · have hx : high 6 ≤ y8 := hx
          rw [y_le6] at hx
          omega
        have e5 : x5 = (y6 * high 6 + y8).toInt32 + 1 := e5
        rw [← e5] at hx5
        have hn7 : x5.toNatClampNeg = m + 1 := by rw [y_nat]; omega
        have hnext : ∀ (cnt' : Int32) (cells' : Nat → Int64), cnt'.toInt = yKept lo (m + 1) → yLay cells' (yKept lo (m + 1)) (yFg lo (yBall rows cols (high 3).toInt sz.toInt) (rows * cols)) → P_M_makeBalls_283 post (P_M_makeBalls_172 high lo post (P_M_makeBalls_157 high lo post (d + 1)) (e + 1)) sz y6 y8 cnt' cells' := by
          intro cnt' cells' j1 j2 x ex
          subst ex
          have em : row * cols + (col + 1) = m + 1 := by omega
          refine ihe (y8 + 1) cnt' cells' (col + 1) (by omega) (by omega) ?_ ?_
          · rw [em]
            exact j1
          · rw [em]
            exact j2
        refine ⟨y_in (by omega) (by omega), ?_⟩
        rw [hn7]
        refine ⟨fun hl => hnext cnt cells ?_ ?_, fun hl => ⟨v6, v3, v5, v5, v3, ?_⟩⟩
        · rw [yKept, if_neg hl]
          exact k4
        · rw [yKept, if_neg hl]
          exact k5
        · have hF := q_FgAt (lo := lo) (G := yBall rows cols (high 3).toInt sz.toInt) hl (rows * cols) h64.1
          have hkl := q_keptL (lo := lo) m
          have hr1 : (high 5 - 1).toInt = (high 5).toInt - 1 := by rw [y_sub6 (by omega) (by omega), f1]
          have hr2 : (high 5 - 1 - y6).toInt = (high 5).toInt - 1 - y6.toInt := by rw [y_sub6 (by omega) (by omega), hr1]
          have a1 := q_midM (i := y8) (n := high 6) (p := high 3) (by omega) (by omega) hP hP2
          have c1 := q_midB (i := y8.toInt) (n := (high 6).toInt) (p := (high 3).toInt) (by omega) (by omega) hP
          have a2 := q_midM (i := high 5 - 1 - y6) (n := high 5) (p := high 3) (by omega) (by omega) hP hP2
          have c2 := q_midB (i := (high 5 - 1 - y6).toInt) (n := (high 5).toInt) (p := (high 3).toInt) (by omega) (by omega) hP
          have hsz := q_half hs.1
          rw [← a1] at c1
          rw [← a2] at c2
          refine q_Madd (c := yKept lo m) k4 (by omega) k5 ?_ ?_ ?_ ?_ ?_ ?_ ?_ (fun cnt' cells' j1 j2 => hnext cnt' cells' (by rw [yKept, if_pos hl]; omega) (by rw [yKept, if_pos hl]; exact j2))
          · rw [hF, yBall, if_pos rfl]
            omega
          · rw [hF]
            simp only [yBall]
            show (y8 * high 3 - ((high 6 - 1) * high 3) / 2 - sz / 2).toInt = _
            rw [y_sub6 (by omega) (by omega), a1, hsz, k1, h3, hdm.2]
            simp
          · rw [hF]
            simp only [yBall]
            show ((high 5 - 1 - y6) * high 3 - ((high 5 - 1) * high 3) / 2 - sz / 2).toInt = _
            rw [y_sub6 (by omega) (by omega), a2, hsz, hr2, g1, h1, hdm.1]
            simp
          · rw [hF]
            rfl
          · rw [hF]
            rfl
          · rw [hF]
            rfl
          · rw [hF]
            rfl
    exact inner cols 0 cnt cells 0 (by decide) (by omega) (by simpa using g4) (by simpa using g5)
/-- when balls can be made -/
def yGoodB (mt : Nat → Int32) (ml mh : Nat → Int64) (lo : Nat → Int32) (sz : Int) : Prop := (mt 3 = 1 ∧ ml 3 = mh 3) ∧ (mt 5 = 1 ∧ ml 5 = mh 5) ∧ (mt 6 = 1 ∧ ml 6 = mh 6) ∧ mt 7 = 1 ∧ (0 < (yHi mt mh 3).toInt ∧ (yHi mt mh 3).toInt % 2 = 0) ∧ 0 < sz ∧ sz < (yHi mt mh 3).toInt ∧ (1 ≤ (yHi mt mh 5).toInt ∧ (yHi mt mh 5).toInt ≤ 8) ∧ (1 ≤ (yHi mt mh 6).toInt ∧ (yHi mt mh 6).toInt ≤ 8) ∧ ¬ yKept lo ((yHi mt mh 5).toInt.toNat * (yHi mt mh 6).toInt.toNat) = 0
/-- the same without what the class looks at first and last -/
def yGoodB0 (mt : Nat → Int32) (mh : Nat → Int64) (sz : Int) : Prop := (0 < (yHi mt mh 3).toInt ∧ (yHi mt mh 3).toInt % 2 = 0) ∧ 0 < sz ∧ sz < (yHi mt mh 3).toInt ∧ (1 ≤ (yHi mt mh 5).toInt ∧ (yHi mt mh 5).toInt ≤ 8) ∧ (1 ≤ (yHi mt mh 6).toInt ∧ (yHi mt mh 6).toInt ≤ 8)
theorem q_Cballs {tb eb : Int32} {lo hi ml mh : Nat → Int64} {mt : Nat → Int32} (h : ySp tb eb lo hi ml mh mt) {r side sz : Int64} {lf : Nat → Int32} {cells : Nat → Int64} (hlf : ∀ k : Nat, k < 65 → lf k = 0 ∨ lf k = 1) (hsz : ∀ pst : Int64 → Prop, pst sz → P_F_up (yHi mt mh 7 + 2 * side) (2 * r) pst) (bsz : sz.toInt ≤ 1000000000) {post : Int32 → Int32 → (Nat → Int64) → Prop} (hb : ¬ yGoodB0 mt mh sz.toInt → ∀ c1 c2, post 0 c1 c2) (hg : yGoodB0 mt mh sz.toInt → ∀ (cnt : Int32) (cells' : Nat → Int64), cnt.toInt = yKept lf ((yHi mt mh 5).toInt.toNat * (yHi mt mh 6).toInt.toNat) → yLay cells' (yKept lf ((yHi mt mh 5).toInt.toNat * (yHi mt mh 6).toInt.toNat)) (yFg lf (yBall (yHi mt mh 5).toInt.toNat (yHi mt mh 6).toInt.toNat (yHi mt mh 3).toInt sz.toInt) ((yHi mt mh 5).toInt.toNat * (yHi mt mh 6).toInt.toNat)) → post 1 cnt cells') : P_Ma_makeGrid r side (yHi mt mh 3) tb hi lf 0 cells post := by
  have f0 : (0 : Int64).toInt = 0 := by decide
  have f1 : (1 : Int64).toInt = 1 := by decide
  have f8 : (8 : Int64).toInt = 8 := by decide
  have b3 := q_hiB h (k := 3) (by decide)
  have b5 := q_hiB h (k := 5) (by decide)
  have b6 := q_hiB h (k := 6) (by decide)
  refine q_highOf h (k := 5) (by decide) (by decide) (q_highOf h (k := 6) (by decide) (by decide) (q_highOf h (k := 7) (by decide) (by decide) (hsz _ (q_isEven (by omega) (fun hev => ⟨fun hx => absurd hx (by decide), fun _ => ⟨fun g1 => hb (fun G => ?_) _ _, fun g1 => ⟨fun g2 => hb (fun G => ?_) _ _, fun g2 => q_isWithin (fun hw5 => ⟨fun hx => absurd hx (by decide), fun _ => q_isWithin (fun hw6 => ⟨fun _ => ?_, fun hx => absurd hx (by decide)⟩) (fun hw6 => ⟨fun hx => absurd rfl hx, fun _ => hb (fun G => hw6 ?_) _ _⟩)⟩) (fun hw5 => ⟨fun _ => hb (fun G => hw5 ?_) _ _, fun hx => absurd rfl hx⟩)⟩⟩⟩) (fun hev => ⟨fun _ => hb (fun G => hev G.1) _ _, fun hx => absurd rfl hx⟩)))))
  · rw [y_le6, f0] at g1
    have := G.2.1
    omega
  · rw [y_le6] at g2
    have := G.2.2.1
    omega
  · rw [f1, f8] at hw5 hw6
    rw [y_le6, f0] at g1
    rw [y_le6] at g2
    refine ⟨(yHi mt mh 5).toInt.toNat + 1, q_Cgrid (rows := (yHi mt mh 5).toInt.toNat) (cols := (yHi mt mh 6).toInt.toNat) hlf (by omega) (by omega) (by omega) (by omega) (by omega) (by omega) (hg ⟨hev, by omega, by omega, hw5, hw6⟩) (yHi mt mh 5).toInt.toNat 0 0 0 cells 0 (by decide) (by omega) (by simp) (by rw [Nat.zero_mul]; rfl) (by rw [Nat.zero_mul]; exact q_lay0)⟩
  · rw [f1, f8]
    exact G.2.2.2.2
  · rw [f1, f8]
    exact G.2.2.2.1
theorem q_Mballs {tb eb : Int32} {lo hi ml mh : Nat → Int64} {mt : Nat → Int32} (h : ySp tb eb lo hi ml mh mt) {fam dens : Int32} {values pad : Nat → Int64} {r side sz : Int64} {lf : Nat → Int32} {f d : Nat} (hf : fam.toInt = f) (hf8 : f < 8) (hd : dens.toInt = d) (hd3 : d < 3) (hv2 : values (30 * f + 3 * 2 + d) = side) (hsz : mt 7 = 1 → ∀ pst : Int64 → Prop, pst sz → P_M_up (mh 7 + 2 * side) (2 * r) pst) (bsz : sz.toInt ≤ 1000000000) {post : Int32 → Int32 → (Nat → Int64) → Prop} (hb : ¬ yGoodB mt ml mh lf sz.toInt → ∀ c1 c2, post 0 c1 c2) (hg : yGoodB mt ml mh lf sz.toInt → ∀ (cnt : Int32) (cells' : Nat → Int64), cnt.toInt = yKept lf ((yHi mt mh 5).toInt.toNat * (yHi mt mh 6).toInt.toNat) → yLay cells' (yKept lf ((yHi mt mh 5).toInt.toNat * (yHi mt mh 6).toInt.toNat)) (yFg lf (yBall (yHi mt mh 5).toInt.toNat (yHi mt mh 6).toInt.toNat (yHi mt mh 3).toInt sz.toInt) ((yHi mt mh 5).toInt.toNat * (yHi mt mh 6).toInt.toNat)) → post 1 cnt cells') : P_M_makeBalls r fam dens 0 mt ml mh values lf pad post := by
  have f0 : (0 : Int64).toInt = 0 := by decide
  have f1 : (1 : Int64).toInt = 1 := by decide
  have f8 : (8 : Int64).toInt = 8 := by decide
  have T := fun k (hk : k < 12) => (h k hk).1
  have B : ∀ k : Nat, k < 12 → mt k = 1 → 0 ≤ (mh k).toInt ∧ (mh k).toInt ≤ 100000000 := fun k hk hm => by have := (h k hk).2.2.2 hm; omega
  have HH : ∀ k : Nat, mt k = 1 → yHi mt mh k = mh k := fun k hm => by unfold yHi; rw [if_pos hm]
  have v3 : vp_in 3 12 := y_in (by decide) (by decide)
  have v5 : vp_in 5 12 := y_in (by decide) (by decide)
  have v6 : vp_in 6 12 := y_in (by decide) (by decide)
  have v7 : vp_in 7 12 := y_in (by decide) (by decide)
  have bad2 : ¬ yGoodB mt ml mh lf sz.toInt → P_M_makeBalls_98 r fam dens 0 mh values lf pad post := fun hx => ⟨fun hy => absurd rfl hy, fun _ => hb hx _ _⟩
  have bad : ¬ yGoodB mt ml mh lf sz.toInt → P_M_makeBalls_38 r fam dens 0 mh values lf pad post := fun hx => ⟨fun _ => bad2 hx, fun hy => absurd rfl hy⟩
  refine q_MhasPitch (T 3 (by decide)) (B 3 (by decide)) (fun hP => ⟨fun hx => absurd hx (by decide), fun _ => q_Mexact (k := 5) (by decide) (by decide) (T 5 (by decide)) (fun h5 => ⟨fun hx => absurd hx (by decide), fun _ => q_Mexact (k := 6) (by decide) (by decide) (T 6 (by decide)) (fun h6 => ⟨fun hx => absurd hx (by decide), fun _ => ⟨v7, fun t7 => bad (fun G => absurd (t7.symm.trans G.2.2.2.1) (by decide)), fun t7 => ⟨fun hx => absurd hx (by decide), fun _ => ⟨v5, fun g1 => bad2 (fun G => ?_), fun g1 => ⟨v5, fun g2 => bad2 (fun G => ?_), fun g2 => ⟨v6, fun g3 => bad2 (fun G => ?_), fun g3 => ⟨v6, fun g4 => bad2 (fun G => ?_), fun g4 => ?_⟩⟩⟩⟩⟩⟩⟩) (fun h6 => ⟨fun _ => bad (fun G => h6 G.2.2.1), fun hx => absurd rfl hx⟩)⟩) (fun h5 => ⟨fun _ => bad (fun G => h5 G.2.1), fun hx => absurd rfl hx⟩)⟩) (fun hP => ⟨fun _ => bad (fun G => hP ?_), fun hx => absurd rfl hx⟩)
  · have g1 : mh 5 < 1 := g1
    rw [y_lt6, f1] at g1
    have := G.2.2.2.2.2.2.2.1
    rw [HH 5 h5.1] at this
    omega
  · have g2 : 8 < mh 5 := g2
    rw [y_lt6, f8] at g2
    have := G.2.2.2.2.2.2.2.1
    rw [HH 5 h5.1] at this
    omega
  · have g3 : mh 6 < 1 := g3
    rw [y_lt6, f1] at g3
    have := G.2.2.2.2.2.2.2.2.1
    rw [HH 6 h6.1] at this
    omega
  · have g4 : 8 < mh 6 := g4
    rw [y_lt6, f8] at g4
    have := G.2.2.2.2.2.2.2.2.1
    rw [HH 6 h6.1] at this
    omega
  · have m7 : mt 7 = 1 := (T 7 (by decide)).resolve_left t7
    have g1 : ¬ mh 5 < 1 := g1
    have g2 : ¬ 8 < mh 5 := g2
    have g3 : ¬ mh 6 < 1 := g3
    have g4 : ¬ 8 < mh 6 := g4
    rw [y_lt6, f1] at g1 g3
    rw [y_lt6, f8] at g2 g4
    have e3 := HH 3 hP.1.1
    have e5 := HH 5 h5.1
    have e6 := HH 6 h6.1
    rw [e3, e5, e6] at hg
    refine ⟨fun _ => ⟨v7, q_MofV (m := 2) hf hf8 (by decide) (by decide) hd hd3 hv2 (hsz m7 _ ⟨fun k1 => hb (fun G => ?_) _ _, fun k1 => ⟨v3, fun k2 => ?_, fun k2 => hb (fun G => ?_) _ _⟩⟩)⟩, fun hx => absurd hx (by decide)⟩
    · rw [y_le6, f0] at k1
      have := G.2.2.2.2.2.1
      omega
    · rw [y_le6, f0] at k1
      have k2 : sz < mh 3 := k2
      rw [y_lt6] at k2
      refine ⟨(mh 5).toInt.toNat + 1, q_Mgrid (rows := (mh 5).toInt.toNat) (cols := (mh 6).toInt.toNat) (by omega) (by omega) (by omega) (by omega) (B 3 (by decide) hP.1.1) hP.2.2 (by omega) (fun hz => hb (fun G => ?_)) (fun cnt cells hz => hg ⟨hP.1, h5, h6, m7, by rw [e3]; exact hP.2, by omega, by rw [e3]; omega, by rw [e5]; omega, by rw [e6]; omega, by rw [e5, e6]; exact hz⟩ cnt cells) (mh 5).toInt.toNat 0 0 pad 0 (by decide) (by omega) (by rw [Nat.zero_mul]; rfl) (by rw [Nat.zero_mul]; exact q_lay0)⟩
      have := G.2.2.2.2.2.2.2.2.2
      rw [e5, e6] at this
      exact this hz
    · have k2 : ¬ sz < mh 3 := k2
      rw [y_lt6] at k2
      have := G.2.2.2.2.2.2.1
      rw [e3] at this
      omega
  · have hx := G.2.2.2.2.1
    rw [HH 3 G.1.1] at hx
    exact ⟨G.1, hx⟩
