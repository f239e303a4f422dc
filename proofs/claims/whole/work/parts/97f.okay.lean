/-- pads that a footprint may have -/
def yOK (N : Nat) (F : Nat → Nat → Int) : Prop := (1 ≤ N ∧ N ≤ 65) ∧ (∀ k : Nat, k < N → (1 ≤ F k 0 ∧ F k 0 ≤ 65) ∧ (-2000000000 ≤ F k 1 ∧ F k 1 ≤ 2000000000) ∧ (-2000000000 ≤ F k 2 ∧ F k 2 ≤ 2000000000) ∧ (1 ≤ F k 3 ∧ F k 3 ≤ 200000000) ∧ (1 ≤ F k 4 ∧ F k 4 ≤ 200000000) ∧ (F k 5 = 0 ∨ F k 5 = 1) ∧ (0 ≤ F k 6 ∧ F k 6 ≤ 200000000)) ∧ (∀ k k' : Nat, k < N → k' < N → F k 0 = F k' 0 → k = k') ∧ yMeet N F
theorem q_okSm {N : Nat} {F : Nat → Nat → Int} (h : yOK N F) : ySm N F := by
  intro k hk j hj
  have := h.2.1 k hk
  have hjj : j = 0 ∨ j = 1 ∨ j = 2 ∨ j = 3 ∨ j = 4 ∨ j = 5 ∨ j = 6 := by omega
  rcases hjj with rfl | rfl | rfl | rfl | rfl | rfl | rfl <;> omega
theorem q_okPads {N : Nat} {F : Nat → Nat → Int} {pad : Nat → Int64} (h : yOK N F) (hl : yLay pad N F) : yPads pad N := by
  have f0 : (0 : Int64).toInt = 0 := by decide
  have f1 : (1 : Int64).toInt = 1 := by decide
  refine ⟨fun k hk => ?_, fun k k' hk hk' he => ?_⟩
  · have hk : k < N := by omega
    have g := h.2.1 k hk
    have l0 := hl k hk 0 (by decide)
    rw [Nat.add_zero] at l0
    have l5 := hl k hk 5 (by decide)
    rw [l0, hl k hk 1 (by decide), hl k hk 2 (by decide), hl k hk 3 (by decide), hl k hk 4 (by decide), hl k hk 6 (by decide)]
    refine ⟨by omega, by omega, by omega, by omega, by omega, by omega, by omega, by omega, by omega, by omega, ?_, by omega, by omega⟩
    rcases g.2.2.2.2.2.1 with hh | hh
    · left
      rw [y_eq6, l5, hh, f0]
    · right
      rw [y_eq6, l5, hh, f1]
  · have l0 := hl k (by omega) 0 (by decide)
    have l0' := hl k' (by omega) 0 (by decide)
    rw [Nat.add_zero] at l0 l0'
    refine h.2.2.1 k k' (by omega) (by omega) ?_
    rw [← l0, ← l0', he]
theorem q_midB32 {i n p : Int} (hi : 0 ≤ i ∧ i ≤ n - 1) (hn : n ≤ 32) (hp : 0 ≤ p ∧ p ≤ 100000000) : -1550000000 ≤ yMid i n p ∧ yMid i n p ≤ 1550000000 := by
  unfold yMid
  have := q_mulb (a := 2 * i - (n - 1)) (b := p / 2) (A := 31) (B := 50000000) (by omega) (by omega) (by omega) (by omega)
  omega
theorem q_midZ {n p : Int} (hn : 1 ≤ n) (hp : 0 ≤ p) : yMid 0 n p ≤ 0 ∧ 0 ≤ yMid (n - 1) n p := by
  have h1 : yMid (n - 1 - 0) n p = -yMid 0 n p := q_midNeg
  rw [Int.sub_zero] at h1
  have h2 : 0 ≤ yMid (n - 1) n p := by
    unfold yMid
    exact Int.mul_nonneg (by omega) (by omega)
  omega
theorem q_elU {n : Nat} {x p a w sh ho : Int} {desc : Bool} {c0 i : Nat} (hi : i < n) (hn : n ≤ 32) (hp : 0 ≤ p ∧ p ≤ 100000000) (ha : 1 ≤ a ∧ a ≤ 200000000) (hx : -1000000000 ≤ x ∧ x ≤ 1000000000) (hw : 1 ≤ w ∧ w ≤ 200000000) (hs : sh = 0 ∨ sh = 1) (hh : 0 ≤ ho ∧ ho ≤ 200000000) (hc : c0 + i < 65) : (1 ≤ yElU n x p a w sh ho desc c0 i 0 ∧ yElU n x p a w sh ho desc c0 i 0 ≤ 65) ∧ (-2000000000 ≤ yElU n x p a w sh ho desc c0 i 1 ∧ yElU n x p a w sh ho desc c0 i 1 ≤ 2000000000) ∧ (-2000000000 ≤ yElU n x p a w sh ho desc c0 i 2 ∧ yElU n x p a w sh ho desc c0 i 2 ≤ 2000000000) ∧ (1 ≤ yElU n x p a w sh ho desc c0 i 3 ∧ yElU n x p a w sh ho desc c0 i 3 ≤ 200000000) ∧ (1 ≤ yElU n x p a w sh ho desc c0 i 4 ∧ yElU n x p a w sh ho desc c0 i 4 ≤ 200000000) ∧ (yElU n x p a w sh ho desc c0 i 5 = 0 ∨ yElU n x p a w sh ho desc c0 i 5 = 1) ∧ (0 ≤ yElU n x p a w sh ho desc c0 i 6 ∧ yElU n x p a w sh ho desc c0 i 6 ≤ 200000000) := by
  have hm := q_midB32 (i := if desc then (n : Int) - 1 - i else i) (n := n) (p := p) (by split <;> omega) (by omega) hp
  simp only [yElU]
  simp
  refine ⟨by omega, by omega, by omega, hw, ha, hs, hh⟩
theorem q_elL {n : Nat} {y p a w : Int} {desc : Bool} {c0 i : Nat} (hi : i < n) (hn : n ≤ 32) (hp : 0 ≤ p ∧ p ≤ 100000000) (ha : 1 ≤ a ∧ a ≤ 200000000) (hx : -1000000000 ≤ y ∧ y ≤ 1000000000) (hw : 1 ≤ w ∧ w ≤ 200000000) (hc : c0 + i < 65) : (1 ≤ yElL n y p a w desc c0 i 0 ∧ yElL n y p a w desc c0 i 0 ≤ 65) ∧ (-2000000000 ≤ yElL n y p a w desc c0 i 1 ∧ yElL n y p a w desc c0 i 1 ≤ 2000000000) ∧ (-2000000000 ≤ yElL n y p a w desc c0 i 2 ∧ yElL n y p a w desc c0 i 2 ≤ 2000000000) ∧ (1 ≤ yElL n y p a w desc c0 i 3 ∧ yElL n y p a w desc c0 i 3 ≤ 200000000) ∧ (1 ≤ yElL n y p a w desc c0 i 4 ∧ yElL n y p a w desc c0 i 4 ≤ 200000000) ∧ (yElL n y p a w desc c0 i 5 = 0 ∨ yElL n y p a w desc c0 i 5 = 1) ∧ (0 ≤ yElL n y p a w desc c0 i 6 ∧ yElL n y p a w desc c0 i 6 ≤ 200000000) := by
  have hm := q_midB32 (i := if desc then (n : Int) - 1 - i else i) (n := n) (p := p) (by split <;> omega) (by omega) hp
  simp only [yElL]
  simp
  refine ⟨by omega, by omega, by omega, ha, hw⟩
theorem q_ok2 {n : Nat} {xl xr p a w sh ho : Int} (hn1 : 1 ≤ n) (hn : n ≤ 32) (hp : 0 ≤ p ∧ p ≤ 100000000) (ha : 1 ≤ a ∧ a ≤ 200000000) (hxl : -1000000000 ≤ xl ∧ xl ≤ 1000000000) (hxr : -1000000000 ≤ xr ∧ xr ≤ 1000000000) (hw : 1 ≤ w ∧ w ≤ 200000000) (hs : sh = 0 ∨ sh = 1) (hh : 0 ≤ ho ∧ ho ≤ 200000000) : yOK (2 * n) (yF2 n xl xr p a w sh ho) := by
  have F0 : ∀ k : Nat, k < 2 * n → yF2 n xl xr p a w sh ho k 0 = k + 1 := by
    intro k hk
    unfold yF2 yElU
    split <;> simp <;> omega
  have hz := q_midZ (n := (n : Int)) (p := p) (by omega) hp.1
  refine ⟨by omega, fun k hk => ?_, fun k k' hk hk' he => ?_, ⟨⟨0, by omega, ?_⟩, ⟨n, by omega, ?_⟩, ⟨0, by omega, ?_⟩, ⟨0, by omega, ?_⟩⟩⟩
  · unfold yF2
    by_cases e : k < n
    · simp only [if_pos e]
      exact q_elU e hn hp ha hxl hw hs hh (by omega)
    · simp only [if_neg e]
      exact q_elU (by omega) hn hp ha hxr hw hs hh (by omega)
  · rw [F0 k hk, F0 k' hk'] at he
    omega
  · unfold yF2
    rw [if_pos (by omega)]
    simp [yElU]
    omega
  · unfold yF2
    rw [if_neg (by omega)]
    simp [yElU]
    omega
  · unfold yF2
    rw [if_pos (by omega), if_pos (by omega)]
    simp [yElU]
    omega
  · unfold yF2
    rw [if_pos (by omega), if_pos (by omega)]
    simp [yElU]
    omega
theorem q_ok4 {n : Nat} {xl xr p a w tw th : Int} {t : Bool} (hn1 : 1 ≤ n) (hn : n ≤ 16) (hp : 0 ≤ p ∧ p ≤ 100000000) (ha : 1 ≤ a ∧ a ≤ 200000000) (hxl : -1000000000 ≤ xl ∧ xl ≤ 1000000000) (hxr : -1000000000 ≤ xr ∧ xr ≤ 1000000000) (hw : 1 ≤ w ∧ w ≤ 200000000) (ht : t = true → (1 ≤ tw ∧ tw ≤ 200000000) ∧ 1 ≤ th ∧ th ≤ 200000000) : yOK (4 * n + (if t then 1 else 0)) (yF4 n xl xr p a w tw th) := by
  have F0 : ∀ k : Nat, k < 4 * n + (if t then 1 else 0) → yF4 n xl xr p a w tw th k 0 = k + 1 := by
    intro k hk
    unfold yF4 yElU yElL yElT
    have : k ≤ 4 * n := by split at hk <;> omega
    repeat' split
    all_goals first | rfl | (simp; done) | skip
    all_goals (simp at *; try omega)
  have hz := q_midZ (n := (n : Int)) (p := p) (by omega) hp.1
  have hNb : 4 * n ≤ 4 * n + (if t then 1 else 0) ∧ 4 * n + (if t then 1 else 0) ≤ 65 := by split <;> omega
  refine ⟨by omega, fun k hk => ?_, fun k k' hk hk' he => ?_, ⟨⟨0, by omega, ?_⟩, ⟨2 * n, by omega, ?_⟩, ⟨0, by omega, ?_⟩, ⟨0, by omega, ?_⟩⟩⟩
  · unfold yF4
    by_cases e : k < n
    · simp only [if_pos e]
      exact q_elU e (by omega) hp ha hxl hw (Or.inl rfl) (by omega) (by omega)
    · simp only [if_neg e]
      by_cases e2 : k < 2 * n
      · simp only [if_pos e2]
        exact q_elL (by omega) (by omega) hp ha hxl hw (by omega)
      · simp only [if_neg e2]
        by_cases e3 : k < 3 * n
        · simp only [if_pos e3]
          exact q_elU (by omega) (by omega) hp ha hxr hw (Or.inl rfl) (by omega) (by omega)
        · simp only [if_neg e3]
          by_cases e4 : k < 4 * n
          · simp only [if_pos e4]
            exact q_elL (by omega) (by omega) hp ha hxr hw (by omega)
          · simp only [if_neg e4]
            cases t with
            | false => simp at hk; omega
            | true =>
              have := ht rfl
              simp only [yElT]
              simp
              omega
  · rw [F0 k hk, F0 k' hk'] at he
    omega
  · unfold yF4
    rw [if_pos (by omega)]
    simp [yElU]
    omega
  · unfold yF4
    rw [if_neg (by omega), if_neg (by omega), if_pos (by omega)]
    simp [yElU]
    omega
  · unfold yF4
    rw [if_pos (by omega), if_pos (by omega)]
    simp [yElU]
    omega
  · unfold yF4
    rw [if_pos (by omega), if_pos (by omega)]
    simp [yElU]
    omega
theorem q_okg {lo : Nat → Int32} {rows cols : Nat} {P sz : Int} (hr : 1 ≤ rows ∧ rows ≤ 8) (hc : 1 ≤ cols ∧ cols ≤ 8) (hP : 0 ≤ P ∧ P ≤ 100000000) (hs : 1 ≤ sz ∧ sz ≤ 200000000) (hk : ¬ yKept lo (rows * cols) = 0) : yOK (yKept lo (rows * cols)) (yFg lo (yBall rows cols P sz) (rows * cols)) := by
  have hM : rows * cols ≤ 64 := Nat.mul_le_mul hr.2 hc.2
  have hL := q_keptL (lo := lo) (rows * cols)
  have at' : ∀ k : Nat, k < yKept lo (rows * cols) → ∃ m : Nat, m < rows * cols ∧ lo (m + 1) = 0 ∧ yKept lo m = k ∧ yFg lo (yBall rows cols P sz) (rows * cols) k = yBall rows cols P sz m := by
    intro k hk
    obtain ⟨m, h1, h2, h3⟩ := q_keptE (rows * cols) hk
    refine ⟨m, h1, h2, h3, ?_⟩
    rw [← h3]
    exact q_FgAt h2 (rows * cols) h1
  have bnd : ∀ m : Nat, m < rows * cols → (-450000000 ≤ yBall rows cols P sz m 1 ∧ yBall rows cols P sz m 1 ≤ 450000000) ∧ (-450000000 ≤ yBall rows cols P sz m 2 ∧ yBall rows cols P sz m 2 ≤ 450000000) := by
    intro m hm
    have h1 : m % cols < cols := Nat.mod_lt _ (by omega)
    have h2 : m / cols < rows := by rw [Nat.div_lt_iff_lt_mul (by omega)]; exact hm
    have e1 : yBall rows cols P sz m 1 = yMid (m % cols : Nat) cols P - sz / 2 := rfl
    have e2 : yBall rows cols P sz m 2 = yMid (rows - 1 - (m / cols : Nat)) rows P - sz / 2 := rfl
    rw [e1, e2]
    unfold yMid
    generalize m % cols = q at h1
    generalize m / cols = w at h2
    have b1 := q_mulb (a := 2 * (q : Int) - ((cols : Int) - 1)) (b := P / 2) (A := 7) (B := 50000000) (by omega) (by omega) (by omega) (by omega)
    have b2 := q_mulb (a := 2 * ((rows : Int) - 1 - w) - ((rows : Int) - 1)) (b := P / 2) (A := 7) (B := 50000000) (by omega) (by omega) (by omega) (by omega)
    omega
  refine ⟨by omega, fun k hk => ?_, fun k k' hk hk' he => ?_, ?_⟩
  · obtain ⟨m, h1, _, _, h4⟩ := at' k hk
    rw [h4]
    have := bnd m h1
    refine ⟨?_, by omega, by omega, ?_, ?_, ?_, ?_⟩
    · simp [yBall]
      omega
    · simp [yBall]
      omega
    · simp [yBall]
      omega
    · simp [yBall]
    · simp [yBall]
  · obtain ⟨m, h1, _, h3, h4⟩ := at' k hk
    obtain ⟨m', h1', _, h3', h4'⟩ := at' k' hk'
    rw [h4, h4'] at he
    simp [yBall] at he
    have : m = m' := by omega
    rw [← h3, ← h3', this]
  · obtain ⟨m, h1, _, h3, h4⟩ := at' 0 (by omega)
    have := bnd m h1
    have e3 : yBall rows cols P sz m 3 = sz := by simp [yBall]
    have e4 : yBall rows cols P sz m 4 = sz := by simp [yBall]
    refine ⟨⟨0, by omega, by rw [h4]; omega⟩, ⟨0, by omega, by rw [h4]; omega⟩, ⟨0, by omega, by rw [h4]; omega⟩, ⟨0, by omega, by rw [h4]; omega⟩⟩
theorem q_scaleL : ∀ (n r s : Nat), yScale n r s ≤ r ∨ yScale n r s = s := by
  intro n
  induction n with
  | zero => intro r s; exact Or.inr rfl
  | succ n ih =>
    intro r s
    rw [yScale]
    split
    · rename_i h
      rcases ih r (10 * s) with h1 | h1
      · exact Or.inl h1
      · left
        rw [h1]
        by_cases hs : s = 0
        · omega
        · have := Nat.div_mul_le_self r s
          have := Nat.mul_le_mul_right s h
          omega
    · exact Or.inr rfl
theorem q_emitK : ∀ (n r s k : Nat), s < 10 ^ k → (yEmit n r s).length ≤ k := by
  intro n
  induction n with
  | zero => intro r s k _; exact Nat.zero_le _
  | succ n ih =>
    intro r s k h
    rw [yEmit]
    split
    · exact Nat.zero_le _
    · cases k with
      | zero => simp at h; omega
      | succ k =>
        rw [List.length_cons]
        have := ih r (s / 10) k (by rw [Nat.pow_succ] at h; omega)
        omega
theorem q_numK {v : Int} {k : Nat} (hk : 1 ≤ k) (hv : v.natAbs < 10 ^ k) : (yNum v).length ≤ k + 1 ∧ (0 ≤ v → (yNum v).length ≤ k) := by
  unfold yNum
  have h1 : yScale 18 v.natAbs 1 < 10 ^ k := by
    rcases q_scaleL 18 v.natAbs 1 with h | h
    · omega
    · rw [h]
      exact Nat.one_lt_pow (by omega) (by decide)
  have h2 := q_emitK 20 v.natAbs _ k h1
  rw [List.length_append]
  refine ⟨?_, fun h => ?_⟩
  · split
    · rw [List.length_singleton]
      omega
    · rw [List.length_nil]
      omega
  · rw [if_neg (by omega), List.length_nil]
    omega
theorem q_padTL {N : Nat} {F : Nat → Nat → Int} {pad : Nat → Int64} (h : yOK N F) (hl : yLay pad N F) : ∀ n : Nat, n ≤ N → (yPadsT pad n).length ≤ 59 * n := by
  intro n
  induction n with
  | zero => intro _; exact Nat.le_refl _
  | succ n ih =>
    intro hn
    have h1 := ih (by omega)
    have g := h.2.1 n (by omega)
    have l0 := hl n (by omega) 0 (by decide)
    rw [Nat.add_zero] at l0
    rw [yPadsT, yPadT, l0, hl n (by omega) 1 (by decide), hl n (by omega) 2 (by decide), hl n (by omega) 3 (by decide), hl n (by omega) 4 (by decide), hl n (by omega) 5 (by decide), hl n (by omega) 6 (by decide)]
    have n0 := (q_numK (v := F n 0) (k := 2) (by decide) (by simp; omega)).2 (by omega)
    have n1 := (q_numK (v := F n 1) (k := 10) (by decide) (by simp; omega)).1
    have n2 := (q_numK (v := F n 2) (k := 10) (by decide) (by simp; omega)).1
    have n3 := (q_numK (v := F n 3) (k := 9) (by decide) (by simp; omega)).2 (by omega)
    have n4 := (q_numK (v := F n 4) (k := 9) (by decide) (by simp; omega)).2 (by omega)
    have n5 := (q_numK (v := F n 5) (k := 1) (by decide) (by simp; omega)).2 (by omega)
    have n6 := (q_numK (v := F n 6) (k := 9) (by decide) (by simp; omega)).2 (by omega)
    simp only [List.length_append, List.length_singleton]
    omega
theorem q_textL {N : Nat} {F : Nat → Nat → Int} {pad court : Nat → Int64} {T : List Int32} (h : yOK N F) (hl : yLay pad N F) (hT : T.length ≤ 60) (hc : ∀ j : Nat, j < 4 → -4000000000 ≤ (court j).toInt ∧ (court j).toInt ≤ 4000000000) : (yText T pad court N).length ≤ 4096 := by
  have h1 := q_padTL h hl N (Nat.le_refl N)
  have c0 := hc 0 (by decide)
  have c1 := hc 1 (by decide)
  have c2 := hc 2 (by decide)
  have c3 := hc 3 (by decide)
  have n0 := (q_numK (v := (court 0).toInt) (k := 10) (by decide) (by simp; omega)).1
  have n1 := (q_numK (v := (court 1).toInt) (k := 10) (by decide) (by simp; omega)).1
  have n2 := (q_numK (v := (court 2).toInt) (k := 10) (by decide) (by simp; omega)).1
  have n3 := (q_numK (v := (court 3).toInt) (k := 10) (by decide) (by simp; omega)).1
  have hN := h.1
  unfold yText yCourtT
  simp only [List.length_append, List.length_singleton, List.length_cons, List.length_nil]
  omega
theorem q_yardB {N : Nat} {F : Nat → Nat → Int} {body : Bool} {bw bh c r : Int} (h : yOK N F) (hb : 0 ≤ bw ∧ bw ≤ 1000000000) (hh : 0 ≤ bh ∧ bh ≤ 1000000000) (hc : 0 ≤ c ∧ c ≤ 10000000) (hr : 1 ≤ r ∧ r ≤ 10000000) (j : Nat) : -4000000000 ≤ yYard N F body bw bh c r j ∧ yYard N F body bw bh c r j ≤ 4000000000 := by
  have m1 := q_mnB (f := fun k => F k 1) (A := -2000000000) (B := 2000000000) (N - 1) (fun k hk => by have := h.1; have := h.2.1 k (by omega); exact this.2.1)
  have m2 := q_mnB (f := fun k => F k 2) (A := -2000000000) (B := 2000000000) (N - 1) (fun k hk => by have := h.1; have := h.2.1 k (by omega); exact this.2.2.1)
  have m3 := q_mxB (f := fun k => F k 1 + F k 3) (A := -2000000000) (B := 2200000000) (N - 1) (fun k hk => by have := h.1; have := h.2.1 k (by omega); omega)
  have m4 := q_mxB (f := fun k => F k 2 + F k 4) (A := -2000000000) (B := 2200000000) (N - 1) (fun k hk => by have := h.1; have := h.2.1 k (by omega); omega)
  have l1 := q_loB (a := yMn (fun k => F k 1) (N - 1)) (b := -(bw / 2))
  have l2 := q_loB (a := yMn (fun k => F k 2) (N - 1)) (b := -(bh / 2))
  have l3 := q_hgB (a := yMx (fun k => F k 1 + F k 3) (N - 1)) (b := bw / 2)
  have l4 := q_hgB (a := yMx (fun k => F k 2 + F k 4) (N - 1)) (b := bh / 2)
  have hE : -2300000000 ≤ yEdge N F body bw bh j ∧ yEdge N F body bw bh j ≤ 2300000000 := by
    unfold yEdge
    split
    · split <;> omega
    · split
      · split <;> omega
      · split
        · split <;> omega
        · split <;> omega
  have d := q_dnB (p := yEdge N F body bw bh j - c) (r := r) hr.1
  have u := q_upB (p := yEdge N F body bw bh j + c) (r := r) hr.1
  unfold yYard
  split <;> omega
