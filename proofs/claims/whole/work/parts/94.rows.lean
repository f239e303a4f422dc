def yMid (i n p : Int) : Int := (2 * i - (n - 1)) * (p / 2)
theorem q_midB {i n p : Int} (hi : 0 ≤ i ∧ i ≤ n - 1) (hn : n ≤ 1000) (hp : 0 ≤ p ∧ p ≤ 100000000) : -50000000000 ≤ yMid i n p ∧ yMid i n p ≤ 50000000000 := by
  unfold yMid
  have := q_mulb (a := 2 * i - (n - 1)) (b := p / 2) (A := 1000) (B := 50000000) (by omega) (by omega) (by omega) (by omega)
  omega
theorem q_midC {i n p : Int64} (hi : 0 ≤ i.toInt ∧ i.toInt ≤ n.toInt - 1) (hn : n.toInt ≤ 1000) (hp : 0 ≤ p.toInt ∧ p.toInt ≤ 100000000) : ((2 * i - (n - 1)) * (p / 2)).toInt = yMid i.toInt n.toInt p.toInt := by
  have f1 : (1 : Int64).toInt = 1 := by decide
  have f2 : (2 : Int64).toInt = 2 := by decide
  have a1 : (2 * i).toInt = 2 * i.toInt := by rw [y_mul6 (by rw [f2]; omega) (by rw [f2]; omega), f2]
  have a2 : (n - 1).toInt = n.toInt - 1 := by rw [y_sub6 (by omega) (by omega), f1]
  have a3 : (2 * i - (n - 1)).toInt = 2 * i.toInt - (n.toInt - 1) := by rw [y_sub6 (by omega) (by omega), a1, a2]
  have a4 : (p / 2).toInt = p.toInt / 2 := by rw [y_div6 (by omega), f2, Int.tdiv_eq_ediv_of_nonneg hp.1]
  have b := q_midB hi hn hp
  unfold yMid at b ⊢
  rw [y_mul6 (by rw [a3, a4]; omega) (by rw [a3, a4]; omega), a3, a4]
theorem q_midM {i n p : Int64} (hi : 0 ≤ i.toInt ∧ i.toInt ≤ n.toInt - 1) (hn : n.toInt ≤ 1000) (hp : 0 ≤ p.toInt ∧ p.toInt ≤ 100000000) (h2 : p.toInt % 2 = 0) : (i * p - ((n - 1) * p) / 2).toInt = yMid i.toInt n.toInt p.toInt := by
  rw [← q_middle (by omega) (by omega) (by omega) h2]
  exact q_midC hi hn hp
theorem q_half {a : Int64} (h : 0 ≤ a.toInt) : (a / 2).toInt = a.toInt / 2 := by
  have := y_r6 a
  rw [y_div6 (by omega), (by decide : (2 : Int64).toInt = 2), Int.tdiv_eq_ediv_of_nonneg h]
theorem q_nhalf {a : Int64} (h : 0 ≤ a.toInt) : ((-a) / 2).toInt = -(a.toInt / 2) := by
  have := y_r6 a
  have hn : (-a).toInt = -a.toInt := y_neg6 (by omega)
  rw [y_div6 (by omega), (by decide : (2 : Int64).toInt = 2), hn, Int.neg_tdiv, Int.tdiv_eq_ediv_of_nonneg h]
/-- one row of pads, standing -/
def yRowU (F : Nat → Nat → Int) (c0 n : Nat) (x p a w sh ho : Int) (desc : Bool) : Prop := ∀ i : Nat, i < n → F (c0 + i) 0 = c0 + i + 1 ∧ F (c0 + i) 1 = x ∧ F (c0 + i) 2 = yMid (if desc then n - 1 - i else i) n p - a / 2 ∧ F (c0 + i) 3 = w ∧ F (c0 + i) 4 = a ∧ F (c0 + i) 5 = sh ∧ F (c0 + i) 6 = ho
/-- one row of pads, lying -/
def yRowL (F : Nat → Nat → Int) (c0 n : Nat) (y p a h : Int) (desc : Bool) : Prop := ∀ i : Nat, i < n → F (c0 + i) 0 = c0 + i + 1 ∧ F (c0 + i) 1 = yMid (if desc then n - 1 - i else i) n p - a / 2 ∧ F (c0 + i) 2 = y ∧ F (c0 + i) 3 = a ∧ F (c0 + i) 4 = h ∧ F (c0 + i) 5 = 0 ∧ F (c0 + i) 6 = 0
theorem q_upr28 {n32 flag : Int32} {pitch outer inner across hole x : Int64} {F : Nat → Nat → Int} {c0 n : Nat} {post : Int32 → (Nat → Int64) → Prop} (hn : n32.toInt = n) (hc : c0 + n ≤ 65) (hp : 0 ≤ pitch.toInt ∧ pitch.toInt ≤ 100000000) (hio : 0 ≤ inner.toInt ∧ inner.toInt ≤ outer.toInt ∧ outer.toInt ≤ 1000000000) (ha : 0 ≤ across.toInt ∧ across.toInt ≤ 1000000000) (hF : yRowU F c0 n x.toInt pitch.toInt across.toInt ((outer.toInt - inner.toInt) / 2) (if hole.toInt ≤ 0 then 0 else 1) hole.toInt (!decide (flag = 0))) (hpost : ∀ (cnt' : Int32) (cells' : Nat → Int64), cnt'.toInt = c0 + n → yLay cells' (c0 + n) F → post cnt' cells') : ∀ (d : Nat) (y5 cnt : Int32) (cells : Nat → Int64), 0 ≤ y5.toInt → y5.toInt + d = n → cnt.toInt = c0 + y5.toInt → yLay cells (c0 + y5.toInt.toNat) F → P_Ma_addUpright_28 n32 flag pitch outer inner across hole post (d + 1) x y5 cnt cells := by
  have e1 : (1 : Int32).toInt = 1 := by decide
  have f0 : (0 : Int64).toInt = 0 := by decide
  have f2 : (2 : Int64).toInt = 2 := by decide
  intro d
  induction d with
  | zero =>
    intro y5 cnt cells h0 h1 h2 hl
    refine ⟨fun _ => hpost _ _ (by omega) ?_, fun hx => ?_⟩
    · have : y5.toInt.toNat = n := by omega
      rw [this] at hl
      exact hl
    · rw [y_le] at hx
      omega
  | succ d ih =>
    intro y5 cnt cells h0 h1 h2 hl
    have hs := q_inc (y := y5) (n := 65) (by omega) (by omega) (by omega)
    have hcs : (cnt + 1).toInt = cnt.toInt + 1 := q_inc (n := 65) (by omega) (by omega) (by omega)
    obtain ⟨g0, g1, g2, g3, g4, g5, g6⟩ := hF y5.toInt.toNat (by omega)
    have hw1 : (outer - inner).toInt = outer.toInt - inner.toInt := y_sub6 (by omega) (by omega)
    have hw : ((outer - inner) / 2).toInt = (outer.toInt - inner.toInt) / 2 := by rw [q_half (by omega), hw1]
    have hac : (across / 2).toInt = across.toInt / 2 := q_half ha.1
    refine ⟨fun hx => ?_, fun _ => ?_⟩
    · rw [y_le] at hx
      omega
    have key : ∀ t : Int64, t.toInt = (if (!decide (flag = 0)) = true then (n : Int) - 1 - y5.toInt.toNat else y5.toInt.toNat) → P_Ma_addUpright_51 n32 pitch outer inner across hole post (P_Ma_addUpright_28 n32 flag pitch outer inner across hole post (d + 1)) x y5 t cnt cells := by
      intro t ht
      have htb : 0 ≤ t.toInt ∧ t.toInt ≤ n32.toInt64.toInt - 1 := by
        rw [y_64, hn]
        split at ht <;> omega
      have hm := q_midC (i := t) (n := n32.toInt64) (p := pitch) htb (by rw [y_64]; omega) hp
      have hmb := q_midB (i := t.toInt) (n := n32.toInt64.toInt) (p := pitch.toInt) htb (by rw [y_64]; omega) hp
      rw [← hm] at hmb
      have g2' : F (c0 + y5.toInt.toNat) 2 = ((2 * t - (n32.toInt64 - 1)) * (pitch / 2) - across / 2).toInt := by
        rw [y_sub6 (by omega) (by omega), hm, hac, g2, ht, y_64, hn]
      show ∀ x2 : Int64, _
      intro x2 ex2
      subst ex2
      have hnext : ∀ (cnt' : Int32) (cells' : Nat → Int64), cnt'.toInt = (c0 + y5.toInt.toNat : Nat) + 1 → yLay cells' (c0 + y5.toInt.toNat + 1) F → ∀ x3 : Int32, x3 = y5 + 1 → P_Ma_addUpright_28 n32 flag pitch outer inner across hole post (d + 1) x x3 cnt' cells' := by
        intro cnt' cells' k1 k2 x3 ex3
        subst ex3
        refine ih (y5 + 1) cnt' cells' (by omega) (by omega) (by omega) ?_
        have : c0 + (y5 + 1).toInt.toNat = c0 + y5.toInt.toNat + 1 := by omega
        rw [this]
        exact k2
      refine ⟨fun hh => q_add (c := c0 + y5.toInt.toNat) (by omega) (by omega) hl (by rw [g0]; omega) g1.symm g2'.symm (by rw [g3]; exact hw) g4.symm ?_ g6.symm hnext, fun hh => q_add (c := c0 + y5.toInt.toNat) (by omega) (by omega) hl (by rw [g0]; omega) g1.symm g2'.symm (by rw [g3]; exact hw) g4.symm ?_ g6.symm hnext⟩
      · rw [y_le6, f0] at hh
        rw [g5, if_pos hh]
        rfl
      · rw [y_le6, f0] at hh
        rw [g5, if_neg hh]
        rfl
    refine ⟨fun hf => key _ ?_, fun hf => key _ ?_⟩
    · rw [y_64, if_neg (by simp [hf])]
      omega
    · have a1 : (n32 - 1).toInt = n32.toInt - 1 := by rw [y_sub (by omega) (by omega), e1]
      rw [y_64, y_sub (by omega) (by omega), a1, if_pos (by simp [hf])]
      omega
theorem q_lyi28 {n32 flag : Int32} {pitch outer inner across x : Int64} {F : Nat → Nat → Int} {c0 n : Nat} {post : Int32 → (Nat → Int64) → Prop} (hn : n32.toInt = n) (hc : c0 + n ≤ 65) (hp : 0 ≤ pitch.toInt ∧ pitch.toInt ≤ 100000000) (hio : 0 ≤ inner.toInt ∧ inner.toInt ≤ outer.toInt ∧ outer.toInt ≤ 1000000000) (ha : 0 ≤ across.toInt ∧ across.toInt ≤ 1000000000) (hF : yRowL F c0 n x.toInt pitch.toInt across.toInt ((outer.toInt - inner.toInt) / 2) (!decide (flag = 0))) (hpost : ∀ (cnt' : Int32) (cells' : Nat → Int64), cnt'.toInt = c0 + n → yLay cells' (c0 + n) F → post cnt' cells') : ∀ (d : Nat) (y5 cnt : Int32) (cells : Nat → Int64), 0 ≤ y5.toInt → y5.toInt + d = n → cnt.toInt = c0 + y5.toInt → yLay cells (c0 + y5.toInt.toNat) F → P_Ma_addLying_28 n32 flag pitch outer inner across post (d + 1) x y5 cnt cells := by
  have e1 : (1 : Int32).toInt = 1 := by decide
  have f0 : (0 : Int64).toInt = 0 := by decide
  have f2 : (2 : Int64).toInt = 2 := by decide
  intro d
  induction d with
  | zero =>
    intro y5 cnt cells h0 h1 h2 hl
    refine ⟨fun _ => hpost _ _ (by omega) ?_, fun hx => ?_⟩
    · have : y5.toInt.toNat = n := by omega
      rw [this] at hl
      exact hl
    · rw [y_le] at hx
      omega
  | succ d ih =>
    intro y5 cnt cells h0 h1 h2 hl
    have hs := q_inc (y := y5) (n := 65) (by omega) (by omega) (by omega)
    have hcs : (cnt + 1).toInt = cnt.toInt + 1 := q_inc (n := 65) (by omega) (by omega) (by omega)
    obtain ⟨g0, g1, g2, g3, g4, g5, g6⟩ := hF y5.toInt.toNat (by omega)
    have hw1 : (outer - inner).toInt = outer.toInt - inner.toInt := y_sub6 (by omega) (by omega)
    have hw : ((outer - inner) / 2).toInt = (outer.toInt - inner.toInt) / 2 := by rw [q_half (by omega), hw1]
    have hac : (across / 2).toInt = across.toInt / 2 := q_half ha.1
    refine ⟨fun hx => ?_, fun _ => ?_⟩
    · rw [y_le] at hx
      omega
    have key : ∀ t : Int64, t.toInt = (if (!decide (flag = 0)) = true then (n : Int) - 1 - y5.toInt.toNat else y5.toInt.toNat) → P_Ma_addLying_51 n32 pitch outer inner across post (P_Ma_addLying_28 n32 flag pitch outer inner across post (d + 1)) x y5 t cnt cells := by
      intro t ht
      have htb : 0 ≤ t.toInt ∧ t.toInt ≤ n32.toInt64.toInt - 1 := by
        rw [y_64, hn]
        split at ht <;> omega
      have hm := q_midC (i := t) (n := n32.toInt64) (p := pitch) htb (by rw [y_64]; omega) hp
      have hmb := q_midB (i := t.toInt) (n := n32.toInt64.toInt) (p := pitch.toInt) htb (by rw [y_64]; omega) hp
      rw [← hm] at hmb
      have g1' : F (c0 + y5.toInt.toNat) 1 = ((2 * t - (n32.toInt64 - 1)) * (pitch / 2) - across / 2).toInt := by
        rw [y_sub6 (by omega) (by omega), hm, hac, g1, ht, y_64, hn]
      show ∀ x2 : Int64, _
      intro x2 ex2
      subst ex2
      refine q_add (c := c0 + y5.toInt.toNat) (by omega) (by omega) hl (by rw [g0]; omega) g1'.symm g2.symm g3.symm (by rw [g4]; exact hw) (by rw [g5]; rfl) (by rw [g6]; rfl) ?_
      intro cnt' cells' k1 k2 x3 ex3
      subst ex3
      refine ih (y5 + 1) cnt' cells' (by omega) (by omega) (by omega) ?_
      have : c0 + (y5 + 1).toInt.toNat = c0 + y5.toInt.toNat + 1 := by omega
      rw [this]
      exact k2
    refine ⟨fun hf => key _ ?_, fun hf => key _ ?_⟩
    · rw [y_64, if_neg (by simp [hf])]
      omega
    · have a1 : (n32 - 1).toInt = n32.toInt - 1 := by rw [y_sub (by omega) (by omega), e1]
      rw [y_64, y_sub (by omega) (by omega), a1, if_pos (by simp [hf])]
      omega
theorem q_upright {n32 flag : Int32} {pitch outer inner across hole : Int64} {F : Nat → Nat → Int} {c0 n : Nat} {cnt : Int32} {cells : Nat → Int64} {post : Int32 → (Nat → Int64) → Prop} (hn : n32.toInt = n) (hc : c0 + n ≤ 65) (hp : 0 ≤ pitch.toInt ∧ pitch.toInt ≤ 100000000) (hio : 0 ≤ inner.toInt ∧ inner.toInt ≤ outer.toInt ∧ outer.toInt ≤ 1000000000) (ha : 0 ≤ across.toInt ∧ across.toInt ≤ 1000000000) (hF : yRowU F c0 n (if flag = 0 then inner.toInt / 2 else -(outer.toInt / 2)) pitch.toInt across.toInt ((outer.toInt - inner.toInt) / 2) (if hole.toInt ≤ 0 then 0 else 1) hole.toInt (!decide (flag = 0))) (hcnt : cnt.toInt = c0) (hl : yLay cells c0 F) (hpost : ∀ (cnt' : Int32) (cells' : Nat → Int64), cnt'.toInt = (c0 + n : Nat) → yLay cells' (c0 + n) F → post cnt' cells') : P_Ma_addUpright n32 flag pitch outer inner across hole cnt cells post := by
  have e0 : (0 : Int32).toInt = 0 := by decide
  refine ⟨fun hf => ⟨n + 1, q_upr28 hn hc hp hio ha ?_ (fun cnt' cells' k1 k2 => hpost cnt' cells' (by omega) k2) n 0 cnt cells (by decide) (by rw [e0]; omega) (by rw [e0]; omega) hl⟩, fun hf => ⟨n + 1, q_upr28 hn hc hp hio ha ?_ (fun cnt' cells' k1 k2 => hpost cnt' cells' (by omega) k2) n 0 cnt cells (by decide) (by rw [e0]; omega) (by rw [e0]; omega) hl⟩⟩
  · rw [if_pos hf] at hF
    rw [q_half hio.1]
    exact hF
  · rw [if_neg hf] at hF
    rw [q_nhalf (by omega)]
    exact hF
theorem q_lying {n32 flag : Int32} {pitch outer inner across : Int64} {F : Nat → Nat → Int} {c0 n : Nat} {cnt : Int32} {cells : Nat → Int64} {post : Int32 → (Nat → Int64) → Prop} (hn : n32.toInt = n) (hc : c0 + n ≤ 65) (hp : 0 ≤ pitch.toInt ∧ pitch.toInt ≤ 100000000) (hio : 0 ≤ inner.toInt ∧ inner.toInt ≤ outer.toInt ∧ outer.toInt ≤ 1000000000) (ha : 0 ≤ across.toInt ∧ across.toInt ≤ 1000000000) (hF : yRowL F c0 n (if flag = 0 then -(outer.toInt / 2) else inner.toInt / 2) pitch.toInt across.toInt ((outer.toInt - inner.toInt) / 2) (!decide (flag = 0))) (hcnt : cnt.toInt = c0) (hl : yLay cells c0 F) (hpost : ∀ (cnt' : Int32) (cells' : Nat → Int64), cnt'.toInt = (c0 + n : Nat) → yLay cells' (c0 + n) F → post cnt' cells') : P_Ma_addLying n32 flag pitch outer inner across cnt cells post := by
  have e0 : (0 : Int32).toInt = 0 := by decide
  refine ⟨fun hf => ⟨n + 1, q_lyi28 hn hc hp hio ha ?_ (fun cnt' cells' k1 k2 => hpost cnt' cells' (by omega) k2) n 0 cnt cells (by decide) (by rw [e0]; omega) (by rw [e0]; omega) hl⟩, fun hf => ⟨n + 1, q_lyi28 hn hc hp hio ha ?_ (fun cnt' cells' k1 k2 => hpost cnt' cells' (by omega) k2) n 0 cnt cells (by decide) (by rw [e0]; omega) (by rw [e0]; omega) hl⟩⟩
  · rw [if_pos hf] at hF
    rw [q_nhalf (by omega)]
    exact hF
  · rw [if_neg hf] at hF
    rw [q_half hio.1]
    exact hF
theorem q_M281 {p1 : Int32} {p2 : Int64} {hasTh : Int32} {told : Nat → Int32} {high : Nat → Int64} {y4 y6 y8 y10 y12 y14 : Int64} {F : Nat → Nat → Int} {c0 n : Nat} {post : Int32 → Int32 → Int32 → (Nat → Int64) → Prop} (hn : y12.toInt = n) (hc : c0 + n ≤ 65) (hp : 0 ≤ y10.toInt ∧ y10.toInt ≤ 100000000) (hp2 : y10.toInt % 2 = 0) (ha : 0 ≤ y8.toInt ∧ y8.toInt ≤ 1000000000) (hx : 0 ≤ y4.toInt) (hF : yRowU F c0 n (-(y4.toInt / 2)) y10.toInt y8.toInt y14.toInt 0 0 true) (hend : ∀ (cnt' : Int32) (cells' : Nat → Int64), cnt'.toInt = (c0 + n : Nat) → yLay cells' (c0 + n) F → ∃ n2, P_M_makeSides_345 p1 p2 hasTh told high post n2 y4 y6 y8 y10 y12 y14 0 cnt' cells') : ∀ (d : Nat) (y16 : Int64) (cnt : Int32) (cells : Nat → Int64), 0 ≤ y16.toInt → y16.toInt + d = n → cnt.toInt = c0 + y16.toInt → yLay cells (c0 + y16.toInt.toNat) F → P_M_makeSides_281 p1 p2 hasTh told high post (d + 1) y4 y6 y8 y10 y12 y14 y16 cnt cells := by
  have f1 : (1 : Int64).toInt = 1 := by decide
  have e1 : (1 : Int32).toInt = 1 := by decide
  intro d
  induction d with
  | zero =>
    intro y16 cnt cells h0 h1 h2 hl
    refine ⟨fun _ => hend _ _ (by omega) ?_, fun hx => ?_⟩
    · have : y16.toInt.toNat = n := by omega
      rw [this] at hl
      exact hl
    · rw [y_le6] at hx
      omega
  | succ d ih =>
    intro y16 cnt cells h0 h1 h2 hl
    have hs : (y16 + 1).toInt = y16.toInt + 1 := by rw [y_add6 (by omega) (by omega), f1]
    have hcs : (cnt + 1).toInt = cnt.toInt + 1 := q_inc (n := 65) (by omega) (by omega) (by omega)
    obtain ⟨g0, g1, g2, g3, g4, g5, g6⟩ := hF y16.toInt.toNat (by omega)
    have hac : (y8 / 2).toInt = y8.toInt / 2 := q_half ha.1
    have hn1 : (y12 - 1).toInt = y12.toInt - 1 := by rw [y_sub6 (by omega) (by omega), f1]
    have ht : (y12 - 1 - y16).toInt = (n : Int) - 1 - (y16.toInt.toNat : Int) := by
      rw [y_sub6 (by omega) (by omega), hn1, hn]
      omega
    have htb : 0 ≤ (y12 - 1 - y16).toInt ∧ (y12 - 1 - y16).toInt ≤ y12.toInt - 1 := by
      rw [ht]
      omega
    have hm := q_midM (i := y12 - 1 - y16) (n := y12) (p := y10) htb (by omega) hp hp2
    have hmb := q_midB (i := (y12 - 1 - y16).toInt) (n := y12.toInt) (p := y10.toInt) htb (by omega) hp
    rw [← hm] at hmb
    have hnext : ∀ (cnt' : Int32) (cells' : Nat → Int64), cnt'.toInt = (c0 + y16.toInt.toNat : Nat) + 1 → yLay cells' (c0 + y16.toInt.toNat + 1) F → ∀ x3 : Int64, x3 = y16 + 1 → P_M_makeSides_281 p1 p2 hasTh told high post (d + 1) y4 y6 y8 y10 y12 y14 x3 cnt' cells' := by
      intro cnt' cells' k1 k2 x3 ex3
      subst ex3
      refine ih (y16 + 1) cnt' cells' (by omega) (by omega) (by omega) ?_
      have : c0 + (y16 + 1).toInt.toNat = c0 + y16.toInt.toNat + 1 := by omega
      rw [this]
      exact k2
    have gm : F (c0 + y16.toInt.toNat) 2 = ((y12 - 1 - y16) * y10 - ((y12 - 1) * y10) / 2 - y8 / 2).toInt := by
      rw [y_sub6 (by omega) (by omega), hm, hac, g2, ht, hn]
      congr 1
    have hle : ¬ y12 ≤ y16 := by rw [y_le6]; omega
    skip
    refine ⟨fun hx => absurd hx hle, fun _ => q_Madd (c := c0 + y16.toInt.toNat) (by omega) (by omega) hl (by rw [g0]; omega) (by rw [g1]; exact q_nhalf hx) gm.symm g3.symm g4.symm (by rw [g5]; rfl) (by rw [g6]; rfl) hnext⟩
theorem q_M345 {p1 : Int32} {p2 : Int64} {hasTh : Int32} {told : Nat → Int32} {high : Nat → Int64} {y4 y6 y8 y10 y12 y14 : Int64} {F : Nat → Nat → Int} {c0 n : Nat} {post : Int32 → Int32 → Int32 → (Nat → Int64) → Prop} (hn : y12.toInt = n) (hc : c0 + n ≤ 65) (hp : 0 ≤ y10.toInt ∧ y10.toInt ≤ 100000000) (hp2 : y10.toInt % 2 = 0) (ha : 0 ≤ y8.toInt ∧ y8.toInt ≤ 1000000000) (hx : 0 ≤ y4.toInt) (hk2 : p1 = 2) (hF : yRowL F c0 n (-(y4.toInt / 2)) y10.toInt y8.toInt y14.toInt false) (hend : ∀ (cnt' : Int32) (cells' : Nat → Int64), cnt'.toInt = (c0 + n : Nat) → yLay cells' (c0 + n) F → P_M_makeSides_406 p1 p2 hasTh told high post y6 y8 y10 y12 y14 cnt' cells') : ∀ (d : Nat) (y16 : Int64) (cnt : Int32) (cells : Nat → Int64), 0 ≤ y16.toInt → y16.toInt + d = n → cnt.toInt = c0 + y16.toInt → yLay cells (c0 + y16.toInt.toNat) F → P_M_makeSides_345 p1 p2 hasTh told high post (d + 1) y4 y6 y8 y10 y12 y14 y16 cnt cells := by
  have f1 : (1 : Int64).toInt = 1 := by decide
  have e1 : (1 : Int32).toInt = 1 := by decide
  intro d
  induction d with
  | zero =>
    intro y16 cnt cells h0 h1 h2 hl
    refine ⟨fun _ => hend _ _ (by omega) ?_, fun hx => ?_⟩
    · have : y16.toInt.toNat = n := by omega
      rw [this] at hl
      exact hl
    · rw [y_le6] at hx
      omega
  | succ d ih =>
    intro y16 cnt cells h0 h1 h2 hl
    have hs : (y16 + 1).toInt = y16.toInt + 1 := by rw [y_add6 (by omega) (by omega), f1]
    have hcs : (cnt + 1).toInt = cnt.toInt + 1 := q_inc (n := 65) (by omega) (by omega) (by omega)
    obtain ⟨g0, g1, g2, g3, g4, g5, g6⟩ := hF y16.toInt.toNat (by omega)
    have hac : (y8 / 2).toInt = y8.toInt / 2 := q_half ha.1
    have ht : (y16).toInt = (y16.toInt.toNat : Int) := by omega
    have htb : 0 ≤ (y16).toInt ∧ (y16).toInt ≤ y12.toInt - 1 := by
      rw [ht]
      omega
    have hm := q_midM (i := y16) (n := y12) (p := y10) htb (by omega) hp hp2
    have hmb := q_midB (i := (y16).toInt) (n := y12.toInt) (p := y10.toInt) htb (by omega) hp
    rw [← hm] at hmb
    have hnext : ∀ (cnt' : Int32) (cells' : Nat → Int64), cnt'.toInt = (c0 + y16.toInt.toNat : Nat) + 1 → yLay cells' (c0 + y16.toInt.toNat + 1) F → ∀ x3 : Int64, x3 = y16 + 1 → P_M_makeSides_345 p1 p2 hasTh told high post (d + 1) y4 y6 y8 y10 y12 y14 x3 cnt' cells' := by
      intro cnt' cells' k1 k2 x3 ex3
      subst ex3
      refine ih (y16 + 1) cnt' cells' (by omega) (by omega) (by omega) ?_
      have : c0 + (y16 + 1).toInt.toNat = c0 + y16.toInt.toNat + 1 := by omega
      rw [this]
      exact k2
    have gm : F (c0 + y16.toInt.toNat) 1 = ((y16) * y10 - ((y12 - 1) * y10) / 2 - y8 / 2).toInt := by
      rw [y_sub6 (by omega) (by omega), hm, hac, g1, ht, hn]
      congr 1
    have hle : ¬ y12 ≤ y16 := by rw [y_le6]; omega
    skip
    refine ⟨fun hx => absurd hx hle, fun _ => ⟨fun hk => absurd hk2 hk, fun _ => q_Madd (c := c0 + y16.toInt.toNat) (by omega) (by omega) hl (by rw [g0]; omega) gm.symm (by rw [g2]; exact q_nhalf hx) g3.symm g4.symm (by rw [g5]; rfl) (by rw [g6]; rfl) hnext⟩⟩
theorem q_M409 {p1 : Int32} {p2 : Int64} {hasTh : Int32} {told : Nat → Int32} {high : Nat → Int64} {y4 y6 y8 y10 y12 y14 : Int64} {F : Nat → Nat → Int} {c0 n : Nat} {post : Int32 → Int32 → Int32 → (Nat → Int64) → Prop} (hn : y12.toInt = n) (hc : c0 + n ≤ 65) (hp : 0 ≤ y10.toInt ∧ y10.toInt ≤ 100000000) (hp2 : y10.toInt % 2 = 0) (ha : 0 ≤ y8.toInt ∧ y8.toInt ≤ 1000000000) (hx : 0 ≤ y6.toInt) (hF : yRowU F c0 n (y6.toInt / 2) y10.toInt y8.toInt y14.toInt 0 0 false) (hend : ∀ (cnt' : Int32) (cells' : Nat → Int64), cnt'.toInt = (c0 + n : Nat) → yLay cells' (c0 + n) F → ∃ n2, P_M_makeSides_467 p1 p2 hasTh told high post n2 y6 y8 y10 y12 y14 0 cnt' cells') : ∀ (d : Nat) (y16 : Int64) (cnt : Int32) (cells : Nat → Int64), 0 ≤ y16.toInt → y16.toInt + d = n → cnt.toInt = c0 + y16.toInt → yLay cells (c0 + y16.toInt.toNat) F → P_M_makeSides_409 p1 p2 hasTh told high post (d + 1) y6 y8 y10 y12 y14 y16 cnt cells := by
  have f1 : (1 : Int64).toInt = 1 := by decide
  have e1 : (1 : Int32).toInt = 1 := by decide
  intro d
  induction d with
  | zero =>
    intro y16 cnt cells h0 h1 h2 hl
    refine ⟨fun _ => hend _ _ (by omega) ?_, fun hx => ?_⟩
    · have : y16.toInt.toNat = n := by omega
      rw [this] at hl
      exact hl
    · rw [y_le6] at hx
      omega
  | succ d ih =>
    intro y16 cnt cells h0 h1 h2 hl
    have hs : (y16 + 1).toInt = y16.toInt + 1 := by rw [y_add6 (by omega) (by omega), f1]
    have hcs : (cnt + 1).toInt = cnt.toInt + 1 := q_inc (n := 65) (by omega) (by omega) (by omega)
    obtain ⟨g0, g1, g2, g3, g4, g5, g6⟩ := hF y16.toInt.toNat (by omega)
    have hac : (y8 / 2).toInt = y8.toInt / 2 := q_half ha.1
    have ht : (y16).toInt = (y16.toInt.toNat : Int) := by omega
    have htb : 0 ≤ (y16).toInt ∧ (y16).toInt ≤ y12.toInt - 1 := by
      rw [ht]
      omega
    have hm := q_midM (i := y16) (n := y12) (p := y10) htb (by omega) hp hp2
    have hmb := q_midB (i := (y16).toInt) (n := y12.toInt) (p := y10.toInt) htb (by omega) hp
    rw [← hm] at hmb
    have hnext : ∀ (cnt' : Int32) (cells' : Nat → Int64), cnt'.toInt = (c0 + y16.toInt.toNat : Nat) + 1 → yLay cells' (c0 + y16.toInt.toNat + 1) F → ∀ x3 : Int64, x3 = y16 + 1 → P_M_makeSides_409 p1 p2 hasTh told high post (d + 1) y6 y8 y10 y12 y14 x3 cnt' cells' := by
      intro cnt' cells' k1 k2 x3 ex3
      subst ex3
      refine ih (y16 + 1) cnt' cells' (by omega) (by omega) (by omega) ?_
      have : c0 + (y16 + 1).toInt.toNat = c0 + y16.toInt.toNat + 1 := by omega
      rw [this]
      exact k2
    have gm : F (c0 + y16.toInt.toNat) 2 = ((y16) * y10 - ((y12 - 1) * y10) / 2 - y8 / 2).toInt := by
      rw [y_sub6 (by omega) (by omega), hm, hac, g2, ht, hn]
      congr 1
    have hle : ¬ y12 ≤ y16 := by rw [y_le6]; omega
    skip
    refine ⟨fun hx => absurd hx hle, fun _ => q_Madd (c := c0 + y16.toInt.toNat) (by omega) (by omega) hl (by rw [g0]; omega) (by rw [g1]; exact q_half hx) gm.symm g3.symm g4.symm (by rw [g5]; rfl) (by rw [g6]; rfl) hnext⟩
theorem q_M467 {p1 : Int32} {p2 : Int64} {hasTh : Int32} {told : Nat → Int32} {high : Nat → Int64} {y4 y6 y8 y10 y12 y14 : Int64} {F : Nat → Nat → Int} {c0 n : Nat} {post : Int32 → Int32 → Int32 → (Nat → Int64) → Prop} (hn : y12.toInt = n) (hc : c0 + n ≤ 65) (hp : 0 ≤ y10.toInt ∧ y10.toInt ≤ 100000000) (hp2 : y10.toInt % 2 = 0) (ha : 0 ≤ y8.toInt ∧ y8.toInt ≤ 1000000000) (hx : 0 ≤ y6.toInt) (hk2 : p1 = 2) (hF : yRowL F c0 n (y6.toInt / 2) y10.toInt y8.toInt y14.toInt true) (hend : ∀ (cnt' : Int32) (cells' : Nat → Int64), cnt'.toInt = (c0 + n : Nat) → yLay cells' (c0 + n) F → P_M_makeSides_532 p1 p2 hasTh told high post y6 cnt' cells') : ∀ (d : Nat) (y16 : Int64) (cnt : Int32) (cells : Nat → Int64), 0 ≤ y16.toInt → y16.toInt + d = n → cnt.toInt = c0 + y16.toInt → yLay cells (c0 + y16.toInt.toNat) F → P_M_makeSides_467 p1 p2 hasTh told high post (d + 1) y6 y8 y10 y12 y14 y16 cnt cells := by
  have f1 : (1 : Int64).toInt = 1 := by decide
  have e1 : (1 : Int32).toInt = 1 := by decide
  intro d
  induction d with
  | zero =>
    intro y16 cnt cells h0 h1 h2 hl
    refine ⟨fun _ => hend _ _ (by omega) ?_, fun hx => ?_⟩
    · have : y16.toInt.toNat = n := by omega
      rw [this] at hl
      exact hl
    · rw [y_le6] at hx
      omega
  | succ d ih =>
    intro y16 cnt cells h0 h1 h2 hl
    have hs : (y16 + 1).toInt = y16.toInt + 1 := by rw [y_add6 (by omega) (by omega), f1]
    have hcs : (cnt + 1).toInt = cnt.toInt + 1 := q_inc (n := 65) (by omega) (by omega) (by omega)
    obtain ⟨g0, g1, g2, g3, g4, g5, g6⟩ := hF y16.toInt.toNat (by omega)
    have hac : (y8 / 2).toInt = y8.toInt / 2 := q_half ha.1
    have hn1 : (y12 - 1).toInt = y12.toInt - 1 := by rw [y_sub6 (by omega) (by omega), f1]
    have ht : (y12 - 1 - y16).toInt = (n : Int) - 1 - (y16.toInt.toNat : Int) := by
      rw [y_sub6 (by omega) (by omega), hn1, hn]
      omega
    have htb : 0 ≤ (y12 - 1 - y16).toInt ∧ (y12 - 1 - y16).toInt ≤ y12.toInt - 1 := by
      rw [ht]
      omega
    have hm := q_midM (i := y12 - 1 - y16) (n := y12) (p := y10) htb (by omega) hp hp2
    have hmb := q_midB (i := (y12 - 1 - y16).toInt) (n := y12.toInt) (p := y10.toInt) htb (by omega) hp
    rw [← hm] at hmb
    have hnext : ∀ (cnt' : Int32) (cells' : Nat → Int64), cnt'.toInt = (c0 + y16.toInt.toNat : Nat) + 1 → yLay cells' (c0 + y16.toInt.toNat + 1) F → ∀ x3 : Int64, x3 = y16 + 1 → P_M_makeSides_467 p1 p2 hasTh told high post (d + 1) y6 y8 y10 y12 y14 x3 cnt' cells' := by
      intro cnt' cells' k1 k2 x3 ex3
      subst ex3
      refine ih (y16 + 1) cnt' cells' (by omega) (by omega) (by omega) ?_
      have : c0 + (y16 + 1).toInt.toNat = c0 + y16.toInt.toNat + 1 := by omega
      rw [this]
      exact k2
    have gm : F (c0 + y16.toInt.toNat) 1 = ((y12 - 1 - y16) * y10 - ((y12 - 1) * y10) / 2 - y8 / 2).toInt := by
      rw [y_sub6 (by omega) (by omega), hm, hac, g1, ht, hn]
      congr 1
    have hle : ¬ y12 ≤ y16 := by rw [y_le6]; omega
    skip
    refine ⟨fun hx => absurd hx hle, fun _ => ⟨fun hk => absurd hk2 hk, fun _ => q_Madd (c := c0 + y16.toInt.toNat) (by omega) (by omega) hl (by rw [g0]; omega) gm.symm (by rw [g2]; exact q_half hx) g3.symm g4.symm (by rw [g5]; rfl) (by rw [g6]; rfl) hnext⟩⟩
theorem q_M167 {high : Nat → Int64} {y4 y6 y8 : Int64} {F : Nat → Nat → Int} {c0 n : Nat} {post : Int32 → Int32 → (Nat → Int64) → Prop} (hn : y8.toInt = n) (hc : c0 + n ≤ 65) (hp : 0 ≤ (high 3).toInt ∧ (high 3).toInt ≤ 100000000) (hp2 : (high 3).toInt % 2 = 0) (ha : 0 ≤ y6.toInt ∧ y6.toInt ≤ 1000000000) (hx : 0 ≤ (high 0).toInt ∧ (high 0).toInt ≤ 1000000000) (hF : yRowU F c0 n (-((high 0).toInt / 2) - y6.toInt / 2) (high 3).toInt y6.toInt y6.toInt 1 y4.toInt true) (hend : ∀ (cnt' : Int32) (cells' : Nat → Int64), cnt'.toInt = (c0 + n : Nat) → yLay cells' (c0 + n) F → ∃ n2, P_M_makeHoles_247 high post n2 y4 y6 y8 0 cnt' cells') : ∀ (d : Nat) (y16 : Int64) (cnt : Int32) (cells : Nat → Int64), 0 ≤ y16.toInt → y16.toInt + d = n → cnt.toInt = c0 + y16.toInt → yLay cells (c0 + y16.toInt.toNat) F → P_M_makeHoles_167 high post (d + 1) y4 y6 y8 y16 cnt cells := by
  have f1 : (1 : Int64).toInt = 1 := by decide
  have e1 : (1 : Int32).toInt = 1 := by decide
  intro d
  induction d with
  | zero =>
    intro y16 cnt cells h0 h1 h2 hl
    refine ⟨fun _ => hend _ _ (by omega) ?_, fun hx => ?_⟩
    · have : y16.toInt.toNat = n := by omega
      rw [this] at hl
      exact hl
    · rw [y_le6] at hx
      omega
  | succ d ih =>
    intro y16 cnt cells h0 h1 h2 hl
    have hs : (y16 + 1).toInt = y16.toInt + 1 := by rw [y_add6 (by omega) (by omega), f1]
    have hcs : (cnt + 1).toInt = cnt.toInt + 1 := q_inc (n := 65) (by omega) (by omega) (by omega)
    obtain ⟨g0, g1, g2, g3, g4, g5, g6⟩ := hF y16.toInt.toNat (by omega)
    have hac : (y6 / 2).toInt = y6.toInt / 2 := q_half ha.1
    have hn1 : (y8 - 1).toInt = y8.toInt - 1 := by rw [y_sub6 (by omega) (by omega), f1]
    have ht : (y8 - 1 - y16).toInt = (n : Int) - 1 - (y16.toInt.toNat : Int) := by
      rw [y_sub6 (by omega) (by omega), hn1, hn]
      omega
    have htb : 0 ≤ (y8 - 1 - y16).toInt ∧ (y8 - 1 - y16).toInt ≤ y8.toInt - 1 := by
      rw [ht]
      omega
    have hm := q_midM (i := y8 - 1 - y16) (n := y8) (p := (high 3)) htb (by omega) hp hp2
    have hmb := q_midB (i := (y8 - 1 - y16).toInt) (n := y8.toInt) (p := (high 3).toInt) htb (by omega) hp
    rw [← hm] at hmb
    have hnext : ∀ (cnt' : Int32) (cells' : Nat → Int64), cnt'.toInt = (c0 + y16.toInt.toNat : Nat) + 1 → yLay cells' (c0 + y16.toInt.toNat + 1) F → ∀ x3 : Int64, x3 = y16 + 1 → P_M_makeHoles_167 high post (d + 1) y4 y6 y8 x3 cnt' cells' := by
      intro cnt' cells' k1 k2 x3 ex3
      subst ex3
      refine ih (y16 + 1) cnt' cells' (by omega) (by omega) (by omega) ?_
      have : c0 + (y16 + 1).toInt.toNat = c0 + y16.toInt.toNat + 1 := by omega
      rw [this]
      exact k2
    have gm : F (c0 + y16.toInt.toNat) 2 = ((y8 - 1 - y16) * (high 3) - ((y8 - 1) * (high 3)) / 2 - y6 / 2).toInt := by
      rw [y_sub6 (by omega) (by omega), hm, hac, g2, ht, hn]
      congr 1
    have hle : ¬ y8 ≤ y16 := by rw [y_le6]; omega
    have hxx : (((-(high 0)) / 2) - y6 / 2).toInt = -((high 0).toInt / 2) - y6.toInt / 2 := by
      have hh := q_nhalf hx.1
      rw [y_sub6 (by rw [hh]; omega) (by rw [hh]; omega), hh, hac]
    refine ⟨fun hx => absurd hx hle, fun _ => ⟨y_in (by decide) (by decide), y_in (by decide) (by decide), q_Madd (c := c0 + y16.toInt.toNat) (by omega) (by omega) hl (by rw [g0]; omega) (by rw [g1]; exact hxx) gm.symm g3.symm g4.symm (by rw [g5]; rfl) g6.symm hnext⟩⟩
theorem q_M247 {high : Nat → Int64} {y4 y6 y8 : Int64} {F : Nat → Nat → Int} {c0 n : Nat} {post : Int32 → Int32 → (Nat → Int64) → Prop} (hn : y8.toInt = n) (hc : c0 + n ≤ 65) (hp : 0 ≤ (high 3).toInt ∧ (high 3).toInt ≤ 100000000) (hp2 : (high 3).toInt % 2 = 0) (ha : 0 ≤ y6.toInt ∧ y6.toInt ≤ 1000000000) (hx : 0 ≤ (high 0).toInt ∧ (high 0).toInt ≤ 1000000000) (hF : yRowU F c0 n ((high 0).toInt / 2 - y6.toInt / 2) (high 3).toInt y6.toInt y6.toInt 1 y4.toInt false) (hend : ∀ (cnt' : Int32) (cells' : Nat → Int64), cnt'.toInt = (c0 + n : Nat) → yLay cells' (c0 + n) F → post 1 cnt' cells') : ∀ (d : Nat) (y16 : Int64) (cnt : Int32) (cells : Nat → Int64), 0 ≤ y16.toInt → y16.toInt + d = n → cnt.toInt = c0 + y16.toInt → yLay cells (c0 + y16.toInt.toNat) F → P_M_makeHoles_247 high post (d + 1) y4 y6 y8 y16 cnt cells := by
  have f1 : (1 : Int64).toInt = 1 := by decide
  have e1 : (1 : Int32).toInt = 1 := by decide
  intro d
  induction d with
  | zero =>
    intro y16 cnt cells h0 h1 h2 hl
    refine ⟨fun _ => hend _ _ (by omega) ?_, fun hx => ?_⟩
    · have : y16.toInt.toNat = n := by omega
      rw [this] at hl
      exact hl
    · rw [y_le6] at hx
      omega
  | succ d ih =>
    intro y16 cnt cells h0 h1 h2 hl
    have hs : (y16 + 1).toInt = y16.toInt + 1 := by rw [y_add6 (by omega) (by omega), f1]
    have hcs : (cnt + 1).toInt = cnt.toInt + 1 := q_inc (n := 65) (by omega) (by omega) (by omega)
    obtain ⟨g0, g1, g2, g3, g4, g5, g6⟩ := hF y16.toInt.toNat (by omega)
    have hac : (y6 / 2).toInt = y6.toInt / 2 := q_half ha.1
    have ht : (y16).toInt = (y16.toInt.toNat : Int) := by omega
    have htb : 0 ≤ (y16).toInt ∧ (y16).toInt ≤ y8.toInt - 1 := by
      rw [ht]
      omega
    have hm := q_midM (i := y16) (n := y8) (p := (high 3)) htb (by omega) hp hp2
    have hmb := q_midB (i := (y16).toInt) (n := y8.toInt) (p := (high 3).toInt) htb (by omega) hp
    rw [← hm] at hmb
    have hnext : ∀ (cnt' : Int32) (cells' : Nat → Int64), cnt'.toInt = (c0 + y16.toInt.toNat : Nat) + 1 → yLay cells' (c0 + y16.toInt.toNat + 1) F → ∀ x3 : Int64, x3 = y16 + 1 → P_M_makeHoles_247 high post (d + 1) y4 y6 y8 x3 cnt' cells' := by
      intro cnt' cells' k1 k2 x3 ex3
      subst ex3
      refine ih (y16 + 1) cnt' cells' (by omega) (by omega) (by omega) ?_
      have : c0 + (y16 + 1).toInt.toNat = c0 + y16.toInt.toNat + 1 := by omega
      rw [this]
      exact k2
    have gm : F (c0 + y16.toInt.toNat) 2 = ((y16) * (high 3) - ((y8 - 1) * (high 3)) / 2 - y6 / 2).toInt := by
      rw [y_sub6 (by omega) (by omega), hm, hac, g2, ht, hn]
      congr 1
    have hle : ¬ y8 ≤ y16 := by rw [y_le6]; omega
    have hxx : (((high 0) / 2) - y6 / 2).toInt = (high 0).toInt / 2 - y6.toInt / 2 := by
      have hh := q_half hx.1
      rw [y_sub6 (by rw [hh]; omega) (by rw [hh]; omega), hh, hac]
    refine ⟨fun hx => absurd hx hle, fun _ => ⟨y_in (by decide) (by decide), y_in (by decide) (by decide), q_Madd (c := c0 + y16.toInt.toNat) (by omega) (by omega) hl (by rw [g0]; omega) (by rw [g1]; exact hxx) gm.symm g3.symm g4.symm (by rw [g5]; rfl) g6.symm hnext⟩⟩
