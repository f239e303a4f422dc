theorem y_charOk {u : Int32} (h : yOk u) : vp_nar .char u = u := by
  have h0 : 0 ≤ u.toInt ∧ u.toInt ≤ 126 := by unfold yOk at h; omega
  have e : u = Int32.ofNat u.toInt.toNat := y_ofNat h0.1
  have k : ∀ n : Nat, n < 127 → vp_nar .char (Int32.ofNat n) = Int32.ofNat n := by decide +kernel
  rw [e]
  exact k _ (by omega)
theorem q_getL {A B : List Int32} {k : Nat} (h : k < A.length) : (A ++ B).getD k 0 = A.getD k 0 := by
  rw [List.getD_eq_getElem?_getD, List.getD_eq_getElem?_getD, List.getElem?_append_left h]
theorem q_getR {A B : List Int32} {k : Nat} (h : A.length ≤ k) : (A ++ B).getD k 0 = B.getD (k - A.length) 0 := by
  rw [List.getD_eq_getElem?_getD, List.getD_eq_getElem?_getD, List.getElem?_append_right h]
theorem q_addUnit {c len : Int32} {u : Nat → Int32} {T : List Int32} {post : Int32 → (Nat → Int32) → Prop} (h : yIs len u T) (hl : (T ++ [c]).length ≤ 4096) (hc : vp_nar .char c = c) (hp : ∀ len' u', yIs len' u' (T ++ [c]) → post len' u') : P_Li_addUnit c len u post := by
  have e0 : (0 : Int32).toInt = 0 := by decide
  have e1 : (1 : Int32).toInt = 1 := by decide
  have e4096 : (4096 : Int32).toInt = 4096 := by decide
  rw [List.length_append, List.length_singleton] at hl
  obtain ⟨h1, h2⟩ := h
  refine ⟨fun hx => ?_, fun _ => ⟨fun hx => ?_, fun _ => ⟨y_in (by omega) (by omega), fun x ex => ?_⟩⟩⟩
  · rw [y_lt] at hx
    omega
  · rw [y_le] at hx
    omega
  · subst ex
    refine hp _ _ ⟨?_, fun k hk => ?_⟩
    · rw [y_add (by omega) (by omega), e1, List.length_append, List.length_singleton]
      omega
    · rw [List.length_append, List.length_singleton] at hk
      rw [y_upd, hc, y_nat]
      by_cases e : k = len.toInt.toNat
      · rw [if_pos e, q_getR (by omega)]
        have : k - T.length = 0 := by omega
        rw [this]
        rfl
      · rw [if_neg e, h2 k (by omega), q_getL (by omega)]
theorem q_digit {r s : Int64} (hr : 0 ≤ r.toInt) (hs : 1 ≤ s.toInt) : vp_nar .char ((((48 + ((r / s) - (r / s) / 10 * 10)).toInt32).toUInt32 % 65536).toInt32) = Int32.ofNat (r.toInt.toNat / s.toInt.toNat % 10 + 48) ∧ (((((48 + ((r / s) - (r / s) / 10 * 10)).toInt32).toUInt32 % 65536).toInt32)) = Int32.ofNat (r.toInt.toNat / s.toInt.toNat % 10 + 48) := by
  have f10 : (10 : Int64).toInt = 10 := by decide
  have f48 : (48 : Int64).toInt = 48 := by decide
  have hrr := y_r6 r
  have a1 : (r / s).toInt = r.toInt / s.toInt := by rw [y_div6 (by omega), Int.tdiv_eq_ediv_of_nonneg hr]
  have a0 : 0 ≤ r.toInt / s.toInt := Int.ediv_nonneg hr (by omega)
  have hqr := y_r6 (r / s)
  have a2 : (r / s / 10).toInt = r.toInt / s.toInt / 10 := by rw [y_div6 (by omega), a1, f10, Int.tdiv_eq_ediv_of_nonneg a0]
  have a3 : (r / s / 10 * 10).toInt = r.toInt / s.toInt / 10 * 10 := by rw [y_mul6 (by rw [a2, f10]; omega) (by rw [a2, f10]; omega), a2, f10]
  have a4 : (r / s - r / s / 10 * 10).toInt = r.toInt / s.toInt % 10 := by rw [y_sub6 (by omega) (by omega), a1, a3]; omega
  have a5 : (48 + (r / s - r / s / 10 * 10)).toInt = 48 + r.toInt / s.toInt % 10 := by rw [y_add6 (by omega) (by omega), a4, f48]
  have a6 : (48 + (r / s - r / s / 10 * 10)).toInt32.toInt = 48 + r.toInt / s.toInt % 10 := by rw [y_32 (by omega) (by omega), a5]
  have a7 : ((r.toInt.toNat / s.toInt.toNat : Nat) : Int) = r.toInt / s.toInt := by
    rw [Int.natCast_ediv, Int.toNat_of_nonneg hr, Int.toNat_of_nonneg (by omega)]
  have a8 : (48 + (r / s - r / s / 10 * 10)).toInt32 = Int32.ofNat (r.toInt.toNat / s.toInt.toNat % 10 + 48) := by
    rw [y_eq, a6, zl_n32 (by omega)]
    omega
  have hok : yOk (Int32.ofNat (r.toInt.toNat / s.toInt.toNat % 10 + 48)) := by
    right
    rw [zl_n32 (by omega)]
    omega
  rw [a8]
  refine ⟨y_char hok, ?_⟩
  have k : ∀ n : Nat, n < 127 → ((Int32.ofNat n).toUInt32 % 65536).toInt32 = Int32.ofNat n := by decide +kernel
  exact k _ (by omega)
theorem q_emit {post : Int32 → (Nat → Int32) → Prop} {r : Int64} (hr : 0 ≤ r.toInt) : ∀ (n : Nat) (s : Int64) (len : Int32) (u : Nat → Int32) (T : List Int32), 0 ≤ s.toInt → s.toInt < 10 ^ n → yIs len u T → (T ++ yEmit n r.toInt.toNat s.toInt.toNat).length ≤ 4096 → (∀ len' u', yIs len' u' (T ++ yEmit n r.toInt.toNat s.toInt.toNat) → post len' u') → P_Li_addNumber_62 post (n + 1) r s len u := by
  have f0 : (0 : Int64).toInt = 0 := by decide
  have f10 : (10 : Int64).toInt = 10 := by decide
  intro n
  induction n with
  | zero =>
    intro s len u T h0 h1 h hl hp
    refine ⟨fun _ => ?_, fun hx => ?_⟩
    · have := hp len u
      rw [yEmit, List.append_nil] at this
      exact this h
    · rw [y_le6, f0] at hx
      omega
  | succ n ih =>
    intro s len u T h0 h1 h hl hp
    rw [yEmit] at hl hp
    by_cases hz : s.toInt = 0
    · have hz' : s.toInt.toNat = 0 := by omega
      rw [if_pos hz', List.append_nil] at hl hp
      refine ⟨fun _ => hp len u h, fun hx => ?_⟩
      rw [y_le6, f0] at hx
      omega
    · have hz' : ¬ s.toInt.toNat = 0 := by omega
      rw [if_neg hz'] at hl hp
      have hd := q_digit (r := r) (s := s) hr (by omega)
      have hdiv : (s / 10).toInt = s.toInt / 10 := by
        have := y_r6 s
        rw [y_div6 (by omega), f10, Int.tdiv_eq_ediv_of_nonneg h0]
      have hdn : (s / 10).toInt.toNat = s.toInt.toNat / 10 := by omega
      refine ⟨fun hx => ?_, fun _ => ⟨fun hx => ?_, ?_⟩⟩
      · rw [y_le6, f0] at hx
        omega
      · rw [y_eq6, f0] at hx
        omega
      · rw [List.length_append, List.length_cons] at hl
        have h10 : (10 : Int) ^ (n + 1) = 10 ^ n * 10 := Int.pow_succ _ _
        refine q_addUnit h (by rw [List.length_append, List.length_singleton]; omega) (hd.1.trans hd.2.symm) (fun len' u' h' x ex => ?_)
        subst ex
        rw [hd.2] at h'
        refine ih (s / 10) len' u' _ (by omega) (by omega) h' ?_ (fun len'' u'' h'' => hp len'' u'' ?_)
        · rw [hdn, List.length_append, List.length_append, List.length_singleton]
          omega
        · rw [hdn, List.append_assoc, List.singleton_append] at h''
          exact h''
theorem q_scaleB : ∀ (n r s : Nat), 1 ≤ s → 1 ≤ yScale n r s ∧ yScale n r s ≤ 10 ^ n * s := by
  intro n
  induction n with
  | zero => intro r s h; rw [yScale]; omega
  | succ n ih =>
    intro r s h
    rw [yScale]
    split
    · have := ih r (10 * s) (by omega)
      rw [Nat.pow_succ, Nat.mul_assoc]
      exact this
    · have : 1 ≤ 10 ^ (n + 1) := Nat.one_le_pow _ _ (by decide)
      have := Nat.mul_le_mul_right s this
      omega
theorem q_scale {post : Int32 → (Nat → Int32) → Prop} {r : Int64} (hr : 0 ≤ r.toInt) {len : Int32} {u : Nat → Int32} {T : List Int32} (h : yIs len u T) {S : Nat} (hl : (T ++ yEmit 20 r.toInt.toNat S).length ≤ 4096) (hp : ∀ len' u', yIs len' u' (T ++ yEmit 20 r.toInt.toNat S) → post len' u') : ∀ (n : Nat) (s : Int64) (y : Int32), n ≤ 18 → y.toInt + n = 18 → 1 ≤ s.toInt → s.toInt ≤ 10 ^ (18 - n) → yScale n r.toInt.toNat s.toInt.toNat = S → P_Li_addNumber_23 post (n + 1) r s y len u := by
  have f0 : (0 : Int64).toInt = 0 := by decide
  have f10 : (10 : Int64).toInt = 10 := by decide
  have e18 : (18 : Int32).toInt = 18 := by decide
  have p18 : (10 : Int) ^ 18 = 1000000000000000000 := by decide
  have p20 : (10 : Int) ^ 20 = 100000000000000000000 := by decide
  intro n
  induction n with
  | zero =>
    intro s y hn hy h1 h2 hS
    rw [yScale] at hS
    refine ⟨fun _ => ⟨21, q_emit hr 20 s len u T (by omega) (by omega) h (by rw [hS]; exact hl) (by rw [hS]; exact hp)⟩, fun hx => ?_⟩
    rw [y_le] at hx
    omega
  | succ n ih =>
    intro s y hn hy h1 h2 hS
    rw [yScale] at hS
    have hpow : (10 : Int) ^ (18 - n) = 10 ^ (18 - (n + 1)) * 10 := by rw [← Int.pow_succ]; congr 1; omega
    have hsm : (10 : Int) ^ (18 - n) ≤ 10 ^ 18 := by
      have := Nat.pow_le_pow_right (n := 10) (by decide) (show 18 - n ≤ 18 by omega)
      exact_mod_cast this
    have hdiv : (r / s).toInt = r.toInt / s.toInt := by
      have := y_r6 r
      rw [y_div6 (by omega), Int.tdiv_eq_ediv_of_nonneg hr]
    have hdn : ((r.toInt.toNat / s.toInt.toNat : Nat) : Int) = r.toInt / s.toInt := by
      rw [Int.natCast_ediv, Int.toNat_of_nonneg hr, Int.toNat_of_nonneg (by omega)]
    refine ⟨fun hx => ?_, fun _ => ⟨fun hx => ?_, fun _ => ⟨fun hx => ?_, fun hx => ?_, fun hx x ex y' ey => ?_⟩⟩⟩
    · rw [y_le] at hx
      omega
    · rw [y_le6, f0] at hx
      omega
    · rw [y_eq6, f0] at hx
      omega
    · rw [y_lt6, f10, hdiv] at hx
      rw [if_neg (by omega)] at hS
      exact ⟨21, q_emit hr 20 s len u T (by omega) (by omega) h (by rw [hS]; exact hl) (by rw [hS]; exact hp)⟩
    · rw [y_lt6, f10, hdiv] at hx
      rw [if_pos (by omega)] at hS
      subst ex ey
      have hm : (s * 10).toInt = s.toInt * 10 := by rw [y_mul6 (by rw [f10]; omega) (by rw [f10]; omega), f10]
      have hmn : (s * 10).toInt.toNat = 10 * s.toInt.toNat := by omega
      have hi := q_inc (y := y) (n := 18) (by omega) (by omega) (by omega)
      exact ih (s * 10) (y + 1) (by omega) (by omega) (by omega) (by omega) (by rw [hmn]; exact hS)
theorem q_addNumber {v : Int64} {len : Int32} {u : Nat → Int32} {T : List Int32} {post : Int32 → (Nat → Int32) → Prop} (h : yIs len u T) (hv : -9000000000000000000 ≤ v.toInt) (hl : (T ++ yNum v.toInt).length ≤ 4096) (hp : ∀ len' u', yIs len' u' (T ++ yNum v.toInt) → post len' u') : P_Li_addNumber v len u post := by
  have f0 : (0 : Int64).toInt = 0 := by decide
  have f1 : (1 : Int64).toInt = 1 := by decide
  unfold yNum at hl hp
  have key : ∀ (r : Int64) (len : Int32) (u : Nat → Int32) (T : List Int32), 0 ≤ r.toInt → yIs len u T → (T ++ yEmit 20 r.toInt.toNat (yScale 18 r.toInt.toNat 1)).length ≤ 4096 → (∀ len' u', yIs len' u' (T ++ yEmit 20 r.toInt.toNat (yScale 18 r.toInt.toNat 1)) → post len' u') → ∃ n2, P_Li_addNumber_23 post n2 r 1 0 len u := fun r len u T hr h hl hp => ⟨19, q_scale hr h hl hp 18 1 0 (by decide) (by decide) (by decide) (by decide) rfl⟩
  by_cases hneg : v.toInt < 0
  · rw [if_pos hneg] at hl hp
    have hn : ¬ 0 ≤ v := by rw [y_le6, f0]; omega
    have hng : (-v).toInt = -v.toInt := y_neg6 (by omega)
    have hna : (-v).toInt.toNat = v.toInt.natAbs := by omega
    refine ⟨fun hx => absurd hx hn, fun _ => ?_⟩
    rw [List.length_append, List.length_append] at hl
    refine q_addUnit h (by rw [List.length_append]; omega) (by decide) (fun len' u' h' => ⟨fun hx => absurd hx hn, fun _ => key (-v) len' u' _ (by omega) h' ?_ (fun len'' u'' h'' => hp _ _ ?_)⟩)
    · rw [hna, List.length_append, List.length_append]
      omega
    · rw [hna, List.append_assoc] at h''
      exact h''
  · rw [if_neg hneg, List.nil_append] at hl hp
    have hn : 0 ≤ v := by rw [y_le6, f0]; omega
    have hna : v.toInt.toNat = v.toInt.natAbs := by omega
    exact ⟨fun _ => ⟨fun _ => key v len u T (by omega) h (by rw [hna]; exact hl) (by rw [hna]; exact hp), fun hx => absurd hn hx⟩, fun hx => absurd hn hx⟩
