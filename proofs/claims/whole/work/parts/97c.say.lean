theorem q_say {c len : Int32} {u : Nat → Int32} {T : List Int32} {post : Int32 → (Nat → Int32) → Prop} (h : yIs len u T) (hl : (T ++ [c]).length ≤ 8000) (hp : ∀ len' u', yIs len' u' (T ++ [c]) → post len' u') : P_M_say c len u post := by
  have e1 : (1 : Int32).toInt = 1 := by decide
  rw [List.length_append, List.length_singleton] at hl
  obtain ⟨h1, h2⟩ := h
  refine ⟨y_in (by omega) (by omega), fun x ex => ?_⟩
  subst ex
  refine hp _ _ ⟨?_, fun k hk => ?_⟩
  · rw [y_add (by omega) (by omega), e1, List.length_append, List.length_singleton]
    omega
  · rw [List.length_append, List.length_singleton] at hk
    rw [y_upd, y_nat]
    by_cases e : k = len.toInt.toNat
    · rw [if_pos e, q_getR (by omega)]
      have : k - T.length = 0 := by omega
      rw [this]
      rfl
    · rw [if_neg e, h2 k (by omega), q_getL (by omega)]
theorem q_sayDigit {r s : Int64} (hr : 0 ≤ r.toInt) (hs : 1 ≤ s.toInt) : (((r / s) - (r / s) / 10 * 10).toInt32) + 48 = Int32.ofNat (r.toInt.toNat / s.toInt.toNat % 10 + 48) := by
  have f10 : (10 : Int64).toInt = 10 := by decide
  have e48 : (48 : Int32).toInt = 48 := by decide
  have hrr := y_r6 r
  have a1 : (r / s).toInt = r.toInt / s.toInt := by rw [y_div6 (by omega), Int.tdiv_eq_ediv_of_nonneg hr]
  have a0 : 0 ≤ r.toInt / s.toInt := Int.ediv_nonneg hr (by omega)
  have hqr := y_r6 (r / s)
  have a2 : (r / s / 10).toInt = r.toInt / s.toInt / 10 := by rw [y_div6 (by omega), a1, f10, Int.tdiv_eq_ediv_of_nonneg a0]
  have a3 : (r / s / 10 * 10).toInt = r.toInt / s.toInt / 10 * 10 := by rw [y_mul6 (by rw [a2, f10]; omega) (by rw [a2, f10]; omega), a2, f10]
  have a4 : (r / s - r / s / 10 * 10).toInt = r.toInt / s.toInt % 10 := by rw [y_sub6 (by omega) (by omega), a1, a3]; omega
  have a5 : (r / s - r / s / 10 * 10).toInt32.toInt = r.toInt / s.toInt % 10 := by rw [y_32 (by omega) (by omega), a4]
  have a7 : ((r.toInt.toNat / s.toInt.toNat : Nat) : Int) = r.toInt / s.toInt := by
    rw [Int.natCast_ediv, Int.toNat_of_nonneg hr, Int.toNat_of_nonneg (by omega)]
  rw [y_eq, y_add (by omega) (by omega), a5, e48, zl_n32 (by omega)]
  omega
theorem q_Memit {post : Int32 → (Nat → Int32) → Prop} {r : Int64} (hr : 0 ≤ r.toInt) : ∀ (n : Nat) (s : Int64) (len : Int32) (u : Nat → Int32) (T : List Int32), 0 ≤ s.toInt → s.toInt < 10 ^ n → yIs len u T → (T ++ yEmit n r.toInt.toNat s.toInt.toNat).length ≤ 8000 → (∀ len' u', yIs len' u' (T ++ yEmit n r.toInt.toNat s.toInt.toNat) → post len' u') → P_M_sayNumber_51 post (n + 1) r s len u := by
  have f0 : (0 : Int64).toInt = 0 := by decide
  have f10 : (10 : Int64).toInt = 10 := by decide
  intro n
  induction n with
  | zero =>
    intro s len u T h0 h1 h hl hp
    refine ⟨fun _ => ?_, fun hx => ?_⟩
    · have := hp len u
      rw [yEmit, List.append_nil] at this
      exact this h
    · rw [y_le6, f0] at hx
      omega
  | succ n ih =>
    intro s len u T h0 h1 h hl hp
    rw [yEmit] at hl hp
    by_cases hz : s.toInt = 0
    · have hz' : s.toInt.toNat = 0 := by omega
      rw [if_pos hz', List.append_nil] at hl hp
      refine ⟨fun _ => hp len u h, fun hx => ?_⟩
      rw [y_le6, f0] at hx
      omega
    · have hz' : ¬ s.toInt.toNat = 0 := by omega
      rw [if_neg hz'] at hl hp
      have hd := q_sayDigit (r := r) (s := s) hr (by omega)
      have hdiv : (s / 10).toInt = s.toInt / 10 := by
        have := y_r6 s
        rw [y_div6 (by omega), f10, Int.tdiv_eq_ediv_of_nonneg h0]
      have hdn : (s / 10).toInt.toNat = s.toInt.toNat / 10 := by omega
      refine ⟨fun hx => ?_, fun _ => ⟨fun hx => ?_, ?_⟩⟩
      · rw [y_le6, f0] at hx
        omega
      · rw [y_eq6, f0] at hx
        omega
      · rw [List.length_append, List.length_cons] at hl
        have h10 : (10 : Int) ^ (n + 1) = 10 ^ n * 10 := Int.pow_succ _ _
        rw [hd]
        refine q_say h (by rw [List.length_append, List.length_singleton]; omega) (fun len' u' h' x ex => ?_)
        subst ex
        refine ih (s / 10) len' u' _ (by omega) (by omega) h' ?_ (fun len'' u'' h'' => hp len'' u'' ?_)
        · rw [hdn, List.length_append, List.length_append, List.length_singleton]
          omega
        · rw [hdn, List.append_assoc, List.singleton_append] at h''
          exact h''
theorem q_Mscale {post : Int32 → (Nat → Int32) → Prop} {r : Int64} (hr : 0 ≤ r.toInt) {len : Int32} {u : Nat → Int32} {T : List Int32} (h : yIs len u T) {S : Nat} (hl : (T ++ yEmit 20 r.toInt.toNat S).length ≤ 8000) (hp : ∀ len' u', yIs len' u' (T ++ yEmit 20 r.toInt.toNat S) → post len' u') : ∀ (n : Nat) (s : Int64), n ≤ 18 → s.toInt = 10 ^ (18 - n) → yScale n r.toInt.toNat s.toInt.toNat = S → P_M_sayNumber_29 post (n + 1) r s len u := by
  have f0 : (0 : Int64).toInt = 0 := by decide
  have f10 : (10 : Int64).toInt = 10 := by decide
  have p18 : (10 : Int) ^ 18 = 1000000000000000000 := by decide
  have p20 : (10 : Int) ^ 20 = 100000000000000000000 := by decide
  have hrr := y_r6 r
  intro n
  induction n with
  | zero =>
    intro s hn h2 hS
    rw [yScale] at hS
    have hs : s.toInt = 1000000000000000000 := by rw [h2]; decide
    have hdiv : (r / s).toInt = r.toInt / s.toInt := by rw [y_div6 (by omega), Int.tdiv_eq_ediv_of_nonneg hr]
    refine ⟨fun hx => ?_, fun _ => ⟨21, q_Memit hr 20 s len u T (by omega) (by omega) h (by rw [hS]; exact hl) (by rw [hS]; exact hp)⟩, fun hx => ?_⟩
    · rw [y_eq6, f0] at hx
      omega
    · rw [y_lt6, f10, hdiv, hs] at hx
      omega
  | succ n ih =>
    intro s hn h2 hS
    rw [yScale] at hS
    have hpow : (10 : Int) ^ (18 - n) = 10 ^ (18 - (n + 1)) * 10 := by rw [← Int.pow_succ]; congr 1; omega
    have hsm : (10 : Int) ^ (18 - n) ≤ 10 ^ 18 := by
      have := Nat.pow_le_pow_right (n := 10) (by decide) (show 18 - n ≤ 18 by omega)
      exact_mod_cast this
    have hs1 : (1 : Int) ≤ 10 ^ (18 - (n + 1)) := by
      have := Nat.one_le_pow (18 - (n + 1)) 10 (by decide)
      exact_mod_cast this
    have hdiv : (r / s).toInt = r.toInt / s.toInt := by rw [y_div6 (by omega), Int.tdiv_eq_ediv_of_nonneg hr]
    have hdn : ((r.toInt.toNat / s.toInt.toNat : Nat) : Int) = r.toInt / s.toInt := by
      rw [Int.natCast_ediv, Int.toNat_of_nonneg hr, Int.toNat_of_nonneg (by omega)]
    refine ⟨fun hx => ?_, fun hx => ?_, fun hx x ex => ?_⟩
    · rw [y_eq6, f0] at hx
      omega
    · rw [y_lt6, f10, hdiv] at hx
      rw [if_neg (by omega)] at hS
      exact ⟨21, q_Memit hr 20 s len u T (by omega) (by omega) h (by rw [hS]; exact hl) (by rw [hS]; exact hp)⟩
    · rw [y_lt6, f10, hdiv] at hx
      rw [if_pos (by omega)] at hS
      subst ex
      have hm : (10 * s).toInt = 10 * s.toInt := by rw [y_mul6 (by rw [f10]; omega) (by rw [f10]; omega), f10]
      have hmn : (10 * s).toInt.toNat = 10 * s.toInt.toNat := by omega
      exact ih (10 * s) (by omega) (by omega) (by rw [hmn]; exact hS)
theorem q_sayNumber {v : Int64} {len : Int32} {u : Nat → Int32} {T : List Int32} {post : Int32 → (Nat → Int32) → Prop} (h : yIs len u T) (hv : -9000000000000000000 ≤ v.toInt) (hl : (T ++ yNum v.toInt).length ≤ 8000) (hp : ∀ len' u', yIs len' u' (T ++ yNum v.toInt) → post len' u') : P_M_sayNumber v len u post := by
  have f0 : (0 : Int64).toInt = 0 := by decide
  unfold yNum at hl hp
  have key : ∀ (r : Int64) (len : Int32) (u : Nat → Int32) (T : List Int32), 0 ≤ r.toInt → yIs len u T → (T ++ yEmit 20 r.toInt.toNat (yScale 18 r.toInt.toNat 1)).length ≤ 8000 → (∀ len' u', yIs len' u' (T ++ yEmit 20 r.toInt.toNat (yScale 18 r.toInt.toNat 1)) → post len' u') → P_M_sayNumber_26 post r len u := fun r len u T hr h hl hp => ⟨19, q_Mscale hr h hl hp 18 1 (by decide) (by decide) rfl⟩
  by_cases hneg : v.toInt < 0
  · rw [if_pos hneg] at hl hp
    have hn : ¬ 0 ≤ v := by rw [y_le6, f0]; omega
    have hng : (0 - v).toInt = -v.toInt := by rw [y_sub6 (by omega) (by omega), f0]; omega
    have hna : (0 - v).toInt.toNat = v.toInt.natAbs := by omega
    refine ⟨fun hx => absurd hx hn, fun _ => ⟨fun hx => absurd hx hn, fun _ => ?_⟩⟩
    rw [List.length_append, List.length_append] at hl
    refine q_say h (by rw [List.length_append]; omega) (fun len' u' h' => key (0 - v) len' u' _ (by omega) h' ?_ (fun len'' u'' h'' => hp _ _ ?_))
    · rw [hna, List.length_append, List.length_append]
      omega
    · rw [hna, List.append_assoc] at h''
      exact h''
  · rw [if_neg hneg, List.nil_append] at hl hp
    have hn : 0 ≤ v := by rw [y_le6, f0]; omega
    have hna : v.toInt.toNat = v.toInt.natAbs := by omega
    exact ⟨fun _ => ⟨fun _ => key v len u T (by omega) h (by rw [hna]; exact hl) (by rw [hna]; exact hp), fun hx => absurd hn hx⟩, fun hx => absurd hn hx⟩
theorem q_codeB {L : Nat → Int32} : ∀ n : Nat, (∀ i : Nat, i < n → 65 ≤ (L i).toInt ∧ (L i).toInt ≤ 90) → 0 ≤ yCode L n ∧ yCode L n < 27 ^ n := by
  intro n
  induction n with
  | zero => intro _; rw [yCode]; decide
  | succ n ih =>
    intro h
    have h1 := ih (fun i hi => h i (by omega))
    have h2 := h n (by omega)
    rw [yCode, Int.pow_succ]
    omega
theorem q_code27 {L : Nat → Int32} {n : Nat} (h : 65 ≤ (L n).toInt ∧ (L n).toInt ≤ 90) : yCode L (n + 1) / 27 = yCode L n ∧ yCode L (n + 1) % 27 = (L n).toInt - 64 := by
  rw [yCode]
  omega
theorem q_codeD {L : Nat → Int32} {C : Nat} (h : ∀ i : Nat, i < C → 65 ≤ (L i).toInt ∧ (L i).toInt ≤ 90) : ∀ j : Nat, j ≤ C → yCode L C / 27 ^ j = yCode L (C - j) := by
  intro j
  induction j with
  | zero => intro _; rw [Int.pow_zero, Int.ediv_one]; rfl
  | succ j ih =>
    intro hj
    have e : C - j = (C - (j + 1)) + 1 := by omega
    rw [Int.pow_succ, ← Int.ediv_ediv_of_nonneg (by exact_mod_cast Nat.zero_le (27 ^ j)), ih (by omega), e]
    exact (q_code27 (h _ (by omega))).1
theorem q_code2 {L : Nat → Int32} {m : Nat} (h : ∀ i : Nat, i < m → 65 ≤ (L i).toInt ∧ (L i).toInt ≤ 90) : (m ≤ 1 → yCode L m < 27) ∧ (2 ≤ m → 27 ≤ yCode L m) := by
  refine ⟨fun hm => ?_, fun hm => ?_⟩
  · have hb := q_codeB m h
    have : m = 0 ∨ m = 1 := by omega
    rcases this with rfl | rfl
    · have : (27 : Int) ^ 0 = 1 := by decide
      omega
    · have : (27 : Int) ^ 1 = 27 := by decide
      omega
  · obtain ⟨k, rfl⟩ : ∃ k, m = k + 2 := ⟨m - 2, by omega⟩
    have h1 := q_codeB k (fun i hi => h i (by omega))
    have h2 := h k (by omega)
    have h3 := h (k + 1) (by omega)
    rw [yCode, yCode]
    omega
