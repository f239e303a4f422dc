theorem q_say {c len : Int32} {u : Nat → Int32} {T : List Int32} {post : Int32 → (Nat → Int32) → Prop} (h : yIs len u T) (hl : (T ++ [c]).length ≤ 8000) (hp : ∀ len' u', yIs len' u' (T ++ [c]) → post len' u') : P_M_say c len u post := by
  have e1 : (1 : Int32).toInt = 1 := by decide
  rw [List.length_append, List.length_singleton] at hl
  obtain ⟨h1, h2⟩ := h
  refine ⟨y_in (by omega) (by omega), fun x ex => ?_⟩
  subst ex
  refine hp _ _ ⟨?_, fun k hk => ?_⟩
  · rw [y_add (by omega) (by omega), e1, List.length_append, List.length_singleton]
    omega
  · rw [List.length_append, List.length_singleton] at hk
    rw [y_upd, y_nat]
    by_cases e : k = len.toInt.toNat
    · rw [if_pos e, q_getR (by omega)]
      have : k - T.length = 0 := by omega
      rw [this]
      rfl
    · rw [if_neg e, h2 k (by omega), q_getL (by omega)]
theorem q_sayDigit {r s : Int64} (hr : 0 ≤ r.toInt) (hs : 1 ≤ s.toInt) : (((r / s) - (r / s) / 10 * 10).toInt32) + 48 = Int32.ofNat (r.toInt.toNat / s.toInt.toNat % 10 + 48) := by
  have f10 : (10 : Int64).toInt = 10 := by decide
  have e48 : (48 : Int32).toInt = 48 := by decide
  have hrr := y_r6 r
  have a1 : (r / s).toInt = r.toInt / s.toInt := by rw [y_div6 (by omega), Int.tdiv_eq_ediv_of_nonneg hr]
  have a0 : 0 ≤ r.toInt / s.toInt := Int.ediv_nonneg hr (by omega)
  have hqr := y_r6 (r / s)
  have a2 : (r / s / 10).toInt = r.toInt / s.toInt / 10 := by rw [y_div6 (by omega), a1, f10, Int.tdiv_eq_ediv_of_nonneg a0]
  have a3 : (r / s / 10 * 10).toInt = r.toInt / s.toInt / 10 * 10 := by rw [y_mul6 (by rw [a2, f10]; omega) (by rw [a2, f10]; omega), a2, f10]
  have a4 : (r / s - r / s / 10 * 10).toInt = r.toInt / s.toInt % 10 := by rw [y_sub6 (by omega) (by omega), a1, a3]; omega
  have a5 : (r / s - r / s / 10 * 10).toInt32.toInt = r.toInt / s.toInt % 10 := by rw [y_32 (by omega) (by omega), a4]
  have a7 : ((r.toInt.toNat / s.toInt.toNat : Nat) : Int) = r.toInt / s.toInt := by
    rw [Int.natCast_ediv, Int.toNat_of_nonneg hr, Int.toNat_of_nonneg (by omega)]
  rw [y_eq, y_add (by omega) (by omega), a5, e48, zl_n32 (by omega)]
  omega
theorem q_Memit {post : Int32 → (Nat → Int32) → Prop} {r : Int64} (hr : 0 ≤ r.toInt) : ∀ (n : Nat) (s : Int64) (len : Int32) (u : Nat → Int32) (T : List Int32), 0 ≤ s.toInt → s.toInt < 10 ^ n → yIs len u T → (T ++ yEmit n r.toInt.toNat s.toInt.toNat).length ≤ 8000 → (∀ len' u', yIs len' u' (T ++ yEmit n r.toInt.toNat s.toInt.toNat) → post len' u') → P_M_sayNumber_51 post (n + 1) r s len u := by
  have f0 : (0 : Int64).toInt = 0 := by decide
  have f10 : (10 : Int64).toInt = 10 := by decide
  intro n
  induction n with
  | zero =>
    intro s len u T h0 h1 h hl hp
    refine ⟨fun _ => ?_, fun hx => ?_⟩
    · have := hp len u
      rw [yEmit, List.append_nil] at this
      exact this h
    · rw [y_le6, f0] at hx
      omega
  | succ n ih =>
    intro s len u T h0 h1 h hl hp
    rw [yEmit] at hl hp
    by_cases hz : s.toInt = 0
    · have hz' : s.toInt.toNat = 0 := by omega
      rw [if_pos hz', List.append_nil] at hl hp
      refine ⟨fun _ => hp len u h, fun hx => ?_⟩
      rw [y_le6, f0] at hx
      omega
    · have hz' : ¬ s.toInt.toNat = 0 := by omega
      rw [if_neg hz'] at hl hp
      have hd := q_sayDigit (r := r) (s := s) hr (by omega)
      have hdiv : (s / 10).toInt = s.toInt / 10 := by
        have := y_r6 s
        rw [y_div6 (by omega), f10, Int.tdiv_eq_ediv_of_nonneg h0]
      have hdn : (s / 10).toInt.toNat = s.toInt.toNat / 10 := by omega
      refine ⟨fun hx => ?_, fun _ => ⟨fun hx => ?_, ?_⟩⟩
      · rw [y_le6, f0] at hx
        omega
      · rw [y_eq6, f0] at hx
        omega
      · rw [List.length_append, List.length_cons] at hl
        have h10 : (10 : Int) ^ (n + 1) = 10 ^ n * 10 := Int.pow_succ _ _
        rw [hd]
        refine q_say h (by rw [List.length_append, List.length_singleton]; omega) (fun len' u' h' x ex => ?_)
        subst ex
        refine ih (s / 10) len' u' _ (by omega) (by omega) h' ?_ (fun len'' u'' h'' => hp len'' u'' ?_)
        · rw [hdn, List.length_append, List.length_append, List.length_singleton]
          omega
        · rw [hdn, List.append_assoc, List.singleton_append] at h''
          exact h''
theorem q_Mscale {post : Int32 → (Nat → Int32) → Prop} {r : Int64} (hr : 0 ≤ r.toInt) {len : Int32} {u : Nat → Int32} {T : List Int32} (h : yIs len u T) {S : Nat} (hl : (T ++ yEmit 20 r.toInt.toNat S).length ≤ 8000) (hp : ∀ len' u', yIs len' u' (T ++ yEmit 20 r.toInt.toNat S) → post len' u') : ∀ (n : Nat) (s : Int64), n ≤ 18 → s.toInt = 10 ^ (18 - n) → yScale n r.toInt.toNat s.toInt.toNat = S → P_M_sayNumber_29 post (n + 1) r s len u := by
  have f0 : (0 : Int64).toInt = 0 := by decide
  have f10 : (10 : Int64).toInt = 10 := by decide
  have p18 : (10 : Int) ^ 18 = 1000000000000000000 := by decide
  have p20 : (10 : Int) ^ 20 = 100000000000000000000 := by decide
  have hrr := y_r6 r
  intro n
  induction n with
  | zero =>
    intro s hn h2 hS
    rw [yScale] at hS
    have hs : s.toInt = 1000000000000000000 := by rw [h2]; decide
    have hdiv : (r / s).toInt = r.toInt / s.toInt := by rw [y_div6 (by omega), Int.tdiv_eq_ediv_of_nonneg hr]
    refine ⟨fun hx => ?_, fun _ => ⟨21, q_Memit hr 20 s len u T (by omega) (by omega) h (by rw [hS]; exact hl) (by rw [hS]; exact hp)⟩, fun hx => ?_⟩
    · rw [y_eq6, f0] at hx
      omega
    · rw [y_lt6, f10, hdiv, hs] at hx
      omega
  | succ n ih =>
    intro s hn h2 hS
    rw [yScale] at hS
    have hpow : (10 : Int) ^ (18 - n) = 10 ^ (18 - (n + 1)) * 10 := by rw [← Int.pow_succ]; congr 1; omega
    have hsm : (10 : Int) ^ (18 - n) ≤ 10 ^ 18 := by
      have := Nat.pow_le_pow_right (n := 10) (by decide) (show 18 - n ≤ 18 by omega)
      exact_mod_cast this
    have hs1 : (1 : Int) ≤ 10 ^ (18 - (n + 1)) := by
      have := Nat.one_le_pow (18 - (n + 1)) 10 (by decide)
      exact_mod_cast this
    have hdiv : (r / s).toInt = r.toInt / s.toInt := by rw [y_div6 (by omega), Int.tdiv_eq_ediv_of_nonneg hr]
    have hdn : ((r.toInt.toNat / s.toInt.toNat : Nat) : Int) = r.toInt / s.toInt := by
      rw [Int.natCast_ediv, Int.toNat_of_nonneg hr, Int.toNat_of_nonneg (by omega)]
    refine ⟨fun hx => ?_, fun hx => ?_, fun hx x ex => ?_⟩
    · rw [y_eq6, f0] at hx
      omega
    · rw [y_lt6, f10, hdiv] at hx
      rw [if_neg (by omega)] at hS
      exact ⟨21, q_Memit hr 20 s len u T (by omega) (by omega) h (by rw [hS]; exact hl) (by rw [hS]; exact hp)⟩
    · rw [y_lt6, f10, hdiv] at hx
      rw [if_pos (by omega)] at hS
      subst ex
      have hm : (10 * s).toInt = 10 * s.toInt := by rw [y_mul6 (by rw [f10]; omega) (by rw [f10]; omega), f10]
      have hmn : (10 * s).toInt.toNat = 10 * s.toInt.toNat := by omega
      exact ih (10 * s) (by omega) (by omega) (by rw [hmn]; exact hS)
theorem q_sayNumber {v : Int64} {len : Int32} {u : Nat → Int32} {T : List Int32} {post : Int32 → (Nat → Int32) → Prop} (h : yIs len u T) (hv : -9000000000000000000 ≤ v.toInt) (hl : (T ++ yNum v.toInt).length ≤ 8000) (hp : ∀ len' u', yIs len' u' (T ++ yNum v.toInt) → post len' u') : P_M_sayNumber v len u post := by
  have f0 : (0 : Int64).toInt = 0 := by decide
  unfold yNum at hl hp
  have key : ∀ (r : Int64) (len : Int32) (u : Nat → Int32) (T : List Int32), 0 ≤ r.toInt → yIs len u T → (T ++ yEmit 20 r.toInt.toNat (yScale 18 r.toInt.toNat 1)).length ≤ 8000 → (∀ len' u', yIs len' u' (T ++ yEmit 20 r.toInt.toNat (yScale 18 r.toInt.toNat 1)) → post len' u') → P_M_sayNumber_26 post r len u := fun r len u T hr h hl hp => ⟨19, q_Mscale hr h hl hp 18 1 (by decide) (by decide) rfl⟩
  by_cases hneg : v.toInt < 0
  · rw [if_pos hneg] at hl hp
    have hn : ¬ 0 ≤ v := by rw [y_le6, f0]; omega
    have hng : (0 - v).toInt = -v.toInt := by rw [y_sub6 (by omega) (by omega), f0]; omega
    have hna : (0 - v).toInt.toNat = v.toInt.natAbs := by omega
    refine ⟨fun hx => absurd hx hn, fun _ => ⟨fun hx => absurd hx hn, fun _ => ?_⟩⟩
    rw [List.length_append, List.length_append] at hl
    refine q_say h (by rw [List.length_append]; omega) (fun len' u' h' => key (0 - v) len' u' _ (by omega) h' ?_ (fun len'' u'' h'' => hp _ _ ?_))
    · rw [hna, List.length_append, List.length_append]
      omega
    · rw [hna, List.append_assoc] at h''
      exact h''
  · rw [if_neg hneg, List.nil_append] at hl hp
    have hn : 0 ≤ v := by rw [y_le6, f0]; omega
    have hna : v.toInt.toNat = v.toInt.natAbs := by omega
    exact ⟨fun _ => ⟨fun _ => key v len u T (by omega) h (by rw [hna]; exact hl) (by rw [hna]; exact hp), fun hx => absurd hn hx⟩, fun hx => absurd hn hx⟩
theorem q_codeB {L : Nat → Int32} : ∀ n : Nat, (∀ i : Nat, i < n → 65 ≤ (L i).toInt ∧ (L i).toInt ≤ 90) → 0 ≤ yCode L n ∧ yCode L n < 27 ^ n := by
  intro n
  induction n with
  | zero => intro _; rw [yCode]; decide
  | succ n ih =>
    intro h
    have h1 := ih (fun i hi => h i (by omega))
    have h2 := h n (by omega)
    rw [yCode, Int.pow_succ]
    omega
theorem q_code27 {L : Nat → Int32} {n : Nat} (h : 65 ≤ (L n).toInt ∧ (L n).toInt ≤ 90) : yCode L (n + 1) / 27 = yCode L n ∧ yCode L (n + 1) % 27 = (L n).toInt - 64 := by
  rw [yCode]
  omega
theorem q_codeD {L : Nat → Int32} {C : Nat} (h : ∀ i : Nat, i < C → 65 ≤ (L i).toInt ∧ (L i).toInt ≤ 90) : ∀ j : Nat, j ≤ C → yCode L C / 27 ^ j = yCode L (C - j) := by
  intro j
  induction j with
  | zero => intro _; rw [Int.pow_zero, Int.ediv_one]; rfl
  | succ j ih =>
    intro hj
    have e : C - j = (C - (j + 1)) + 1 := by omega
    rw [Int.pow_succ, ← Int.ediv_ediv_of_nonneg (by exact_mod_cast Nat.zero_le (27 ^ j)), ih (by omega), e]
    exact (q_code27 (h _ (by omega))).1
theorem q_code2 {L : Nat → Int32} {m : Nat} (h : ∀ i : Nat, i < m → 65 ≤ (L i).toInt ∧ (L i).toInt ≤ 90) : (m ≤ 1 → yCode L m < 27) ∧ (2 ≤ m → 27 ≤ yCode L m) := by
  refine ⟨fun hm => ?_, fun hm => ?_⟩
  · have hb := q_codeB m h
    have : m = 0 ∨ m = 1 := by omega
    rcases this with rfl | rfl
    · have : (27 : Int) ^ 0 = 1 := by decide
      omega
    · have : (27 : Int) ^ 1 = 27 := by decide
      omega
  · obtain ⟨k, rfl⟩ : ∃ k, m = k + 2 := ⟨m - 2, by omega⟩
    have h1 := q_codeB k (fun i hi => h i (by omega))
    have h2 := h k (by omega)
    have h3 := h (k + 1) (by omega)
    rw [yCode, yCode]
    omega
theorem q_p27 : ∀ j : Nat, j ≤ 4 → (1 : Int) ≤ 27 ^ j ∧ (27 : Int) ^ j ≤ 531441 := by decide
theorem q_copy {post : Int32 → Int32 → (Nat → Int32) → (Nat → Int32) → Prop} {ts wr : Int32} {out : Nat → Int32} {N : List Int32} (ho : yIs wr out N) (hN : N.length ≤ 60) (hts : ts = wr) (h : ∀ title, yIs ts title N → post ts wr out title) : ∀ (d : Nat) (y : Int32) (title : Nat → Int32), 0 ≤ y.toInt → y.toInt + d = N.length → (∀ k : Nat, (k : Int) < y.toInt → title k = N.getD k 0) → P_M_findName_150 post (d + 1) y ts wr out title := by
  intro d
  induction d with
  | zero =>
    intro y title h0 h1 ht
    refine ⟨fun _ => h title ⟨by rw [hts]; exact ho.1, fun k hk => ht k (by omega)⟩, fun hx => ?_⟩
    rw [y_le, ho.1] at hx
    omega
  | succ d ih =>
    intro y title h0 h1 ht
    have hs := q_inc (y := y) (n := 60) (by omega) (by omega) (by omega)
    refine ⟨fun hx => ?_, fun _ => ⟨y_in h0 (by omega), fun x ex => ⟨y_in h0 (by omega), fun x2 ex2 => ?_⟩⟩⟩
    · rw [y_le, ho.1] at hx
      omega
    · subst ex ex2
      refine ih (y + 1) _ (by omega) (by omega) (fun k hk => ?_)
      rw [y_upd, y_nat]
      by_cases e : k = y.toInt.toNat
      · rw [if_pos e, e]
        exact ho.2 _ (by omega)
      · rw [if_neg e]
        exact ht k (by omega)
theorem q_findName {fam dens pads : Int32} {names high : Nat → Int64} {out title told : Nat → Int32} {post : Int32 → Int32 → (Nat → Int32) → (Nat → Int32) → Prop} {f C : Nat} {C32 : Int32} {L : Nat → Int32} (hf : fam.toInt = f) (hf8 : f < 8) (hC : C32.toInt = C) (hC1 : 1 ≤ C ∧ C ≤ 4) (hL : ∀ i : Nat, i < C → 65 ≤ (L i).toInt ∧ (L i).toInt ≤ 90) (hname : (names f).toInt = yCode L C) (hp : 0 ≤ pads.toInt) (ht0 : told 0 = 0 ∨ told 0 = 1) (hh : told 0 = 1 → 0 ≤ (high 0).toInt ∧ (high 0).toInt ≤ 100000000) (hd : 0 ≤ dens.toInt ∧ dens.toInt ≤ 2) (h : ∀ ts wr out' title', yIs wr out' (yName C32 L pads.toInt (yHi told high 0).toInt dens.toInt) → yIs ts title' (yName C32 L pads.toInt (yHi told high 0).toInt dens.toInt) → post ts wr out' title') : P_M_findName fam dens pads names out told high title post := by
  have f0 : (0 : Int64).toInt = 0 := by decide
  have f1 : (1 : Int64).toInt = 1 := by decide
  have f27 : (27 : Int64).toInt = 27 := by decide
  have f1000 : (1000 : Int64).toInt = 1000 := by decide
  have e0 : (0 : Int32).toInt = 0 := by decide
  have e1 : (1 : Int32).toInt = 1 := by decide
  have e64 : (64 : Int32).toInt = 64 := by decide
  have hfn : fam.toNatClampNeg = f := by rw [y_nat]; omega
  have hNl := q_nameL (C := C32) (L := L) (p := pads.toInt) (o := (yHi told high 0).toInt) (d := dens.toInt) (by omega)
  have hcb := q_codeB C hL
  have hcm : yCode L C < 531441 := by
    have := (q_p27 C hC1.2).2
    omega
  refine ⟨y_in (by omega) (by omega), fun x ex => ?_⟩
  rw [hfn] at ex
  subst ex
  have hdv : ∀ (s : Int64) (j : Nat), j ≤ C → s.toInt = 27 ^ j → (names f / s).toInt = yCode L (C - j) := by
    intro s j hj hs
    have := (q_p27 j (by omega)).1
    rw [y_div6 (by omega), hname, hs, Int.tdiv_eq_ediv_of_nonneg hcb.1, q_codeD hL j hj]
  have tailp : ∀ (wr : Int32) (o : Nat → Int32), yIs wr o (yLet L C) → P_M_sayNumber pads.toInt64 wr o (fun (u2 : Int32) (u3 : Nat → Int32) => P_M_say 88 u2 u3 (fun (u4 : Int32) (u5 : Nat → Int32) => vp_in 0 12 ∧ (((told (0 : Int32).toNatClampNeg) = 0 → P_M_findName_105 dens title post 0 u4 u5) ∧ (¬ (told (0 : Int32).toNatClampNeg) = 0 → vp_in 0 12 ∧ P_M_findName_105 dens title post ((high (0 : Int32).toNatClampNeg) / 1000) u4 u5)))) := by
    intro wr o hw
    have hpr := y_r pads
    have hCn : C32.toInt.toNat = C := by omega
    have hl2 := hNl
    unfold yName at hl2
    simp only [List.length_append, q_letL, hCn] at hl2
    have v0 : vp_in 0 12 := y_in (by decide) (by decide)
    have h105 : ∀ (v : Int64) (u4 : Int32) (u5 : Nat → Int32), v.toInt = (yHi told high 0).toInt / 1000 → 0 ≤ v.toInt → yIs u4 u5 (yLet L C ++ yNum pads.toInt ++ [88]) → P_M_findName_105 dens title post v u4 u5 := by
      intro v u4 u5 hv hv0 hu
      refine q_sayNumber hu (by omega) (by rw [hv]; simp only [List.length_append, q_letL]; omega) (fun u6 u7 hu7 => ?_)
      rw [hv] at hu7
      have h136 : ∀ c : Int32, c = (if dens.toInt = 0 then 76 else if dens.toInt = 1 then 78 else 77) → P_M_findName_136 title post c u6 u7 := by
        intro c hc
        refine q_say hu7 (by simp only [List.length_append, q_letL] at hl2 ⊢; simp only [List.length_singleton] at hl2 ⊢; omega) (fun u8 u9 hu9 => ?_)
        have hN : yIs u8 u9 (yName C32 L pads.toInt (yHi told high 0).toInt dens.toInt) := by
          unfold yName
          rw [hCn, ← hc]
          exact hu9
        exact ⟨(yName C32 L pads.toInt (yHi told high 0).toInt dens.toInt).length + 1, q_copy hN hNl rfl (fun t ht => h _ _ _ _ hN ht) _ 0 title (by decide) (by rw [e0]; omega) (fun k hk => by rw [e0] at hk; omega)⟩
      refine ⟨fun d0 => ⟨fun d1 => h136 77 ?_, fun d1 => h136 78 ?_⟩, fun d0 => h136 76 ?_⟩
      · rw [y_eq] at d0 d1
        rw [if_neg (by omega), if_neg (by omega)]
      · rw [y_eq] at d0 d1
        rw [if_neg (by omega), if_pos (by omega)]
      · rw [y_eq] at d0
        rw [if_pos (by omega)]
    refine q_sayNumber hw (by rw [y_64]; omega) (by rw [y_64]; simp only [List.length_append, q_letL]; omega) (fun u2 u3 hu2 => ?_)
    rw [y_64] at hu2
    refine q_say hu2 (by simp only [List.length_append, q_letL] at hl2 ⊢; omega) (fun u4 u5 hu4 => ⟨v0, fun t => ?_, fun t => ⟨v0, ?_⟩⟩)
    · have t : told 0 = 0 := t
      refine h105 0 u4 u5 ?_ (by rw [f0]; omega) hu4
      unfold yHi
      rw [if_neg (fun hx => absurd (t.symm.trans hx) (by decide)), f0]
      decide
    · have t : ¬ told 0 = 0 := t
      have t1 := ht0.resolve_left t
      have hb := hh t1
      have hv : (high 0 / 1000).toInt = (high 0).toInt / 1000 := by rw [y_div6 (by omega), f1000, Int.tdiv_eq_ediv_of_nonneg hb.1]
      refine h105 (high 0 / 1000) u4 u5 ?_ (by rw [hv]; omega) hu4
      unfold yHi
      rw [if_pos t1, hv]
  have loop36 : ∀ (j : Nat) (s : Int64) (wr : Int32) (o : Nat → Int32), j < C → s.toInt = 27 ^ j → yIs wr o (yLet L (C - 1 - j)) → P_M_findName_36 dens pads told high title post (j + 2) (names f) s wr o := by
    intro j
    induction j with
    | zero =>
      intro s wr o hj hs hw
      have hs1 : s.toInt = 1 := by rw [hs]; decide
      have hd0 := hdv s 0 (by omega) hs
      have hc := q_code27 (hL (C - 1) (by omega))
      have eC : C - 1 + 1 = C := by omega
      rw [eC] at hc
      have a0 : (names f / s).toInt = yCode L C := hd0
      have a1 : (names f / s / 27).toInt = yCode L C / 27 := by rw [y_div6 (by omega), a0, f27, Int.tdiv_eq_ediv_of_nonneg hcb.1]
      have a2 : (names f / s / 27 * 27).toInt = yCode L C / 27 * 27 := by rw [y_mul6 (by rw [a1, f27]; omega) (by rw [a1, f27]; omega), a1, f27]
      have a3 : (names f / s - names f / s / 27 * 27).toInt = yCode L C % 27 := by rw [y_sub6 (by omega) (by omega), a0, a2]; omega
      have a4 : (names f / s - names f / s / 27 * 27).toInt32.toInt = yCode L C % 27 := by rw [y_32 (by omega) (by omega), a3]
      have hlb := hL (C - 1) (by omega)
      have a5 : (names f / s - names f / s / 27 * 27).toInt32 + 64 = L (C - 1) := by rw [y_eq, y_add (by omega) (by omega), a4, e64]; omega
      refine ⟨fun hx => ?_, fun _ => ⟨fun hx => ?_, ?_⟩⟩
      · rw [y_le6, f0] at hx
        omega
      · rw [y_eq6, f0] at hx
        omega
      · rw [a5]
        refine q_say hw (by rw [List.length_append, q_letL, List.length_singleton]; omega) (fun wr' o' hw' x ex => ?_)
        subst ex
        have hz : (s / 27).toInt = 0 := by rw [y_div6 (by omega), f27, hs1]; decide
        rw [Nat.sub_zero, ← q_letS, eC] at hw'
        refine ⟨fun _ => tailp wr' o' hw', fun hx => ?_⟩
        rw [y_le6, f0] at hx
        omega
    | succ j ih =>
      intro s wr o hj hs hw
      have hpj := q_p27 j (by omega)
      have hpp : (27 : Int) ^ (j + 1) = 27 ^ j * 27 := Int.pow_succ _ _
      have hd0 := hdv s (j + 1) (by omega) hs
      have eC : C - (j + 1) = (C - 1 - (j + 1)) + 1 := by omega
      have hc := q_code27 (hL (C - 1 - (j + 1)) (by omega))
      rw [← eC] at hc
      have hcb2 := q_codeB (C - (j + 1)) (fun i hi => hL i (by omega))
      have hcm2 := (q_p27 (C - (j + 1)) (by omega)).2
      have a1 : (names f / s / 27).toInt = yCode L (C - (j + 1)) / 27 := by rw [y_div6 (by omega), hd0, f27, Int.tdiv_eq_ediv_of_nonneg hcb2.1]
      have a2 : (names f / s / 27 * 27).toInt = yCode L (C - (j + 1)) / 27 * 27 := by rw [y_mul6 (by rw [a1, f27]; omega) (by rw [a1, f27]; omega), a1, f27]
      have a3 : (names f / s - names f / s / 27 * 27).toInt = yCode L (C - (j + 1)) % 27 := by rw [y_sub6 (by omega) (by omega), hd0, a2]; omega
      have a4 : (names f / s - names f / s / 27 * 27).toInt32.toInt = yCode L (C - (j + 1)) % 27 := by rw [y_32 (by omega) (by omega), a3]
      have hlb := hL (C - 1 - (j + 1)) (by omega)
      have a5 : (names f / s - names f / s / 27 * 27).toInt32 + 64 = L (C - 1 - (j + 1)) := by rw [y_eq, y_add (by omega) (by omega), a4, e64]; omega
      refine ⟨fun hx => ?_, fun _ => ⟨fun hx => ?_, ?_⟩⟩
      · rw [y_le6, f0] at hx
        omega
      · rw [y_eq6, f0] at hx
        omega
      · rw [a5]
        refine q_say hw (by rw [List.length_append, q_letL, List.length_singleton]; omega) (fun wr' o' hw' x ex => ?_)
        subst ex
        have hz : (s / 27).toInt = 27 ^ j := by
          rw [y_div6 (by omega), f27, Int.tdiv_eq_ediv_of_nonneg (by omega), hs, hpp, Int.mul_ediv_cancel _ (by decide)]
        refine ih (s / 27) wr' o' (by omega) hz ?_
        have e3 : C - 1 - j = (C - 1 - (j + 1)) + 1 := by omega
        rw [e3, q_letS]
        exact hw'
  have loop17 : ∀ (d j : Nat) (s : Int64), j + d + 1 = C → s.toInt = 27 ^ j → P_M_findName_17 dens pads out told high title post (d + 1) (names f) s 0 := by
    intro d
    induction d with
    | zero =>
      intro j s hj hs
      have hpj := q_p27 j (by omega)
      have hd0 := hdv s j (by omega) hs
      have h2 := (q_code2 (L := L) (m := C - j) (fun i hi => hL i (by omega))).1 (by omega)
      refine ⟨fun hx => ?_, fun _ => ⟨j + 2, loop36 j s 0 out (by omega) hs ?_⟩, fun hx => ?_⟩
      · rw [y_eq6, f0] at hx
        omega
      · have : C - 1 - j = 0 := by omega
        rw [this]
        exact ⟨rfl, fun k hk => absurd hk (Nat.not_lt_zero k)⟩
      · rw [y_lt6, f27, hd0] at hx
        omega
    | succ d ih =>
      intro j s hj hs
      have hpj := q_p27 j (by omega)
      have hd0 := hdv s j (by omega) hs
      have h2 := (q_code2 (L := L) (m := C - j) (fun i hi => hL i (by omega))).2 (by omega)
      refine ⟨fun hx => ?_, fun hx => ?_, fun hx x ex => ?_⟩
      · rw [y_eq6, f0] at hx
        omega
      · rw [y_lt6, f27, hd0] at hx
        omega
      · subst ex
        refine ih (j + 1) (27 * s) (by omega) ?_
        rw [y_mul6 (by rw [f27]; omega) (by rw [f27]; omega), f27, hs, Int.pow_succ, Int.mul_comm]
  exact ⟨C, by
    have := loop17 (C - 1) 0 1 (by omega) (by decide)
    rw [show C - 1 + 1 = C by omega] at this
    exact this⟩
/-- the text of pads, number by number -/
def yTok (pad : Nat → Int64) : Nat → List Int32
  | 0 => []
  | t + 1 => yTok pad t ++ yNum (pad t).toInt ++ [if t % 7 = 6 then 10 else 32]
theorem q_tok {pad : Nat → Int64} : ∀ n : Nat, yTok pad (7 * n) = yPadsT pad n := by
  intro n
  induction n with
  | zero => rfl
  | succ n ih =>
    have e : 7 * (n + 1) = 7 * n + 1 + 1 + 1 + 1 + 1 + 1 + 1 := by omega
    rw [e]
    simp only [yTok]
    rw [ih, yPadsT, yPadT]
    rw [if_neg (by omega), if_neg (by omega), if_neg (by omega), if_neg (by omega), if_neg (by omega), if_neg (by omega), if_pos (by omega)]
    simp only [List.append_assoc]
theorem q_tokL {pad : Nat → Int64} {t : Nat} : ∀ t' : Nat, t ≤ t' → (yTok pad t).length ≤ (yTok pad t').length := by
  intro t'
  induction t' with
  | zero => intro h; rw [Nat.le_zero.1 h]; exact Nat.le_refl _
  | succ t' ih =>
    intro h
    by_cases e : t = t' + 1
    · rw [e]
      exact Nat.le_refl _
    · have := ih (by omega)
      rw [yTok]
      simp only [List.length_append]
      omega
theorem q_Mcourt1 {court : Nat → Int64} {post : Int32 → (Nat → Int32) → Prop} {j n : Nat} {y len : Int32} {u : Nat → Int32} {T : List Int32} (hy : y.toInt = j) (hj : j < 4) (hv : -9000000000000000000 ≤ (court j).toInt) (h : yIs len u T) (hl : (T ++ [32] ++ yNum (court j).toInt).length ≤ 8000) (hK : ∀ len' u', yIs len' u' (T ++ [32] ++ yNum (court j).toInt) → P_M_findText_87 court post n (y + 1) len' u') : P_M_findText_87 court post (n + 1) y len u := by
  have e4 : (4 : Int32).toInt = 4 := by decide
  have hl' := hl
  simp only [List.length_append] at hl'
  have hn : y.toNatClampNeg = j := by rw [y_nat]; omega
  refine ⟨fun hx => ?_, fun _ => q_say h (by simp only [List.length_append]; omega) (fun len1 u1 g1 => ⟨y_in (by omega) (by omega), ?_⟩)⟩
  · rw [y_le] at hx
    omega
  · rw [hn]
    refine q_sayNumber g1 hv hl (fun len2 u2 g2 x ex => ?_)
    subst ex
    exact hK _ _ g2
theorem q_findText {pads wr : Int32} {out : Nat → Int32} {pad court : Nat → Int64} {post : Int32 → (Nat → Int32) → Prop} {N : List Int32} {n : Nat} (hn : pads.toInt = n) (hn65 : n ≤ 65) (hv : ∀ k : Nat, k < 7 * n → -9000000000000000000 ≤ (pad k).toInt) (hw : ∀ j : Nat, j < 4 → -9000000000000000000 ≤ (court j).toInt) (hl : (yText N pad court n).length ≤ 8000) (ho : yIs wr out N) (h : ∀ wr' out', yIs wr' out' (yText N pad court n) → post wr' out') : P_M_findText pads wr out pad court post := by
  have e0 : (0 : Int32).toInt = 0 := by decide
  have e6 : (6 : Int32).toInt = 6 := by decide
  have e7 : (7 : Int32).toInt = 7 := by decide
  have hl2 := hl
  unfold yText yCourtT at hl2
  simp only [List.length_append] at hl2
  have hx7 : (7 * pads).toInt = 7 * n := by rw [y_mul (by rw [e7]; omega) (by rw [e7]; omega), e7, hn]
  have tailp : ∀ (w : Int32) (o : Nat → Int32), yIs w o (N ++ [10] ++ yPadsT pad n) → P_M_say 99 w o (fun (u2 : Int32) (u3 : Nat → Int32) => P_M_say 111 u2 u3 (fun (u4 : Int32) (u5 : Nat → Int32) => P_M_say 117 u4 u5 (fun (u6 : Int32) (u7 : Nat → Int32) => P_M_say 114 u6 u7 (fun (u8 : Int32) (u9 : Nat → Int32) => P_M_say 116 u8 u9 (fun (u10 : Int32) (u11 : Nat → Int32) => ∃ n12, P_M_findText_87 court post n12 0 u10 u11))))) := by
    intro w o g0
    refine q_say g0 (by simp only [List.length_append, List.length_singleton, List.length_cons, List.length_nil] at hl2 ⊢; omega) (fun w1 o1 g1 => q_say g1 (by simp only [List.length_append, List.length_singleton, List.length_cons, List.length_nil] at hl2 ⊢; omega) (fun w2 o2 g2 => q_say g2 (by simp only [List.length_append, List.length_singleton, List.length_cons, List.length_nil] at hl2 ⊢; omega) (fun w3 o3 g3 => q_say g3 (by simp only [List.length_append, List.length_singleton, List.length_cons, List.length_nil] at hl2 ⊢; omega) (fun w4 o4 g4 => q_say g4 (by simp only [List.length_append, List.length_singleton, List.length_cons, List.length_nil] at hl2 ⊢; omega) (fun w5 o5 g5 => ⟨5, ?_⟩)))))
    refine q_Mcourt1 (j := 0) (by decide) (by decide) (hw 0 (by decide)) g5 (by simp only [List.length_append, List.length_singleton, List.length_cons, List.length_nil] at hl2 ⊢; omega) (fun w6 o6 g6 => ?_)
    refine q_Mcourt1 (j := 1) (by decide) (by decide) (hw 1 (by decide)) g6 (by simp only [List.length_append, List.length_singleton, List.length_cons, List.length_nil] at hl2 ⊢; omega) (fun w7 o7 g7 => ?_)
    refine q_Mcourt1 (j := 2) (by decide) (by decide) (hw 2 (by decide)) g7 (by simp only [List.length_append, List.length_singleton, List.length_cons, List.length_nil] at hl2 ⊢; omega) (fun w8 o8 g8 => ?_)
    refine q_Mcourt1 (j := 3) (by decide) (by decide) (hw 3 (by decide)) g8 (by simp only [List.length_append, List.length_singleton, List.length_cons, List.length_nil] at hl2 ⊢; omega) (fun w9 o9 g9 => ?_)
    refine ⟨fun _ => q_say g9 (by simp only [List.length_append, List.length_singleton, List.length_cons, List.length_nil] at hl2 ⊢; omega) (fun wa oa ga => h wa oa ?_), fun hx => absurd (by decide) hx⟩
    unfold yText yCourtT
    simp only [List.append_assoc, List.singleton_append, List.cons_append, List.nil_append] at ga ⊢
    exact ga
  refine q_say ho (by simp only [List.length_append]; omega) (fun w1 o1 g1 => ⟨7 * n + 1, ?_⟩)
  have loop : ∀ (d : Nat) (y w : Int32) (o : Nat → Int32) (t : Nat), y.toInt = t → t + d = 7 * n → yIs w o (N ++ [10] ++ yTok pad t) → P_M_findText_8 pads pad court post (d + 1) y w o := by
    intro d
    induction d with
    | zero =>
      intro y w o t h1 h2 h3
      have et : t = 7 * n := by omega
      rw [et, q_tok] at h3
      refine ⟨fun _ => tailp w o h3, fun hx => ?_⟩
      rw [y_le, hx7] at hx
      omega
    | succ d ih =>
      intro y w o t h1 h2 h3
      have hs := q_inc (y := y) (n := 455) (by omega) (by omega) (by omega)
      have hyn : y.toNatClampNeg = t := by rw [y_nat]; omega
      have htl := q_tokL (pad := pad) (t := t + 1) (7 * n) (by omega)
      rw [q_tok, yTok] at htl
      simp only [List.length_append, List.length_singleton] at htl
      have hdv : (y / 7).toInt = t / 7 := by rw [y_div (by omega), e7, Int.tdiv_eq_ediv_of_nonneg (by omega), h1]
      have hm1 : (y / 7 * 7).toInt = (t / 7 : Int) * 7 := by rw [y_mul (by rw [hdv, e7]; omega) (by rw [hdv, e7]; omega), hdv, e7]
      have hm : (y - y / 7 * 7).toInt = (t % 7 : Nat) := by rw [y_sub (by omega) (by omega), hm1]; omega
      refine ⟨fun hx => ?_, fun _ => ⟨y_in (by omega) (by omega), ?_⟩⟩
      · rw [y_le, hx7] at hx
        omega
      rw [hyn]
      refine q_sayNumber h3 (hv t (by omega)) (by simp only [List.length_append, List.length_singleton, List.length_cons, List.length_nil] at hl2 ⊢; omega) (fun w2 o2 g2 => ?_)
      have fin : ∀ c : Int32, c = (if t % 7 = 6 then 10 else 32) → P_M_findText_46 post (P_M_findText_8 pads pad court post (d + 1)) y c w2 o2 := by
        intro c hc
        refine q_say g2 (by simp only [List.length_append, List.length_singleton, List.length_cons, List.length_nil] at hl2 ⊢; omega) (fun w3 o3 g3 x ex => ?_)
        subst ex
        refine ih (y + 1) w3 o3 (t + 1) (by omega) (by omega) ?_
        rw [yTok, ← hc]
        simp only [List.append_assoc] at g3 ⊢
        exact g3
      refine ⟨fun hx => fin 32 ?_, fun hx => fin 10 ?_⟩
      · rw [y_eq, hm, e6] at hx
        rw [if_neg (by omega)]
      · rw [y_eq, hm, e6] at hx
        rw [if_pos (by omega)]
  exact loop (7 * n) 0 w1 o1 0 (by decide) (by omega) (by simpa [yTok] using g1)
