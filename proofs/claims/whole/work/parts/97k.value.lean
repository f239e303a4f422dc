def yDig (mu : Nat → Int32) (a b : Nat) : Prop := ∀ i : Nat, a + i < b → 48 ≤ (mu (a + i)).toInt ∧ (mu (a + i)).toInt ≤ 57
def yVal (f : Nat → Int) : Nat → Int
  | 0 => 0
  | m + 1 => 10 * yVal f m + f m
theorem q_valB {f : Nat → Int} : ∀ m : Nat, (∀ i : Nat, i < m → 0 ≤ f i ∧ f i ≤ 9) → 0 ≤ yVal f m ∧ yVal f m < 10 ^ m := by
  intro m
  induction m with
  | zero => intro _; rw [yVal]; decide
  | succ m ih =>
    intro h
    have h1 := ih (fun i hi => h i (by omega))
    have h2 := h m (by omega)
    rw [yVal, Int.pow_succ]
    omega
theorem q_p10 : ∀ j : Nat, j ≤ 8 → (1 : Int) ≤ 10 ^ j ∧ (10 : Int) ^ j ≤ 100000000 := by decide
theorem q_within {un mu : Nat → Int32} {n : Nat} (hn6 : n ≤ 600) (hu : ∀ k : Nat, k < n → un k = mu k ∧ yOk (mu k)) {s e p1 p2 : Int32} {a b : Nat} (hs : s.toInt = a) (he : e.toInt = b) (hab : a < b) (hb : b ≤ n) {post : Int32 → Prop} (h1 : (∀ i : Nat, a + i < b → p1.toInt ≤ (mu (a + i)).toInt ∧ (mu (a + i)).toInt ≤ p2.toInt) → post 1) (h0 : ¬ (∀ i : Nat, a + i < b → p1.toInt ≤ (mu (a + i)).toInt ∧ (mu (a + i)).toInt ≤ p2.toInt) → post 0) : P_Wo_areWithin p1 p2 s e un post := by
  have hsz : (e - s).toInt = (b - a : Nat) := by rw [y_sub (by omega) (by omega)]; omega
  refine ⟨b - a + 1, ?_⟩
  have loop : ∀ (d : Nat) (y : Int32) (i : Nat), y.toInt = i → a + i + d = b → (∀ i' : Nat, i' < i → p1.toInt ≤ (mu (a + i')).toInt ∧ (mu (a + i')).toInt ≤ p2.toInt) → P_Wo_areWithin_2 p1 p2 s e un post (d + 1) y := by
    intro d
    induction d with
    | zero =>
      intro y i g1 g2 g3
      refine ⟨fun _ => h1 (fun i' hi' => g3 i' (by omega)), fun hx => ?_⟩
      rw [y_le, hsz] at hx
      omega
    | succ d ih =>
      intro y i g1 g2 g3
      have hs1 := q_inc (y := y) (n := 601) (by omega) (by omega) (by omega)
      refine ⟨fun hx => ?_, fun _ => q_at hn6 hu hs g1 (by omega) ⟨fun hx => h0 (fun hy => ?_), fun hx => q_at hn6 hu hs g1 (by omega) ⟨fun hx2 x ex => ?_, fun hx2 => h0 (fun hy => ?_)⟩⟩⟩
      · rw [y_le, hsz] at hx
        omega
      · rw [y_lt] at hx
        have := hy i (by omega)
        omega
      · subst ex
        rw [y_lt] at hx
        rw [y_le] at hx2
        refine ih (y + 1) (i + 1) (by omega) (by omega) (fun i' hi' => ?_)
        by_cases e : i' = i
        · rw [e]
          omega
        · exact g3 i' (by omega)
      · rw [y_le] at hx2
        have := hy i (by omega)
        omega
  exact loop (b - a) 0 0 (by decide) (by omega) (fun i' hi' => absurd hi' (Nat.not_lt_zero i'))
theorem q_Cvalue {un mu : Nat → Int32} {n : Nat} (hn6 : n ≤ 600) (hu : ∀ k : Nat, k < n → un k = mu k ∧ yOk (mu k)) {s e : Int32} {a b : Nat} (hs : s.toInt = a) (he : e.toInt = b) (hab : a < b) (hb : b ≤ n) {post : Int32 → Prop} (h1 : yDig mu a b ∧ b - a ≤ 8 → ∀ v : Int32, v.toInt = yVal (fun i => (mu (a + i)).toInt - 48) (b - a) → post v) (h0 : ¬ (yDig mu a b ∧ b - a ≤ 8) → post (-1)) : P_Wo_value s e un post := by
  have e0 : (0 : Int32).toInt = 0 := by decide
  have e1 : (1 : Int32).toInt = 1 := by decide
  have e8 : (8 : Int32).toInt = 8 := by decide
  have e10 : (10 : Int32).toInt = 10 := by decide
  have e48 : (48 : Int32).toInt = 48 := by decide
  have e57 : (57 : Int32).toInt = 57 := by decide
  have hsz : (e - s).toInt = (b - a : Nat) := by rw [y_sub (by omega) (by omega)]; omega
  refine ⟨fun hx => ?_, fun _ => ⟨fun hx => h0 (fun hy => ?_), fun hx => q_within hn6 hu hs he hab hb (fun hd => ⟨fun _ => ⟨b - a + 1, ?_⟩, fun hy => absurd hy (by decide)⟩) (fun hd => ⟨fun hy => absurd rfl hy, fun _ => h0 (fun hy => hd (by rw [e48, e57]; exact hy.1))⟩)⟩⟩
  · rw [y_lt, hsz] at hx
    omega
  · rw [y_lt, hsz] at hx
    omega
  · rw [y_lt, hsz] at hx
    rw [e48, e57] at hd
    have hle : b - a ≤ 8 := by omega
    have loop : ∀ (d : Nat) (y1 y2 : Int32) (i : Nat), y2.toInt = i → a + i + d = b → y1.toInt = yVal (fun i => (mu (a + i)).toInt - 48) i → P_Wo_value_34 s e un post (d + 1) y1 y2 := by
      intro d
      induction d with
      | zero =>
        intro y1 y2 i g1 g2 g3
        have hi : i = b - a := by omega
        subst hi
        refine ⟨fun _ => h1 ⟨hd, hle⟩ y1 g3, fun hy => ?_⟩
        rw [y_le, hsz] at hy
        omega
      | succ d ih =>
        intro y1 y2 i g1 g2 g3
        have hs1 := q_inc (y := y2) (n := 601) (by omega) (by omega) (by omega)
        have hc := hd i (by omega)
        have hvb := q_valB (f := fun i => (mu (a + i)).toInt - 48) i (fun i' hi' => by have := hd i' (by omega); omega)
        have hpp := (q_p10 i (by omega)).2
        have hp7 : (10 : Int) ^ i ≤ 10000000 := by
          have : i ≤ 7 := by omega
          have h7 : ∀ j : Nat, j ≤ 7 → (10 : Int) ^ j ≤ 10000000 := by decide
          exact h7 i this
        refine ⟨fun hy => ?_, fun _ => q_at hn6 hu hs g1 (by omega) (fun x4 e4 x5 e5 => ?_)⟩
        · rw [y_le, hsz] at hy
          omega
        · subst e5
          have m1 : (y1 * 10).toInt = y1.toInt * 10 := by rw [y_mul (by rw [e10]; omega) (by rw [e10]; omega), e10]
          have m2 : (mu (a + i) - 48).toInt = (mu (a + i)).toInt - 48 := by rw [y_sub (by omega) (by omega), e48]
          refine ih x4 (y2 + 1) (i + 1) (by omega) (by omega) ?_
          rw [e4, y_add (by omega) (by omega), m1, m2, g3, yVal]
          omega
    exact loop (b - a) 0 0 0 (by decide) (by omega) rfl
theorem q_Mnumber {mu : Nat → Int32} {n : Nat} (hn6 : n ≤ 600) (hu : ∀ k : Nat, k < n → yOk (mu k)) {at' bg : Int32} {a b : Nat} (hs : bg.toInt = a) (he : at'.toInt = b) (hab : a < b) (hb : b ≤ n) {post : Int64 → Prop} (h1 : (yDig mu a b ∧ b - a ≤ 8) ∧ yVal (fun i => (mu (a + i)).toInt - 48) (b - a) ≤ 10000000 → ∀ c : Int64, c.toInt = yVal (fun i => (mu (a + i)).toInt - 48) (b - a) → post c) (h0 : ¬ ((yDig mu a b ∧ b - a ≤ 8) ∧ yVal (fun i => (mu (a + i)).toInt - 48) (b - a) ≤ 10000000) → post (-1)) : P_M_number at' bg mu post := by
  have e0 : (0 : Int32).toInt = 0 := by decide
  have e8 : (8 : Int32).toInt = 8 := by decide
  have e9 : (9 : Int32).toInt = 9 := by decide
  have e48 : (48 : Int32).toInt = 48 := by decide
  have f0 : (0 : Int64).toInt = 0 := by decide
  have f10 : (10 : Int64).toInt = 10 := by decide
  have fm : (10000000 : Int64).toInt = 10000000 := by decide
  have fl : (100000000 : Int64).toInt = 100000000 := by decide
  have hsz : (at' - bg).toInt = (b - a : Nat) := by rw [y_sub (by omega) (by omega)]; omega
  refine ⟨b - a + 1, ?_⟩
  have loop : ∀ (d : Nat) (y1 : Int64) (y3 : Int32) (i : Nat), y3.toInt = a + i → a + i + d = b → (∀ i' : Nat, i' < i → 48 ≤ (mu (a + i')).toInt ∧ (mu (a + i')).toInt ≤ 57) → (i ≤ 8 → y1.toInt = yVal (fun i => (mu (a + i)).toInt - 48) i) → P_M_number_7 at' bg mu post (d + 1) y1 y3 := by
    intro d
    induction d with
    | zero =>
      intro y1 y3 i g1 g2 g3 g4
      have hi : i = b - a := by omega
      subst hi
      refine ⟨fun _ => ⟨fun hx => h0 (fun hy => ?_), fun hx => ⟨fun hx2 => ?_, fun hx2 => h0 (fun hy => ?_)⟩⟩, fun hx => ?_⟩
      · rw [y_lt, hsz] at hx
        omega
      · rw [y_lt, hsz] at hx
        have hv := g4 (by omega)
        rw [y_le6, fm, hv] at hx2
        exact h1 ⟨⟨fun i' hi' => g3 i' (by omega), by omega⟩, hx2⟩ y1 hv
      · rw [y_lt, hsz] at hx
        have hv := g4 (by omega)
        rw [y_le6, fm, hv] at hx2
        exact hx2 hy.2
      · rw [y_le] at hx
        omega
    | succ d ih =>
      intro y1 y3 i g1 g2 g3 g4
      have hok := hu (a + i) (by omega)
      have hokb : 10 ≤ (mu (a + i)).toInt ∧ (mu (a + i)).toInt ≤ 126 := by unfold yOk at hok; omega
      have hyn : y3.toNatClampNeg = a + i := by rw [y_nat]; omega
      have hs3 := q_inc (y := y3) (n := 601) (by omega) (by omega) (by omega)
      refine ⟨fun hx => ?_, fun _ => ⟨y_in (by omega) (by omega), fun x5 e5 => ?_⟩⟩
      · rw [y_le] at hx
        omega
      rw [hyn] at e5
      have a5 : x5.toInt = (mu (a + i)).toInt - 48 := by rw [e5, y_sub (by omega) (by omega), e48]
      refine ⟨fun hx => h0 (fun hy => ?_), fun hx => ⟨fun hx2 => ?_, fun hx2 => h0 (fun hy => ?_)⟩⟩
      · rw [y_lt] at hx
        have := hy.1.1 i (by omega)
        omega
      · rw [y_lt] at hx
        rw [y_le] at hx2
        have g3' : ∀ i' : Nat, i' < i + 1 → 48 ≤ (mu (a + i')).toInt ∧ (mu (a + i')).toInt ≤ 57 := fun i' hi' => by
          by_cases e : i' = i
          · rw [e]
            omega
          · exact g3 i' (by omega)
        refine ⟨fun hg x ex => ?_, fun hg x ex => ?_⟩
        · subst ex
          refine ih _ (y3 + 1) (i + 1) (by omega) (by omega) g3' (fun hi8 => ?_)
          have hv := g4 (by omega)
          have hvb := q_valB (f := fun i => (mu (a + i)).toInt - 48) i (fun i' hi' => by have := g3 i' hi'; omega)
          have hpp := (q_p10 i (by omega)).2
          have m1 : (10 * y1).toInt = 10 * y1.toInt := by rw [y_mul6 (by rw [f10]; omega) (by rw [f10]; omega), f10]
          rw [y_add6 (by rw [y_64]; omega) (by rw [y_64]; omega), m1, y_64, a5, hv, yVal]
        · subst ex
          refine ih _ (y3 + 1) (i + 1) (by omega) (by omega) g3' (fun hi8 => ?_)
          have hv := g4 (by omega)
          have hvb := q_valB (f := fun i => (mu (a + i)).toInt - 48) i (fun i' hi' => by have := g3 i' hi'; omega)
          have hpp := (q_p10 i (by omega)).2
          rw [y_le6, fl] at hg
          omega
      · rw [y_le] at hx2
        have := hy.1.1 i (by omega)
        omega
  exact loop (b - a) 0 bg 0 (by omega) (by omega) (fun i' hi' => absurd hi' (Nat.not_lt_zero i')) (fun _ => f0)
/-- may a key have this value -/
def yMay (key : Nat) (v : Int) : Prop := 0 ≤ v ∧ v ≤ 10000000 ∧ (key = 4 → 1 ≤ v) ∧ (key = 8 ∨ key = 9 → v = 0 ∨ 10000 ≤ v) ∧ (key = 9 → v % 2 = 0)
theorem q_least : ∀ key : Nat, key < 10 → (zKey_least.getD key 0).toInt = if key = 4 then 1 else if key = 8 ∨ key = 9 then 10000 else 0 := by decide
theorem q_takes {key : Nat} (hk : key < 10) {v : Int32} {post : Int32 → Prop} (h1 : yMay key v.toInt → post 1) (h0 : ¬ yMay key v.toInt → post 0) : P_Ke_takes key v post := by
  have e0 : (0 : Int32).toInt = 0 := by decide
  have e2 : (2 : Int32).toInt = 2 := by decide
  have em : (10000000 : Int32).toInt = 10000000 := by decide
  have hl := q_least key hk
  have hvr := y_r v
  unfold yMay at h1 h0
  refine ⟨fun hz => ⟨by omega, fun hx => h0 (fun hy => ?_), fun hx => ⟨fun hx2 => h0 (fun hy => ?_), fun hx2 => ⟨by omega, fun hk9 => h1 ?_, fun hk9 => ⟨fun hx3 => h0 (fun hy => hx3 ?_), fun hx3 => h1 ?_⟩⟩⟩⟩, fun hz => ⟨by omega, fun hk4 => h0 (fun hy => ?_), fun hk4 => h1 ?_⟩⟩
  · rw [y_eq] at hz
    rw [y_lt, hl] at hx
    split at hx
    · omega
    · split at hx <;> omega
  · rw [y_lt, em] at hx2
    omega
  · rw [y_eq] at hz
    rw [y_lt, hl] at hx
    rw [y_lt, em] at hx2
    split at hx
    · omega
    · split at hx <;> omega
  · rw [y_lt, hl] at hx
    have hv0 : 0 ≤ v.toInt := by omega
    have d1 : (v / 2).toInt = v.toInt / 2 := by rw [y_div (by omega), e2, Int.tdiv_eq_ediv_of_nonneg hv0]
    have d2 : (v / 2 * 2).toInt = v.toInt / 2 * 2 := by rw [y_mul (by rw [d1, e2]; omega) (by rw [d1, e2]; omega), d1, e2]
    rw [y_eq, y_sub (by omega) (by omega), d2, e0]
    omega
  · rw [y_eq] at hz
    rw [y_lt, hl] at hx
    rw [y_lt, em] at hx2
    rw [if_neg (by omega), if_pos (by omega)] at hx
    have hv0 : 0 ≤ v.toInt := by omega
    have d1 : (v / 2).toInt = v.toInt / 2 := by rw [y_div (by omega), e2, Int.tdiv_eq_ediv_of_nonneg hv0]
    have d2 : (v / 2 * 2).toInt = v.toInt / 2 * 2 := by rw [y_mul (by rw [d1, e2]; omega) (by rw [d1, e2]; omega), d1, e2]
    rw [y_eq, y_sub (by omega) (by omega), d2, e0] at hx3
    omega
  · rw [y_eq] at hz
    omega
  · rw [y_eq] at hz
    omega
theorem q_can {k32 : Int32} {key : Nat} (hk : k32.toInt = key) {c : Int64} (hc : c.toInt ≤ 10000000) {post : Int32 → Prop} (h1 : yMay key c.toInt → post 1) (h0 : ¬ yMay key c.toInt → post 0) : P_M_can k32 c post := by
  have f0 : (0 : Int64).toInt = 0 := by decide
  have f1 : (1 : Int64).toInt = 1 := by decide
  have f2 : (2 : Int64).toInt = 2 := by decide
  have fk : (10000 : Int64).toInt = 10000 := by decide
  have e4 : (4 : Int32).toInt = 4 := by decide
  have e8 : (8 : Int32).toInt = 8 := by decide
  have e9 : (9 : Int32).toInt = 9 := by decide
  have k4 : k32 = 4 ↔ key = 4 := by rw [y_eq, e4]; omega
  have k8 : k32 = 8 ↔ key = 8 := by rw [y_eq, e8]; omega
  have k9 : k32 = 9 ↔ key = 9 := by rw [y_eq, e9]; omega
  unfold yMay at h1 h0
  have h50 : 0 ≤ c.toInt → (key = 4 → 1 ≤ c.toInt) → (key = 8 ∨ key = 9 → c.toInt = 0 ∨ 10000 ≤ c.toInt) → P_M_can_50 k32 c post 0 := by
    intro g1 g2 g3
    have hz := q_remz (a := c) (t := 2) (by omega) (by rw [f2]; omega)
    rw [f2] at hz
    refine ⟨fun hx => absurd rfl hx, fun _ => ⟨fun hx => h1 ?_, fun hx => ⟨fun hy => h0 (fun hh => hy (hz.2 (hh.2.2.2.2 (k9.1 hx)))), fun hy => h1 ?_⟩⟩⟩
    · exact ⟨g1, hc, g2, g3, fun hk9 => absurd (k9.2 hk9) hx⟩
    · exact ⟨g1, hc, g2, g3, fun _ => hz.1 hy⟩
  have h31 : 0 ≤ c.toInt → (key = 4 → 1 ≤ c.toInt) → (key = 8 ∨ key = 9) → P_M_can_31 k32 c post := by
    intro g1 g2 g3
    refine ⟨fun hx => h50 g1 g2 (fun _ => Or.inl ?_), fun hx => ⟨fun hy => h50 g1 g2 (fun _ => Or.inr ?_), fun hy => ⟨fun _ => h0 (fun hh => ?_), fun hz => absurd hz (by decide)⟩⟩⟩
    · rw [y_le6, f0] at hx
      omega
    · rw [y_le6, fk] at hy
      omega
    · rw [y_le6, f0] at hx
      rw [y_le6, fk] at hy
      have := hh.2.2.2.1 g3
      omega
  have h19 : 0 ≤ c.toInt → (key = 4 → 1 ≤ c.toInt) → P_M_can_19 k32 c post := by
    intro g1 g2
    refine ⟨fun hx => h31 g1 g2 (Or.inl (k8.1 hx)), fun hx => ⟨fun hy => h50 g1 g2 (fun hh => ?_), fun hy => h31 g1 g2 (Or.inr (k9.1 hy))⟩⟩
    rcases hh with hh | hh
    · exact absurd (k8.2 hh) hx
    · exact absurd (k9.2 hh) hy
  refine ⟨fun hx => h0 (fun hh => ?_), fun hx => ⟨fun hy => h19 ?_ (fun hk4 => absurd (k4.2 hk4) hy), fun hy => ⟨fun hz => h19 ?_ (fun _ => ?_), fun hz => h0 (fun hh => ?_)⟩⟩⟩
  · rw [y_lt6, f0] at hx
    omega
  · rw [y_lt6, f0] at hx
    omega
  · rw [y_lt6, f0] at hx
    omega
  · rw [y_le6, f1] at hz
    omega
  · rw [y_le6, f1] at hz
    have := hh.2.2.1 (k4.1 hy)
    omega
/-- one value for both, taken or not -/
theorem q_val {un mu : Nat → Int32} {n : Nat} (hn6 : n ≤ 600) (hu : ∀ k : Nat, k < n → un k = mu k ∧ yOk (mu k)) {s e : Int32} {a b : Nat} (hs : s.toInt = a) (he : e.toInt = b) (hab : a < b) (hb : b ≤ n) {key : Nat} {k32 : Int32} (hk : key < 10) (hkk : k32.toInt = key) : (∃ v : Int32, yMay key v.toInt ∧ (∀ (X : Int32 → Prop) (Y : Prop), X v → P_Wo_value s e un (fun r8 => key < 11 ∧ P_Ke_takes key r8 (fun r9 => ((¬ r9 = 0 → P_Wo_value s e un (fun r12 => X r12)) ∧ (r9 = 0 → Y))))) ∧ (∀ (X : Int64 → Prop) (Y : Prop), X v.toInt64 → P_M_number e s mu (fun r8 => P_M_can k32 r8 (fun r2 => ((¬ r2 = 0 → X r8) ∧ (r2 = 0 → Y)))))) ∨ ((∀ (X : Int32 → Prop) (Y : Prop), Y → P_Wo_value s e un (fun r8 => key < 11 ∧ P_Ke_takes key r8 (fun r9 => ((¬ r9 = 0 → P_Wo_value s e un (fun r12 => X r12)) ∧ (r9 = 0 → Y))))) ∧ (∀ (X : Int64 → Prop) (Y : Prop), Y → P_M_number e s mu (fun r8 => P_M_can k32 r8 (fun r2 => ((¬ r2 = 0 → X r8) ∧ (r2 = 0 → Y)))))) := by
  have em : (-1 : Int32).toInt = -1 := by decide
  have fm : (-1 : Int64).toInt = -1 := by decide
  by_cases hg : yDig mu a b ∧ b - a ≤ 8
  · have hvb := q_valB (f := fun i => (mu (a + i)).toInt - 48) (b - a) (fun i' hi' => by have := hg.1 i' (by omega); omega)
    have hpp := (q_p10 (b - a) hg.2).2
    obtain ⟨v, hv⟩ : ∃ v : Int32, v.toInt = yVal (fun i => (mu (a + i)).toInt - 48) (b - a) := ⟨Int32.ofInt (yVal (fun i => (mu (a + i)).toInt - 48) (b - a)), Int32.toInt_ofInt_of_le (by omega) (by omega)⟩
    have uq : ∀ v' : Int32, v'.toInt = yVal (fun i => (mu (a + i)).toInt - 48) (b - a) → v' = v := fun v' h => by rw [y_eq, h, hv]
    have uq6 : ∀ c : Int64, c.toInt = yVal (fun i => (mu (a + i)).toInt - 48) (b - a) → c = v.toInt64 := fun c h => by rw [y_eq6, y_64, h, hv]
    by_cases hm : yMay key v.toInt
    · left
      refine ⟨v, hm, fun X Y hX => q_Cvalue hn6 hu hs he hab hb (fun _ v' hv' => ⟨by omega, ?_⟩) (fun hx => absurd hg hx), fun X Y hX => q_Mnumber hn6 (fun k hk => (hu k hk).2) hs he hab hb (fun _ c hc => ?_) (fun hx => absurd ⟨hg, ?_⟩ hx)⟩
      · rw [uq v' hv']
        exact q_takes hk (fun _ => ⟨fun _ => q_Cvalue hn6 hu hs he hab hb (fun _ v'' hv'' => by rw [uq v'' hv'']; exact hX) (fun hx => absurd hg hx), fun hx => absurd hx (by decide)⟩) (fun hx => absurd hm hx)
      · rw [uq6 c hc]
        refine q_can hkk (by rw [y_64]; exact hm.2.1) (fun _ => ⟨fun _ => hX, fun hx => absurd hx (by decide)⟩) (fun hx => absurd ?_ hx)
        rw [y_64]
        exact hm
      · rw [← hv]
        exact hm.2.1
    · right
      refine ⟨fun X Y hY => q_Cvalue hn6 hu hs he hab hb (fun _ v' hv' => ⟨by omega, ?_⟩) (fun hx => absurd hg hx), fun X Y hY => q_Mnumber hn6 (fun k hk => (hu k hk).2) hs he hab hb (fun hle c hc => ?_) (fun hx => ?_)⟩
      · rw [uq v' hv']
        exact q_takes hk (fun hx => absurd hx hm) (fun _ => ⟨fun hx => absurd rfl hx, fun _ => hY⟩)
      · rw [uq6 c hc]
        refine q_can hkk (by rw [y_64, hv]; exact hle.2) (fun hx => absurd ?_ hm) (fun _ => ⟨fun hx => absurd rfl hx, fun _ => hY⟩)
        rw [y_64] at hx
        exact hx
      · refine q_can hkk (by rw [fm]; omega) (fun hx => absurd hx.1 (by rw [fm]; omega)) (fun _ => ⟨fun hx => absurd rfl hx, fun _ => hY⟩)
  · right
    refine ⟨fun X Y hY => q_Cvalue hn6 hu hs he hab hb (fun hx => absurd hx hg) (fun _ => ⟨by omega, ?_⟩), fun X Y hY => q_Mnumber hn6 (fun k hk => (hu k hk).2) hs he hab hb (fun hx => absurd hx.1 hg) (fun _ => ?_)⟩
    · exact q_takes hk (fun hx => absurd hx.1 (by rw [em]; omega)) (fun _ => ⟨fun hx => absurd rfl hx, fun _ => hY⟩)
    · exact q_can hkk (by rw [fm]; omega) (fun hx => absurd hx.1 (by rw [fm]; omega)) (fun _ => ⟨fun hx => absurd rfl hx, fun _ => hY⟩)
