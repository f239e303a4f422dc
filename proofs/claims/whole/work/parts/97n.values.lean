/-- a family as it begins -/
theorem q_begin {k : Nat} (hk : k < 5) {V0 L0 : Nat → Int32} {post : Int32 → Nat → (Nat → Int32) → (Nat → Int32) → Prop} (h : ∀ V L : Nat → Int32, (∀ s : Nat, s < 18 → V s = if s = 12 then 1 else 0) → (∀ i : Nat, i < 4 → L i = (zByt.getD (zKind_capitals.getD k 0) []).getD i 0) → post 4 k V L) : P_Fa_begin k V0 L0 post := by
  have e0 : (0 : Int32).toInt = 0 := by decide
  have e4 : (4 : Int32).toInt = 4 := by decide
  have e18 : (18 : Int32).toInt = 18 := by decide
  obtain ⟨⟨_, hw⟩, ⟨_, hl⟩, _⟩ := q_kindT k hk
  have letters : ∀ (d : Nat) (y C : Int32) (V L : Nat → Int32) (i : Nat), y.toInt = i → C.toInt = i → i + d = 4 → (∀ s : Nat, s < 18 → V s = if s = 12 then 1 else 0) → (∀ i' : Nat, i' < i → L i' = (zByt.getD (zKind_capitals.getD k 0) []).getD i' 0) → P_Fa_begin_45 k post (d + 1) y C k V L := by
    intro d
    induction d with
    | zero =>
      intro y C V L i g1 g2 g3 g4 g5
      have hC : C = 4 := by rw [y_eq, e4]; omega
      refine ⟨hk, hw, q_length hw ⟨fun _ => ?_, fun hx => ?_⟩⟩
      · rw [hC]
        exact h V L g4 (fun i' hi' => g5 i' (by omega))
      · rw [hl, y_le, zl_n32 (by omega)] at hx
        omega
    | succ d ih =>
      intro y C V L i g1 g2 g3 g4 g5
      have hs1 := q_inc (y := y) (n := 5) (by omega) (by omega) (by omega)
      have hs2 := q_inc (y := C) (n := 5) (by omega) (by omega) (by omega)
      have hyn : y.toInt.toNat = i := by omega
      have hcn : C.toNatClampNeg = i := by rw [y_nat]; omega
      have ht := (q_tabC (zKind_capitals.getD k 0) hw i (by omega)).2
      refine ⟨hk, hw, q_length hw ⟨fun hx => ?_, fun _ => ⟨hk, hw, q_charAt hw (by omega) (by rw [hl]; omega) ?_⟩⟩⟩
      · rw [hl, y_le, zl_n32 (by omega)] at hx
        omega
      · rw [hyn]
        refine ⟨fun hx => ?_, fun _ => ⟨fun hx => ?_, fun _ => ⟨y_in (by omega) (by omega), fun x ex x2 ex2 => ?_⟩⟩⟩
        · rw [y_lt] at hx
          omega
        · rw [y_le] at hx
          omega
        · subst ex ex2
          rw [hcn, ht]
          refine ih (y + 1) (C + 1) V _ (i + 1) (by omega) (by omega) (by omega) g4 (fun i' hi' => ?_)
          rw [y_upd]
          by_cases e : i' = i
          · rw [if_pos e, e]
          · rw [if_neg e]
            exact g5 i' (by omega)
  have zeros : ∀ (d : Nat) (y : Int32) (V : Nat → Int32) (i : Nat), y.toInt = i → i + d = 18 → (∀ s : Nat, s < i → V s = 0) → P_Fa_begin_7 k L0 post (d + 1) y k V := by
    intro d
    induction d with
    | zero =>
      intro y V i g1 g2 g3
      refine ⟨fun _ => ⟨by decide, fun x ex => ?_⟩, fun hx => ?_⟩
      · have hx : x = 12 := by rw [ex]; decide
        subst hx
        refine ⟨fun hx => absurd hx (by decide), fun _ => ⟨fun hx => absurd hx (by decide), fun _ => ⟨y_in (by decide) (by decide), 5, letters 4 0 0 _ L0 0 (by decide) (by decide) (by omega) (fun s hs => ?_) (fun i' hi' => absurd hi' (Nat.not_lt_zero i'))⟩⟩⟩
        rw [y_upd]
        have e12 : (12 : Int32).toNatClampNeg = 12 := by decide
        rw [e12]
        by_cases e : s = 12
        · rw [if_pos e, if_pos e]
        · rw [if_neg e, if_neg e]
          exact g3 s (by omega)
      · rw [y_le] at hx
        omega
    | succ d ih =>
      intro y V i g1 g2 g3
      have hs1 := q_inc (y := y) (n := 18) (by omega) (by omega) (by omega)
      have hyn : y.toNatClampNeg = i := by rw [y_nat]; omega
      refine ⟨fun hx => ?_, fun _ => ⟨y_in (by omega) (by omega), fun x ex => ?_⟩⟩
      · rw [y_le] at hx
        omega
      · subst ex
        rw [hyn]
        refine ih (y + 1) _ (i + 1) (by omega) (by omega) (fun s hs => ?_)
        rw [y_upd]
        by_cases e : s = i
        · rw [if_pos e]
        · rw [if_neg e]
          exact g3 s (by omega)
  exact ⟨19, zeros 18 0 V0 0 (by decide) (by omega) (fun s hs => absurd hs (Nat.not_lt_zero s))⟩
/-- nothing of the families before j changes -/
def yFr (j : Nat) (values0 values names0 names : Nat → Int64) : Prop := (∀ k : Nat, k < 30 * j → values k = values0 k) ∧ ∀ f : Nat, f < j → names f = names0 f
theorem q_relPut {C : Int32} {Kd : Nat} {V L : Nat → Int32} {kind : Int32} {values : Nat → Int64} {name : Int64} {j key i σ : Nat} {v : Int32} (h : yF1 C Kd V L kind (fun k => values (30 * j + k)) name) (hσ : key < 4 ∧ i < 3 ∧ σ = 3 * key + i ∨ 4 ≤ key ∧ key ≤ 9 ∧ i = 0 ∧ σ = key + 8) (hv : yMay key v.toInt) : yF1 C Kd (upd V σ v) L kind (fun k => vp_updL values (30 * j + 3 * key + i) v.toInt64 (30 * j + k)) name := by
  obtain ⟨h1, h2, h3, h4, h5, h6, h7, h8, h9, h10, h11, h12, h13⟩ := h
  obtain ⟨v0, v1, v2, v3, v4⟩ := hv
  refine ⟨h1, h2, fun s hs => ?_, fun s hs hs2 => ?_, fun s hs => ?_, ?_, ?_, ?_, ?_, h10, h11, h12, h13⟩
  · have g := h3 s hs
    simp only [y_updL, y_upd]
    by_cases e : s = σ
    · rw [if_pos (by omega), if_pos e, y_64]
    · rw [if_neg (by omega), if_neg e]
      exact g
  · have g := h4 s hs hs2
    simp only [y_updL, y_upd]
    by_cases e : s = σ
    · rw [if_pos (by omega), if_pos e, y_64]
    · rw [if_neg (by omega), if_neg e]
      exact g
  · rw [y_upd]
    by_cases e : s = σ
    · rw [if_pos e]
      exact ⟨v0, v1⟩
    · rw [if_neg e]
      exact h5 s hs
  · rw [y_upd]
    by_cases e : 12 = σ
    · rw [if_pos e]
      exact v2 (by omega)
    · rw [if_neg e]
      exact h6
  · rw [y_upd]
    by_cases e : 16 = σ
    · rw [if_pos e]
      exact v3 (by omega)
    · rw [if_neg e]
      exact h7
  · rw [y_upd]
    by_cases e : 17 = σ
    · rw [if_pos e]
      exact v3 (by omega)
    · rw [if_neg e]
      exact h8
  · rw [y_upd]
    by_cases e : 17 = σ
    · rw [if_pos e]
      exact v4 (by omega)
    · rw [if_neg e]
      exact h9
theorem q_first : ∀ key : Nat, key < 10 → (zKey_first.getD key 0).toInt = (if key < 4 then 3 * key else key + 8 : Nat) ∧ (zKey_many.getD key 0).toInt = (if key < 4 then 3 else 1 : Nat) := by decide
/-- the values of one key, for both -/
theorem q_values {size : Int32} {un mu : Nat → Int32} {n : Nat} (hn : size.toInt = n) (hn6 : n ≤ 600) (hu : ∀ k : Nat, k < n → un k = mu k ∧ yOk (mu k)) {key j Kd : Nat} {k32 y1 C kind : Int32} {L : Nat → Int32} {values0 names0 names : Nat → Int64} (hk : key < 10) (hkk : k32.toInt = key) (hj : y1.toInt = j) (hj8 : j < 8) (many : Int32) (M : Nat) (hM : many.toInt = M) (hMk : M = if key < 4 then 3 else 1) : ∀ (d : Nat) (y s e p w : Int32) (i b : Nat) (V : Nat → Int32) (values : Nat → Int64), y.toInt = i → i + d = M → e.toInt = b → b ≤ n → 0 ≤ p.toInt → p.toInt ≤ b → w.toInt = p.toInt + 1 → yF1 C Kd V L kind (fun k => values (30 * j + k)) (names j) → yFr j values0 values names0 names → (∃ (s' e' p' w' : Int32) (b' : Nat) (V' : Nat → Int32) (values' : Nat → Int64), e'.toInt = b' ∧ b ≤ b' ∧ b' ≤ n ∧ 0 ≤ p'.toInt ∧ p'.toInt ≤ b' ∧ w'.toInt = p'.toInt + 1 ∧ yF1 C Kd V' L kind (fun k => values' (30 * j + k)) (names j) ∧ yFr j values0 values' names0 names ∧ (∀ post : Int32 → Int32 → Int32 → Int32 → Int32 → (Nat → Int32) → (Nat → Int32) → Prop, post 1 s' e' p' C L V' → P_FR_readValues_33 key size un C L post (d + 1) y s e p V) ∧ (∀ post : Int32 → Int32 → Int32 → Int32 → (Nat → Int64) → (Nat → Int64) → Prop, post 1 e' s' w' values' names → P_M_take_14 y1 k32 size mu post (d + 1) many y e s w values names)) ∨ (∃ (s' e' p' w' a' : Int32) (bg' : Int32) (V' : Nat → Int32) (values' : Nat → Int64), w'.toInt = p'.toInt + 1 ∧ 0 ≤ p'.toInt ∧ p'.toInt ≤ 601 ∧ yFr j values0 values' names0 names ∧ (∀ post : Int32 → Int32 → Int32 → Int32 → Int32 → (Nat → Int32) → (Nat → Int32) → Prop, post 0 s' e' p' C L V' → P_FR_readValues_33 key size un C L post (d + 1) y s e p V) ∧ (∀ post : Int32 → Int32 → Int32 → Int32 → (Nat → Int64) → (Nat → Int64) → Prop, post 0 a' bg' w' values' names → P_M_take_14 y1 k32 size mu post (d + 1) many y e s w values names)) := by
  have e1 : (1 : Int32).toInt = 1 := by decide
  have e3 : (3 : Int32).toInt = 3 := by decide
  have e18 : (18 : Int32).toInt = 18 := by decide
  have e0 : (0 : Int32).toInt = 0 := by decide
  have e30 : (30 : Int32).toInt = 30 := by decide
  have e10 : (10 : Int32).toInt = 10 := by decide
  have hfm := q_first key hk
  have hMe : (zKey_many.getD key 0).toInt = M := by rw [hfm.2, hMk]
  have hk10 : ¬ k32 = 10 := by rw [y_eq, e10]; omega
  intro d
  induction d with
  | zero =>
    intro y s e p w i b V values g1 g2 g3 g4 g5 g6 g7 g8 g9
    left
    refine ⟨s, e, p, w, b, V, values, g3, Nat.le_refl _, g4, g5, g6, g7, g8, g9, fun post h => ⟨by omega, fun _ => h, fun hx => ?_⟩, fun post h => ⟨fun _ => h, fun hx => ?_⟩⟩
    · rw [y_le] at hx
      omega
    · rw [y_le] at hx
      omega
  | succ d ih =>
    intro y s e p w i b V values g1 g2 g3 g4 g5 g6 g7 g8 g9
    have hle1 : ¬ zKey_many.getD key 0 ≤ y := by rw [y_le]; omega
    have hle2 : ¬ many ≤ y := by rw [y_le]; omega
    have hM3 : M ≤ 3 := by split at hMk <;> omega
    have hs1 := q_inc (y := y) (n := 4) (by omega) (by omega) (by omega)
    have hps := q_inc (y := p) (n := 602) (by omega) (by omega) (by omega)
    have hws := q_inc (y := w) (n := 603) (by omega) (by omega) (by omega)
    rcases q_next hn hn6 (fun k hk => (hu k hk).1) g3 g4 with ⟨s2, e2, a, b2, k1, k2, k3, k4, k5, nC, nM⟩ | ⟨s2, e2, nC, nM⟩
    · rcases q_val (key := key) (k32 := k32) hn6 hu k1 k2 k4 k5 hk hkk with ⟨v, hv, vC, vM⟩ | ⟨vC, vM⟩
      · have hσ : key < 4 ∧ i < 3 ∧ (if key < 4 then 3 * key else key + 8) + i = 3 * key + i ∨ 4 ≤ key ∧ key ≤ 9 ∧ i = 0 ∧ (if key < 4 then 3 * key else key + 8) + i = key + 8 := by
          split <;> split at hMk <;> omega
        have hslot : (zKey_first.getD key 0 + y).toInt = ((if key < 4 then 3 * key else key + 8) + i : Nat) := by
          have := hfm.1
          rw [y_add (by rw [this]; split <;> omega) (by rw [this]; split <;> omega), this, g1]
          omega
        have hslot18 : (if key < 4 then 3 * key else key + 8) + i < 18 := by omega
        have hput : ∀ pst : (Nat → Int32) → Prop, pst (upd V ((if key < 4 then 3 * key else key + 8) + i) v) → P_Fa_put key y v V pst := by
          intro pst hp
          refine ⟨by omega, fun x ex => ?_⟩
          rw [← ex] at hslot
          have hxn : x.toNatClampNeg = (if key < 4 then 3 * key else key + 8) + i := by rw [y_nat]; omega
          refine ⟨fun hx => ?_, fun _ => ⟨fun hx => ?_, fun _ => ⟨y_in (by omega) (by omega), ?_⟩⟩⟩
          · rw [y_lt] at hx
            omega
          · rw [y_le] at hx
            omega
          · rw [hxn]
            exact hp
        have hrel := q_relPut (i := i) g8 hσ hv
        have hi3 : i < 3 := by omega
        have m1 : (30 * y1).toInt = 30 * j := by rw [y_mul (by rw [e30]; omega) (by rw [e30]; omega), e30, hj]
        have m2 : (3 * k32).toInt = 3 * key := by rw [y_mul (by rw [e3]; omega) (by rw [e3]; omega), e3, hkk]
        have m3 : (30 * y1 + 3 * k32).toInt = 30 * j + 3 * key := by rw [y_add (by omega) (by omega), m1, m2]
        have m4 : (30 * y1 + 3 * k32 + y).toInt = 30 * j + 3 * key + i := by rw [y_add (by omega) (by omega), m3, g1]
        have m5 : (30 * y1 + 3 * k32 + y).toNatClampNeg = 30 * j + 3 * key + i := by rw [y_nat]; omega
        have hfr : yFr j values0 (vp_updL values (30 * j + 3 * key + i) v.toInt64) names0 names := ⟨fun k hk => by rw [y_updL, if_neg (by omega)]; exact g9.1 k hk, g9.2⟩
        have stepC : ∀ post : Int32 → Int32 → Int32 → Int32 → Int32 → (Nat → Int32) → (Nat → Int32) → Prop, P_FR_readValues_33 key size un C L post (d + 1) (y + 1) s2 e2 (p + 1) (upd V ((if key < 4 then 3 * key else key + 8) + i) v) → P_FR_readValues_33 key size un C L post (d + 1 + 1) y s e p V := fun post h => ⟨by omega, fun hx => absurd hx hle1, fun _ => nC p _ ⟨fun hx => absurd hx (by decide), fun _ => vC _ _ (hput _ (fun x ex => by subst ex; exact h))⟩⟩
        have stepM : ∀ post : Int32 → Int32 → Int32 → Int32 → (Nat → Int64) → (Nat → Int64) → Prop, P_M_take_14 y1 k32 size mu post (d + 1) many (y + 1) e2 s2 (w + 1) (vp_updL values (30 * j + 3 * key + i) v.toInt64) names → P_M_take_14 y1 k32 size mu post (d + 1 + 1) many y e s w values names := by
          intro post h
          refine ⟨fun hx => absurd hx hle2, fun _ => nM w _ ⟨fun _ => ⟨fun _ => ?_, fun hx => absurd hx hk10⟩, fun hx => absurd hx (by decide)⟩⟩
          have key1 := vM (fun r8 => P_M_take_88 y1 k32 post (P_M_take_14 y1 k32 size mu post (d + 1)) many y r8 e2 s2 (w + 1) values names) (post 0 e2 s2 (w + 1) values names) ⟨fun _ => ⟨y_in (by omega) (by omega), fun x ex => by subst ex; rw [m5]; exact h⟩, fun hx => absurd hx hk10⟩
          have mono : ∀ (A B : Int64 → Prop), (∀ c, A c → B c) → P_M_number e2 s2 mu A → P_M_number e2 s2 mu B := by
            intro A B hAB
            rintro ⟨m, hm⟩
            refine ⟨m, ?_⟩
            have gen : ∀ (m : Nat) (z : Int64) (z3 : Int32), P_M_number_7 e2 s2 mu A m z z3 → P_M_number_7 e2 s2 mu B m z z3 := by
              intro m
              induction m with
              | zero => intro z z3 h; exact h
              | succ m ihm =>
                intro z z3 h
                exact ⟨fun t => ⟨fun t2 => hAB _ ((h.1 t).1 t2), fun t2 => ⟨fun t3 => hAB _ (((h.1 t).2 t2).1 t3), fun t3 => hAB _ (((h.1 t).2 t2).2 t3)⟩⟩, fun t => ⟨(h.2 t).1, fun x ex => ⟨fun t2 => hAB _ (((h.2 t).2 x ex).1 t2), fun t2 => ⟨fun t3 => ⟨fun t4 x2 ex2 => ihm _ _ ((((((h.2 t).2 x ex).2 t2).1 t3).1 t4) x2 ex2), fun t4 x2 ex2 => ihm _ _ ((((((h.2 t).2 x ex).2 t2).1 t3).2 t4) x2 ex2)⟩, fun t3 => hAB _ ((((h.2 t).2 x ex).2 t2).2 t3)⟩⟩⟩⟩
            exact gen m _ _ hm
          exact mono _ _ (fun c hc => ⟨fun _ => hc, fun hx => absurd hx hk10⟩) key1
        have hrel2 : yF1 C Kd (upd V ((if key < 4 then 3 * key else key + 8) + i) v) L kind (fun k => (vp_updL values (30 * j + 3 * key + i) v.toInt64) (30 * j + k)) (names j) := hrel
        rcases ih (y + 1) s2 e2 (p + 1) (w + 1) (i + 1) b2 _ _ (by omega) (by omega) k2 k5 (by omega) (by omega) (by omega) hrel2 hfr with ⟨s', e', p', w', b', V', values', q1, q2, q3, q4, q5, q6, q7, q8, q9, q10⟩ | ⟨s', e', p', w', a', bg', V', values', q1, q2, q3, q4, q5, q6⟩
        · exact Or.inl ⟨s', e', p', w', b', V', values', q1, by omega, q3, q4, q5, q6, q7, q8, fun post h => stepC post (q9 post h), fun post h => stepM post (q10 post h)⟩
        · exact Or.inr ⟨s', e', p', w', a', bg', V', values', q1, q2, q3, q4, fun post h => stepC post (q5 post h), fun post h => stepM post (q6 post h)⟩
      · right
        refine ⟨s2, e2, p + 1, w + 1, e2, s2, V, values, by omega, by omega, by omega, g9, fun post h => ⟨by omega, fun hx => absurd hx hle1, fun _ => nC p _ ⟨fun hx => absurd hx (by decide), fun _ => vC _ _ h⟩⟩, fun post h => ⟨fun hx => absurd hx hle2, fun _ => nM w _ ⟨fun _ => ⟨fun _ => ?_, fun hx => absurd hx hk10⟩, fun hx => absurd hx (by decide)⟩⟩⟩
        have key1 := vM (fun r8 => P_M_take_88 y1 k32 post (P_M_take_14 y1 k32 size mu post (d + 1)) many y r8 e2 s2 (w + 1) values names) (post 0 e2 s2 (w + 1) values names) h
        have mono : ∀ (A B : Int64 → Prop), (∀ c, A c → B c) → P_M_number e2 s2 mu A → P_M_number e2 s2 mu B := by
          intro A B hAB
          rintro ⟨m, hm⟩
          refine ⟨m, ?_⟩
          have gen : ∀ (m : Nat) (z : Int64) (z3 : Int32), P_M_number_7 e2 s2 mu A m z z3 → P_M_number_7 e2 s2 mu B m z z3 := by
            intro m
            induction m with
            | zero => intro z z3 h; exact h
            | succ m ihm =>
              intro z z3 h
              exact ⟨fun t => ⟨fun t2 => hAB _ ((h.1 t).1 t2), fun t2 => ⟨fun t3 => hAB _ (((h.1 t).2 t2).1 t3), fun t3 => hAB _ (((h.1 t).2 t2).2 t3)⟩⟩, fun t => ⟨(h.2 t).1, fun x ex => ⟨fun t2 => hAB _ (((h.2 t).2 x ex).1 t2), fun t2 => ⟨fun t3 => ⟨fun t4 x2 ex2 => ihm _ _ ((((((h.2 t).2 x ex).2 t2).1 t3).1 t4) x2 ex2), fun t4 x2 ex2 => ihm _ _ ((((((h.2 t).2 x ex).2 t2).1 t3).2 t4) x2 ex2)⟩, fun t3 => hAB _ ((((h.2 t).2 x ex).2 t2).2 t3)⟩⟩⟩⟩
          exact gen m _ _ hm
        exact mono _ _ (fun c hc => ⟨fun _ => hc, fun hx => absurd hx hk10⟩) key1
    · right
      refine ⟨s2, e2, p + 1, w + 1, e2, s2, V, values, by omega, by omega, by omega, g9, fun post h => ⟨by omega, fun hx => absurd hx hle1, fun _ => nC p _ ⟨fun _ => h, fun hx => absurd rfl hx⟩⟩, fun post h => ⟨fun hx => absurd hx hle2, fun _ => nM w _ ⟨fun hx => absurd rfl hx, fun _ x ex => by subst ex; exact h⟩⟩⟩
