theorem q_M173b {size fams : Int32} {mu : Nat → Int32} {post : Int32 → Int32 → Int32 → Int32 → Int32 → Int32 → Int32 → (Nat → Int64) → (Nat → Int32) → (Nat → Int64) → Prop} {m : Nat} {y1 y4 t at' bg w : Int32} {values names : Nat → Int64} {kinds : Nat → Int32} (h : post (-w) t 0 fams at' bg w values kinds names) : P_M_family_173 size fams mu post (m + 1) y1 0 y4 t at' bg w values kinds names := ⟨fun _ => ⟨fun hx => absurd rfl hx, fun _ => h⟩, fun hx => absurd rfl hx⟩
/-- the keys of a family, for both -/
theorem q_read {size fams : Int32} {un mu : Nat → Int32} {n : Nat} (hn : size.toInt = n) (hn6 : n ≤ 600) (hu : ∀ k : Nat, k < n → un k = mu k ∧ yOk (mu k)) {j Kd : Nat} {y1 : Int32} {kinds : Nat → Int32} {values0 names0 : Nat → Int64} (hj : y1.toInt = j) (hj8 : j < 8) : ∀ (d : Nat) (y2 t s e p w C : Int32) (b : Nat) (L V : Nat → Int32) (values names : Nat → Int64), e.toInt = b → b ≤ n → n ≤ b + d → 0 ≤ y2.toInt → y2.toInt < b → 0 ≤ t.toInt ∧ t.toInt < 2048 → 0 ≤ p.toInt → p.toInt ≤ b → w.toInt = p.toInt + 1 → yF1 C Kd V L (kinds j) (fun k => values (30 * j + k)) (names j) → yFr j values0 values names0 names → (∃ (t' s' e' p' C' a' bg' w' : Int32) (L' V' : Nat → Int32) (values' names' : Nat → Int64), yF1 C' Kd V' L' (kinds j) (fun k => values' (30 * j + k)) (names' j) ∧ yFr j values0 values' names0 names' ∧ (∀ post : Int32 → Int32 → Int32 → Int32 → Int32 → Int32 → Nat → (Nat → Int32) → (Nat → Int32) → Prop, post (-1) t' s' e' p' C' Kd V' L' → P_FR_read_40 size un post (d + 1) y2 t s e p C Kd V L) ∧ (∀ post : Int32 → Int32 → Int32 → Int32 → Int32 → Int32 → Int32 → (Nat → Int64) → (Nat → Int32) → (Nat → Int64) → Prop, (∀ x2 : Int32, x2 = fams + 1 → post y1 0 0 x2 a' bg' w' values' kinds names') → P_M_family_173 size fams mu post (d + 2) y1 1 t 0 e s w values kinds names)) ∨ (∃ (t' s' e' p' C' a' bg' w' : Int32) (L' V' : Nat → Int32) (values' names' : Nat → Int64), 0 ≤ p'.toInt ∧ p'.toInt ≤ 601 ∧ w'.toInt = p'.toInt + 1 ∧ yFr j values0 values' names0 names' ∧ (∀ post : Int32 → Int32 → Int32 → Int32 → Int32 → Int32 → Nat → (Nat → Int32) → (Nat → Int32) → Prop, post p' t' s' e' p' C' Kd V' L' → P_FR_read_40 size un post (d + 1) y2 t s e p C Kd V L) ∧ (∀ post : Int32 → Int32 → Int32 → Int32 → Int32 → Int32 → Int32 → (Nat → Int64) → (Nat → Int32) → (Nat → Int64) → Prop, post (-w') 0 0 fams a' bg' w' values' kinds names' → P_M_family_173 size fams mu post (d + 2) y1 1 t 0 e s w values kinds names)) := by
  have e600 : (600 : Int32).toInt = 600 := by decide
  intro d
  induction d with
  | zero =>
    intro y2 t s e p w C b L V values names g1 g2 g3 g4 g5 g6 g7 g8 g9 g10 g11
    have h6 : ¬ 600 ≤ y2 := by rw [y_le]; omega
    rcases q_next hn hn6 (fun k hk => (hu k hk).1) g1 g2 with ⟨s2, e2, a, b2, k1, k2, k3, k4, k5, nC, nM⟩ | ⟨s2, e2, nC, nM⟩
    · omega
    · left
      exact ⟨t, s2, e2, p + 1, C, e2, s2, w, L, V, values, names, g10, g11, fun post h => ⟨fun hx => absurd hx h6, fun _ => nC p _ ⟨fun _ => h, fun hx => absurd rfl hx⟩⟩, fun post h => ⟨fun hx => absurd hx (by decide), fun _ => nM w _ ⟨fun _ => ⟨fun _ => h, fun hx => absurd hx (by decide)⟩, fun hx => absurd rfl hx⟩⟩⟩
  | succ d ih =>
    intro y2 t s e p w C b L V values names g1 g2 g3 g4 g5 g6 g7 g8 g9 g10 g11
    have h6 : ¬ 600 ≤ y2 := by rw [y_le]; omega
    have hps := q_inc (y := p) (n := 602) (by omega) (by omega) (by omega)
    have hws := q_inc (y := w) (n := 603) (by omega) (by omega) (by omega)
    have hys := q_inc (y := y2) (n := 601) (by omega) (by omega) (by omega)
    rcases q_next hn hn6 (fun k hk => (hu k hk).1) g1 g2 with ⟨s2, e2, a, b2, k1, k2, k3, k4, k5, nC, nM⟩ | ⟨s2, e2, nC, nM⟩
    · rcases q_key (p := p + 1) (w := w + 1) hn hn6 hu hj hj8 k1 k2 k4 k5 g6 (by omega) (by omega) (by omega) g10 g11 with ⟨t', s', e', p', w', C', b', L', V', values', names', r1, r2, r3, r4, r5, r6, r7, r8, r9, rC, rM⟩ | ⟨t', s', e', p', w', C', y4', a', bg', L', V', values', names', r1, r2, r3, r4, rC, rM⟩
      · have stepC : ∀ post : Int32 → Int32 → Int32 → Int32 → Int32 → Int32 → Nat → (Nat → Int32) → (Nat → Int32) → Prop, P_FR_read_40 size un post (d + 1) (y2 + 1) t' s' e' p' C' Kd V' L' → P_FR_read_40 size un post (d + 1 + 1) y2 t s e p C Kd V L := fun post h => ⟨fun hx => absurd hx h6, fun _ => nC p _ ⟨fun hx => absurd hx (by decide), fun _ => rC _ ⟨fun _ x ex => by subst ex; exact h, fun hx => absurd hx (by decide)⟩⟩⟩
        have stepM : ∀ post : Int32 → Int32 → Int32 → Int32 → Int32 → Int32 → Int32 → (Nat → Int64) → (Nat → Int32) → (Nat → Int64) → Prop, P_M_family_173 size fams mu post (d + 2) y1 1 t' 0 e' s' w' values' kinds names' → P_M_family_173 size fams mu post (d + 1 + 2) y1 1 t 0 e s w values kinds names := fun post h => ⟨fun hx => absurd hx (by decide), fun _ => nM w _ ⟨fun hx => absurd hx (by decide), fun _ => rM post _ h⟩⟩
        rcases ih (y2 + 1) t' s' e' p' w' C' b' L' V' values' names' r2 r4 (by omega) (by omega) (by omega) r1 r5 r6 r7 r8 r9 with ⟨t3, s3, e3, p3, C3, a3, bg3, w3, L3, V3, values3, names3, z1, z2, z3, z4⟩ | ⟨t3, s3, e3, p3, C3, a3, bg3, w3, L3, V3, values3, names3, z1, z2, z3, z4, z5, z6⟩
        · exact Or.inl ⟨t3, s3, e3, p3, C3, a3, bg3, w3, L3, V3, values3, names3, z1, z2, fun post h => stepC post (z3 post h), fun post h => stepM post (z4 post h)⟩
        · exact Or.inr ⟨t3, s3, e3, p3, C3, a3, bg3, w3, L3, V3, values3, names3, z1, z2, z3, z4, fun post h => stepC post (z5 post h), fun post h => stepM post (z6 post h)⟩
      · right
        exact ⟨t', s', e', p', C', a', bg', w', L', V', values', names', r1, r2, r3, r4, fun post h => ⟨fun hx => absurd hx h6, fun _ => nC p _ ⟨fun hx => absurd hx (by decide), fun _ => rC _ ⟨fun hx => absurd rfl hx, fun _ => h⟩⟩⟩, fun post h => ⟨fun hx => absurd hx (by decide), fun _ => nM w _ ⟨fun hx => absurd hx (by decide), fun _ => rM post _ (q_M173b h)⟩⟩⟩
    · left
      exact ⟨t, s2, e2, p + 1, C, e2, s2, w, L, V, values, names, g10, g11, fun post h => ⟨fun hx => absurd hx h6, fun _ => nC p _ ⟨fun _ => h, fun hx => absurd rfl hx⟩⟩, fun post h => ⟨fun hx => absurd hx (by decide), fun _ => nM w _ ⟨fun _ => ⟨fun _ => h, fun hx => absurd hx (by decide)⟩, fun hx => absurd rfl hx⟩⟩⟩
/-- the other's values as they begin -/
theorem q_M34 {size fams : Int32} {mu kinds : Nat → Int32} {names : Nat → Int64} {y1 : Int32} {j : Nat} (hj : y1.toInt = j) (hj8 : j < 8) {values0 : Nat → Int64} : ∃ vals : Nat → Int64, (∀ k : Nat, k < 30 * j → vals k = values0 k) ∧ (∀ k : Nat, k < 30 → vals (30 * j + k) = if k = 12 then 1 else 0) ∧ ∀ post : Int32 → Int32 → Int32 → Int32 → Int32 → Int32 → Int32 → (Nat → Int64) → (Nat → Int32) → (Nat → Int64) → Prop, P_M_next size 0 0 mu (fun (r6 : Int32) (u3 : Int32) (u4 : Int32) (u5 : Int32) => ((r6 = 0 → P_M_family_138 size fams mu kinds names post y1 (-1) 0 u3 u4 1 vals) ∧ (¬ r6 = 0 → P_M_letters 97 4 u3 u4 mu (fun (r8 : Int64) => ∃ n9, P_M_family_101 size fams mu kinds names post n9 y1 (-1) r8 0 0 u3 u4 u5 vals)))) → ∃ n2, P_M_family_34 size fams mu kinds names post n2 y1 0 0 values0 := by
  have e30 : (30 : Int32).toInt = 30 := by decide
  have e12 : (12 : Int32).toInt = 12 := by decide
  have m1 : (30 * y1).toInt = 30 * j := by rw [y_mul (by rw [e30]; omega) (by rw [e30]; omega), e30, hj]
  have m12 : (30 * y1 + 12).toInt = 30 * j + 12 := by rw [y_add (by omega) (by omega), m1, e12]
  have n12 : (30 * y1 + 12).toNatClampNeg = 30 * j + 12 := by rw [y_nat]; omega
  have loop : ∀ (d : Nat) (y : Int32) (vals0 : Nat → Int64) (i : Nat), y.toInt = i → i + d = 30 → (∀ k : Nat, k < 30 * j → vals0 k = values0 k) → (∀ k : Nat, k < i → vals0 (30 * j + k) = 0) → ∃ vals : Nat → Int64, (∀ k : Nat, k < 30 * j → vals k = values0 k) ∧ (∀ k : Nat, k < 30 → vals (30 * j + k) = if k = 12 then 1 else 0) ∧ ∀ post : Int32 → Int32 → Int32 → Int32 → Int32 → Int32 → Int32 → (Nat → Int64) → (Nat → Int32) → (Nat → Int64) → Prop, P_M_next size 0 0 mu (fun (r6 : Int32) (u3 : Int32) (u4 : Int32) (u5 : Int32) => ((r6 = 0 → P_M_family_138 size fams mu kinds names post y1 (-1) 0 u3 u4 1 vals) ∧ (¬ r6 = 0 → P_M_letters 97 4 u3 u4 mu (fun (r8 : Int64) => ∃ n9, P_M_family_101 size fams mu kinds names post n9 y1 (-1) r8 0 0 u3 u4 u5 vals)))) → P_M_family_34 size fams mu kinds names post (d + 1) y1 y 0 vals0 := by
    intro d
    induction d with
    | zero =>
      intro y vals i g1 g2 g3 g4
      refine ⟨vp_updL vals (30 * j + 12) 1, fun k hk => ?_, fun k hk => ?_, fun post h => ⟨fun _ => ⟨y_in (by omega) (by omega), ?_⟩, fun hx => ?_⟩⟩
      · rw [y_updL, if_neg (by omega)]
        exact g3 k hk
      · rw [y_updL]
        by_cases e : k = 12
        · rw [if_pos (by omega), if_pos e]
        · rw [if_neg (by omega), if_neg e]
          exact g4 k (by omega)
      · rw [n12]
        exact h
      · rw [y_le] at hx
        omega
    | succ d ih =>
      intro y vals0 i g1 g2 g3 g4
      have hs1 := q_inc (y := y) (n := 30) (by omega) (by omega) (by omega)
      have m2 : (30 * y1 + y).toInt = 30 * j + i := by rw [y_add (by omega) (by omega), m1, g1]
      have n2 : (30 * y1 + y).toNatClampNeg = 30 * j + i := by rw [y_nat]; omega
      obtain ⟨vals, r1, r2, r3⟩ := ih (y + 1) (vp_updL vals0 (30 * j + i) 0) (i + 1) (by omega) (by omega) (fun k hk => by rw [y_updL, if_neg (by omega)]; exact g3 k hk) (fun k hk => by
        rw [y_updL]
        by_cases e : k = i
        · rw [if_pos (by omega)]
        · rw [if_neg (by omega)]
          exact g4 k (by omega))
      refine ⟨vals, r1, r2, fun post h => ⟨fun hx => ?_, fun _ => ⟨y_in (by omega) (by omega), fun x ex => ?_⟩⟩⟩
      · rw [y_le] at hx
        omega
      · subst ex
        rw [n2]
        exact r3 post h
  obtain ⟨vals, r1, r2, r3⟩ := loop 30 0 values0 0 (by decide) (by omega) (fun k _ => rfl) (fun k hk => absurd hk (Nat.not_lt_zero k))
  exact ⟨vals, r1, r2, fun post h => ⟨31, r3 post h⟩⟩
theorem q_relBegin {k j : Nat} (hk : k < 5) {V L : Nat → Int32} {y : Int32} {vals : Nat → Int64} {name : Int64} (hV : ∀ s : Nat, s < 18 → V s = if s = 12 then 1 else 0) (hL : ∀ i : Nat, i < 4 → L i = (zByt.getD (zKind_capitals.getD k 0) []).getD i 0) (hy : y.toInt = k) (hvals : ∀ i : Nat, i < 30 → vals (30 * j + i) = if i = 12 then 1 else 0) (hname : name.toInt = yTc (zKind_word.getD k 0)) : yF1 4 k V L y (fun i => vals (30 * j + i)) name := by
  have e0 : (0 : Int32).toInt = 0 := by decide
  have e1 : (1 : Int32).toInt = 1 := by decide
  have e4 : (4 : Int32).toInt = 4 := by decide
  have f0 : (0 : Int64).toInt = 0 := by decide
  have f1 : (1 : Int64).toInt = 1 := by decide
  obtain ⟨_, ⟨hl1, hl2⟩, ht⟩ := q_kindT k hk
  refine ⟨hk, hy, fun s hs => ?_, fun s hs hs2 => ?_, fun s hs => ?_, ?_, ?_, ?_, ?_, by rw [e4]; omega, by rw [e4]; omega, fun i hi => ?_, ?_⟩
  · show (vals (30 * j + s)).toInt = _
    rw [hvals s (by omega), hV s (by omega), if_neg (by omega), if_neg (by omega), f0, e0]
  · show (vals (30 * j + 3 * (s - 8))).toInt = _
    rw [hvals (3 * (s - 8)) (by omega), hV s (by omega)]
    by_cases e : s = 12
    · rw [if_pos (by omega), if_pos e, f1, e1]
    · rw [if_neg (by omega), if_neg e, f0, e0]
  · rw [hV s hs]
    split
    · rw [e1]; omega
    · rw [e0]; omega
  · rw [hV 12 (by decide), if_pos rfl, e1]
    omega
  · rw [hV 16 (by decide), if_neg (by decide), e0]
    exact Or.inl rfl
  · rw [hV 17 (by decide), if_neg (by decide), e0]
    exact Or.inl rfl
  · rw [hV 17 (by decide), if_neg (by decide), e0]
    rfl
  · rw [e4] at hi
    rw [hL i (by omega)]
    have := ht i (by omega)
    omega
  · have e44 : (4 : Int32).toInt.toNat = 4 := by decide
    rw [hname, e44, q_codeLd, yTc, hl1]
    refine q_ldC _ (fun i hi => ?_)
    rw [hL i hi]
    have := ht i hi
    omega
theorem q_beginE {k : Nat} (hk : k < 5) {V0 L0 : Nat → Int32} : ∃ V L : Nat → Int32, (∀ s : Nat, s < 18 → V s = if s = 12 then 1 else 0) ∧ (∀ i : Nat, i < 4 → L i = (zByt.getD (zKind_capitals.getD k 0) []).getD i 0) ∧ ∀ post : Int32 → Nat → (Nat → Int32) → (Nat → Int32) → Prop, post 4 k V L → P_Fa_begin k V0 L0 post := by
  have e0 : (0 : Int32).toInt = 0 := by decide
  have e4 : (4 : Int32).toInt = 4 := by decide
  have e18 : (18 : Int32).toInt = 18 := by decide
  obtain ⟨⟨_, hw⟩, ⟨_, hl⟩, _⟩ := q_kindT k hk
  have letters : ∀ (d : Nat) (y C : Int32) (V L : Nat → Int32) (i : Nat), y.toInt = i → C.toInt = i → i + d = 4 → (∀ i' : Nat, i' < i → L i' = (zByt.getD (zKind_capitals.getD k 0) []).getD i' 0) → ∃ L' : Nat → Int32, (∀ i' : Nat, i' < 4 → L' i' = (zByt.getD (zKind_capitals.getD k 0) []).getD i' 0) ∧ ∀ post : Int32 → Nat → (Nat → Int32) → (Nat → Int32) → Prop, post 4 k V L' → P_Fa_begin_45 k post (d + 1) y C k V L := by
    intro d
    induction d with
    | zero =>
      intro y C V L i g1 g2 g3 g5
      have hC : C = 4 := by rw [y_eq, e4]; omega
      refine ⟨L, fun i' hi' => g5 i' (by omega), fun post h => ⟨hk, hw, q_length hw ⟨fun _ => ?_, fun hx => ?_⟩⟩⟩
      · rw [hC]
        exact h
      · rw [hl, y_le, zl_n32 (by omega)] at hx
        omega
    | succ d ih =>
      intro y C V L i g1 g2 g3 g5
      have hs1 := q_inc (y := y) (n := 5) (by omega) (by omega) (by omega)
      have hs2 := q_inc (y := C) (n := 5) (by omega) (by omega) (by omega)
      have hyn : y.toInt.toNat = i := by omega
      have hcn : C.toNatClampNeg = i := by rw [y_nat]; omega
      have ht := (q_tabC (zKind_capitals.getD k 0) hw i (by omega)).2
      obtain ⟨L', r1, r2⟩ := ih (y + 1) (C + 1) V (upd L i ((zByt.getD (zKind_capitals.getD k 0) []).getD i 0)) (i + 1) (by omega) (by omega) (by omega) (fun i' hi' => by
        rw [y_upd]
        by_cases e : i' = i
        · rw [if_pos e, e]
        · rw [if_neg e]
          exact g5 i' (by omega))
      refine ⟨L', r1, fun post h => ⟨hk, hw, q_length hw ⟨fun hx => ?_, fun _ => ⟨hk, hw, q_charAt hw (by omega) (by rw [hl]; omega) ?_⟩⟩⟩⟩
      · rw [hl, y_le, zl_n32 (by omega)] at hx
        omega
      · rw [hyn]
        refine ⟨fun hx => ?_, fun _ => ⟨fun hx => ?_, fun _ => ⟨y_in (by omega) (by omega), fun x ex x2 ex2 => ?_⟩⟩⟩
        · rw [y_lt] at hx
          omega
        · rw [y_le] at hx
          omega
        · subst ex ex2
          rw [hcn, ht]
          exact r2 post h
  have zeros : ∀ (d : Nat) (y : Int32) (V : Nat → Int32) (i : Nat), y.toInt = i → i + d = 18 → (∀ s : Nat, s < i → V s = 0) → ∃ V' L' : Nat → Int32, (∀ s : Nat, s < 18 → V' s = if s = 12 then 1 else 0) ∧ (∀ i' : Nat, i' < 4 → L' i' = (zByt.getD (zKind_capitals.getD k 0) []).getD i' 0) ∧ ∀ post : Int32 → Nat → (Nat → Int32) → (Nat → Int32) → Prop, post 4 k V' L' → P_Fa_begin_7 k L0 post (d + 1) y k V := by
    intro d
    induction d with
    | zero =>
      intro y V i g1 g2 g3
      obtain ⟨L', r1, r2⟩ := letters 4 0 0 (upd V 12 1) L0 0 (by decide) (by decide) (by omega) (fun i' hi' => absurd hi' (Nat.not_lt_zero i'))
      refine ⟨upd V 12 1, L', fun s hs => ?_, r1, fun post h => ⟨fun _ => ⟨by decide, fun x ex => ?_⟩, fun hx => ?_⟩⟩
      · rw [y_upd]
        by_cases e : s = 12
        · rw [if_pos e, if_pos e]
        · rw [if_neg e, if_neg e]
          exact g3 s (by omega)
      · have hx : x = 12 := by rw [ex]; decide
        subst hx
        exact ⟨fun hx => absurd hx (by decide), fun _ => ⟨fun hx => absurd hx (by decide), fun _ => ⟨y_in (by decide) (by decide), 5, r2 post h⟩⟩⟩
      · rw [y_le] at hx
        omega
    | succ d ih =>
      intro y V i g1 g2 g3
      have hs1 := q_inc (y := y) (n := 18) (by omega) (by omega) (by omega)
      have hyn : y.toNatClampNeg = i := by rw [y_nat]; omega
      obtain ⟨V', L', r1, r2, r3⟩ := ih (y + 1) (upd V i 0) (i + 1) (by omega) (by omega) (fun s hs => by
        rw [y_upd]
        by_cases e : s = i
        · rw [if_pos e]
        · rw [if_neg e]
          exact g3 s (by omega))
      refine ⟨V', L', r1, r2, fun post h => ⟨fun hx => ?_, fun _ => ⟨y_in (by omega) (by omega), fun x ex => ?_⟩⟩⟩
      · rw [y_le] at hx
        omega
      · subst ex
        rw [hyn]
        exact r3 post h
  obtain ⟨V, L, r1, r2, r3⟩ := zeros 18 0 V0 0 (by decide) (by omega) (fun s hs => absurd hs (Nat.not_lt_zero s))
  exact ⟨V, L, r1, r2, fun post h => ⟨19, r3 post h⟩⟩
/-- a family read by both -/
theorem q_family {size fams : Int32} {un mu : Nat → Int32} {n : Nat} (hn : size.toInt = n) (hn6 : n ≤ 600) (hu : ∀ k : Nat, k < n → un k = mu k ∧ yOk (mu k)) {j K0 : Nat} {y1 C0 : Int32} {V0 L0 kinds : Nat → Int32} {values names : Nat → Int64} (hj : y1.toInt = j) (hj8 : j < 8) : (∃ (t' s' e' p' C' a' bg' w' : Int32) (Kd : Nat) (L' V' kinds' : Nat → Int32) (values' names' : Nat → Int64), yF1 C' Kd V' L' (kinds' j) (fun k => values' (30 * j + k)) (names' j) ∧ yFr j values values' names names' ∧ (∀ f : Nat, f < j → kinds' f = kinds f) ∧ (∀ post : Int32 → Int32 → Int32 → Int32 → Int32 → Int32 → Nat → (Nat → Int32) → (Nat → Int32) → Prop, post (-1) t' s' e' p' C' Kd V' L' → P_FR_read size un C0 K0 V0 L0 post) ∧ (∀ post : Int32 → Int32 → Int32 → Int32 → Int32 → Int32 → Int32 → (Nat → Int64) → (Nat → Int32) → (Nat → Int64) → Prop, (∀ x2 : Int32, x2 = fams + 1 → post y1 0 0 x2 a' bg' w' values' kinds' names') → ∃ n2, P_M_family_34 size fams mu kinds names post n2 y1 0 0 values)) ∨ (∃ (t' s' e' p' C' a' bg' w' : Int32) (Kd : Nat) (L' V' kinds' : Nat → Int32) (values' names' : Nat → Int64), 0 ≤ p'.toInt ∧ p'.toInt ≤ 601 ∧ w'.toInt = p'.toInt + 1 ∧ yFr j values values' names names' ∧ (∀ f : Nat, f < j → kinds' f = kinds f) ∧ (∀ post : Int32 → Int32 → Int32 → Int32 → Int32 → Int32 → Nat → (Nat → Int32) → (Nat → Int32) → Prop, post p' t' s' e' p' C' Kd V' L' → P_FR_read size un C0 K0 V0 L0 post) ∧ (∀ post : Int32 → Int32 → Int32 → Int32 → Int32 → Int32 → Int32 → (Nat → Int64) → (Nat → Int32) → (Nat → Int64) → Prop, post (-w') 0 0 fams a' bg' w' values' kinds' names' → ∃ n2, P_M_family_34 size fams mu kinds names post n2 y1 0 0 values)) := by
  have e0 : (0 : Int32).toInt = 0 := by decide
  have e1 : (1 : Int32).toInt = 1 := by decide
  have em : (-1 : Int32).toInt = -1 := by decide
  have ep : (-1 + 1 : Int32) = 0 := by decide
  have ew : (0 + 1 : Int32) = 1 := by decide
  have hu2 : ∀ k : Nat, k < n → yOk (mu k) := fun k hk => (hu k hk).2
  have vy : vp_in y1 8 := y_in (by omega) (by omega)
  have hyn : y1.toNatClampNeg = j := by rw [y_nat]; omega
  have h138b : ∀ (post : Int32 → Int32 → Int32 → Int32 → Int32 → Int32 → Int32 → (Nat → Int64) → (Nat → Int32) → (Nat → Int64) → Prop) (a' bg' : Int32) (vals : Nat → Int64), post (-1) 0 0 fams a' bg' 1 vals kinds names → P_M_family_138 size fams mu kinds names post y1 (-1) 0 a' bg' 1 vals := fun post a' bg' vals h => ⟨fun _ => ⟨fun _ => ⟨1, q_M173b h⟩, fun hx => absurd rfl hx⟩, fun hx => absurd rfl hx⟩
  obtain ⟨vals, hv1, hv2, hM34⟩ := q_M34 (size := size) (fams := fams) (mu := mu) (kinds := kinds) (names := names) (values0 := values) hj hj8
  have fr0 : yFr j values vals names names := ⟨hv1, fun f _ => rfl⟩
  rcases q_next hn hn6 (fun k hk => (hu k hk).1) (E := 0) (k := 0) (by decide) (by omega) with ⟨s2, e2, a, b, k1, k2, k3, k4, k5, nC, nM⟩ | ⟨s2, e2, nC, nM⟩
  · by_cases hm : ∃ k : Nat, k < 5 ∧ yMatch mu a b (zKind_word.getD k 0)
    · obtain ⟨k, hk, hmk⟩ := hm
      have uniq : ∀ k' : Nat, k' < 5 → yMatch mu a b (zKind_word.getD k' 0) → k' = k := fun k' hk' hm' => by
        have w1 := (q_kindT k' hk').2
        have w2 := (q_kindT k hk).2
        exact q_kindD k' hk' k hk ((q_match1 (fun i hi => (w1.2 i (by omega)).1) hm').2.symm.trans (q_match1 (fun i hi => (w2.2 i (by omega)).1) hmk).2)
      obtain ⟨y, hy⟩ : ∃ y : Int32, y.toInt = k := ⟨Int32.ofNat k, zl_n32 (by omega)⟩
      obtain ⟨c, hc⟩ : ∃ c : Int64, c.toInt = yTc (zKind_word.getD k 0) := by
        have w2 := (q_kindT k hk).2
        have hb := q_ldB (f := fun i => ((zByt.getD (zKind_word.getD k 0) []).getD i 0).toInt - 96) (zLen.getD (zKind_word.getD k 0) 0) (fun i hi => by have := (w2.2 i (by omega)).1; omega)
        have hp := (q_p27 4 (by decide)).2
        rw [w2.1.1] at hb
        exact ⟨Int64.ofInt (yTc (zKind_word.getD k 0)), Int64.toInt_ofInt_of_le (by unfold yTc; rw [w2.1.1]; omega) (by unfold yTc; rw [w2.1.1]; omega)⟩
      obtain ⟨V, L, hV, hL, hbeg⟩ : ∃ V L : Nat → Int32, (∀ s : Nat, s < 18 → V s = if s = 12 then 1 else 0) ∧ (∀ i : Nat, i < 4 → L i = (zByt.getD (zKind_capitals.getD k 0) []).getD i 0) ∧ ∀ post : Int32 → Nat → (Nat → Int32) → (Nat → Int32) → Prop, post 4 k V L → P_Fa_begin k V0 L0 post := q_beginE hk
      have rel0 : yF1 4 k V L (upd kinds j y j) (fun i => vals (30 * j + i)) (vp_updL names j c j) := by
        rw [y_upd, if_pos rfl, y_updL, if_pos rfl]
        exact q_relBegin hk hV hL hy hv2 hc
      have fr1 : yFr j values vals names (vp_updL names j c) := ⟨hv1, fun f hf => by rw [y_updL, if_neg (by omega)]⟩
      have hkf : ∀ f : Nat, f < j → upd kinds j y f = kinds f := fun f hf => by rw [y_upd, if_neg (by omega)]
      have goC : ∀ post : Int32 → Int32 → Int32 → Int32 → Int32 → Int32 → Nat → (Nat → Int32) → (Nat → Int32) → Prop, (∃ m, P_FR_read_40 size un post m 0 0 s2 e2 0 4 k V L) → P_FR_read size un C0 K0 V0 L0 post := fun post h => nC (-1) _ ⟨fun hx => absurd hx (by decide), fun _ => q_Ckind hn6 hu k1 k2 k4 k5 (fun k' hk' hm' => by rw [uniq k' hk' hm']; exact hbeg _ ⟨fun _ => h, fun hx => absurd hx (by decide)⟩) (fun hx => absurd hmk (hx k hk))⟩
      have goM : ∀ post : Int32 → Int32 → Int32 → Int32 → Int32 → Int32 → Int32 → (Nat → Int64) → (Nat → Int32) → (Nat → Int64) → Prop, (∃ m, P_M_family_173 size fams mu post m y1 1 0 0 e2 s2 1 vals (upd kinds j y) (vp_updL names j c)) → ∃ n2, P_M_family_34 size fams mu kinds names post n2 y1 0 0 values := by
        intro post h
        refine hM34 post (nM 0 _ ⟨fun hx => absurd hx (by decide), fun _ => q_Mkind hn6 hu2 k1 k2 k4 k5 (fun k' y' hk' hy' hm' => ?_) (fun hx => absurd hmk (hx k hk))⟩)
        have ek := uniq k' hk' hm'
        have ey : y' = y := by rw [y_eq, hy', hy, ek]
        rw [ey]
        have hne : ¬ y = -1 := by rw [y_eq, hy, em]; omega
        refine ⟨fun hx => absurd hx hne, fun _ => ⟨fun hx => absurd hx (by decide), fun _ => ⟨vy, q_kindName hy hk (fun c2 hc2 => ⟨vy, ?_⟩)⟩⟩⟩
        rw [y_eq6.2 (hc2.trans hc.symm), hyn]
        exact h
      rcases q_read (fams := fams) (kinds := upd kinds j y) (values0 := values) (names0 := names) hn hn6 hu hj hj8 n 0 0 s2 e2 0 1 4 b L V vals (vp_updL names j c) k2 k5 (by omega) (by decide) (by rw [e0]; omega) (by decide) (by decide) (by rw [e0]; omega) (by decide) rel0 fr1 with ⟨t3, s3, e3, p3, C3, a3, bg3, w3, L3, V3, values3, names3, z1, z2, z3, z4⟩ | ⟨t3, s3, e3, p3, C3, a3, bg3, w3, L3, V3, values3, names3, z1, z2, z3, z4, z5, z6⟩
      · left
        exact ⟨t3, s3, e3, p3, C3, a3, bg3, w3, k, L3, V3, upd kinds j y, values3, names3, z1, z2, hkf, fun post h => goC post ⟨_, z3 post h⟩, fun post h => goM post ⟨_, z4 post h⟩⟩
      · right
        exact ⟨t3, s3, e3, p3, C3, a3, bg3, w3, k, L3, V3, upd kinds j y, values3, names3, z1, z2, z3, z4, hkf, fun post h => goC post ⟨_, z5 post h⟩, fun post h => goM post ⟨_, z6 post h⟩⟩
    · have hno : ∀ k : Nat, k < 5 → ¬ yMatch mu a b (zKind_word.getD k 0) := fun k hk h => hm ⟨k, hk, h⟩
      right
      refine ⟨0, s2, e2, 0, C0, e2, s2, 1, K0, L0, V0, kinds, vals, names, by decide, by decide, by decide, fr0, fun f _ => rfl, fun post h => nC (-1) _ ⟨fun hx => absurd hx (by decide), fun _ => q_Ckind hn6 hu k1 k2 k4 k5 (fun k' hk' hm' => absurd hm' (hno k' hk')) (fun _ => ⟨fun hx => absurd rfl hx, fun _ => h⟩)⟩, fun post h => hM34 post (nM 0 _ ⟨fun hx => absurd hx (by decide), fun _ => q_Mkind hn6 hu2 k1 k2 k4 k5 (fun k' y' hk' _ hm' => absurd hm' (hno k' hk')) (fun _ => h138b post _ _ vals h)⟩)⟩
  · right
    exact ⟨0, s2, e2, 0, C0, e2, s2, 1, K0, L0, V0, kinds, vals, names, by decide, by decide, by decide, fr0, fun f _ => rfl, fun post h => nC (-1) _ ⟨fun _ => h, fun hx => absurd rfl hx⟩, fun post h => hM34 post (nM 0 _ ⟨fun _ => h138b post _ _ vals h, fun hx => absurd rfl hx⟩)⟩
