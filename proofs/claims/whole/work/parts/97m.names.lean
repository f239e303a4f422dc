/-- the code of a word in the table -/
def yTc (w : Nat) : Int := yLd (fun i => ((zByt.getD w []).getD i 0).toInt - 96) (zLen.getD w 0)
theorem q_kindT : ∀ k : Nat, k < 5 → (zKind_word.getD k 0 < 34 ∧ zKind_capitals.getD k 0 < 34) ∧ (zLen.getD (zKind_word.getD k 0) 0 = 4 ∧ zLen.getD (zKind_capitals.getD k 0) 0 = 4) ∧ ∀ i : Nat, i < 4 → (97 ≤ ((zByt.getD (zKind_word.getD k 0) []).getD i 0).toInt ∧ ((zByt.getD (zKind_word.getD k 0) []).getD i 0).toInt ≤ 122) ∧ ((zByt.getD (zKind_capitals.getD k 0) []).getD i 0).toInt = ((zByt.getD (zKind_word.getD k 0) []).getD i 0).toInt - 32 := by decide +kernel
theorem q_keyT : ∀ k : Nat, k < 11 → zKey_word.getD k 0 < 34 ∧ (1 ≤ zLen.getD (zKey_word.getD k 0) 0 ∧ zLen.getD (zKey_word.getD k 0) 0 ≤ 5) ∧ ∀ i : Nat, i < zLen.getD (zKey_word.getD k 0) 0 → (97 ≤ ((zByt.getD (zKey_word.getD k 0) []).getD i 0).toInt ∧ ((zByt.getD (zKey_word.getD k 0) []).getD i 0).toInt ≤ 122) := by decide +kernel
theorem q_kindD : ∀ k : Nat, k < 5 → ∀ k' : Nat, k' < 5 → yTc (zKind_word.getD k 0) = yTc (zKind_word.getD k' 0) → k = k' := by decide +kernel
theorem q_keyD : ∀ k : Nat, k < 11 → ∀ k' : Nat, k' < 11 → yTc (zKey_word.getD k 0) = yTc (zKey_word.getD k' 0) → k = k' := by decide +kernel
theorem q_kindP : ∀ k : Nat, k < 5 → 1 ≤ yTc (zKind_word.getD k 0) := by decide +kernel
theorem q_keyP : ∀ k : Nat, k < 11 → 1 ≤ yTc (zKey_word.getD k 0) := by decide +kernel
theorem q_match1 {mu : Nat → Int32} {a b w : Nat} (hw : ∀ i : Nat, i < zLen.getD w 0 → (97 ≤ ((zByt.getD w []).getD i 0).toInt ∧ ((zByt.getD w []).getD i 0).toInt ≤ 122)) (h : yMatch mu a b w) : yAlpha mu a b 97 ∧ yLd (fun i => (mu (a + i)).toInt - 97 + 1) (b - a) = yTc w := by
  refine ⟨fun i hi => ?_, ?_⟩
  · have h1 := h.2 i (by have := h.1; omega)
    have h2 := hw i (by have := h.1; omega)
    rw [h1]
    omega
  · unfold yTc
    rw [h.1]
    refine q_ldC _ (fun i hi => ?_)
    rw [h.2 i hi]
    omega
theorem q_match2 {mu : Nat → Int32} {a b w : Nat} (hw : ∀ i : Nat, i < zLen.getD w 0 → (97 ≤ ((zByt.getD w []).getD i 0).toInt ∧ ((zByt.getD w []).getD i 0).toInt ≤ 122)) (ha : yAlpha mu a b 97) (h : yLd (fun i => (mu (a + i)).toInt - 97 + 1) (b - a) = yTc w) : yMatch mu a b w := by
  obtain ⟨h1, h2⟩ := q_ldI (b - a) (zLen.getD w 0) (fun i hi => ha i (by omega)) (fun i hi => by have := hw i hi; omega) h
  refine ⟨h1, fun i hi => ?_⟩
  have := h2 i (by omega)
  rw [y_eq]
  omega
theorem q_kindName {k32 : Int32} {k : Nat} (hk : k32.toInt = k) (hk5 : k < 5) {post : Int64 → Prop} (h : ∀ c : Int64, c.toInt = yTc (zKind_word.getD k 0) → post c) : P_M_kindName k32 post := by
  have hkk : k = 0 ∨ k = 1 ∨ k = 2 ∨ k = 3 ∨ k = 4 := by omega
  rcases hkk with rfl | rfl | rfl | rfl | rfl
  · have e : k32 = 0 := by rw [y_eq, hk]; decide
    subst e
    refine ⟨fun _ x1 e1 => ?_, fun hx => absurd rfl hx⟩
    subst e1
    refine ⟨fun hx => ⟨fun hy => ?_, fun hy => ?_⟩, fun hx => ⟨fun hy => ?_, fun hy => ?_⟩⟩ <;> first | exact absurd hx (by decide) | exact absurd hy (by decide) | exact h _ (by decide)
  · have e : k32 = 1 := by rw [y_eq, hk]; decide
    subst e
    refine ⟨fun hx => absurd hx (by decide), fun _ => ⟨fun _ x1 e1 => ?_, fun hx => absurd rfl hx⟩⟩
    subst e1
    refine ⟨fun hx => ⟨fun hy => ?_, fun hy => ?_⟩, fun hx => ⟨fun hy => ?_, fun hy => ?_⟩⟩ <;> first | exact absurd hx (by decide) | exact absurd hy (by decide) | exact h _ (by decide)
  · have e : k32 = 2 := by rw [y_eq, hk]; decide
    subst e
    refine ⟨fun hx => absurd hx (by decide), fun _ => ⟨fun hx => absurd hx (by decide), fun _ => ⟨fun _ x1 e1 => ?_, fun hx => absurd rfl hx⟩⟩⟩
    subst e1
    refine ⟨fun hx => ⟨fun hy => ?_, fun hy => ?_⟩, fun hx => ⟨fun hy => ?_, fun hy => ?_⟩⟩ <;> first | exact absurd hx (by decide) | exact absurd hy (by decide) | exact h _ (by decide)
  · have e : k32 = 3 := by rw [y_eq, hk]; decide
    subst e
    refine ⟨fun hx => absurd hx (by decide), fun _ => ⟨fun hx => absurd hx (by decide), fun _ => ⟨fun hx => absurd hx (by decide), fun _ => ⟨fun _ x1 e1 => ?_, fun hx => absurd rfl hx⟩⟩⟩⟩
    subst e1
    refine ⟨fun hx => ⟨fun hy => ?_, fun hy => ?_⟩, fun hx => ⟨fun hy => ?_, fun hy => ?_⟩⟩ <;> first | exact absurd hx (by decide) | exact absurd hy (by decide) | exact h _ (by decide)
  · have e : k32 = 4 := by rw [y_eq, hk]; decide
    subst e
    refine ⟨fun hx => absurd hx (by decide), fun _ => ⟨fun hx => absurd hx (by decide), fun _ => ⟨fun hx => absurd hx (by decide), fun _ => ⟨fun hx => absurd hx (by decide), fun _ x1 e1 => ?_⟩⟩⟩⟩
    subst e1
    refine ⟨fun hx => ⟨fun hy => ?_, fun hy => ?_⟩, fun hx => ⟨fun hy => ?_, fun hy => ?_⟩⟩ <;> first | exact absurd hx (by decide) | exact absurd hy (by decide) | exact h _ (by decide)
theorem q_keyName {k32 : Int32} {k : Nat} (hk : k32.toInt = k) (hk11 : k < 11) {post : Int64 → Prop} (h : ∀ c : Int64, c.toInt = yTc (zKey_word.getD k 0) → post c) : P_M_keyName k32 post := by
  have hkk : k = 0 ∨ k = 1 ∨ k = 2 ∨ k = 3 ∨ k = 4 ∨ k = 5 ∨ k = 6 ∨ k = 7 ∨ k = 8 ∨ k = 9 ∨ k = 10 := by omega
  rcases hkk with rfl | rfl | rfl | rfl | rfl | rfl | rfl | rfl | rfl | rfl | rfl
  · have e : k32 = 0 := by rw [y_eq, hk]; decide
    subst e
    refine ⟨fun _ x1 e1 => ?_, fun hx => absurd rfl hx⟩
    subst e1
    refine ⟨fun hx => ⟨fun hy => ?_, fun hy => ?_⟩, fun hx => ⟨fun hy => ?_, fun hy => ?_⟩⟩ <;> first | exact absurd hx (by decide) | exact absurd hy (by decide) | exact h _ (by decide)
  · have e : k32 = 1 := by rw [y_eq, hk]; decide
    subst e
    refine ⟨fun hx => absurd hx (by decide), fun _ => ⟨fun _ x1 e1 => ?_, fun hx => absurd rfl hx⟩⟩
    subst e1
    refine ⟨fun hx => ⟨fun hy => ?_, fun hy => ?_⟩, fun hx => ⟨fun hy => ?_, fun hy => ?_⟩⟩ <;> first | exact absurd hx (by decide) | exact absurd hy (by decide) | exact h _ (by decide)
  · have e : k32 = 2 := by rw [y_eq, hk]; decide
    subst e
    refine ⟨fun hx => absurd hx (by decide), fun _ => ⟨fun hx => absurd hx (by decide), fun _ => ⟨fun _ x1 e1 => ?_, fun hx => absurd rfl hx⟩⟩⟩
    subst e1
    refine ⟨fun hx => ⟨fun hy => ?_, fun hy => ?_⟩, fun hx => ⟨fun hy => ?_, fun hy => ?_⟩⟩ <;> first | exact absurd hx (by decide) | exact absurd hy (by decide) | exact h _ (by decide)
  · have e : k32 = 3 := by rw [y_eq, hk]; decide
    subst e
    refine ⟨fun hx => absurd hx (by decide), fun _ => ⟨fun hx => absurd hx (by decide), fun _ => ⟨fun hx => absurd hx (by decide), fun _ => ⟨fun _ x1 e1 => ?_, fun hx => absurd rfl hx⟩⟩⟩⟩
    subst e1
    refine ⟨fun hx => ⟨fun hy => ?_, fun hy => ?_⟩, fun hx => ⟨fun hy => ?_, fun hy => ?_⟩⟩ <;> first | exact absurd hx (by decide) | exact absurd hy (by decide) | exact h _ (by decide)
  · have e : k32 = 4 := by rw [y_eq, hk]; decide
    subst e
    refine ⟨fun hx => absurd hx (by decide), fun _ => ⟨fun hx => absurd hx (by decide), fun _ => ⟨fun hx => absurd hx (by decide), fun _ => ⟨fun hx => absurd hx (by decide), fun _ => ⟨fun _ x1 e1 => ?_, fun hx => absurd rfl hx⟩⟩⟩⟩⟩
    subst e1
    refine ⟨fun hx => ⟨fun hy => ?_, fun hy => ?_⟩, fun hx => ⟨fun hy => ?_, fun hy => ?_⟩⟩ <;> first | exact absurd hx (by decide) | exact absurd hy (by decide) | exact h _ (by decide)
  · have e : k32 = 5 := by rw [y_eq, hk]; decide
    subst e
    refine ⟨fun hx => absurd hx (by decide), fun _ => ⟨fun hx => absurd hx (by decide), fun _ => ⟨fun hx => absurd hx (by decide), fun _ => ⟨fun hx => absurd hx (by decide), fun _ => ⟨fun hx => absurd hx (by decide), fun _ => ⟨fun _ x1 e1 => ?_, fun hx => absurd rfl hx⟩⟩⟩⟩⟩⟩
    subst e1
    refine ⟨fun hx => ⟨fun hy => ?_, fun hy => ?_⟩, fun hx => ⟨fun hy => ?_, fun hy => ?_⟩⟩ <;> first | exact absurd hx (by decide) | exact absurd hy (by decide) | exact h _ (by decide)
  · have e : k32 = 6 := by rw [y_eq, hk]; decide
    subst e
    refine ⟨fun hx => absurd hx (by decide), fun _ => ⟨fun hx => absurd hx (by decide), fun _ => ⟨fun hx => absurd hx (by decide), fun _ => ⟨fun hx => absurd hx (by decide), fun _ => ⟨fun hx => absurd hx (by decide), fun _ => ⟨fun hx => absurd hx (by decide), fun _ => ⟨fun _ x1 e1 => ?_, fun hx => absurd rfl hx⟩⟩⟩⟩⟩⟩⟩
    subst e1
    refine ⟨fun hx => ⟨fun hy => ?_, fun hy => ?_⟩, fun hx => ⟨fun hy => ?_, fun hy => ?_⟩⟩ <;> first | exact absurd hx (by decide) | exact absurd hy (by decide) | exact h _ (by decide)
  · have e : k32 = 7 := by rw [y_eq, hk]; decide
    subst e
    refine ⟨fun hx => absurd hx (by decide), fun _ => ⟨fun hx => absurd hx (by decide), fun _ => ⟨fun hx => absurd hx (by decide), fun _ => ⟨fun hx => absurd hx (by decide), fun _ => ⟨fun hx => absurd hx (by decide), fun _ => ⟨fun hx => absurd hx (by decide), fun _ => ⟨fun hx => absurd hx (by decide), fun _ => ⟨fun _ x1 e1 => ?_, fun hx => absurd rfl hx⟩⟩⟩⟩⟩⟩⟩⟩
    subst e1
    refine ⟨fun hx => ⟨fun hy => ?_, fun hy => ?_⟩, fun hx => ⟨fun hy => ?_, fun hy => ?_⟩⟩ <;> first | exact absurd hx (by decide) | exact absurd hy (by decide) | exact h _ (by decide)
  · have e : k32 = 8 := by rw [y_eq, hk]; decide
    subst e
    refine ⟨fun hx => absurd hx (by decide), fun _ => ⟨fun hx => absurd hx (by decide), fun _ => ⟨fun hx => absurd hx (by decide), fun _ => ⟨fun hx => absurd hx (by decide), fun _ => ⟨fun hx => absurd hx (by decide), fun _ => ⟨fun hx => absurd hx (by decide), fun _ => ⟨fun hx => absurd hx (by decide), fun _ => ⟨fun hx => absurd hx (by decide), fun _ => ⟨fun _ x1 e1 => ?_, fun hx => absurd rfl hx⟩⟩⟩⟩⟩⟩⟩⟩⟩
    subst e1
    refine ⟨fun hx => ⟨fun hy => ?_, fun hy => ?_⟩, fun hx => ⟨fun hy => ?_, fun hy => ?_⟩⟩ <;> first | exact absurd hx (by decide) | exact absurd hy (by decide) | exact h _ (by decide)
  · have e : k32 = 9 := by rw [y_eq, hk]; decide
    subst e
    refine ⟨fun hx => absurd hx (by decide), fun _ => ⟨fun hx => absurd hx (by decide), fun _ => ⟨fun hx => absurd hx (by decide), fun _ => ⟨fun hx => absurd hx (by decide), fun _ => ⟨fun hx => absurd hx (by decide), fun _ => ⟨fun hx => absurd hx (by decide), fun _ => ⟨fun hx => absurd hx (by decide), fun _ => ⟨fun hx => absurd hx (by decide), fun _ => ⟨fun hx => absurd hx (by decide), fun _ => ⟨fun _ x1 e1 => ?_, fun hx => absurd rfl hx⟩⟩⟩⟩⟩⟩⟩⟩⟩⟩
    subst e1
    refine ⟨fun hx => ⟨fun hy => ?_, fun hy => ?_⟩, fun hx => ⟨fun hy => ?_, fun hy => ?_⟩⟩ <;> first | exact absurd hx (by decide) | exact absurd hy (by decide) | exact h _ (by decide)
  · have e : k32 = 10 := by rw [y_eq, hk]; decide
    subst e
    refine ⟨fun hx => absurd hx (by decide), fun _ => ⟨fun hx => absurd hx (by decide), fun _ => ⟨fun hx => absurd hx (by decide), fun _ => ⟨fun hx => absurd hx (by decide), fun _ => ⟨fun hx => absurd hx (by decide), fun _ => ⟨fun hx => absurd hx (by decide), fun _ => ⟨fun hx => absurd hx (by decide), fun _ => ⟨fun hx => absurd hx (by decide), fun _ => ⟨fun hx => absurd hx (by decide), fun _ => ⟨fun hx => absurd hx (by decide), fun _ x1 e1 => ?_⟩⟩⟩⟩⟩⟩⟩⟩⟩⟩
    subst e1
    refine ⟨fun hx => ⟨fun hy => ?_, fun hy => ?_⟩, fun hx => ⟨fun hy => ?_, fun hy => ?_⟩⟩ <;> first | exact absurd hx (by decide) | exact absurd hy (by decide) | exact h _ (by decide)
theorem q_Ckind {un mu : Nat → Int32} {n : Nat} (hn6 : n ≤ 600) (hu : ∀ k : Nat, k < n → un k = mu k ∧ yOk (mu k)) {s e : Int32} {a b : Nat} (hs : s.toInt = a) (he : e.toInt = b) (hab : a < b) (hb : b ≤ n) {C0 : Int32} {K0 : Nat} {V0 L0 : Nat → Int32} {post : Int32 → Int32 → Nat → (Nat → Int32) → (Nat → Int32) → Prop} (h1 : ∀ k : Nat, k < 5 → yMatch mu a b (zKind_word.getD k 0) → P_Fa_begin k V0 L0 (fun u8 u9 u10 u11 => post 1 u8 u9 u10 u11)) (h0 : (∀ k : Nat, k < 5 → ¬ yMatch mu a b (zKind_word.getD k 0)) → post 0 C0 K0 V0 L0) : P_FR_readKind s e un C0 K0 V0 L0 post := by
  have e5 : (5 : Int32).toInt = 5 := by decide
  refine ⟨6, ?_⟩
  have loop : ∀ (d : Nat) (y : Int32) (i : Nat), y.toInt = i → i + d = 5 → (∀ k : Nat, k < i → ¬ yMatch mu a b (zKind_word.getD k 0)) → P_FR_readKind_2 s e un C0 K0 V0 L0 post (d + 1) y := by
    intro d
    induction d with
    | zero =>
      intro y i g1 g2 g3
      refine ⟨fun _ => h0 (fun k hk => g3 k (by omega)), fun hx => ?_⟩
      rw [y_le] at hx
      omega
    | succ d ih =>
      intro y i g1 g2 g3
      have hyn : y.toNatClampNeg = i := by rw [y_nat]; omega
      have hs1 := q_inc (y := y) (n := 5) (by omega) (by omega) (by omega)
      have hv : vp_in y 5 := y_in (by omega) (by omega)
      refine ⟨fun hx => ?_, fun _ => ⟨hv, by omega, ?_⟩⟩
      · rw [y_le] at hx
        omega
      rw [hyn]
      refine q_are hn6 hu hs he hab hb (q_kindT i (by omega)).1.1 (fun hm => ⟨fun hx => absurd hx (by decide), fun _ => ⟨hv, h1 i (by omega) hm⟩⟩) (fun hm => ⟨fun _ x ex => ?_, fun hx => absurd rfl hx⟩)
      subst ex
      refine ih (y + 1) (i + 1) (by omega) (by omega) (fun k hk => ?_)
      by_cases ek : k = i
      · rw [ek]
        exact hm
      · exact g3 k (by omega)
  exact loop 5 0 0 (by decide) (by omega) (fun k hk => absurd hk (Nat.not_lt_zero k))
theorem q_Ckey {un mu : Nat → Int32} {n : Nat} (hn6 : n ≤ 600) (hu : ∀ k : Nat, k < n → un k = mu k ∧ yOk (mu k)) {s e : Int32} {a b : Nat} (hs : s.toInt = a) (he : e.toInt = b) (hab : a < b) (hb : b ≤ n) {t len p C : Int32} {L V : Nat → Int32} {post : Int32 → Int32 → Int32 → Int32 → Int32 → Int32 → (Nat → Int32) → (Nat → Int32) → Prop} (h1 : ∀ (k : Nat) (y : Int32), k < 11 → y.toInt = k → yMatch mu a b (zKey_word.getD k 0) → ((t &&& (1 <<< (y &&& 31))) = 0 → P_FR_readKey_44 t len s e p un C L V post y 0) ∧ (¬ (t &&& (1 <<< (y &&& 31))) = 0 → P_FR_readKey_44 t len s e p un C L V post y 1)) (h0 : (∀ k : Nat, k < 11 → ¬ yMatch mu a b (zKey_word.getD k 0)) → post 0 t s e p C L V) : P_FR_readKey t len s e p un C L V post := by
  have e11 : (11 : Int32).toInt = 11 := by decide
  refine ⟨12, ?_⟩
  have loop : ∀ (d : Nat) (y : Int32) (i : Nat), y.toInt = i → i + d = 11 → (∀ k : Nat, k < i → ¬ yMatch mu a b (zKey_word.getD k 0)) → P_FR_readKey_2 t len s e p un C L V post (d + 1) y := by
    intro d
    induction d with
    | zero =>
      intro y i g1 g2 g3
      refine ⟨fun _ => h0 (fun k hk => g3 k (by omega)), fun hx => ?_⟩
      rw [y_le] at hx
      omega
    | succ d ih =>
      intro y i g1 g2 g3
      have hyn : y.toNatClampNeg = i := by rw [y_nat]; omega
      have hs1 := q_inc (y := y) (n := 11) (by omega) (by omega) (by omega)
      have hv : vp_in y 11 := y_in (by omega) (by omega)
      refine ⟨fun hx => ?_, fun _ => ⟨hv, by omega, ?_⟩⟩
      · rw [y_le] at hx
        omega
      rw [hyn]
      refine q_are hn6 hu hs he hab hb (q_keyT i (by omega)).1 (fun hm => ⟨fun hx => absurd hx (by decide), fun _ => h1 i y (by omega) g1 hm⟩) (fun hm => ⟨fun _ x ex => ?_, fun hx => absurd rfl hx⟩)
      subst ex
      refine ih (y + 1) (i + 1) (by omega) (by omega) (fun k hk => ?_)
      by_cases ek : k = i
      · rw [ek]
        exact hm
      · exact g3 k (by omega)
  exact loop 11 0 0 (by decide) (by omega) (fun k hk => absurd hk (Nat.not_lt_zero k))
theorem q_Mkind {mu : Nat → Int32} {n : Nat} (hn6 : n ≤ 600) (hu : ∀ k : Nat, k < n → yOk (mu k)) {s e : Int32} {a b : Nat} (hs : s.toInt = a) (he : e.toInt = b) (hab : a < b) (hb : b ≤ n) {size fams y1 t0 w : Int32} {kinds : Nat → Int32} {names vals : Nat → Int64} {post : Int32 → Int32 → Int32 → Int32 → Int32 → Int32 → Int32 → (Nat → Int64) → (Nat → Int32) → (Nat → Int64) → Prop} (h1 : ∀ (k : Nat) (y : Int32), k < 5 → y.toInt = k → yMatch mu a b (zKind_word.getD k 0) → P_M_family_138 size fams mu kinds names post y1 y t0 e s w vals) (h0 : (∀ k : Nat, k < 5 → ¬ yMatch mu a b (zKind_word.getD k 0)) → P_M_family_138 size fams mu kinds names post y1 (-1) t0 e s w vals) : P_M_letters 97 4 e s mu (fun r8 => ∃ n9, P_M_family_101 size fams mu kinds names post n9 y1 (-1) r8 0 t0 e s w vals) := by
  have e5 : (5 : Int32).toInt = 5 := by decide
  have e97 : (97 : Int32).toInt = 97 := by decide
  have e4 : (4 : Int32).toInt = 4 := by decide
  have fm : (-1 : Int64).toInt = -1 := by decide
  have key : ∀ c : Int64, (∀ k : Nat, k < 5 → (c.toInt = yTc (zKind_word.getD k 0) ↔ yMatch mu a b (zKind_word.getD k 0))) → ∃ n9, P_M_family_101 size fams mu kinds names post n9 y1 (-1) c 0 t0 e s w vals := by
    intro c hc
    refine ⟨6, ?_⟩
    have loop : ∀ (d : Nat) (y2 y5 : Int32) (i : Nat), y5.toInt = i → i + d = 5 → (y2 = -1 ∧ (∀ k : Nat, k < i → ¬ yMatch mu a b (zKind_word.getD k 0)) ∨ ∃ k : Nat, k < i ∧ y2.toInt = k ∧ yMatch mu a b (zKind_word.getD k 0)) → P_M_family_101 size fams mu kinds names post (d + 1) y1 y2 c y5 t0 e s w vals := by
      intro d
      induction d with
      | zero =>
        intro y2 y5 i g1 g2 g3
        refine ⟨fun _ => ?_, fun hx => ?_⟩
        · rcases g3 with ⟨g3, g4⟩ | ⟨k, g3, g4, g5⟩
          · rw [g3]
            exact h0 (fun k hk => g4 k (by omega))
          · exact h1 k y2 (by omega) g4 g5
        · rw [y_le] at hx
          omega
      | succ d ih =>
        intro y2 y5 i g1 g2 g3
        have hs1 := q_inc (y := y5) (n := 5) (by omega) (by omega) (by omega)
        refine ⟨fun hx => ?_, fun _ => q_kindName g1 (by omega) (fun c2 hc2 => ⟨fun hne x ex => ?_, fun heq x ex => ?_⟩)⟩
        · rw [y_le] at hx
          omega
        · subst ex
          have hnm : ¬ yMatch mu a b (zKind_word.getD i 0) := fun hm => hne (by rw [y_eq6, hc2]; exact ((hc i (by omega)).2 hm).symm)
          refine ih y2 (y5 + 1) (i + 1) (by omega) (by omega) ?_
          rcases g3 with ⟨g3, g4⟩ | ⟨k, g3, g4, g5⟩
          · left
            refine ⟨g3, fun k hk => ?_⟩
            by_cases ek : k = i
            · rw [ek]
              exact hnm
            · exact g4 k (by omega)
          · exact Or.inr ⟨k, by omega, g4, g5⟩
        · subst ex
          refine ih y5 (y5 + 1) (i + 1) (by omega) (by omega) (Or.inr ⟨i, by omega, g1, (hc i (by omega)).1 ?_⟩)
          rw [← heq, hc2]
    exact loop 5 (-1) 0 0 (by decide) (by omega) (Or.inl ⟨rfl, fun k hk => absurd hk (Nat.not_lt_zero k)⟩)
  refine q_letters hn6 hu hs he hab hb (by rw [e97]; omega) (by rw [e4]; omega) (fun ha hle c hc => key c (fun k hk => ?_)) (fun hx => key (-1) (fun k hk => ?_))
  · have hw := (q_kindT k hk).2
    rw [e97] at ha hc
    rw [hc]
    exact ⟨fun h => q_match2 (fun i hi => (hw.2 i (by omega)).1) ha h, fun h => (q_match1 (fun i hi => (hw.2 i (by omega)).1) h).2⟩
  · have hw := (q_kindT k hk).2
    have hp := q_kindP k hk
    refine ⟨fun h => by rw [fm] at h; omega, fun h => absurd ⟨?_, ?_⟩ hx⟩
    · rw [e97]
      exact (q_match1 (fun i hi => (hw.2 i (by omega)).1) h).1
    · rw [e4, h.1]
      omega
theorem q_Mkey {mu : Nat → Int32} {n : Nat} (hn6 : n ≤ 600) (hu : ∀ k : Nat, k < n → yOk (mu k)) {s e : Int32} {a b : Nat} (hs : s.toInt = a) (he : e.toInt = b) (hab : a < b) (hb : b ≤ n) {size y1 y4 t0 w : Int32} {kinds : Nat → Int32} {names vals : Nat → Int64} {post : Int32 → Int32 → Int32 → Int32 → Int32 → Int32 → Int32 → (Nat → Int64) → (Nat → Int32) → (Nat → Int64) → Prop} {K173 : Int32 → Int32 → Int32 → Int32 → Int32 → Int32 → Int32 → (Nat → Int64) → (Nat → Int32) → (Nat → Int64) → Prop} (h1 : ∀ (k : Nat) (y7 : Int32), k < 11 → y7.toInt = k → yMatch mu a b (zKey_word.getD k 0) → ((¬ ((y4 >>> (y7 &&& 31)) &&& 1) = 0 → P_M_family_252 size mu post K173 y1 y4 y7 t0 e s w vals kinds names) ∧ (((y4 >>> (y7 &&& 31)) &&& 1) = 0 → P_M_family_253 size mu post K173 y1 y4 y7 1 t0 e s w vals kinds names))) (h0 : (∀ k : Nat, k < 11 → ¬ yMatch mu a b (zKey_word.getD k 0)) → P_M_family_252 size mu post K173 y1 y4 (-1) t0 e s w vals kinds names) : P_M_letters 97 5 e s mu (fun r7 => ∃ n8, P_M_family_199 size mu post K173 n8 y1 y4 r7 (-1) 0 t0 e s w vals kinds names) := by
  have e10 : (10 : Int32).toInt = 10 := by decide
  have e97 : (97 : Int32).toInt = 97 := by decide
  have e5 : (5 : Int32).toInt = 5 := by decide
  have em : (-1 : Int32).toInt = -1 := by decide
  have fm : (-1 : Int64).toInt = -1 := by decide
  have key : ∀ c : Int64, (∀ k : Nat, k < 11 → (c.toInt = yTc (zKey_word.getD k 0) ↔ yMatch mu a b (zKey_word.getD k 0))) → ∃ n8, P_M_family_199 size mu post K173 n8 y1 y4 c (-1) 0 t0 e s w vals kinds names := by
    intro c hc
    refine ⟨12, ?_⟩
    have loop : ∀ (d : Nat) (y7 y8 : Int32) (i : Nat), y8.toInt = i → i + d = 11 → (y7 = -1 ∧ (∀ k : Nat, k < i → ¬ yMatch mu a b (zKey_word.getD k 0)) ∨ ∃ k : Nat, k < i ∧ y7.toInt = k ∧ yMatch mu a b (zKey_word.getD k 0)) → P_M_family_199 size mu post K173 (d + 1) y1 y4 c y7 y8 t0 e s w vals kinds names := by
      intro d
      induction d with
      | zero =>
        intro y7 y8 i g1 g2 g3
        refine ⟨fun _ => ⟨fun hx => ?_, fun hx => ?_⟩, fun hx => ?_⟩
        · rcases g3 with ⟨g3, g4⟩ | ⟨k, g3, g4, g5⟩
          · rw [g3]
            exact h0 (fun k hk => g4 k (by omega))
          · rw [y_eq, em] at hx
            omega
        · rcases g3 with ⟨g3, g4⟩ | ⟨k, g3, g4, g5⟩
          · exact absurd g3 hx
          · exact h1 k y7 (by omega) g4 g5
        · rw [y_lt] at hx
          omega
      | succ d ih =>
        intro y7 y8 i g1 g2 g3
        have hs1 := q_inc (y := y8) (n := 11) (by omega) (by omega) (by omega)
        refine ⟨fun hx => ?_, fun _ => q_keyName g1 (by omega) (fun c2 hc2 => ⟨fun hne x ex => ?_, fun heq x ex => ?_⟩)⟩
        · rw [y_lt] at hx
          omega
        · subst ex
          have hnm : ¬ yMatch mu a b (zKey_word.getD i 0) := fun hm => hne (by rw [y_eq6, hc2]; exact ((hc i (by omega)).2 hm).symm)
          refine ih y7 (y8 + 1) (i + 1) (by omega) (by omega) ?_
          rcases g3 with ⟨g3, g4⟩ | ⟨k, g3, g4, g5⟩
          · left
            refine ⟨g3, fun k hk => ?_⟩
            by_cases ek : k = i
            · rw [ek]
              exact hnm
            · exact g4 k (by omega)
          · exact Or.inr ⟨k, by omega, g4, g5⟩
        · subst ex
          refine ih y8 (y8 + 1) (i + 1) (by omega) (by omega) (Or.inr ⟨i, by omega, g1, (hc i (by omega)).1 ?_⟩)
          rw [← heq, hc2]
    exact loop 11 (-1) 0 0 (by decide) (by omega) (Or.inl ⟨rfl, fun k hk => absurd hk (Nat.not_lt_zero k)⟩)
  refine q_letters hn6 hu hs he hab hb (by rw [e97]; omega) (by rw [e5]; omega) (fun ha hle c hc => key c (fun k hk => ?_)) (fun hx => key (-1) (fun k hk => ?_))
  · have hw := (q_keyT k hk).2
    rw [e97] at ha hc
    rw [hc]
    exact ⟨fun h => q_match2 hw.2 ha h, fun h => (q_match1 hw.2 h).2⟩
  · have hw := (q_keyT k hk).2
    have hp := q_keyP k hk
    refine ⟨fun h => by rw [fm] at h; omega, fun h => absurd ⟨?_, ?_⟩ hx⟩
    · rw [e97]
      exact (q_match1 hw.2 h).1
    · rw [e5, h.1]
      omega
