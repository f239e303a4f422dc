/-- a break between words -/
def yGap (u : Nat → Int32) (k : Nat) : Prop := u k = 32 ∨ u k = 10
theorem q_break {c : Int32} {post : Int32 → Prop} (h1 : c = 32 ∨ c = 10 → post 1) (h0 : ¬ (c = 32 ∨ c = 10) → post 0) : P_Wo_isBreak c post := by
  refine ⟨fun hx => h1 (Or.inl hx), fun hx => ⟨fun hy => h0 (fun hz => hz.elim hx hy), fun hy => h1 (Or.inr hy)⟩⟩
theorem q_isGap {p : Int32} {u : Nat → Int32} {k : Nat} (hp : p.toInt = k) (hk : k < 600) {post : Int32 → Prop} (h1 : yGap u k → post 1) (h0 : ¬ yGap u k → post 0) : P_M_isGap p u post := by
  have hn : p.toNatClampNeg = k := by rw [y_nat]; omega
  have hv : vp_in p 600 := y_in (by omega) (by omega)
  refine ⟨hv, ?_⟩
  rw [hn]
  exact ⟨fun hx => h1 (Or.inl hx), fun hx => ⟨hv, fun hy => h0 (fun hz => hz.elim hx hy), fun hy => h1 (Or.inr hy)⟩⟩
theorem q_skip {size : Int32} {un mu : Nat → Int32} {n : Nat} (hn : size.toInt = n) (hn6 : n ≤ 600) (hu : ∀ k : Nat, k < n → un k = mu k) : ∀ (d : Nat) (st : Int32) (k : Nat), st.toInt = k → k + d = n → ∃ (s : Int32) (a : Nat), s.toInt = a ∧ k ≤ a ∧ a ≤ n ∧ (a = n ∨ ¬ yGap mu a) ∧ (∀ (p : Int32) (post : Int32 → Int32 → Int32 → Int32 → Prop), P_Wo_next_64 size p un post s → P_Wo_next_8 size p un post (d + 1) st) ∧ (∀ (w : Int32) (post : Int32 → Int32 → Int32 → Int32 → Prop), P_M_next_35 size w mu post s → P_M_next_0 size w mu post (d + 1) st) := by
  have e0 : (0 : Int32).toInt = 0 := by decide
  have e600 : (600 : Int32).toInt = 600 := by decide
  intro d
  induction d with
  | zero =>
    intro st k h1 h2
    have hle : size ≤ st := by rw [y_le]; omega
    have h0 : ¬ st < 0 := by rw [y_lt]; omega
    exact ⟨st, k, h1, Nat.le_refl _, by omega, Or.inl (by omega), fun p post h => ⟨fun hx => absurd hx h0, fun _ => ⟨fun _ => h, fun hx => absurd hle hx⟩⟩, fun w post h => ⟨fun _ => h, fun hx => absurd hle hx⟩⟩
  | succ d ih =>
    intro st k h1 h2
    have hle : ¬ size ≤ st := by rw [y_le]; omega
    have h0 : ¬ st < 0 := by rw [y_lt]; omega
    have h6 : ¬ 600 ≤ st := by rw [y_le]; omega
    have hv : vp_in st 600 := y_in (by omega) (by omega)
    have hstn : st.toNatClampNeg = k := by rw [y_nat]; omega
    have hs := q_inc (y := st) (n := 600) (by omega) (by omega) (by omega)
    by_cases hg : yGap mu k
    · obtain ⟨s, a, g1, g2, g3, g4, g5, g6⟩ := ih (st + 1) (k + 1) (by omega) (by omega)
      refine ⟨s, a, g1, by omega, g3, g4, fun p post h => ⟨fun hx => absurd hx h0, fun _ => ⟨fun hx => absurd hx hle, fun _ => ⟨fun hx => absurd hx h6, fun _ => ⟨hv, ?_⟩⟩⟩⟩, fun w post h => ⟨fun hx => absurd hx hle, fun _ => q_isGap h1 (by omega) (fun _ => ⟨fun hx => absurd hx (by decide), fun _ x ex => ?_⟩) (fun hx => absurd hg hx)⟩⟩
      · rw [hstn, hu k (by omega)]
        refine q_break (fun _ => ⟨fun hx => absurd hx (by decide), fun _ x ex => ?_⟩) (fun hx => absurd hg hx)
        subst ex
        exact g5 p post h
      · subst ex
        exact g6 w post h
    · refine ⟨st, k, h1, Nat.le_refl _, by omega, Or.inr hg, fun p post h => ⟨fun hx => absurd hx h0, fun _ => ⟨fun hx => absurd hx hle, fun _ => ⟨fun hx => absurd hx h6, fun _ => ⟨hv, ?_⟩⟩⟩⟩, fun w post h => ⟨fun hx => absurd hx hle, fun _ => q_isGap h1 (by omega) (fun hx => absurd hx hg) (fun _ => ⟨fun _ => h, fun hx => absurd rfl hx⟩)⟩⟩
      rw [hstn, hu k (by omega)]
      exact q_break (fun hx => absurd hx hg) (fun _ => ⟨fun _ => h, fun hx => absurd rfl hx⟩)
theorem q_word {size : Int32} {un mu : Nat → Int32} {n : Nat} (hn : size.toInt = n) (hn6 : n ≤ 600) (hu : ∀ k : Nat, k < n → un k = mu k) : ∀ (d : Nat) (en : Int32) (k : Nat), en.toInt = k → k + d = n → ∃ (e : Int32) (b : Nat), e.toInt = b ∧ k ≤ b ∧ b ≤ n ∧ (∀ i : Nat, k ≤ i → i < b → ¬ yGap mu i) ∧ (k < n → ¬ yGap mu k → k < b) ∧ (∀ (p s : Int32) (post : Int32 → Int32 → Int32 → Int32 → Prop), P_Wo_next_128 p post s e → P_Wo_next_72 size p un post (d + 1) s en) ∧ (∀ (w s : Int32) (post : Int32 → Int32 → Int32 → Int32 → Prop), P_M_next_78 w post e s → P_M_next_43 size w mu post (d + 1) en s) := by
  have e0 : (0 : Int32).toInt = 0 := by decide
  have e600 : (600 : Int32).toInt = 600 := by decide
  intro d
  induction d with
  | zero =>
    intro en k h1 h2
    have hle : size ≤ en := by rw [y_le]; omega
    have h0 : ¬ en < 0 := by rw [y_lt]; omega
    exact ⟨en, k, h1, Nat.le_refl _, by omega, fun i hi hj => by omega, fun hx => by omega, fun p s post h => ⟨fun hx => absurd hx h0, fun _ => ⟨fun _ => h, fun hx => absurd hle hx⟩⟩, fun w s post h => ⟨fun _ => h, fun hx => absurd hle hx⟩⟩
  | succ d ih =>
    intro en k h1 h2
    have hle : ¬ size ≤ en := by rw [y_le]; omega
    have h0 : ¬ en < 0 := by rw [y_lt]; omega
    have h6 : ¬ 600 ≤ en := by rw [y_le]; omega
    have hv : vp_in en 600 := y_in (by omega) (by omega)
    have hstn : en.toNatClampNeg = k := by rw [y_nat]; omega
    have hs := q_inc (y := en) (n := 600) (by omega) (by omega) (by omega)
    by_cases hg : yGap mu k
    · refine ⟨en, k, h1, Nat.le_refl _, by omega, fun i hi hj => by omega, fun _ hx => absurd hg hx, fun p s post h => ⟨fun hx => absurd hx h0, fun _ => ⟨fun hx => absurd hx hle, fun _ => ⟨fun hx => absurd hx h6, fun _ => ⟨hv, ?_⟩⟩⟩⟩, fun w s post h => ⟨fun hx => absurd hx hle, fun _ => q_isGap h1 (by omega) (fun _ => ⟨fun _ => h, fun hx => absurd hx (by decide)⟩) (fun hx => absurd hg hx)⟩⟩
      rw [hstn, hu k (by omega)]
      exact q_break (fun _ => ⟨fun _ => h, fun hx => absurd hx (by decide)⟩) (fun hx => absurd hg hx)
    · obtain ⟨e, b, g1, g2, g3, g4, g5, g6, g7⟩ := ih (en + 1) (k + 1) (by omega) (by omega)
      refine ⟨e, b, g1, by omega, g3, fun i hi hj => ?_, fun _ _ => by omega, fun p s post h => ⟨fun hx => absurd hx h0, fun _ => ⟨fun hx => absurd hx hle, fun _ => ⟨fun hx => absurd hx h6, fun _ => ⟨hv, ?_⟩⟩⟩⟩, fun w s post h => ⟨fun hx => absurd hx hle, fun _ => q_isGap h1 (by omega) (fun hx => absurd hx hg) (fun _ => ⟨fun hx => absurd rfl hx, fun _ x ex => ?_⟩)⟩⟩
      · by_cases ei : i = k
        · rw [ei]
          exact hg
        · exact g4 i (by omega) hj
      · rw [hstn, hu k (by omega)]
        refine q_break (fun hx => absurd hx hg) (fun _ => ⟨fun hx => absurd rfl hx, fun _ x ex => ?_⟩)
        subst ex
        exact g6 p s post h
      · subst ex
        exact g7 w s post h
/-- the next word for both, or none -/
theorem q_next {size : Int32} {un mu : Nat → Int32} {n : Nat} (hn : size.toInt = n) (hn6 : n ≤ 600) (hu : ∀ k : Nat, k < n → un k = mu k) {E : Int32} {k : Nat} (hE : E.toInt = k) (hk : k ≤ n) : (∃ (s e : Int32) (a b : Nat), s.toInt = a ∧ e.toInt = b ∧ k ≤ a ∧ a < b ∧ b ≤ n ∧ (∀ (p : Int32) (post : Int32 → Int32 → Int32 → Int32 → Prop), post 1 s e (p + 1) → P_Wo_next size E p un post) ∧ (∀ (w : Int32) (post : Int32 → Int32 → Int32 → Int32 → Prop), post 1 e s (w + 1) → P_M_next size E w mu post)) ∨ (∃ (s e : Int32), (∀ (p : Int32) (post : Int32 → Int32 → Int32 → Int32 → Prop), post 0 s e (p + 1) → P_Wo_next size E p un post) ∧ (∀ (w : Int32) (post : Int32 → Int32 → Int32 → Int32 → Prop), post 0 e s w → P_M_next size E w mu post)) := by
  obtain ⟨s, a, g1, g2, g3, g4, g5, g6⟩ := q_skip hn hn6 hu (n - k) E k hE (by omega)
  obtain ⟨e, b, h1, h2, h3, h4, h5, h6, h7⟩ := q_word hn hn6 hu (n - a) s a g1 (by omega)
  have hC : ∀ (p : Int32) (post : Int32 → Int32 → Int32 → Int32 → Prop), P_Wo_next_128 p post s e → P_Wo_next size E p un post := fun p post h => ⟨_, g5 p post ⟨_, h6 p s post h⟩⟩
  have hM : ∀ (w : Int32) (post : Int32 → Int32 → Int32 → Int32 → Prop), P_M_next_78 w post e s → P_M_next size E w mu post := fun w post h => ⟨_, g6 w post ⟨_, h7 w s post h⟩⟩
  by_cases hab : a < b
  · left
    have hle : ¬ e ≤ s := by rw [y_le]; omega
    have hne : ¬ s = e := by rw [y_eq]; omega
    exact ⟨s, e, a, b, g1, h1, g2, hab, h3, fun p post h => hC p post (fun x ex => by subst ex; exact ⟨fun hx => absurd hx hle, fun _ => h⟩), fun w post h => hM w post ⟨fun _ x ex => by subst ex; exact h, fun hx => absurd hx hne⟩⟩
  · right
    have hle : e ≤ s := by rw [y_le]; omega
    have heq : s = e := by rw [y_eq]; omega
    exact ⟨s, e, fun p post h => hC p post (fun x ex => by subst ex; exact ⟨fun _ => h, fun hx => absurd hle hx⟩), fun w post h => hM w post ⟨fun hx => absurd heq hx, fun _ => h⟩⟩
/-- the word in the text is this one -/
def yMatch (mu : Nat → Int32) (a b w : Nat) : Prop := b - a = zLen.getD w 0 ∧ ∀ i : Nat, i < zLen.getD w 0 → mu (a + i) = (zByt.getD w []).getD i 0
theorem q_at {un mu : Nat → Int32} {n : Nat} (hn6 : n ≤ 600) (hu : ∀ k : Nat, k < n → un k = mu k ∧ yOk (mu k)) {y s : Int32} {a i : Nat} (hs : s.toInt = a) (hy : y.toInt = i) (hi : a + i < n) {post : Int32 → Prop} (h : post (mu (a + i))) : P_Wo_at y s un post := by
  have e0 : (0 : Int32).toInt = 0 := by decide
  have e600 : (600 : Int32).toInt = 600 := by decide
  intro x ex
  have hx : x.toInt = (a + i : Nat) := by rw [ex, y_add (by omega) (by omega)]; omega
  have hxn : x.toNatClampNeg = a + i := by rw [y_nat]; omega
  have hk := hu (a + i) hi
  refine ⟨fun hl => ?_, fun _ => ⟨fun hl => ?_, fun _ => ⟨y_in (by omega) (by omega), ?_⟩⟩⟩
  · rw [y_lt] at hl
    omega
  · rw [y_le] at hl
    omega
  · rw [hxn, hk.1]
    exact ⟨q_nar (y_charOk hk.2), h⟩
theorem q_are {un mu : Nat → Int32} {n : Nat} (hn6 : n ≤ 600) (hu : ∀ k : Nat, k < n → un k = mu k ∧ yOk (mu k)) {s e : Int32} {a b w : Nat} (hs : s.toInt = a) (he : e.toInt = b) (hab : a < b) (hb : b ≤ n) (hw : w < 34) {post : Int32 → Prop} (h1 : yMatch mu a b w → post 1) (h0 : ¬ yMatch mu a b w → post 0) : P_Wo_are w s e un post := by
  have hl := (q_tabL w hw).2
  have hsz : (e - s).toInt = (b - a : Nat) := by rw [y_sub (by omega) (by omega)]; omega
  refine ⟨hw, q_length hw ⟨fun hx => ?_, fun hx => h0 (fun hm => hx ?_)⟩⟩
  · rw [y_eq, hsz, zl_n32 (by omega)] at hx
    have hlen : b - a = zLen.getD w 0 := by omega
    refine ⟨zLen.getD w 0 + 1, ?_⟩
    have loop : ∀ (d : Nat) (y : Int32) (i : Nat), y.toInt = i → i + d = zLen.getD w 0 → (∀ i' : Nat, i' < i → mu (a + i') = (zByt.getD w []).getD i' 0) → P_Wo_are_15 w s un post (d + 1) y := by
      intro d
      induction d with
      | zero =>
        intro y i g1 g2 g3
        refine ⟨hw, q_length hw ⟨fun _ => h1 ⟨hlen, fun i' hi' => g3 i' (by omega)⟩, fun hy => ?_⟩⟩
        rw [y_le, zl_n32 (by omega)] at hy
        omega
      | succ d ih =>
        intro y i g1 g2 g3
        have hs1 := q_inc (y := y) (n := 31) (by omega) (by omega) (by omega)
        refine ⟨hw, q_length hw ⟨fun hy => ?_, fun _ => q_at hn6 hu hs g1 (by omega) ⟨hw, q_charAt hw (by omega) (by omega) ⟨fun heq x ex => ?_, fun hne => h0 (fun hm => hne ?_)⟩⟩⟩⟩
        · rw [y_le, zl_n32 (by omega)] at hy
          omega
        · subst ex
          refine ih (y + 1) (i + 1) (by omega) (by omega) (fun i' hi' => ?_)
          by_cases e : i' = i
          · rw [e, heq]
            congr 1
            omega
          · exact g3 i' (by omega)
        · have := hm.2 i (by omega)
          rw [this]
          congr 1
          omega
    exact loop (zLen.getD w 0) 0 0 (by decide) (by omega) (fun i' hi' => by omega)
  · rw [y_eq, hsz, zl_n32 (by omega), hm.1]
/-- digits read in base 27 -/
def yLd (f : Nat → Int) : Nat → Int
  | 0 => 0
  | m + 1 => 27 * yLd f m + f m
theorem q_ldB {f : Nat → Int} : ∀ m : Nat, (∀ i : Nat, i < m → 1 ≤ f i ∧ f i ≤ 26) → 0 ≤ yLd f m ∧ yLd f m < 27 ^ m ∧ (1 ≤ m → 1 ≤ yLd f m) := by
  intro m
  induction m with
  | zero => intro _; rw [yLd]; decide
  | succ m ih =>
    intro h
    have h1 := ih (fun i hi => h i (by omega))
    have h2 := h m (by omega)
    rw [yLd, Int.pow_succ]
    omega
theorem q_ldI {f g : Nat → Int} : ∀ m m' : Nat, (∀ i : Nat, i < m → 1 ≤ f i ∧ f i ≤ 26) → (∀ i : Nat, i < m' → 1 ≤ g i ∧ g i ≤ 26) → yLd f m = yLd g m' → m = m' ∧ ∀ i : Nat, i < m → f i = g i := by
  intro m
  induction m with
  | zero =>
    intro m' hf hg h
    cases m' with
    | zero => exact ⟨rfl, fun i hi => absurd hi (Nat.not_lt_zero i)⟩
    | succ m' =>
      have := (q_ldB (m' + 1) hg).2.2 (by omega)
      rw [← h, yLd] at this
      omega
  | succ m ih =>
    intro m' hf hg h
    cases m' with
    | zero =>
      have := (q_ldB (m + 1) hf).2.2 (by omega)
      rw [h, yLd] at this
      omega
    | succ m' =>
      rw [yLd, yLd] at h
      have h1 := hf m (by omega)
      have h2 := hg m' (by omega)
      obtain ⟨e1, e2⟩ := ih m' (fun i hi => hf i (by omega)) (fun i hi => hg i (by omega)) (by omega)
      subst e1
      refine ⟨rfl, fun i hi => ?_⟩
      by_cases e : i = m
      · rw [e]
        omega
      · exact e2 i (by omega)
theorem q_ldC {f g : Nat → Int} : ∀ m : Nat, (∀ i : Nat, i < m → f i = g i) → yLd f m = yLd g m := by
  intro m
  induction m with
  | zero => intro _; rfl
  | succ m ih =>
    intro h
    rw [yLd, yLd, ih (fun i hi => h i (by omega)), h m (by omega)]
/-- are the letters of the word letters, counted from B -/
def yAlpha (mu : Nat → Int32) (a b : Nat) (B : Int) : Prop := ∀ i : Nat, a + i < b → 1 ≤ (mu (a + i)).toInt - B + 1 ∧ (mu (a + i)).toInt - B + 1 ≤ 26
theorem q_letters {mu : Nat → Int32} {n : Nat} (hn6 : n ≤ 600) (hu : ∀ k : Nat, k < n → yOk (mu k)) {at' bg p1 p2 : Int32} {a b : Nat} (hs : bg.toInt = a) (he : at'.toInt = b) (hab : a < b) (hb : b ≤ n) (hp1 : 0 ≤ p1.toInt ∧ p1.toInt ≤ 200) (hp2 : 0 ≤ p2.toInt ∧ p2.toInt ≤ 5) {post : Int64 → Prop} (h1 : yAlpha mu a b p1.toInt → ((b - a : Nat) : Int) ≤ p2.toInt → ∀ c : Int64, c.toInt = yLd (fun i => (mu (a + i)).toInt - p1.toInt + 1) (b - a) → post c) (h0 : ¬ (yAlpha mu a b p1.toInt ∧ ((b - a : Nat) : Int) ≤ p2.toInt) → post (-1)) : P_M_letters p1 p2 at' bg mu post := by
  have e1 : (1 : Int32).toInt = 1 := by decide
  have e26 : (26 : Int32).toInt = 26 := by decide
  have f0 : (0 : Int64).toInt = 0 := by decide
  have f27 : (27 : Int64).toInt = 27 := by decide
  have hsz : (at' - bg).toInt = (b - a : Nat) := by rw [y_sub (by omega) (by omega)]; omega
  refine ⟨b - a + 1, ?_⟩
  have loop : ∀ (d : Nat) (y3 : Int64) (y5 : Int32) (i : Nat), y5.toInt = a + i → a + i + d = b → (∀ i' : Nat, i' < i → 1 ≤ (mu (a + i')).toInt - p1.toInt + 1 ∧ (mu (a + i')).toInt - p1.toInt + 1 ≤ 26) → (i ≤ 5 → y3.toInt = yLd (fun i => (mu (a + i)).toInt - p1.toInt + 1) i) → P_M_letters_8 p1 p2 at' bg mu post (d + 1) y3 y5 := by
    intro d
    induction d with
    | zero =>
      intro y3 y5 i g1 g2 g3 g4
      refine ⟨fun _ => ⟨fun hx => ?_, fun hx => h0 (fun hy => hx ?_)⟩, fun hx => ?_⟩
      · rw [y_le, hsz] at hx
        have hi : i = b - a := by omega
        refine h1 (fun i' hi' => g3 i' (by omega)) hx y3 ?_
        rw [← hi]
        exact g4 (by omega)
      · rw [y_le, hsz]
        exact hy.2
      · rw [y_le] at hx
        omega
    | succ d ih =>
      intro y3 y5 i g1 g2 g3 g4
      have hok := hu (a + i) (by omega)
      have hokb : 10 ≤ (mu (a + i)).toInt ∧ (mu (a + i)).toInt ≤ 126 := by unfold yOk at hok; omega
      have hyn : y5.toNatClampNeg = a + i := by rw [y_nat]; omega
      have hs5 := q_inc (y := y5) (n := 601) (by omega) (by omega) (by omega)
      refine ⟨fun hx => ?_, fun _ => ⟨y_in (by omega) (by omega), fun x4 e4 => ?_⟩⟩
      · rw [y_le] at hx
        omega
      rw [hyn] at e4
      have a0 : (mu (a + i) - p1).toInt = (mu (a + i)).toInt - p1.toInt := y_sub (by omega) (by omega)
      have a4 : x4.toInt = (mu (a + i)).toInt - p1.toInt + 1 := by rw [e4, y_add (by omega) (by omega), a0, e1]
      refine ⟨fun hx => h0 (fun hy => ?_), fun hx => ⟨fun hx2 x7 e7 x8 e8 => ?_, fun hx2 => h0 (fun hy => ?_)⟩⟩
      · rw [y_lt] at hx
        have := hy.1 i (by omega)
        omega
      · rw [y_lt] at hx
        rw [y_le] at hx2
        subst e8
        refine ih x7 (y5 + 1) (i + 1) (by omega) (by omega) (fun i' hi' => ?_) (fun hi5 => ?_)
        · by_cases e : i' = i
          · rw [e]
            omega
          · exact g3 i' (by omega)
        · have hld := g4 (by omega)
          have hlb := q_ldB (f := fun i => (mu (a + i)).toInt - p1.toInt + 1) i g3
          have hp27 := (q_p27 i (by omega)).2
          have m1 : (27 * y3).toInt = 27 * y3.toInt := by rw [y_mul6 (by rw [f27]; omega) (by rw [f27]; omega), f27]
          rw [e7, y_add6 (by rw [y_64]; omega) (by rw [y_64]; omega), m1, y_64, a4, hld, yLd]
      · rw [y_le] at hx2
        have := hy.1 i (by omega)
        omega
  exact loop (b - a) 0 bg 0 (by omega) (by omega) (fun i' hi' => absurd hi' (Nat.not_lt_zero i')) (fun _ => f0)
