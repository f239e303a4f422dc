theorem q_codeLd {L : Nat → Int32} : ∀ n : Nat, yCode L n = yLd (fun i => (L i).toInt - 64) n := by
  intro n
  induction n with
  | zero => rfl
  | succ n ih => rw [yCode, yLd, ih]
/-- the letters of a word, for both -/
theorem q_lets {un mu : Nat → Int32} {n : Nat} (hn6 : n ≤ 600) (hu : ∀ k : Nat, k < n → un k = mu k ∧ yOk (mu k)) {s e C : Int32} {L : Nat → Int32} {a b : Nat} (hs : s.toInt = a) (he : e.toInt = b) (hab : a < b) (hb : b ≤ n) : (∃ (C' : Int32) (L' : Nat → Int32) (c : Int64), 1 ≤ C'.toInt ∧ C'.toInt ≤ 4 ∧ (∀ i : Nat, (i : Int) < C'.toInt → 65 ≤ (L' i).toInt ∧ (L' i).toInt ≤ 90) ∧ c.toInt = yCode L' C'.toInt.toNat ∧ 0 ≤ c.toInt ∧ (∀ post : Int32 → Int32 → (Nat → Int32) → Prop, post 1 C' L' → P_FR_readLetters s e un C L post) ∧ (∀ post : Int64 → Prop, post c → P_M_letters 65 4 e s mu post)) ∨ ((∀ post : Int32 → Int32 → (Nat → Int32) → Prop, post 0 C L → P_FR_readLetters s e un C L post) ∧ (∀ post : Int64 → Prop, post (-1) → P_M_letters 65 4 e s mu post)) := by
  have e0 : (0 : Int32).toInt = 0 := by decide
  have e4 : (4 : Int32).toInt = 4 := by decide
  have e65 : (65 : Int32).toInt = 65 := by decide
  have e90 : (90 : Int32).toInt = 90 := by decide
  have hsz : (e - s).toInt = (b - a : Nat) := by rw [y_sub (by omega) (by omega)]; omega
  by_cases hg : (∀ i : Nat, a + i < b → 65 ≤ (mu (a + i)).toInt ∧ (mu (a + i)).toInt ≤ 90) ∧ b - a ≤ 4
  · left
    have hal : yAlpha mu a b 65 := fun i hi => by have := hg.1 i hi; omega
    have hlb := q_ldB (f := fun i => (mu (a + i)).toInt - 65 + 1) (b - a) (fun i hi => hal i (by omega))
    have hp27 := (q_p27 (b - a) hg.2).2
    obtain ⟨c, hc⟩ : ∃ c : Int64, c.toInt = yLd (fun i => (mu (a + i)).toInt - 65 + 1) (b - a) := ⟨Int64.ofInt (yLd (fun i => (mu (a + i)).toInt - 65 + 1) (b - a)), Int64.toInt_ofInt_of_le (by omega) (by omega)⟩
    have loop : ∀ (d : Nat) (y C0 : Int32) (L0 : Nat → Int32) (i : Nat), y.toInt = i → C0.toInt = i → a + i + d = b → (∀ i' : Nat, i' < i → L0 i' = mu (a + i')) → ∃ (C' : Int32) (L' : Nat → Int32), C'.toInt = (b - a : Nat) ∧ (∀ i' : Nat, i' < b - a → L' i' = mu (a + i')) ∧ ∀ post : Int32 → Int32 → (Nat → Int32) → Prop, post 1 C' L' → P_FR_readLetters_34 s e un post (d + 1) y C0 L0 := by
      intro d
      induction d with
      | zero =>
        intro y C0 L0 i g1 g2 g3 g4
        refine ⟨C0, L0, by omega, fun i' hi' => g4 i' (by omega), fun post h => ⟨fun _ => h, fun hx => ?_⟩⟩
        rw [y_le, hsz] at hx
        omega
      | succ d ih =>
        intro y C0 L0 i g1 g2 g3 g4
        have hs1 := q_inc (y := y) (n := 601) (by omega) (by omega) (by omega)
        have hs2 := q_inc (y := C0) (n := 601) (by omega) (by omega) (by omega)
        have hcn : C0.toNatClampNeg = i := by rw [y_nat]; omega
        have hch := hg.1 i (by omega)
        have hnar := y_charOk (u := mu (a + i)) (Or.inr (by omega))
        obtain ⟨C', L', r1, r2, r3⟩ := ih (y + 1) (C0 + 1) (upd L0 i (mu (a + i))) (i + 1) (by omega) (by omega) (by omega) (fun i' hi' => by
          rw [y_upd]
          by_cases ei : i' = i
          · rw [if_pos ei, ei]
          · rw [if_neg ei]
            exact g4 i' (by omega))
        refine ⟨C', L', r1, r2, fun post h => ⟨fun hx => ?_, fun _ => q_at hn6 hu hs g1 (by omega) ⟨fun hx => ?_, fun _ => ⟨fun hx => ?_, fun _ => ⟨y_in (by omega) (by omega), fun x ex x2 ex2 => ?_⟩⟩⟩⟩⟩
        · rw [y_le, hsz] at hx
          omega
        · rw [y_lt] at hx
          omega
        · rw [y_le] at hx
          omega
        · subst ex ex2
          rw [hcn, hnar]
          exact r3 post h
    obtain ⟨C', L', r1, r2, r3⟩ := loop (b - a) 0 0 L 0 (by decide) (by decide) (by omega) (fun i' hi' => absurd hi' (Nat.not_lt_zero i'))
    have hCn : C'.toInt.toNat = b - a := by omega
    refine ⟨C', L', c, by omega, by omega, fun i hi => ?_, ?_, by omega, fun post h => ⟨fun hx => ?_, fun _ => q_within hn6 hu hs he hab hb (fun _ => ⟨fun _ => ⟨b - a + 1, r3 post h⟩, fun hx => absurd hx (by decide)⟩) (fun hx => absurd ?_ hx)⟩, fun post h => q_letters hn6 (fun k hk => (hu k hk).2) hs he hab hb (by rw [e65]; omega) (by rw [e4]; omega) (fun _ _ c' hc' => ?_) (fun hx => absurd ⟨?_, ?_⟩ hx)⟩
    · rw [r2 i (by omega)]
      exact hg.1 i (by omega)
    · rw [hc, hCn, q_codeLd]
      refine q_ldC _ (fun i hi => ?_)
      rw [r2 i hi]
      omega
    · rw [y_lt, hsz] at hx
      omega
    · rw [e65, e90]
      exact hg.1
    · rw [e65] at hc'
      rw [y_eq6.2 (hc'.trans hc.symm)]
      exact h
    · rw [e65]
      exact hal
    · rw [e4]
      omega
  · right
    refine ⟨fun post h => ⟨fun _ => h, fun hx => q_within hn6 hu hs he hab hb (fun hy => absurd ⟨?_, ?_⟩ hg) (fun hy => ⟨fun hz => absurd rfl hz, fun _ => h⟩)⟩, fun post h => q_letters hn6 (fun k hk => (hu k hk).2) hs he hab hb (by rw [e65]; omega) (by rw [e4]; omega) (fun hal hle c' hc' => absurd ⟨fun i hi => ?_, ?_⟩ hg) (fun _ => h)⟩
    · rw [e65, e90] at hy
      exact hy
    · rw [y_lt, hsz] at hx
      omega
    · rw [e65] at hal
      have := hal i hi
      omega
    · rw [e4] at hle
      omega
theorem q_relName {C C' : Int32} {Kd : Nat} {V L L' : Nat → Int32} {kind : Int32} {mv : Nat → Int64} {name c : Int64} (h : yF1 C Kd V L kind mv name) (h1 : 1 ≤ C'.toInt) (h4 : C'.toInt ≤ 4) (hL : ∀ i : Nat, (i : Int) < C'.toInt → 65 ≤ (L' i).toInt ∧ (L' i).toInt ≤ 90) (hc : c.toInt = yCode L' C'.toInt.toNat) : yF1 C' Kd V L' kind mv c := ⟨h.1, h.2.1, h.2.2.1, h.2.2.2.1, h.2.2.2.2.1, h.2.2.2.2.2.1, h.2.2.2.2.2.2.1, h.2.2.2.2.2.2.2.1, h.2.2.2.2.2.2.2.2.1, h1, h4, hL, hc⟩
/-- what one key makes of both -/
theorem q_key {size : Int32} {un mu : Nat → Int32} {n : Nat} (hn : size.toInt = n) (hn6 : n ≤ 600) (hu : ∀ k : Nat, k < n → un k = mu k ∧ yOk (mu k)) {j Kd : Nat} {y1 C t s e p w : Int32} {kinds L V : Nat → Int32} {values0 names0 names values : Nat → Int64} {a b : Nat} (hj : y1.toInt = j) (hj8 : j < 8) (hs : s.toInt = a) (he : e.toInt = b) (hab : a < b) (hb : b ≤ n) (ht : 0 ≤ t.toInt ∧ t.toInt < 2048) (hp0 : 0 ≤ p.toInt) (hpb : p.toInt ≤ b) (hw : w.toInt = p.toInt + 1) (hrel : yF1 C Kd V L (kinds j) (fun k => values (30 * j + k)) (names j)) (hfr : yFr j values0 values names0 names) : (∃ (t' s' e' p' w' C' : Int32) (b' : Nat) (L' V' : Nat → Int32) (values' names' : Nat → Int64), (0 ≤ t'.toInt ∧ t'.toInt < 2048) ∧ e'.toInt = b' ∧ b ≤ b' ∧ b' ≤ n ∧ 0 ≤ p'.toInt ∧ p'.toInt ≤ b' ∧ w'.toInt = p'.toInt + 1 ∧ yF1 C' Kd V' L' (kinds j) (fun k => values' (30 * j + k)) (names' j) ∧ yFr j values0 values' names0 names' ∧ (∀ post : Int32 → Int32 → Int32 → Int32 → Int32 → Int32 → (Nat → Int32) → (Nat → Int32) → Prop, post 1 t' s' e' p' C' L' V' → P_FR_readKey t size s e p un C L V post) ∧ (∀ (post : Int32 → Int32 → Int32 → Int32 → Int32 → Int32 → Int32 → (Nat → Int64) → (Nat → Int32) → (Nat → Int64) → Prop) (K173 : Int32 → Int32 → Int32 → Int32 → Int32 → Int32 → Int32 → (Nat → Int64) → (Nat → Int32) → (Nat → Int64) → Prop), K173 y1 1 t' 0 e' s' w' values' kinds names' → P_M_letters 97 5 e s mu (fun r7 => ∃ n8, P_M_family_199 size mu post K173 n8 y1 t r7 (-1) 0 0 e s w values kinds names))) ∨ (∃ (t' s' e' p' w' C' y4' a' bg' : Int32) (L' V' : Nat → Int32) (values' names' : Nat → Int64), 0 ≤ p'.toInt ∧ p'.toInt ≤ 601 ∧ w'.toInt = p'.toInt + 1 ∧ yFr j values0 values' names0 names' ∧ (∀ post : Int32 → Int32 → Int32 → Int32 → Int32 → Int32 → (Nat → Int32) → (Nat → Int32) → Prop, post 0 t' s' e' p' C' L' V' → P_FR_readKey t size s e p un C L V post) ∧ (∀ (post : Int32 → Int32 → Int32 → Int32 → Int32 → Int32 → Int32 → (Nat → Int64) → (Nat → Int32) → (Nat → Int64) → Prop) (K173 : Int32 → Int32 → Int32 → Int32 → Int32 → Int32 → Int32 → (Nat → Int64) → (Nat → Int32) → (Nat → Int64) → Prop), K173 y1 0 y4' 0 a' bg' w' values' kinds names' → P_M_letters 97 5 e s mu (fun r7 => ∃ n8, P_M_family_199 size mu post K173 n8 y1 t r7 (-1) 0 0 e s w values kinds names))) := by
  have e4 : (4 : Int32).toInt = 4 := by decide
  have e10 : (10 : Int32).toInt = 10 := by decide
  have f0 : (0 : Int64).toInt = 0 := by decide
  have hu2 : ∀ k : Nat, k < n → yOk (mu k) := fun k hk => (hu k hk).2
  have h252 : ∀ (y7 : Int32) (post : Int32 → Int32 → Int32 → Int32 → Int32 → Int32 → Int32 → (Nat → Int64) → (Nat → Int32) → (Nat → Int64) → Prop) (K173 : Int32 → Int32 → Int32 → Int32 → Int32 → Int32 → Int32 → (Nat → Int64) → (Nat → Int32) → (Nat → Int64) → Prop), K173 y1 0 t 0 e s w values kinds names → P_M_family_252 size mu post K173 y1 t y7 0 e s w values kinds names := fun y7 post K173 h => ⟨fun _ => h, fun hx => absurd rfl hx⟩
  by_cases hm : ∃ k : Nat, k < 11 ∧ yMatch mu a b (zKey_word.getD k 0)
  · obtain ⟨k, hk, hmk⟩ := hm
    have uniq : ∀ k' : Nat, k' < 11 → yMatch mu a b (zKey_word.getD k' 0) → k' = k := fun k' hk' hm' => q_keyD k' hk' k hk ((q_match1 (q_keyT k' hk').2.2 hm').2.symm.trans (q_match1 (q_keyT k hk).2.2 hmk).2)
    obtain ⟨y7, hy7⟩ : ∃ y : Int32, y.toInt = k := ⟨Int32.ofNat k, zl_n32 (by omega)⟩
    have uy : ∀ (k' : Nat) (y : Int32), k' < 11 → y.toInt = k' → yMatch mu a b (zKey_word.getD k' 0) → y = y7 := fun k' y hk' hy' hm' => by rw [y_eq, hy', hy7, uniq k' hk' hm']
    have hbt := q_bits (t := t) (k := y7) ht (by omega)
    have hyn : y7.toNatClampNeg = k := by rw [y_nat]; omega
    have hv7 : vp_in y7 11 := y_in (by omega) (by omega)
    by_cases hbit : (t &&& (1 <<< (y7 &&& 31))) = 0
    · have goC : ∀ post : Int32 → Int32 → Int32 → Int32 → Int32 → Int32 → (Nat → Int32) → (Nat → Int32) → Prop, P_FR_readValues k size s e p un C L V (fun r10 u4 u5 u6 u7 u8 u9 => ((r10 = 0 → post 0 (t ||| (1 <<< (y7 &&& 31))) u4 u5 u6 u7 u8 u9) ∧ (¬ r10 = 0 → post 1 (t ||| (1 <<< (y7 &&& 31))) u4 u5 u6 u7 u8 u9))) → P_FR_readKey t size s e p un C L V post := by
        intro post h
        refine q_Ckey hn6 hu hs he hab hb (fun k' y hk' hy' hm' => ?_) (fun hx => absurd hmk (hx k hk))
        rw [uy k' y hk' hy' hm']
        refine ⟨fun _ x ex => ⟨fun hx => absurd rfl hx, fun _ => ⟨hv7, ?_⟩⟩, fun hx => absurd hbit hx⟩
        subst ex
        rw [hyn]
        exact h
      have goM : ∀ (post : Int32 → Int32 → Int32 → Int32 → Int32 → Int32 → Int32 → (Nat → Int64) → (Nat → Int32) → (Nat → Int64) → Prop) (K173 : Int32 → Int32 → Int32 → Int32 → Int32 → Int32 → Int32 → (Nat → Int64) → (Nat → Int32) → (Nat → Int64) → Prop), P_M_take y1 y7 size e s w mu values names (fun r8 u3 u4 u5 u6 u7 => K173 y1 r8 (t ||| (1 <<< (y7 &&& 31))) 0 u3 u4 u5 u6 kinds u7) → P_M_letters 97 5 e s mu (fun r7 => ∃ n8, P_M_family_199 size mu post K173 n8 y1 t r7 (-1) 0 0 e s w values kinds names) := by
        intro post K173 h
        refine q_Mkey hn6 hu2 hs he hab hb (fun k' y hk' hy' hm' => ?_) (fun hx => absurd hmk (hx k hk))
        rw [uy k' y hk' hy' hm']
        refine ⟨fun hx => absurd (hbt.1.2 hbit) hx, fun _ => ⟨fun hx => absurd hx (by decide), fun _ x ex => ?_⟩⟩
        subst ex
        exact h
      by_cases hk10 : k = 10
      · subst hk10
        have y10 : y7 = 10 := by rw [y_eq, hy7]; decide
        have hps := q_inc (y := p) (n := 602) (by omega) (by omega) (by omega)
        have hws := q_inc (y := w) (n := 603) (by omega) (by omega) (by omega)
        have goM2 : ∀ post : Int32 → Int32 → Int32 → Int32 → (Nat → Int64) → (Nat → Int64) → Prop, P_M_take_14 y1 y7 size mu post 2 1 0 e s w values names → P_M_take y1 y7 size e s w mu values names post := fun post h => ⟨fun _ => ⟨2, h⟩, fun hx => absurd (by rw [y10]; decide) hx⟩
        rcases q_next hn hn6 (fun k hk => (hu k hk).1) he hb with ⟨s2, e2, a2, b2, k1, k2, k3, k4, k5, nC, nM⟩ | ⟨s2, e2, nC, nM⟩
        · rcases q_lets (C := C) (L := L) hn6 hu k1 k2 k4 k5 with ⟨C', L', c, c1, c2, c3, c4, c5, lC, lM⟩ | ⟨lC, lM⟩
          · left
            refine ⟨t ||| (1 <<< (y7 &&& 31)), s2, e2, p + 1, w + 1, C', b2, L', V, values, vp_updL names j c, hbt.2, k2, by omega, k5, by omega, by omega, by omega, ?_, ⟨hfr.1, fun f hf => by rw [y_updL, if_neg (by omega)]; exact hfr.2 f hf⟩, fun post h => goC post ⟨by decide, fun hx => absurd rfl hx, fun _ => nC p _ ⟨fun hx => absurd hx (by decide), fun _ => lC _ ⟨fun hx => absurd hx (by decide), fun _ => ⟨fun hx => absurd hx (by decide), fun _ => h⟩⟩⟩⟩, fun post K173 h => goM post K173 (goM2 _ ?_)⟩
            · have := q_relName hrel c1 c2 c3 c4
              rw [y_updL, if_pos rfl]
              exact this
            · have hyj : y1.toNatClampNeg = j := by rw [y_nat]; omega
              refine ⟨fun hx => absurd hx (by decide), fun _ => nM w _ ⟨fun _ => ⟨fun hx => absurd y10 hx, fun _ => lM _ ⟨fun hx => absurd y10 hx, fun _ => ⟨fun _ => ⟨fun hx => absurd y10 hx, fun _ => ⟨y_in (by omega) (by omega), fun x ex => ?_⟩⟩, fun hx => absurd ?_ hx⟩⟩⟩, fun hx => absurd hx (by decide)⟩⟩
              · subst ex
                rw [hyj]
                exact ⟨fun _ => h, fun hx => absurd (by decide) hx⟩
              · rw [y_le6, f0]
                exact c5
          · right
            refine ⟨t ||| (1 <<< (y7 &&& 31)), s2, e2, p + 1, w + 1, C, t ||| (1 <<< (y7 &&& 31)), e2, s2, L, V, values, names, by omega, by omega, by omega, hfr, fun post h => goC post ⟨by decide, fun hx => absurd rfl hx, fun _ => nC p _ ⟨fun hx => absurd hx (by decide), fun _ => lC _ ⟨fun _ => ⟨fun _ => h, fun hx => absurd rfl hx⟩, fun hx => absurd rfl hx⟩⟩⟩, fun post K173 h => goM post K173 (goM2 _ ⟨fun hx => absurd hx (by decide), fun _ => nM w _ ⟨fun _ => ⟨fun hx => absurd y10 hx, fun _ => lM _ ⟨fun hx => absurd y10 hx, fun _ => ⟨fun hx => absurd hx (by decide), fun _ => h⟩⟩⟩, fun hx => absurd hx (by decide)⟩⟩)⟩
        · right
          refine ⟨t ||| (1 <<< (y7 &&& 31)), s2, e2, p + 1, w + 1, C, t ||| (1 <<< (y7 &&& 31)), e2, s2, L, V, values, names, by omega, by omega, by omega, hfr, fun post h => goC post ⟨by decide, fun hx => absurd rfl hx, fun _ => nC p _ ⟨fun _ => ⟨fun _ => h, fun hx => absurd rfl hx⟩, fun hx => absurd rfl hx⟩⟩, fun post K173 h => goM post K173 (goM2 _ ⟨fun hx => absurd hx (by decide), fun _ => nM w _ ⟨fun hx => absurd rfl hx, fun _ x ex => by subst ex; exact h⟩⟩)⟩
      · have hk9 : k < 10 := by omega
        have goM3 : ∃ (many : Int32) (M : Nat), many.toInt = M ∧ (M = if k < 4 then 3 else 1) ∧ ∀ post : Int32 → Int32 → Int32 → Int32 → (Nat → Int64) → (Nat → Int64) → Prop, (∃ m, P_M_take_14 y1 y7 size mu post m many 0 e s w values names) → P_M_take y1 y7 size e s w mu values names post := by
          by_cases h4 : k < 4
          · have hy4 : ¬ 4 ≤ y7 := by rw [y_le]; omega
            exact ⟨3, 3, by decide, by rw [if_pos h4], fun post h => ⟨fun hx => absurd hx hy4, fun _ => h⟩⟩
          · have hy4 : 4 ≤ y7 := by rw [y_le]; omega
            exact ⟨1, 1, by decide, by rw [if_neg h4], fun post h => ⟨fun _ => h, fun hx => absurd hy4 hx⟩⟩
        obtain ⟨many, M, hM, hMk, goM3⟩ := goM3
        rcases q_values (values0 := values0) (names0 := names0) hn hn6 hu hk9 hy7 hj hj8 many M hM hMk M 0 s e p w 0 b V values (by decide) (by omega) he hb hp0 hpb hw hrel hfr with ⟨s', e', p', w', b', V', values', q1, q2, q3, q4, q5, q6, q7, q8, q9, q10⟩ | ⟨s', e', p', w', a', bg', V', values', q1, q2, q3, q4, q5, q6⟩
        · left
          exact ⟨t ||| (1 <<< (y7 &&& 31)), s', e', p', w', C, b', L, V', values', names, hbt.2, q1, q2, q3, q4, q5, q6, q7, q8, fun post h => goC post ⟨by omega, fun _ => ⟨M + 1, q9 _ ⟨fun hx => absurd hx (by decide), fun _ => h⟩⟩, fun hx => absurd hx hk10⟩, fun post K173 h => goM post K173 (goM3 _ ⟨M + 1, q10 _ h⟩)⟩
        · right
          exact ⟨t ||| (1 <<< (y7 &&& 31)), s', e', p', w', C, t ||| (1 <<< (y7 &&& 31)), a', bg', L, V', values', names, q2, q3, q1, q4, fun post h => goC post ⟨by omega, fun _ => ⟨M + 1, q5 _ ⟨fun _ => h, fun hx => absurd rfl hx⟩⟩, fun hx => absurd hx hk10⟩, fun post K173 h => goM post K173 (goM3 _ ⟨M + 1, q6 _ h⟩)⟩
    · right
      refine ⟨t ||| (1 <<< (y7 &&& 31)), s, e, p, w, C, t, e, s, L, V, values, names, hp0, by omega, hw, hfr, fun post h => q_Ckey hn6 hu hs he hab hb (fun k' y hk' hy' hm' => ?_) (fun hx => absurd hmk (hx k hk)), fun post K173 h => q_Mkey hn6 hu2 hs he hab hb (fun k' y hk' hy' hm' => ?_) (fun hx => absurd hmk (hx k hk))⟩
      · rw [uy k' y hk' hy' hm']
        refine ⟨fun hx => absurd hx hbit, fun _ x ex => ⟨fun _ => ?_, fun hx => absurd hx (by decide)⟩⟩
        subst ex
        exact h
      · rw [uy k' y hk' hy' hm']
        exact ⟨fun _ => h252 _ post K173 h, fun hx => absurd (hbt.1.1 hx) hbit⟩
  · have hno : ∀ k : Nat, k < 11 → ¬ yMatch mu a b (zKey_word.getD k 0) := fun k hk h => hm ⟨k, hk, h⟩
    right
    exact ⟨t, s, e, p, w, C, t, e, s, L, V, values, names, hp0, by omega, hw, hfr, fun post h => q_Ckey hn6 hu hs he hab hb (fun k' y hk' _ hm' => absurd hm' (hno k' hk')) (fun _ => h), fun post K173 h => q_Mkey hn6 hu2 hs he hab hb (fun k' y hk' _ hm' => absurd hm' (hno k' hk')) (fun _ => h252 _ post K173 h)⟩
