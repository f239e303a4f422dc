theorem q_xor {a b : Int64} (ha : 0 ≤ a.toInt) (hb : 0 ≤ b.toInt) : 0 ≤ a ^^^ b := by
  have h1 : a.toBitVec.msb = false := by rw [BitVec.msb_eq_toInt, Int64.toInt_toBitVec, decide_eq_false_iff_not]; omega
  have h2 : b.toBitVec.msb = false := by rw [BitVec.msb_eq_toInt, Int64.toInt_toBitVec, decide_eq_false_iff_not]; omega
  have h3 : (a ^^^ b).toBitVec.msb = false := by rw [Int64.toBitVec_xor, BitVec.msb_xor, h1, h2]; rfl
  rw [BitVec.msb_eq_toInt, Int64.toInt_toBitVec, decide_eq_false_iff_not] at h3
  have f0 : (0 : Int64).toInt = 0 := by decide
  rw [y_le6, f0]
  omega
/-- what one part is wide -/
def yWide (len g c : Int) : Int := if 0 ≤ len - (c - 1) * g then (len - (c - 1) * g) / c else 0
/-- how many parts -/
def yPartN (len part g : Int) : Int := (len + g) / (part + 1 + g) + 1
theorem q_wide {len part g c : Int} (hp : 0 ≤ part) (hg : 0 ≤ g) (hc : 1 ≤ c) : yWide len g c ≤ part ↔ yPartN len part g ≤ c := by
  have e : (c - 1) * g = c * g - g := by rw [Int.sub_mul, Int.one_mul]
  have h2 : yPartN len part g ≤ c ↔ len + g < c * (part + 1 + g) := by
    unfold yPartN
    rw [← Int.ediv_lt_iff_lt_mul (by omega)]
    omega
  have e2 : c * (part + 1 + g) = c * part + c + c * g := by rw [Int.mul_add, Int.mul_add, Int.mul_one]
  have hcp : 0 ≤ c * part := Int.mul_nonneg (by omega) hp
  rw [h2, e2]
  unfold yWide
  rw [e]
  split
  · rename_i h
    have h3 : (len - (c * g - g)) / c ≤ part ↔ (len - (c * g - g)) / c < part + 1 := by omega
    rw [h3, Int.ediv_lt_iff_lt_mul (by omega), Int.add_mul, Int.one_mul, Int.mul_comm part c]
    omega
  · omega
theorem q_M_width {len c : Int64} {fam dens : Int32} {values : Nat → Int64} {V : Nat → Int32} {f : Nat} (hf : fam.toInt = f) (hf8 : f < 8) (hval : values (30 * f + 21) = (V 15).toInt64) (hg : 0 ≤ (V 15).toInt ∧ (V 15).toInt ≤ 10000000) (hl : -1000000000 ≤ len.toInt ∧ len.toInt ≤ 1000000000) (hc : 1 ≤ c.toInt ∧ c.toInt ≤ 1000000) {post : Int64 → Prop} (h : ∀ r : Int64, r.toInt = yWide len.toInt (V 15).toInt c.toInt → post r) : P_M_width len c fam dens values post := by
  have f0 : (0 : Int64).toInt = 0 := by decide
  have f1 : (1 : Int64).toInt = 1 := by decide
  refine q_Mof (m := 7) hf hf8 (by decide) (by decide) (by decide) ?_
  rw [hval]
  intro x ex
  subst ex
  have a1 : (c - 1).toInt = c.toInt - 1 := by rw [y_sub6 (by omega) (by omega), f1]
  have b1 := q_mulb (a := c.toInt - 1) (b := (V 15).toInt) (A := 1000000) (B := 10000000) (by omega) (by omega) (by omega) (by omega)
  have a2 : ((c - 1) * (V 15).toInt64).toInt = (c.toInt - 1) * (V 15).toInt := by rw [y_mul6 (by rw [a1, y_64]; omega) (by rw [a1, y_64]; omega), a1, y_64]
  have a3 : (len - (c - 1) * (V 15).toInt64).toInt = len.toInt - (c.toInt - 1) * (V 15).toInt := by rw [y_sub6 (by rw [a2]; omega) (by rw [a2]; omega), a2]
  refine ⟨fun h0 => ⟨fun hz => ?_, h _ ?_⟩, fun h0 => h _ ?_⟩
  · rw [y_eq6] at hz
    omega
  · rw [y_le6, a3, f0] at h0
    rw [y_div6 (by rw [a3]; omega), a3, Int.tdiv_eq_ediv_of_nonneg h0, yWide, if_pos h0]
  · rw [y_le6, a3, f0] at h0
    rw [yWide, if_neg h0, f0]
theorem q_partB {len part g : Int} (hl : len ≤ 200000000) (hl0 : 0 ≤ len) (hp : 10000 ≤ part) (hg : 0 ≤ g) (hg2 : g ≤ 10000000) : 1 ≤ yPartN len part g ∧ yPartN len part g ≤ 22000 := by
  unfold yPartN
  have g1 : 0 ≤ (len + g) / (part + 1 + g) := Int.ediv_nonneg (by omega) (by omega)
  have g2 := Int.ediv_mul_le (len + g) (b := part + 1 + g) (by omega)
  have g3 := Int.mul_le_mul_of_nonneg_left (show (10000 : Int) ≤ part + 1 + g by omega) g1
  omega
theorem q_M_col61 {len y4 y6 : Int64} {fam dens : Int32} {values : Nat → Int64} {V : Nat → Int32} {f : Nat} (hf : fam.toInt = f) (hf8 : f < 8) (hval : values (30 * f + 21) = (V 15).toInt64) (hg : 0 ≤ (V 15).toInt ∧ (V 15).toInt ≤ 10000000) (hl : 1 ≤ len.toInt ∧ len.toInt ≤ 200000000) (hp : 10000 ≤ y4.toInt) {post : Int64 → Prop} {K44 : Int64 → Int64 → Prop} (h6 : 1 ≤ y6.toInt ∧ y6.toInt < yPartN len.toInt y4.toInt (V 15).toInt) (hK : ∀ y : Int64, y6.toInt < y.toInt → y.toInt ≤ yPartN len.toInt y4.toInt (V 15).toInt → K44 y4 y) : ∀ (d : Nat) (y8 : Int64), y6.toInt ≤ y8.toInt → y8.toInt < yPartN len.toInt y4.toInt (V 15).toInt → yPartN len.toInt y4.toInt (V 15).toInt ≤ y8.toInt + d → P_M_columns_61 len fam dens values post K44 (d + 1) y4 y6 y8 := by
  have f1 : (1 : Int64).toInt = 1 := by decide
  have f2 : (2 : Int64).toInt = 2 := by decide
  have hB := q_partB (len := len.toInt) (part := y4.toInt) (g := (V 15).toInt) (by omega) (by omega) hp hg.1 hg.2
  intro d
  induction d with
  | zero =>
    intro y8 h1 h2 h3
    omega
  | succ d ih =>
    intro y8 h1 h2 h3
    have a1 : (2 * y8).toInt = 2 * y8.toInt := by rw [y_mul6 (by rw [f2]; omega) (by rw [f2]; omega), f2]
    refine q_M_width hf hf8 hval hg (by omega) (by omega) (fun r hr => ?_)
    have hw := q_wide (len := len.toInt) (part := y4.toInt) (g := (V 15).toInt) (c := (2 * y8).toInt) (by omega) (by omega) (by omega)
    refine ⟨fun _ => ⟨fun _ => hK _ ?_ ?_, fun h => hK _ ?_ ?_⟩, fun h x ex => ?_⟩
    · rw [y_add6 (by omega) (by omega)]
      omega
    · rw [y_add6 (by omega) (by omega)]
      omega
    · rw [y_le6] at h
      omega
    · omega
    · subst ex
      have h' : ¬ yPartN len.toInt y4.toInt (V 15).toInt ≤ (2 * y8).toInt := by
        rw [← hw, ← hr]
        rw [y_le6] at h
        exact h
      exact ih (2 * y8) (by omega) (by omega) (by omega)
theorem q_M_col44 {len y4 : Int64} {fam dens : Int32} {values : Nat → Int64} {V : Nat → Int32} {f : Nat} (hf : fam.toInt = f) (hf8 : f < 8) (hval : values (30 * f + 21) = (V 15).toInt64) (hg : 0 ≤ (V 15).toInt ∧ (V 15).toInt ≤ 10000000) (hl : 1 ≤ len.toInt ∧ len.toInt ≤ 200000000) (hp : 10000 ≤ y4.toInt) {post : Int64 → Prop} (hA : ∀ y : Int64, y.toInt = yPartN len.toInt y4.toInt (V 15).toInt → 1 ≤ yWide len.toInt (V 15).toInt y.toInt → post y) (hB : yWide len.toInt (V 15).toInt (yPartN len.toInt y4.toInt (V 15).toInt) < 1 → post 0) : ∀ (d : Nat) (y6 : Int64), 1 ≤ y6.toInt → y6.toInt ≤ yPartN len.toInt y4.toInt (V 15).toInt → yPartN len.toInt y4.toInt (V 15).toInt ≤ y6.toInt + d → P_M_columns_44 len fam dens values post (d + 1) y4 y6 := by
  have f1 : (1 : Int64).toInt = 1 := by decide
  have hBd := q_partB (len := len.toInt) (part := y4.toInt) (g := (V 15).toInt) (by omega) (by omega) hp hg.1 hg.2
  intro d
  induction d with
  | zero =>
    intro y6 h1 h2 h3
    have he : y6.toInt = yPartN len.toInt y4.toInt (V 15).toInt := by omega
    have hw := q_wide (len := len.toInt) (part := y4.toInt) (g := (V 15).toInt) (c := y6.toInt) (by omega) (by omega) (by omega)
    refine q_M_width hf hf8 hval hg (by omega) (by omega) (fun r hr => ⟨fun _ => q_M_width hf hf8 hval hg (by omega) (by omega) (fun r2 hr2 => ⟨fun h => ?_, fun h => ?_⟩), fun h => ?_⟩)
    · rw [y_le6, f1] at h
      exact hA y6 he (by omega)
    · rw [y_le6, f1] at h
      exact hB (by rw [← he]; omega)
    · rw [y_le6] at h
      omega
  | succ d ih =>
    intro y6 h1 h2 h3
    have hw := q_wide (len := len.toInt) (part := y4.toInt) (g := (V 15).toInt) (c := y6.toInt) (by omega) (by omega) (by omega)
    refine q_M_width hf hf8 hval hg (by omega) (by omega) (fun r hr => ⟨fun hle => q_M_width hf hf8 hval hg (by omega) (by omega) (fun r2 hr2 => ?_), fun h => ?_⟩)
    · have he : y6.toInt = yPartN len.toInt y4.toInt (V 15).toInt := by
        rw [y_le6] at hle
        omega
      refine ⟨fun h => ?_, fun h => ?_⟩
      · rw [y_le6, f1] at h
        exact hA y6 he (by omega)
      · rw [y_le6, f1] at h
        exact hB (by rw [← he]; omega)
    · rw [y_le6] at h
      refine ⟨d + 2, q_M_col61 hf hf8 hval hg hl hp (by omega) (fun y g1 g2 => ih y (by omega) g2 (by omega)) (d + 1) y6 (by omega) (by omega) (by omega)⟩
theorem q_M_columns {q : Int32} {len : Int64} {fam dens : Int32} {values pad : Nat → Int64} {V : Nat → Int32} {f k : Nat} (hq : q.toInt = k) (hk : k < 65) (hr5 : pad (7 * k + 5) = 0 ∨ pad (7 * k + 5) = 1) (hf : fam.toInt = f) (hf8 : f < 8) (hval : values (30 * f + 21) = (V 15).toInt64) (hval8 : values (30 * f + 24) = (V 16).toInt64) (hg : 0 ≤ (V 15).toInt ∧ (V 15).toInt ≤ 10000000) (hV : (V 16).toInt = 0 ∨ 10000 ≤ (V 16).toInt) (hl : len.toInt ≤ 200000000) {post : Int64 → Prop} (h0 : len.toInt < 1 → post 0) (h1 : 1 ≤ len.toInt → ((V 16).toInt = 0 ∨ pad (7 * k + 5) = 1) → post 1) (hA : 1 ≤ len.toInt → 10000 ≤ (V 16).toInt → pad (7 * k + 5) = 0 → ∀ y : Int64, y.toInt = yPartN len.toInt (V 16).toInt (V 15).toInt → 1 ≤ yWide len.toInt (V 15).toInt y.toInt → post y) (hB : 1 ≤ len.toInt → 10000 ≤ (V 16).toInt → pad (7 * k + 5) = 0 → yWide len.toInt (V 15).toInt (yPartN len.toInt (V 16).toInt (V 15).toInt) < 1 → post 0) : P_M_columns q len fam dens values pad post := by
  have f0 : (0 : Int64).toInt = 0 := by decide
  have f1 : (1 : Int64).toInt = 1 := by decide
  have e5 : (5 : Int32).toInt = 5 := by decide
  have e7 : (7 : Int32).toInt = 7 := by decide
  have hx : (7 * q).toInt = 7 * q.toInt := by rw [y_mul (by rw [e7]; omega) (by rw [e7]; omega), e7]
  have hx5 : (7 * q + 5).toInt = 7 * q.toInt + 5 := by rw [y_add (by omega) (by omega), hx, e5]
  have hn5 : (7 * q + 5).toNatClampNeg = 7 * k + 5 := by rw [y_nat]; omega
  refine q_Mof (m := 8) hf hf8 (by decide) (by decide) (by decide) ?_
  rw [hval8, hn5]
  refine ⟨fun h => ?_, fun h => h0 ?_⟩
  · rw [y_le6, f1] at h
    refine ⟨fun hz => h1 h (Or.inl ?_), fun hz => ⟨y_in (by omega) (by omega), fun hr => ?_, fun hr => h1 h (Or.inr hr)⟩⟩
    · rw [y_eq6, y_64, f0] at hz
      exact hz
    · rw [y_eq6, y_64, f0] at hz
      have hp : 10000 ≤ (V 16).toInt := by omega
      have hr0 := hr5.resolve_right hr
      have hBd := q_partB (len := len.toInt) (part := (V 16).toInt) (g := (V 15).toInt) (by omega) (by omega) hp hg.1 hg.2
      refine ⟨22001, q_M_col44 hf hf8 hval hg ⟨h, hl⟩ (by rw [y_64]; exact hp) ?_ ?_ 22000 1 (by rw [f1]; omega) (by rw [f1, y_64]; omega) (by rw [f1, y_64]; omega)⟩
      · rw [y_64]
        exact hA h hp hr0
      · rw [y_64]
        exact hB h hp hr0
  · rw [y_le6, f1] at h
    omega
theorem q_split1 {len : Int64} {V : Nat → Int32} (hp : 10000 ≤ (V 16).toInt) {post : Int64 → Int64 → Int64 → Int64 → Prop} (hle : len.toInt ≤ (V 16).toInt) (h : post 1 len 0 0) : P_Cu_split len (V 16).toInt64 (V 15).toInt64 post := by
  intro x ex
  have hl : len ≤ (V 16).toInt64 := by rw [y_le6, y_64]; exact hle
  exact ⟨fun _ => h, fun hn => absurd hl hn⟩
theorem q_split {len : Int64} {V : Nat → Int32} (hg : 0 ≤ (V 15).toInt ∧ (V 15).toInt ≤ 10000000) (hp : 10000 ≤ (V 16).toInt ∧ (V 16).toInt ≤ 10000000) (hl : len.toInt ≤ 200000000) (hlt : (V 16).toInt < len.toInt) : ∃ c sz : Int64, c.toInt = yPartN len.toInt (V 16).toInt (V 15).toInt ∧ (0 ≤ len.toInt - (c.toInt - 1) * (V 15).toInt → sz.toInt = (len.toInt - (c.toInt - 1) * (V 15).toInt) / c.toInt) ∧ (len.toInt - (c.toInt - 1) * (V 15).toInt < 0 → sz.toInt ≤ 0) ∧ ∀ post : Int64 → Int64 → Int64 → Int64 → Prop, post c sz ((len - (c - 1) * (V 15).toInt64 - sz * c) / 2) (V 15).toInt64 → P_Cu_split len (V 16).toInt64 (V 15).toInt64 post := by
  have f0 : (0 : Int64).toInt = 0 := by decide
  have f1 : (1 : Int64).toInt = 1 := by decide
  have a0 : ((V 16).toInt64 + 1).toInt = (V 16).toInt + 1 := by rw [y_add6 (by rw [y_64]; omega) (by rw [y_64]; omega), y_64, f1]
  have a1 : ((V 16).toInt64 + 1 + (V 15).toInt64).toInt = (V 16).toInt + 1 + (V 15).toInt := by rw [y_add6 (by rw [a0, y_64]; omega) (by rw [a0, y_64]; omega), a0, y_64]
  have hB := q_partB (len := len.toInt) (part := (V 16).toInt) (g := (V 15).toInt) (by omega) (by omega) hp.1 hg.1 hg.2
  have a2 : (len + (V 15).toInt64).toInt = len.toInt + (V 15).toInt := by rw [y_add6 (by rw [y_64]; omega) (by rw [y_64]; omega), y_64]
  have a3 : ((len + (V 15).toInt64) / ((V 16).toInt64 + 1 + (V 15).toInt64)).toInt = yPartN len.toInt (V 16).toInt (V 15).toInt - 1 := by
    rw [y_div6 (by rw [a2]; omega), a2, a1, Int.tdiv_eq_ediv_of_nonneg (by omega), yPartN]
    omega
  have hc : ((len + (V 15).toInt64) / ((V 16).toInt64 + 1 + (V 15).toInt64) + 1).toInt = yPartN len.toInt (V 16).toInt (V 15).toInt := by rw [y_add6 (by rw [a3]; omega) (by rw [a3]; omega), a3, f1]; omega
  have hsp : ∀ (sz : Int64) (post : Int64 → Int64 → Int64 → Int64 → Prop), P_JM_floorDiv (len - ((len + (V 15).toInt64) / ((V 16).toInt64 + 1 + (V 15).toInt64) + 1 - 1) * (V 15).toInt64) ((len + (V 15).toInt64) / ((V 16).toInt64 + 1 + (V 15).toInt64) + 1) (fun r => ∀ x : Int64, x = (len - ((len + (V 15).toInt64) / ((V 16).toInt64 + 1 + (V 15).toInt64) + 1 - 1) * (V 15).toInt64 - r * ((len + (V 15).toInt64) / ((V 16).toInt64 + 1 + (V 15).toInt64) + 1)) / 2 → post ((len + (V 15).toInt64) / ((V 16).toInt64 + 1 + (V 15).toInt64) + 1) r x (V 15).toInt64) → P_Cu_split len (V 16).toInt64 (V 15).toInt64 post := by
    intro sz post h x ex
    subst ex
    refine ⟨fun hle => ?_, fun _ => ⟨fun _ => ⟨fun hz => ?_, fun c ec => ?_⟩, fun hz => ?_⟩⟩
    · rw [y_le6, y_64] at hle
      omega
    · rw [y_eq6, a1] at hz
      omega
    · subst ec
      refine ⟨fun _ y ey => ?_, fun hz => ?_⟩
      · subst ey
        exact h
      · rw [y_lt6] at hz
        omega
    · rw [y_lt6, a1] at hz
      omega
  generalize (len + (V 15).toInt64) / ((V 16).toInt64 + 1 + (V 15).toInt64) + 1 = c at hc hsp
  have a4 : (c - 1).toInt = c.toInt - 1 := by rw [y_sub6 (by omega) (by omega), f1]
  have b1 := q_mulb (a := c.toInt - 1) (b := (V 15).toInt) (A := 1000000) (B := 10000000) (by omega) (by omega) (by omega) (by omega)
  have a5 : ((c - 1) * (V 15).toInt64).toInt = (c.toInt - 1) * (V 15).toInt := by rw [y_mul6 (by rw [a4, y_64]; omega) (by rw [a4, y_64]; omega), a4, y_64]
  have a6 : (len - (c - 1) * (V 15).toInt64).toInt = len.toInt - (c.toInt - 1) * (V 15).toInt := by rw [y_sub6 (by rw [a5]; omega) (by rw [a5]; omega), a5]
  have hd : ((len - (c - 1) * (V 15).toInt64) / c).toInt = (len.toInt - (c.toInt - 1) * (V 15).toInt).tdiv c.toInt := by rw [y_div6 (by rw [a6]; omega), a6]
  have hcz : ¬ c = 0 := by rw [y_eq6]; omega
  by_cases hx : 0 ≤ len.toInt - (c.toInt - 1) * (V 15).toInt
  · refine ⟨c, _, hc, fun _ => by rw [hd, Int.tdiv_eq_ediv_of_nonneg hx], fun hn => by omega, fun post hpo => hsp 0 post ⟨hcz, fun x2 ex2 => ⟨fun _ x ex => ?_, fun hn => absurd (q_xor (by rw [a6]; exact hx) (by omega)) hn⟩⟩⟩
    subst ex2 ex
    exact hpo
  · have hneg : ((len - (c - 1) * (V 15).toInt64) / c).toInt ≤ 0 ∧ -9000000000000000 ≤ ((len - (c - 1) * (V 15).toInt64) / c).toInt := by
      rw [hd]
      have g1 := Int.natAbs_tdiv (len.toInt - (c.toInt - 1) * (V 15).toInt) c.toInt
      have g2 : (Int.tdiv (len.toInt - (c.toInt - 1) * (V 15).toInt) c.toInt).natAbs ≤ (len.toInt - (c.toInt - 1) * (V 15).toInt).natAbs := by
        rw [g1]
        exact Nat.div_le_self _ _
      have g3 : Int.tdiv (len.toInt - (c.toInt - 1) * (V 15).toInt) c.toInt ≤ 0 := by
        have := Int.tdiv_nonneg (a := -(len.toInt - (c.toInt - 1) * (V 15).toInt)) (b := c.toInt) (by omega) (by omega)
        rw [Int.neg_tdiv] at this
        omega
      omega
    by_cases k1 : 0 ≤ (len - (c - 1) * (V 15).toInt64) ^^^ c
    · refine ⟨c, _, hc, fun hn => absurd hn hx, fun _ => hneg.1, fun post hpo => hsp 0 post ⟨hcz, fun x2 ex2 => ⟨fun _ x ex => ?_, fun hn => absurd k1 hn⟩⟩⟩
      subst ex2 ex
      exact hpo
    · by_cases k2 : (len - (c - 1) * (V 15).toInt64) / c * c = len - (c - 1) * (V 15).toInt64
      · refine ⟨c, _, hc, fun hn => absurd hn hx, fun _ => hneg.1, fun post hpo => hsp 0 post ⟨hcz, fun x2 ex2 => ⟨fun hn => absurd hn k1, fun _ => ⟨fun _ x ex => ?_, fun hn => absurd (by rw [ex2]; exact k2) hn⟩⟩⟩⟩
        subst ex2 ex
        exact hpo
      · refine ⟨c, (len - (c - 1) * (V 15).toInt64) / c - 1, hc, fun hn => absurd hn hx, fun _ => ?_, fun post hpo => hsp 0 post ⟨hcz, fun x2 ex2 => ⟨fun hn => absurd hn k1, fun _ => ⟨fun hn => absurd (by rw [← ex2]; exact hn) k2, fun _ x ex => ?_⟩⟩⟩⟩
        · rw [y_sub6 (by omega) (by omega), f1]
          omega
        · subst ex2 ex
          exact hpo
/-- one axis: what the class cuts, what the other finds -/
theorem q_axis {q : Int32} {len : Int64} {fam dens : Int32} {values pad : Nat → Int64} {V : Nat → Int32} {f k : Nat} (hq : q.toInt = k) (hk : k < 65) (hr5 : pad (7 * k + 5) = 0 ∨ pad (7 * k + 5) = 1) (hf : fam.toInt = f) (hf8 : f < 8) (hval : values (30 * f + 21) = (V 15).toInt64) (hval8 : values (30 * f + 24) = (V 16).toInt64) (hg : 0 ≤ (V 15).toInt ∧ (V 15).toInt ≤ 10000000) (hV : (V 16).toInt = 0 ∨ 10000 ≤ (V 16).toInt) (hV2 : (V 16).toInt ≤ 10000000) (hl0 : -1000000000 ≤ len.toInt) (hl : len.toInt ≤ 200000000) : ∃ parts size ahead gp : Int64, ((V 16).toInt = 0 ∨ pad (7 * k + 5) = 1 → parts = 1 ∧ size = len ∧ ahead = 0 ∧ gp = 0) ∧ (10000 ≤ (V 16).toInt → pad (7 * k + 5) = 0 → ∀ post : Int64 → Int64 → Int64 → Int64 → Prop, post parts size ahead gp → P_Cu_split len (V 16).toInt64 (V 15).toInt64 post) ∧ (size.toInt ≤ 0 → ∀ post : Int64 → Prop, post 0 → P_M_columns q len fam dens values pad post) ∧ (0 < size.toInt → (1 ≤ parts.toInt ∧ parts.toInt ≤ 30000) ∧ (∀ post : Int64 → Prop, post parts → P_M_columns q len fam dens values pad post) ∧ (∀ post : Int64 → Prop, post size → P_M_width len parts fam dens values post) ∧ (∀ (p i : Int64) (post : Int64 → Prop), 0 ≤ i.toInt → i.toInt < parts.toInt → post (p + (ahead + i * (size + gp))) → P_M_begin p len parts i fam dens values post)) := by
  have f0 : (0 : Int64).toInt = 0 := by decide
  have f1 : (1 : Int64).toInt = 1 := by decide
  have hw1 : yWide len.toInt (V 15).toInt 1 = if 0 ≤ len.toInt then len.toInt else 0 := by
    unfold yWide
    rw [show len.toInt - (1 - 1) * (V 15).toInt = len.toInt by rw [Int.sub_self, Int.zero_mul, Int.sub_zero], Int.ediv_one]
  have hone : (((V 16).toInt = 0 ∨ pad (7 * k + 5) = 1) ∨ len.toInt ≤ (V 16).toInt ∧ 10000 ≤ (V 16).toInt) → (len.toInt ≤ 0 → ∀ post : Int64 → Prop, post 0 → P_M_columns q len fam dens values pad post) ∧ (0 < len.toInt → (1 ≤ (1 : Int64).toInt ∧ (1 : Int64).toInt ≤ 30000) ∧ (∀ post : Int64 → Prop, post 1 → P_M_columns q len fam dens values pad post) ∧ (∀ post : Int64 → Prop, post len → P_M_width len 1 fam dens values post) ∧ (∀ (p i : Int64) (post : Int64 → Prop), 0 ≤ i.toInt → i.toInt < (1 : Int64).toInt → post (p + (0 + i * (len + 0))) → P_M_begin p len 1 i fam dens values post)) := by
    intro hcase
    refine ⟨fun hle post hp => q_M_columns hq hk hr5 hf hf8 hval hval8 hg hV hl (fun _ => hp) (fun h _ => by omega) (fun h _ _ => by omega) (fun h _ _ => by omega), fun hlt => ⟨by rw [f1]; omega, fun post hp => ?_, fun post hp => ?_, fun p i post hi0 hi1 hp => ?_⟩⟩
    · refine q_M_columns hq hk hr5 hf hf8 hval hval8 hg hV hl (fun h => by omega) (fun _ _ => hp) (fun _ h16 hr0 y hy hw => ?_) (fun _ h16 hr0 hw => ?_)
      · have hc : yPartN len.toInt (V 16).toInt (V 15).toInt = 1 := by
          have := (q_wide (len := len.toInt) (part := (V 16).toInt) (g := (V 15).toInt) (c := 1) (by omega) hg.1 (by omega)).1 (by
            rw [hw1, if_pos (by omega)]
            rcases hcase with (h | h) | h
            · omega
            · rw [hr0] at h
              exact absurd h (by decide)
            · exact h.1)
          have hB := q_partB (len := len.toInt) (part := (V 16).toInt) (g := (V 15).toInt) (by omega) (by omega) h16 hg.1 hg.2
          omega
        have : y = 1 := by rw [y_eq6, hy, hc, f1]
        rw [this]
        exact hp
      · have hc : yPartN len.toInt (V 16).toInt (V 15).toInt = 1 := by
          have := (q_wide (len := len.toInt) (part := (V 16).toInt) (g := (V 15).toInt) (c := 1) (by omega) hg.1 (by omega)).1 (by
            rw [hw1, if_pos (by omega)]
            rcases hcase with (h | h) | h
            · omega
            · rw [hr0] at h
              exact absurd h (by decide)
            · exact h.1)
          have hB := q_partB (len := len.toInt) (part := (V 16).toInt) (g := (V 15).toInt) (by omega) (by omega) h16 hg.1 hg.2
          omega
        rw [hc, hw1, if_pos (by omega)] at hw
        omega
    · refine q_M_width hf hf8 hval hg (by omega) (by rw [f1]; omega) (fun r hr => ?_)
      rw [f1, hw1, if_pos (by omega)] at hr
      rw [y_eq6.2 hr]
      exact hp
    · refine q_M_width hf hf8 hval hg (by omega) (by rw [f1]; omega) (fun r hr => ?_)
      rw [f1, hw1, if_pos (by omega)] at hr
      rw [y_eq6.2 hr]
      have hi : i = 0 := by
        rw [y_eq6, f0]
        omega
      subst hi
      refine q_Mof (m := 7) hf hf8 (by decide) (by decide) (by decide) (fun x ex => q_Mof (m := 7) hf hf8 (by decide) (by decide) (by decide) ?_)
      rw [hval] at ex
      have hx : x = 0 := by
        rw [ex]
        simp
      rw [hx]
      simpa using hp
  by_cases hwh : (V 16).toInt = 0 ∨ pad (7 * k + 5) = 1
  · refine ⟨1, len, 0, 0, fun _ => ⟨rfl, rfl, rfl, rfl⟩, fun h16 hr0 => ?_, hone (Or.inl hwh)⟩
    rcases hwh with h | h
    · omega
    · rw [hr0] at h
      exact absurd h (by decide)
  · have h16 : 10000 ≤ (V 16).toInt := by omega
    have hr0 : pad (7 * k + 5) = 0 := hr5.resolve_right (fun h => hwh (Or.inr h))
    by_cases hle : len.toInt ≤ (V 16).toInt
    · exact ⟨1, len, 0, 0, fun _ => ⟨rfl, rfl, rfl, rfl⟩, fun _ _ post hp => q_split1 h16 hle hp, hone (Or.inr ⟨hle, h16⟩)⟩
    · have hB := q_partB (len := len.toInt) (part := (V 16).toInt) (g := (V 15).toInt) (by omega) (by omega) h16 hg.1 hg.2
      generalize hN : yPartN len.toInt (V 16).toInt (V 15).toInt = N at *
      obtain ⟨c, sz, hc, hs1, hs2, hsp⟩ := q_split hg ⟨h16, hV2⟩ hl (by omega)
      rw [hN] at hc
      have hz : ∀ r : Int64, 0 < sz.toInt → r.toInt = yWide len.toInt (V 15).toInt c.toInt → r = sz := by
        intro r hpos hr
        by_cases hx : 0 ≤ len.toInt - (c.toInt - 1) * (V 15).toInt
        · rw [y_eq6, hr, hs1 hx, yWide, if_pos hx]
        · have := hs2 (by omega)
          omega
      refine ⟨c, sz, _, _, fun h => absurd h hwh, fun _ _ post hp => hsp post hp, fun hle0 post hp => ?_, fun hpos => ⟨by omega, fun post hp => ?_, fun post hp => ?_, fun p i post hi0 hi1 hp => ?_⟩⟩
      · refine q_M_columns hq hk hr5 hf hf8 hval hval8 hg hV hl (fun _ => hp) (fun h h2 => absurd h2 hwh) (fun _ _ _ y hy hw => ?_) (fun _ _ _ hw => hp)
        rw [hN] at hy
        rw [hy, ← hc] at hw
        by_cases hx : 0 ≤ len.toInt - (c.toInt - 1) * (V 15).toInt
        · have := hs1 hx
          rw [yWide, if_pos hx] at hw
          omega
        · rw [yWide, if_neg hx] at hw
          omega
      · refine q_M_columns hq hk hr5 hf hf8 hval hval8 hg hV hl (fun h => by omega) (fun h h2 => absurd h2 hwh) (fun _ _ _ y hy hw => ?_) (fun _ _ _ hw => ?_)
        · rw [hN] at hy
          rw [y_eq6.2 (hy.trans hc.symm)]
          exact hp
        · rw [hN, ← hc] at hw
          by_cases hx : 0 ≤ len.toInt - (c.toInt - 1) * (V 15).toInt
          · have := hs1 hx
            rw [yWide, if_pos hx] at hw
            omega
          · have := hs2 (by omega)
            omega
      · refine q_M_width hf hf8 hval hg (by omega) (by omega) (fun r hr => ?_)
        rw [hz r hpos hr]
        exact hp
      · refine q_M_width hf hf8 hval hg (by omega) (by omega) (fun r hr => ?_)
        rw [hz r hpos hr]
        refine q_Mof (m := 7) hf hf8 (by decide) (by decide) (by decide) (fun x ex => q_Mof (m := 7) hf hf8 (by decide) (by decide) (by decide) ?_)
        rw [hval] at ex ⊢
        rw [ex, Int64.add_assoc, Int64.mul_comm c sz]
        exact hp
