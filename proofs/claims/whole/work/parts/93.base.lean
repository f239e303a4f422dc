theorem q_xorn {a b : Int64} (ha : a.toInt < 0) (hb : 0 ≤ b.toInt) : ¬ 0 ≤ a ^^^ b := by
  have h1 : a.toBitVec.msb = true := by rw [BitVec.msb_eq_toInt, Int64.toInt_toBitVec, decide_eq_true_iff]; omega
  have h2 : b.toBitVec.msb = false := by rw [BitVec.msb_eq_toInt, Int64.toInt_toBitVec, decide_eq_false_iff_not]; omega
  have h3 : (a ^^^ b).toBitVec.msb = true := by rw [Int64.toBitVec_xor, BitVec.msb_xor, h1, h2]; rfl
  rw [BitVec.msb_eq_toInt, Int64.toInt_toBitVec, decide_eq_true_iff] at h3
  have f0 : (0 : Int64).toInt = 0 := by decide
  rw [y_le6, f0]
  omega
def yUp (p r : Int) : Int := r * ((p + r - 1) / r)
def yDn (p r : Int) : Int := r * (p / r)
theorem q_upU {p r s c : Int} (hr : 1 ≤ r) (hs : s = r * c) (h1 : p ≤ s) (h2 : s < p + r) : s = yUp p r := by
  unfold yUp
  have g1 : c ≤ (p + r - 1) / r := by rw [Int.le_ediv_iff_mul_le (by omega), Int.mul_comm]; omega
  have g2 : (p + r - 1) / r < c + 1 := by rw [Int.ediv_lt_iff_lt_mul (by omega), Int.mul_comm, Int.mul_add]; omega
  have : (p + r - 1) / r = c := by omega
  rw [this, hs]
theorem q_dnU {p r s c : Int} (hr : 1 ≤ r) (hs : s = r * c) (h1 : s ≤ p) (h2 : p < s + r) : s = yDn p r := by
  unfold yDn
  have g1 : c ≤ p / r := by rw [Int.le_ediv_iff_mul_le (by omega), Int.mul_comm]; omega
  have g2 : p / r < c + 1 := by rw [Int.ediv_lt_iff_lt_mul (by omega), Int.mul_comm, Int.mul_add]; omega
  have : p / r = c := by omega
  rw [this, hs]
theorem q_upB {p r : Int} (hr : 1 ≤ r) : p ≤ yUp p r ∧ yUp p r < p + r := by
  unfold yUp
  have g1 := Int.ediv_mul_le (p + r - 1) (b := r) (by omega)
  have g2 := Int.lt_ediv_add_one_mul_self (p + r - 1) (b := r) (by omega)
  rw [Int.mul_comm]
  rw [Int.add_mul] at g2
  omega
theorem q_dnB {p r : Int} (hr : 1 ≤ r) : yDn p r ≤ p ∧ p < yDn p r + r := by
  unfold yDn
  have g1 := Int.ediv_mul_le p (b := r) (by omega)
  have g2 := Int.lt_ediv_add_one_mul_self p (b := r) (by omega)
  rw [Int.mul_comm]
  rw [Int.add_mul] at g2
  omega
theorem q_trem {a r : Int64} (ha : -1000000000000000000 ≤ a.toInt ∧ a.toInt ≤ 1000000000000000000) (hr : 1 ≤ r.toInt ∧ r.toInt ≤ 1000000000000000000) : (a - a / r * r).toInt = a.toInt - r.toInt * (a.toInt.tdiv r.toInt) ∧ -r.toInt < a.toInt - r.toInt * (a.toInt.tdiv r.toInt) ∧ a.toInt - r.toInt * (a.toInt.tdiv r.toInt) < r.toInt ∧ (0 ≤ a.toInt → 0 ≤ a.toInt - r.toInt * (a.toInt.tdiv r.toInt)) ∧ (a.toInt ≤ 0 → a.toInt - r.toInt * (a.toInt.tdiv r.toInt) ≤ 0) := by
  have d1 : (a / r).toInt = a.toInt.tdiv r.toInt := y_div6 (by omega)
  have d2 := Int.tmod_def a.toInt r.toInt
  have d3 := Int.tmod_lt_of_pos a.toInt (b := r.toInt) (by omega)
  have d4 := Int.lt_tmod_of_pos a.toInt (b := r.toInt) (by omega)
  have d5 : 0 ≤ a.toInt → 0 ≤ a.toInt.tmod r.toInt := fun h => Int.tmod_nonneg _ h
  have d6 : a.toInt ≤ 0 → a.toInt.tmod r.toInt ≤ 0 := fun h => by
    have := Int.tmod_nonneg (a := -a.toInt) r.toInt (by omega)
    rw [Int.neg_tmod] at this
    omega
  rw [← d2]
  have d7 : (a / r * r).toInt = r.toInt * a.toInt.tdiv r.toInt := by rw [y_mul6 (by rw [d1, Int.mul_comm]; omega) (by rw [d1, Int.mul_comm]; omega), d1, Int.mul_comm]
  refine ⟨?_, d4, d3, d5, d6⟩
  rw [y_sub6 (by omega) (by omega), d7]
  omega
theorem q_up {p r : Int64} (hp : -100000000000000000 ≤ p.toInt ∧ p.toInt ≤ 100000000000000000) (hr : 1 ≤ r.toInt ∧ r.toInt ≤ 100000000000000000) : ∃ s : Int64, s.toInt = yUp p.toInt r.toInt ∧ (∀ post : Int64 → Prop, post s → P_F_up p r post) ∧ (∀ post : Int64 → Prop, post s → P_M_up p r post) := by
  have f0 : (0 : Int64).toInt = 0 := by decide
  have hB := q_upB (p := p.toInt) (r := r.toInt) hr.1
  obtain ⟨s, hs⟩ : ∃ s : Int64, s.toInt = yUp p.toInt r.toInt := ⟨Int64.ofInt (yUp p.toInt r.toInt), Int64.toInt_ofInt_of_le (by omega) (by omega)⟩
  have hr0 : ¬ r = 0 := by rw [y_eq6]; omega
  have hrp : 0 < r := by rw [y_lt6]; omega
  refine ⟨s, hs, fun post h => ⟨fun _ => ⟨hr0, fun x ex => ?_⟩, fun hx => absurd hrp hx⟩, fun post h => ⟨hr0, fun x ex => ?_⟩⟩
  · have hn : (-p).toInt = -p.toInt := y_neg6 (by omega)
    obtain ⟨t1, t2, t3, t4, t5⟩ := q_trem (a := -p) (r := r) (by omega) (by omega)
    rw [← ex] at t1
    rw [hn] at t1 t2 t3 t4 t5
    generalize (-p.toInt).tdiv r.toInt = T at t1 t2 t3 t4 t5
    have eT : r.toInt * (-T) = -(r.toInt * T) := Int.mul_neg _ _
    have eT1 : r.toInt * (-T + 1) = -(r.toInt * T) + r.toInt := by rw [Int.mul_add, eT, Int.mul_one]
    have key : ∀ y : Int64, y.toInt = yUp p.toInt r.toInt - p.toInt → p + y = s := by
      intro y hy
      rw [y_eq6, y_add6 (by omega) (by omega), hy, hs]
      omega
    refine ⟨fun hx => ?_, fun hx => ⟨fun hz => ?_, fun hz => ?_⟩⟩
    · have ha : 0 ≤ -p.toInt := by
        by_cases hneg : -p.toInt < 0
        · exact absurd hx (q_xorn (by rw [hn]; exact hneg) (by omega))
        · omega
      show post (p + x)
      rw [key x (by rw [t1, ← q_upU (p := p.toInt) hr.1 (c := -T) (s := p.toInt + (-p.toInt - r.toInt * T)) (by omega) (by omega) (by omega)]; omega)]
      exact h
    · rw [y_eq6, f0] at hz
      show post (p + x)
      rw [key x (by rw [← q_upU (p := p.toInt) hr.1 (c := -T) (s := p.toInt) (by omega) (by omega) (by omega)]; omega)]
      exact h
    · rw [y_eq6, f0] at hz
      have ha : -p.toInt < 0 := by
        by_cases hneg : 0 ≤ -p.toInt
        · exact absurd (q_xor (by rw [hn]; exact hneg) (by omega)) hx
        · omega
      have hxr : (x + r).toInt = x.toInt + r.toInt := y_add6 (by omega) (by omega)
      show post (p + (x + r))
      rw [key (x + r) (by rw [hxr, t1, ← q_upU (p := p.toInt) hr.1 (c := -T + 1) (s := p.toInt + (-p.toInt - r.toInt * T) + r.toInt) (by omega) (by omega) (by omega)]; omega)]
      exact h
  · obtain ⟨t1, t2, t3, t4, t5⟩ := q_trem (a := p) (r := r) (by omega) (by omega)
    rw [← ex] at t1
    generalize p.toInt.tdiv r.toInt = T at t1 t2 t3 t4 t5
    have eT1 : r.toInt * (T + 1) = r.toInt * T + r.toInt := by rw [Int.mul_add, Int.mul_one]
    have hpx : (p - x).toInt = p.toInt - x.toInt := y_sub6 (by omega) (by omega)
    refine ⟨fun hz => ⟨fun hx => ?_, fun hx => ?_⟩, fun hz => ?_⟩
    · rw [y_eq6, f0] at hz
      rw [y_le6, f0] at hx
      have : p - x + r = s := by
        rw [y_eq6, hs, y_add6 (by omega) (by omega), hpx, ← q_upU (p := p.toInt) hr.1 (c := T + 1) (s := p.toInt - x.toInt + r.toInt) (by omega) (by omega) (by omega)]
      rw [this]
      exact h
    · rw [y_le6, f0] at hx
      have : p - x = s := by
        rw [y_eq6, hs, hpx, ← q_upU (p := p.toInt) hr.1 (c := T) (s := p.toInt - x.toInt) (by omega) (by omega) (by omega)]
      rw [this]
      exact h
    · rw [y_eq6, f0] at hz
      have : p = s := by
        rw [y_eq6, hs, ← q_upU (p := p.toInt) hr.1 (c := T) (s := p.toInt) (by omega) (by omega) (by omega)]
      rw [this]
      exact h
theorem q_dn {p r : Int64} (hp : -100000000000000000 ≤ p.toInt ∧ p.toInt ≤ 100000000000000000) (hr : 1 ≤ r.toInt ∧ r.toInt ≤ 100000000000000000) : ∃ s : Int64, s.toInt = yDn p.toInt r.toInt ∧ (∀ post : Int64 → Prop, post s → P_F_down p r post) ∧ (∀ post : Int64 → Prop, post s → P_M_down p r post) := by
  have f0 : (0 : Int64).toInt = 0 := by decide
  have hB := q_dnB (p := p.toInt) (r := r.toInt) hr.1
  obtain ⟨s, hs⟩ : ∃ s : Int64, s.toInt = yDn p.toInt r.toInt := ⟨Int64.ofInt (yDn p.toInt r.toInt), Int64.toInt_ofInt_of_le (by omega) (by omega)⟩
  have hr0 : ¬ r = 0 := by rw [y_eq6]; omega
  have hrp : 0 < r := by rw [y_lt6]; omega
  refine ⟨s, hs, fun post h => ⟨fun _ => ⟨hr0, fun x ex => ?_⟩, fun hx => absurd hrp hx⟩, fun post h => ⟨hr0, fun x ex => ?_⟩⟩
  · obtain ⟨t1, t2, t3, t4, t5⟩ := q_trem (a := p) (r := r) (by omega) (by omega)
    rw [← ex] at t1
    generalize p.toInt.tdiv r.toInt = T at t1 t2 t3 t4 t5
    have eT1 : r.toInt * (T - 1) = r.toInt * T - r.toInt := by rw [Int.mul_sub, Int.mul_one]
    have key : ∀ y : Int64, y.toInt = p.toInt - yDn p.toInt r.toInt → p - y = s := by
      intro y hy
      rw [y_eq6, y_sub6 (by omega) (by omega), hy, hs]
      omega
    refine ⟨fun hx => ?_, fun hx => ⟨fun hz => ?_, fun hz => ?_⟩⟩
    · have ha : 0 ≤ p.toInt := by
        by_cases hneg : p.toInt < 0
        · exact absurd hx (q_xorn hneg (by omega))
        · omega
      show post (p - x)
      rw [key x (by rw [t1, ← q_dnU (p := p.toInt) hr.1 (c := T) (s := r.toInt * T) rfl (by omega) (by omega)])]
      exact h
    · rw [y_eq6, f0] at hz
      show post (p - x)
      rw [key x (by rw [← q_dnU (p := p.toInt) hr.1 (c := T) (s := r.toInt * T) rfl (by omega) (by omega)]; omega)]
      exact h
    · rw [y_eq6, f0] at hz
      have ha : p.toInt < 0 := by
        by_cases hneg : 0 ≤ p.toInt
        · exact absurd (q_xor hneg (by omega)) hx
        · omega
      have hxr : (x + r).toInt = x.toInt + r.toInt := y_add6 (by omega) (by omega)
      show post (p - (x + r))
      rw [key (x + r) (by rw [hxr, t1, ← q_dnU (p := p.toInt) hr.1 (c := T - 1) (s := r.toInt * T - r.toInt) (by omega) (by omega) (by omega)]; omega)]
      exact h
  · obtain ⟨t1, t2, t3, t4, t5⟩ := q_trem (a := p) (r := r) (by omega) (by omega)
    rw [← ex] at t1
    generalize p.toInt.tdiv r.toInt = T at t1 t2 t3 t4 t5
    have eT1 : r.toInt * (T - 1) = r.toInt * T - r.toInt := by rw [Int.mul_sub, Int.mul_one]
    have hpx : (p - x).toInt = p.toInt - x.toInt := y_sub6 (by omega) (by omega)
    refine ⟨fun hx => ?_, fun hx => ?_⟩
    · rw [y_le6, f0] at hx
      have : p - x = s := by
        rw [y_eq6, hs, hpx, ← q_dnU (p := p.toInt) hr.1 (c := T) (s := p.toInt - x.toInt) (by omega) (by omega) (by omega)]
      rw [this]
      exact h
    · rw [y_le6, f0] at hx
      have : p - x - r = s := by
        rw [y_eq6, hs, y_sub6 (by omega) (by omega), hpx, ← q_dnU (p := p.toInt) hr.1 (c := T - 1) (s := p.toInt - x.toInt - r.toInt) (by omega) (by omega) (by omega)]
      rw [this]
      exact h
theorem y_or2 (x p a : Int32) : x &&& (p ||| a) = p ||| a ↔ x &&& p = p ∧ x &&& a = a := by
  constructor
  · intro h
    have hb : ∀ i : Nat, (x.toBitVec.getLsbD i && (p.toBitVec.getLsbD i || a.toBitVec.getLsbD i)) = (p.toBitVec.getLsbD i || a.toBitVec.getLsbD i) := by
      intro i
      have := congrArg (fun z : Int32 => z.toBitVec.getLsbD i) h
      simpa only [Int32.toBitVec_and, Int32.toBitVec_or, BitVec.getLsbD_and, BitVec.getLsbD_or] using this
    constructor
    · apply Int32.toBitVec_inj.mp
      apply BitVec.eq_of_getLsbD_eq
      intro i _
      have := hb i
      simp only [Int32.toBitVec_and, BitVec.getLsbD_and]
      revert this
      cases x.toBitVec.getLsbD i <;> cases p.toBitVec.getLsbD i <;> cases a.toBitVec.getLsbD i <;> decide
    · apply Int32.toBitVec_inj.mp
      apply BitVec.eq_of_getLsbD_eq
      intro i _
      have := hb i
      simp only [Int32.toBitVec_and, BitVec.getLsbD_and]
      revert this
      cases x.toBitVec.getLsbD i <;> cases p.toBitVec.getLsbD i <;> cases a.toBitVec.getLsbD i <;> decide
  · rintro ⟨h1, h2⟩
    rw [Int32.and_comm, y_dist, Int32.and_comm p, Int32.and_comm a, h1, h2]
theorem y_mask {x : Int32} : ∀ ws : List Nat, x &&& (ws.foldr (fun w a => yPow w ||| a) 0) = ws.foldr (fun w a => yPow w ||| a) 0 ↔ ∀ w ∈ ws, yBit x w := by
  intro ws
  induction ws with
  | nil => simp
  | cons w ws ih =>
    rw [List.foldr_cons, y_or2, ih]
    simp [yBit]
theorem q_isTold {tb eb : Int32} {lo hi ml mh : Nat → Int64} {mt : Nat → Int32} (h : ySp tb eb lo hi ml mh mt) {w : Int32} {k : Nat} (hw : w.toInt = k) (hk : k < 12) {post : Int32 → Prop} (h1 : mt k = 1 → post 1) (h0 : ¬ mt k = 1 → post 0) : P_Sp_isTold w tb post := by
  have e0 : (0 : Int32).toInt = 0 := by decide
  have e12 : (12 : Int32).toInt = 12 := by decide
  have hn : w.toNatClampNeg = k := by rw [y_nat]; omega
  have hb := (h k hk).2.1
  unfold yBit at hb
  refine ⟨fun hx => ?_, fun _ => ⟨fun hx => ?_, fun _ => ?_⟩⟩
  · rw [y_lt] at hx
    omega
  · rw [y_le] at hx
    omega
  · rw [y_shlp (by omega) (by omega), hn]
    refine ⟨fun hx => ⟨fun _ => h0 (fun hm => hx (hb.2 hm)), fun hx => absurd rfl hx⟩, fun hx => ⟨fun hx => absurd hx (by decide), fun _ => h1 (hb.1 hx)⟩⟩
/-- what is told of a span, or nothing -/
def yHi (mt : Nat → Int32) (mh : Nat → Int64) (k : Nat) : Int64 := if mt k = 1 then mh k else 0
theorem q_highOf {tb eb : Int32} {lo hi ml mh : Nat → Int64} {mt : Nat → Int32} (h : ySp tb eb lo hi ml mh mt) {w : Int32} {k : Nat} (hw : w.toInt = k) (hk : k < 12) {post : Int64 → Prop} (hp : post (yHi mt mh k)) : P_Sp_highOf w tb hi post := by
  have hn : w.toNatClampNeg = k := by rw [y_nat]; omega
  unfold yHi at hp
  refine q_isTold h hw hk (fun hm => ⟨fun hx => absurd hx (by decide), fun _ => ⟨y_in (by omega) (by omega), ?_⟩⟩) (fun hm => ⟨fun _ => ?_, fun hx => absurd rfl hx⟩)
  · rw [if_pos hm] at hp
    rw [hn, ((h k hk).2.2.2 hm).2.1]
    exact hp
  · rw [if_neg hm] at hp
    exact hp
theorem q_lowOf {tb eb : Int32} {lo hi ml mh : Nat → Int64} {mt : Nat → Int32} (h : ySp tb eb lo hi ml mh mt) {w : Int32} {k : Nat} (hw : w.toInt = k) (hk : k < 12) {post : Int64 → Prop} (hp : post (yHi mt ml k)) : P_Sp_lowOf w tb lo post := by
  have hn : w.toNatClampNeg = k := by rw [y_nat]; omega
  unfold yHi at hp
  refine q_isTold h hw hk (fun hm => ⟨fun hx => absurd hx (by decide), fun _ => ⟨y_in (by omega) (by omega), ?_⟩⟩) (fun hm => ⟨fun _ => ?_, fun hx => absurd rfl hx⟩)
  · rw [if_pos hm] at hp
    rw [hn, ((h k hk).2.2.2 hm).1]
    exact hp
  · rw [if_neg hm] at hp
    exact hp
theorem q_hiB {tb eb : Int32} {lo hi ml mh : Nat → Int64} {mt : Nat → Int32} (h : ySp tb eb lo hi ml mh mt) {k : Nat} (hk : k < 12) : 0 ≤ (yHi mt mh k).toInt ∧ (yHi mt mh k).toInt ≤ 100000000 ∧ 0 ≤ (yHi mt ml k).toInt ∧ (yHi mt ml k).toInt ≤ 100000000 := by
  have f0 : (0 : Int64).toInt = 0 := by decide
  unfold yHi
  by_cases hm : mt k = 1
  · have := (h k hk).2.2.2 hm
    rw [if_pos hm, if_pos hm]
    omega
  · rw [if_neg hm, if_neg hm, f0]
    omega
/-- the first n pads are these -/
def yLay (cells : Nat → Int64) (n : Nat) (F : Nat → Nat → Int) : Prop := ∀ k : Nat, k < n → ∀ j : Nat, j < 7 → (cells (7 * k + j)).toInt = F k j
theorem q_lay7 {cells : Nat → Int64} {c : Nat} {F : Nat → Nat → Int} (hl : yLay cells c F) {a0 a1 a2 a3 a4 a5 a6 : Int64} {n0 n1 n2 n3 n4 n5 n6 : Nat} (e0 : n0 = 7 * c) (e1 : n1 = 7 * c + 1) (e2 : n2 = 7 * c + 2) (e3 : n3 = 7 * c + 3) (e4 : n4 = 7 * c + 4) (e5 : n5 = 7 * c + 5) (e6 : n6 = 7 * c + 6) (h0 : a0.toInt = F c 0) (h1 : a1.toInt = F c 1) (h2 : a2.toInt = F c 2) (h3 : a3.toInt = F c 3) (h4 : a4.toInt = F c 4) (h5 : a5.toInt = F c 5) (h6 : a6.toInt = F c 6) : yLay (vp_updL (vp_updL (vp_updL (vp_updL (vp_updL (vp_updL (vp_updL cells n0 a0) n1 a1) n2 a2) n3 a3) n4 a4) n5 a5) n6 a6) (c + 1) F := by
  subst e0 e1 e2 e3 e4 e5 e6
  intro k hk j hj
  simp only [y_updL]
  by_cases e : k = c
  · subst e
    have hjj : j = 0 ∨ j = 1 ∨ j = 2 ∨ j = 3 ∨ j = 4 ∨ j = 5 ∨ j = 6 := by omega
    rcases hjj with rfl | rfl | rfl | rfl | rfl | rfl | rfl
    · rw [if_neg (by omega), if_neg (by omega), if_neg (by omega), if_neg (by omega), if_neg (by omega), if_neg (by omega), if_pos (by omega), h0]
    · rw [if_neg (by omega), if_neg (by omega), if_neg (by omega), if_neg (by omega), if_neg (by omega), if_pos (by omega), h1]
    · rw [if_neg (by omega), if_neg (by omega), if_neg (by omega), if_neg (by omega), if_pos (by omega), h2]
    · rw [if_neg (by omega), if_neg (by omega), if_neg (by omega), if_pos (by omega), h3]
    · rw [if_neg (by omega), if_neg (by omega), if_pos (by omega), h4]
    · rw [if_neg (by omega), if_pos (by omega), h5]
    · rw [if_pos (by omega), h6]
  · rw [if_neg (by omega), if_neg (by omega), if_neg (by omega), if_neg (by omega), if_neg (by omega), if_neg (by omega), if_neg (by omega)]
    exact hl k (by omega) j hj
theorem q_add {p1 cnt p10 : Int32} {p2 p4 p6 p8 p11 : Int64} {cells : Nat → Int64} {c : Nat} {F : Nat → Nat → Int} {post : Int32 → (Nat → Int64) → Prop} (hc : cnt.toInt = c) (hc65 : c < 65) (hl : yLay cells c F) (h0 : p1.toInt = F c 0) (h1 : p2.toInt = F c 1) (h2 : p4.toInt = F c 2) (h3 : p6.toInt = F c 3) (h4 : p8.toInt = F c 4) (h5 : (if p10 = 0 then 0 else 1) = F c 5) (h6 : p11.toInt = F c 6) (hp : ∀ (cnt' : Int32) (cells' : Nat → Int64), cnt'.toInt = c + 1 → yLay cells' (c + 1) F → post cnt' cells') : P_Fp_add p1 p2 p4 p6 p8 p10 p11 cnt cells post := by
  have e0 : (0 : Int32).toInt = 0 := by decide
  have e1 : (1 : Int32).toInt = 1 := by decide
  have e2 : (2 : Int32).toInt = 2 := by decide
  have e3 : (3 : Int32).toInt = 3 := by decide
  have e4 : (4 : Int32).toInt = 4 := by decide
  have e5 : (5 : Int32).toInt = 5 := by decide
  have e6 : (6 : Int32).toInt = 6 := by decide
  have e7 : (7 : Int32).toInt = 7 := by decide
  have e65 : (65 : Int32).toInt = 65 := by decide
  have hx : (cnt * 7).toInt = 7 * c := by rw [y_mul (by rw [e7]; omega) (by rw [e7]; omega), e7]; omega
  have x0 : (cnt * 7 + 0).toInt = 7 * c := by rw [y_add (by omega) (by omega), hx, e0]; omega
  have x1 : (cnt * 7 + 1).toInt = 7 * c + 1 := by rw [y_add (by omega) (by omega), hx, e1]
  have x2 : (cnt * 7 + 2).toInt = 7 * c + 2 := by rw [y_add (by omega) (by omega), hx, e2]
  have x3 : (cnt * 7 + 3).toInt = 7 * c + 3 := by rw [y_add (by omega) (by omega), hx, e3]
  have x4 : (cnt * 7 + 4).toInt = 7 * c + 4 := by rw [y_add (by omega) (by omega), hx, e4]
  have x5 : (cnt * 7 + 5).toInt = 7 * c + 5 := by rw [y_add (by omega) (by omega), hx, e5]
  have x6 : (cnt * 7 + 6).toInt = 7 * c + 6 := by rw [y_add (by omega) (by omega), hx, e6]
  have hs := q_inc (y := cnt) (n := 65) (by omega) (by omega) (by omega)
  refine ⟨fun hx => ?_, fun _ => ⟨fun _ x ex y ey => ?_, fun hx => ?_⟩⟩
  · rw [y_lt] at hx
    omega
  · subst ex ey
    have hlay : ∀ t : Int64, t.toInt = F c 5 → yLay (vp_updL (vp_updL (vp_updL (vp_updL (vp_updL (vp_updL (vp_updL cells (cnt * 7 + 0).toNatClampNeg p1.toInt64) (cnt * 7 + 1).toNatClampNeg p2) (cnt * 7 + 2).toNatClampNeg p4) (cnt * 7 + 3).toNatClampNeg p6) (cnt * 7 + 4).toNatClampNeg p8) (cnt * 7 + 5).toNatClampNeg t) (cnt * 7 + 6).toNatClampNeg p11) (c + 1) F := fun t ht => q_lay7 hl (by rw [y_nat]; omega) (by rw [y_nat]; omega) (by rw [y_nat]; omega) (by rw [y_nat]; omega) (by rw [y_nat]; omega) (by rw [y_nat]; omega) (by rw [y_nat]; omega) (by rw [y_64]; exact h0) h1 h2 h3 h4 ht h6
    refine ⟨y_in (by omega) (by omega), y_in (by omega) (by omega), y_in (by omega) (by omega), y_in (by omega) (by omega), y_in (by omega) (by omega), fun hz => ⟨y_in (by omega) (by omega), y_in (by omega) (by omega), fun z ez => ?_⟩, fun hz => ⟨y_in (by omega) (by omega), y_in (by omega) (by omega), fun z ez => ?_⟩⟩
    · subst ez
      rw [if_pos hz] at h5
      exact hp _ _ (by omega) (hlay 0 h5)
    · subst ez
      rw [if_neg hz] at h5
      exact hp _ _ (by omega) (hlay 1 h5)
  · rw [y_lt] at hx
    omega
theorem q_Madd {p1 cnt p10 : Int32} {p2 p4 p6 p8 p11 : Int64} {cells : Nat → Int64} {c : Nat} {F : Nat → Nat → Int} {post : Int32 → (Nat → Int64) → Prop} (hc : cnt.toInt = c) (hc65 : c < 65) (hl : yLay cells c F) (h0 : p1.toInt = F c 0) (h1 : p2.toInt = F c 1) (h2 : p4.toInt = F c 2) (h3 : p6.toInt = F c 3) (h4 : p8.toInt = F c 4) (h5 : (if p10 = 0 then 0 else 1) = F c 5) (h6 : p11.toInt = F c 6) (hp : ∀ (cnt' : Int32) (cells' : Nat → Int64), cnt'.toInt = c + 1 → yLay cells' (c + 1) F → post cnt' cells') : P_M_addPad p1 p2 p4 p6 p8 p10 p11 cnt cells post := by
  have e1 : (1 : Int32).toInt = 1 := by decide
  have e2 : (2 : Int32).toInt = 2 := by decide
  have e3 : (3 : Int32).toInt = 3 := by decide
  have e4 : (4 : Int32).toInt = 4 := by decide
  have e5 : (5 : Int32).toInt = 5 := by decide
  have e6 : (6 : Int32).toInt = 6 := by decide
  have e7 : (7 : Int32).toInt = 7 := by decide
  have hx : (7 * cnt).toInt = 7 * c := by rw [y_mul (by rw [e7]; omega) (by rw [e7]; omega), e7]; omega
  have x1 : (7 * cnt + 1).toInt = 7 * c + 1 := by rw [y_add (by omega) (by omega), hx, e1]
  have x2 : (7 * cnt + 2).toInt = 7 * c + 2 := by rw [y_add (by omega) (by omega), hx, e2]
  have x3 : (7 * cnt + 3).toInt = 7 * c + 3 := by rw [y_add (by omega) (by omega), hx, e3]
  have x4 : (7 * cnt + 4).toInt = 7 * c + 4 := by rw [y_add (by omega) (by omega), hx, e4]
  have x5 : (7 * cnt + 5).toInt = 7 * c + 5 := by rw [y_add (by omega) (by omega), hx, e5]
  have x6 : (7 * cnt + 6).toInt = 7 * c + 6 := by rw [y_add (by omega) (by omega), hx, e6]
  have hs := q_inc (y := cnt) (n := 65) (by omega) (by omega) (by omega)
  intro x ex y ey
  subst ex ey
  have hlay : ∀ t : Int64, t.toInt = F c 5 → yLay (vp_updL (vp_updL (vp_updL (vp_updL (vp_updL (vp_updL (vp_updL cells (7 * cnt).toNatClampNeg p1.toInt64) (7 * cnt + 1).toNatClampNeg p2) (7 * cnt + 2).toNatClampNeg p4) (7 * cnt + 3).toNatClampNeg p6) (7 * cnt + 4).toNatClampNeg p8) (7 * cnt + 5).toNatClampNeg t) (7 * cnt + 6).toNatClampNeg p11) (c + 1) F := fun t ht => q_lay7 hl (by rw [y_nat]; omega) (by rw [y_nat]; omega) (by rw [y_nat]; omega) (by rw [y_nat]; omega) (by rw [y_nat]; omega) (by rw [y_nat]; omega) (by rw [y_nat]; omega) (by rw [y_64]; exact h0) h1 h2 h3 h4 ht h6
  refine ⟨y_in (by omega) (by omega), y_in (by omega) (by omega), y_in (by omega) (by omega), y_in (by omega) (by omega), y_in (by omega) (by omega), fun hz => ⟨y_in (by omega) (by omega), y_in (by omega) (by omega), fun z ez => ?_⟩, fun hz => ⟨y_in (by omega) (by omega), y_in (by omega) (by omega), fun z ez => ?_⟩⟩
  · subst ez
    rw [if_pos hz] at h5
    exact hp _ _ (by omega) (hlay 0 h5)
  · subst ez
    rw [if_neg hz] at h5
    exact hp _ _ (by omega) (hlay 1 h5)
