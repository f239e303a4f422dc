theorem q_remz {a t : Int64} (ha : 0 ≤ a.toInt ∧ a.toInt ≤ 1000000000000) (ht : 1 ≤ t.toInt ∧ t.toInt ≤ 1000000) : (a - a / t * t = 0) ↔ a.toInt % t.toInt = 0 := by
  obtain ⟨t1, _⟩ := q_trem (a := a) (r := t) (by omega) (by omega)
  rw [y_eq6, (by decide : (0 : Int64).toInt = 0), t1, Int.tdiv_eq_ediv_of_nonneg ha.1, Int.emod_def]
theorem q_isEven {p : Int64} (hp : 0 ≤ p.toInt ∧ p.toInt ≤ 1000000000) {post : Int32 → Prop} (h1 : 0 < p.toInt ∧ p.toInt % 2 = 0 → post 1) (h0 : ¬ (0 < p.toInt ∧ p.toInt % 2 = 0) → post 0) : P_Ma_isEvenAboveZero p post := by
  have f0 : (0 : Int64).toInt = 0 := by decide
  have f2 : (2 : Int64).toInt = 2 := by decide
  have hz := q_remz (a := p) (t := 2) (by omega) (by rw [f2]; omega)
  rw [f2] at hz
  refine ⟨fun h => h0 ?_, fun h => ⟨fun hn => h0 ?_, fun hn => h1 ?_⟩⟩
  · rw [y_le6, f0] at h
    omega
  · rw [hz] at hn
    omega
  · rw [y_le6, f0] at h
    rw [hz] at hn
    omega
theorem q_isWithin {p a b : Int64} {post : Int32 → Prop} (h1 : a.toInt ≤ p.toInt ∧ p.toInt ≤ b.toInt → post 1) (h0 : ¬ (a.toInt ≤ p.toInt ∧ p.toInt ≤ b.toInt) → post 0) : P_F_isWithin p a b post := by
  refine ⟨fun h => h0 ?_, fun h => ⟨fun g => h0 ?_, fun g => h1 ?_⟩⟩
  · rw [y_lt6] at h
    omega
  · rw [y_lt6] at g
    omega
  · rw [y_lt6] at h g
    omega
/-- do the rows fit -/
def yRows (kind : Nat) (P o i a H4 : Int) : Prop := 0 < i ∧ i < o ∧ (kind = 0 ∨ ((if kind = 2 then 4 else 2) ≤ H4 ∧ H4 ≤ 64 ∧ H4 % (if kind = 2 then 4 else 2) = 0 ∧ 0 < P ∧ P % 2 = 0 ∧ a < P ∧ (kind = 2 → (H4 / 4 - 1) * P + a ≤ i)))
theorem q_rowsFit {tb eb : Int32} {lo hi ml mh : Nat → Int64} {mt : Nat → Int32} (h : ySp tb eb lo hi ml mh mt) {kind : Nat} (hk : kind < 5) {pitch o i a : Int64} (hp : 0 ≤ pitch.toInt ∧ pitch.toInt ≤ 100000000) (hib : -1000000000 ≤ i.toInt ∧ i.toInt ≤ 1000000000) (ha : -1000000000 ≤ a.toInt ∧ a.toInt ≤ 1000000000) {post : Int32 → Prop} (h1 : yRows kind pitch.toInt o.toInt i.toInt a.toInt (yHi mt mh 4).toInt → post 1) (h0 : ¬ yRows kind pitch.toInt o.toInt i.toInt a.toInt (yHi mt mh 4).toInt → post 0) : P_Ma_rowsFit kind pitch o i a tb hi post := by
  have f0 : (0 : Int64).toInt = 0 := by decide
  have f1 : (1 : Int64).toInt = 1 := by decide
  have f4 : (4 : Int64).toInt = 4 := by decide
  have f64 : (64 : Int64).toInt = 64 := by decide
  have hB := q_hiB h (k := 4) (by decide)
  unfold yRows at h1 h0
  refine ⟨fun g => h0 ?_, fun g => ⟨fun g2 => ⟨hk, fun gk => q_highOf h (k := 4) (by decide) (by decide) ⟨hk, fun gk2 => ?_, fun gk2 => ?_⟩, fun gk => h1 ?_⟩, fun g2 => h0 ?_⟩⟩
  · rw [y_le6, f0] at g
    omega
  · rw [if_neg gk2] at h1 h0
    rw [y_le6, f0] at g
    rw [y_lt6] at g2
    have e : (2 : Int32).toInt64.toInt = 2 := by decide
    have hz := q_remz (a := yHi mt mh 4) (t := (2 : Int32).toInt64) (by omega) (by rw [e]; omega)
    rw [e] at hz
    refine q_isWithin (fun gw => ⟨fun hn => absurd hn (by decide), fun _ => ⟨by decide, fun gr => q_isEven (by omega) (fun ge => ⟨fun hn => absurd hn (by decide), fun _ => ⟨fun gp => ⟨hk, fun _ => h1 ?_, fun hn => absurd hn gk2⟩, fun gp => h0 ?_⟩⟩) (fun ge => ⟨fun _ => h0 ?_, fun hn => absurd rfl hn⟩), fun gr => h0 ?_⟩⟩) (fun gw => ⟨fun _ => h0 ?_, fun hn => absurd rfl hn⟩)
    · rw [hz] at gr
      rw [y_lt6] at gp
      rw [e, f64] at gw
      exact ⟨by omega, by omega, Or.inr ⟨by omega, by omega, gr, ge.1, ge.2, gp, fun hn => absurd hn gk2⟩⟩
    · rw [y_lt6] at gp
      omega
    · omega
    · rw [hz] at gr
      omega
    · rw [e, f64] at gw
      omega
  · rw [if_pos gk2] at h1 h0
    rw [y_le6, f0] at g
    rw [y_lt6] at g2
    have e : (4 : Int32).toInt64.toInt = 4 := by decide
    have hz := q_remz (a := yHi mt mh 4) (t := (4 : Int32).toInt64) (by omega) (by rw [e]; omega)
    rw [e] at hz
    refine q_isWithin (fun gw => ⟨fun hn => absurd hn (by decide), fun _ => ⟨by decide, fun gr => q_isEven (by omega) (fun ge => ⟨fun hn => absurd hn (by decide), fun _ => ⟨fun gp => ⟨hk, fun hn => absurd gk2 hn, fun _ => ⟨fun gf => h0 ?_, fun gf => h1 ?_⟩⟩, fun gp => h0 ?_⟩⟩) (fun ge => ⟨fun _ => h0 ?_, fun hn => absurd rfl hn⟩), fun gr => h0 ?_⟩⟩) (fun gw => ⟨fun _ => h0 ?_, fun hn => absurd rfl hn⟩)
    · rw [e, f64] at gw
      have d1 : (yHi mt mh 4 / 4).toInt = (yHi mt mh 4).toInt / 4 := by rw [y_div6 (by omega), f4, Int.tdiv_eq_ediv_of_nonneg (by omega)]
      have d2 : (yHi mt mh 4 / 4 - 1).toInt = (yHi mt mh 4).toInt / 4 - 1 := by rw [y_sub6 (by omega) (by omega), d1, f1]
      have b := q_mulb (a := (yHi mt mh 4).toInt / 4 - 1) (b := pitch.toInt) (A := 16) (B := 100000000) (by omega) (by omega) (by omega) (by omega)
      have d3 : ((yHi mt mh 4 / 4 - 1) * pitch).toInt = ((yHi mt mh 4).toInt / 4 - 1) * pitch.toInt := by rw [y_mul6 (by rw [d2]; omega) (by rw [d2]; omega), d2]
      rw [y_lt6, y_add6 (by omega) (by omega), d3] at gf
      rintro ⟨_, _, hk0 | ⟨_, _, _, _, _, _, hh⟩⟩
      · exact gk hk0
      · have := hh gk2
        omega
    · rw [e, f64] at gw
      have d1 : (yHi mt mh 4 / 4).toInt = (yHi mt mh 4).toInt / 4 := by rw [y_div6 (by omega), f4, Int.tdiv_eq_ediv_of_nonneg (by omega)]
      have d2 : (yHi mt mh 4 / 4 - 1).toInt = (yHi mt mh 4).toInt / 4 - 1 := by rw [y_sub6 (by omega) (by omega), d1, f1]
      have b := q_mulb (a := (yHi mt mh 4).toInt / 4 - 1) (b := pitch.toInt) (A := 16) (B := 100000000) (by omega) (by omega) (by omega) (by omega)
      have d3 : ((yHi mt mh 4 / 4 - 1) * pitch).toInt = ((yHi mt mh 4).toInt / 4 - 1) * pitch.toInt := by rw [y_mul6 (by rw [d2]; omega) (by rw [d2]; omega), d2]
      rw [y_lt6, y_add6 (by omega) (by omega), d3] at gf
      rw [hz] at gr
      rw [y_lt6] at gp
      exact ⟨by omega, by omega, Or.inr ⟨by omega, by omega, gr, ge.1, ge.2, gp, fun _ => by omega⟩⟩
    · rw [y_lt6] at gp
      omega
    · omega
    · rw [hz] at gr
      omega
    · rw [e, f64] at gw
      omega
  · rw [y_le6, f0] at g
    rw [y_lt6] at g2
    exact ⟨by omega, by omega, Or.inl gk⟩
  · rw [y_lt6] at g2
    omega
/-- pads of one side -/
def yPer (kind : Nat) (H4 : Int) : Int := if kind = 0 then 1 else H4 / (if kind = 2 then 4 else 2)
theorem q_padsOfSide {tb eb : Int32} {lo hi ml mh : Nat → Int64} {mt : Nat → Int32} (h : ySp tb eb lo hi ml mh mt) {kind : Nat} (hk : kind < 5) {post : Int32 → Prop} (hp : ∀ r : Int32, r.toInt = yPer kind (yHi mt mh 4).toInt → post r) : P_Ma_padsOfSide kind tb hi post := by
  have hB := q_hiB h (k := 4) (by decide)
  refine ⟨hk, fun gk => q_highOf h (k := 4) (by decide) (by decide) ⟨hk, fun gk2 => ⟨by decide, hp _ ?_⟩, fun gk2 => ⟨by decide, hp _ ?_⟩⟩, fun gk => hp _ ?_⟩
  · have e : (2 : Int32).toInt64.toInt = 2 := by decide
    have d : (yHi mt mh 4 / (2 : Int32).toInt64).toInt = (yHi mt mh 4).toInt / 2 := by rw [y_div6 (by omega), e, Int.tdiv_eq_ediv_of_nonneg (by omega)]
    rw [y_32 (by omega) (by omega), d, yPer, if_neg gk, if_neg gk2]
  · have e : (4 : Int32).toInt64.toInt = 4 := by decide
    have d : (yHi mt mh 4 / (4 : Int32).toInt64).toInt = (yHi mt mh 4).toInt / 4 := by rw [y_div6 (by omega), e, Int.tdiv_eq_ediv_of_nonneg (by omega)]
    rw [y_32 (by omega) (by omega), d, yPer, if_neg gk, if_pos gk2]
  · rw [yPer, if_pos gk]
    decide
/-- one pad of a standing row, of a lying row, the thermal pad -/
def yElU (n : Nat) (x p a w sh ho : Int) (desc : Bool) (c0 i j : Nat) : Int := if j = 0 then c0 + i + 1 else if j = 1 then x else if j = 2 then yMid (if desc then n - 1 - i else i) n p - a / 2 else if j = 3 then w else if j = 4 then a else if j = 5 then sh else ho
def yElL (n : Nat) (y p a h : Int) (desc : Bool) (c0 i j : Nat) : Int := if j = 0 then c0 + i + 1 else if j = 1 then yMid (if desc then n - 1 - i else i) n p - a / 2 else if j = 2 then y else if j = 3 then a else if j = 4 then h else 0
def yElT (c : Nat) (tw th : Int) (j : Nat) : Int := if j = 0 then c + 1 else if j = 1 then -(tw / 2) else if j = 2 then -(th / 2) else if j = 3 then tw else if j = 4 then th else 0
theorem q_rowU {F : Nat → Nat → Int} {c0 n : Nat} {x p a w sh ho : Int} {desc : Bool} (h : ∀ i : Nat, i < n → ∀ j : Nat, F (c0 + i) j = yElU n x p a w sh ho desc c0 i j) : yRowU F c0 n x p a w sh ho desc := by
  intro i hi
  refine ⟨?_, ?_, ?_, ?_, ?_, ?_, ?_⟩ <;> rw [h i hi] <;> simp [yElU]
theorem q_rowL {F : Nat → Nat → Int} {c0 n : Nat} {y p a hh : Int} {desc : Bool} (h : ∀ i : Nat, i < n → ∀ j : Nat, F (c0 + i) j = yElL n y p a hh desc c0 i j) : yRowL F c0 n y p a hh desc := by
  intro i hi
  refine ⟨?_, ?_, ?_, ?_, ?_, ?_, ?_⟩ <;> rw [h i hi] <;> simp [yElL]
/-- two rows -/
def yF2 (n : Nat) (xl xr p a w sh ho : Int) (k j : Nat) : Int := if k < n then yElU n xl p a w sh ho true 0 k j else yElU n xr p a w sh ho false n (k - n) j
/-- four rows and the thermal pad -/
def yF4 (n : Nat) (xl xr p a w tw th : Int) (k j : Nat) : Int := if k < n then yElU n xl p a w 0 0 true 0 k j else if k < 2 * n then yElL n xl p a w false n (k - n) j else if k < 3 * n then yElU n xr p a w 0 0 false (2 * n) (k - 2 * n) j else if k < 4 * n then yElL n xr p a w true (3 * n) (k - 3 * n) j else yElT (4 * n) tw th j
theorem q_F2l {n : Nat} {xl xr p a w sh ho : Int} : yRowU (yF2 n xl xr p a w sh ho) 0 n xl p a w sh ho true := q_rowU (fun i hi j => by unfold yF2; rw [if_pos (by omega), Nat.zero_add])
theorem q_F2r {n : Nat} {xl xr p a w sh ho : Int} : yRowU (yF2 n xl xr p a w sh ho) n n xr p a w sh ho false := q_rowU (fun i hi j => by unfold yF2; rw [if_neg (by omega), Nat.add_sub_cancel_left])
theorem q_F4l {n : Nat} {xl xr p a w tw th : Int} : yRowU (yF4 n xl xr p a w tw th) 0 n xl p a w 0 0 true := q_rowU (fun i hi j => by unfold yF4; rw [if_pos (by omega), Nat.zero_add])
theorem q_F4b {n : Nat} {xl xr p a w tw th : Int} : yRowL (yF4 n xl xr p a w tw th) n n xl p a w false := q_rowL (fun i hi j => by unfold yF4; rw [if_neg (by omega), if_pos (by omega), Nat.add_sub_cancel_left])
theorem q_F4r {n : Nat} {xl xr p a w tw th : Int} : yRowU (yF4 n xl xr p a w tw th) (2 * n) n xr p a w 0 0 false := q_rowU (fun i hi j => by unfold yF4; rw [if_neg (by omega), if_neg (by omega), if_pos (by omega), Nat.add_sub_cancel_left])
theorem q_F4t {n : Nat} {xl xr p a w tw th : Int} : yRowL (yF4 n xl xr p a w tw th) (3 * n) n xr p a w true := q_rowL (fun i hi j => by unfold yF4; rw [if_neg (by omega), if_neg (by omega), if_neg (by omega), if_pos (by omega), Nat.add_sub_cancel_left])
theorem q_F4m {n : Nat} {xl xr p a w tw th : Int} (j : Nat) : yF4 n xl xr p a w tw th (4 * n) j = yElT (4 * n) tw th j := by unfold yF4; rw [if_neg (by omega), if_neg (by omega), if_neg (by omega), if_neg (by omega)]
theorem q_lay0 {cells : Nat → Int64} {F : Nat → Nat → Int} : yLay cells 0 F := fun k hk => absurd hk (Nat.not_lt_zero k)
/-- is the thermal pad right -/
def yTh (mt : Nat → Int32) (i tw th : Int) : Prop := mt 8 = 1 ∧ mt 9 = 1 → 0 < tw ∧ tw < i ∧ 0 < th ∧ th < i
theorem q_C18two {tb eb : Int32} {lo hi ml mh : Nat → Int64} {mt : Nat → Int32} (h : ySp tb eb lo hi ml mh mt) {kind : Nat} (hk : kind < 5) (hk2 : ¬ kind = 2) {rounding pitch o i a hole : Int64} {t0 : Int32} {cells : Nat → Int64} {n : Nat} (hn : yPer kind (yHi mt mh 4).toInt = n) (hp : 0 ≤ pitch.toInt ∧ pitch.toInt ≤ 100000000) (hib : -1000000000 ≤ i.toInt ∧ i.toInt ≤ 1000000000) (ha : -1000000000 ≤ a.toInt ∧ a.toInt ≤ 1000000000) (ho : o.toInt ≤ 1000000000) (ht0 : ¬ t0 = 0 → 0 ≤ a.toInt) {post : Int32 → Int64 → Int64 → Int64 → Int64 → Int32 → Int32 → (Nat → Int64) → Prop} (hb : ¬ (¬ t0 = 0 ∧ yRows kind pitch.toInt o.toInt i.toInt a.toInt (yHi mt mh 4).toInt) → ∀ c1 c2 c3 c4 cnt th cells', post 0 c1 c2 c3 c4 cnt th cells') (hg : (¬ t0 = 0 ∧ yRows kind pitch.toInt o.toInt i.toInt a.toInt (yHi mt mh 4).toInt) → n ≤ 32 → ∀ c1 c2 c3 c4 (cnt : Int32) cells', cnt.toInt = (2 * n : Nat) → yLay cells' (2 * n) (yF2 n (-(o.toInt / 2)) (i.toInt / 2) pitch.toInt a.toInt ((o.toInt - i.toInt) / 2) (if hole.toInt ≤ 0 then 0 else 1) hole.toInt) → post 1 c1 c2 c3 c4 cnt (-1) cells') : P_Ma_makeSides_18 kind rounding pitch tb hi 0 (-1) cells post t0 o i a hole := by
  refine ⟨fun g => hb (fun hh => hh.1 g) _ _ _ _ _ _ _, fun g => q_rowsFit h hk hp hib ha (fun hr => ⟨fun _ => ?_, fun hn => absurd hn (by decide)⟩) (fun hr => ⟨fun hn => absurd rfl hn, fun _ => hb (fun hh => hr hh.2) _ _ _ _ _ _ _⟩)⟩
  have hn32 : n ≤ 32 := by
    unfold yPer at hn
    rw [if_neg hk2] at hn
    obtain ⟨_, _, hk0 | ⟨r1, r2, _⟩⟩ := hr
    · rw [if_pos hk0] at hn
      omega
    · split at hn <;> omega
  have hg := hg ⟨g, hr⟩ hn32
  obtain ⟨hr1, hr2, _⟩ := hr
  have ha0 := ht0 g
  refine q_padsOfSide h hk (fun r hr => ⟨hk, fun _ => ?_, fun hx => absurd hx hk2⟩)
  refine q_upright (F := yF2 n (-(o.toInt / 2)) (i.toInt / 2) pitch.toInt a.toInt ((o.toInt - i.toInt) / 2) (if hole.toInt ≤ 0 then 0 else 1) hole.toInt) (n := n) (c0 := 0) (by omega) (by omega) hp (by omega) (by omega) q_F2l (by decide) q_lay0 (fun cnt1 cells1 k1 l1 => ?_)
  rw [Nat.zero_add] at k1 l1
  refine q_upright (F := yF2 n (-(o.toInt / 2)) (i.toInt / 2) pitch.toInt a.toInt ((o.toInt - i.toInt) / 2) (if hole.toInt ≤ 0 then 0 else 1) hole.toInt) (n := n) (c0 := n) (by omega) (by omega) hp (by omega) (by omega) q_F2r (by omega) l1 (fun cnt2 cells2 k2 l2 => ?_)
  have e2 : n + n = 2 * n := by omega
  rw [e2] at k2 l2
  exact hg _ _ _ _ _ _ k2 l2
theorem q_C18quad {tb eb : Int32} {lo hi ml mh : Nat → Int64} {mt : Nat → Int32} (h : ySp tb eb lo hi ml mh mt) {rounding pitch o i a : Int64} {t0 : Int32} {cells : Nat → Int64} {n : Nat} (hn : yPer 2 (yHi mt mh 4).toInt = n) (hp : 0 ≤ pitch.toInt ∧ pitch.toInt ≤ 100000000) (hib : -1000000000 ≤ i.toInt ∧ i.toInt ≤ 1000000000) (ha : -1000000000 ≤ a.toInt ∧ a.toInt ≤ 1000000000) (ho : o.toInt ≤ 1000000000) (ht0 : ¬ t0 = 0 → 0 ≤ a.toInt) {tw th : Int64} (htw : ∀ pst : Int64 → Prop, pst tw → P_F_up (yHi mt mh 8) (2 * rounding) pst) (hth : ∀ pst : Int64 → Prop, pst th → P_F_up (yHi mt mh 9) (2 * rounding) pst) {post : Int32 → Int64 → Int64 → Int64 → Int64 → Int32 → Int32 → (Nat → Int64) → Prop} (hb : ¬ (¬ t0 = 0 ∧ yRows 2 pitch.toInt o.toInt i.toInt a.toInt (yHi mt mh 4).toInt ∧ yTh mt i.toInt tw.toInt th.toInt) → ∀ c1 c2 c3 c4 cnt thm cells', post 0 c1 c2 c3 c4 cnt thm cells') (hg : (¬ t0 = 0 ∧ yRows 2 pitch.toInt o.toInt i.toInt a.toInt (yHi mt mh 4).toInt ∧ yTh mt i.toInt tw.toInt th.toInt) → n ≤ 16 → ∀ c1 c2 c3 c4 (cnt thm : Int32) cells', cnt.toInt = (4 * n + (if mt 8 = 1 ∧ mt 9 = 1 then 1 else 0) : Nat) → yLay cells' (4 * n + (if mt 8 = 1 ∧ mt 9 = 1 then 1 else 0)) (yF4 n (-(o.toInt / 2)) (i.toInt / 2) pitch.toInt a.toInt ((o.toInt - i.toInt) / 2) tw.toInt th.toInt) → (if mt 8 = 1 ∧ mt 9 = 1 then thm.toInt = 4 * n else thm = -1) → post 1 c1 c2 c3 c4 cnt thm cells') : P_Ma_makeSides_18 2 rounding pitch tb hi 0 (-1) cells post t0 o i a 0 := by
  have f0 : (0 : Int64).toInt = 0 := by decide
  refine ⟨fun g => hb (fun hh => hh.1 g) _ _ _ _ _ _ _, fun g => q_rowsFit h (by decide) hp hib ha (fun hr => ⟨fun _ => ?_, fun hn => absurd hn (by decide)⟩) (fun hr => ⟨fun hn => absurd rfl hn, fun _ => hb (fun hh => hr hh.2.1) _ _ _ _ _ _ _⟩)⟩
  have hrr := hr
  have hn16 : n ≤ 16 ∧ 1 ≤ n := by
    unfold yPer at hn
    obtain ⟨_, _, hk0 | ⟨r1, r2, _⟩⟩ := hr
    · exact absurd hk0 (by decide)
    · simp at hn r1
      omega
  obtain ⟨hr1, hr2, _⟩ := hr
  have ha0 := ht0 g
  refine q_padsOfSide h (by decide) (fun r hr => ⟨by decide, fun hx => absurd rfl hx, fun _ => ?_⟩)
  refine q_upright (F := yF4 n (-(o.toInt / 2)) (i.toInt / 2) pitch.toInt a.toInt ((o.toInt - i.toInt) / 2) tw.toInt th.toInt) (n := n) (c0 := 0) (by omega) (by omega) hp (by omega) (by omega) q_F4l (by decide) q_lay0 (fun cnt1 cells1 k1 l1 => ?_)
  rw [Nat.zero_add] at k1 l1
  refine q_lying (F := yF4 n (-(o.toInt / 2)) (i.toInt / 2) pitch.toInt a.toInt ((o.toInt - i.toInt) / 2) tw.toInt th.toInt) (n := n) (c0 := n) (by omega) (by omega) hp (by omega) (by omega) q_F4b (by omega) l1 (fun cnt2 cells2 k2 l2 => ?_)
  have e2 : n + n = 2 * n := by omega
  rw [e2] at k2 l2
  refine q_upright (F := yF4 n (-(o.toInt / 2)) (i.toInt / 2) pitch.toInt a.toInt ((o.toInt - i.toInt) / 2) tw.toInt th.toInt) (n := n) (c0 := 2 * n) (by omega) (by omega) hp (by omega) (by omega) q_F4r (by omega) l2 (fun cnt3 cells3 k3 l3 => ?_)
  have e3 : 2 * n + n = 3 * n := by omega
  rw [e3] at k3 l3
  refine q_lying (F := yF4 n (-(o.toInt / 2)) (i.toInt / 2) pitch.toInt a.toInt ((o.toInt - i.toInt) / 2) tw.toInt th.toInt) (n := n) (c0 := 3 * n) (by omega) (by omega) hp (by omega) (by omega) q_F4t (by omega) l3 (fun cnt4 cells4 k4 l4 => ?_)
  have e4 : 3 * n + n = 4 * n := by omega
  rw [e4] at k4 l4
  have hno : ¬ (mt 8 = 1 ∧ mt 9 = 1) → post 1 o i a 0 cnt4 (-1) cells4 := fun hx => by
    have := hg ⟨g, hrr, fun hy => absurd hy hx⟩ hn16.1 o i a 0 cnt4 (-1) cells4
    rw [if_neg hx, if_neg hx] at this
    exact this (by simpa using k4) (by simpa using l4) rfl
  have hbad : ¬ yTh mt i.toInt tw.toInt th.toInt → ∀ c1 c2 c3 c4 cnt thm cells', post 0 c1 c2 c3 c4 cnt thm cells' := fun hx => hb (fun hh => hx hh.2.2)
  refine q_isTold h (k := 8) (by decide) (by decide) (fun g8 => ⟨fun hx => absurd hx (by decide), fun _ => q_isTold h (k := 9) (by decide) (by decide) (fun g9 => ⟨fun _ => ?_, fun hx => absurd hx (by decide)⟩) (fun g9 => ⟨fun hx => absurd rfl hx, fun _ => ⟨y_n1, hno (fun hx => g9 hx.2)⟩⟩)⟩) (fun g8 => ⟨fun _ => ⟨y_n1, hno (fun hx => g8 hx.1)⟩, fun hx => absurd rfl hx⟩)
  refine q_highOf h (k := 8) (by decide) (by decide) (htw _ (q_highOf h (k := 9) (by decide) (by decide) (hth _ ?_)))
  have hboth : mt 8 = 1 ∧ mt 9 = 1 := ⟨g8, g9⟩
  refine ⟨fun hx => ⟨y_n0, hbad ?_ _ _ _ _ _ _ _⟩, fun hx => ⟨fun hx2 => ⟨y_n0, hbad ?_ _ _ _ _ _ _ _⟩, fun hx2 => ⟨fun hx3 => ⟨y_n0, hbad ?_ _ _ _ _ _ _ _⟩, fun hx3 => ⟨fun hx4 => ?_, fun hx4 => ⟨y_n0, hbad ?_ _ _ _ _ _ _ _⟩⟩⟩⟩⟩
  · rw [y_le6, f0] at hx
    intro hy
    have := hy hboth
    omega
  · rw [y_le6] at hx2
    intro hy
    have := hy hboth
    omega
  · rw [y_le6, f0] at hx3
    intro hy
    have := hy hboth
    omega
  · rw [y_le6, f0] at hx hx3
    rw [y_le6] at hx2
    rw [y_lt6] at hx4
    have hcs : (cnt4 + 1).toInt = cnt4.toInt + 1 := q_inc (n := 65) (by omega) (by omega) (by omega)
    refine q_add (F := yF4 n (-(o.toInt / 2)) (i.toInt / 2) pitch.toInt a.toInt ((o.toInt - i.toInt) / 2) tw.toInt th.toInt) (c := 4 * n) k4 (by omega) l4 (by rw [q_F4m, yElT, if_pos rfl]; omega) (by rw [q_F4m]; simp only [yElT]; exact q_nhalf (by omega)) (by rw [q_F4m]; simp only [yElT]; exact q_nhalf (by omega)) (by rw [q_F4m]; rfl) (by rw [q_F4m]; rfl) (by rw [q_F4m]; rfl) (by rw [q_F4m]; rfl) (fun cnt5 cells5 k5 l5 => ⟨y_n1, ?_⟩)
    have := hg ⟨g, hrr, fun _ => ⟨by omega, by omega, by omega, by omega⟩⟩ hn16.1 o i a 0 cnt5 cnt4 cells5
    rw [if_pos hboth, if_pos hboth] at this
    exact this (by omega) l5 (by omega)
  · rw [y_lt6] at hx4
    intro hy
    have := hy hboth
    omega
