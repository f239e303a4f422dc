theorem q_MofV {p fam dens : Int32} {values : Nat → Int64} {post : Int64 → Prop} {f m d : Nat} {v : Int64} (hf : fam.toInt = f) (hf8 : f < 8) (hm : p.toInt = m) (h1 : m < 4) (hd : dens.toInt = d) (hd2 : d < 3) (hv : values (30 * f + 3 * m + d) = v) (h : post v) : P_M_of p fam dens values post := q_MofD hf hf8 hm h1 hd hd2 (by rw [hv]; exact h)
theorem q_row1 {F : Nat → Nat → Int} {c0 : Nat} {x p a w sh ho : Int} {desc : Bool} (p' : Int) (h : yRowU F c0 1 x p a w sh ho desc) : yRowU F c0 1 x p' a w sh ho desc := by
  intro i hi
  have e : i = 0 := by omega
  subst e
  obtain ⟨g0, g1, g2, g3⟩ := h 0 (by decide)
  refine ⟨g0, g1, ?_, g3⟩
  rw [g2]
  cases desc <;> simp [yMid]
theorem q_M532 {p1 : Int32} {p2 : Int64} {told : Nat → Int32} {high : Nat → Int64} {post : Int32 → Int32 → Int32 → (Nat → Int64) → Prop} {y6 : Int64} {cnt : Int32} {cells : Nat → Int64} (hk : ¬ p1 = 2) (h : post 1 cnt 0 cells) : P_M_makeSides_532 p1 p2 0 told high post y6 cnt cells := ⟨fun _ => h, fun hx => absurd hx hk⟩
theorem q_M267two {p1 : Int32} {p2 : Int64} {told : Nat → Int32} {high : Nat → Int64} {pad : Nat → Int64} {post : Int32 → Int32 → Int32 → (Nat → Int64) → Prop} {o i a P n64 : Int64} {n : Nat} {F : Nat → Nat → Int} (hk : ¬ p1 = 2) (hn : n64.toInt = n) (hn32 : n ≤ 32) (hp : 0 ≤ P.toInt ∧ P.toInt ≤ 100000000) (hp2 : P.toInt % 2 = 0) (ha : 0 ≤ a.toInt ∧ a.toInt ≤ 1000000000) (hio : 0 ≤ i.toInt ∧ i.toInt ≤ o.toInt ∧ o.toInt ≤ 1000000000) (hl : yRowU F 0 n (-(o.toInt / 2)) P.toInt a.toInt ((o.toInt - i.toInt) / 2) 0 0 true) (hr : yRowU F n n (i.toInt / 2) P.toInt a.toInt ((o.toInt - i.toInt) / 2) 0 0 false) (h : ∀ (cnt : Int32) (cells : Nat → Int64), cnt.toInt = (2 * n : Nat) → yLay cells (2 * n) F → post 1 cnt 0 cells) : P_M_makeSides_267 p1 p2 0 0 told high pad post o i a P n64 := by
  have f0 : (0 : Int64).toInt = 0 := by decide
  have e0 : (0 : Int32).toInt = 0 := by decide
  have hw1 : (o - i).toInt = o.toInt - i.toInt := y_sub6 (by omega) (by omega)
  have hw : ((o - i) / 2).toInt = (o.toInt - i.toInt) / 2 := by rw [q_half (by omega), hw1]
  intro x ex
  rw [← hw, ← ex] at hl hr
  refine ⟨n + 1, q_M281 (n := n) (c0 := 0) hn (by omega) hp hp2 ha (by omega) hl (fun c1 l1 k1 m1 => ⟨1, ?_⟩) n 0 0 pad (by decide) (by rw [f0]; omega) (by rw [f0]; decide) q_lay0⟩
  rw [Nat.zero_add] at k1 m1
  have h406 : P_M_makeSides_406 p1 p2 0 told high post i a P n64 x c1 l1 := by
    refine ⟨n + 1, q_M409 (y4 := 0) (n := n) (c0 := n) hn (by omega) hp hp2 ha (by omega) hr (fun c2 l2 k2 m2 => ⟨1, ?_⟩) n 0 c1 l1 (by decide) (by rw [f0]; omega) (by rw [f0]; omega) m1⟩
    have e2 : n + n = 2 * n := by omega
    rw [e2] at k2 m2
    have h532 := q_M532 (p2 := p2) (told := told) (high := high) (y6 := i) hk (h c2 l2 k2 m2)
    exact ⟨fun _ => h532, fun _ => ⟨fun _ => h532, fun hx => absurd hx hk⟩⟩
  exact ⟨fun _ => h406, fun _ => ⟨fun _ => h406, fun hx => absurd hx hk⟩⟩
theorem q_M267quad {p2 : Int64} {told : Nat → Int32} {high : Nat → Int64} {pad : Nat → Int64} {post : Int32 → Int32 → Int32 → (Nat → Int64) → Prop} {o i a P n64 tw th : Int64} {n : Nat} (ht8 : told 8 = 0 ∨ told 8 = 1) (ht9 : told 9 = 0 ∨ told 9 = 1) (hn : n64.toInt = n) (hn16 : n ≤ 16) (hp : 0 ≤ P.toInt ∧ P.toInt ≤ 100000000) (hp2 : P.toInt % 2 = 0) (ha : 0 ≤ a.toInt ∧ a.toInt ≤ 1000000000) (hio : 0 ≤ i.toInt ∧ i.toInt ≤ o.toInt ∧ o.toInt ≤ 1000000000) (htw : told 8 = 1 → ∀ pst : Int64 → Prop, pst tw → P_M_up (high 8) (2 * p2) pst) (hth : told 9 = 1 → ∀ pst : Int64 → Prop, pst th → P_M_up (high 9) (2 * p2) pst) (hb : ¬ yTh told i.toInt tw.toInt th.toInt → ∀ c1 c2 c3, post 0 c1 c2 c3) (hg : yTh told i.toInt tw.toInt th.toInt → ∀ (cnt : Int32) (cells : Nat → Int64), cnt.toInt = (4 * n + (if told 8 = 1 ∧ told 9 = 1 then 1 else 0) : Nat) → yLay cells (4 * n + (if told 8 = 1 ∧ told 9 = 1 then 1 else 0)) (yF4 n (-(o.toInt / 2)) (i.toInt / 2) P.toInt a.toInt ((o.toInt - i.toInt) / 2) tw.toInt th.toInt) → post 1 cnt (if told 8 = 1 ∧ told 9 = 1 then 1 else 0) cells) : P_M_makeSides_267 2 p2 0 0 told high pad post o i a P n64 := by
  have f0 : (0 : Int64).toInt = 0 := by decide
  have e0 : (0 : Int32).toInt = 0 := by decide
  have hw1 : (o - i).toInt = o.toInt - i.toInt := y_sub6 (by omega) (by omega)
  have hw : ((o - i) / 2).toInt = (o.toInt - i.toInt) / 2 := by rw [q_half (by omega), hw1]
  intro x ex
  rw [← ex] at hw
  rw [← hw] at hg
  refine ⟨n + 1, q_M281 (F := yF4 n (-(o.toInt / 2)) (i.toInt / 2) P.toInt a.toInt x.toInt tw.toInt th.toInt) (n := n) (c0 := 0) hn (by omega) hp hp2 ha (by omega) q_F4l (fun c1 l1 k1 m1 => ⟨n + 1, ?_⟩) n 0 0 pad (by decide) (by rw [f0]; omega) (by rw [f0]; decide) q_lay0⟩
  rw [Nat.zero_add] at k1 m1
  refine q_M345 (F := yF4 n (-(o.toInt / 2)) (i.toInt / 2) P.toInt a.toInt x.toInt tw.toInt th.toInt) (n := n) (c0 := n) hn (by omega) hp hp2 ha (by omega) rfl q_F4b (fun c2 l2 k2 m2 => ⟨n + 1, ?_⟩) n 0 c1 l1 (by decide) (by rw [f0]; omega) (by rw [f0]; omega) m1
  have e2 : n + n = 2 * n := by omega
  rw [e2] at k2 m2
  refine q_M409 (y4 := 0) (F := yF4 n (-(o.toInt / 2)) (i.toInt / 2) P.toInt a.toInt x.toInt tw.toInt th.toInt) (n := n) (c0 := 2 * n) hn (by omega) hp hp2 ha (by omega) q_F4r (fun c3 l3 k3 m3 => ⟨n + 1, ?_⟩) n 0 c2 l2 (by decide) (by rw [f0]; omega) (by rw [f0]; omega) m2
  have e3 : 2 * n + n = 3 * n := by omega
  rw [e3] at k3 m3
  refine q_M467 (y4 := 0) (F := yF4 n (-(o.toInt / 2)) (i.toInt / 2) P.toInt a.toInt x.toInt tw.toInt th.toInt) (n := n) (c0 := 3 * n) hn (by omega) hp hp2 ha (by omega) rfl q_F4t (fun c4 l4 k4 m4 => ?_) n 0 c3 l3 (by decide) (by rw [f0]; omega) (by rw [f0]; omega) m3
  have e4 : 3 * n + n = 4 * n := by omega
  rw [e4] at k4 m4
  refine ⟨fun hx => absurd rfl hx, fun _ => ⟨y_in (by decide) (by decide), ?_⟩⟩
  have hno : ¬ (told 8 = 1 ∧ told 9 = 1) → post 1 c4 0 l4 := fun hx => by
    have := hg (fun hy => absurd hy hx) c4 l4
    rw [if_neg hx, if_neg hx] at this
    exact this (by simpa using k4) (by simpa using m4)
  refine ⟨fun t8 => ⟨fun hx => absurd hx (by decide), fun _ => hno (fun hx => absurd (t8.symm.trans hx.1) (by decide))⟩, fun t8 => ⟨y_in (by decide) (by decide), fun t9 => ⟨y_in (by decide) (by decide), ?_⟩, fun t9 => ⟨fun hx => absurd hx (by decide), fun _ => hno (fun hx => absurd (t9.symm.trans hx.2) (by decide))⟩⟩⟩
  have g8 : told 8 = 1 := ht8.resolve_left t8
  have g9 : told 9 = 1 := ht9.resolve_left t9
  have hboth : told 8 = 1 ∧ told 9 = 1 := ⟨g8, g9⟩
  have bad : ¬ yTh told i.toInt tw.toInt th.toInt → ∀ (u2 u3 : Int32) (u4 : Nat → Int64), ((0 : Int32) = 0 → post 0 u2 u3 u4) ∧ (¬ (0 : Int32) = 0 → P_M_makeSides_547 post u2 u3 u4) := fun hx u2 u3 u4 => ⟨fun _ => hb hx _ _ _, fun hx => absurd rfl hx⟩
  refine htw g8 _ ⟨y_in (by decide) (by decide), hth g9 _ ⟨fun hx => bad ?_ _ _ _, fun hx => ⟨fun hx2 => bad ?_ _ _ _, fun hx2 => ⟨fun hx3 => bad ?_ _ _ _, fun hx3 => ⟨fun hx4 => ?_, fun hx4 => bad ?_ _ _ _⟩⟩⟩⟩⟩
  · rw [y_le6, f0] at hx
    intro hy
    have := hy hboth
    omega
  · rw [y_le6, f0] at hx2
    intro hy
    have := hy hboth
    omega
  · rw [y_le6] at hx3
    intro hy
    have := hy hboth
    omega
  · rw [y_le6, f0] at hx hx2
    rw [y_le6] at hx3
    rw [y_lt6] at hx4
    have hcs : (c4 + 1).toInt = c4.toInt + 1 := q_inc (n := 65) (by omega) (by omega) (by omega)
    refine q_Madd (F := yF4 n (-(o.toInt / 2)) (i.toInt / 2) P.toInt a.toInt x.toInt tw.toInt th.toInt) (c := 4 * n) k4 (by omega) m4 (by rw [q_F4m, yElT, if_pos rfl]; omega) (by rw [q_F4m]; simp only [yElT]; exact q_nhalf (by omega)) (by rw [q_F4m]; simp only [yElT]; exact q_nhalf (by omega)) (by rw [q_F4m]; rfl) (by rw [q_F4m]; rfl) (by rw [q_F4m]; rfl) (by rw [q_F4m]; rfl) (fun c5 l5 k5 m5 => ⟨fun hx => absurd hx (by decide), fun _ => ?_⟩)
    have := hg (fun _ => ⟨by omega, by omega, by omega, by omega⟩) c5 l5
    rw [if_pos hboth, if_pos hboth] at this
    exact this (by omega) m5
  · rw [y_lt6] at hx4
    intro hy
    have := hy hboth
    omega
theorem q_Mexact {told : Nat → Int32} {low high : Nat → Int64} {w : Int32} {k : Nat} (hw : w.toInt = k) (hk : k < 12) (ht : told k = 0 ∨ told k = 1) {post : Int32 → Prop} (h1 : told k = 1 ∧ low k = high k → post 1) (h0 : ¬ (told k = 1 ∧ low k = high k) → post 0) : P_M_isExact w told low high post := by
  have hn : w.toNatClampNeg = k := by rw [y_nat]; omega
  have hv : vp_in w 12 := y_in (by omega) (by omega)
  refine ⟨hv, ?_⟩
  rw [hn]
  refine ⟨fun g => h0 (fun hx => absurd (g.symm.trans hx.1) (by decide)), fun g => ⟨hv, hv, fun g2 => h0 (fun hx => g2 hx.2), fun g2 => h1 ⟨ht.resolve_left g, g2⟩⟩⟩
theorem q_MhasPitch {told : Nat → Int32} {low high : Nat → Int64} (ht : told 3 = 0 ∨ told 3 = 1) (hb : told 3 = 1 → 0 ≤ (high 3).toInt ∧ (high 3).toInt ≤ 100000000) {post : Int32 → Prop} (h1 : (told 3 = 1 ∧ low 3 = high 3) ∧ 0 < (high 3).toInt ∧ (high 3).toInt % 2 = 0 → post 1) (h0 : ¬ ((told 3 = 1 ∧ low 3 = high 3) ∧ 0 < (high 3).toInt ∧ (high 3).toInt % 2 = 0) → post 0) : P_M_hasPitch told low high post := by
  have f0 : (0 : Int64).toInt = 0 := by decide
  have f2 : (2 : Int64).toInt = 2 := by decide
  have v3 : vp_in 3 12 := y_in (by decide) (by decide)
  refine q_Mexact (k := 3) (by decide) (by decide) ht (fun hE => ⟨fun hx => absurd hx (by decide), fun _ => ⟨v3, fun g => h0 ?_, fun g => ⟨v3, fun g2 => h0 ?_, fun g2 => h1 ?_⟩⟩⟩) (fun hE => ⟨fun _ => h0 (fun hx => hE hx.1), fun hx => absurd rfl hx⟩)
  · have g : high 3 ≤ 0 := g
    rw [y_le6, f0] at g
    omega
  · have hz := q_remz (a := high 3) (t := 2) (by have := hb hE.1; omega) (by rw [f2]; omega)
    rw [f2] at hz
    have g2 : ¬ (high 3 - high 3 / 2 * 2 = 0) := g2
    rw [hz] at g2
    omega
  · have hz := q_remz (a := high 3) (t := 2) (by have := hb hE.1; omega) (by rw [f2]; omega)
    rw [f2] at hz
    have g2 : high 3 - high 3 / 2 * 2 = 0 := g2
    have g : ¬ high 3 ≤ 0 := g
    rw [hz] at g2
    rw [y_le6, f0] at g
    exact ⟨hE, by omega, g2⟩
theorem q_MhasCount {told : Nat → Int32} {low high : Nat → Int64} {t : Int64} (htt : 1 ≤ t.toInt ∧ t.toInt ≤ 4) (ht : told 4 = 0 ∨ told 4 = 1) (hb : told 4 = 1 → 0 ≤ (high 4).toInt ∧ (high 4).toInt ≤ 100000000) {post : Int32 → Prop} (h1 : (told 4 = 1 ∧ low 4 = high 4) ∧ t.toInt ≤ (high 4).toInt ∧ (high 4).toInt ≤ 64 ∧ (high 4).toInt % t.toInt = 0 → post 1) (h0 : ¬ ((told 4 = 1 ∧ low 4 = high 4) ∧ t.toInt ≤ (high 4).toInt ∧ (high 4).toInt ≤ 64 ∧ (high 4).toInt % t.toInt = 0) → post 0) : P_M_hasCount t t told low high post := by
  have f0 : (0 : Int64).toInt = 0 := by decide
  have f64 : (64 : Int64).toInt = 64 := by decide
  have v4 : vp_in 4 12 := y_in (by decide) (by decide)
  refine q_Mexact (k := 4) (by decide) (by decide) ht (fun hE => ⟨fun hx => absurd hx (by decide), fun _ => ⟨v4, fun g => h0 ?_, fun g => ⟨v4, fun g2 => h0 ?_, fun g2 => ⟨v4, fun hx => ?_, fun g3 => h0 ?_, fun g3 => h1 ?_⟩⟩⟩⟩) (fun hE => ⟨fun _ => h0 (fun hx => hE hx.1), fun hx => absurd rfl hx⟩)
  · have g : high 4 < t := g
    rw [y_lt6] at g
    omega
  · have g2 : 64 < high 4 := g2
    rw [y_lt6, f64] at g2
    omega
  · rw [y_eq6, f0] at hx
    omega
  · have hz := q_remz (a := high 4) (t := t) (by have := hb hE.1; omega) (by omega)
    have g3 : ¬ (high 4 - high 4 / t * t = 0) := g3
    rw [hz] at g3
    exact fun hx => g3 hx.2.2.2
  · have hz := q_remz (a := high 4) (t := t) (by have := hb hE.1; omega) (by omega)
    have g3 : high 4 - high 4 / t * t = 0 := g3
    have g : ¬ high 4 < t := g
    have g2 : ¬ 64 < high 4 := g2
    rw [hz] at g3
    rw [y_lt6] at g
    rw [y_lt6, f64] at g2
    exact ⟨hE, by omega, by omega, g3⟩
/-- when a flat kind can be made -/
def yGoodF (kind : Nat) (mt : Nat → Int32) (ml mh : Nat → Int64) (o i a tw th : Int) : Prop := (mt 0 = 1 ∧ mt 1 = 1 ∧ mt 2 = 1) ∧ (kind = 0 ∨ (mt 3 = 1 ∧ ml 3 = mh 3) ∧ (mt 4 = 1 ∧ ml 4 = mh 4)) ∧ 0 < a ∧ yRows kind (yHi mt mh 3).toInt o i a (yHi mt mh 4).toInt ∧ (kind = 2 → yTh mt i tw th)
theorem q_Mflat {tb eb : Int32} {lo hi ml mh : Nat → Int64} {mt : Nat → Int32} (h : ySp tb eb lo hi ml mh mt) {k32 fam dens : Int32} {values pad : Nat → Int64} {r toe heel side o i a tw th : Int64} {f d kind n : Nat} (hkk : k32.toInt = kind) (hkind : kind = 0 ∨ kind = 1 ∨ kind = 2) (hf : fam.toInt = f) (hf8 : f < 8) (hd : dens.toInt = d) (hd3 : d < 3) (hv0 : values (30 * f + 3 * 0 + d) = toe) (hv1 : values (30 * f + 3 * 1 + d) = heel) (hv2 : values (30 * f + 3 * 2 + d) = side) (ho : mt 0 = 1 → ∀ pst : Int64 → Prop, pst o → P_M_up (mh 0 + 2 * toe) (2 * r) pst) (hi' : mt 1 = 1 → ∀ pst : Int64 → Prop, pst i → P_M_down (ml 1 - 2 * heel) (2 * r) pst) (ha' : mt 2 = 1 → ∀ pst : Int64 → Prop, pst a → P_M_up (mh 2 + 2 * side) (2 * r) pst) (hio : i.toInt ≤ 1000000000 ∧ o.toInt ≤ 1000000000) (ha : a.toInt ≤ 1000000000) (htw : mt 8 = 1 → ∀ pst : Int64 → Prop, pst tw → P_M_up (mh 8) (2 * r) pst) (hth : mt 9 = 1 → ∀ pst : Int64 → Prop, pst th → P_M_up (mh 9) (2 * r) pst) (hn : yPer kind (yHi mt mh 4).toInt = n) {post : Int32 → Int32 → Int32 → (Nat → Int64) → Prop} (hb : ¬ yGoodF kind mt ml mh o.toInt i.toInt a.toInt tw.toInt th.toInt → ∀ c1 c2 c3, post 0 c1 c2 c3) (hg2 : ¬ kind = 2 → yGoodF kind mt ml mh o.toInt i.toInt a.toInt tw.toInt th.toInt → ∀ (cnt : Int32) (cells : Nat → Int64), cnt.toInt = (2 * n : Nat) → yLay cells (2 * n) (yF2 n (-(o.toInt / 2)) (i.toInt / 2) (yHi mt mh 3).toInt a.toInt ((o.toInt - i.toInt) / 2) 0 0) → post 1 cnt 0 cells) (hg4 : kind = 2 → yGoodF kind mt ml mh o.toInt i.toInt a.toInt tw.toInt th.toInt → ∀ (cnt : Int32) (cells : Nat → Int64), cnt.toInt = (4 * n + (if mt 8 = 1 ∧ mt 9 = 1 then 1 else 0) : Nat) → yLay cells (4 * n + (if mt 8 = 1 ∧ mt 9 = 1 then 1 else 0)) (yF4 n (-(o.toInt / 2)) (i.toInt / 2) (yHi mt mh 3).toInt a.toInt ((o.toInt - i.toInt) / 2) tw.toInt th.toInt) → post 1 cnt (if mt 8 = 1 ∧ mt 9 = 1 then 1 else 0) cells) : P_M_makeSides k32 r fam dens 0 0 mt mh values ml pad post := by
  have f0 : (0 : Int64).toInt = 0 := by decide
  have f1 : (1 : Int64).toInt = 1 := by decide
  have f2 : (2 : Int64).toInt = 2 := by decide
  have f4 : (4 : Int64).toInt = 4 := by decide
  have e0 : (0 : Int32).toInt = 0 := by decide
  have e1 : (1 : Int32).toInt = 1 := by decide
  have e2 : (2 : Int32).toInt = 2 := by decide
  have T := fun k (hk : k < 12) => (h k hk).1
  refine ⟨y_in (by decide) (by decide), fun t0 => hb (fun G => absurd (t0.symm.trans G.1.1) (by decide)) _ _ _, fun t0 => ⟨y_in (by decide) (by decide), fun t1 => hb (fun G => absurd (t1.symm.trans G.1.2.1) (by decide)) _ _ _, fun t1 => ⟨y_in (by decide) (by decide), fun t2 => ?_, fun t2 => hb (fun G => absurd (t2.symm.trans G.1.2.2) (by decide)) _ _ _⟩⟩⟩
  have m0 : mt 0 = 1 := (T 0 (by decide)).resolve_left t0
  have m1 : mt 1 = 1 := (T 1 (by decide)).resolve_left t1
  have m2 : mt 2 = 1 := (T 2 (by decide)).resolve_left t2
  have b3 : mt 3 = 1 → 0 ≤ (mh 3).toInt ∧ (mh 3).toInt ≤ 100000000 := fun hm => by have := (h 3 (by decide)).2.2.2 hm; omega
  have b4 : mt 4 = 1 → 0 ≤ (mh 4).toInt ∧ (mh 4).toInt ≤ 100000000 := fun hm => by have := (h 4 (by decide)).2.2.2 hm; omega
  have H3 : mt 3 = 1 → yHi mt mh 3 = mh 3 := fun hm => by unfold yHi; rw [if_pos hm]
  have H4 : mt 4 = 1 → yHi mt mh 4 = mh 4 := fun hm => by unfold yHi; rw [if_pos hm]
  refine ⟨y_in (by decide) (by decide), q_MofV (m := 0) hf hf8 (by decide) (by decide) hd hd3 hv0 (ho m0 _ ⟨y_in (by decide) (by decide), q_MofV (m := 1) hf hf8 (by decide) (by decide) hd hd3 hv1 (hi' m1 _ ⟨y_in (by decide) (by decide), q_MofV (m := 2) hf hf8 (by decide) (by decide) hd hd3 hv2 (ha' m2 _ ?_)⟩)⟩)⟩
  refine ⟨fun g => hb (fun G => ?_) _ _ _, fun g => ⟨fun g2 => hb (fun G => ?_) _ _ _, fun g2 => ⟨fun g3 => ?_, fun g3 => hb (fun G => ?_) _ _ _⟩⟩⟩
  · rw [y_le6, f0] at g
    have := G.2.2.2.1.1
    omega
  · rw [y_le6] at g2
    have := G.2.2.2.1.2.1
    omega
  · rw [y_le6, f0] at g
    rw [y_le6] at g2
    rw [y_lt6, f0] at g3
    rcases hkind with rfl | rfl | rfl
    · have hk0 : k32 = 0 := by rw [y_eq, e0]; exact hkk
      have n1 : n = 1 := by
        unfold yPer at hn
        simp at hn
        omega
      subst n1 hk0
      have hG : yGoodF 0 mt ml mh o.toInt i.toInt a.toInt tw.toInt th.toInt := ⟨⟨m0, m1, m2⟩, Or.inl rfl, g3, ⟨by omega, by omega, Or.inl rfl⟩, fun hx => absurd hx (by decide)⟩
      refine ⟨fun hx => absurd rfl hx, fun _ => ⟨fun _ => ⟨fun _ => ⟨fun _ => ⟨fun hx => absurd rfl hx, fun _ => ⟨fun _ => ?_, fun hx => absurd hx (by decide)⟩⟩, fun hx => absurd hx (by decide)⟩, fun hx => absurd hx (by decide)⟩, fun hx => absurd rfl hx⟩⟩
      exact q_M267two (n := 1) (by decide) (by decide) (by decide) (by rw [f0]; omega) (by decide) (by omega) (by omega) (q_row1 _ q_F2l) (q_row1 _ q_F2r) (hg2 (by decide) hG)
    · have hk0 : k32 = 1 := by rw [y_eq, e1]; exact hkk
      subst hk0
      refine ⟨fun _ => ⟨y_in (by decide) (by decide), fun hx => absurd hx (by decide), fun _ => q_MhasPitch (T 3 (by decide)) b3 (fun hP => ⟨fun hx => absurd hx (by decide), fun _ => ⟨fun gp => ⟨fun hx => absurd rfl hx, fun _ => q_MhasCount (by rw [f2]; omega) (T 4 (by decide)) b4 (fun hC => ⟨fun hx => absurd hx (by decide), fun _ => ⟨fun _ => ⟨fun _ => ⟨fun hx => absurd rfl hx, fun _ => ⟨y_in (by decide) (by decide), fun _ => ?_, fun hx => absurd hx (by decide)⟩⟩, fun hx => absurd hx (by decide)⟩, fun hx => absurd hx (by decide)⟩⟩) (fun hC => ⟨fun _ => hb (fun G => hC ?_) _ _ _, fun hx => absurd rfl hx⟩)⟩, fun gp => hb (fun G => ?_) _ _ _⟩⟩) (fun hP => ⟨fun _ => hb (fun G => hP ?_) _ _ _, fun hx => absurd rfl hx⟩)⟩, fun hx => absurd hx (by decide)⟩
      · have gp : a < mh 3 := gp
        rw [y_lt6] at gp
        rw [f2] at hC
        have hH3 := H3 hP.1.1
        have hH4 := H4 hC.1.1
        have hG : yGoodF 1 mt ml mh o.toInt i.toInt a.toInt tw.toInt th.toInt := ⟨⟨m0, m1, m2⟩, Or.inr ⟨hP.1, hC.1⟩, g3, ⟨by omega, by omega, Or.inr (by rw [hH3, hH4]; exact ⟨by simpa using hC.2.1, hC.2.2.1, by simpa using hC.2.2.2, hP.2.1, hP.2.2, gp, fun hx => absurd hx (by decide)⟩)⟩, fun hx => absurd hx (by decide)⟩
        have hn' : (mh 4 / 2).toInt = n := by
          unfold yPer at hn
          rw [hH4] at hn
          simp at hn
          rw [q_half (by omega)]
          exact hn
        have hgg := hg2 (by decide) hG
        rw [hH3] at hgg
        have hn32 : n ≤ 32 := by
          rw [q_half (by omega)] at hn'
          omega
        exact q_M267two (n := n) (by decide) hn' hn32 (b3 hP.1.1) hP.2.2 (by omega) (by omega) q_F2l q_F2r hgg
      · obtain ⟨_, hx | hx, _, ⟨_, _, hy | hy⟩, _⟩ := G
        · exact absurd hx (by decide)
        · exact absurd hx (by decide)
        · exact absurd hy (by decide)
        · rw [H4 hx.2.1] at hy
          rw [f2]
          exact ⟨hx.2, by simpa using hy.1, hy.2.1, by simpa using hy.2.2.1⟩
      · have gp : ¬ a < mh 3 := gp
        rw [y_lt6] at gp
        obtain ⟨_, hx | hx, _, ⟨_, _, hy | hy⟩, _⟩ := G
        · exact absurd hx (by decide)
        · exact absurd hx (by decide)
        · exact absurd hy (by decide)
        · rw [H3 hx.1.1] at hy
          omega
      · obtain ⟨_, hx | hx, _, ⟨_, _, hy | hy⟩, _⟩ := G
        · exact absurd hx (by decide)
        · exact absurd hx (by decide)
        · exact absurd hy (by decide)
        · rw [H3 hx.1.1] at hy
          exact ⟨hx.1, hy.2.2.2.1, hy.2.2.2.2.1⟩
    · have hk0 : k32 = 2 := by rw [y_eq, e2]; exact hkk
      subst hk0
      refine ⟨fun _ => ⟨y_in (by decide) (by decide), fun hx => absurd hx (by decide), fun _ => q_MhasPitch (T 3 (by decide)) b3 (fun hP => ⟨fun hx => absurd hx (by decide), fun _ => ⟨fun gp => ⟨fun _ => ⟨fun hx => absurd rfl hx, fun _ => q_MhasCount (by rw [f4]; omega) (T 4 (by decide)) b4 (fun hC => ⟨fun _ => ⟨fun _ => ⟨fun _ => ⟨y_in (by decide) (by decide), fun hx => absurd rfl hx, fun _ => ?_⟩, fun hx => absurd hx (by decide)⟩, fun hx => absurd hx (by decide)⟩, fun hx => absurd hx (by decide)⟩) (fun hC => ⟨fun hx => absurd rfl hx, fun _ => hb (fun G => hC ?_) _ _ _⟩)⟩, fun hx => absurd hx (by decide)⟩, fun gp => hb (fun G => ?_) _ _ _⟩⟩) (fun hP => ⟨fun _ => hb (fun G => hP ?_) _ _ _, fun hx => absurd rfl hx⟩)⟩, fun hx => absurd hx (by decide)⟩
      · have gp : a < mh 3 := gp
        rw [y_lt6] at gp
        rw [f4] at hC
        have hH3 := H3 hP.1.1
        have hH4 := H4 hC.1.1
        have hb3 := b3 hP.1.1
        have hn4 : (mh 4 / 4).toInt = (mh 4).toInt / 4 := by rw [y_div6 (by omega), f4, Int.tdiv_eq_ediv_of_nonneg (by omega)]
        have hn' : (mh 4 / 4).toInt = n := by
          unfold yPer at hn
          rw [hH4] at hn
          simp at hn
          rw [hn4]
          exact hn
        have d2 : (mh 4 / 4 - 1).toInt = (mh 4).toInt / 4 - 1 := by rw [y_sub6 (by omega) (by omega), hn4, f1]
        have bb := q_mulb (a := (mh 4).toInt / 4 - 1) (b := (mh 3).toInt) (A := 16) (B := 100000000) (by omega) (by omega) (by omega) (by omega)
        have d3 : ((mh 4 / 4 - 1) * mh 3).toInt = ((mh 4).toInt / 4 - 1) * (mh 3).toInt := by rw [y_mul6 (by rw [d2]; omega) (by rw [d2]; omega), d2]
        have d4 : ((mh 4 / 4 - 1) * mh 3 + a).toInt = ((mh 4).toInt / 4 - 1) * (mh 3).toInt + a.toInt := by rw [y_add6 (by omega) (by omega), d3]
        refine ⟨fun hfit => ?_, fun hfit => hb (fun G => ?_) _ _ _⟩
        · have hfit : (mh 4 / 4 - 1) * mh 3 + a ≤ i := hfit
          rw [y_le6, d4] at hfit
          have hpre : yTh mt i.toInt tw.toInt th.toInt → yGoodF 2 mt ml mh o.toInt i.toInt a.toInt tw.toInt th.toInt := fun hT => ⟨⟨m0, m1, m2⟩, Or.inr ⟨hP.1, hC.1⟩, g3, ⟨by omega, by omega, Or.inr (by rw [hH3, hH4]; exact ⟨by simpa using hC.2.1, hC.2.2.1, by simpa using hC.2.2.2, hP.2.1, hP.2.2, gp, fun _ => hfit⟩)⟩, fun _ => hT⟩
          refine q_M267quad (n := n) (T 8 (by decide)) (T 9 (by decide)) hn' (by omega) hb3 hP.2.2 (by omega) (by omega) htw hth (fun hT => hb (fun G => hT (G.2.2.2.2 rfl))) (fun hT => ?_)
          have := hg4 rfl (hpre hT)
          rw [hH3] at this
          exact this
        · have hfit : ¬ (mh 4 / 4 - 1) * mh 3 + a ≤ i := hfit
          rw [y_le6, d4] at hfit
          obtain ⟨_, hx | hx, _, ⟨_, _, hy | hy⟩, _⟩ := G
          · exact absurd hx (by decide)
          · exact absurd hx (by decide)
          · exact absurd hy (by decide)
          · rw [hH3, hH4] at hy
            exact hfit (hy.2.2.2.2.2.2 rfl)
      · obtain ⟨_, hx | hx, _, ⟨_, _, hy | hy⟩, _⟩ := G
        · exact absurd hx (by decide)
        · exact absurd hx (by decide)
        · exact absurd hy (by decide)
        · rw [H4 hx.2.1] at hy
          rw [f4]
          exact ⟨hx.2, by simpa using hy.1, hy.2.1, by simpa using hy.2.2.1⟩
      · have gp : ¬ a < mh 3 := gp
        rw [y_lt6] at gp
        obtain ⟨_, hx | hx, _, ⟨_, _, hy | hy⟩, _⟩ := G
        · exact absurd hx (by decide)
        · exact absurd hx (by decide)
        · exact absurd hy (by decide)
        · rw [H3 hx.1.1] at hy
          omega
      · obtain ⟨_, hx | hx, _, ⟨_, _, hy | hy⟩, _⟩ := G
        · exact absurd hx (by decide)
        · exact absurd hx (by decide)
        · exact absurd hy (by decide)
        · rw [H3 hx.1.1] at hy
          exact ⟨hx.1, hy.2.2.2.1, hy.2.2.2.2.1⟩
  · rw [y_lt6, f0] at g3
    have := G.2.2.1
    omega
