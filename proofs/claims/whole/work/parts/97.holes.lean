theorem q_upEven {p r : Int} : yUp p (2 * r) % 2 = 0 := by
  unfold yUp
  rw [Int.mul_assoc, Int.mul_emod_right]
theorem q_dnEven {p r : Int} : yDn p (2 * r) % 2 = 0 := by
  unfold yDn
  rw [Int.mul_assoc, Int.mul_emod_right]
/-- when holes can be made -/
def yGoodH (mt : Nat → Int32) (ml mh : Nat → Int64) (h0 ho ac : Int) : Prop := (mt 0 = 1 ∧ ml 0 = mh 0) ∧ mt 2 = 1 ∧ (mt 3 = 1 ∧ ml 3 = mh 3) ∧ (mt 4 = 1 ∧ ml 4 = mh 4) ∧ 0 < ho ∧ (0 < h0 ∧ h0 % 2 = 0) ∧ yRows 4 (yHi mt mh 3).toInt (h0 + ac) (h0 - ac) ac (yHi mt mh 4).toInt
theorem q_Choles {tb eb : Int32} {lo hi ml mh : Nat → Int64} {mt : Nat → Int32} (h : ySp tb eb lo hi ml mh mt) {r toe heel side pitch ho ri : Int64} {cells : Nat → Int64} {n : Nat} (hr : 1 ≤ r.toInt ∧ r.toInt ≤ 10000000) (hpitch : pitch = yHi mt mh 3) (hho : ∀ pst : Int64 → Prop, pst ho → P_F_up (yHi mt mh 2 + 2 * heel) (2 * r) pst) (hri : ∀ pst : Int64 → Prop, pst ri → P_F_up side r pst) (bho : -1000000 ≤ ho.toInt ∧ ho.toInt ≤ 150000000) (bri : 0 ≤ ri.toInt ∧ ri.toInt ≤ 30000000) (hn : yPer 4 (yHi mt mh 4).toInt = n) {post : Int32 → Int64 → Int64 → Int64 → Int64 → Int32 → Int32 → (Nat → Int64) → Prop} (hb : ¬ (0 < ho.toInt ∧ (0 < (yHi mt mh 0).toInt ∧ (yHi mt mh 0).toInt % 2 = 0) ∧ yRows 4 (yHi mt mh 3).toInt ((yHi mt mh 0).toInt + (ho.toInt + 2 * ri.toInt)) ((yHi mt mh 0).toInt - (ho.toInt + 2 * ri.toInt)) (ho.toInt + 2 * ri.toInt) (yHi mt mh 4).toInt) → ∀ c1 c2 c3 c4 cnt th cells', post 0 c1 c2 c3 c4 cnt th cells') (hg : (0 < ho.toInt ∧ (0 < (yHi mt mh 0).toInt ∧ (yHi mt mh 0).toInt % 2 = 0) ∧ yRows 4 (yHi mt mh 3).toInt ((yHi mt mh 0).toInt + (ho.toInt + 2 * ri.toInt)) ((yHi mt mh 0).toInt - (ho.toInt + 2 * ri.toInt)) (ho.toInt + 2 * ri.toInt) (yHi mt mh 4).toInt) → n ≤ 32 → ∀ c1 c2 c3 c4 (cnt : Int32) cells', cnt.toInt = (2 * n : Nat) → yLay cells' (2 * n) (yF2 n (-(((yHi mt mh 0).toInt + (ho.toInt + 2 * ri.toInt)) / 2)) (((yHi mt mh 0).toInt - (ho.toInt + 2 * ri.toInt)) / 2) (yHi mt mh 3).toInt (ho.toInt + 2 * ri.toInt) (ho.toInt + 2 * ri.toInt) 1 ho.toInt) → post 1 c1 c2 c3 c4 cnt (-1) cells') : P_Ma_makeSides 4 r toe heel side pitch tb hi lo 0 (-1) cells post := by
  subst hpitch
  have f0 : (0 : Int64).toInt = 0 := by decide
  have f2 : (2 : Int64).toInt = 2 := by decide
  have b0 := q_hiB h (k := 0) (by decide)
  have b3 := q_hiB h (k := 3) (by decide)
  refine ⟨by decide, fun hx => absurd rfl hx, fun _ => ?_⟩
  refine q_highOf h (k := 0) (by decide) (by decide) (q_highOf h (k := 2) (by decide) (by decide) (hho _ (hri _ (fun x5 e5 x6 e6 x7 e7 => ?_))))
  have a1 : (2 * ri).toInt = 2 * ri.toInt := by rw [y_mul6 (by rw [f2]; omega) (by rw [f2]; omega), f2]
  have a2 : x5.toInt = ho.toInt + 2 * ri.toInt := by rw [e5, y_add6 (by omega) (by omega), a1]
  have a3 : x6.toInt = (yHi mt mh 0).toInt + (ho.toInt + 2 * ri.toInt) := by rw [e6, y_add6 (by omega) (by omega), a2]
  have a4 : x7.toInt = (yHi mt mh 0).toInt - (ho.toInt + 2 * ri.toInt) := by rw [e7, y_sub6 (by omega) (by omega), a2]
  have step : ∀ t0 : Int32, (¬ t0 = 0 ↔ 0 < ho.toInt ∧ 0 < (yHi mt mh 0).toInt ∧ (yHi mt mh 0).toInt % 2 = 0) → P_Ma_makeSides_18 4 r (yHi mt mh 3) tb hi 0 (-1) cells post t0 x6 x7 x5 ho := by
    intro t0 ht0
    refine q_C18two h (by decide) (by decide) hn (by omega) (by omega) (by omega) (by omega) (fun hx => by have := ht0.1 hx; omega) (fun hx => hb (fun G => hx ⟨ht0.2 ⟨G.1, G.2.1⟩, by rw [a2, a3, a4]; exact G.2.2⟩)) (fun hx hn32 c1 c2 c3 c4 cnt cells' k l => ?_)
    have hpos := ht0.1 hx.1
    have hR := hx.2
    rw [a2, a3, a4] at hR
    rw [a2, a3, a4, if_neg (by omega)] at l
    have ew : ((yHi mt mh 0).toInt + (ho.toInt + 2 * ri.toInt) - ((yHi mt mh 0).toInt - (ho.toInt + 2 * ri.toInt))) / 2 = ho.toInt + 2 * ri.toInt := by omega
    rw [ew] at l
    exact hg ⟨hpos.1, hpos.2, hR⟩ hn32 _ _ _ _ _ _ k l
  refine ⟨fun hx => step 0 ⟨fun hy => absurd rfl hy, fun hy => ?_⟩, fun hx => q_isEven (by omega) (fun hev => ⟨fun hy => absurd hy (by decide), fun _ => step 1 ⟨fun _ => ⟨?_, hev⟩, fun _ => by decide⟩⟩) (fun hev => ⟨fun _ => step 0 ⟨fun hy => absurd rfl hy, fun hy => absurd hy.2 hev⟩, fun hy => absurd rfl hy⟩)⟩
  · rw [y_le6, f0] at hx
    omega
  · rw [y_le6, f0] at hx
    omega
theorem q_Mholes {tb eb : Int32} {lo hi ml mh : Nat → Int64} {mt : Nat → Int32} (h : ySp tb eb lo hi ml mh mt) {fam dens : Int32} {values pad : Nat → Int64} {r heel side ho ri : Int64} {f d n : Nat} (hf : fam.toInt = f) (hf8 : f < 8) (hd : dens.toInt = d) (hd3 : d < 3) (hv1 : values (30 * f + 3 * 1 + d) = heel) (hv2 : values (30 * f + 3 * 2 + d) = side) (hho : mt 2 = 1 → ∀ pst : Int64 → Prop, pst ho → P_M_up (mh 2 + 2 * heel) (2 * r) pst) (hri : ∀ pst : Int64 → Prop, pst ri → P_M_up side r pst) (bho : -1000000 ≤ ho.toInt ∧ ho.toInt ≤ 150000000) (hhe : ho.toInt % 2 = 0) (bri : 0 ≤ ri.toInt ∧ ri.toInt ≤ 30000000) (hn : yPer 4 (yHi mt mh 4).toInt = n) {post : Int32 → Int32 → (Nat → Int64) → Prop} (hb : ¬ yGoodH mt ml mh (yHi mt mh 0).toInt ho.toInt (ho.toInt + 2 * ri.toInt) → ∀ c1 c3, post 0 c1 c3) (hg : yGoodH mt ml mh (yHi mt mh 0).toInt ho.toInt (ho.toInt + 2 * ri.toInt) → ∀ (cnt : Int32) (cells : Nat → Int64), cnt.toInt = (2 * n : Nat) → yLay cells (2 * n) (yF2 n (-(((yHi mt mh 0).toInt + (ho.toInt + 2 * ri.toInt)) / 2)) (((yHi mt mh 0).toInt - (ho.toInt + 2 * ri.toInt)) / 2) (yHi mt mh 3).toInt (ho.toInt + 2 * ri.toInt) (ho.toInt + 2 * ri.toInt) 1 ho.toInt) → post 1 cnt cells) : P_M_makeHoles r fam dens 0 mt ml mh values pad post := by
  have f0 : (0 : Int64).toInt = 0 := by decide
  have f2 : (2 : Int64).toInt = 2 := by decide
  have T := fun k (hk : k < 12) => (h k hk).1
  have B : ∀ k : Nat, k < 12 → mt k = 1 → 0 ≤ (mh k).toInt ∧ (mh k).toInt ≤ 100000000 := fun k hk hm => by have := (h k hk).2.2.2 hm; omega
  have HH : ∀ k : Nat, mt k = 1 → yHi mt mh k = mh k := fun k hm => by unfold yHi; rw [if_pos hm]
  have v0 : vp_in 0 12 := y_in (by decide) (by decide)
  have v2 : vp_in 2 12 := y_in (by decide) (by decide)
  have v3 : vp_in 3 12 := y_in (by decide) (by decide)
  have v4 : vp_in 4 12 := y_in (by decide) (by decide)
  have bad : ¬ yGoodH mt ml mh (yHi mt mh 0).toInt ho.toInt (ho.toInt + 2 * ri.toInt) → P_M_makeHoles_67 r fam dens 0 mh values pad post := fun hx => ⟨fun hy => absurd rfl hy, fun _ => hb hx _ _⟩
  refine q_Mexact (k := 0) (by decide) (by decide) (T 0 (by decide)) (fun hE0 => ⟨fun hx => absurd hx (by decide), fun _ => ⟨v0, fun g0 => bad (fun G => ?_), fun g0 => ⟨v0, fun g1 => bad (fun G => ?_), fun g1 => ⟨v2, fun g2 => bad (fun G => absurd (g2.symm.trans G.2.1) (by decide)), fun g2 => q_MhasPitch (T 3 (by decide)) (B 3 (by decide)) (fun hP => ⟨fun hx => absurd hx (by decide), fun _ => q_MhasCount (by rw [f2]; omega) (T 4 (by decide)) (B 4 (by decide)) (fun hC => ⟨fun hx => absurd hx (by decide), fun _ => ?_⟩) (fun hC => ⟨fun _ => bad (fun G => hC ?_), fun hx => absurd rfl hx⟩)⟩) (fun hP => ⟨fun _ => bad (fun G => hP ?_), fun hx => absurd rfl hx⟩)⟩⟩⟩⟩) (fun hE0 => ⟨fun _ => bad (fun G => hE0 G.1), fun hx => absurd rfl hx⟩)
  · have g0 : mh 0 ≤ 0 := g0
    rw [y_le6, f0] at g0
    have := G.2.2.2.2.2.1.1
    rw [HH 0 hE0.1] at this
    omega
  · have g1 : ¬ (mh 0 - mh 0 / 2 * 2 = 0) := g1
    have hz := q_remz (a := mh 0) (t := 2) (by have := B 0 (by decide) hE0.1; omega) (by rw [f2]; omega)
    rw [f2] at hz
    rw [hz] at g1
    have := G.2.2.2.2.2.1.2
    rw [HH 0 hE0.1] at this
    omega
  · rw [f2] at hC
    have g0 : ¬ mh 0 ≤ 0 := g0
    rw [y_le6, f0] at g0
    have g1 : (mh 0 - mh 0 / 2 * 2 = 0) := g1
    have hz := q_remz (a := mh 0) (t := 2) (by have := B 0 (by decide) hE0.1; omega) (by rw [f2]; omega)
    rw [f2] at hz
    rw [hz] at g1
    have m2 : mt 2 = 1 := (T 2 (by decide)).resolve_left g2
    have h0e := HH 0 hE0.1
    have h3e := HH 3 hP.1.1
    have h4e := HH 4 hC.1.1
    have bb0 := B 0 (by decide) hE0.1
    have bb3 := B 3 (by decide) hP.1.1
    rw [h0e, h3e] at hg
    rw [h0e] at hb
    rw [h4e] at hn
    refine ⟨fun _ => ⟨v2, q_MofV (m := 1) hf hf8 (by decide) (by decide) hd hd3 hv1 (hho m2 _ (q_MofV (m := 2) hf hf8 (by decide) (by decide) hd hd3 hv2 (hri _ (fun x7 e7 => ?_))))⟩, fun hx => absurd hx (by decide)⟩
    have a1 : (2 * ri).toInt = 2 * ri.toInt := by rw [y_mul6 (by rw [f2]; omega) (by rw [f2]; omega), f2]
    have a2 : x7.toInt = ho.toInt + 2 * ri.toInt := by rw [e7, y_add6 (by omega) (by omega), a1]
    refine ⟨fun k1 => hb (fun G => ?_) _ _, fun k1 => ⟨v3, fun k2 => hb (fun G => ?_) _ _, fun k2 => ⟨v0, fun k3 => ⟨v4, fun n64 en => ?_⟩, fun k3 => hb (fun G => ?_) _ _⟩⟩⟩
    · rw [y_le6, f0] at k1
      have := G.2.2.2.2.1
      omega
    · have k2 : mh 3 ≤ x7 := k2
      rw [y_le6, a2] at k2
      obtain ⟨_, _, _, _, _, _, _, _, hy | hy⟩ := G
      · exact absurd hy (by decide)
      · rw [h3e] at hy
        omega
    · rw [y_le6, f0] at k1
      have k2 : ¬ mh 3 ≤ x7 := k2
      rw [y_le6, a2] at k2
      have k3 : x7 < mh 0 := k3
      rw [y_lt6, a2] at k3
      have hG : yGoodH mt ml mh (mh 0).toInt ho.toInt (ho.toInt + 2 * ri.toInt) := ⟨hE0, m2, hP.1, hC.1, by omega, ⟨by omega, g1⟩, ⟨by omega, by omega, Or.inr (by rw [h3e, h4e]; exact ⟨by simpa using hC.2.1, hC.2.2.1, by simpa using hC.2.2.2, hP.2.1, hP.2.2, by omega, fun hx => absurd hx (by decide)⟩)⟩⟩
      have hgg := hg hG
      have hn' : n64.toInt = n := by
        have en : n64 = mh 4 / 2 := en
        unfold yPer at hn
        simp at hn
        rw [en, q_half (by omega)]
        exact hn
      have hn32 : n ≤ 32 := by
        unfold yPer at hn
        simp at hn
        omega
      have exl : -(((mh 0).toInt + (ho.toInt + 2 * ri.toInt)) / 2) = -((mh 0).toInt / 2) - x7.toInt / 2 := by omega
      have exr : ((mh 0).toInt - (ho.toInt + 2 * ri.toInt)) / 2 = (mh 0).toInt / 2 - x7.toInt / 2 := by omega
      rw [exl, exr, ← a2] at hgg
      refine ⟨n + 1, q_M167 (F := yF2 n (-((mh 0).toInt / 2) - x7.toInt / 2) ((mh 0).toInt / 2 - x7.toInt / 2) (mh 3).toInt x7.toInt x7.toInt 1 ho.toInt) (n := n) (c0 := 0) hn' (by omega) bb3 hP.2.2 (by omega) (by omega) q_F2l (fun c1 l1 k1 m1 => ⟨n + 1, ?_⟩) n 0 0 pad (by decide) (by rw [f0]; omega) (by rw [f0]; decide) q_lay0⟩
      rw [Nat.zero_add] at k1 m1
      refine q_M247 (n := n) (c0 := n) hn' (by omega) bb3 hP.2.2 (by omega) (by omega) q_F2r (fun c2 l2 k2 m2 => ?_) n 0 c1 l1 (by decide) (by rw [f0]; omega) (by rw [f0]; omega) m1
      have e2 : n + n = 2 * n := by omega
      rw [e2] at k2 m2
      exact hgg c2 l2 k2 m2
    · have k3 : ¬ x7 < mh 0 := k3
      rw [y_lt6, a2] at k3
      have := G.2.2.2.2.2.2.1
      omega
  · rw [f2]
    obtain ⟨_, _, _, hx, _, _, _, _, hy | hy⟩ := G
    · exact absurd hy (by decide)
    · rw [HH 4 hx.1] at hy
      exact ⟨hx, by simpa using hy.1, hy.2.1, by simpa using hy.2.2.1⟩
  · obtain ⟨_, _, hx, _, _, _, _, _, hy | hy⟩ := G
    · exact absurd hy (by decide)
    · rw [HH 3 hx.1] at hy
      exact ⟨hx, hy.2.2.2.1, hy.2.2.2.2.1⟩
