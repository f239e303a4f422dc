theorem zs_len : ∀ i, i < 34 → zLen.getD i 0 < 2 ^ 31 := by decide
theorem zs_eq2 {args : Array Value} {s : State} {t u : Term} {v : Value} (h : (Cond.eq t u).before args s = true) (ht : t.eval args s none [] s = some v) : u.eval args s none [] s = some v := by
  cases hu : u.eval args s none [] s with
  | none => simp [Cond.before, Cond.holds, Cond.value, ht, hu] at h
  | some w =>
    simp only [Cond.before, Cond.holds, Cond.value, ht, hu] at h
    cases w <;> cases v <;> simp_all
theorem zs_L {C n d : String} {A : Nat → Prop} {s : State} {args : Array Value} (h : (Cond.laysStatic C n d).before args s = true) (hA : ∀ a : Nat, a < s.heap.size → ¬ A a) : zL C n d A s s.heap := by
  obtain ⟨c, k, i, f, a, cell, hc, hi, hst, ha, hcell, hs, hcls, hlt, hty⟩ := Cond.laysStatic_spec h
  exact ⟨c, k, i, f, a, cell, hc, hi, hst, ha, hcell, hs, hcls, hlt, hty, hA a (Array.getElem?_eq_some_iff.mp hcell).1⟩
set_option maxRecDepth 100000 in
theorem zE_start {args : Array Value} {s : State} {A : Nat → Prop} (hts : ∀ w ∈ lw_tbl, w.before args s = true) (hgv : (Jvm.Cond.and given_1 narrow_1).before args s = true) (hA : ∀ a : Nat, a < s.heap.size → ¬ A a) : ∃ ad : Nat → Nat → Nat, zE ad A s := by
  have hf : ∀ c ∈ zFl, c.before args s = true := flat_of_before _ hgv
  obtain ⟨w1, w2, w3, w4, w5, w6, w7, w8, w9, w10, w11, w12, w13⟩ := zs_w
  obtain ⟨r1, r2, r3, r4⟩ := zs_r
  obtain ⟨aK, hKn, hKe⟩ := va_Enof2 (F := zKindF) (A := A) (fun i hi => hts _ (zs_kl i hi)) (hts _ w1) (fun i hi => hf _ (zs_ke i hi)) (fun q hq i hi => hf _ (zs_kf q hq i hi)) (fun i j hi hj hij => (zs_kd i hi j hj hij).elim (fun h => Or.inl (hf _ h)) (fun h => Or.inr (hf _ h))) hA
  obtain ⟨aY, hYn, hYe⟩ := va_Enof2 (F := zKeyF) (A := A) (fun i hi => hts _ (zs_yl i hi)) (hts _ w2) (fun i hi => hf _ (zs_ye i hi)) (fun q hq i hi => hf _ (zs_yf q hq i hi)) (fun i j hi hj hij => (zs_yd i hi j hj hij).elim (fun h => Or.inl (hf _ h)) (fun h => Or.inr (hf _ h))) hA
  have h0 : ∀ i : Nat, ∃ q : Nat × Nat, i < 34 → (zTm i).eval args s none [] s = some (.ref q.1) ∧ va_O "java/lang/String" q.1 A s s.heap ∧ va_OF "java/lang/String" "coder" "B" (.int 0) q.1 A s s.heap ∧ va_OF "java/lang/String" "value" "[B" (.ref q.2) q.1 A s s.heap ∧ va_T .byte q.2 (zLen.getD i 0) (fun j => .int ((zByt.getD i []).getD j 0)) A s s.heap := by
    intro i
    by_cases hi : i < 34
    · obtain ⟨a, c, cA, kA, q1, q2, q3, q4, q5, q6, -⟩ := Cond.exactly_spec (args := args) (first := s) (o := none) (s := s) (idx := []) (t := zTm i) (cls := "java/lang/String") (hf _ (zs_sx i hi))
      obtain ⟨t, ht, hT⟩ := va_Tof (f := fun j => .int ((zByt.getD i []).getD j 0)) (A := A) (zs_len i hi) (hf _ (zs_sa i hi)) (va_eqt (hf _ (zs_sl i hi))) (fun j hj => va_eqt (hf _ (zs_se i hi j hj))) hA
      exact ⟨(a, t), fun _ => ⟨q1, ⟨cA, q3, q5, by rw [q6]; exact q2, hA a (Array.getElem?_eq_some_iff.mp q3).1⟩, vk_OFof q1 (va_eqt (hf _ (zs_sc i hi))) hA, vk_OFof q1 ht hA, hT⟩⟩
    · exact ⟨(0, 0), fun h => absurd h hi⟩
  obtain ⟨aS, hS⟩ := Classical.axiomOfChoice h0
  have h86 : (Term.string "FootprintRules$Key" 86).eval args s none [] s = some (.ref (aS 8).1) := zs_eq2 (hf _ zs_86) (hS 8 (by decide)).1
  obtain ⟨tK, hK1, hK2⟩ := va_Tof (f := fun j => .ref (aK j)) (A := A) (N := 5) (by decide) (hf _ zs_ka.1) (va_eqt (hf _ zs_ka.2.1)) (fun j hj => va_eqv (hf _ (zs_ka.2.2 j hj)) (hKe j hj)) hA
  obtain ⟨tY, hY1, hY2⟩ := va_Tof (f := fun j => .ref (aY j)) (A := A) (N := 11) (by decide) (hf _ zs_ya.1) (va_eqt (hf _ zs_ya.2.1)) (fun j hj => va_eqv (hf _ (zs_ya.2.2 j hj)) (hYe j hj)) hA
  refine ⟨fun k i => match k with | 0 => aK i | 1 => aY i | 2 => (aS i).1 | 3 => (aS i).2 | _ => match i with | 0 => tK | _ => tY, ⟨hKn, ?_, ?_, hYn, ?_, va_Zof (hts _ w7) (hts _ w3) hK1 hA, hK2, va_Zof (hts _ w8) (hts _ w3) hY1 hA, hY2, fun i hi => (hS i hi).2, va_Zof (hts _ w9) (hts _ w4) (va_eqt (hf _ r1)) hA, va_Zqof (hts _ w10) (hts _ w5) (hf _ r2) hA, zs_L (hts _ w10) hA, va_Zqof (hts _ w11) (hts _ w5) (hf _ r3) hA, zs_L (hts _ w11) hA, va_Zqof (hts _ w12) (hts _ w6) (hf _ r4) hA⟩, ?_, ?_, va_AO.of (hts _ w13), fun q hq => va_Nc.of (hf _ (zs_nc q hq))⟩
  · exact va_Efof (nm := zKindN) (tm := fun i => zTm (zKind_word.getD i 0)) hKe (fun i hi => hf _ (zs_kw i hi)) (fun i hi => (hS _ ((by decide : ∀ i, i < 5 → zKind_word.getD i 0 < 34) i hi)).1) hA
  · exact va_Efof (nm := zKindN) (tm := fun i => zTm (zKind_capitals.getD i 0)) hKe (fun i hi => hf _ (zs_kc i hi)) (fun i hi => (hS _ ((by decide : ∀ i, i < 5 → zKind_capitals.getD i 0 < 34) i hi)).1) hA
  · intro i hi
    exact va_Efof (N := 11) (nm := zKeyN) (tm := fun i => if i = 3 then .string "FootprintRules$Key" 86 else zTm (zKey_word.getD i 0)) (v := fun i => .ref (aS (zKey_word.getD i 0)).1) hYe (fun i hi => by
        by_cases h : i = 3
        · subst h
          exact hf _ zs_y3
        · rw [if_neg h]
          exact hf _ ((zs_yw i hi).resolve_right h)) (fun i hi => by
        by_cases h : i = 3
        · subst h
          exact h86
        · rw [if_neg h]
          exact (hS _ ((by decide : ∀ i, i < 11 → zKey_word.getD i 0 < 34) i hi)).1) hA i hi
  · exact fun w hw => va_Nw.of (by
      have h := (List.mem_filter.mp hw).2
      cases w <;> first | rfl | (simp [zIsN] at h)) (hts w (List.mem_filter.mp hw).1)
  · intro q hq
    obtain ⟨h1, h2⟩ := zs_lr q hq
    rcases h2 with ⟨h2, h3⟩ | h2
    · refine vk_R.of (hts _ h1) ?_
      have h4 := (hS _ h3).1
      unfold zTm at h4
      rw [← h2] at h4
      exact h4
    · subst h2
      exact vk_R.of (hts _ h1) h86
