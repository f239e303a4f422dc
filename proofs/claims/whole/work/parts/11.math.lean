abbrev yJM_floorMod : MethodName := ⟨"java/lang/Math", "floorMod", "(JJ)J"⟩
abbrev cJM_floorMod : ByteArray := prog_20_method_52_code
abbrev wsJM_floorMod : List Cond := .code yJM_floorMod cJM_floorMod 6 (some .long) :: zT
set_option maxRecDepth 100000 in
theorem zc_JM_floorMod : Cond.code yJM_floorMod cJM_floorMod 6 (some .long) ∈ zT := zm 745 (by rfl) (by rfl)
theorem dJM_floorMod_0 : decode cJM_floorMod 0 = .ok (.lload_n 0, 1) := by decide +kernel
theorem dJM_floorMod_1 : decode cJM_floorMod 1 = .ok (.lload_n 2, 1) := by decide +kernel
theorem dJM_floorMod_2 : decode cJM_floorMod 2 = .ok (.lrem, 1) := by decide +kernel
theorem dJM_floorMod_3 : decode cJM_floorMod 3 = .ok (.lstore 4, 2) := by decide +kernel
theorem dJM_floorMod_5 : decode cJM_floorMod 5 = .ok (.lload_n 0, 1) := by decide +kernel
theorem dJM_floorMod_6 : decode cJM_floorMod 6 = .ok (.lload_n 2, 1) := by decide +kernel
theorem dJM_floorMod_7 : decode cJM_floorMod 7 = .ok (.lxor, 1) := by decide +kernel
theorem dJM_floorMod_8 : decode cJM_floorMod 8 = .ok (.lconst 0, 1) := by decide +kernel
theorem dJM_floorMod_9 : decode cJM_floorMod 9 = .ok (.lcmp, 1) := by decide +kernel
theorem dJM_floorMod_10 : decode cJM_floorMod 10 = .ok (.ifCond .ge 15, 3) := by decide +kernel
theorem dJM_floorMod_13 : decode cJM_floorMod 13 = .ok (.lload 4, 2) := by decide +kernel
theorem dJM_floorMod_15 : decode cJM_floorMod 15 = .ok (.lconst 0, 1) := by decide +kernel
theorem dJM_floorMod_16 : decode cJM_floorMod 16 = .ok (.lcmp, 1) := by decide +kernel
theorem dJM_floorMod_17 : decode cJM_floorMod 17 = .ok (.ifCond .eq 8, 3) := by decide +kernel
theorem dJM_floorMod_20 : decode cJM_floorMod 20 = .ok (.lload 4, 2) := by decide +kernel
theorem dJM_floorMod_22 : decode cJM_floorMod 22 = .ok (.lload_n 2, 1) := by decide +kernel
theorem dJM_floorMod_23 : decode cJM_floorMod 23 = .ok (.ladd, 1) := by decide +kernel
theorem dJM_floorMod_24 : decode cJM_floorMod 24 = .ok (.lreturn, 1) := by decide +kernel
theorem dJM_floorMod_25 : decode cJM_floorMod 25 = .ok (.lload 4, 2) := by decide +kernel
theorem dJM_floorMod_27 : decode cJM_floorMod 27 = .ok (.lreturn, 1) := by decide +kernel
-- java/lang/Math.floorMod(JJ)J
abbrev w_JM_floorMod (ad : Nat → Nat → Nat)    : va_W := []
def P_JM_floorMod (p0 : Int64) (p2 : Int64) (post : Int64 → Prop) : Prop := ¬ p2 = 0 ∧ ∀ x2 : Int64, x2 = p0 - p0 / p2 * p2 → ((0 ≤ (p0 ^^^ p2) → post x2) ∧ (¬ 0 ≤ (p0 ^^^ p2) → ((x2 = 0 → post x2) ∧ (¬ x2 = 0 → post (x2 + p2)))))
set_option maxHeartbeats 4000000 in
set_option maxRecDepth 100000 in
theorem c_JM_floorMod (l : Launch) (dC : Nat → ClassId) (dI : Nat → Nat → Nat) (ad : Nat → Nat → Nat)   (sz : Nat) (p0 : Int64) (p2 : Int64) (post : Int64 → Prop) (h : P_JM_floorMod p0 p2 post) : zMl l yJM_floorMod wsJM_floorMod { frames := 0, cells := 0, slots := 0, locals := 0 } (dC, dI) ad [.long p0, .long p2] (w_JM_floorMod ad ) [] sz (fun (r : Int64) (u : Unit) => post r) (fun (u : Unit) => (w_JM_floorMod ad )) 0 0 := by
  refine va_MetF (cc := cJM_floorMod) (maxL := 6) (ret := (some .long)) (by decide +kernel) rfl ?_
  intro p e s m args below meth c s₁ B hml hv
  obtain ⟨rfl, hsz, hP, hK, hD0, hE⟩ := hv
  have hx := B.exec
  have hb := B.bytes
  have hr := B.returns
  have hts0 := atoms_spec (ws := wsJM_floorMod) B.pre
  have hts := fun w h => hts0 w (List.mem_cons_of_mem _ h)
  have hown : s.vm.findClass RJM = some m.cls := findClass_of_methodNamed B.named
  have hlocks := B.notSynchronized
  subst hsz
  have hD := hD0.self (sz := s.heap.size)
  generalize hAe : va_A (w_JM_floorMod ad ) s.heap.size = A at hD hE ⊢
  have hA : ∀ q : Nat, s.heap.size ≤ q → A q := fun q h => by rw [← hAe]; exact Or.inr h
  have C0 := zC.mk hx hb hr hml hown hts hlocks hA
  have hS : va_S A s.heap s.heap [] := va_S.rf
  have hl := lv_entry ([.long p0, .long p2]) (n := 6) (Nat.le_of_ble_eq_true rfl)
  rw [lg_entry_eq]
  generalize (lg_sl ([.long p0, .long p2]) ++ List.replicate (6 - (lg_sl ([.long p0, .long p2])).length) Slot.unset).toArray = ls at hl ⊢
  have hl : lv_has ls 6 [(0, .long p0), (2, .long p2)] := hl
  unfold P_JM_floorMod at h
  refine lv_lload_n hx hb dJM_floorMod_0 rfl (lv_at hl 0 rfl) ?_
  refine lv_lload_n hx hb dJM_floorMod_1 rfl (lv_at hl 1 rfl) ?_
  obtain ⟨hn1, h⟩ := h
  refine lv_lrem hx hb dJM_floorMod_2 hn1 ?_
  refine lv_topl (fun x2 ex2 => ?_)
  replace h := h x2 ex2
  refine lv_lstore (lv' := [(4, .long x2), (0, .long p0), (2, .long p2)]) hx hb dJM_floorMod_3 hl (by decide) rfl (fun ls hl => ?_)
  refine lv_lload_n hx hb dJM_floorMod_5 rfl (lv_at hl 1 rfl) ?_
  refine lv_lload_n hx hb dJM_floorMod_6 rfl (lv_at hl 2 rfl) ?_
  refine lv_lxor hx hb dJM_floorMod_7 ?_
  refine lv_lconst (v := 0) hx hb dJM_floorMod_8 (by decide) ?_
  refine zz_lcmp_ge (tgt := 25) hx hb dJM_floorMod_9 dJM_floorMod_10 (by decide) ?_ ?_
  · intro c3
    replace h := h.1 c3
    refine lv_lload hx hb dJM_floorMod_25 (lv_at hl 0 rfl) ?_
    exact W.lret (v := x2) hx hb hr (fun t ht hW => ⟨⟨x2, (()), rfl, h, by rw [ht]; exact hP, hD⟩, hS.F ht⟩) hS.2.2 dJM_floorMod_27
  · intro c3
    replace h := h.2 c3
    refine lv_lload hx hb dJM_floorMod_13 (lv_at hl 0 rfl) ?_
    refine lv_lconst (v := 0) hx hb dJM_floorMod_15 (by decide) ?_
    refine zz_lcmp_eq (tgt := 25) hx hb dJM_floorMod_16 dJM_floorMod_17 (by decide) ?_ ?_
    · intro c4
      replace h := h.1 c4
      refine lv_lload hx hb dJM_floorMod_25 (lv_at hl 0 rfl) ?_
      exact W.lret (v := x2) hx hb hr (fun t ht hW => ⟨⟨x2, (()), rfl, h, by rw [ht]; exact hP, hD⟩, hS.F ht⟩) hS.2.2 dJM_floorMod_27
    · intro c4
      replace h := h.2 c4
      refine lv_lload hx hb dJM_floorMod_20 (lv_at hl 0 rfl) ?_
      refine lv_lload_n hx hb dJM_floorMod_22 rfl (lv_at hl 2 rfl) ?_
      refine lv_ladd hx hb dJM_floorMod_23 ?_
      exact W.lret (v := (x2 + p2)) hx hb hr (fun t ht hW => ⟨⟨(x2 + p2), (()), rfl, h, by rw [ht]; exact hP, hD⟩, hS.F ht⟩) hS.2.2 dJM_floorMod_24
abbrev yJM_floorDiv : MethodName := ⟨"java/lang/Math", "floorDiv", "(JJ)J"⟩
abbrev cJM_floorDiv : ByteArray := prog_20_method_49_code
abbrev wsJM_floorDiv : List Cond := .code yJM_floorDiv cJM_floorDiv 6 (some .long) :: zT
set_option maxRecDepth 100000 in
theorem zc_JM_floorDiv : Cond.code yJM_floorDiv cJM_floorDiv 6 (some .long) ∈ zT := zm 957 (by rfl) (by rfl)
theorem dJM_floorDiv_0 : decode cJM_floorDiv 0 = .ok (.lload_n 0, 1) := by decide +kernel
theorem dJM_floorDiv_1 : decode cJM_floorDiv 1 = .ok (.lload_n 2, 1) := by decide +kernel
theorem dJM_floorDiv_2 : decode cJM_floorDiv 2 = .ok (.ldiv, 1) := by decide +kernel
theorem dJM_floorDiv_3 : decode cJM_floorDiv 3 = .ok (.lstore 4, 2) := by decide +kernel
theorem dJM_floorDiv_5 : decode cJM_floorDiv 5 = .ok (.lload_n 0, 1) := by decide +kernel
theorem dJM_floorDiv_6 : decode cJM_floorDiv 6 = .ok (.lload_n 2, 1) := by decide +kernel
theorem dJM_floorDiv_7 : decode cJM_floorDiv 7 = .ok (.lxor, 1) := by decide +kernel
theorem dJM_floorDiv_8 : decode cJM_floorDiv 8 = .ok (.lconst 0, 1) := by decide +kernel
theorem dJM_floorDiv_9 : decode cJM_floorDiv 9 = .ok (.lcmp, 1) := by decide +kernel
theorem dJM_floorDiv_10 : decode cJM_floorDiv 10 = .ok (.ifCond .ge 17, 3) := by decide +kernel
theorem dJM_floorDiv_13 : decode cJM_floorDiv 13 = .ok (.lload 4, 2) := by decide +kernel
theorem dJM_floorDiv_15 : decode cJM_floorDiv 15 = .ok (.lload_n 2, 1) := by decide +kernel
theorem dJM_floorDiv_16 : decode cJM_floorDiv 16 = .ok (.lmul, 1) := by decide +kernel
theorem dJM_floorDiv_17 : decode cJM_floorDiv 17 = .ok (.lload_n 0, 1) := by decide +kernel
theorem dJM_floorDiv_18 : decode cJM_floorDiv 18 = .ok (.lcmp, 1) := by decide +kernel
theorem dJM_floorDiv_19 : decode cJM_floorDiv 19 = .ok (.ifCond .eq 8, 3) := by decide +kernel
theorem dJM_floorDiv_22 : decode cJM_floorDiv 22 = .ok (.lload 4, 2) := by decide +kernel
theorem dJM_floorDiv_24 : decode cJM_floorDiv 24 = .ok (.lconst 1, 1) := by decide +kernel
theorem dJM_floorDiv_25 : decode cJM_floorDiv 25 = .ok (.lsub, 1) := by decide +kernel
theorem dJM_floorDiv_26 : decode cJM_floorDiv 26 = .ok (.lreturn, 1) := by decide +kernel
theorem dJM_floorDiv_27 : decode cJM_floorDiv 27 = .ok (.lload 4, 2) := by decide +kernel
theorem dJM_floorDiv_29 : decode cJM_floorDiv 29 = .ok (.lreturn, 1) := by decide +kernel
-- java/lang/Math.floorDiv(JJ)J
abbrev w_JM_floorDiv (ad : Nat → Nat → Nat)    : va_W := []
def P_JM_floorDiv (p0 : Int64) (p2 : Int64) (post : Int64 → Prop) : Prop := ¬ p2 = 0 ∧ ∀ x2 : Int64, x2 = p0 / p2 → ((0 ≤ (p0 ^^^ p2) → post x2) ∧ (¬ 0 ≤ (p0 ^^^ p2) → (((x2 * p2) = p0 → post x2) ∧ (¬ (x2 * p2) = p0 → post (x2 - 1)))))
set_option maxHeartbeats 4000000 in
set_option maxRecDepth 100000 in
theorem c_JM_floorDiv (l : Launch) (dC : Nat → ClassId) (dI : Nat → Nat → Nat) (ad : Nat → Nat → Nat)   (sz : Nat) (p0 : Int64) (p2 : Int64) (post : Int64 → Prop) (h : P_JM_floorDiv p0 p2 post) : zMl l yJM_floorDiv wsJM_floorDiv { frames := 0, cells := 0, slots := 0, locals := 0 } (dC, dI) ad [.long p0, .long p2] (w_JM_floorDiv ad ) [] sz (fun (r : Int64) (u : Unit) => post r) (fun (u : Unit) => (w_JM_floorDiv ad )) 0 0 := by
  refine va_MetF (cc := cJM_floorDiv) (maxL := 6) (ret := (some .long)) (by decide +kernel) rfl ?_
  intro p e s m args below meth c s₁ B hml hv
  obtain ⟨rfl, hsz, hP, hK, hD0, hE⟩ := hv
  have hx := B.exec
  have hb := B.bytes
  have hr := B.returns
  have hts0 := atoms_spec (ws := wsJM_floorDiv) B.pre
  have hts := fun w h => hts0 w (List.mem_cons_of_mem _ h)
  have hown : s.vm.findClass RJM = some m.cls := findClass_of_methodNamed B.named
  have hlocks := B.notSynchronized
  subst hsz
  have hD := hD0.self (sz := s.heap.size)
  generalize hAe : va_A (w_JM_floorDiv ad ) s.heap.size = A at hD hE ⊢
  have hA : ∀ q : Nat, s.heap.size ≤ q → A q := fun q h => by rw [← hAe]; exact Or.inr h
  have C0 := zC.mk hx hb hr hml hown hts hlocks hA
  have hS : va_S A s.heap s.heap [] := va_S.rf
  have hl := lv_entry ([.long p0, .long p2]) (n := 6) (Nat.le_of_ble_eq_true rfl)
  rw [lg_entry_eq]
  generalize (lg_sl ([.long p0, .long p2]) ++ List.replicate (6 - (lg_sl ([.long p0, .long p2])).length) Slot.unset).toArray = ls at hl ⊢
  have hl : lv_has ls 6 [(0, .long p0), (2, .long p2)] := hl
  unfold P_JM_floorDiv at h
  refine lv_lload_n hx hb dJM_floorDiv_0 rfl (lv_at hl 0 rfl) ?_
  refine lv_lload_n hx hb dJM_floorDiv_1 rfl (lv_at hl 1 rfl) ?_
  obtain ⟨hn1, h⟩ := h
  refine lv_ldiv hx hb dJM_floorDiv_2 hn1 ?_
  refine lv_topl (fun x2 ex2 => ?_)
  replace h := h x2 ex2
  refine lv_lstore (lv' := [(4, .long x2), (0, .long p0), (2, .long p2)]) hx hb dJM_floorDiv_3 hl (by decide) rfl (fun ls hl => ?_)
  refine lv_lload_n hx hb dJM_floorDiv_5 rfl (lv_at hl 1 rfl) ?_
  refine lv_lload_n hx hb dJM_floorDiv_6 rfl (lv_at hl 2 rfl) ?_
  refine lv_lxor hx hb dJM_floorDiv_7 ?_
  refine lv_lconst (v := 0) hx hb dJM_floorDiv_8 (by decide) ?_
  refine zz_lcmp_ge (tgt := 27) hx hb dJM_floorDiv_9 dJM_floorDiv_10 (by decide) ?_ ?_
  · intro c3
    replace h := h.1 c3
    refine lv_lload hx hb dJM_floorDiv_27 (lv_at hl 0 rfl) ?_
    exact W.lret (v := x2) hx hb hr (fun t ht hW => ⟨⟨x2, (()), rfl, h, by rw [ht]; exact hP, hD⟩, hS.F ht⟩) hS.2.2 dJM_floorDiv_29
  · intro c3
    replace h := h.2 c3
    refine lv_lload hx hb dJM_floorDiv_13 (lv_at hl 0 rfl) ?_
    refine lv_lload_n hx hb dJM_floorDiv_15 rfl (lv_at hl 2 rfl) ?_
    refine lv_lmul hx hb dJM_floorDiv_16 ?_
    refine lv_lload_n hx hb dJM_floorDiv_17 rfl (lv_at hl 1 rfl) ?_
    refine zz_lcmp_eq (tgt := 27) hx hb dJM_floorDiv_18 dJM_floorDiv_19 (by decide) ?_ ?_
    · intro c4
      replace h := h.1 c4
      refine lv_lload hx hb dJM_floorDiv_27 (lv_at hl 0 rfl) ?_
      exact W.lret (v := x2) hx hb hr (fun t ht hW => ⟨⟨x2, (()), rfl, h, by rw [ht]; exact hP, hD⟩, hS.F ht⟩) hS.2.2 dJM_floorDiv_29
    · intro c4
      replace h := h.2 c4
      refine lv_lload hx hb dJM_floorDiv_22 (lv_at hl 0 rfl) ?_
      refine lv_lconst (v := 1) hx hb dJM_floorDiv_24 (by decide) ?_
      refine lv_lsub hx hb dJM_floorDiv_25 ?_
      exact W.lret (v := (x2 - 1)) hx hb hr (fun t ht hW => ⟨⟨(x2 - 1), (()), rfl, h, by rw [ht]; exact hP, hD⟩, hS.F ht⟩) hS.2.2 dJM_floorDiv_26
abbrev yJM_abs : MethodName := ⟨"java/lang/Math", "abs", "(J)J"⟩
abbrev cJM_abs : ByteArray := prog_20_method_61_code
abbrev wsJM_abs : List Cond := .code yJM_abs cJM_abs 2 (some .long) :: zT
set_option maxRecDepth 100000 in
theorem zc_JM_abs : Cond.code yJM_abs cJM_abs 2 (some .long) ∈ zT := zm 891 (by rfl) (by rfl)
theorem dJM_abs_0 : decode cJM_abs 0 = .ok (.lload_n 0, 1) := by decide +kernel
theorem dJM_abs_1 : decode cJM_abs 1 = .ok (.lconst 0, 1) := by decide +kernel
theorem dJM_abs_2 : decode cJM_abs 2 = .ok (.lcmp, 1) := by decide +kernel
theorem dJM_abs_3 : decode cJM_abs 3 = .ok (.ifCond .ge 8, 3) := by decide +kernel
theorem dJM_abs_6 : decode cJM_abs 6 = .ok (.lload_n 0, 1) := by decide +kernel
theorem dJM_abs_7 : decode cJM_abs 7 = .ok (.lneg, 1) := by decide +kernel
theorem dJM_abs_8 : decode cJM_abs 8 = .ok (.goto 4, 3) := by decide +kernel
theorem dJM_abs_11 : decode cJM_abs 11 = .ok (.lload_n 0, 1) := by decide +kernel
theorem dJM_abs_12 : decode cJM_abs 12 = .ok (.lreturn, 1) := by decide +kernel
-- java/lang/Math.abs(J)J
abbrev w_JM_abs (ad : Nat → Nat → Nat)    : va_W := []
def P_JM_abs (p0 : Int64) (post : Int64 → Prop) : Prop := ((0 ≤ p0 → post p0) ∧ (¬ 0 ≤ p0 → post (-p0)))
set_option maxHeartbeats 4000000 in
set_option maxRecDepth 100000 in
theorem c_JM_abs (l : Launch) (dC : Nat → ClassId) (dI : Nat → Nat → Nat) (ad : Nat → Nat → Nat)   (sz : Nat) (p0 : Int64) (post : Int64 → Prop) (h : P_JM_abs p0 post) : zMl l yJM_abs wsJM_abs { frames := 0, cells := 0, slots := 0, locals := 0 } (dC, dI) ad [.long p0] (w_JM_abs ad ) [] sz (fun (r : Int64) (u : Unit) => post r) (fun (u : Unit) => (w_JM_abs ad )) 0 0 := by
  refine va_MetF (cc := cJM_abs) (maxL := 2) (ret := (some .long)) (by decide +kernel) rfl ?_
  intro p e s m args below meth c s₁ B hml hv
  obtain ⟨rfl, hsz, hP, hK, hD0, hE⟩ := hv
  have hx := B.exec
  have hb := B.bytes
  have hr := B.returns
  have hts0 := atoms_spec (ws := wsJM_abs) B.pre
  have hts := fun w h => hts0 w (List.mem_cons_of_mem _ h)
  have hown : s.vm.findClass RJM = some m.cls := findClass_of_methodNamed B.named
  have hlocks := B.notSynchronized
  subst hsz
  have hD := hD0.self (sz := s.heap.size)
  generalize hAe : va_A (w_JM_abs ad ) s.heap.size = A at hD hE ⊢
  have hA : ∀ q : Nat, s.heap.size ≤ q → A q := fun q h => by rw [← hAe]; exact Or.inr h
  have C0 := zC.mk hx hb hr hml hown hts hlocks hA
  have hS : va_S A s.heap s.heap [] := va_S.rf
  have hl := lv_entry ([.long p0]) (n := 2) (Nat.le_of_ble_eq_true rfl)
  rw [lg_entry_eq]
  generalize (lg_sl ([.long p0]) ++ List.replicate (2 - (lg_sl ([.long p0])).length) Slot.unset).toArray = ls at hl ⊢
  have hl : lv_has ls 2 [(0, .long p0)] := hl
  unfold P_JM_abs at h
  refine lv_lload_n hx hb dJM_abs_0 rfl (lv_at hl 0 rfl) ?_
  refine lv_lconst (v := 0) hx hb dJM_abs_1 (by decide) ?_
  refine zz_lcmp_ge (tgt := 11) hx hb dJM_abs_2 dJM_abs_3 (by decide) ?_ ?_
  · intro c1
    replace h := h.1 c1
    refine lv_lload_n hx hb dJM_abs_11 rfl (lv_at hl 0 rfl) ?_
    exact W.lret (v := p0) hx hb hr (fun t ht hW => ⟨⟨p0, (()), rfl, h, by rw [ht]; exact hP, hD⟩, hS.F ht⟩) hS.2.2 dJM_abs_12
  · intro c1
    replace h := h.2 c1
    refine lv_lload_n hx hb dJM_abs_6 rfl (lv_at hl 0 rfl) ?_
    refine lv_lneg hx hb dJM_abs_7 ?_
    refine lv_goto (tgt := 12) hx hb dJM_abs_8 (by decide) ?_
    exact W.lret (v := (-p0)) hx hb hr (fun t ht hW => ⟨⟨(-p0), (()), rfl, h, by rw [ht]; exact hP, hD⟩, hS.F ht⟩) hS.2.2 dJM_abs_12
abbrev yJM_max : MethodName := ⟨"java/lang/Math", "max", "(JJ)J"⟩
abbrev cJM_max : ByteArray := prog_20_method_66_code
abbrev wsJM_max : List Cond := .code yJM_max cJM_max 4 (some .long) :: zT
set_option maxRecDepth 100000 in
theorem zc_JM_max : Cond.code yJM_max cJM_max 4 (some .long) ∈ zT := zm 827 (by rfl) (by rfl)
theorem dJM_max_0 : decode cJM_max 0 = .ok (.lload_n 0, 1) := by decide +kernel
theorem dJM_max_1 : decode cJM_max 1 = .ok (.lload_n 2, 1) := by decide +kernel
theorem dJM_max_2 : decode cJM_max 2 = .ok (.lcmp, 1) := by decide +kernel
theorem dJM_max_3 : decode cJM_max 3 = .ok (.ifCond .lt 7, 3) := by decide +kernel
theorem dJM_max_6 : decode cJM_max 6 = .ok (.lload_n 0, 1) := by decide +kernel
theorem dJM_max_7 : decode cJM_max 7 = .ok (.goto 4, 3) := by decide +kernel
theorem dJM_max_10 : decode cJM_max 10 = .ok (.lload_n 2, 1) := by decide +kernel
theorem dJM_max_11 : decode cJM_max 11 = .ok (.lreturn, 1) := by decide +kernel
-- java/lang/Math.max(JJ)J
abbrev w_JM_max (ad : Nat → Nat → Nat)    : va_W := []
def P_JM_max (p0 : Int64) (p2 : Int64) (post : Int64 → Prop) : Prop := ((p0 < p2 → post p2) ∧ (¬ p0 < p2 → post p0))
set_option maxHeartbeats 4000000 in
set_option maxRecDepth 100000 in
theorem c_JM_max (l : Launch) (dC : Nat → ClassId) (dI : Nat → Nat → Nat) (ad : Nat → Nat → Nat)   (sz : Nat) (p0 : Int64) (p2 : Int64) (post : Int64 → Prop) (h : P_JM_max p0 p2 post) : zMl l yJM_max wsJM_max { frames := 0, cells := 0, slots := 0, locals := 0 } (dC, dI) ad [.long p0, .long p2] (w_JM_max ad ) [] sz (fun (r : Int64) (u : Unit) => post r) (fun (u : Unit) => (w_JM_max ad )) 0 0 := by
  refine va_MetF (cc := cJM_max) (maxL := 4) (ret := (some .long)) (by decide +kernel) rfl ?_
  intro p e s m args below meth c s₁ B hml hv
  obtain ⟨rfl, hsz, hP, hK, hD0, hE⟩ := hv
  have hx := B.exec
  have hb := B.bytes
  have hr := B.returns
  have hts0 := atoms_spec (ws := wsJM_max) B.pre
  have hts := fun w h => hts0 w (List.mem_cons_of_mem _ h)
  have hown : s.vm.findClass RJM = some m.cls := findClass_of_methodNamed B.named
  have hlocks := B.notSynchronized
  subst hsz
  have hD := hD0.self (sz := s.heap.size)
  generalize hAe : va_A (w_JM_max ad ) s.heap.size = A at hD hE ⊢
  have hA : ∀ q : Nat, s.heap.size ≤ q → A q := fun q h => by rw [← hAe]; exact Or.inr h
  have C0 := zC.mk hx hb hr hml hown hts hlocks hA
  have hS : va_S A s.heap s.heap [] := va_S.rf
  have hl := lv_entry ([.long p0, .long p2]) (n := 4) (Nat.le_of_ble_eq_true rfl)
  rw [lg_entry_eq]
  generalize (lg_sl ([.long p0, .long p2]) ++ List.replicate (4 - (lg_sl ([.long p0, .long p2])).length) Slot.unset).toArray = ls at hl ⊢
  have hl : lv_has ls 4 [(0, .long p0), (2, .long p2)] := hl
  unfold P_JM_max at h
  refine lv_lload_n hx hb dJM_max_0 rfl (lv_at hl 0 rfl) ?_
  refine lv_lload_n hx hb dJM_max_1 rfl (lv_at hl 1 rfl) ?_
  refine zz_lcmp_lt (tgt := 10) hx hb dJM_max_2 dJM_max_3 (by decide) ?_ ?_
  · intro c1
    replace h := h.1 c1
    refine lv_lload_n hx hb dJM_max_10 rfl (lv_at hl 1 rfl) ?_
    exact W.lret (v := p2) hx hb hr (fun t ht hW => ⟨⟨p2, (()), rfl, h, by rw [ht]; exact hP, hD⟩, hS.F ht⟩) hS.2.2 dJM_max_11
  · intro c1
    replace h := h.2 c1
    refine lv_lload_n hx hb dJM_max_6 rfl (lv_at hl 0 rfl) ?_
    refine lv_goto (tgt := 11) hx hb dJM_max_7 (by decide) ?_
    exact W.lret (v := p0) hx hb hr (fun t ht hW => ⟨⟨p0, (()), rfl, h, by rw [ht]; exact hP, hD⟩, hS.F ht⟩) hS.2.2 dJM_max_11
abbrev yJM_min : MethodName := ⟨"java/lang/Math", "min", "(JJ)J"⟩
abbrev cJM_min : ByteArray := prog_20_method_70_code
abbrev wsJM_min : List Cond := .code yJM_min cJM_min 4 (some .long) :: zT
set_option maxRecDepth 100000 in
theorem zc_JM_min : Cond.code yJM_min cJM_min 4 (some .long) ∈ zT := zm 824 (by rfl) (by rfl)
theorem dJM_min_0 : decode cJM_min 0 = .ok (.lload_n 0, 1) := by decide +kernel
theorem dJM_min_1 : decode cJM_min 1 = .ok (.lload_n 2, 1) := by decide +kernel
theorem dJM_min_2 : decode cJM_min 2 = .ok (.lcmp, 1) := by decide +kernel
theorem dJM_min_3 : decode cJM_min 3 = .ok (.ifCond .gt 7, 3) := by decide +kernel
theorem dJM_min_6 : decode cJM_min 6 = .ok (.lload_n 0, 1) := by decide +kernel
theorem dJM_min_7 : decode cJM_min 7 = .ok (.goto 4, 3) := by decide +kernel
theorem dJM_min_10 : decode cJM_min 10 = .ok (.lload_n 2, 1) := by decide +kernel
theorem dJM_min_11 : decode cJM_min 11 = .ok (.lreturn, 1) := by decide +kernel
-- java/lang/Math.min(JJ)J
abbrev w_JM_min (ad : Nat → Nat → Nat)    : va_W := []
def P_JM_min (p0 : Int64) (p2 : Int64) (post : Int64 → Prop) : Prop := ((p2 < p0 → post p2) ∧ (¬ p2 < p0 → post p0))
set_option maxHeartbeats 4000000 in
set_option maxRecDepth 100000 in
theorem c_JM_min (l : Launch) (dC : Nat → ClassId) (dI : Nat → Nat → Nat) (ad : Nat → Nat → Nat)   (sz : Nat) (p0 : Int64) (p2 : Int64) (post : Int64 → Prop) (h : P_JM_min p0 p2 post) : zMl l yJM_min wsJM_min { frames := 0, cells := 0, slots := 0, locals := 0 } (dC, dI) ad [.long p0, .long p2] (w_JM_min ad ) [] sz (fun (r : Int64) (u : Unit) => post r) (fun (u : Unit) => (w_JM_min ad )) 0 0 := by
  refine va_MetF (cc := cJM_min) (maxL := 4) (ret := (some .long)) (by decide +kernel) rfl ?_
  intro p e s m args below meth c s₁ B hml hv
  obtain ⟨rfl, hsz, hP, hK, hD0, hE⟩ := hv
  have hx := B.exec
  have hb := B.bytes
  have hr := B.returns
  have hts0 := atoms_spec (ws := wsJM_min) B.pre
  have hts := fun w h => hts0 w (List.mem_cons_of_mem _ h)
  have hown : s.vm.findClass RJM = some m.cls := findClass_of_methodNamed B.named
  have hlocks := B.notSynchronized
  subst hsz
  have hD := hD0.self (sz := s.heap.size)
  generalize hAe : va_A (w_JM_min ad ) s.heap.size = A at hD hE ⊢
  have hA : ∀ q : Nat, s.heap.size ≤ q → A q := fun q h => by rw [← hAe]; exact Or.inr h
  have C0 := zC.mk hx hb hr hml hown hts hlocks hA
  have hS : va_S A s.heap s.heap [] := va_S.rf
  have hl := lv_entry ([.long p0, .long p2]) (n := 4) (Nat.le_of_ble_eq_true rfl)
  rw [lg_entry_eq]
  generalize (lg_sl ([.long p0, .long p2]) ++ List.replicate (4 - (lg_sl ([.long p0, .long p2])).length) Slot.unset).toArray = ls at hl ⊢
  have hl : lv_has ls 4 [(0, .long p0), (2, .long p2)] := hl
  unfold P_JM_min at h
  refine lv_lload_n hx hb dJM_min_0 rfl (lv_at hl 0 rfl) ?_
  refine lv_lload_n hx hb dJM_min_1 rfl (lv_at hl 1 rfl) ?_
  refine zz_lcmp_gt (tgt := 10) hx hb dJM_min_2 dJM_min_3 (by decide) ?_ ?_
  · intro c1
    replace h := h.1 c1
    refine lv_lload_n hx hb dJM_min_10 rfl (lv_at hl 1 rfl) ?_
    exact W.lret (v := p2) hx hb hr (fun t ht hW => ⟨⟨p2, (()), rfl, h, by rw [ht]; exact hP, hD⟩, hS.F ht⟩) hS.2.2 dJM_min_11
  · intro c1
    replace h := h.2 c1
    refine lv_lload_n hx hb dJM_min_6 rfl (lv_at hl 0 rfl) ?_
    refine lv_goto (tgt := 11) hx hb dJM_min_7 (by decide) ?_
    exact W.lret (v := p0) hx hb hr (fun t ht hW => ⟨⟨p0, (()), rfl, h, by rw [ht]; exact hP, hD⟩, hS.F ht⟩) hS.2.2 dJM_min_11
