abbrev yWo_add : MethodName := ⟨"FootprintRules$Words", "add", "(I)Z"⟩
abbrev cWo_add : ByteArray := prog_12_method_2_code
abbrev wsWo_add : List Cond := .code yWo_add cWo_add 2 (some .boolean) :: zT
set_option maxRecDepth 100000 in
theorem zc_Wo_add : Cond.code yWo_add cWo_add 2 (some .boolean) ∈ zT := zm 398 (by rfl) (by rfl)
theorem dWo_add_0 : decode cWo_add 0 = .ok (.iload_n 1, 1) := by decide +kernel
theorem dWo_add_1 : decode cWo_add 1 = .ok (.bipush 10, 2) := by decide +kernel
theorem dWo_add_3 : decode cWo_add 3 = .ok (.if_icmp .eq 15, 3) := by decide +kernel
theorem dWo_add_6 : decode cWo_add 6 = .ok (.iload_n 1, 1) := by decide +kernel
theorem dWo_add_7 : decode cWo_add 7 = .ok (.bipush 32, 2) := by decide +kernel
theorem dWo_add_9 : decode cWo_add 9 = .ok (.if_icmp .lt 26, 3) := by decide +kernel
theorem dWo_add_12 : decode cWo_add 12 = .ok (.iload_n 1, 1) := by decide +kernel
theorem dWo_add_13 : decode cWo_add 13 = .ok (.bipush 126, 2) := by decide +kernel
theorem dWo_add_15 : decode cWo_add 15 = .ok (.if_icmp .gt 20, 3) := by decide +kernel
theorem dWo_add_18 : decode cWo_add 18 = .ok (.aload_n 0, 1) := by decide +kernel
theorem dWo_add_19 : decode cWo_add 19 = .ok (.getfield 15, 3) := by decide +kernel
theorem dWo_add_22 : decode cWo_add 22 = .ok (.ifCond .lt 13, 3) := by decide +kernel
theorem dWo_add_25 : decode cWo_add 25 = .ok (.aload_n 0, 1) := by decide +kernel
theorem dWo_add_26 : decode cWo_add 26 = .ok (.getfield 15, 3) := by decide +kernel
theorem dWo_add_29 : decode cWo_add 29 = .ok (.sipush 600, 3) := by decide +kernel
theorem dWo_add_32 : decode cWo_add 32 = .ok (.if_icmp .lt 5, 3) := by decide +kernel
theorem dWo_add_35 : decode cWo_add 35 = .ok (.iconst 0, 1) := by decide +kernel
theorem dWo_add_36 : decode cWo_add 36 = .ok (.ireturn, 1) := by decide +kernel
theorem dWo_add_37 : decode cWo_add 37 = .ok (.aload_n 0, 1) := by decide +kernel
theorem dWo_add_38 : decode cWo_add 38 = .ok (.getfield 9, 3) := by decide +kernel
theorem dWo_add_41 : decode cWo_add 41 = .ok (.aload_n 0, 1) := by decide +kernel
theorem dWo_add_42 : decode cWo_add 42 = .ok (.getfield 15, 3) := by decide +kernel
theorem dWo_add_45 : decode cWo_add 45 = .ok (.iload_n 1, 1) := by decide +kernel
theorem dWo_add_46 : decode cWo_add 46 = .ok (.i2c, 1) := by decide +kernel
theorem dWo_add_47 : decode cWo_add 47 = .ok (.castore, 1) := by decide +kernel
theorem dWo_add_48 : decode cWo_add 48 = .ok (.aload_n 0, 1) := by decide +kernel
theorem dWo_add_49 : decode cWo_add 49 = .ok (.dup, 1) := by decide +kernel
theorem dWo_add_50 : decode cWo_add 50 = .ok (.getfield 15, 3) := by decide +kernel
theorem dWo_add_53 : decode cWo_add 53 = .ok (.iconst 1, 1) := by decide +kernel
theorem dWo_add_54 : decode cWo_add 54 = .ok (.iadd, 1) := by decide +kernel
theorem dWo_add_55 : decode cWo_add 55 = .ok (.putfield 15, 3) := by decide +kernel
theorem dWo_add_58 : decode cWo_add 58 = .ok (.iconst 1, 1) := by decide +kernel
theorem dWo_add_59 : decode cWo_add 59 = .ok (.ireturn, 1) := by decide +kernel
theorem zw_141 : Cond.fieldLink "FootprintRules$Words" 15 "FootprintRules$Words" "length" "I" ∈ zT := zm 141 (by decide +kernel) (by decide +kernel)
theorem zw_140 : Cond.fieldLink "FootprintRules$Words" 9 "FootprintRules$Words" "units" "[C" ∈ zT := zm 140 (by decide +kernel) (by decide +kernel)
theorem zw_143 : Cond.fieldLink "FootprintRules$Words" 19 "FootprintRules$Words" "end" "I" ∈ zT := zm 143 (by decide +kernel) (by decide +kernel)
theorem zw_145 : Cond.fieldLink "FootprintRules$Words" 22 "FootprintRules$Words" "place" "I" ∈ zT := zm 145 (by decide +kernel) (by decide +kernel)
theorem zw_142 : Cond.fieldLink "FootprintRules$Words" 25 "FootprintRules$Words" "start" "I" ∈ zT := zm 142 (by decide +kernel) (by decide +kernel)
theorem zw_507 : Cond.methodLink "FootprintRules$Words" 28 ⟨"FootprintRules$Words", "isBreak", "(C)Z"⟩ ∈ zT := zm 507 (by decide +kernel) (by decide +kernel)
theorem zw_97 : Cond.initialized "FootprintRules$Words" ∈ zT := zm 97 (by decide +kernel) (by decide +kernel)
theorem zw_508 : Cond.static ⟨"FootprintRules$Words", "isBreak", "(C)Z"⟩ ∈ zT := zm 508 (by decide +kernel) (by decide +kernel)
theorem zw_520 : Cond.methodLink "FootprintRules$Words" 32 ⟨"FootprintRules$Words", "size", "()I"⟩ ∈ zT := zm 520 (by decide +kernel) (by decide +kernel)
theorem zw_522 : Cond.instanceMethod ⟨"FootprintRules$Words", "size", "()I"⟩ ∈ zT := zm 522 (by decide +kernel) (by decide +kernel)
theorem zw_11 : Cond.selects "FootprintRules$Words" ⟨"FootprintRules$Words", "size", "()I"⟩ ⟨"FootprintRules$Words", "size", "()I"⟩ ∈ zT := zm 11 (by decide +kernel) (by decide +kernel)
theorem zw_534 : Cond.methodLink "FootprintRules$Words" 40 ⟨"FootprintRules$Words", "at", "(I)C"⟩ ∈ zT := zm 534 (by decide +kernel) (by decide +kernel)
theorem zw_536 : Cond.instanceMethod ⟨"FootprintRules$Words", "at", "(I)C"⟩ ∈ zT := zm 536 (by decide +kernel) (by decide +kernel)
theorem zw_12 : Cond.selects "FootprintRules$Words" ⟨"FootprintRules$Words", "at", "(I)C"⟩ ⟨"FootprintRules$Words", "at", "(I)C"⟩ ∈ zT := zm 12 (by decide +kernel) (by decide +kernel)
theorem zw_619 : Cond.methodLink "FootprintRules$Words" 47 ⟨"FootprintRules$Words", "areWithin", "(CC)Z"⟩ ∈ zT := zm 619 (by decide +kernel) (by decide +kernel)
theorem zw_611 : Cond.instanceMethod ⟨"FootprintRules$Words", "areWithin", "(CC)Z"⟩ ∈ zT := zm 611 (by decide +kernel) (by decide +kernel)
theorem zw_19 : Cond.selects "FootprintRules$Words" ⟨"FootprintRules$Words", "areWithin", "(CC)Z"⟩ ⟨"FootprintRules$Words", "areWithin", "(CC)Z"⟩ ∈ zT := zm 19 (by decide +kernel) (by decide +kernel)
-- FootprintRules$Words.add(I)Z
abbrev w_Wo_add (ad : Nat → Nat → Nat) (a_this : Nat) (a_units : Nat) (k_units : ClassId) (v_this_length : Int32) (v_this_start : Int32) (v_this_end : Int32) (v_this_place : Int32) (v_units : Nat → Int32) : va_W := [(a_this, .inr (0, [.ref a_units, .int v_this_length, .int v_this_start, .int v_this_end, .int v_this_place])), (a_units, .inl (k_units, 600, .inl v_units))]
def P_Wo_add_18 (p1 : Int32) (v_this_length : Int32) (v_units : Nat → Int32) (post : Int32 → Int32 → (Nat → Int32) → Prop)  : Prop := ((v_this_length < 0 → post 0 v_this_length v_units) ∧ (¬ v_this_length < 0 → ((v_this_length < 600 → ∀ x3 : Int32, x3 = (p1.toUInt32 % 65536).toInt32 → vp_in v_this_length 600 ∧ ∀ x5 : Int32, x5 = v_this_length + 1 → post 1 x5 (upd v_units v_this_length.toNatClampNeg (vp_nar .char x3))) ∧ (¬ v_this_length < 600 → post 0 v_this_length v_units))))
set_option maxHeartbeats 4000000 in
set_option maxRecDepth 100000 in
theorem w_Wo_add_18 (l : Launch) {p : Program} {e : Env} {s : State} {m : MethodId} {args : Array Value} {below : List Frame} {meth : Method} {c : Code} {dC : Nat → ClassId} {dI : Nat → Nat → Nat} {ad : Nat → Nat → Nat} {A : Nat → Prop} (C0 : zC p s m args meth c cWo_add 2 RWo zT (some .boolean) A) (hE : zE ad A s) (a_this : Nat) (a_units : Nat) (k_units : ClassId) (p1 : Int32) (v_this_length : Int32) (v_this_start : Int32) (v_this_end : Int32) (v_this_place : Int32) (v_units : Nat → Int32) (post : Int32 → Int32 → (Nat → Int32) → Prop) (hK : va_K (dC, dI) vwCl [(k_units, .char)] s) : ∀  (H : Heap) (locs : List Loc), P_Wo_add_18 p1 v_this_length v_units post → va_P (dC, dI) vwCl (w_Wo_add ad a_this a_units k_units v_this_length v_this_start v_this_end v_this_place v_units) H → va_D A (w_Wo_add ad a_this a_units k_units v_this_length v_this_start v_this_end v_this_place v_units) → va_S A s.heap H locs → ∀ ls : Array Slot, lv_has ls 2 [(0, .ref a_this), (1, .int p1)] → W p l e (headSpec wsWo_add { frames := 0, cells := 0, slots := 0, locals := 0 }).room s m args below meth c H locs 0 0 (MQ below (va_Qi (fun (r : Int32) (u : Int32 × (Nat → Int32)) => post r u.1 u.2) (zB (dC, dI) A (fun (u : Int32 × (Nat → Int32)) => (w_Wo_add ad a_this a_units k_units u.1 v_this_start v_this_end v_this_place u.2))) A) args s 0 0 A) (F0 m 18 ls []) := by
  obtain ⟨hx, hb, hr, hml, hown, hts, hlocks, hA⟩ := id C0
  intro  H locs h hP hD hS ls hl
  unfold P_Wo_add_18 at h
  refine lv_aload_n hx hb dWo_add_18 rfl (lv_at hl 0 rfl) ?_
  refine va_get (D := (dC, dI)) (ci := 0) (v := .int v_this_length) (C := RWo) (T := TWo) (N := 5) hx hb hts inZ_Wo hown hK hP 0 rfl rfl 1 (by decide) (hts _ zw_141) (fun _ h9 => h9) rfl dWo_add_19 ?_
  refine lv_if_lt (tgt := 35) hx hb dWo_add_22 (by decide) ?_ ?_
  · intro c1
    replace h := h.1 c1
    refine lv_iconst (v := 0) hx hb dWo_add_35 (by decide) ?_
    exact W.zret (v := 0) hx hb hr rfl (fun t ht hW => ⟨⟨0, (v_this_length, v_units), rfl, h, by rw [ht]; exact hP, hD⟩, hS.F ht⟩) hS.2.2 dWo_add_36
  · intro c1
    replace h := h.2 c1
    refine lv_aload_n hx hb dWo_add_25 rfl (lv_at hl 0 rfl) ?_
    refine va_get (D := (dC, dI)) (ci := 0) (v := .int v_this_length) (C := RWo) (T := TWo) (N := 5) hx hb hts inZ_Wo hown hK hP 0 rfl rfl 1 (by decide) (hts _ zw_141) (fun _ h9 => h9) rfl dWo_add_26 ?_
    refine lv_sipush (v := 600) hx hb dWo_add_29 (by decide) ?_
    refine lv_icmp_lt (tgt := 37) hx hb dWo_add_32 (by decide) ?_ ?_
    · intro c2
      replace h := h.1 c2
      refine lv_aload_n hx hb dWo_add_37 rfl (lv_at hl 0 rfl) ?_
      refine va_get (D := (dC, dI)) (ci := 0) (v := .ref a_units) (C := RWo) (T := TWo) (N := 5) hx hb hts inZ_Wo hown hK hP 0 rfl rfl 0 (by decide) (hts _ zw_140) (fun _ h9 => h9) rfl dWo_add_38 ?_
      refine lv_aload_n hx hb dWo_add_41 rfl (lv_at hl 0 rfl) ?_
      refine va_get (D := (dC, dI)) (ci := 0) (v := .int v_this_length) (C := RWo) (T := TWo) (N := 5) hx hb hts inZ_Wo hown hK hP 0 rfl rfl 1 (by decide) (hts _ zw_141) (fun _ h9 => h9) rfl dWo_add_42 ?_
      refine lv_iload_n hx hb dWo_add_45 rfl (lv_at hl 1 rfl) ?_
      refine lv_i2c hx hb dWo_add_46 rfl ?_
      refine lv_topi (fun x3 ex3 => ?_)
      replace h := h x3 ex3
      obtain ⟨hn4, h⟩ := h
      refine va_cast hx hb hK hP hD hS 1 0 rfl rfl hn4 dWo_add_47 (fun H locs hP hD hS => ?_)
      have hP : va_P (dC, dI) vwCl (w_Wo_add ad a_this a_units k_units v_this_length v_this_start v_this_end v_this_place (upd v_units v_this_length.toNatClampNeg (vp_nar .char x3))) H := hP
      have hD : va_D A (w_Wo_add ad a_this a_units k_units v_this_length v_this_start v_this_end v_this_place (upd v_units v_this_length.toNatClampNeg (vp_nar .char x3))) := hD
      refine lv_aload_n hx hb dWo_add_48 rfl (lv_at hl 0 rfl) ?_
      refine lv_dup hx hb dWo_add_49 rfl ?_
      refine va_get (D := (dC, dI)) (ci := 0) (v := .int v_this_length) (C := RWo) (T := TWo) (N := 5) hx hb hts inZ_Wo hown hK hP 0 rfl rfl 1 (by decide) (hts _ zw_141) (fun _ h9 => h9) rfl dWo_add_50 ?_
      refine lv_iconst (v := 1) hx hb dWo_add_53 (by decide) ?_
      refine lv_iadd hx hb dWo_add_54 ?_
      refine lv_topi (fun x5 ex5 => ?_)
      replace h := h x5 ex5
      refine va_put (D := (dC, dI)) (ci := 0) (v := .int x5) (ty := .int) (C := RWo) (T := TWo) (N := 5) hx hb hts inZ_Wo tyWo tyWo_ok nmWo hown hK hP hD hS 0 rfl rfl 1 (by decide) (hts _ zw_141) (fun _ h9 => h9) rfl (by decide +kernel) rfl rfl (Nat.le_of_ble_eq_true rfl) dWo_add_55 (fun H locs hP hD hS => ?_)
      have hP : va_P (dC, dI) vwCl (w_Wo_add ad a_this a_units k_units x5 v_this_start v_this_end v_this_place (upd v_units v_this_length.toNatClampNeg (vp_nar .char x3))) H := hP
      have hD : va_D A (w_Wo_add ad a_this a_units k_units x5 v_this_start v_this_end v_this_place (upd v_units v_this_length.toNatClampNeg (vp_nar .char x3))) := hD
      refine lv_iconst (v := 1) hx hb dWo_add_58 (by decide) ?_
      exact W.zret (v := 1) hx hb hr rfl (fun t ht hW => ⟨⟨1, (x5, (upd v_units v_this_length.toNatClampNeg (vp_nar .char x3))), rfl, h, by rw [ht]; exact hP, hD⟩, hS.F ht⟩) hS.2.2 dWo_add_59
    · intro c2
      replace h := h.2 c2
      refine lv_iconst (v := 0) hx hb dWo_add_35 (by decide) ?_
      exact W.zret (v := 0) hx hb hr rfl (fun t ht hW => ⟨⟨0, (v_this_length, v_units), rfl, h, by rw [ht]; exact hP, hD⟩, hS.F ht⟩) hS.2.2 dWo_add_36
def P_Wo_add (p1 : Int32) (v_this_length : Int32) (v_units : Nat → Int32) (post : Int32 → Int32 → (Nat → Int32) → Prop) : Prop := ((p1 = 10 → P_Wo_add_18 p1 v_this_length v_units post) ∧ (¬ p1 = 10 → ((p1 < 32 → post 0 v_this_length v_units) ∧ (¬ p1 < 32 → ((126 < p1 → post 0 v_this_length v_units) ∧ (¬ 126 < p1 → P_Wo_add_18 p1 v_this_length v_units post))))))
set_option maxHeartbeats 4000000 in
set_option maxRecDepth 100000 in
theorem c_Wo_add (l : Launch) (dC : Nat → ClassId) (dI : Nat → Nat → Nat) (ad : Nat → Nat → Nat) (a_this : Nat) (a_units : Nat) (k_units : ClassId) (sz : Nat) (p1 : Int32) (v_this_length : Int32) (v_this_start : Int32) (v_this_end : Int32) (v_this_place : Int32) (v_units : Nat → Int32) (post : Int32 → Int32 → (Nat → Int32) → Prop) (h : P_Wo_add p1 v_this_length v_units post) : zMi l yWo_add wsWo_add { frames := 0, cells := 0, slots := 0, locals := 0 } (dC, dI) ad [.ref a_this, .int p1] (w_Wo_add ad a_this a_units k_units v_this_length v_this_start v_this_end v_this_place v_units) [(k_units, .char)] sz (fun (r : Int32) (u : Int32 × (Nat → Int32)) => post r u.1 u.2) (fun (u : Int32 × (Nat → Int32)) => (w_Wo_add ad a_this a_units k_units u.1 v_this_start v_this_end v_this_place u.2)) 0 0 := by
  refine Met.ofW (cc := cWo_add) (maxL := 2) (ret := (some .boolean)) (by decide +kernel) rfl ?_
  intro p e s m args below meth c s₁ B hml hv
  obtain ⟨rfl, hsz, hP, hK, hD0, hE⟩ := hv
  have hx := B.exec
  have hb := B.bytes
  have hr := B.returns
  have hts0 := atoms_spec (ws := wsWo_add) B.pre
  have hts := fun w h => hts0 w (List.mem_cons_of_mem _ h)
  have hown : s.vm.findClass RWo = some m.cls := findClass_of_methodNamed B.named
  have hlocks := B.notSynchronized
  subst hsz
  have hD := hD0.self (sz := s.heap.size)
  generalize hAe : va_A (w_Wo_add ad a_this a_units k_units v_this_length v_this_start v_this_end v_this_place v_units) s.heap.size = A at hD hE ⊢
  have hA : ∀ q : Nat, s.heap.size ≤ q → A q := fun q h => by rw [← hAe]; exact Or.inr h
  have C0 := zC.mk hx hb hr hml hown hts hlocks hA
  have hS : va_S A s.heap s.heap [] := va_S.rf
  have hl := lv_entry ([.ref a_this, .int p1]) (n := 2) (Nat.le_of_ble_eq_true rfl)
  rw [lg_entry_eq]
  generalize (lg_sl ([.ref a_this, .int p1]) ++ List.replicate (2 - (lg_sl ([.ref a_this, .int p1])).length) Slot.unset).toArray = ls at hl ⊢
  have hl : lv_has ls 2 [(0, .ref a_this), (1, .int p1)] := hl
  unfold P_Wo_add at h
  refine lv_iload_n hx hb dWo_add_0 rfl (lv_at hl 1 rfl) ?_
  refine lv_bipush (v := 10) hx hb dWo_add_1 (by decide) ?_
  refine lv_icmp_eq (tgt := 18) hx hb dWo_add_3 (by decide) ?_ ?_
  · intro c1
    replace h := h.1 c1
    exact w_Wo_add_18 l C0 hE a_this a_units k_units p1 v_this_length v_this_start v_this_end v_this_place v_units post hK _ _ h hP hD hS ls (lv_sub hl [0, 1] rfl)
  · intro c1
    replace h := h.2 c1
    refine lv_iload_n hx hb dWo_add_6 rfl (lv_at hl 1 rfl) ?_
    refine lv_bipush (v := 32) hx hb dWo_add_7 (by decide) ?_
    refine lv_icmp_lt (tgt := 35) hx hb dWo_add_9 (by decide) ?_ ?_
    · intro c2
      replace h := h.1 c2
      refine lv_iconst (v := 0) hx hb dWo_add_35 (by decide) ?_
      exact W.zret (v := 0) hx hb hr rfl (fun t ht hW => ⟨⟨0, (v_this_length, v_units), rfl, h, by rw [ht]; exact hP, hD⟩, hS.F ht⟩) hS.2.2 dWo_add_36
    · intro c2
      replace h := h.2 c2
      refine lv_iload_n hx hb dWo_add_12 rfl (lv_at hl 1 rfl) ?_
      refine lv_bipush (v := 126) hx hb dWo_add_13 (by decide) ?_
      refine lv_icmp_gt (tgt := 35) hx hb dWo_add_15 (by decide) ?_ ?_
      · intro c3
        replace h := h.1 c3
        refine lv_iconst (v := 0) hx hb dWo_add_35 (by decide) ?_
        exact W.zret (v := 0) hx hb hr rfl (fun t ht hW => ⟨⟨0, (v_this_length, v_units), rfl, h, by rw [ht]; exact hP, hD⟩, hS.F ht⟩) hS.2.2 dWo_add_36
      · intro c3
        replace h := h.2 c3
        exact w_Wo_add_18 l C0 hE a_this a_units k_units p1 v_this_length v_this_start v_this_end v_this_place v_units post hK _ _ h hP hD hS ls (lv_sub hl [0, 1] rfl)
abbrev yWo_drop : MethodName := ⟨"FootprintRules$Words", "drop", "()V"⟩
abbrev cWo_drop : ByteArray := prog_12_method_3_code
abbrev wsWo_drop : List Cond := .code yWo_drop cWo_drop 1 none :: zT
set_option maxRecDepth 100000 in
theorem zc_Wo_drop : Cond.code yWo_drop cWo_drop 1 none ∈ zT := zm 406 (by rfl) (by rfl)
theorem dWo_drop_0 : decode cWo_drop 0 = .ok (.aload_n 0, 1) := by decide +kernel
theorem dWo_drop_1 : decode cWo_drop 1 = .ok (.iconst 0, 1) := by decide +kernel
theorem dWo_drop_2 : decode cWo_drop 2 = .ok (.putfield 15, 3) := by decide +kernel
theorem dWo_drop_5 : decode cWo_drop 5 = .ok (.return_, 1) := by decide +kernel
-- FootprintRules$Words.drop()V
abbrev w_Wo_drop (ad : Nat → Nat → Nat) (a_this : Nat) (a_units : Nat)  (v_this_length : Int32) (v_this_start : Int32) (v_this_end : Int32) (v_this_place : Int32) : va_W := [(a_this, .inr (0, [.ref a_units, .int v_this_length, .int v_this_start, .int v_this_end, .int v_this_place]))]
def P_Wo_drop  (post : Int32 → Prop) : Prop := post 0
set_option maxHeartbeats 4000000 in
set_option maxRecDepth 100000 in
theorem c_Wo_drop (l : Launch) (dC : Nat → ClassId) (dI : Nat → Nat → Nat) (ad : Nat → Nat → Nat) (a_this : Nat) (a_units : Nat)  (sz : Nat) (v_this_length : Int32) (v_this_start : Int32) (v_this_end : Int32) (v_this_place : Int32) (post : Int32 → Prop) (h : P_Wo_drop post) : zMv l yWo_drop wsWo_drop { frames := 0, cells := 0, slots := 0, locals := 0 } (dC, dI) ad [.ref a_this] (w_Wo_drop ad a_this a_units v_this_length v_this_start v_this_end v_this_place) [] sz (fun (u : Int32) => post u) (fun (u : Int32) => (w_Wo_drop ad a_this a_units u v_this_start v_this_end v_this_place)) 0 0 := by
  refine Met.ofW (cc := cWo_drop) (maxL := 1) (ret := none) (by decide +kernel) rfl ?_
  intro p e s m args below meth c s₁ B hml hv
  obtain ⟨rfl, hsz, hP, hK, hD0, hE⟩ := hv
  have hx := B.exec
  have hb := B.bytes
  have hr := B.returns
  have hts0 := atoms_spec (ws := wsWo_drop) B.pre
  have hts := fun w h => hts0 w (List.mem_cons_of_mem _ h)
  have hown : s.vm.findClass RWo = some m.cls := findClass_of_methodNamed B.named
  have hlocks := B.notSynchronized
  subst hsz
  have hD := hD0.self (sz := s.heap.size)
  generalize hAe : va_A (w_Wo_drop ad a_this a_units v_this_length v_this_start v_this_end v_this_place) s.heap.size = A at hD hE ⊢
  have hA : ∀ q : Nat, s.heap.size ≤ q → A q := fun q h => by rw [← hAe]; exact Or.inr h
  have C0 := zC.mk hx hb hr hml hown hts hlocks hA
  have hS : va_S A s.heap s.heap [] := va_S.rf
  have hl := lv_entry ([.ref a_this]) (n := 1) (Nat.le_of_ble_eq_true rfl)
  rw [lg_entry_eq]
  generalize (lg_sl ([.ref a_this]) ++ List.replicate (1 - (lg_sl ([.ref a_this])).length) Slot.unset).toArray = ls at hl ⊢
  have hl : lv_has ls 1 [(0, .ref a_this)] := hl
  unfold P_Wo_drop at h
  refine lv_aload_n hx hb dWo_drop_0 rfl (lv_at hl 0 rfl) ?_
  refine lv_iconst (v := 0) hx hb dWo_drop_1 (by decide) ?_
  refine va_put (D := (dC, dI)) (ci := 0) (v := .int 0) (ty := .int) (C := RWo) (T := TWo) (N := 5) hx hb hts inZ_Wo tyWo tyWo_ok nmWo hown hK hP hD hS 0 rfl rfl 1 (by decide) (hts _ zw_141) (fun _ h9 => h9) rfl (by decide +kernel) rfl rfl (Nat.le_of_ble_eq_true rfl) dWo_drop_2 (fun H locs hP hD hS => ?_)
  have hP : va_P (dC, dI) vwCl (w_Wo_drop ad a_this a_units 0 v_this_start v_this_end v_this_place) H := hP
  have hD : va_D A (w_Wo_drop ad a_this a_units 0 v_this_start v_this_end v_this_place) := hD
  exact W.vret hx hb hr (fun t ht hW => ⟨⟨0, rfl, h, by rw [ht]; exact hP, hD⟩, hS.F ht⟩) hS.2.2 dWo_drop_5
abbrev yWo_rewind : MethodName := ⟨"FootprintRules$Words", "rewind", "()V"⟩
abbrev cWo_rewind : ByteArray := prog_12_method_4_code
abbrev wsWo_rewind : List Cond := .code yWo_rewind cWo_rewind 1 none :: zT
set_option maxRecDepth 100000 in
theorem zc_Wo_rewind : Cond.code yWo_rewind cWo_rewind 1 none ∈ zT := zm 502 (by rfl) (by rfl)
theorem dWo_rewind_0 : decode cWo_rewind 0 = .ok (.aload_n 0, 1) := by decide +kernel
theorem dWo_rewind_1 : decode cWo_rewind 1 = .ok (.iconst 0, 1) := by decide +kernel
theorem dWo_rewind_2 : decode cWo_rewind 2 = .ok (.putfield 19, 3) := by decide +kernel
theorem dWo_rewind_5 : decode cWo_rewind 5 = .ok (.aload_n 0, 1) := by decide +kernel
theorem dWo_rewind_6 : decode cWo_rewind 6 = .ok (.iconst (-1), 1) := by decide +kernel
theorem dWo_rewind_7 : decode cWo_rewind 7 = .ok (.putfield 22, 3) := by decide +kernel
theorem dWo_rewind_10 : decode cWo_rewind 10 = .ok (.return_, 1) := by decide +kernel
-- FootprintRules$Words.rewind()V
abbrev w_Wo_rewind (ad : Nat → Nat → Nat) (a_this : Nat) (a_units : Nat)  (v_this_length : Int32) (v_this_start : Int32) (v_this_end : Int32) (v_this_place : Int32) : va_W := [(a_this, .inr (0, [.ref a_units, .int v_this_length, .int v_this_start, .int v_this_end, .int v_this_place]))]
def P_Wo_rewind  (post : Int32 → Int32 → Prop) : Prop := post 0 (-1)
set_option maxHeartbeats 4000000 in
set_option maxRecDepth 100000 in
theorem c_Wo_rewind (l : Launch) (dC : Nat → ClassId) (dI : Nat → Nat → Nat) (ad : Nat → Nat → Nat) (a_this : Nat) (a_units : Nat)  (sz : Nat) (v_this_length : Int32) (v_this_start : Int32) (v_this_end : Int32) (v_this_place : Int32) (post : Int32 → Int32 → Prop) (h : P_Wo_rewind post) : zMv l yWo_rewind wsWo_rewind { frames := 0, cells := 0, slots := 0, locals := 0 } (dC, dI) ad [.ref a_this] (w_Wo_rewind ad a_this a_units v_this_length v_this_start v_this_end v_this_place) [] sz (fun (u : Int32 × Int32) => post u.1 u.2) (fun (u : Int32 × Int32) => (w_Wo_rewind ad a_this a_units v_this_length v_this_start u.1 u.2)) 0 0 := by
  refine Met.ofW (cc := cWo_rewind) (maxL := 1) (ret := none) (by decide +kernel) rfl ?_
  intro p e s m args below meth c s₁ B hml hv
  obtain ⟨rfl, hsz, hP, hK, hD0, hE⟩ := hv
  have hx := B.exec
  have hb := B.bytes
  have hr := B.returns
  have hts0 := atoms_spec (ws := wsWo_rewind) B.pre
  have hts := fun w h => hts0 w (List.mem_cons_of_mem _ h)
  have hown : s.vm.findClass RWo = some m.cls := findClass_of_methodNamed B.named
  have hlocks := B.notSynchronized
  subst hsz
  have hD := hD0.self (sz := s.heap.size)
  generalize hAe : va_A (w_Wo_rewind ad a_this a_units v_this_length v_this_start v_this_end v_this_place) s.heap.size = A at hD hE ⊢
  have hA : ∀ q : Nat, s.heap.size ≤ q → A q := fun q h => by rw [← hAe]; exact Or.inr h
  have C0 := zC.mk hx hb hr hml hown hts hlocks hA
  have hS : va_S A s.heap s.heap [] := va_S.rf
  have hl := lv_entry ([.ref a_this]) (n := 1) (Nat.le_of_ble_eq_true rfl)
  rw [lg_entry_eq]
  generalize (lg_sl ([.ref a_this]) ++ List.replicate (1 - (lg_sl ([.ref a_this])).length) Slot.unset).toArray = ls at hl ⊢
  have hl : lv_has ls 1 [(0, .ref a_this)] := hl
  unfold P_Wo_rewind at h
  refine lv_aload_n hx hb dWo_rewind_0 rfl (lv_at hl 0 rfl) ?_
  refine lv_iconst (v := 0) hx hb dWo_rewind_1 (by decide) ?_
  refine va_put (D := (dC, dI)) (ci := 0) (v := .int 0) (ty := .int) (C := RWo) (T := TWo) (N := 5) hx hb hts inZ_Wo tyWo tyWo_ok nmWo hown hK hP hD hS 0 rfl rfl 3 (by decide) (hts _ zw_143) (fun _ h9 => h9) rfl (by decide +kernel) rfl rfl (Nat.le_of_ble_eq_true rfl) dWo_rewind_2 (fun H locs hP hD hS => ?_)
  have hP : va_P (dC, dI) vwCl (w_Wo_rewind ad a_this a_units v_this_length v_this_start 0 v_this_place) H := hP
  have hD : va_D A (w_Wo_rewind ad a_this a_units v_this_length v_this_start 0 v_this_place) := hD
  refine lv_aload_n hx hb dWo_rewind_5 rfl (lv_at hl 0 rfl) ?_
  refine lv_iconst (v := (-1)) hx hb dWo_rewind_6 (by decide) ?_
  refine va_put (D := (dC, dI)) (ci := 0) (v := .int (-1)) (ty := .int) (C := RWo) (T := TWo) (N := 5) hx hb hts inZ_Wo tyWo tyWo_ok nmWo hown hK hP hD hS 0 rfl rfl 4 (by decide) (hts _ zw_145) (fun _ h9 => h9) rfl (by decide +kernel) rfl rfl (Nat.le_of_ble_eq_true rfl) dWo_rewind_7 (fun H locs hP hD hS => ?_)
  have hP : va_P (dC, dI) vwCl (w_Wo_rewind ad a_this a_units v_this_length v_this_start 0 (-1)) H := hP
  have hD : va_D A (w_Wo_rewind ad a_this a_units v_this_length v_this_start 0 (-1)) := hD
  exact W.vret hx hb hr (fun t ht hW => ⟨⟨(0, (-1)), rfl, h, by rw [ht]; exact hP, hD⟩, hS.F ht⟩) hS.2.2 dWo_rewind_10
abbrev yWo_isBreak : MethodName := ⟨"FootprintRules$Words", "isBreak", "(C)Z"⟩
abbrev cWo_isBreak : ByteArray := prog_12_method_6_code
abbrev wsWo_isBreak : List Cond := .code yWo_isBreak cWo_isBreak 1 (some .boolean) :: zT
set_option maxRecDepth 100000 in
theorem zc_Wo_isBreak : Cond.code yWo_isBreak cWo_isBreak 1 (some .boolean) ∈ zT := zm 509 (by rfl) (by rfl)
theorem dWo_isBreak_0 : decode cWo_isBreak 0 = .ok (.iload_n 0, 1) := by decide +kernel
theorem dWo_isBreak_1 : decode cWo_isBreak 1 = .ok (.bipush 32, 2) := by decide +kernel
theorem dWo_isBreak_3 : decode cWo_isBreak 3 = .ok (.if_icmp .eq 9, 3) := by decide +kernel
theorem dWo_isBreak_6 : decode cWo_isBreak 6 = .ok (.iload_n 0, 1) := by decide +kernel
theorem dWo_isBreak_7 : decode cWo_isBreak 7 = .ok (.bipush 10, 2) := by decide +kernel
theorem dWo_isBreak_9 : decode cWo_isBreak 9 = .ok (.if_icmp .ne 7, 3) := by decide +kernel
theorem dWo_isBreak_12 : decode cWo_isBreak 12 = .ok (.iconst 1, 1) := by decide +kernel
theorem dWo_isBreak_13 : decode cWo_isBreak 13 = .ok (.goto 4, 3) := by decide +kernel
theorem dWo_isBreak_16 : decode cWo_isBreak 16 = .ok (.iconst 0, 1) := by decide +kernel
theorem dWo_isBreak_17 : decode cWo_isBreak 17 = .ok (.ireturn, 1) := by decide +kernel
-- FootprintRules$Words.isBreak(C)Z
abbrev w_Wo_isBreak (ad : Nat → Nat → Nat)    : va_W := []
def P_Wo_isBreak_12  (post : Int32 → Prop)  : Prop := post 1
set_option maxHeartbeats 4000000 in
set_option maxRecDepth 100000 in
theorem w_Wo_isBreak_12 (l : Launch) {p : Program} {e : Env} {s : State} {m : MethodId} {args : Array Value} {below : List Frame} {meth : Method} {c : Code} {dC : Nat → ClassId} {dI : Nat → Nat → Nat} {ad : Nat → Nat → Nat} {A : Nat → Prop} (C0 : zC p s m args meth c cWo_isBreak 1 RWo zT (some .boolean) A) (hE : zE ad A s)   (p0 : Int32) (post : Int32 → Prop) (hK : va_K (dC, dI) vwCl [] s) : ∀  (H : Heap) (locs : List Loc), P_Wo_isBreak_12 post → va_P (dC, dI) vwCl (w_Wo_isBreak ad ) H → va_D A (w_Wo_isBreak ad ) → va_S A s.heap H locs → ∀ ls : Array Slot, lv_has ls 1 [] → W p l e (headSpec wsWo_isBreak { frames := 0, cells := 0, slots := 0, locals := 0 }).room s m args below meth c H locs 0 0 (MQ below (va_Qi (fun (r : Int32) (u : Unit) => post r) (zB (dC, dI) A (fun (u : Unit) => (w_Wo_isBreak ad ))) A) args s 0 0 A) (F0 m 12 ls []) := by
  obtain ⟨hx, hb, hr, hml, hown, hts, hlocks, hA⟩ := id C0
  intro  H locs h hP hD hS ls hl
  unfold P_Wo_isBreak_12 at h
  refine lv_iconst (v := 1) hx hb dWo_isBreak_12 (by decide) ?_
  refine lv_goto (tgt := 17) hx hb dWo_isBreak_13 (by decide) ?_
  exact W.zret (v := 1) hx hb hr rfl (fun t ht hW => ⟨⟨1, (()), rfl, h, by rw [ht]; exact hP, hD⟩, hS.F ht⟩) hS.2.2 dWo_isBreak_17
def P_Wo_isBreak (p0 : Int32) (post : Int32 → Prop) : Prop := ((p0 = 32 → P_Wo_isBreak_12 post) ∧ (¬ p0 = 32 → ((¬ p0 = 10 → post 0) ∧ (p0 = 10 → P_Wo_isBreak_12 post))))
set_option maxHeartbeats 4000000 in
set_option maxRecDepth 100000 in
theorem c_Wo_isBreak (l : Launch) (dC : Nat → ClassId) (dI : Nat → Nat → Nat) (ad : Nat → Nat → Nat)   (sz : Nat) (p0 : Int32) (post : Int32 → Prop) (h : P_Wo_isBreak p0 post) : zMi l yWo_isBreak wsWo_isBreak { frames := 0, cells := 0, slots := 0, locals := 0 } (dC, dI) ad [.int p0] (w_Wo_isBreak ad ) [] sz (fun (r : Int32) (u : Unit) => post r) (fun (u : Unit) => (w_Wo_isBreak ad )) 0 0 := by
  refine Met.ofW (cc := cWo_isBreak) (maxL := 1) (ret := (some .boolean)) (by decide +kernel) rfl ?_
  intro p e s m args below meth c s₁ B hml hv
  obtain ⟨rfl, hsz, hP, hK, hD0, hE⟩ := hv
  have hx := B.exec
  have hb := B.bytes
  have hr := B.returns
  have hts0 := atoms_spec (ws := wsWo_isBreak) B.pre
  have hts := fun w h => hts0 w (List.mem_cons_of_mem _ h)
  have hown : s.vm.findClass RWo = some m.cls := findClass_of_methodNamed B.named
  have hlocks := B.notSynchronized
  subst hsz
  have hD := hD0.self (sz := s.heap.size)
  generalize hAe : va_A (w_Wo_isBreak ad ) s.heap.size = A at hD hE ⊢
  have hA : ∀ q : Nat, s.heap.size ≤ q → A q := fun q h => by rw [← hAe]; exact Or.inr h
  have C0 := zC.mk hx hb hr hml hown hts hlocks hA
  have hS : va_S A s.heap s.heap [] := va_S.rf
  have hl := lv_entry ([.int p0]) (n := 1) (Nat.le_of_ble_eq_true rfl)
  rw [lg_entry_eq]
  generalize (lg_sl ([.int p0]) ++ List.replicate (1 - (lg_sl ([.int p0])).length) Slot.unset).toArray = ls at hl ⊢
  have hl : lv_has ls 1 [(0, .int p0)] := hl
  unfold P_Wo_isBreak at h
  refine lv_iload_n hx hb dWo_isBreak_0 rfl (lv_at hl 0 rfl) ?_
  refine lv_bipush (v := 32) hx hb dWo_isBreak_1 (by decide) ?_
  refine lv_icmp_eq (tgt := 12) hx hb dWo_isBreak_3 (by decide) ?_ ?_
  · intro c1
    replace h := h.1 c1
    exact w_Wo_isBreak_12 l C0 hE p0 post hK _ _ h hP hD hS ls (lv_sub hl [] rfl)
  · intro c1
    replace h := h.2 c1
    refine lv_iload_n hx hb dWo_isBreak_6 rfl (lv_at hl 0 rfl) ?_
    refine lv_bipush (v := 10) hx hb dWo_isBreak_7 (by decide) ?_
    refine lv_icmp_ne (tgt := 16) hx hb dWo_isBreak_9 (by decide) ?_ ?_
    · intro c2
      replace h := h.1 c2
      refine lv_iconst (v := 0) hx hb dWo_isBreak_16 (by decide) ?_
      exact W.zret (v := 0) hx hb hr rfl (fun t ht hW => ⟨⟨0, (()), rfl, h, by rw [ht]; exact hP, hD⟩, hS.F ht⟩) hS.2.2 dWo_isBreak_17
    · intro c2
      replace h := h.2 c2
      exact w_Wo_isBreak_12 l C0 hE p0 post hK _ _ h hP hD hS ls (lv_sub hl [] rfl)
abbrev yWo_next : MethodName := ⟨"FootprintRules$Words", "next", "()Z"⟩
abbrev cWo_next : ByteArray := prog_12_method_5_code
abbrev wsWo_next : List Cond := .code yWo_next cWo_next 1 (some .boolean) :: zT
set_option maxRecDepth 100000 in
theorem zc_Wo_next : Cond.code yWo_next cWo_next 1 (some .boolean) ∈ zT := zm 506 (by rfl) (by rfl)
theorem dWo_next_0 : decode cWo_next 0 = .ok (.aload_n 0, 1) := by decide +kernel
theorem dWo_next_1 : decode cWo_next 1 = .ok (.aload_n 0, 1) := by decide +kernel
theorem dWo_next_2 : decode cWo_next 2 = .ok (.getfield 19, 3) := by decide +kernel
theorem dWo_next_5 : decode cWo_next 5 = .ok (.putfield 25, 3) := by decide +kernel
theorem dWo_next_8 : decode cWo_next 8 = .ok (.aload_n 0, 1) := by decide +kernel
theorem dWo_next_9 : decode cWo_next 9 = .ok (.getfield 25, 3) := by decide +kernel
theorem dWo_next_12 : decode cWo_next 12 = .ok (.ifCond .lt 52, 3) := by decide +kernel
theorem dWo_next_15 : decode cWo_next 15 = .ok (.aload_n 0, 1) := by decide +kernel
theorem dWo_next_16 : decode cWo_next 16 = .ok (.getfield 25, 3) := by decide +kernel
theorem dWo_next_19 : decode cWo_next 19 = .ok (.aload_n 0, 1) := by decide +kernel
theorem dWo_next_20 : decode cWo_next 20 = .ok (.getfield 15, 3) := by decide +kernel
theorem dWo_next_23 : decode cWo_next 23 = .ok (.if_icmp .ge 41, 3) := by decide +kernel
theorem dWo_next_26 : decode cWo_next 26 = .ok (.aload_n 0, 1) := by decide +kernel
theorem dWo_next_27 : decode cWo_next 27 = .ok (.getfield 25, 3) := by decide +kernel
theorem dWo_next_30 : decode cWo_next 30 = .ok (.sipush 600, 3) := by decide +kernel
theorem dWo_next_33 : decode cWo_next 33 = .ok (.if_icmp .ge 31, 3) := by decide +kernel
theorem dWo_next_36 : decode cWo_next 36 = .ok (.aload_n 0, 1) := by decide +kernel
theorem dWo_next_37 : decode cWo_next 37 = .ok (.getfield 9, 3) := by decide +kernel
theorem dWo_next_40 : decode cWo_next 40 = .ok (.aload_n 0, 1) := by decide +kernel
theorem dWo_next_41 : decode cWo_next 41 = .ok (.getfield 25, 3) := by decide +kernel
theorem dWo_next_44 : decode cWo_next 44 = .ok (.caload, 1) := by decide +kernel
theorem dWo_next_45 : decode cWo_next 45 = .ok (.invokestatic 28, 3) := by decide +kernel
theorem dWo_next_48 : decode cWo_next 48 = .ok (.ifCond .eq 16, 3) := by decide +kernel
theorem dWo_next_51 : decode cWo_next 51 = .ok (.aload_n 0, 1) := by decide +kernel
theorem dWo_next_52 : decode cWo_next 52 = .ok (.dup, 1) := by decide +kernel
theorem dWo_next_53 : decode cWo_next 53 = .ok (.getfield 25, 3) := by decide +kernel
theorem dWo_next_56 : decode cWo_next 56 = .ok (.iconst 1, 1) := by decide +kernel
theorem dWo_next_57 : decode cWo_next 57 = .ok (.iadd, 1) := by decide +kernel
theorem dWo_next_58 : decode cWo_next 58 = .ok (.putfield 25, 3) := by decide +kernel
theorem dWo_next_61 : decode cWo_next 61 = .ok (.goto (-53), 3) := by decide +kernel
theorem dWo_next_64 : decode cWo_next 64 = .ok (.aload_n 0, 1) := by decide +kernel
theorem dWo_next_65 : decode cWo_next 65 = .ok (.aload_n 0, 1) := by decide +kernel
theorem dWo_next_66 : decode cWo_next 66 = .ok (.getfield 25, 3) := by decide +kernel
theorem dWo_next_69 : decode cWo_next 69 = .ok (.putfield 19, 3) := by decide +kernel
theorem dWo_next_72 : decode cWo_next 72 = .ok (.aload_n 0, 1) := by decide +kernel
theorem dWo_next_73 : decode cWo_next 73 = .ok (.getfield 19, 3) := by decide +kernel
theorem dWo_next_76 : decode cWo_next 76 = .ok (.ifCond .lt 52, 3) := by decide +kernel
theorem dWo_next_79 : decode cWo_next 79 = .ok (.aload_n 0, 1) := by decide +kernel
theorem dWo_next_80 : decode cWo_next 80 = .ok (.getfield 19, 3) := by decide +kernel
theorem dWo_next_83 : decode cWo_next 83 = .ok (.aload_n 0, 1) := by decide +kernel
theorem dWo_next_84 : decode cWo_next 84 = .ok (.getfield 15, 3) := by decide +kernel
theorem dWo_next_87 : decode cWo_next 87 = .ok (.if_icmp .ge 41, 3) := by decide +kernel
theorem dWo_next_90 : decode cWo_next 90 = .ok (.aload_n 0, 1) := by decide +kernel
theorem dWo_next_91 : decode cWo_next 91 = .ok (.getfield 19, 3) := by decide +kernel
theorem dWo_next_94 : decode cWo_next 94 = .ok (.sipush 600, 3) := by decide +kernel
theorem dWo_next_97 : decode cWo_next 97 = .ok (.if_icmp .ge 31, 3) := by decide +kernel
theorem dWo_next_100 : decode cWo_next 100 = .ok (.aload_n 0, 1) := by decide +kernel
theorem dWo_next_101 : decode cWo_next 101 = .ok (.getfield 9, 3) := by decide +kernel
theorem dWo_next_104 : decode cWo_next 104 = .ok (.aload_n 0, 1) := by decide +kernel
theorem dWo_next_105 : decode cWo_next 105 = .ok (.getfield 19, 3) := by decide +kernel
theorem dWo_next_108 : decode cWo_next 108 = .ok (.caload, 1) := by decide +kernel
theorem dWo_next_109 : decode cWo_next 109 = .ok (.invokestatic 28, 3) := by decide +kernel
theorem dWo_next_112 : decode cWo_next 112 = .ok (.ifCond .ne 16, 3) := by decide +kernel
theorem dWo_next_115 : decode cWo_next 115 = .ok (.aload_n 0, 1) := by decide +kernel
theorem dWo_next_116 : decode cWo_next 116 = .ok (.dup, 1) := by decide +kernel
theorem dWo_next_117 : decode cWo_next 117 = .ok (.getfield 19, 3) := by decide +kernel
theorem dWo_next_120 : decode cWo_next 120 = .ok (.iconst 1, 1) := by decide +kernel
theorem dWo_next_121 : decode cWo_next 121 = .ok (.iadd, 1) := by decide +kernel
theorem dWo_next_122 : decode cWo_next 122 = .ok (.putfield 19, 3) := by decide +kernel
theorem dWo_next_125 : decode cWo_next 125 = .ok (.goto (-53), 3) := by decide +kernel
theorem dWo_next_128 : decode cWo_next 128 = .ok (.aload_n 0, 1) := by decide +kernel
theorem dWo_next_129 : decode cWo_next 129 = .ok (.dup, 1) := by decide +kernel
theorem dWo_next_130 : decode cWo_next 130 = .ok (.getfield 22, 3) := by decide +kernel
theorem dWo_next_133 : decode cWo_next 133 = .ok (.iconst 1, 1) := by decide +kernel
theorem dWo_next_134 : decode cWo_next 134 = .ok (.iadd, 1) := by decide +kernel
theorem dWo_next_135 : decode cWo_next 135 = .ok (.putfield 22, 3) := by decide +kernel
theorem dWo_next_138 : decode cWo_next 138 = .ok (.aload_n 0, 1) := by decide +kernel
theorem dWo_next_139 : decode cWo_next 139 = .ok (.getfield 19, 3) := by decide +kernel
theorem dWo_next_142 : decode cWo_next 142 = .ok (.aload_n 0, 1) := by decide +kernel
theorem dWo_next_143 : decode cWo_next 143 = .ok (.getfield 25, 3) := by decide +kernel
theorem dWo_next_146 : decode cWo_next 146 = .ok (.if_icmp .le 7, 3) := by decide +kernel
theorem dWo_next_149 : decode cWo_next 149 = .ok (.iconst 1, 1) := by decide +kernel
theorem dWo_next_150 : decode cWo_next 150 = .ok (.goto 4, 3) := by decide +kernel
theorem dWo_next_153 : decode cWo_next 153 = .ok (.iconst 0, 1) := by decide +kernel
theorem dWo_next_154 : decode cWo_next 154 = .ok (.ireturn, 1) := by decide +kernel
-- FootprintRules$Words.next()Z
abbrev w_Wo_next (ad : Nat → Nat → Nat) (a_this : Nat) (a_units : Nat) (k_units : ClassId) (v_this_length : Int32) (v_this_start : Int32) (v_this_end : Int32) (v_this_place : Int32) (v_units : Nat → Int32) : va_W := [(a_this, .inr (0, [.ref a_units, .int v_this_length, .int v_this_start, .int v_this_end, .int v_this_place])), (a_units, .inl (k_units, 600, .inl v_units))]
def P_Wo_next_128 (v_this_place : Int32) (post : Int32 → Int32 → Int32 → Int32 → Prop) (u_this_start : Int32) (u_this_end : Int32) : Prop := ∀ x1 : Int32, x1 = v_this_place + 1 → ((u_this_end ≤ u_this_start → post 0 u_this_start u_this_end x1) ∧ (¬ u_this_end ≤ u_this_start → post 1 u_this_start u_this_end x1))
set_option maxHeartbeats 4000000 in
set_option maxRecDepth 100000 in
theorem w_Wo_next_128 (l : Launch) {p : Program} {e : Env} {s : State} {m : MethodId} {args : Array Value} {below : List Frame} {meth : Method} {c : Code} {dC : Nat → ClassId} {dI : Nat → Nat → Nat} {ad : Nat → Nat → Nat} {A : Nat → Prop} (C0 : zC p s m args meth c cWo_next 1 RWo zT (some .boolean) A) (hE : zE ad A s) (a_this : Nat) (a_units : Nat) (k_units : ClassId) (v_this_length : Int32) (v_this_start : Int32) (v_this_end : Int32) (v_this_place : Int32) (v_units : Nat → Int32) (post : Int32 → Int32 → Int32 → Int32 → Prop) (hK : va_K (dC, dI) vwCl [(k_units, .char)] s) : ∀ (u_this_start : Int32) (u_this_end : Int32) (H : Heap) (locs : List Loc), P_Wo_next_128 v_this_place post u_this_start u_this_end → va_P (dC, dI) vwCl (w_Wo_next ad a_this a_units k_units v_this_length u_this_start u_this_end v_this_place v_units) H → va_D A (w_Wo_next ad a_this a_units k_units v_this_length u_this_start u_this_end v_this_place v_units) → va_S A s.heap H locs → ∀ ls : Array Slot, lv_has ls 1 [(0, .ref a_this)] → W p l e (headSpec wsWo_next { frames := 1, cells := 0, slots := 0, locals := 20 }).room s m args below meth c H locs 0 0 (MQ below (va_Qi (fun (r : Int32) (u : Int32 × Int32 × Int32) => post r u.1 u.2.1 u.2.2) (zB (dC, dI) A (fun (u : Int32 × Int32 × Int32) => (w_Wo_next ad a_this a_units k_units v_this_length u.1 u.2.1 u.2.2 v_units))) A) args s 0 0 A) (F0 m 128 ls []) := by
  obtain ⟨hx, hb, hr, hml, hown, hts, hlocks, hA⟩ := id C0
  intro u_this_start u_this_end H locs h hP hD hS ls hl
  unfold P_Wo_next_128 at h
  refine lv_aload_n hx hb dWo_next_128 rfl (lv_at hl 0 rfl) ?_
  refine lv_dup hx hb dWo_next_129 rfl ?_
  refine va_get (D := (dC, dI)) (ci := 0) (v := .int v_this_place) (C := RWo) (T := TWo) (N := 5) hx hb hts inZ_Wo hown hK hP 0 rfl rfl 4 (by decide) (hts _ zw_145) (fun _ h9 => h9) rfl dWo_next_130 ?_
  refine lv_iconst (v := 1) hx hb dWo_next_133 (by decide) ?_
  refine lv_iadd hx hb dWo_next_134 ?_
  refine lv_topi (fun x1 ex1 => ?_)
  replace h := h x1 ex1
  refine va_put (D := (dC, dI)) (ci := 0) (v := .int x1) (ty := .int) (C := RWo) (T := TWo) (N := 5) hx hb hts inZ_Wo tyWo tyWo_ok nmWo hown hK hP hD hS 0 rfl rfl 4 (by decide) (hts _ zw_145) (fun _ h9 => h9) rfl (by decide +kernel) rfl rfl (Nat.le_of_ble_eq_true rfl) dWo_next_135 (fun H locs hP hD hS => ?_)
  have hP : va_P (dC, dI) vwCl (w_Wo_next ad a_this a_units k_units v_this_length u_this_start u_this_end x1 v_units) H := hP
  have hD : va_D A (w_Wo_next ad a_this a_units k_units v_this_length u_this_start u_this_end x1 v_units) := hD
  refine lv_aload_n hx hb dWo_next_138 rfl (lv_at hl 0 rfl) ?_
  refine va_get (D := (dC, dI)) (ci := 0) (v := .int u_this_end) (C := RWo) (T := TWo) (N := 5) hx hb hts inZ_Wo hown hK hP 0 rfl rfl 3 (by decide) (hts _ zw_143) (fun _ h9 => h9) rfl dWo_next_139 ?_
  refine lv_aload_n hx hb dWo_next_142 rfl (lv_at hl 0 rfl) ?_
  refine va_get (D := (dC, dI)) (ci := 0) (v := .int u_this_start) (C := RWo) (T := TWo) (N := 5) hx hb hts inZ_Wo hown hK hP 0 rfl rfl 2 (by decide) (hts _ zw_142) (fun _ h9 => h9) rfl dWo_next_143 ?_
  refine lv_icmp_le (tgt := 153) hx hb dWo_next_146 (by decide) ?_ ?_
  · intro c2
    replace h := h.1 c2
    refine lv_iconst (v := 0) hx hb dWo_next_153 (by decide) ?_
    exact W.zret (v := 0) hx hb hr rfl (fun t ht hW => ⟨⟨0, (u_this_start, u_this_end, x1), rfl, h, by rw [ht]; exact hP, hD⟩, hS.F ht⟩) hS.2.2 dWo_next_154
  · intro c2
    replace h := h.2 c2
    refine lv_iconst (v := 1) hx hb dWo_next_149 (by decide) ?_
    refine lv_goto (tgt := 154) hx hb dWo_next_150 (by decide) ?_
    exact W.zret (v := 1) hx hb hr rfl (fun t ht hW => ⟨⟨1, (u_this_start, u_this_end, x1), rfl, h, by rw [ht]; exact hP, hD⟩, hS.F ht⟩) hS.2.2 dWo_next_154
def P_Wo_next_72 (v_this_length : Int32) (v_this_place : Int32) (v_units : Nat → Int32) (post : Int32 → Int32 → Int32 → Int32 → Prop) : Nat → Int32 → Int32 → Prop
  | 0, _, _ => False
  | n + 1, u_this_start, u_this_end => ((u_this_end < 0 → P_Wo_next_128 v_this_place post u_this_start u_this_end) ∧ (¬ u_this_end < 0 → ((v_this_length ≤ u_this_end → P_Wo_next_128 v_this_place post u_this_start u_this_end) ∧ (¬ v_this_length ≤ u_this_end → ((600 ≤ u_this_end → P_Wo_next_128 v_this_place post u_this_start u_this_end) ∧ (¬ 600 ≤ u_this_end → vp_in u_this_end 600 ∧ P_Wo_isBreak (v_units u_this_end.toNatClampNeg) (fun (r5 : Int32) => ((¬ r5 = 0 → P_Wo_next_128 v_this_place post u_this_start u_this_end) ∧ (r5 = 0 → ∀ x7 : Int32, x7 = u_this_end + 1 → P_Wo_next_72 v_this_length v_this_place v_units post n u_this_start x7)))))))))
set_option maxHeartbeats 4000000 in
set_option maxRecDepth 100000 in
theorem w_Wo_next_72 (l : Launch) {p : Program} {e : Env} {s : State} {m : MethodId} {args : Array Value} {below : List Frame} {meth : Method} {c : Code} {dC : Nat → ClassId} {dI : Nat → Nat → Nat} {ad : Nat → Nat → Nat} {A : Nat → Prop} (C0 : zC p s m args meth c cWo_next 1 RWo zT (some .boolean) A) (hE : zE ad A s) (a_this : Nat) (a_units : Nat) (k_units : ClassId) (v_this_length : Int32) (v_this_start : Int32) (v_this_end : Int32) (v_this_place : Int32) (v_units : Nat → Int32) (post : Int32 → Int32 → Int32 → Int32 → Prop) (hK : va_K (dC, dI) vwCl [(k_units, .char)] s) : ∀ (n : Nat), ∀ (u_this_start : Int32) (u_this_end : Int32) (H : Heap) (locs : List Loc), P_Wo_next_72 v_this_length v_this_place v_units post n u_this_start u_this_end → va_P (dC, dI) vwCl (w_Wo_next ad a_this a_units k_units v_this_length u_this_start u_this_end v_this_place v_units) H → va_D A (w_Wo_next ad a_this a_units k_units v_this_length u_this_start u_this_end v_this_place v_units) → va_S A s.heap H locs → ∀ ls : Array Slot, lv_has ls 1 [(0, .ref a_this)] → W p l e (headSpec wsWo_next { frames := 1, cells := 0, slots := 0, locals := 20 }).room s m args below meth c H locs 0 0 (MQ below (va_Qi (fun (r : Int32) (u : Int32 × Int32 × Int32) => post r u.1 u.2.1 u.2.2) (zB (dC, dI) A (fun (u : Int32 × Int32 × Int32) => (w_Wo_next ad a_this a_units k_units v_this_length u.1 u.2.1 u.2.2 v_units))) A) args s 0 0 A) (F0 m 72 ls []) := by
  obtain ⟨hx, hb, hr, hml, hown, hts, hlocks, hA⟩ := id C0
  intro n
  induction n with
  | zero =>
    intro u_this_start u_this_end H locs h
    exact False.elim h
  | succ n ih =>
    intro u_this_start u_this_end H locs h hP hD hS ls hl
    rw [P_Wo_next_72] at h
    refine lv_aload_n hx hb dWo_next_72 rfl (lv_at hl 0 rfl) ?_
    refine va_get (D := (dC, dI)) (ci := 0) (v := .int u_this_end) (C := RWo) (T := TWo) (N := 5) hx hb hts inZ_Wo hown hK hP 0 rfl rfl 3 (by decide) (hts _ zw_143) (fun _ h9 => h9) rfl dWo_next_73 ?_
    refine lv_if_lt (tgt := 128) hx hb dWo_next_76 (by decide) ?_ ?_
    · intro c1
      replace h := h.1 c1
      exact w_Wo_next_128 l C0 hE a_this a_units k_units v_this_length v_this_start v_this_end v_this_place v_units post hK u_this_start u_this_end _ _ h hP hD hS ls (lv_sub hl [0] rfl)
    · intro c1
      replace h := h.2 c1
      refine lv_aload_n hx hb dWo_next_79 rfl (lv_at hl 0 rfl) ?_
      refine va_get (D := (dC, dI)) (ci := 0) (v := .int u_this_end) (C := RWo) (T := TWo) (N := 5) hx hb hts inZ_Wo hown hK hP 0 rfl rfl 3 (by decide) (hts _ zw_143) (fun _ h9 => h9) rfl dWo_next_80 ?_
      refine lv_aload_n hx hb dWo_next_83 rfl (lv_at hl 0 rfl) ?_
      refine va_get (D := (dC, dI)) (ci := 0) (v := .int v_this_length) (C := RWo) (T := TWo) (N := 5) hx hb hts inZ_Wo hown hK hP 0 rfl rfl 1 (by decide) (hts _ zw_141) (fun _ h9 => h9) rfl dWo_next_84 ?_
      refine lv_icmp_ge (tgt := 128) hx hb dWo_next_87 (by decide) ?_ ?_
      · intro c2
        replace h := h.1 c2
        exact w_Wo_next_128 l C0 hE a_this a_units k_units v_this_length v_this_start v_this_end v_this_place v_units post hK u_this_start u_this_end _ _ h hP hD hS ls (lv_sub hl [0] rfl)
      · intro c2
        replace h := h.2 c2
        refine lv_aload_n hx hb dWo_next_90 rfl (lv_at hl 0 rfl) ?_
        refine va_get (D := (dC, dI)) (ci := 0) (v := .int u_this_end) (C := RWo) (T := TWo) (N := 5) hx hb hts inZ_Wo hown hK hP 0 rfl rfl 3 (by decide) (hts _ zw_143) (fun _ h9 => h9) rfl dWo_next_91 ?_
        refine lv_sipush (v := 600) hx hb dWo_next_94 (by decide) ?_
        refine lv_icmp_ge (tgt := 128) hx hb dWo_next_97 (by decide) ?_ ?_
        · intro c3
          replace h := h.1 c3
          exact w_Wo_next_128 l C0 hE a_this a_units k_units v_this_length v_this_start v_this_end v_this_place v_units post hK u_this_start u_this_end _ _ h hP hD hS ls (lv_sub hl [0] rfl)
        · intro c3
          replace h := h.2 c3
          refine lv_aload_n hx hb dWo_next_100 rfl (lv_at hl 0 rfl) ?_
          refine va_get (D := (dC, dI)) (ci := 0) (v := .ref a_units) (C := RWo) (T := TWo) (N := 5) hx hb hts inZ_Wo hown hK hP 0 rfl rfl 0 (by decide) (hts _ zw_140) (fun _ h9 => h9) rfl dWo_next_101 ?_
          refine lv_aload_n hx hb dWo_next_104 rfl (lv_at hl 0 rfl) ?_
          refine va_get (D := (dC, dI)) (ci := 0) (v := .int u_this_end) (C := RWo) (T := TWo) (N := 5) hx hb hts inZ_Wo hown hK hP 0 rfl rfl 3 (by decide) (hts _ zw_143) (fun _ h9 => h9) rfl dWo_next_105 ?_
          obtain ⟨hn4, h⟩ := h
          refine va_cald hx hb hK hP 1 0 rfl rfl hn4 dWo_next_108 ?_
          refine zcall_i hP hD hS hA [] [0, 1] (va_runS (As := [.int (v_units u_this_end.toNatClampNeg)]) (rest := []) ⟨hx, hb, hml, hown, hts⟩ (c_Wo_isBreak l dC dI ad _ (v_units u_this_end.toNatClampNeg) _ h) ⟨callB_of 1 hts (zgood zc_Wo_isBreak) rfl rfl rfl (hts _ zw_97) (hts _ zw_507) (by decide +kernel) ⟨Nat.le_of_ble_eq_true rfl, Nat.le_of_ble_eq_true rfl⟩, (hts _ zw_508)⟩ (zpreS hE hK hP hD hS hA [] [] (by rfl) (by rfl) (by decide)) rfl rfl hl.1 rfl (lv_room (Nat.le_of_ble_eq_true rfl)) dWo_next_109 ⟨Nat.le_of_ble_eq_true rfl, Nat.le_of_ble_eq_true rfl⟩) (by rfl) (by rfl) (by decide) (by decide) (fun r5 u H locs h hP hD hS => ?_)
          try dsimp only at h
          have hP := hP.sub (ws' := (w_Wo_next ad a_this a_units k_units v_this_length u_this_start u_this_end v_this_place v_units)) [0, 1] rfl
          have hD := hD.sub (ws' := (w_Wo_next ad a_this a_units k_units v_this_length u_this_start u_this_end v_this_place v_units)) [0, 1] (by decide) rfl
          refine lv_if_ne (tgt := 128) hx hb dWo_next_112 (by decide) ?_ ?_
          · intro c6
            replace h := h.1 c6
            exact w_Wo_next_128 l C0 hE a_this a_units k_units v_this_length v_this_start v_this_end v_this_place v_units post hK u_this_start u_this_end _ _ h hP hD hS ls (lv_sub hl [0] rfl)
          · intro c6
            replace h := h.2 c6
            refine lv_aload_n hx hb dWo_next_115 rfl (lv_at hl 0 rfl) ?_
            refine lv_dup hx hb dWo_next_116 rfl ?_
            refine va_get (D := (dC, dI)) (ci := 0) (v := .int u_this_end) (C := RWo) (T := TWo) (N := 5) hx hb hts inZ_Wo hown hK hP 0 rfl rfl 3 (by decide) (hts _ zw_143) (fun _ h9 => h9) rfl dWo_next_117 ?_
            refine lv_iconst (v := 1) hx hb dWo_next_120 (by decide) ?_
            refine lv_iadd hx hb dWo_next_121 ?_
            refine lv_topi (fun x7 ex7 => ?_)
            replace h := h x7 ex7
            refine va_put (D := (dC, dI)) (ci := 0) (v := .int x7) (ty := .int) (C := RWo) (T := TWo) (N := 5) hx hb hts inZ_Wo tyWo tyWo_ok nmWo hown hK hP hD hS 0 rfl rfl 3 (by decide) (hts _ zw_143) (fun _ h9 => h9) rfl (by decide +kernel) rfl rfl (Nat.le_of_ble_eq_true rfl) dWo_next_122 (fun H locs hP hD hS => ?_)
            have hP : va_P (dC, dI) vwCl (w_Wo_next ad a_this a_units k_units v_this_length u_this_start x7 v_this_place v_units) H := hP
            have hD : va_D A (w_Wo_next ad a_this a_units k_units v_this_length u_this_start x7 v_this_place v_units) := hD
            refine lv_goto (tgt := 72) hx hb dWo_next_125 (by decide) ?_
            exact ih u_this_start x7 _ _ h hP hD hS ls (lv_sub hl [0] rfl)
def P_Wo_next_64 (v_this_length : Int32) (v_this_place : Int32) (v_units : Nat → Int32) (post : Int32 → Int32 → Int32 → Int32 → Prop) (u_this_start : Int32) : Prop := ∃ n1, P_Wo_next_72 v_this_length v_this_place v_units post n1 u_this_start u_this_start
set_option maxHeartbeats 4000000 in
set_option maxRecDepth 100000 in
theorem w_Wo_next_64 (l : Launch) {p : Program} {e : Env} {s : State} {m : MethodId} {args : Array Value} {below : List Frame} {meth : Method} {c : Code} {dC : Nat → ClassId} {dI : Nat → Nat → Nat} {ad : Nat → Nat → Nat} {A : Nat → Prop} (C0 : zC p s m args meth c cWo_next 1 RWo zT (some .boolean) A) (hE : zE ad A s) (a_this : Nat) (a_units : Nat) (k_units : ClassId) (v_this_length : Int32) (v_this_start : Int32) (v_this_end : Int32) (v_this_place : Int32) (v_units : Nat → Int32) (post : Int32 → Int32 → Int32 → Int32 → Prop) (hK : va_K (dC, dI) vwCl [(k_units, .char)] s) : ∀ (u_this_start : Int32) (H : Heap) (locs : List Loc), P_Wo_next_64 v_this_length v_this_place v_units post u_this_start → va_P (dC, dI) vwCl (w_Wo_next ad a_this a_units k_units v_this_length u_this_start v_this_end v_this_place v_units) H → va_D A (w_Wo_next ad a_this a_units k_units v_this_length u_this_start v_this_end v_this_place v_units) → va_S A s.heap H locs → ∀ ls : Array Slot, lv_has ls 1 [(0, .ref a_this)] → W p l e (headSpec wsWo_next { frames := 1, cells := 0, slots := 0, locals := 20 }).room s m args below meth c H locs 0 0 (MQ below (va_Qi (fun (r : Int32) (u : Int32 × Int32 × Int32) => post r u.1 u.2.1 u.2.2) (zB (dC, dI) A (fun (u : Int32 × Int32 × Int32) => (w_Wo_next ad a_this a_units k_units v_this_length u.1 u.2.1 u.2.2 v_units))) A) args s 0 0 A) (F0 m 64 ls []) := by
  obtain ⟨hx, hb, hr, hml, hown, hts, hlocks, hA⟩ := id C0
  intro u_this_start H locs h hP hD hS ls hl
  unfold P_Wo_next_64 at h
  refine lv_aload_n hx hb dWo_next_64 rfl (lv_at hl 0 rfl) ?_
  refine lv_aload_n hx hb dWo_next_65 rfl (lv_at hl 0 rfl) ?_
  refine va_get (D := (dC, dI)) (ci := 0) (v := .int u_this_start) (C := RWo) (T := TWo) (N := 5) hx hb hts inZ_Wo hown hK hP 0 rfl rfl 2 (by decide) (hts _ zw_142) (fun _ h9 => h9) rfl dWo_next_66 ?_
  refine va_put (D := (dC, dI)) (ci := 0) (v := .int u_this_start) (ty := .int) (C := RWo) (T := TWo) (N := 5) hx hb hts inZ_Wo tyWo tyWo_ok nmWo hown hK hP hD hS 0 rfl rfl 3 (by decide) (hts _ zw_143) (fun _ h9 => h9) rfl (by decide +kernel) rfl rfl (Nat.le_of_ble_eq_true rfl) dWo_next_69 (fun H locs hP hD hS => ?_)
  have hP : va_P (dC, dI) vwCl (w_Wo_next ad a_this a_units k_units v_this_length u_this_start u_this_start v_this_place v_units) H := hP
  have hD : va_D A (w_Wo_next ad a_this a_units k_units v_this_length u_this_start u_this_start v_this_place v_units) := hD
  obtain ⟨n1, h⟩ := h
  exact w_Wo_next_72 l C0 hE a_this a_units k_units v_this_length v_this_start v_this_end v_this_place v_units post hK n1 u_this_start u_this_start _ _ h hP hD hS ls (lv_sub hl [0] rfl)
def P_Wo_next_8 (v_this_length : Int32) (v_this_place : Int32) (v_units : Nat → Int32) (post : Int32 → Int32 → Int32 → Int32 → Prop) : Nat → Int32 → Prop
  | 0, _ => False
  | n + 1, u_this_start => ((u_this_start < 0 → P_Wo_next_64 v_this_length v_this_place v_units post u_this_start) ∧ (¬ u_this_start < 0 → ((v_this_length ≤ u_this_start → P_Wo_next_64 v_this_length v_this_place v_units post u_this_start) ∧ (¬ v_this_length ≤ u_this_start → ((600 ≤ u_this_start → P_Wo_next_64 v_this_length v_this_place v_units post u_this_start) ∧ (¬ 600 ≤ u_this_start → vp_in u_this_start 600 ∧ P_Wo_isBreak (v_units u_this_start.toNatClampNeg) (fun (r5 : Int32) => ((r5 = 0 → P_Wo_next_64 v_this_length v_this_place v_units post u_this_start) ∧ (¬ r5 = 0 → ∀ x7 : Int32, x7 = u_this_start + 1 → P_Wo_next_8 v_this_length v_this_place v_units post n x7)))))))))
set_option maxHeartbeats 4000000 in
set_option maxRecDepth 100000 in
theorem w_Wo_next_8 (l : Launch) {p : Program} {e : Env} {s : State} {m : MethodId} {args : Array Value} {below : List Frame} {meth : Method} {c : Code} {dC : Nat → ClassId} {dI : Nat → Nat → Nat} {ad : Nat → Nat → Nat} {A : Nat → Prop} (C0 : zC p s m args meth c cWo_next 1 RWo zT (some .boolean) A) (hE : zE ad A s) (a_this : Nat) (a_units : Nat) (k_units : ClassId) (v_this_length : Int32) (v_this_start : Int32) (v_this_end : Int32) (v_this_place : Int32) (v_units : Nat → Int32) (post : Int32 → Int32 → Int32 → Int32 → Prop) (hK : va_K (dC, dI) vwCl [(k_units, .char)] s) : ∀ (n : Nat), ∀ (u_this_start : Int32) (H : Heap) (locs : List Loc), P_Wo_next_8 v_this_length v_this_place v_units post n u_this_start → va_P (dC, dI) vwCl (w_Wo_next ad a_this a_units k_units v_this_length u_this_start v_this_end v_this_place v_units) H → va_D A (w_Wo_next ad a_this a_units k_units v_this_length u_this_start v_this_end v_this_place v_units) → va_S A s.heap H locs → ∀ ls : Array Slot, lv_has ls 1 [(0, .ref a_this)] → W p l e (headSpec wsWo_next { frames := 1, cells := 0, slots := 0, locals := 20 }).room s m args below meth c H locs 0 0 (MQ below (va_Qi (fun (r : Int32) (u : Int32 × Int32 × Int32) => post r u.1 u.2.1 u.2.2) (zB (dC, dI) A (fun (u : Int32 × Int32 × Int32) => (w_Wo_next ad a_this a_units k_units v_this_length u.1 u.2.1 u.2.2 v_units))) A) args s 0 0 A) (F0 m 8 ls []) := by
  obtain ⟨hx, hb, hr, hml, hown, hts, hlocks, hA⟩ := id C0
  intro n
  induction n with
  | zero =>
    intro u_this_start H locs h
    exact False.elim h
  | succ n ih =>
    intro u_this_start H locs h hP hD hS ls hl
    rw [P_Wo_next_8] at h
    refine lv_aload_n hx hb dWo_next_8 rfl (lv_at hl 0 rfl) ?_
    refine va_get (D := (dC, dI)) (ci := 0) (v := .int u_this_start) (C := RWo) (T := TWo) (N := 5) hx hb hts inZ_Wo hown hK hP 0 rfl rfl 2 (by decide) (hts _ zw_142) (fun _ h9 => h9) rfl dWo_next_9 ?_
    refine lv_if_lt (tgt := 64) hx hb dWo_next_12 (by decide) ?_ ?_
    · intro c1
      replace h := h.1 c1
      exact w_Wo_next_64 l C0 hE a_this a_units k_units v_this_length v_this_start v_this_end v_this_place v_units post hK u_this_start _ _ h hP hD hS ls (lv_sub hl [0] rfl)
    · intro c1
      replace h := h.2 c1
      refine lv_aload_n hx hb dWo_next_15 rfl (lv_at hl 0 rfl) ?_
      refine va_get (D := (dC, dI)) (ci := 0) (v := .int u_this_start) (C := RWo) (T := TWo) (N := 5) hx hb hts inZ_Wo hown hK hP 0 rfl rfl 2 (by decide) (hts _ zw_142) (fun _ h9 => h9) rfl dWo_next_16 ?_
      refine lv_aload_n hx hb dWo_next_19 rfl (lv_at hl 0 rfl) ?_
      refine va_get (D := (dC, dI)) (ci := 0) (v := .int v_this_length) (C := RWo) (T := TWo) (N := 5) hx hb hts inZ_Wo hown hK hP 0 rfl rfl 1 (by decide) (hts _ zw_141) (fun _ h9 => h9) rfl dWo_next_20 ?_
      refine lv_icmp_ge (tgt := 64) hx hb dWo_next_23 (by decide) ?_ ?_
      · intro c2
        replace h := h.1 c2
        exact w_Wo_next_64 l C0 hE a_this a_units k_units v_this_length v_this_start v_this_end v_this_place v_units post hK u_this_start _ _ h hP hD hS ls (lv_sub hl [0] rfl)
      · intro c2
        replace h := h.2 c2
        refine lv_aload_n hx hb dWo_next_26 rfl (lv_at hl 0 rfl) ?_
        refine va_get (D := (dC, dI)) (ci := 0) (v := .int u_this_start) (C := RWo) (T := TWo) (N := 5) hx hb hts inZ_Wo hown hK hP 0 rfl rfl 2 (by decide) (hts _ zw_142) (fun _ h9 => h9) rfl dWo_next_27 ?_
        refine lv_sipush (v := 600) hx hb dWo_next_30 (by decide) ?_
        refine lv_icmp_ge (tgt := 64) hx hb dWo_next_33 (by decide) ?_ ?_
        · intro c3
          replace h := h.1 c3
          exact w_Wo_next_64 l C0 hE a_this a_units k_units v_this_length v_this_start v_this_end v_this_place v_units post hK u_this_start _ _ h hP hD hS ls (lv_sub hl [0] rfl)
        · intro c3
          replace h := h.2 c3
          refine lv_aload_n hx hb dWo_next_36 rfl (lv_at hl 0 rfl) ?_
          refine va_get (D := (dC, dI)) (ci := 0) (v := .ref a_units) (C := RWo) (T := TWo) (N := 5) hx hb hts inZ_Wo hown hK hP 0 rfl rfl 0 (by decide) (hts _ zw_140) (fun _ h9 => h9) rfl dWo_next_37 ?_
          refine lv_aload_n hx hb dWo_next_40 rfl (lv_at hl 0 rfl) ?_
          refine va_get (D := (dC, dI)) (ci := 0) (v := .int u_this_start) (C := RWo) (T := TWo) (N := 5) hx hb hts inZ_Wo hown hK hP 0 rfl rfl 2 (by decide) (hts _ zw_142) (fun _ h9 => h9) rfl dWo_next_41 ?_
          obtain ⟨hn4, h⟩ := h
          refine va_cald hx hb hK hP 1 0 rfl rfl hn4 dWo_next_44 ?_
          refine zcall_i hP hD hS hA [] [0, 1] (va_runS (As := [.int (v_units u_this_start.toNatClampNeg)]) (rest := []) ⟨hx, hb, hml, hown, hts⟩ (c_Wo_isBreak l dC dI ad _ (v_units u_this_start.toNatClampNeg) _ h) ⟨callB_of 1 hts (zgood zc_Wo_isBreak) rfl rfl rfl (hts _ zw_97) (hts _ zw_507) (by decide +kernel) ⟨Nat.le_of_ble_eq_true rfl, Nat.le_of_ble_eq_true rfl⟩, (hts _ zw_508)⟩ (zpreS hE hK hP hD hS hA [] [] (by rfl) (by rfl) (by decide)) rfl rfl hl.1 rfl (lv_room (Nat.le_of_ble_eq_true rfl)) dWo_next_45 ⟨Nat.le_of_ble_eq_true rfl, Nat.le_of_ble_eq_true rfl⟩) (by rfl) (by rfl) (by decide) (by decide) (fun r5 u H locs h hP hD hS => ?_)
          try dsimp only at h
          have hP := hP.sub (ws' := (w_Wo_next ad a_this a_units k_units v_this_length u_this_start v_this_end v_this_place v_units)) [0, 1] rfl
          have hD := hD.sub (ws' := (w_Wo_next ad a_this a_units k_units v_this_length u_this_start v_this_end v_this_place v_units)) [0, 1] (by decide) rfl
          refine lv_if_eq (tgt := 64) hx hb dWo_next_48 (by decide) ?_ ?_
          · intro c6
            replace h := h.1 c6
            exact w_Wo_next_64 l C0 hE a_this a_units k_units v_this_length v_this_start v_this_end v_this_place v_units post hK u_this_start _ _ h hP hD hS ls (lv_sub hl [0] rfl)
          · intro c6
            replace h := h.2 c6
            refine lv_aload_n hx hb dWo_next_51 rfl (lv_at hl 0 rfl) ?_
            refine lv_dup hx hb dWo_next_52 rfl ?_
            refine va_get (D := (dC, dI)) (ci := 0) (v := .int u_this_start) (C := RWo) (T := TWo) (N := 5) hx hb hts inZ_Wo hown hK hP 0 rfl rfl 2 (by decide) (hts _ zw_142) (fun _ h9 => h9) rfl dWo_next_53 ?_
            refine lv_iconst (v := 1) hx hb dWo_next_56 (by decide) ?_
            refine lv_iadd hx hb dWo_next_57 ?_
            refine lv_topi (fun x7 ex7 => ?_)
            replace h := h x7 ex7
            refine va_put (D := (dC, dI)) (ci := 0) (v := .int x7) (ty := .int) (C := RWo) (T := TWo) (N := 5) hx hb hts inZ_Wo tyWo tyWo_ok nmWo hown hK hP hD hS 0 rfl rfl 2 (by decide) (hts _ zw_142) (fun _ h9 => h9) rfl (by decide +kernel) rfl rfl (Nat.le_of_ble_eq_true rfl) dWo_next_58 (fun H locs hP hD hS => ?_)
            have hP : va_P (dC, dI) vwCl (w_Wo_next ad a_this a_units k_units v_this_length x7 v_this_end v_this_place v_units) H := hP
            have hD : va_D A (w_Wo_next ad a_this a_units k_units v_this_length x7 v_this_end v_this_place v_units) := hD
            refine lv_goto (tgt := 8) hx hb dWo_next_61 (by decide) ?_
            exact ih x7 _ _ h hP hD hS ls (lv_sub hl [0] rfl)
def P_Wo_next (v_this_length : Int32) (v_this_end : Int32) (v_this_place : Int32) (v_units : Nat → Int32) (post : Int32 → Int32 → Int32 → Int32 → Prop) : Prop := ∃ n1, P_Wo_next_8 v_this_length v_this_place v_units post n1 v_this_end
set_option maxHeartbeats 4000000 in
set_option maxRecDepth 100000 in
theorem c_Wo_next (l : Launch) (dC : Nat → ClassId) (dI : Nat → Nat → Nat) (ad : Nat → Nat → Nat) (a_this : Nat) (a_units : Nat) (k_units : ClassId) (sz : Nat) (v_this_length : Int32) (v_this_start : Int32) (v_this_end : Int32) (v_this_place : Int32) (v_units : Nat → Int32) (post : Int32 → Int32 → Int32 → Int32 → Prop) (h : P_Wo_next v_this_length v_this_end v_this_place v_units post) : zMi l yWo_next wsWo_next { frames := 1, cells := 0, slots := 0, locals := 20 } (dC, dI) ad [.ref a_this] (w_Wo_next ad a_this a_units k_units v_this_length v_this_start v_this_end v_this_place v_units) [(k_units, .char)] sz (fun (r : Int32) (u : Int32 × Int32 × Int32) => post r u.1 u.2.1 u.2.2) (fun (u : Int32 × Int32 × Int32) => (w_Wo_next ad a_this a_units k_units v_this_length u.1 u.2.1 u.2.2 v_units)) 0 0 := by
  refine Met.ofW (cc := cWo_next) (maxL := 1) (ret := (some .boolean)) (by decide +kernel) rfl ?_
  intro p e s m args below meth c s₁ B hml hv
  obtain ⟨rfl, hsz, hP, hK, hD0, hE⟩ := hv
  have hx := B.exec
  have hb := B.bytes
  have hr := B.returns
  have hts0 := atoms_spec (ws := wsWo_next) B.pre
  have hts := fun w h => hts0 w (List.mem_cons_of_mem _ h)
  have hown : s.vm.findClass RWo = some m.cls := findClass_of_methodNamed B.named
  have hlocks := B.notSynchronized
  subst hsz
  have hD := hD0.self (sz := s.heap.size)
  generalize hAe : va_A (w_Wo_next ad a_this a_units k_units v_this_length v_this_start v_this_end v_this_place v_units) s.heap.size = A at hD hE ⊢
  have hA : ∀ q : Nat, s.heap.size ≤ q → A q := fun q h => by rw [← hAe]; exact Or.inr h
  have C0 := zC.mk hx hb hr hml hown hts hlocks hA
  have hS : va_S A s.heap s.heap [] := va_S.rf
  have hl := lv_entry ([.ref a_this]) (n := 1) (Nat.le_of_ble_eq_true rfl)
  rw [lg_entry_eq]
  generalize (lg_sl ([.ref a_this]) ++ List.replicate (1 - (lg_sl ([.ref a_this])).length) Slot.unset).toArray = ls at hl ⊢
  have hl : lv_has ls 1 [(0, .ref a_this)] := hl
  unfold P_Wo_next at h
  refine lv_aload_n hx hb dWo_next_0 rfl (lv_at hl 0 rfl) ?_
  refine lv_aload_n hx hb dWo_next_1 rfl (lv_at hl 0 rfl) ?_
  refine va_get (D := (dC, dI)) (ci := 0) (v := .int v_this_end) (C := RWo) (T := TWo) (N := 5) hx hb hts inZ_Wo hown hK hP 0 rfl rfl 3 (by decide) (hts _ zw_143) (fun _ h9 => h9) rfl dWo_next_2 ?_
  refine va_put (D := (dC, dI)) (ci := 0) (v := .int v_this_end) (ty := .int) (C := RWo) (T := TWo) (N := 5) hx hb hts inZ_Wo tyWo tyWo_ok nmWo hown hK hP hD hS 0 rfl rfl 2 (by decide) (hts _ zw_142) (fun _ h9 => h9) rfl (by decide +kernel) rfl rfl (Nat.le_of_ble_eq_true rfl) dWo_next_5 (fun H locs hP hD hS => ?_)
  have hP : va_P (dC, dI) vwCl (w_Wo_next ad a_this a_units k_units v_this_length v_this_end v_this_end v_this_place v_units) H := hP
  have hD : va_D A (w_Wo_next ad a_this a_units k_units v_this_length v_this_end v_this_end v_this_place v_units) := hD
  obtain ⟨n1, h⟩ := h
  exact w_Wo_next_8 l C0 hE a_this a_units k_units v_this_length v_this_start v_this_end v_this_place v_units post hK n1 v_this_end _ _ h hP hD hS ls (lv_sub hl [0] rfl)
abbrev yWo_size : MethodName := ⟨"FootprintRules$Words", "size", "()I"⟩
abbrev cWo_size : ByteArray := prog_12_method_7_code
abbrev wsWo_size : List Cond := .code yWo_size cWo_size 1 (some .int) :: zT
set_option maxRecDepth 100000 in
theorem zc_Wo_size : Cond.code yWo_size cWo_size 1 (some .int) ∈ zT := zm 523 (by rfl) (by rfl)
theorem dWo_size_0 : decode cWo_size 0 = .ok (.aload_n 0, 1) := by decide +kernel
theorem dWo_size_1 : decode cWo_size 1 = .ok (.getfield 19, 3) := by decide +kernel
theorem dWo_size_4 : decode cWo_size 4 = .ok (.aload_n 0, 1) := by decide +kernel
theorem dWo_size_5 : decode cWo_size 5 = .ok (.getfield 25, 3) := by decide +kernel
theorem dWo_size_8 : decode cWo_size 8 = .ok (.isub, 1) := by decide +kernel
theorem dWo_size_9 : decode cWo_size 9 = .ok (.ireturn, 1) := by decide +kernel
-- FootprintRules$Words.size()I
abbrev w_Wo_size (ad : Nat → Nat → Nat) (a_this : Nat) (a_units : Nat)  (v_this_length : Int32) (v_this_start : Int32) (v_this_end : Int32) (v_this_place : Int32) : va_W := [(a_this, .inr (0, [.ref a_units, .int v_this_length, .int v_this_start, .int v_this_end, .int v_this_place]))]
def P_Wo_size (v_this_start : Int32) (v_this_end : Int32) (post : Int32 → Prop) : Prop := post (v_this_end - v_this_start)
set_option maxHeartbeats 4000000 in
set_option maxRecDepth 100000 in
theorem c_Wo_size (l : Launch) (dC : Nat → ClassId) (dI : Nat → Nat → Nat) (ad : Nat → Nat → Nat) (a_this : Nat) (a_units : Nat)  (sz : Nat) (v_this_length : Int32) (v_this_start : Int32) (v_this_end : Int32) (v_this_place : Int32) (post : Int32 → Prop) (h : P_Wo_size v_this_start v_this_end post) : zMi l yWo_size wsWo_size { frames := 0, cells := 0, slots := 0, locals := 0 } (dC, dI) ad [.ref a_this] (w_Wo_size ad a_this a_units v_this_length v_this_start v_this_end v_this_place) [] sz (fun (r : Int32) (u : Unit) => post r) (fun (u : Unit) => (w_Wo_size ad a_this a_units v_this_length v_this_start v_this_end v_this_place)) 0 0 := by
  refine Met.ofW (cc := cWo_size) (maxL := 1) (ret := (some .int)) (by decide +kernel) rfl ?_
  intro p e s m args below meth c s₁ B hml hv
  obtain ⟨rfl, hsz, hP, hK, hD0, hE⟩ := hv
  have hx := B.exec
  have hb := B.bytes
  have hr := B.returns
  have hts0 := atoms_spec (ws := wsWo_size) B.pre
  have hts := fun w h => hts0 w (List.mem_cons_of_mem _ h)
  have hown : s.vm.findClass RWo = some m.cls := findClass_of_methodNamed B.named
  have hlocks := B.notSynchronized
  subst hsz
  have hD := hD0.self (sz := s.heap.size)
  generalize hAe : va_A (w_Wo_size ad a_this a_units v_this_length v_this_start v_this_end v_this_place) s.heap.size = A at hD hE ⊢
  have hA : ∀ q : Nat, s.heap.size ≤ q → A q := fun q h => by rw [← hAe]; exact Or.inr h
  have C0 := zC.mk hx hb hr hml hown hts hlocks hA
  have hS : va_S A s.heap s.heap [] := va_S.rf
  have hl := lv_entry ([.ref a_this]) (n := 1) (Nat.le_of_ble_eq_true rfl)
  rw [lg_entry_eq]
  generalize (lg_sl ([.ref a_this]) ++ List.replicate (1 - (lg_sl ([.ref a_this])).length) Slot.unset).toArray = ls at hl ⊢
  have hl : lv_has ls 1 [(0, .ref a_this)] := hl
  unfold P_Wo_size at h
  refine lv_aload_n hx hb dWo_size_0 rfl (lv_at hl 0 rfl) ?_
  refine va_get (D := (dC, dI)) (ci := 0) (v := .int v_this_end) (C := RWo) (T := TWo) (N := 5) hx hb hts inZ_Wo hown hK hP 0 rfl rfl 3 (by decide) (hts _ zw_143) (fun _ h9 => h9) rfl dWo_size_1 ?_
  refine lv_aload_n hx hb dWo_size_4 rfl (lv_at hl 0 rfl) ?_
  refine va_get (D := (dC, dI)) (ci := 0) (v := .int v_this_start) (C := RWo) (T := TWo) (N := 5) hx hb hts inZ_Wo hown hK hP 0 rfl rfl 2 (by decide) (hts _ zw_142) (fun _ h9 => h9) rfl dWo_size_5 ?_
  refine lv_isub hx hb dWo_size_8 ?_
  exact W.iret (v := (v_this_end - v_this_start)) hx hb hr (fun t ht hW => ⟨⟨(v_this_end - v_this_start), (()), rfl, h, by rw [ht]; exact hP, hD⟩, hS.F ht⟩) hS.2.2 dWo_size_9
abbrev yWo_at : MethodName := ⟨"FootprintRules$Words", "at", "(I)C"⟩
abbrev cWo_at : ByteArray := prog_12_method_8_code
abbrev wsWo_at : List Cond := .code yWo_at cWo_at 3 (some .char) :: zT
set_option maxRecDepth 100000 in
theorem zc_Wo_at : Cond.code yWo_at cWo_at 3 (some .char) ∈ zT := zm 537 (by rfl) (by rfl)
theorem dWo_at_0 : decode cWo_at 0 = .ok (.aload_n 0, 1) := by decide +kernel
theorem dWo_at_1 : decode cWo_at 1 = .ok (.getfield 25, 3) := by decide +kernel
theorem dWo_at_4 : decode cWo_at 4 = .ok (.iload_n 1, 1) := by decide +kernel
theorem dWo_at_5 : decode cWo_at 5 = .ok (.iadd, 1) := by decide +kernel
theorem dWo_at_6 : decode cWo_at 6 = .ok (.istore_n 2, 1) := by decide +kernel
theorem dWo_at_7 : decode cWo_at 7 = .ok (.iload_n 2, 1) := by decide +kernel
theorem dWo_at_8 : decode cWo_at 8 = .ok (.ifCond .lt 19, 3) := by decide +kernel
theorem dWo_at_11 : decode cWo_at 11 = .ok (.iload_n 2, 1) := by decide +kernel
theorem dWo_at_12 : decode cWo_at 12 = .ok (.sipush 600, 3) := by decide +kernel
theorem dWo_at_15 : decode cWo_at 15 = .ok (.if_icmp .ge 12, 3) := by decide +kernel
theorem dWo_at_18 : decode cWo_at 18 = .ok (.aload_n 0, 1) := by decide +kernel
theorem dWo_at_19 : decode cWo_at 19 = .ok (.getfield 9, 3) := by decide +kernel
theorem dWo_at_22 : decode cWo_at 22 = .ok (.iload_n 2, 1) := by decide +kernel
theorem dWo_at_23 : decode cWo_at 23 = .ok (.caload, 1) := by decide +kernel
theorem dWo_at_24 : decode cWo_at 24 = .ok (.goto 5, 3) := by decide +kernel
theorem dWo_at_27 : decode cWo_at 27 = .ok (.bipush 32, 2) := by decide +kernel
theorem dWo_at_29 : decode cWo_at 29 = .ok (.ireturn, 1) := by decide +kernel
-- FootprintRules$Words.at(I)C
abbrev w_Wo_at (ad : Nat → Nat → Nat) (a_this : Nat) (a_units : Nat) (k_units : ClassId) (v_this_length : Int32) (v_this_start : Int32) (v_this_end : Int32) (v_this_place : Int32) (v_units : Nat → Int32) : va_W := [(a_this, .inr (0, [.ref a_units, .int v_this_length, .int v_this_start, .int v_this_end, .int v_this_place])), (a_units, .inl (k_units, 600, .inl v_units))]
def P_Wo_at (p1 : Int32) (v_this_start : Int32) (v_units : Nat → Int32) (post : Int32 → Prop) : Prop := ∀ x1 : Int32, x1 = v_this_start + p1 → ((x1 < 0 → post 32) ∧ (¬ x1 < 0 → ((600 ≤ x1 → post 32) ∧ (¬ 600 ≤ x1 → vp_in x1 600 ∧ narrow .char (.int (v_units x1.toNatClampNeg)) = .int (v_units x1.toNatClampNeg) ∧ post (v_units x1.toNatClampNeg)))))
set_option maxHeartbeats 4000000 in
set_option maxRecDepth 100000 in
theorem c_Wo_at (l : Launch) (dC : Nat → ClassId) (dI : Nat → Nat → Nat) (ad : Nat → Nat → Nat) (a_this : Nat) (a_units : Nat) (k_units : ClassId) (sz : Nat) (p1 : Int32) (v_this_length : Int32) (v_this_start : Int32) (v_this_end : Int32) (v_this_place : Int32) (v_units : Nat → Int32) (post : Int32 → Prop) (h : P_Wo_at p1 v_this_start v_units post) : zMi l yWo_at wsWo_at { frames := 0, cells := 0, slots := 0, locals := 0 } (dC, dI) ad [.ref a_this, .int p1] (w_Wo_at ad a_this a_units k_units v_this_length v_this_start v_this_end v_this_place v_units) [(k_units, .char)] sz (fun (r : Int32) (u : Unit) => post r) (fun (u : Unit) => (w_Wo_at ad a_this a_units k_units v_this_length v_this_start v_this_end v_this_place v_units)) 0 0 := by
  refine Met.ofW (cc := cWo_at) (maxL := 3) (ret := (some .char)) (by decide +kernel) rfl ?_
  intro p e s m args below meth c s₁ B hml hv
  obtain ⟨rfl, hsz, hP, hK, hD0, hE⟩ := hv
  have hx := B.exec
  have hb := B.bytes
  have hr := B.returns
  have hts0 := atoms_spec (ws := wsWo_at) B.pre
  have hts := fun w h => hts0 w (List.mem_cons_of_mem _ h)
  have hown : s.vm.findClass RWo = some m.cls := findClass_of_methodNamed B.named
  have hlocks := B.notSynchronized
  subst hsz
  have hD := hD0.self (sz := s.heap.size)
  generalize hAe : va_A (w_Wo_at ad a_this a_units k_units v_this_length v_this_start v_this_end v_this_place v_units) s.heap.size = A at hD hE ⊢
  have hA : ∀ q : Nat, s.heap.size ≤ q → A q := fun q h => by rw [← hAe]; exact Or.inr h
  have C0 := zC.mk hx hb hr hml hown hts hlocks hA
  have hS : va_S A s.heap s.heap [] := va_S.rf
  have hl := lv_entry ([.ref a_this, .int p1]) (n := 3) (Nat.le_of_ble_eq_true rfl)
  rw [lg_entry_eq]
  generalize (lg_sl ([.ref a_this, .int p1]) ++ List.replicate (3 - (lg_sl ([.ref a_this, .int p1])).length) Slot.unset).toArray = ls at hl ⊢
  have hl : lv_has ls 3 [(0, .ref a_this), (1, .int p1)] := hl
  unfold P_Wo_at at h
  refine lv_aload_n hx hb dWo_at_0 rfl (lv_at hl 0 rfl) ?_
  refine va_get (D := (dC, dI)) (ci := 0) (v := .int v_this_start) (C := RWo) (T := TWo) (N := 5) hx hb hts inZ_Wo hown hK hP 0 rfl rfl 2 (by decide) (hts _ zw_142) (fun _ h9 => h9) rfl dWo_at_1 ?_
  refine lv_iload_n hx hb dWo_at_4 rfl (lv_at hl 1 rfl) ?_
  refine lv_iadd hx hb dWo_at_5 ?_
  refine lv_topi (fun x1 ex1 => ?_)
  replace h := h x1 ex1
  refine lv_istore_n (lv' := [(2, .int x1), (0, .ref a_this), (1, .int p1)]) hx hb dWo_at_6 rfl hl (by decide) rfl (fun ls hl => ?_)
  refine lv_iload_n hx hb dWo_at_7 rfl (lv_at hl 0 rfl) ?_
  refine lv_if_lt (tgt := 27) hx hb dWo_at_8 (by decide) ?_ ?_
  · intro c2
    replace h := h.1 c2
    refine lv_bipush (v := 32) hx hb dWo_at_27 (by decide) ?_
    exact W.zret (v := 32) hx hb hr rfl (fun t ht hW => ⟨⟨32, (()), rfl, h, by rw [ht]; exact hP, hD⟩, hS.F ht⟩) hS.2.2 dWo_at_29
  · intro c2
    replace h := h.2 c2
    refine lv_iload_n hx hb dWo_at_11 rfl (lv_at hl 0 rfl) ?_
    refine lv_sipush (v := 600) hx hb dWo_at_12 (by decide) ?_
    refine lv_icmp_ge (tgt := 27) hx hb dWo_at_15 (by decide) ?_ ?_
    · intro c3
      replace h := h.1 c3
      refine lv_bipush (v := 32) hx hb dWo_at_27 (by decide) ?_
      exact W.zret (v := 32) hx hb hr rfl (fun t ht hW => ⟨⟨32, (()), rfl, h, by rw [ht]; exact hP, hD⟩, hS.F ht⟩) hS.2.2 dWo_at_29
    · intro c3
      replace h := h.2 c3
      refine lv_aload_n hx hb dWo_at_18 rfl (lv_at hl 1 rfl) ?_
      refine va_get (D := (dC, dI)) (ci := 0) (v := .ref a_units) (C := RWo) (T := TWo) (N := 5) hx hb hts inZ_Wo hown hK hP 0 rfl rfl 0 (by decide) (hts _ zw_140) (fun _ h9 => h9) rfl dWo_at_19 ?_
      refine lv_iload_n hx hb dWo_at_22 rfl (lv_at hl 0 rfl) ?_
      obtain ⟨hn4, h⟩ := h
      refine va_cald hx hb hK hP 1 0 rfl rfl hn4 dWo_at_23 ?_
      refine lv_goto (tgt := 29) hx hb dWo_at_24 (by decide) ?_
      obtain ⟨hn5, h⟩ := h
      exact W.zret (v := (v_units x1.toNatClampNeg)) hx hb hr hn5 (fun t ht hW => ⟨⟨(v_units x1.toNatClampNeg), (()), rfl, h, by rw [ht]; exact hP, hD⟩, hS.F ht⟩) hS.2.2 dWo_at_29
abbrev yWo_areWithin : MethodName := ⟨"FootprintRules$Words", "areWithin", "(CC)Z"⟩
abbrev cWo_areWithin : ByteArray := prog_12_method_10_code
abbrev wsWo_areWithin : List Cond := .code yWo_areWithin cWo_areWithin 4 (some .boolean) :: zT
set_option maxRecDepth 100000 in
theorem zc_Wo_areWithin : Cond.code yWo_areWithin cWo_areWithin 4 (some .boolean) ∈ zT := zm 612 (by rfl) (by rfl)
theorem dWo_areWithin_0 : decode cWo_areWithin 0 = .ok (.iconst 0, 1) := by decide +kernel
theorem dWo_areWithin_1 : decode cWo_areWithin 1 = .ok (.istore_n 3, 1) := by decide +kernel
theorem dWo_areWithin_2 : decode cWo_areWithin 2 = .ok (.iload_n 3, 1) := by decide +kernel
theorem dWo_areWithin_3 : decode cWo_areWithin 3 = .ok (.aload_n 0, 1) := by decide +kernel
theorem dWo_areWithin_4 : decode cWo_areWithin 4 = .ok (.invokevirtual 32, 3) := by decide +kernel
theorem dWo_areWithin_7 : decode cWo_areWithin 7 = .ok (.if_icmp .ge 29, 3) := by decide +kernel
theorem dWo_areWithin_10 : decode cWo_areWithin 10 = .ok (.aload_n 0, 1) := by decide +kernel
theorem dWo_areWithin_11 : decode cWo_areWithin 11 = .ok (.iload_n 3, 1) := by decide +kernel
theorem dWo_areWithin_12 : decode cWo_areWithin 12 = .ok (.invokevirtual 40, 3) := by decide +kernel
theorem dWo_areWithin_15 : decode cWo_areWithin 15 = .ok (.iload_n 1, 1) := by decide +kernel
theorem dWo_areWithin_16 : decode cWo_areWithin 16 = .ok (.if_icmp .lt 12, 3) := by decide +kernel
theorem dWo_areWithin_19 : decode cWo_areWithin 19 = .ok (.aload_n 0, 1) := by decide +kernel
theorem dWo_areWithin_20 : decode cWo_areWithin 20 = .ok (.iload_n 3, 1) := by decide +kernel
theorem dWo_areWithin_21 : decode cWo_areWithin 21 = .ok (.invokevirtual 40, 3) := by decide +kernel
theorem dWo_areWithin_24 : decode cWo_areWithin 24 = .ok (.iload_n 2, 1) := by decide +kernel
theorem dWo_areWithin_25 : decode cWo_areWithin 25 = .ok (.if_icmp .le 5, 3) := by decide +kernel
theorem dWo_areWithin_28 : decode cWo_areWithin 28 = .ok (.iconst 0, 1) := by decide +kernel
theorem dWo_areWithin_29 : decode cWo_areWithin 29 = .ok (.ireturn, 1) := by decide +kernel
theorem dWo_areWithin_30 : decode cWo_areWithin 30 = .ok (.iinc 3 1, 3) := by decide +kernel
theorem dWo_areWithin_33 : decode cWo_areWithin 33 = .ok (.goto (-31), 3) := by decide +kernel
theorem dWo_areWithin_36 : decode cWo_areWithin 36 = .ok (.iconst 1, 1) := by decide +kernel
theorem dWo_areWithin_37 : decode cWo_areWithin 37 = .ok (.ireturn, 1) := by decide +kernel
-- FootprintRules$Words.areWithin(CC)Z
abbrev w_Wo_areWithin (ad : Nat → Nat → Nat) (a_this : Nat) (a_units : Nat) (k_units : ClassId) (v_this_length : Int32) (v_this_start : Int32) (v_this_end : Int32) (v_this_place : Int32) (v_units : Nat → Int32) : va_W := [(a_this, .inr (0, [.ref a_units, .int v_this_length, .int v_this_start, .int v_this_end, .int v_this_place])), (a_units, .inl (k_units, 600, .inl v_units))]
def P_Wo_areWithin_2 (p1 : Int32) (p2 : Int32) (v_this_start : Int32) (v_this_end : Int32) (v_units : Nat → Int32) (post : Int32 → Prop) : Nat → Int32 → Prop
  | 0, _ => False
  | n + 1, y3 => P_Wo_size v_this_start v_this_end (fun (r1 : Int32) => ((r1 ≤ y3 → post 1) ∧ (¬ r1 ≤ y3 → P_Wo_at y3 v_this_start v_units (fun (r3 : Int32) => ((r3 < p1 → post 0) ∧ (¬ r3 < p1 → P_Wo_at y3 v_this_start v_units (fun (r5 : Int32) => ((r5 ≤ p2 → ∀ x7 : Int32, x7 = y3 + 1 → P_Wo_areWithin_2 p1 p2 v_this_start v_this_end v_units post n x7) ∧ (¬ r5 ≤ p2 → post 0)))))))))
set_option maxHeartbeats 4000000 in
set_option maxRecDepth 100000 in
theorem w_Wo_areWithin_2 (l : Launch) {p : Program} {e : Env} {s : State} {m : MethodId} {args : Array Value} {below : List Frame} {meth : Method} {c : Code} {dC : Nat → ClassId} {dI : Nat → Nat → Nat} {ad : Nat → Nat → Nat} {A : Nat → Prop} (C0 : zC p s m args meth c cWo_areWithin 4 RWo zT (some .boolean) A) (hE : zE ad A s) (a_this : Nat) (a_units : Nat) (k_units : ClassId) (p1 : Int32) (p2 : Int32) (v_this_length : Int32) (v_this_start : Int32) (v_this_end : Int32) (v_this_place : Int32) (v_units : Nat → Int32) (post : Int32 → Prop) (hK : va_K (dC, dI) vwCl [(k_units, .char)] s) : ∀ (n : Nat), ∀ (y3 : Int32) (H : Heap) (locs : List Loc), P_Wo_areWithin_2 p1 p2 v_this_start v_this_end v_units post n y3 → va_P (dC, dI) vwCl (w_Wo_areWithin ad a_this a_units k_units v_this_length v_this_start v_this_end v_this_place v_units) H → va_D A (w_Wo_areWithin ad a_this a_units k_units v_this_length v_this_start v_this_end v_this_place v_units) → va_S A s.heap H locs → ∀ ls : Array Slot, lv_has ls 4 [(0, .ref a_this), (1, .int p1), (2, .int p2), (3, .int y3)] → W p l e (headSpec wsWo_areWithin { frames := 1, cells := 0, slots := 0, locals := 22 }).room s m args below meth c H locs 0 0 (MQ below (va_Qi (fun (r : Int32) (u : Unit) => post r) (zB (dC, dI) A (fun (u : Unit) => (w_Wo_areWithin ad a_this a_units k_units v_this_length v_this_start v_this_end v_this_place v_units))) A) args s 0 0 A) (F0 m 2 ls []) := by
  obtain ⟨hx, hb, hr, hml, hown, hts, hlocks, hA⟩ := id C0
  intro n
  induction n with
  | zero =>
    intro y3 H locs h
    exact False.elim h
  | succ n ih =>
    intro y3 H locs h hP hD hS ls hl
    rw [P_Wo_areWithin_2] at h
    refine lv_iload_n hx hb dWo_areWithin_2 rfl (lv_at hl 3 rfl) ?_
    refine lv_aload_n hx hb dWo_areWithin_3 rfl (lv_at hl 0 rfl) ?_
    refine zcall_i hP hD hS hA [0] [1] (va_runV (As := []) (rest := [.int y3]) ⟨hx, hb, hml, hown, hts⟩ (c_Wo_size l dC dI ad a_this a_units _ v_this_length v_this_start v_this_end v_this_place _ h) ⟨callB_of 0 hts (zgood zc_Wo_size) rfl rfl rfl (hts _ zw_97) (hts _ zw_520) (by decide +kernel) ⟨Nat.le_of_ble_eq_true rfl, Nat.le_of_ble_eq_true rfl⟩, (hts _ zw_522), (hts _ zw_11)⟩ (zpreV hE hK hP hD hS hA [0] [] (by rfl) (by rfl) (by decide) (ci := 0) (q0 := 0) rfl (by rfl)) rfl rfl hl.1 rfl (lv_room (Nat.le_of_ble_eq_true rfl)) dWo_areWithin_4 ⟨Nat.le_of_ble_eq_true rfl, Nat.le_of_ble_eq_true rfl⟩) (by rfl) (by rfl) (by decide) (by decide) (fun r1 u H locs h hP hD hS => ?_)
    try dsimp only at h
    have hP := hP.sub (ws' := (w_Wo_areWithin ad a_this a_units k_units v_this_length v_this_start v_this_end v_this_place v_units)) [1, 0] rfl
    have hD := hD.sub (ws' := (w_Wo_areWithin ad a_this a_units k_units v_this_length v_this_start v_this_end v_this_place v_units)) [1, 0] (by decide) rfl
    refine lv_icmp_ge (tgt := 36) hx hb dWo_areWithin_7 (by decide) ?_ ?_
    · intro c2
      replace h := h.1 c2
      refine lv_iconst (v := 1) hx hb dWo_areWithin_36 (by decide) ?_
      exact W.zret (v := 1) hx hb hr rfl (fun t ht hW => ⟨⟨1, (()), rfl, h, by rw [ht]; exact hP, hD⟩, hS.F ht⟩) hS.2.2 dWo_areWithin_37
    · intro c2
      replace h := h.2 c2
      refine lv_aload_n hx hb dWo_areWithin_10 rfl (lv_at hl 0 rfl) ?_
      refine lv_iload_n hx hb dWo_areWithin_11 rfl (lv_at hl 3 rfl) ?_
      refine zcall_i hP hD hS hA [0, 1] [] (va_runV (As := [.int y3]) (rest := []) ⟨hx, hb, hml, hown, hts⟩ (c_Wo_at l dC dI ad a_this a_units k_units _ y3 v_this_length v_this_start v_this_end v_this_place v_units _ h) ⟨callB_of 1 hts (zgood zc_Wo_at) rfl rfl rfl (hts _ zw_97) (hts _ zw_534) (by decide +kernel) ⟨Nat.le_of_ble_eq_true rfl, Nat.le_of_ble_eq_true rfl⟩, (hts _ zw_536), (hts _ zw_12)⟩ (zpreV hE hK hP hD hS hA [0, 1] [0] (by rfl) (by rfl) (by decide) (ci := 0) (q0 := 0) rfl (by rfl)) rfl rfl hl.1 rfl (lv_room (Nat.le_of_ble_eq_true rfl)) dWo_areWithin_12 ⟨Nat.le_of_ble_eq_true rfl, Nat.le_of_ble_eq_true rfl⟩) (by rfl) (by rfl) (by decide) (by decide) (fun r3 u H locs h hP hD hS => ?_)
      try dsimp only at h
      have hP := hP.sub (ws' := (w_Wo_areWithin ad a_this a_units k_units v_this_length v_this_start v_this_end v_this_place v_units)) [0, 1] rfl
      have hD := hD.sub (ws' := (w_Wo_areWithin ad a_this a_units k_units v_this_length v_this_start v_this_end v_this_place v_units)) [0, 1] (by decide) rfl
      refine lv_iload_n hx hb dWo_areWithin_15 rfl (lv_at hl 1 rfl) ?_
      refine lv_icmp_lt (tgt := 28) hx hb dWo_areWithin_16 (by decide) ?_ ?_
      · intro c4
        replace h := h.1 c4
        refine lv_iconst (v := 0) hx hb dWo_areWithin_28 (by decide) ?_
        exact W.zret (v := 0) hx hb hr rfl (fun t ht hW => ⟨⟨0, (()), rfl, h, by rw [ht]; exact hP, hD⟩, hS.F ht⟩) hS.2.2 dWo_areWithin_29
      · intro c4
        replace h := h.2 c4
        refine lv_aload_n hx hb dWo_areWithin_19 rfl (lv_at hl 0 rfl) ?_
        refine lv_iload_n hx hb dWo_areWithin_20 rfl (lv_at hl 3 rfl) ?_
        refine zcall_i hP hD hS hA [0, 1] [] (va_runV (As := [.int y3]) (rest := []) ⟨hx, hb, hml, hown, hts⟩ (c_Wo_at l dC dI ad a_this a_units k_units _ y3 v_this_length v_this_start v_this_end v_this_place v_units _ h) ⟨callB_of 1 hts (zgood zc_Wo_at) rfl rfl rfl (hts _ zw_97) (hts _ zw_534) (by decide +kernel) ⟨Nat.le_of_ble_eq_true rfl, Nat.le_of_ble_eq_true rfl⟩, (hts _ zw_536), (hts _ zw_12)⟩ (zpreV hE hK hP hD hS hA [0, 1] [0] (by rfl) (by rfl) (by decide) (ci := 0) (q0 := 0) rfl (by rfl)) rfl rfl hl.1 rfl (lv_room (Nat.le_of_ble_eq_true rfl)) dWo_areWithin_21 ⟨Nat.le_of_ble_eq_true rfl, Nat.le_of_ble_eq_true rfl⟩) (by rfl) (by rfl) (by decide) (by decide) (fun r5 u H locs h hP hD hS => ?_)
        try dsimp only at h
        have hP := hP.sub (ws' := (w_Wo_areWithin ad a_this a_units k_units v_this_length v_this_start v_this_end v_this_place v_units)) [0, 1] rfl
        have hD := hD.sub (ws' := (w_Wo_areWithin ad a_this a_units k_units v_this_length v_this_start v_this_end v_this_place v_units)) [0, 1] (by decide) rfl
        refine lv_iload_n hx hb dWo_areWithin_24 rfl (lv_at hl 2 rfl) ?_
        refine lv_icmp_le (tgt := 30) hx hb dWo_areWithin_25 (by decide) ?_ ?_
        · intro c6
          replace h := h.1 c6
          obtain ⟨x7, ex7⟩ : ∃ y : Int32, y = y3 + 1 := ⟨_, rfl⟩
          replace h := h x7 ex7
          refine lv_iinc (v := x7) (lv' := [(3, .int x7), (0, .ref a_this), (1, .int p1), (2, .int p2)]) hx hb dWo_areWithin_30 hl (k := 3) rfl (by rw [ex7]; rfl) (by decide) rfl (fun ls hl => ?_)
          refine lv_goto (tgt := 2) hx hb dWo_areWithin_33 (by decide) ?_
          exact ih x7 _ _ h hP hD hS ls (lv_sub hl [1, 2, 3, 0] rfl)
        · intro c6
          replace h := h.2 c6
          refine lv_iconst (v := 0) hx hb dWo_areWithin_28 (by decide) ?_
          exact W.zret (v := 0) hx hb hr rfl (fun t ht hW => ⟨⟨0, (()), rfl, h, by rw [ht]; exact hP, hD⟩, hS.F ht⟩) hS.2.2 dWo_areWithin_29
def P_Wo_areWithin (p1 : Int32) (p2 : Int32) (v_this_start : Int32) (v_this_end : Int32) (v_units : Nat → Int32) (post : Int32 → Prop) : Prop := ∃ n1, P_Wo_areWithin_2 p1 p2 v_this_start v_this_end v_units post n1 0
set_option maxHeartbeats 4000000 in
set_option maxRecDepth 100000 in
theorem c_Wo_areWithin (l : Launch) (dC : Nat → ClassId) (dI : Nat → Nat → Nat) (ad : Nat → Nat → Nat) (a_this : Nat) (a_units : Nat) (k_units : ClassId) (sz : Nat) (p1 : Int32) (p2 : Int32) (v_this_length : Int32) (v_this_start : Int32) (v_this_end : Int32) (v_this_place : Int32) (v_units : Nat → Int32) (post : Int32 → Prop) (h : P_Wo_areWithin p1 p2 v_this_start v_this_end v_units post) : zMi l yWo_areWithin wsWo_areWithin { frames := 1, cells := 0, slots := 0, locals := 22 } (dC, dI) ad [.ref a_this, .int p1, .int p2] (w_Wo_areWithin ad a_this a_units k_units v_this_length v_this_start v_this_end v_this_place v_units) [(k_units, .char)] sz (fun (r : Int32) (u : Unit) => post r) (fun (u : Unit) => (w_Wo_areWithin ad a_this a_units k_units v_this_length v_this_start v_this_end v_this_place v_units)) 0 0 := by
  refine Met.ofW (cc := cWo_areWithin) (maxL := 4) (ret := (some .boolean)) (by decide +kernel) rfl ?_
  intro p e s m args below meth c s₁ B hml hv
  obtain ⟨rfl, hsz, hP, hK, hD0, hE⟩ := hv
  have hx := B.exec
  have hb := B.bytes
  have hr := B.returns
  have hts0 := atoms_spec (ws := wsWo_areWithin) B.pre
  have hts := fun w h => hts0 w (List.mem_cons_of_mem _ h)
  have hown : s.vm.findClass RWo = some m.cls := findClass_of_methodNamed B.named
  have hlocks := B.notSynchronized
  subst hsz
  have hD := hD0.self (sz := s.heap.size)
  generalize hAe : va_A (w_Wo_areWithin ad a_this a_units k_units v_this_length v_this_start v_this_end v_this_place v_units) s.heap.size = A at hD hE ⊢
  have hA : ∀ q : Nat, s.heap.size ≤ q → A q := fun q h => by rw [← hAe]; exact Or.inr h
  have C0 := zC.mk hx hb hr hml hown hts hlocks hA
  have hS : va_S A s.heap s.heap [] := va_S.rf
  have hl := lv_entry ([.ref a_this, .int p1, .int p2]) (n := 4) (Nat.le_of_ble_eq_true rfl)
  rw [lg_entry_eq]
  generalize (lg_sl ([.ref a_this, .int p1, .int p2]) ++ List.replicate (4 - (lg_sl ([.ref a_this, .int p1, .int p2])).length) Slot.unset).toArray = ls at hl ⊢
  have hl : lv_has ls 4 [(0, .ref a_this), (1, .int p1), (2, .int p2)] := hl
  unfold P_Wo_areWithin at h
  refine lv_iconst (v := 0) hx hb dWo_areWithin_0 (by decide) ?_
  refine lv_istore_n (lv' := [(3, .int 0), (0, .ref a_this), (1, .int p1), (2, .int p2)]) hx hb dWo_areWithin_1 rfl hl (by decide) rfl (fun ls hl => ?_)
  obtain ⟨n1, h⟩ := h
  exact w_Wo_areWithin_2 l C0 hE a_this a_units k_units p1 p2 v_this_length v_this_start v_this_end v_this_place v_units post hK n1 0 _ _ h hP hD hS ls (lv_sub hl [1, 2, 3, 0] rfl)
abbrev yWo_value : MethodName := ⟨"FootprintRules$Words", "value", "()I"⟩
abbrev cWo_value : ByteArray := prog_12_method_11_code
abbrev wsWo_value : List Cond := .code yWo_value cWo_value 3 (some .int) :: zT
set_option maxRecDepth 100000 in
theorem zc_Wo_value : Cond.code yWo_value cWo_value 3 (some .int) ∈ zT := zm 618 (by rfl) (by rfl)
theorem dWo_value_0 : decode cWo_value 0 = .ok (.aload_n 0, 1) := by decide +kernel
theorem dWo_value_1 : decode cWo_value 1 = .ok (.invokevirtual 32, 3) := by decide +kernel
theorem dWo_value_4 : decode cWo_value 4 = .ok (.iconst 1, 1) := by decide +kernel
theorem dWo_value_5 : decode cWo_value 5 = .ok (.if_icmp .lt 23, 3) := by decide +kernel
theorem dWo_value_8 : decode cWo_value 8 = .ok (.aload_n 0, 1) := by decide +kernel
theorem dWo_value_9 : decode cWo_value 9 = .ok (.invokevirtual 32, 3) := by decide +kernel
theorem dWo_value_12 : decode cWo_value 12 = .ok (.bipush 8, 2) := by decide +kernel
theorem dWo_value_14 : decode cWo_value 14 = .ok (.if_icmp .gt 14, 3) := by decide +kernel
theorem dWo_value_17 : decode cWo_value 17 = .ok (.aload_n 0, 1) := by decide +kernel
theorem dWo_value_18 : decode cWo_value 18 = .ok (.bipush 48, 2) := by decide +kernel
theorem dWo_value_20 : decode cWo_value 20 = .ok (.bipush 57, 2) := by decide +kernel
theorem dWo_value_22 : decode cWo_value 22 = .ok (.invokevirtual 47, 3) := by decide +kernel
theorem dWo_value_25 : decode cWo_value 25 = .ok (.ifCond .ne 5, 3) := by decide +kernel
theorem dWo_value_28 : decode cWo_value 28 = .ok (.iconst (-1), 1) := by decide +kernel
theorem dWo_value_29 : decode cWo_value 29 = .ok (.ireturn, 1) := by decide +kernel
theorem dWo_value_30 : decode cWo_value 30 = .ok (.iconst 0, 1) := by decide +kernel
theorem dWo_value_31 : decode cWo_value 31 = .ok (.istore_n 1, 1) := by decide +kernel
theorem dWo_value_32 : decode cWo_value 32 = .ok (.iconst 0, 1) := by decide +kernel
theorem dWo_value_33 : decode cWo_value 33 = .ok (.istore_n 2, 1) := by decide +kernel
theorem dWo_value_34 : decode cWo_value 34 = .ok (.iload_n 2, 1) := by decide +kernel
theorem dWo_value_35 : decode cWo_value 35 = .ok (.aload_n 0, 1) := by decide +kernel
theorem dWo_value_36 : decode cWo_value 36 = .ok (.invokevirtual 32, 3) := by decide +kernel
theorem dWo_value_39 : decode cWo_value 39 = .ok (.if_icmp .ge 23, 3) := by decide +kernel
theorem dWo_value_42 : decode cWo_value 42 = .ok (.iload_n 1, 1) := by decide +kernel
theorem dWo_value_43 : decode cWo_value 43 = .ok (.bipush 10, 2) := by decide +kernel
theorem dWo_value_45 : decode cWo_value 45 = .ok (.imul, 1) := by decide +kernel
theorem dWo_value_46 : decode cWo_value 46 = .ok (.aload_n 0, 1) := by decide +kernel
theorem dWo_value_47 : decode cWo_value 47 = .ok (.iload_n 2, 1) := by decide +kernel
theorem dWo_value_48 : decode cWo_value 48 = .ok (.invokevirtual 40, 3) := by decide +kernel
theorem dWo_value_51 : decode cWo_value 51 = .ok (.bipush 48, 2) := by decide +kernel
theorem dWo_value_53 : decode cWo_value 53 = .ok (.isub, 1) := by decide +kernel
theorem dWo_value_54 : decode cWo_value 54 = .ok (.iadd, 1) := by decide +kernel
theorem dWo_value_55 : decode cWo_value 55 = .ok (.istore_n 1, 1) := by decide +kernel
theorem dWo_value_56 : decode cWo_value 56 = .ok (.iinc 2 1, 3) := by decide +kernel
theorem dWo_value_59 : decode cWo_value 59 = .ok (.goto (-25), 3) := by decide +kernel
theorem dWo_value_62 : decode cWo_value 62 = .ok (.iload_n 1, 1) := by decide +kernel
theorem dWo_value_63 : decode cWo_value 63 = .ok (.ireturn, 1) := by decide +kernel
-- FootprintRules$Words.value()I
abbrev w_Wo_value (ad : Nat → Nat → Nat) (a_this : Nat) (a_units : Nat) (k_units : ClassId) (v_this_length : Int32) (v_this_start : Int32) (v_this_end : Int32) (v_this_place : Int32) (v_units : Nat → Int32) : va_W := [(a_this, .inr (0, [.ref a_units, .int v_this_length, .int v_this_start, .int v_this_end, .int v_this_place])), (a_units, .inl (k_units, 600, .inl v_units))]
def P_Wo_value_34 (v_this_start : Int32) (v_this_end : Int32) (v_units : Nat → Int32) (post : Int32 → Prop) : Nat → Int32 → Int32 → Prop
  | 0, _, _ => False
  | n + 1, y1, y2 => P_Wo_size v_this_start v_this_end (fun (r1 : Int32) => ((r1 ≤ y2 → post y1) ∧ (¬ r1 ≤ y2 → P_Wo_at y2 v_this_start v_units (fun (r3 : Int32) => ∀ x4 : Int32, x4 = (y1 * 10) + (r3 - 48) → ∀ x5 : Int32, x5 = y2 + 1 → P_Wo_value_34 v_this_start v_this_end v_units post n x4 x5))))
set_option maxHeartbeats 4000000 in
set_option maxRecDepth 100000 in
theorem w_Wo_value_34 (l : Launch) {p : Program} {e : Env} {s : State} {m : MethodId} {args : Array Value} {below : List Frame} {meth : Method} {c : Code} {dC : Nat → ClassId} {dI : Nat → Nat → Nat} {ad : Nat → Nat → Nat} {A : Nat → Prop} (C0 : zC p s m args meth c cWo_value 3 RWo zT (some .int) A) (hE : zE ad A s) (a_this : Nat) (a_units : Nat) (k_units : ClassId) (v_this_length : Int32) (v_this_start : Int32) (v_this_end : Int32) (v_this_place : Int32) (v_units : Nat → Int32) (post : Int32 → Prop) (hK : va_K (dC, dI) vwCl [(k_units, .char)] s) : ∀ (n : Nat), ∀ (y1 : Int32) (y2 : Int32) (H : Heap) (locs : List Loc), P_Wo_value_34 v_this_start v_this_end v_units post n y1 y2 → va_P (dC, dI) vwCl (w_Wo_value ad a_this a_units k_units v_this_length v_this_start v_this_end v_this_place v_units) H → va_D A (w_Wo_value ad a_this a_units k_units v_this_length v_this_start v_this_end v_this_place v_units) → va_S A s.heap H locs → ∀ ls : Array Slot, lv_has ls 3 [(0, .ref a_this), (1, .int y1), (2, .int y2)] → W p l e (headSpec wsWo_value { frames := 2, cells := 0, slots := 0, locals := 45 }).room s m args below meth c H locs 0 0 (MQ below (va_Qi (fun (r : Int32) (u : Unit) => post r) (zB (dC, dI) A (fun (u : Unit) => (w_Wo_value ad a_this a_units k_units v_this_length v_this_start v_this_end v_this_place v_units))) A) args s 0 0 A) (F0 m 34 ls []) := by
  obtain ⟨hx, hb, hr, hml, hown, hts, hlocks, hA⟩ := id C0
  intro n
  induction n with
  | zero =>
    intro y1 y2 H locs h
    exact False.elim h
  | succ n ih =>
    intro y1 y2 H locs h hP hD hS ls hl
    rw [P_Wo_value_34] at h
    refine lv_iload_n hx hb dWo_value_34 rfl (lv_at hl 2 rfl) ?_
    refine lv_aload_n hx hb dWo_value_35 rfl (lv_at hl 0 rfl) ?_
    refine zcall_i hP hD hS hA [0] [1] (va_runV (As := []) (rest := [.int y2]) ⟨hx, hb, hml, hown, hts⟩ (c_Wo_size l dC dI ad a_this a_units _ v_this_length v_this_start v_this_end v_this_place _ h) ⟨callB_of 0 hts (zgood zc_Wo_size) rfl rfl rfl (hts _ zw_97) (hts _ zw_520) (by decide +kernel) ⟨Nat.le_of_ble_eq_true rfl, Nat.le_of_ble_eq_true rfl⟩, (hts _ zw_522), (hts _ zw_11)⟩ (zpreV hE hK hP hD hS hA [0] [] (by rfl) (by rfl) (by decide) (ci := 0) (q0 := 0) rfl (by rfl)) rfl rfl hl.1 rfl (lv_room (Nat.le_of_ble_eq_true rfl)) dWo_value_36 ⟨Nat.le_of_ble_eq_true rfl, Nat.le_of_ble_eq_true rfl⟩) (by rfl) (by rfl) (by decide) (by decide) (fun r1 u H locs h hP hD hS => ?_)
    try dsimp only at h
    have hP := hP.sub (ws' := (w_Wo_value ad a_this a_units k_units v_this_length v_this_start v_this_end v_this_place v_units)) [1, 0] rfl
    have hD := hD.sub (ws' := (w_Wo_value ad a_this a_units k_units v_this_length v_this_start v_this_end v_this_place v_units)) [1, 0] (by decide) rfl
    refine lv_icmp_ge (tgt := 62) hx hb dWo_value_39 (by decide) ?_ ?_
    · intro c2
      replace h := h.1 c2
      refine lv_iload_n hx hb dWo_value_62 rfl (lv_at hl 1 rfl) ?_
      exact W.iret (v := y1) hx hb hr (fun t ht hW => ⟨⟨y1, (()), rfl, h, by rw [ht]; exact hP, hD⟩, hS.F ht⟩) hS.2.2 dWo_value_63
    · intro c2
      replace h := h.2 c2
      refine lv_iload_n hx hb dWo_value_42 rfl (lv_at hl 1 rfl) ?_
      refine lv_bipush (v := 10) hx hb dWo_value_43 (by decide) ?_
      refine lv_imul hx hb dWo_value_45 ?_
      refine lv_aload_n hx hb dWo_value_46 rfl (lv_at hl 0 rfl) ?_
      refine lv_iload_n hx hb dWo_value_47 rfl (lv_at hl 2 rfl) ?_
      refine zcall_i hP hD hS hA [0, 1] [] (va_runV (As := [.int y2]) (rest := [.int (y1 * 10)]) ⟨hx, hb, hml, hown, hts⟩ (c_Wo_at l dC dI ad a_this a_units k_units _ y2 v_this_length v_this_start v_this_end v_this_place v_units _ h) ⟨callB_of 1 hts (zgood zc_Wo_at) rfl rfl rfl (hts _ zw_97) (hts _ zw_534) (by decide +kernel) ⟨Nat.le_of_ble_eq_true rfl, Nat.le_of_ble_eq_true rfl⟩, (hts _ zw_536), (hts _ zw_12)⟩ (zpreV hE hK hP hD hS hA [0, 1] [0] (by rfl) (by rfl) (by decide) (ci := 0) (q0 := 0) rfl (by rfl)) rfl rfl hl.1 rfl (lv_room (Nat.le_of_ble_eq_true rfl)) dWo_value_48 ⟨Nat.le_of_ble_eq_true rfl, Nat.le_of_ble_eq_true rfl⟩) (by rfl) (by rfl) (by decide) (by decide) (fun r3 u H locs h hP hD hS => ?_)
      try dsimp only at h
      have hP := hP.sub (ws' := (w_Wo_value ad a_this a_units k_units v_this_length v_this_start v_this_end v_this_place v_units)) [0, 1] rfl
      have hD := hD.sub (ws' := (w_Wo_value ad a_this a_units k_units v_this_length v_this_start v_this_end v_this_place v_units)) [0, 1] (by decide) rfl
      refine lv_bipush (v := 48) hx hb dWo_value_51 (by decide) ?_
      refine lv_isub hx hb dWo_value_53 ?_
      refine lv_iadd hx hb dWo_value_54 ?_
      refine lv_topi (fun x4 ex4 => ?_)
      replace h := h x4 ex4
      refine lv_istore_n (lv' := [(1, .int x4), (0, .ref a_this), (2, .int y2)]) hx hb dWo_value_55 rfl hl (by decide) rfl (fun ls hl => ?_)
      obtain ⟨x5, ex5⟩ : ∃ y : Int32, y = y2 + 1 := ⟨_, rfl⟩
      replace h := h x5 ex5
      refine lv_iinc (v := x5) (lv' := [(2, .int x5), (1, .int x4), (0, .ref a_this)]) hx hb dWo_value_56 hl (k := 2) rfl (by rw [ex5]; rfl) (by decide) rfl (fun ls hl => ?_)
      refine lv_goto (tgt := 34) hx hb dWo_value_59 (by decide) ?_
      exact ih x4 x5 _ _ h hP hD hS ls (lv_sub hl [2, 1, 0] rfl)
def P_Wo_value (v_this_start : Int32) (v_this_end : Int32) (v_units : Nat → Int32) (post : Int32 → Prop) : Prop := P_Wo_size v_this_start v_this_end (fun (r1 : Int32) => ((r1 < 1 → post (-1)) ∧ (¬ r1 < 1 → P_Wo_size v_this_start v_this_end (fun (r3 : Int32) => ((8 < r3 → post (-1)) ∧ (¬ 8 < r3 → P_Wo_areWithin 48 57 v_this_start v_this_end v_units (fun (r5 : Int32) => ((¬ r5 = 0 → ∃ n7, P_Wo_value_34 v_this_start v_this_end v_units post n7 0 0) ∧ (r5 = 0 → post (-1))))))))))
set_option maxHeartbeats 4000000 in
set_option maxRecDepth 100000 in
theorem c_Wo_value (l : Launch) (dC : Nat → ClassId) (dI : Nat → Nat → Nat) (ad : Nat → Nat → Nat) (a_this : Nat) (a_units : Nat) (k_units : ClassId) (sz : Nat) (v_this_length : Int32) (v_this_start : Int32) (v_this_end : Int32) (v_this_place : Int32) (v_units : Nat → Int32) (post : Int32 → Prop) (h : P_Wo_value v_this_start v_this_end v_units post) : zMi l yWo_value wsWo_value { frames := 2, cells := 0, slots := 0, locals := 45 } (dC, dI) ad [.ref a_this] (w_Wo_value ad a_this a_units k_units v_this_length v_this_start v_this_end v_this_place v_units) [(k_units, .char)] sz (fun (r : Int32) (u : Unit) => post r) (fun (u : Unit) => (w_Wo_value ad a_this a_units k_units v_this_length v_this_start v_this_end v_this_place v_units)) 0 0 := by
  refine Met.ofW (cc := cWo_value) (maxL := 3) (ret := (some .int)) (by decide +kernel) rfl ?_
  intro p e s m args below meth c s₁ B hml hv
  obtain ⟨rfl, hsz, hP, hK, hD0, hE⟩ := hv
  have hx := B.exec
  have hb := B.bytes
  have hr := B.returns
  have hts0 := atoms_spec (ws := wsWo_value) B.pre
  have hts := fun w h => hts0 w (List.mem_cons_of_mem _ h)
  have hown : s.vm.findClass RWo = some m.cls := findClass_of_methodNamed B.named
  have hlocks := B.notSynchronized
  subst hsz
  have hD := hD0.self (sz := s.heap.size)
  generalize hAe : va_A (w_Wo_value ad a_this a_units k_units v_this_length v_this_start v_this_end v_this_place v_units) s.heap.size = A at hD hE ⊢
  have hA : ∀ q : Nat, s.heap.size ≤ q → A q := fun q h => by rw [← hAe]; exact Or.inr h
  have C0 := zC.mk hx hb hr hml hown hts hlocks hA
  have hS : va_S A s.heap s.heap [] := va_S.rf
  have hl := lv_entry ([.ref a_this]) (n := 3) (Nat.le_of_ble_eq_true rfl)
  rw [lg_entry_eq]
  generalize (lg_sl ([.ref a_this]) ++ List.replicate (3 - (lg_sl ([.ref a_this])).length) Slot.unset).toArray = ls at hl ⊢
  have hl : lv_has ls 3 [(0, .ref a_this)] := hl
  unfold P_Wo_value at h
  refine lv_aload_n hx hb dWo_value_0 rfl (lv_at hl 0 rfl) ?_
  refine zcall_i hP hD hS hA [0] [1] (va_runV (As := []) (rest := []) ⟨hx, hb, hml, hown, hts⟩ (c_Wo_size l dC dI ad a_this a_units _ v_this_length v_this_start v_this_end v_this_place _ h) ⟨callB_of 0 hts (zgood zc_Wo_size) rfl rfl rfl (hts _ zw_97) (hts _ zw_520) (by decide +kernel) ⟨Nat.le_of_ble_eq_true rfl, Nat.le_of_ble_eq_true rfl⟩, (hts _ zw_522), (hts _ zw_11)⟩ (zpreV hE hK hP hD hS hA [0] [] (by rfl) (by rfl) (by decide) (ci := 0) (q0 := 0) rfl (by rfl)) rfl rfl hl.1 rfl (lv_room (Nat.le_of_ble_eq_true rfl)) dWo_value_1 ⟨Nat.le_of_ble_eq_true rfl, Nat.le_of_ble_eq_true rfl⟩) (by rfl) (by rfl) (by decide) (by decide) (fun r1 u H locs h hP hD hS => ?_)
  try dsimp only at h
  have hP := hP.sub (ws' := (w_Wo_value ad a_this a_units k_units v_this_length v_this_start v_this_end v_this_place v_units)) [1, 0] rfl
  have hD := hD.sub (ws' := (w_Wo_value ad a_this a_units k_units v_this_length v_this_start v_this_end v_this_place v_units)) [1, 0] (by decide) rfl
  refine lv_iconst (v := 1) hx hb dWo_value_4 (by decide) ?_
  refine lv_icmp_lt (tgt := 28) hx hb dWo_value_5 (by decide) ?_ ?_
  · intro c2
    replace h := h.1 c2
    refine lv_iconst (v := (-1)) hx hb dWo_value_28 (by decide) ?_
    exact W.iret (v := (-1)) hx hb hr (fun t ht hW => ⟨⟨(-1), (()), rfl, h, by rw [ht]; exact hP, hD⟩, hS.F ht⟩) hS.2.2 dWo_value_29
  · intro c2
    replace h := h.2 c2
    refine lv_aload_n hx hb dWo_value_8 rfl (lv_at hl 0 rfl) ?_
    refine zcall_i hP hD hS hA [0] [1] (va_runV (As := []) (rest := []) ⟨hx, hb, hml, hown, hts⟩ (c_Wo_size l dC dI ad a_this a_units _ v_this_length v_this_start v_this_end v_this_place _ h) ⟨callB_of 0 hts (zgood zc_Wo_size) rfl rfl rfl (hts _ zw_97) (hts _ zw_520) (by decide +kernel) ⟨Nat.le_of_ble_eq_true rfl, Nat.le_of_ble_eq_true rfl⟩, (hts _ zw_522), (hts _ zw_11)⟩ (zpreV hE hK hP hD hS hA [0] [] (by rfl) (by rfl) (by decide) (ci := 0) (q0 := 0) rfl (by rfl)) rfl rfl hl.1 rfl (lv_room (Nat.le_of_ble_eq_true rfl)) dWo_value_9 ⟨Nat.le_of_ble_eq_true rfl, Nat.le_of_ble_eq_true rfl⟩) (by rfl) (by rfl) (by decide) (by decide) (fun r3 u H locs h hP hD hS => ?_)
    try dsimp only at h
    have hP := hP.sub (ws' := (w_Wo_value ad a_this a_units k_units v_this_length v_this_start v_this_end v_this_place v_units)) [1, 0] rfl
    have hD := hD.sub (ws' := (w_Wo_value ad a_this a_units k_units v_this_length v_this_start v_this_end v_this_place v_units)) [1, 0] (by decide) rfl
    refine lv_bipush (v := 8) hx hb dWo_value_12 (by decide) ?_
    refine lv_icmp_gt (tgt := 28) hx hb dWo_value_14 (by decide) ?_ ?_
    · intro c4
      replace h := h.1 c4
      refine lv_iconst (v := (-1)) hx hb dWo_value_28 (by decide) ?_
      exact W.iret (v := (-1)) hx hb hr (fun t ht hW => ⟨⟨(-1), (()), rfl, h, by rw [ht]; exact hP, hD⟩, hS.F ht⟩) hS.2.2 dWo_value_29
    · intro c4
      replace h := h.2 c4
      refine lv_aload_n hx hb dWo_value_17 rfl (lv_at hl 0 rfl) ?_
      refine lv_bipush (v := 48) hx hb dWo_value_18 (by decide) ?_
      refine lv_bipush (v := 57) hx hb dWo_value_20 (by decide) ?_
      refine zcall_i hP hD hS hA [0, 1] [] (va_runV (As := [.int 48, .int 57]) (rest := []) ⟨hx, hb, hml, hown, hts⟩ (c_Wo_areWithin l dC dI ad a_this a_units k_units _ 48 57 v_this_length v_this_start v_this_end v_this_place v_units _ h) ⟨callB_of 2 hts (zgood zc_Wo_areWithin) rfl rfl rfl (hts _ zw_97) (hts _ zw_619) (by decide +kernel) ⟨Nat.le_of_ble_eq_true rfl, Nat.le_of_ble_eq_true rfl⟩, (hts _ zw_611), (hts _ zw_19)⟩ (zpreV hE hK hP hD hS hA [0, 1] [0] (by rfl) (by rfl) (by decide) (ci := 0) (q0 := 0) rfl (by rfl)) rfl rfl hl.1 rfl (lv_room (Nat.le_of_ble_eq_true rfl)) dWo_value_22 ⟨Nat.le_of_ble_eq_true rfl, Nat.le_of_ble_eq_true rfl⟩) (by rfl) (by rfl) (by decide) (by decide) (fun r5 u H locs h hP hD hS => ?_)
      try dsimp only at h
      have hP := hP.sub (ws' := (w_Wo_value ad a_this a_units k_units v_this_length v_this_start v_this_end v_this_place v_units)) [0, 1] rfl
      have hD := hD.sub (ws' := (w_Wo_value ad a_this a_units k_units v_this_length v_this_start v_this_end v_this_place v_units)) [0, 1] (by decide) rfl
      refine lv_if_ne (tgt := 30) hx hb dWo_value_25 (by decide) ?_ ?_
      · intro c6
        replace h := h.1 c6
        refine lv_iconst (v := 0) hx hb dWo_value_30 (by decide) ?_
        refine lv_istore_n (lv' := [(1, .int 0), (0, .ref a_this)]) hx hb dWo_value_31 rfl hl (by decide) rfl (fun ls hl => ?_)
        refine lv_iconst (v := 0) hx hb dWo_value_32 (by decide) ?_
        refine lv_istore_n (lv' := [(2, .int 0), (1, .int 0), (0, .ref a_this)]) hx hb dWo_value_33 rfl hl (by decide) rfl (fun ls hl => ?_)
        obtain ⟨n7, h⟩ := h
        exact w_Wo_value_34 l C0 hE a_this a_units k_units v_this_length v_this_start v_this_end v_this_place v_units post hK n7 0 0 _ _ h hP hD hS ls (lv_sub hl [2, 1, 0] rfl)
      · intro c6
        replace h := h.2 c6
        refine lv_iconst (v := (-1)) hx hb dWo_value_28 (by decide) ?_
        exact W.iret (v := (-1)) hx hb hr (fun t ht hW => ⟨⟨(-1), (()), rfl, h, by rw [ht]; exact hP, hD⟩, hS.F ht⟩) hS.2.2 dWo_value_29
