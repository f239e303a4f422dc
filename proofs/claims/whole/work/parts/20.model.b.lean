abbrev yM_can : MethodName := ⟨"FootprintRulesModel", "can", "(IJ)Z"⟩
abbrev cM_can : ByteArray := prog_14_method_11_code
abbrev wsM_can : List Cond := .code yM_can cM_can 4 (some .boolean) :: zT
set_option maxRecDepth 100000 in
theorem zc_M_can : Cond.code yM_can cM_can 4 (some .boolean) ∈ zT := zm 1177 (by rfl) (by rfl)
theorem dM_can_0 : decode cM_can 0 = .ok (.lload_n 1, 1) := by decide +kernel
theorem dM_can_1 : decode cM_can 1 = .ok (.lconst 0, 1) := by decide +kernel
theorem dM_can_2 : decode cM_can 2 = .ok (.lcmp, 1) := by decide +kernel
theorem dM_can_3 : decode cM_can 3 = .ok (.ifCond .lt 14, 3) := by decide +kernel
theorem dM_can_6 : decode cM_can 6 = .ok (.iload_n 0, 1) := by decide +kernel
theorem dM_can_7 : decode cM_can 7 = .ok (.iconst 4, 1) := by decide +kernel
theorem dM_can_8 : decode cM_can 8 = .ok (.if_icmp .ne 11, 3) := by decide +kernel
theorem dM_can_11 : decode cM_can 11 = .ok (.lload_n 1, 1) := by decide +kernel
theorem dM_can_12 : decode cM_can 12 = .ok (.lconst 1, 1) := by decide +kernel
theorem dM_can_13 : decode cM_can 13 = .ok (.lcmp, 1) := by decide +kernel
theorem dM_can_14 : decode cM_can 14 = .ok (.ifCond .ge 5, 3) := by decide +kernel
theorem dM_can_17 : decode cM_can 17 = .ok (.iconst 0, 1) := by decide +kernel
theorem dM_can_18 : decode cM_can 18 = .ok (.ireturn, 1) := by decide +kernel
theorem dM_can_19 : decode cM_can 19 = .ok (.iload_n 0, 1) := by decide +kernel
theorem dM_can_20 : decode cM_can 20 = .ok (.bipush 8, 2) := by decide +kernel
theorem dM_can_22 : decode cM_can 22 = .ok (.if_icmp .eq 9, 3) := by decide +kernel
theorem dM_can_25 : decode cM_can 25 = .ok (.iload_n 0, 1) := by decide +kernel
theorem dM_can_26 : decode cM_can 26 = .ok (.bipush 9, 2) := by decide +kernel
theorem dM_can_28 : decode cM_can 28 = .ok (.if_icmp .ne 21, 3) := by decide +kernel
theorem dM_can_31 : decode cM_can 31 = .ok (.lload_n 1, 1) := by decide +kernel
theorem dM_can_32 : decode cM_can 32 = .ok (.lconst 0, 1) := by decide +kernel
theorem dM_can_33 : decode cM_can 33 = .ok (.lcmp, 1) := by decide +kernel
theorem dM_can_34 : decode cM_can 34 = .ok (.ifCond .le 15, 3) := by decide +kernel
theorem dM_can_37 : decode cM_can 37 = .ok (.lload_n 1, 1) := by decide +kernel
theorem dM_can_38 : decode cM_can 38 = .ok (.ldc2_w 88, 3) := by decide +kernel
theorem dM_can_41 : decode cM_can 41 = .ok (.lcmp, 1) := by decide +kernel
theorem dM_can_42 : decode cM_can 42 = .ok (.ifCond .ge 7, 3) := by decide +kernel
theorem dM_can_45 : decode cM_can 45 = .ok (.iconst 1, 1) := by decide +kernel
theorem dM_can_46 : decode cM_can 46 = .ok (.goto 4, 3) := by decide +kernel
theorem dM_can_49 : decode cM_can 49 = .ok (.iconst 0, 1) := by decide +kernel
theorem dM_can_50 : decode cM_can 50 = .ok (.istore_n 3, 1) := by decide +kernel
theorem dM_can_51 : decode cM_can 51 = .ok (.iload_n 3, 1) := by decide +kernel
theorem dM_can_52 : decode cM_can 52 = .ok (.ifCond .ne 23, 3) := by decide +kernel
theorem dM_can_55 : decode cM_can 55 = .ok (.iload_n 0, 1) := by decide +kernel
theorem dM_can_56 : decode cM_can 56 = .ok (.bipush 9, 2) := by decide +kernel
theorem dM_can_58 : decode cM_can 58 = .ok (.if_icmp .ne 13, 3) := by decide +kernel
theorem dM_can_61 : decode cM_can 61 = .ok (.lload_n 1, 1) := by decide +kernel
theorem dM_can_62 : decode cM_can 62 = .ok (.ldc2_w 90, 3) := by decide +kernel
theorem dM_can_65 : decode cM_can 65 = .ok (.lrem, 1) := by decide +kernel
theorem dM_can_66 : decode cM_can 66 = .ok (.lconst 0, 1) := by decide +kernel
theorem dM_can_67 : decode cM_can 67 = .ok (.lcmp, 1) := by decide +kernel
theorem dM_can_68 : decode cM_can 68 = .ok (.ifCond .ne 7, 3) := by decide +kernel
theorem dM_can_71 : decode cM_can 71 = .ok (.iconst 1, 1) := by decide +kernel
theorem dM_can_72 : decode cM_can 72 = .ok (.goto 4, 3) := by decide +kernel
theorem dM_can_75 : decode cM_can 75 = .ok (.iconst 0, 1) := by decide +kernel
theorem dM_can_76 : decode cM_can 76 = .ok (.ireturn, 1) := by decide +kernel
-- FootprintRulesModel.can(IJ)Z
abbrev w_M_can (ad : Nat → Nat → Nat)    : va_W := []
def P_M_can_71  (post : Int32 → Prop)  : Prop := post 1
set_option maxHeartbeats 4000000 in
set_option maxRecDepth 100000 in
theorem w_M_can_71 (l : Launch) {p : Program} {e : Env} {s : State} {m : MethodId} {args : Array Value} {below : List Frame} {meth : Method} {c : Code} {dC : Nat → ClassId} {dI : Nat → Nat → Nat} {ad : Nat → Nat → Nat} {A : Nat → Prop} (C0 : zC p s m args meth c cM_can 4 RM zT (some .boolean) A) (hE : zE ad A s)   (p0 : Int32) (p1 : Int64) (post : Int32 → Prop) (hK : va_K (dC, dI) vwCl [] s) : ∀  (H : Heap) (locs : List Loc), P_M_can_71 post → va_P (dC, dI) vwCl (w_M_can ad ) H → va_D A (w_M_can ad ) → va_S A s.heap H locs → ∀ ls : Array Slot, lv_has ls 4 [] → W p l e (headSpec wsM_can { frames := 0, cells := 0, slots := 0, locals := 0 }).room s m args below meth c H locs 0 0 (MQ below (va_Qi (fun (r : Int32) (u : Unit) => post r) (zB (dC, dI) A (fun (u : Unit) => (w_M_can ad ))) A) args s 0 0 A) (F0 m 71 ls []) := by
  obtain ⟨hx, hb, hr, hml, hown, hts, hlocks, hA⟩ := id C0
  intro  H locs h hP hD hS ls hl
  unfold P_M_can_71 at h
  refine lv_iconst (v := 1) hx hb dM_can_71 (by decide) ?_
  refine lv_goto (tgt := 76) hx hb dM_can_72 (by decide) ?_
  exact W.zret (v := 1) hx hb hr rfl (fun t ht hW => ⟨⟨1, (()), rfl, h, by rw [ht]; exact hP, hD⟩, hS.F ht⟩) hS.2.2 dM_can_76
def P_M_can_50 (p0 : Int32) (p1 : Int64) (post : Int32 → Prop) (t0 : Int32) : Prop := ((¬ t0 = 0 → post 0) ∧ (t0 = 0 → ((¬ p0 = 9 → P_M_can_71 post) ∧ (p0 = 9 → ((¬ (p1 - p1 / 2 * 2) = 0 → post 0) ∧ ((p1 - p1 / 2 * 2) = 0 → P_M_can_71 post))))))
set_option maxHeartbeats 4000000 in
set_option maxRecDepth 100000 in
theorem w_M_can_50 (l : Launch) {p : Program} {e : Env} {s : State} {m : MethodId} {args : Array Value} {below : List Frame} {meth : Method} {c : Code} {dC : Nat → ClassId} {dI : Nat → Nat → Nat} {ad : Nat → Nat → Nat} {A : Nat → Prop} (C0 : zC p s m args meth c cM_can 4 RM zT (some .boolean) A) (hE : zE ad A s)   (p0 : Int32) (p1 : Int64) (post : Int32 → Prop) (hK : va_K (dC, dI) vwCl [] s) : ∀ (t0 : Int32) (H : Heap) (locs : List Loc), P_M_can_50 p0 p1 post t0 → va_P (dC, dI) vwCl (w_M_can ad ) H → va_D A (w_M_can ad ) → va_S A s.heap H locs → ∀ ls : Array Slot, lv_has ls 4 [(0, .int p0), (1, .long p1)] → W p l e (headSpec wsM_can { frames := 0, cells := 0, slots := 0, locals := 0 }).room s m args below meth c H locs 0 0 (MQ below (va_Qi (fun (r : Int32) (u : Unit) => post r) (zB (dC, dI) A (fun (u : Unit) => (w_M_can ad ))) A) args s 0 0 A) (F0 m 50 ls [.int t0]) := by
  obtain ⟨hx, hb, hr, hml, hown, hts, hlocks, hA⟩ := id C0
  intro t0 H locs h hP hD hS ls hl
  unfold P_M_can_50 at h
  refine lv_istore_n (lv' := [(3, .int t0), (0, .int p0), (1, .long p1)]) hx hb dM_can_50 rfl hl (by decide) rfl (fun ls hl => ?_)
  refine lv_iload_n hx hb dM_can_51 rfl (lv_at hl 0 rfl) ?_
  refine lv_if_ne (tgt := 75) hx hb dM_can_52 (by decide) ?_ ?_
  · intro c1
    replace h := h.1 c1
    refine lv_iconst (v := 0) hx hb dM_can_75 (by decide) ?_
    exact W.zret (v := 0) hx hb hr rfl (fun t ht hW => ⟨⟨0, (()), rfl, h, by rw [ht]; exact hP, hD⟩, hS.F ht⟩) hS.2.2 dM_can_76
  · intro c1
    replace h := h.2 c1
    refine lv_iload_n hx hb dM_can_55 rfl (lv_at hl 1 rfl) ?_
    refine lv_bipush (v := 9) hx hb dM_can_56 (by decide) ?_
    refine lv_icmp_ne (tgt := 71) hx hb dM_can_58 (by decide) ?_ ?_
    · intro c2
      replace h := h.1 c2
      exact w_M_can_71 l C0 hE p0 p1 post hK _ _ h hP hD hS ls (lv_sub hl [] rfl)
    · intro c2
      replace h := h.2 c2
      refine lv_lload_n hx hb dM_can_61 rfl (lv_at hl 2 rfl) ?_
      refine lv_ldc2 (own := RM) (index := 90) (v := 2) hx hb hown (hts _ zw_1179) dM_can_62 ?_
      refine lv_lrem hx hb dM_can_65 (by decide) ?_
      refine lv_lconst (v := 0) hx hb dM_can_66 (by decide) ?_
      refine zz_lcmp_ne (tgt := 75) hx hb dM_can_67 dM_can_68 (by decide) ?_ ?_
      · intro c3
        replace h := h.1 c3
        refine lv_iconst (v := 0) hx hb dM_can_75 (by decide) ?_
        exact W.zret (v := 0) hx hb hr rfl (fun t ht hW => ⟨⟨0, (()), rfl, h, by rw [ht]; exact hP, hD⟩, hS.F ht⟩) hS.2.2 dM_can_76
      · intro c3
        replace h := h.2 c3
        exact w_M_can_71 l C0 hE p0 p1 post hK _ _ h hP hD hS ls (lv_sub hl [] rfl)
def P_M_can_49 (p0 : Int32) (p1 : Int64) (post : Int32 → Prop)  : Prop := P_M_can_50 p0 p1 post 0
set_option maxHeartbeats 4000000 in
set_option maxRecDepth 100000 in
theorem w_M_can_49 (l : Launch) {p : Program} {e : Env} {s : State} {m : MethodId} {args : Array Value} {below : List Frame} {meth : Method} {c : Code} {dC : Nat → ClassId} {dI : Nat → Nat → Nat} {ad : Nat → Nat → Nat} {A : Nat → Prop} (C0 : zC p s m args meth c cM_can 4 RM zT (some .boolean) A) (hE : zE ad A s)   (p0 : Int32) (p1 : Int64) (post : Int32 → Prop) (hK : va_K (dC, dI) vwCl [] s) : ∀  (H : Heap) (locs : List Loc), P_M_can_49 p0 p1 post → va_P (dC, dI) vwCl (w_M_can ad ) H → va_D A (w_M_can ad ) → va_S A s.heap H locs → ∀ ls : Array Slot, lv_has ls 4 [(0, .int p0), (1, .long p1)] → W p l e (headSpec wsM_can { frames := 0, cells := 0, slots := 0, locals := 0 }).room s m args below meth c H locs 0 0 (MQ below (va_Qi (fun (r : Int32) (u : Unit) => post r) (zB (dC, dI) A (fun (u : Unit) => (w_M_can ad ))) A) args s 0 0 A) (F0 m 49 ls []) := by
  obtain ⟨hx, hb, hr, hml, hown, hts, hlocks, hA⟩ := id C0
  intro  H locs h hP hD hS ls hl
  unfold P_M_can_49 at h
  refine lv_iconst (v := 0) hx hb dM_can_49 (by decide) ?_
  exact w_M_can_50 l C0 hE p0 p1 post hK 0 _ _ h hP hD hS ls (lv_sub hl [0, 1] rfl)
def P_M_can_31 (p0 : Int32) (p1 : Int64) (post : Int32 → Prop)  : Prop := ((p1 ≤ 0 → P_M_can_49 p0 p1 post) ∧ (¬ p1 ≤ 0 → ((10000 ≤ p1 → P_M_can_49 p0 p1 post) ∧ (¬ 10000 ≤ p1 → P_M_can_50 p0 p1 post 1))))
set_option maxHeartbeats 4000000 in
set_option maxRecDepth 100000 in
theorem w_M_can_31 (l : Launch) {p : Program} {e : Env} {s : State} {m : MethodId} {args : Array Value} {below : List Frame} {meth : Method} {c : Code} {dC : Nat → ClassId} {dI : Nat → Nat → Nat} {ad : Nat → Nat → Nat} {A : Nat → Prop} (C0 : zC p s m args meth c cM_can 4 RM zT (some .boolean) A) (hE : zE ad A s)   (p0 : Int32) (p1 : Int64) (post : Int32 → Prop) (hK : va_K (dC, dI) vwCl [] s) : ∀  (H : Heap) (locs : List Loc), P_M_can_31 p0 p1 post → va_P (dC, dI) vwCl (w_M_can ad ) H → va_D A (w_M_can ad ) → va_S A s.heap H locs → ∀ ls : Array Slot, lv_has ls 4 [(0, .int p0), (1, .long p1)] → W p l e (headSpec wsM_can { frames := 0, cells := 0, slots := 0, locals := 0 }).room s m args below meth c H locs 0 0 (MQ below (va_Qi (fun (r : Int32) (u : Unit) => post r) (zB (dC, dI) A (fun (u : Unit) => (w_M_can ad ))) A) args s 0 0 A) (F0 m 31 ls []) := by
  obtain ⟨hx, hb, hr, hml, hown, hts, hlocks, hA⟩ := id C0
  intro  H locs h hP hD hS ls hl
  unfold P_M_can_31 at h
  refine lv_lload_n hx hb dM_can_31 rfl (lv_at hl 1 rfl) ?_
  refine lv_lconst (v := 0) hx hb dM_can_32 (by decide) ?_
  refine zz_lcmp_le (tgt := 49) hx hb dM_can_33 dM_can_34 (by decide) ?_ ?_
  · intro c1
    replace h := h.1 c1
    exact w_M_can_49 l C0 hE p0 p1 post hK _ _ h hP hD hS ls (lv_sub hl [0, 1] rfl)
  · intro c1
    replace h := h.2 c1
    refine lv_lload_n hx hb dM_can_37 rfl (lv_at hl 1 rfl) ?_
    refine lv_ldc2 (own := RM) (index := 88) (v := 10000) hx hb hown (hts _ zw_1178) dM_can_38 ?_
    refine zz_lcmp_ge (tgt := 49) hx hb dM_can_41 dM_can_42 (by decide) ?_ ?_
    · intro c2
      replace h := h.1 c2
      exact w_M_can_49 l C0 hE p0 p1 post hK _ _ h hP hD hS ls (lv_sub hl [0, 1] rfl)
    · intro c2
      replace h := h.2 c2
      refine lv_iconst (v := 1) hx hb dM_can_45 (by decide) ?_
      refine lv_goto (tgt := 50) hx hb dM_can_46 (by decide) ?_
      exact w_M_can_50 l C0 hE p0 p1 post hK 1 _ _ h hP hD hS ls (lv_sub hl [0, 1] rfl)
def P_M_can_19 (p0 : Int32) (p1 : Int64) (post : Int32 → Prop)  : Prop := ((p0 = 8 → P_M_can_31 p0 p1 post) ∧ (¬ p0 = 8 → ((¬ p0 = 9 → P_M_can_49 p0 p1 post) ∧ (p0 = 9 → P_M_can_31 p0 p1 post))))
set_option maxHeartbeats 4000000 in
set_option maxRecDepth 100000 in
theorem w_M_can_19 (l : Launch) {p : Program} {e : Env} {s : State} {m : MethodId} {args : Array Value} {below : List Frame} {meth : Method} {c : Code} {dC : Nat → ClassId} {dI : Nat → Nat → Nat} {ad : Nat → Nat → Nat} {A : Nat → Prop} (C0 : zC p s m args meth c cM_can 4 RM zT (some .boolean) A) (hE : zE ad A s)   (p0 : Int32) (p1 : Int64) (post : Int32 → Prop) (hK : va_K (dC, dI) vwCl [] s) : ∀  (H : Heap) (locs : List Loc), P_M_can_19 p0 p1 post → va_P (dC, dI) vwCl (w_M_can ad ) H → va_D A (w_M_can ad ) → va_S A s.heap H locs → ∀ ls : Array Slot, lv_has ls 4 [(0, .int p0), (1, .long p1)] → W p l e (headSpec wsM_can { frames := 0, cells := 0, slots := 0, locals := 0 }).room s m args below meth c H locs 0 0 (MQ below (va_Qi (fun (r : Int32) (u : Unit) => post r) (zB (dC, dI) A (fun (u : Unit) => (w_M_can ad ))) A) args s 0 0 A) (F0 m 19 ls []) := by
  obtain ⟨hx, hb, hr, hml, hown, hts, hlocks, hA⟩ := id C0
  intro  H locs h hP hD hS ls hl
  unfold P_M_can_19 at h
  refine lv_iload_n hx hb dM_can_19 rfl (lv_at hl 0 rfl) ?_
  refine lv_bipush (v := 8) hx hb dM_can_20 (by decide) ?_
  refine lv_icmp_eq (tgt := 31) hx hb dM_can_22 (by decide) ?_ ?_
  · intro c1
    replace h := h.1 c1
    exact w_M_can_31 l C0 hE p0 p1 post hK _ _ h hP hD hS ls (lv_sub hl [0, 1] rfl)
  · intro c1
    replace h := h.2 c1
    refine lv_iload_n hx hb dM_can_25 rfl (lv_at hl 0 rfl) ?_
    refine lv_bipush (v := 9) hx hb dM_can_26 (by decide) ?_
    refine lv_icmp_ne (tgt := 49) hx hb dM_can_28 (by decide) ?_ ?_
    · intro c2
      replace h := h.1 c2
      exact w_M_can_49 l C0 hE p0 p1 post hK _ _ h hP hD hS ls (lv_sub hl [0, 1] rfl)
    · intro c2
      replace h := h.2 c2
      exact w_M_can_31 l C0 hE p0 p1 post hK _ _ h hP hD hS ls (lv_sub hl [0, 1] rfl)
def P_M_can (p0 : Int32) (p1 : Int64) (post : Int32 → Prop) : Prop := ((p1 < 0 → post 0) ∧ (¬ p1 < 0 → ((¬ p0 = 4 → P_M_can_19 p0 p1 post) ∧ (p0 = 4 → ((1 ≤ p1 → P_M_can_19 p0 p1 post) ∧ (¬ 1 ≤ p1 → post 0))))))
set_option maxHeartbeats 4000000 in
set_option maxRecDepth 100000 in
theorem c_M_can (l : Launch) (dC : Nat → ClassId) (dI : Nat → Nat → Nat) (ad : Nat → Nat → Nat)   (sz : Nat) (p0 : Int32) (p1 : Int64) (post : Int32 → Prop) (h : P_M_can p0 p1 post) : zMi l yM_can wsM_can { frames := 0, cells := 0, slots := 0, locals := 0 } (dC, dI) ad [.int p0, .long p1] (w_M_can ad ) [] sz (fun (r : Int32) (u : Unit) => post r) (fun (u : Unit) => (w_M_can ad )) 0 0 := by
  refine Met.ofW (cc := cM_can) (maxL := 4) (ret := (some .boolean)) (by decide +kernel) rfl ?_
  intro p e s m args below meth c s₁ B hml hv
  obtain ⟨rfl, hsz, hP, hK, hD0, hE⟩ := hv
  have hx := B.exec
  have hb := B.bytes
  have hr := B.returns
  have hts0 := atoms_spec (ws := wsM_can) B.pre
  have hts := fun w h => hts0 w (List.mem_cons_of_mem _ h)
  have hown : s.vm.findClass RM = some m.cls := findClass_of_methodNamed B.named
  have hlocks := B.notSynchronized
  subst hsz
  have hD := hD0.self (sz := s.heap.size)
  generalize hAe : va_A (w_M_can ad ) s.heap.size = A at hD hE ⊢
  have hA : ∀ q : Nat, s.heap.size ≤ q → A q := fun q h => by rw [← hAe]; exact Or.inr h
  have C0 := zC.mk hx hb hr hml hown hts hlocks hA
  have hS : va_S A s.heap s.heap [] := va_S.rf
  have hl := lv_entry ([.int p0, .long p1]) (n := 4) (Nat.le_of_ble_eq_true rfl)
  rw [lg_entry_eq]
  generalize (lg_sl ([.int p0, .long p1]) ++ List.replicate (4 - (lg_sl ([.int p0, .long p1])).length) Slot.unset).toArray = ls at hl ⊢
  have hl : lv_has ls 4 [(0, .int p0), (1, .long p1)] := hl
  unfold P_M_can at h
  refine lv_lload_n hx hb dM_can_0 rfl (lv_at hl 1 rfl) ?_
  refine lv_lconst (v := 0) hx hb dM_can_1 (by decide) ?_
  refine zz_lcmp_lt (tgt := 17) hx hb dM_can_2 dM_can_3 (by decide) ?_ ?_
  · intro c1
    replace h := h.1 c1
    refine lv_iconst (v := 0) hx hb dM_can_17 (by decide) ?_
    exact W.zret (v := 0) hx hb hr rfl (fun t ht hW => ⟨⟨0, (()), rfl, h, by rw [ht]; exact hP, hD⟩, hS.F ht⟩) hS.2.2 dM_can_18
  · intro c1
    replace h := h.2 c1
    refine lv_iload_n hx hb dM_can_6 rfl (lv_at hl 0 rfl) ?_
    refine lv_iconst (v := 4) hx hb dM_can_7 (by decide) ?_
    refine lv_icmp_ne (tgt := 19) hx hb dM_can_8 (by decide) ?_ ?_
    · intro c2
      replace h := h.1 c2
      exact w_M_can_19 l C0 hE p0 p1 post hK _ _ h hP hD hS ls (lv_sub hl [0, 1] rfl)
    · intro c2
      replace h := h.2 c2
      refine lv_lload_n hx hb dM_can_11 rfl (lv_at hl 1 rfl) ?_
      refine lv_lconst (v := 1) hx hb dM_can_12 (by decide) ?_
      refine zz_lcmp_ge (tgt := 19) hx hb dM_can_13 dM_can_14 (by decide) ?_ ?_
      · intro c3
        replace h := h.1 c3
        exact w_M_can_19 l C0 hE p0 p1 post hK _ _ h hP hD hS ls (lv_sub hl [0, 1] rfl)
      · intro c3
        replace h := h.2 c3
        refine lv_iconst (v := 0) hx hb dM_can_17 (by decide) ?_
        exact W.zret (v := 0) hx hb hr rfl (fun t ht hW => ⟨⟨0, (()), rfl, h, by rw [ht]; exact hP, hD⟩, hS.F ht⟩) hS.2.2 dM_can_18
abbrev yM_take : MethodName := ⟨"FootprintRulesModel", "take", "(II)Z"⟩
abbrev cM_take : ByteArray := prog_14_method_12_code
abbrev wsM_take : List Cond := .code yM_take cM_take 7 (some .boolean) :: zT
set_option maxRecDepth 100000 in
theorem zc_M_take : Cond.code yM_take cM_take 7 (some .boolean) ∈ zT := zm 1167 (by rfl) (by rfl)
theorem dM_take_0 : decode cM_take 0 = .ok (.iload_n 2, 1) := by decide +kernel
theorem dM_take_1 : decode cM_take 1 = .ok (.iconst 4, 1) := by decide +kernel
theorem dM_take_2 : decode cM_take 2 = .ok (.if_icmp .ge 7, 3) := by decide +kernel
theorem dM_take_5 : decode cM_take 5 = .ok (.iconst 3, 1) := by decide +kernel
theorem dM_take_6 : decode cM_take 6 = .ok (.goto 4, 3) := by decide +kernel
theorem dM_take_9 : decode cM_take 9 = .ok (.iconst 1, 1) := by decide +kernel
theorem dM_take_10 : decode cM_take 10 = .ok (.istore_n 3, 1) := by decide +kernel
theorem dM_take_11 : decode cM_take 11 = .ok (.iconst 0, 1) := by decide +kernel
theorem dM_take_12 : decode cM_take 12 = .ok (.istore 4, 2) := by decide +kernel
theorem dM_take_14 : decode cM_take 14 = .ok (.iload 4, 2) := by decide +kernel
theorem dM_take_16 : decode cM_take 16 = .ok (.iload_n 3, 1) := by decide +kernel
theorem dM_take_17 : decode cM_take 17 = .ok (.if_icmp .ge 112, 3) := by decide +kernel
theorem dM_take_20 : decode cM_take 20 = .ok (.aload_n 0, 1) := by decide +kernel
theorem dM_take_21 : decode cM_take 21 = .ok (.invokevirtual 92, 3) := by decide +kernel
theorem dM_take_24 : decode cM_take 24 = .ok (.ifCond .ne 15, 3) := by decide +kernel
theorem dM_take_27 : decode cM_take 27 = .ok (.aload_n 0, 1) := by decide +kernel
theorem dM_take_28 : decode cM_take 28 = .ok (.dup, 1) := by decide +kernel
theorem dM_take_29 : decode cM_take 29 = .ok (.getfield 71, 3) := by decide +kernel
theorem dM_take_32 : decode cM_take 32 = .ok (.iconst 1, 1) := by decide +kernel
theorem dM_take_33 : decode cM_take 33 = .ok (.iadd, 1) := by decide +kernel
theorem dM_take_34 : decode cM_take 34 = .ok (.putfield 71, 3) := by decide +kernel
theorem dM_take_37 : decode cM_take 37 = .ok (.iconst 0, 1) := by decide +kernel
theorem dM_take_38 : decode cM_take 38 = .ok (.ireturn, 1) := by decide +kernel
theorem dM_take_39 : decode cM_take 39 = .ok (.iload_n 2, 1) := by decide +kernel
theorem dM_take_40 : decode cM_take 40 = .ok (.bipush 10, 2) := by decide +kernel
theorem dM_take_42 : decode cM_take 42 = .ok (.if_icmp .ne 13, 3) := by decide +kernel
theorem dM_take_45 : decode cM_take 45 = .ok (.aload_n 0, 1) := by decide +kernel
theorem dM_take_46 : decode cM_take 46 = .ok (.bipush 65, 2) := by decide +kernel
theorem dM_take_48 : decode cM_take 48 = .ok (.iconst 4, 1) := by decide +kernel
theorem dM_take_49 : decode cM_take 49 = .ok (.invokevirtual 96, 3) := by decide +kernel
theorem dM_take_52 : decode cM_take 52 = .ok (.goto 7, 3) := by decide +kernel
theorem dM_take_55 : decode cM_take 55 = .ok (.aload_n 0, 1) := by decide +kernel
theorem dM_take_56 : decode cM_take 56 = .ok (.invokevirtual 100, 3) := by decide +kernel
theorem dM_take_59 : decode cM_take 59 = .ok (.lstore 5, 2) := by decide +kernel
theorem dM_take_61 : decode cM_take 61 = .ok (.iload_n 2, 1) := by decide +kernel
theorem dM_take_62 : decode cM_take 62 = .ok (.bipush 10, 2) := by decide +kernel
theorem dM_take_64 : decode cM_take 64 = .ok (.if_icmp .ne 13, 3) := by decide +kernel
theorem dM_take_67 : decode cM_take 67 = .ok (.lload 5, 2) := by decide +kernel
theorem dM_take_69 : decode cM_take 69 = .ok (.lconst 0, 1) := by decide +kernel
theorem dM_take_70 : decode cM_take 70 = .ok (.lcmp, 1) := by decide +kernel
theorem dM_take_71 : decode cM_take 71 = .ok (.ifCond .ge 17, 3) := by decide +kernel
theorem dM_take_74 : decode cM_take 74 = .ok (.goto 12, 3) := by decide +kernel
theorem dM_take_77 : decode cM_take 77 = .ok (.iload_n 2, 1) := by decide +kernel
theorem dM_take_78 : decode cM_take 78 = .ok (.lload 5, 2) := by decide +kernel
theorem dM_take_80 : decode cM_take 80 = .ok (.invokestatic 104, 3) := by decide +kernel
theorem dM_take_83 : decode cM_take 83 = .ok (.ifCond .ne 5, 3) := by decide +kernel
theorem dM_take_86 : decode cM_take 86 = .ok (.iconst 0, 1) := by decide +kernel
theorem dM_take_87 : decode cM_take 87 = .ok (.ireturn, 1) := by decide +kernel
theorem dM_take_88 : decode cM_take 88 = .ok (.iload_n 2, 1) := by decide +kernel
theorem dM_take_89 : decode cM_take 89 = .ok (.bipush 10, 2) := by decide +kernel
theorem dM_take_91 : decode cM_take 91 = .ok (.if_icmp .ne 14, 3) := by decide +kernel
theorem dM_take_94 : decode cM_take 94 = .ok (.aload_n 0, 1) := by decide +kernel
theorem dM_take_95 : decode cM_take 95 = .ok (.getfield 20, 3) := by decide +kernel
theorem dM_take_98 : decode cM_take 98 = .ok (.iload_n 1, 1) := by decide +kernel
theorem dM_take_99 : decode cM_take 99 = .ok (.lload 5, 2) := by decide +kernel
theorem dM_take_101 : decode cM_take 101 = .ok (.lastore, 1) := by decide +kernel
theorem dM_take_102 : decode cM_take 102 = .ok (.goto 21, 3) := by decide +kernel
theorem dM_take_105 : decode cM_take 105 = .ok (.aload_n 0, 1) := by decide +kernel
theorem dM_take_106 : decode cM_take 106 = .ok (.getfield 16, 3) := by decide +kernel
theorem dM_take_109 : decode cM_take 109 = .ok (.bipush 30, 2) := by decide +kernel
theorem dM_take_111 : decode cM_take 111 = .ok (.iload_n 1, 1) := by decide +kernel
theorem dM_take_112 : decode cM_take 112 = .ok (.imul, 1) := by decide +kernel
theorem dM_take_113 : decode cM_take 113 = .ok (.iconst 3, 1) := by decide +kernel
theorem dM_take_114 : decode cM_take 114 = .ok (.iload_n 2, 1) := by decide +kernel
theorem dM_take_115 : decode cM_take 115 = .ok (.imul, 1) := by decide +kernel
theorem dM_take_116 : decode cM_take 116 = .ok (.iadd, 1) := by decide +kernel
theorem dM_take_117 : decode cM_take 117 = .ok (.iload 4, 2) := by decide +kernel
theorem dM_take_119 : decode cM_take 119 = .ok (.iadd, 1) := by decide +kernel
theorem dM_take_120 : decode cM_take 120 = .ok (.lload 5, 2) := by decide +kernel
theorem dM_take_122 : decode cM_take 122 = .ok (.lastore, 1) := by decide +kernel
theorem dM_take_123 : decode cM_take 123 = .ok (.iinc 4 1, 3) := by decide +kernel
theorem dM_take_126 : decode cM_take 126 = .ok (.goto (-112), 3) := by decide +kernel
theorem dM_take_129 : decode cM_take 129 = .ok (.iconst 1, 1) := by decide +kernel
theorem dM_take_130 : decode cM_take 130 = .ok (.ireturn, 1) := by decide +kernel
-- FootprintRulesModel.take(II)Z
abbrev w_M_take (ad : Nat → Nat → Nat) (a_this : Nat) (a_units : Nat) (a_kinds : Nat) (a_values : Nat) (a_names : Nat) (a_low : Nat) (a_high : Nat) (a_told : Nat) (a_leftOut : Nat) (a_isMade : Nat) (a_hands : Nat) (a_pad : Nat) (a_court : Nat) (a_title : Nat) (a_out : Nat) (k_units : ClassId) (k_values : ClassId) (k_names : ClassId) (v_this_thrown : Int32) (v_this_size : Int32) (v_this_families : Int32) (v_this_atHand : Int32) (v_this_family : Int32) (v_this_density : Int32) (v_this_pads : Int32) (v_this_hasThermal : Int32) (v_this_titleSize : Int32) (v_this_written : Int32) (v_this_at : Int32) (v_this_begin : Int32) (v_this_words : Int32) (v_this_paste0 : Int64) (v_units : Nat → Int32) (v_values : Nat → Int64) (v_names : Nat → Int64) : va_W := [(a_this, .inr (10, [.int v_this_thrown, .ref a_units, .int v_this_size, .int v_this_families, .ref a_kinds, .ref a_values, .ref a_names, .ref a_low, .ref a_high, .ref a_told, .ref a_leftOut, .ref a_isMade, .ref a_hands, .int v_this_atHand, .int v_this_family, .int v_this_density, .int v_this_pads, .ref a_pad, .ref a_court, .int v_this_hasThermal, .ref a_title, .int v_this_titleSize, .ref a_out, .int v_this_written, .int v_this_at, .int v_this_begin, .int v_this_words, .long v_this_paste0])), (a_units, .inl (k_units, 600, .inl v_units)), (a_values, .inl (k_values, 240, .inr (.inl v_values))), (a_names, .inl (k_names, 8, .inr (.inl v_names)))]
def P_M_take_123  (post : Int32 → Int32 → Int32 → Int32 → (Nat → Int64) → (Nat → Int64) → Prop) (K14 : Int32 → Int32 → Int32 → Int32 → Int32 → (Nat → Int64) → (Nat → Int64) → Prop) (y3 : Int32) (y4 : Int32) (u_this_at : Int32) (u_this_begin : Int32) (u_this_words : Int32) (u_values : Nat → Int64) (u_names : Nat → Int64) : Prop := ∀ x1 : Int32, x1 = y4 + 1 → K14 y3 x1 u_this_at u_this_begin u_this_words u_values u_names
set_option maxHeartbeats 4000000 in
set_option maxRecDepth 100000 in
theorem w_M_take_123 (l : Launch) {p : Program} {e : Env} {s : State} {m : MethodId} {args : Array Value} {below : List Frame} {meth : Method} {c : Code} {dC : Nat → ClassId} {dI : Nat → Nat → Nat} {ad : Nat → Nat → Nat} {A : Nat → Prop} (C0 : zC p s m args meth c cM_take 7 RM zT (some .boolean) A) (hE : zE ad A s) (a_this : Nat) (a_units : Nat) (a_kinds : Nat) (a_values : Nat) (a_names : Nat) (a_low : Nat) (a_high : Nat) (a_told : Nat) (a_leftOut : Nat) (a_isMade : Nat) (a_hands : Nat) (a_pad : Nat) (a_court : Nat) (a_title : Nat) (a_out : Nat) (k_units : ClassId) (k_values : ClassId) (k_names : ClassId) (p1 : Int32) (p2 : Int32) (v_this_thrown : Int32) (v_this_size : Int32) (v_this_families : Int32) (v_this_atHand : Int32) (v_this_family : Int32) (v_this_density : Int32) (v_this_pads : Int32) (v_this_hasThermal : Int32) (v_this_titleSize : Int32) (v_this_written : Int32) (v_this_at : Int32) (v_this_begin : Int32) (v_this_words : Int32) (v_this_paste0 : Int64) (v_units : Nat → Int32) (v_values : Nat → Int64) (v_names : Nat → Int64) (post : Int32 → Int32 → Int32 → Int32 → (Nat → Int64) → (Nat → Int64) → Prop) (K14 : Int32 → Int32 → Int32 → Int32 → Int32 → (Nat → Int64) → (Nat → Int64) → Prop) (hK14 : ∀ (y3 : Int32) (y4 : Int32) (u_this_at : Int32) (u_this_begin : Int32) (u_this_words : Int32) (u_values : Nat → Int64) (u_names : Nat → Int64) (H : Heap) (locs : List Loc), K14 y3 y4 u_this_at u_this_begin u_this_words u_values u_names → va_P (dC, dI) vwCl (w_M_take ad a_this a_units a_kinds a_values a_names a_low a_high a_told a_leftOut a_isMade a_hands a_pad a_court a_title a_out k_units k_values k_names v_this_thrown v_this_size v_this_families v_this_atHand v_this_family v_this_density v_this_pads v_this_hasThermal v_this_titleSize v_this_written u_this_at u_this_begin u_this_words v_this_paste0 v_units u_values u_names) H → va_D A (w_M_take ad a_this a_units a_kinds a_values a_names a_low a_high a_told a_leftOut a_isMade a_hands a_pad a_court a_title a_out k_units k_values k_names v_this_thrown v_this_size v_this_families v_this_atHand v_this_family v_this_density v_this_pads v_this_hasThermal v_this_titleSize v_this_written u_this_at u_this_begin u_this_words v_this_paste0 v_units u_values u_names) → va_S A s.heap H locs → ∀ ls : Array Slot, lv_has ls 7 [(0, .ref a_this), (1, .int p1), (2, .int p2), (3, .int y3), (4, .int y4)] → W p l e (headSpec wsM_take { frames := 2, cells := 0, slots := 0, locals := 41 }).room s m args below meth c H locs 0 0 (MQ below (va_Qi (fun (r : Int32) (u : Int32 × Int32 × Int32 × (Nat → Int64) × (Nat → Int64)) => post r u.1 u.2.1 u.2.2.1 u.2.2.2.1 u.2.2.2.2) (zB (dC, dI) A (fun (u : Int32 × Int32 × Int32 × (Nat → Int64) × (Nat → Int64)) => (w_M_take ad a_this a_units a_kinds a_values a_names a_low a_high a_told a_leftOut a_isMade a_hands a_pad a_court a_title a_out k_units k_values k_names v_this_thrown v_this_size v_this_families v_this_atHand v_this_family v_this_density v_this_pads v_this_hasThermal v_this_titleSize v_this_written u.1 u.2.1 u.2.2.1 v_this_paste0 v_units u.2.2.2.1 u.2.2.2.2))) A) args s 0 0 A) (F0 m 14 ls [])) (hK : va_K (dC, dI) vwCl [(k_units, .int), (k_values, .long), (k_names, .long)] s) : ∀ (y3 : Int32) (y4 : Int32) (u_this_at : Int32) (u_this_begin : Int32) (u_this_words : Int32) (u_values : Nat → Int64) (u_names : Nat → Int64) (H : Heap) (locs : List Loc), P_M_take_123 post K14 y3 y4 u_this_at u_this_begin u_this_words u_values u_names → va_P (dC, dI) vwCl (w_M_take ad a_this a_units a_kinds a_values a_names a_low a_high a_told a_leftOut a_isMade a_hands a_pad a_court a_title a_out k_units k_values k_names v_this_thrown v_this_size v_this_families v_this_atHand v_this_family v_this_density v_this_pads v_this_hasThermal v_this_titleSize v_this_written u_this_at u_this_begin u_this_words v_this_paste0 v_units u_values u_names) H → va_D A (w_M_take ad a_this a_units a_kinds a_values a_names a_low a_high a_told a_leftOut a_isMade a_hands a_pad a_court a_title a_out k_units k_values k_names v_this_thrown v_this_size v_this_families v_this_atHand v_this_family v_this_density v_this_pads v_this_hasThermal v_this_titleSize v_this_written u_this_at u_this_begin u_this_words v_this_paste0 v_units u_values u_names) → va_S A s.heap H locs → ∀ ls : Array Slot, lv_has ls 7 [(0, .ref a_this), (1, .int p1), (2, .int p2), (3, .int y3), (4, .int y4)] → W p l e (headSpec wsM_take { frames := 2, cells := 0, slots := 0, locals := 41 }).room s m args below meth c H locs 0 0 (MQ below (va_Qi (fun (r : Int32) (u : Int32 × Int32 × Int32 × (Nat → Int64) × (Nat → Int64)) => post r u.1 u.2.1 u.2.2.1 u.2.2.2.1 u.2.2.2.2) (zB (dC, dI) A (fun (u : Int32 × Int32 × Int32 × (Nat → Int64) × (Nat → Int64)) => (w_M_take ad a_this a_units a_kinds a_values a_names a_low a_high a_told a_leftOut a_isMade a_hands a_pad a_court a_title a_out k_units k_values k_names v_this_thrown v_this_size v_this_families v_this_atHand v_this_family v_this_density v_this_pads v_this_hasThermal v_this_titleSize v_this_written u.1 u.2.1 u.2.2.1 v_this_paste0 v_units u.2.2.2.1 u.2.2.2.2))) A) args s 0 0 A) (F0 m 123 ls []) := by
  obtain ⟨hx, hb, hr, hml, hown, hts, hlocks, hA⟩ := id C0
  intro y3 y4 u_this_at u_this_begin u_this_words u_values u_names H locs h hP hD hS ls hl
  unfold P_M_take_123 at h
  obtain ⟨x1, ex1⟩ : ∃ y : Int32, y = y4 + 1 := ⟨_, rfl⟩
  replace h := h x1 ex1
  refine lv_iinc (v := x1) (lv' := [(4, .int x1), (0, .ref a_this), (1, .int p1), (2, .int p2), (3, .int y3)]) hx hb dM_take_123 hl (k := 4) rfl (by rw [ex1]; rfl) (by decide) rfl (fun ls hl => ?_)
  refine lv_goto (tgt := 14) hx hb dM_take_126 (by decide) ?_
  exact hK14 y3 x1 u_this_at u_this_begin u_this_words u_values u_names _ _ h hP hD hS ls (lv_sub hl [1, 2, 3, 4, 0] rfl)
def P_M_take_88 (p1 : Int32) (p2 : Int32) (post : Int32 → Int32 → Int32 → Int32 → (Nat → Int64) → (Nat → Int64) → Prop) (K14 : Int32 → Int32 → Int32 → Int32 → Int32 → (Nat → Int64) → (Nat → Int64) → Prop) (y3 : Int32) (y4 : Int32) (y5 : Int64) (u_this_at : Int32) (u_this_begin : Int32) (u_this_words : Int32) (u_values : Nat → Int64) (u_names : Nat → Int64) : Prop := ((¬ p2 = 10 → vp_in (((30 * p1) + (3 * p2)) + y4) 240 ∧ P_M_take_123 post K14 y3 y4 u_this_at u_this_begin u_this_words (vp_updL u_values (((30 * p1) + (3 * p2)) + y4).toNatClampNeg y5) u_names) ∧ (p2 = 10 → vp_in p1 8 ∧ P_M_take_123 post K14 y3 y4 u_this_at u_this_begin u_this_words u_values (vp_updL u_names p1.toNatClampNeg y5)))
set_option maxHeartbeats 4000000 in
set_option maxRecDepth 100000 in
theorem w_M_take_88 (l : Launch) {p : Program} {e : Env} {s : State} {m : MethodId} {args : Array Value} {below : List Frame} {meth : Method} {c : Code} {dC : Nat → ClassId} {dI : Nat → Nat → Nat} {ad : Nat → Nat → Nat} {A : Nat → Prop} (C0 : zC p s m args meth c cM_take 7 RM zT (some .boolean) A) (hE : zE ad A s) (a_this : Nat) (a_units : Nat) (a_kinds : Nat) (a_values : Nat) (a_names : Nat) (a_low : Nat) (a_high : Nat) (a_told : Nat) (a_leftOut : Nat) (a_isMade : Nat) (a_hands : Nat) (a_pad : Nat) (a_court : Nat) (a_title : Nat) (a_out : Nat) (k_units : ClassId) (k_values : ClassId) (k_names : ClassId) (p1 : Int32) (p2 : Int32) (v_this_thrown : Int32) (v_this_size : Int32) (v_this_families : Int32) (v_this_atHand : Int32) (v_this_family : Int32) (v_this_density : Int32) (v_this_pads : Int32) (v_this_hasThermal : Int32) (v_this_titleSize : Int32) (v_this_written : Int32) (v_this_at : Int32) (v_this_begin : Int32) (v_this_words : Int32) (v_this_paste0 : Int64) (v_units : Nat → Int32) (v_values : Nat → Int64) (v_names : Nat → Int64) (post : Int32 → Int32 → Int32 → Int32 → (Nat → Int64) → (Nat → Int64) → Prop) (K14 : Int32 → Int32 → Int32 → Int32 → Int32 → (Nat → Int64) → (Nat → Int64) → Prop) (hK14 : ∀ (y3 : Int32) (y4 : Int32) (u_this_at : Int32) (u_this_begin : Int32) (u_this_words : Int32) (u_values : Nat → Int64) (u_names : Nat → Int64) (H : Heap) (locs : List Loc), K14 y3 y4 u_this_at u_this_begin u_this_words u_values u_names → va_P (dC, dI) vwCl (w_M_take ad a_this a_units a_kinds a_values a_names a_low a_high a_told a_leftOut a_isMade a_hands a_pad a_court a_title a_out k_units k_values k_names v_this_thrown v_this_size v_this_families v_this_atHand v_this_family v_this_density v_this_pads v_this_hasThermal v_this_titleSize v_this_written u_this_at u_this_begin u_this_words v_this_paste0 v_units u_values u_names) H → va_D A (w_M_take ad a_this a_units a_kinds a_values a_names a_low a_high a_told a_leftOut a_isMade a_hands a_pad a_court a_title a_out k_units k_values k_names v_this_thrown v_this_size v_this_families v_this_atHand v_this_family v_this_density v_this_pads v_this_hasThermal v_this_titleSize v_this_written u_this_at u_this_begin u_this_words v_this_paste0 v_units u_values u_names) → va_S A s.heap H locs → ∀ ls : Array Slot, lv_has ls 7 [(0, .ref a_this), (1, .int p1), (2, .int p2), (3, .int y3), (4, .int y4)] → W p l e (headSpec wsM_take { frames := 2, cells := 0, slots := 0, locals := 41 }).room s m args below meth c H locs 0 0 (MQ below (va_Qi (fun (r : Int32) (u : Int32 × Int32 × Int32 × (Nat → Int64) × (Nat → Int64)) => post r u.1 u.2.1 u.2.2.1 u.2.2.2.1 u.2.2.2.2) (zB (dC, dI) A (fun (u : Int32 × Int32 × Int32 × (Nat → Int64) × (Nat → Int64)) => (w_M_take ad a_this a_units a_kinds a_values a_names a_low a_high a_told a_leftOut a_isMade a_hands a_pad a_court a_title a_out k_units k_values k_names v_this_thrown v_this_size v_this_families v_this_atHand v_this_family v_this_density v_this_pads v_this_hasThermal v_this_titleSize v_this_written u.1 u.2.1 u.2.2.1 v_this_paste0 v_units u.2.2.2.1 u.2.2.2.2))) A) args s 0 0 A) (F0 m 14 ls [])) (hK : va_K (dC, dI) vwCl [(k_units, .int), (k_values, .long), (k_names, .long)] s) : ∀ (y3 : Int32) (y4 : Int32) (y5 : Int64) (u_this_at : Int32) (u_this_begin : Int32) (u_this_words : Int32) (u_values : Nat → Int64) (u_names : Nat → Int64) (H : Heap) (locs : List Loc), P_M_take_88 p1 p2 post K14 y3 y4 y5 u_this_at u_this_begin u_this_words u_values u_names → va_P (dC, dI) vwCl (w_M_take ad a_this a_units a_kinds a_values a_names a_low a_high a_told a_leftOut a_isMade a_hands a_pad a_court a_title a_out k_units k_values k_names v_this_thrown v_this_size v_this_families v_this_atHand v_this_family v_this_density v_this_pads v_this_hasThermal v_this_titleSize v_this_written u_this_at u_this_begin u_this_words v_this_paste0 v_units u_values u_names) H → va_D A (w_M_take ad a_this a_units a_kinds a_values a_names a_low a_high a_told a_leftOut a_isMade a_hands a_pad a_court a_title a_out k_units k_values k_names v_this_thrown v_this_size v_this_families v_this_atHand v_this_family v_this_density v_this_pads v_this_hasThermal v_this_titleSize v_this_written u_this_at u_this_begin u_this_words v_this_paste0 v_units u_values u_names) → va_S A s.heap H locs → ∀ ls : Array Slot, lv_has ls 7 [(0, .ref a_this), (1, .int p1), (2, .int p2), (3, .int y3), (4, .int y4), (5, .long y5)] → W p l e (headSpec wsM_take { frames := 2, cells := 0, slots := 0, locals := 41 }).room s m args below meth c H locs 0 0 (MQ below (va_Qi (fun (r : Int32) (u : Int32 × Int32 × Int32 × (Nat → Int64) × (Nat → Int64)) => post r u.1 u.2.1 u.2.2.1 u.2.2.2.1 u.2.2.2.2) (zB (dC, dI) A (fun (u : Int32 × Int32 × Int32 × (Nat → Int64) × (Nat → Int64)) => (w_M_take ad a_this a_units a_kinds a_values a_names a_low a_high a_told a_leftOut a_isMade a_hands a_pad a_court a_title a_out k_units k_values k_names v_this_thrown v_this_size v_this_families v_this_atHand v_this_family v_this_density v_this_pads v_this_hasThermal v_this_titleSize v_this_written u.1 u.2.1 u.2.2.1 v_this_paste0 v_units u.2.2.2.1 u.2.2.2.2))) A) args s 0 0 A) (F0 m 88 ls []) := by
  obtain ⟨hx, hb, hr, hml, hown, hts, hlocks, hA⟩ := id C0
  intro y3 y4 y5 u_this_at u_this_begin u_this_words u_values u_names H locs h hP hD hS ls hl
  unfold P_M_take_88 at h
  refine lv_iload_n hx hb dM_take_88 rfl (lv_at hl 2 rfl) ?_
  refine lv_bipush (v := 10) hx hb dM_take_89 (by decide) ?_
  refine lv_icmp_ne (tgt := 105) hx hb dM_take_91 (by decide) ?_ ?_
  · intro c1
    replace h := h.1 c1
    refine lv_aload_n hx hb dM_take_105 rfl (lv_at hl 0 rfl) ?_
    refine va_get (D := (dC, dI)) (ci := 10) (v := .ref a_values) (C := RM) (T := TM) (N := 28) hx hb hts inZ_M hown hK hP 0 rfl rfl 5 (by decide) (hts _ zw_1049) (fun _ h9 => h9) rfl dM_take_106 ?_
    refine lv_bipush (v := 30) hx hb dM_take_109 (by decide) ?_
    refine lv_iload_n hx hb dM_take_111 rfl (lv_at hl 1 rfl) ?_
    refine lv_imul hx hb dM_take_112 ?_
    refine lv_iconst (v := 3) hx hb dM_take_113 (by decide) ?_
    refine lv_iload_n hx hb dM_take_114 rfl (lv_at hl 2 rfl) ?_
    refine lv_imul hx hb dM_take_115 ?_
    refine lv_iadd hx hb dM_take_116 ?_
    refine lv_iload hx hb dM_take_117 (lv_at hl 4 rfl) ?_
    refine lv_iadd hx hb dM_take_119 ?_
    refine lv_lload hx hb dM_take_120 (lv_at hl 5 rfl) ?_
    obtain ⟨hn2, h⟩ := h
    refine va_last hx hb hK hP hD hS 2 1 rfl rfl hn2 dM_take_122 (fun H locs hP hD hS => ?_)
    have hP : va_P (dC, dI) vwCl (w_M_take ad a_this a_units a_kinds a_values a_names a_low a_high a_told a_leftOut a_isMade a_hands a_pad a_court a_title a_out k_units k_values k_names v_this_thrown v_this_size v_this_families v_this_atHand v_this_family v_this_density v_this_pads v_this_hasThermal v_this_titleSize v_this_written u_this_at u_this_begin u_this_words v_this_paste0 v_units (vp_updL u_values (((30 * p1) + (3 * p2)) + y4).toNatClampNeg y5) u_names) H := hP
    have hD : va_D A (w_M_take ad a_this a_units a_kinds a_values a_names a_low a_high a_told a_leftOut a_isMade a_hands a_pad a_court a_title a_out k_units k_values k_names v_this_thrown v_this_size v_this_families v_this_atHand v_this_family v_this_density v_this_pads v_this_hasThermal v_this_titleSize v_this_written u_this_at u_this_begin u_this_words v_this_paste0 v_units (vp_updL u_values (((30 * p1) + (3 * p2)) + y4).toNatClampNeg y5) u_names) := hD
    exact w_M_take_123 l C0 hE a_this a_units a_kinds a_values a_names a_low a_high a_told a_leftOut a_isMade a_hands a_pad a_court a_title a_out k_units k_values k_names p1 p2 v_this_thrown v_this_size v_this_families v_this_atHand v_this_family v_this_density v_this_pads v_this_hasThermal v_this_titleSize v_this_written v_this_at v_this_begin v_this_words v_this_paste0 v_units v_values v_names post K14 hK14 hK y3 y4 u_this_at u_this_begin u_this_words (vp_updL u_values (((30 * p1) + (3 * p2)) + y4).toNatClampNeg y5) u_names _ _ h hP hD hS ls (lv_sub hl [0, 1, 2, 3, 4] rfl)
  · intro c1
    replace h := h.2 c1
    refine lv_aload_n hx hb dM_take_94 rfl (lv_at hl 0 rfl) ?_
    refine va_get (D := (dC, dI)) (ci := 10) (v := .ref a_names) (C := RM) (T := TM) (N := 28) hx hb hts inZ_M hown hK hP 0 rfl rfl 6 (by decide) (hts _ zw_1050) (fun _ h9 => h9) rfl dM_take_95 ?_
    refine lv_iload_n hx hb dM_take_98 rfl (lv_at hl 1 rfl) ?_
    refine lv_lload hx hb dM_take_99 (lv_at hl 5 rfl) ?_
    obtain ⟨hn3, h⟩ := h
    refine va_last hx hb hK hP hD hS 3 2 rfl rfl hn3 dM_take_101 (fun H locs hP hD hS => ?_)
    have hP : va_P (dC, dI) vwCl (w_M_take ad a_this a_units a_kinds a_values a_names a_low a_high a_told a_leftOut a_isMade a_hands a_pad a_court a_title a_out k_units k_values k_names v_this_thrown v_this_size v_this_families v_this_atHand v_this_family v_this_density v_this_pads v_this_hasThermal v_this_titleSize v_this_written u_this_at u_this_begin u_this_words v_this_paste0 v_units u_values (vp_updL u_names p1.toNatClampNeg y5)) H := hP
    have hD : va_D A (w_M_take ad a_this a_units a_kinds a_values a_names a_low a_high a_told a_leftOut a_isMade a_hands a_pad a_court a_title a_out k_units k_values k_names v_this_thrown v_this_size v_this_families v_this_atHand v_this_family v_this_density v_this_pads v_this_hasThermal v_this_titleSize v_this_written u_this_at u_this_begin u_this_words v_this_paste0 v_units u_values (vp_updL u_names p1.toNatClampNeg y5)) := hD
    refine lv_goto (tgt := 123) hx hb dM_take_102 (by decide) ?_
    exact w_M_take_123 l C0 hE a_this a_units a_kinds a_values a_names a_low a_high a_told a_leftOut a_isMade a_hands a_pad a_court a_title a_out k_units k_values k_names p1 p2 v_this_thrown v_this_size v_this_families v_this_atHand v_this_family v_this_density v_this_pads v_this_hasThermal v_this_titleSize v_this_written v_this_at v_this_begin v_this_words v_this_paste0 v_units v_values v_names post K14 hK14 hK y3 y4 u_this_at u_this_begin u_this_words u_values (vp_updL u_names p1.toNatClampNeg y5) _ _ h hP hD hS ls (lv_sub hl [0, 1, 2, 3, 4] rfl)
def P_M_take_59 (p1 : Int32) (p2 : Int32) (post : Int32 → Int32 → Int32 → Int32 → (Nat → Int64) → (Nat → Int64) → Prop) (K14 : Int32 → Int32 → Int32 → Int32 → Int32 → (Nat → Int64) → (Nat → Int64) → Prop) (y3 : Int32) (y4 : Int32) (t0 : Int64) (u_this_at : Int32) (u_this_begin : Int32) (u_this_words : Int32) (u_values : Nat → Int64) (u_names : Nat → Int64) : Prop := ((¬ p2 = 10 → P_M_can p2 t0 (fun (r2 : Int32) => ((¬ r2 = 0 → P_M_take_88 p1 p2 post K14 y3 y4 t0 u_this_at u_this_begin u_this_words u_values u_names) ∧ (r2 = 0 → post 0 u_this_at u_this_begin u_this_words u_values u_names)))) ∧ (p2 = 10 → ((0 ≤ t0 → P_M_take_88 p1 p2 post K14 y3 y4 t0 u_this_at u_this_begin u_this_words u_values u_names) ∧ (¬ 0 ≤ t0 → post 0 u_this_at u_this_begin u_this_words u_values u_names))))
set_option maxHeartbeats 4000000 in
set_option maxRecDepth 100000 in
theorem w_M_take_59 (l : Launch) {p : Program} {e : Env} {s : State} {m : MethodId} {args : Array Value} {below : List Frame} {meth : Method} {c : Code} {dC : Nat → ClassId} {dI : Nat → Nat → Nat} {ad : Nat → Nat → Nat} {A : Nat → Prop} (C0 : zC p s m args meth c cM_take 7 RM zT (some .boolean) A) (hE : zE ad A s) (a_this : Nat) (a_units : Nat) (a_kinds : Nat) (a_values : Nat) (a_names : Nat) (a_low : Nat) (a_high : Nat) (a_told : Nat) (a_leftOut : Nat) (a_isMade : Nat) (a_hands : Nat) (a_pad : Nat) (a_court : Nat) (a_title : Nat) (a_out : Nat) (k_units : ClassId) (k_values : ClassId) (k_names : ClassId) (p1 : Int32) (p2 : Int32) (v_this_thrown : Int32) (v_this_size : Int32) (v_this_families : Int32) (v_this_atHand : Int32) (v_this_family : Int32) (v_this_density : Int32) (v_this_pads : Int32) (v_this_hasThermal : Int32) (v_this_titleSize : Int32) (v_this_written : Int32) (v_this_at : Int32) (v_this_begin : Int32) (v_this_words : Int32) (v_this_paste0 : Int64) (v_units : Nat → Int32) (v_values : Nat → Int64) (v_names : Nat → Int64) (post : Int32 → Int32 → Int32 → Int32 → (Nat → Int64) → (Nat → Int64) → Prop) (K14 : Int32 → Int32 → Int32 → Int32 → Int32 → (Nat → Int64) → (Nat → Int64) → Prop) (hK14 : ∀ (y3 : Int32) (y4 : Int32) (u_this_at : Int32) (u_this_begin : Int32) (u_this_words : Int32) (u_values : Nat → Int64) (u_names : Nat → Int64) (H : Heap) (locs : List Loc), K14 y3 y4 u_this_at u_this_begin u_this_words u_values u_names → va_P (dC, dI) vwCl (w_M_take ad a_this a_units a_kinds a_values a_names a_low a_high a_told a_leftOut a_isMade a_hands a_pad a_court a_title a_out k_units k_values k_names v_this_thrown v_this_size v_this_families v_this_atHand v_this_family v_this_density v_this_pads v_this_hasThermal v_this_titleSize v_this_written u_this_at u_this_begin u_this_words v_this_paste0 v_units u_values u_names) H → va_D A (w_M_take ad a_this a_units a_kinds a_values a_names a_low a_high a_told a_leftOut a_isMade a_hands a_pad a_court a_title a_out k_units k_values k_names v_this_thrown v_this_size v_this_families v_this_atHand v_this_family v_this_density v_this_pads v_this_hasThermal v_this_titleSize v_this_written u_this_at u_this_begin u_this_words v_this_paste0 v_units u_values u_names) → va_S A s.heap H locs → ∀ ls : Array Slot, lv_has ls 7 [(0, .ref a_this), (1, .int p1), (2, .int p2), (3, .int y3), (4, .int y4)] → W p l e (headSpec wsM_take { frames := 2, cells := 0, slots := 0, locals := 41 }).room s m args below meth c H locs 0 0 (MQ below (va_Qi (fun (r : Int32) (u : Int32 × Int32 × Int32 × (Nat → Int64) × (Nat → Int64)) => post r u.1 u.2.1 u.2.2.1 u.2.2.2.1 u.2.2.2.2) (zB (dC, dI) A (fun (u : Int32 × Int32 × Int32 × (Nat → Int64) × (Nat → Int64)) => (w_M_take ad a_this a_units a_kinds a_values a_names a_low a_high a_told a_leftOut a_isMade a_hands a_pad a_court a_title a_out k_units k_values k_names v_this_thrown v_this_size v_this_families v_this_atHand v_this_family v_this_density v_this_pads v_this_hasThermal v_this_titleSize v_this_written u.1 u.2.1 u.2.2.1 v_this_paste0 v_units u.2.2.2.1 u.2.2.2.2))) A) args s 0 0 A) (F0 m 14 ls [])) (hK : va_K (dC, dI) vwCl [(k_units, .int), (k_values, .long), (k_names, .long)] s) : ∀ (y3 : Int32) (y4 : Int32) (t0 : Int64) (u_this_at : Int32) (u_this_begin : Int32) (u_this_words : Int32) (u_values : Nat → Int64) (u_names : Nat → Int64) (H : Heap) (locs : List Loc), P_M_take_59 p1 p2 post K14 y3 y4 t0 u_this_at u_this_begin u_this_words u_values u_names → va_P (dC, dI) vwCl (w_M_take ad a_this a_units a_kinds a_values a_names a_low a_high a_told a_leftOut a_isMade a_hands a_pad a_court a_title a_out k_units k_values k_names v_this_thrown v_this_size v_this_families v_this_atHand v_this_family v_this_density v_this_pads v_this_hasThermal v_this_titleSize v_this_written u_this_at u_this_begin u_this_words v_this_paste0 v_units u_values u_names) H → va_D A (w_M_take ad a_this a_units a_kinds a_values a_names a_low a_high a_told a_leftOut a_isMade a_hands a_pad a_court a_title a_out k_units k_values k_names v_this_thrown v_this_size v_this_families v_this_atHand v_this_family v_this_density v_this_pads v_this_hasThermal v_this_titleSize v_this_written u_this_at u_this_begin u_this_words v_this_paste0 v_units u_values u_names) → va_S A s.heap H locs → ∀ ls : Array Slot, lv_has ls 7 [(0, .ref a_this), (1, .int p1), (2, .int p2), (3, .int y3), (4, .int y4)] → W p l e (headSpec wsM_take { frames := 2, cells := 0, slots := 0, locals := 41 }).room s m args below meth c H locs 0 0 (MQ below (va_Qi (fun (r : Int32) (u : Int32 × Int32 × Int32 × (Nat → Int64) × (Nat → Int64)) => post r u.1 u.2.1 u.2.2.1 u.2.2.2.1 u.2.2.2.2) (zB (dC, dI) A (fun (u : Int32 × Int32 × Int32 × (Nat → Int64) × (Nat → Int64)) => (w_M_take ad a_this a_units a_kinds a_values a_names a_low a_high a_told a_leftOut a_isMade a_hands a_pad a_court a_title a_out k_units k_values k_names v_this_thrown v_this_size v_this_families v_this_atHand v_this_family v_this_density v_this_pads v_this_hasThermal v_this_titleSize v_this_written u.1 u.2.1 u.2.2.1 v_this_paste0 v_units u.2.2.2.1 u.2.2.2.2))) A) args s 0 0 A) (F0 m 59 ls [.long t0]) := by
  obtain ⟨hx, hb, hr, hml, hown, hts, hlocks, hA⟩ := id C0
  intro y3 y4 t0 u_this_at u_this_begin u_this_words u_values u_names H locs h hP hD hS ls hl
  unfold P_M_take_59 at h
  refine lv_lstore (lv' := [(5, .long t0), (0, .ref a_this), (1, .int p1), (2, .int p2), (3, .int y3), (4, .int y4)]) hx hb dM_take_59 hl (by decide) rfl (fun ls hl => ?_)
  refine lv_iload_n hx hb dM_take_61 rfl (lv_at hl 3 rfl) ?_
  refine lv_bipush (v := 10) hx hb dM_take_62 (by decide) ?_
  refine lv_icmp_ne (tgt := 77) hx hb dM_take_64 (by decide) ?_ ?_
  · intro c1
    replace h := h.1 c1
    refine lv_iload_n hx hb dM_take_77 rfl (lv_at hl 3 rfl) ?_
    refine lv_lload hx hb dM_take_78 (lv_at hl 0 rfl) ?_
    refine zcall_i hP hD hS hA [] [0, 1, 2, 3] (va_runS (As := [.int p2, .long t0]) (rest := []) ⟨hx, hb, hml, hown, hts⟩ (c_M_can l dC dI ad _ p2 t0 _ h) ⟨callB_of 2 hts (zgood zc_M_can) rfl rfl rfl (hts _ zw_107) (hts _ zw_1175) (by decide +kernel) ⟨Nat.le_of_ble_eq_true rfl, Nat.le_of_ble_eq_true rfl⟩, (hts _ zw_1176)⟩ (zpreS hE hK hP hD hS hA [] [] (by rfl) (by rfl) (by decide)) rfl rfl hl.1 rfl (lv_room (Nat.le_of_ble_eq_true rfl)) dM_take_80 ⟨Nat.le_of_ble_eq_true rfl, Nat.le_of_ble_eq_true rfl⟩) (by rfl) (by rfl) (by decide) (by decide) (fun r2 u H locs h hP hD hS => ?_)
    try dsimp only at h
    have hP := hP.sub (ws' := (w_M_take ad a_this a_units a_kinds a_values a_names a_low a_high a_told a_leftOut a_isMade a_hands a_pad a_court a_title a_out k_units k_values k_names v_this_thrown v_this_size v_this_families v_this_atHand v_this_family v_this_density v_this_pads v_this_hasThermal v_this_titleSize v_this_written u_this_at u_this_begin u_this_words v_this_paste0 v_units u_values u_names)) [0, 1, 2, 3] rfl
    have hD := hD.sub (ws' := (w_M_take ad a_this a_units a_kinds a_values a_names a_low a_high a_told a_leftOut a_isMade a_hands a_pad a_court a_title a_out k_units k_values k_names v_this_thrown v_this_size v_this_families v_this_atHand v_this_family v_this_density v_this_pads v_this_hasThermal v_this_titleSize v_this_written u_this_at u_this_begin u_this_words v_this_paste0 v_units u_values u_names)) [0, 1, 2, 3] (by decide) rfl
    refine lv_if_ne (tgt := 88) hx hb dM_take_83 (by decide) ?_ ?_
    · intro c3
      replace h := h.1 c3
      exact w_M_take_88 l C0 hE a_this a_units a_kinds a_values a_names a_low a_high a_told a_leftOut a_isMade a_hands a_pad a_court a_title a_out k_units k_values k_names p1 p2 v_this_thrown v_this_size v_this_families v_this_atHand v_this_family v_this_density v_this_pads v_this_hasThermal v_this_titleSize v_this_written v_this_at v_this_begin v_this_words v_this_paste0 v_units v_values v_names post K14 hK14 hK y3 y4 t0 u_this_at u_this_begin u_this_words u_values u_names _ _ h hP hD hS ls (lv_sub hl [1, 2, 3, 4, 5, 0] rfl)
    · intro c3
      replace h := h.2 c3
      refine lv_iconst (v := 0) hx hb dM_take_86 (by decide) ?_
      exact W.zret (v := 0) hx hb hr rfl (fun t ht hW => ⟨⟨0, (u_this_at, u_this_begin, u_this_words, u_values, u_names), rfl, h, by rw [ht]; exact hP, hD⟩, hS.F ht⟩) hS.2.2 dM_take_87
  · intro c1
    replace h := h.2 c1
    refine lv_lload hx hb dM_take_67 (lv_at hl 0 rfl) ?_
    refine lv_lconst (v := 0) hx hb dM_take_69 (by decide) ?_
    refine zz_lcmp_ge (tgt := 88) hx hb dM_take_70 dM_take_71 (by decide) ?_ ?_
    · intro c4
      replace h := h.1 c4
      exact w_M_take_88 l C0 hE a_this a_units a_kinds a_values a_names a_low a_high a_told a_leftOut a_isMade a_hands a_pad a_court a_title a_out k_units k_values k_names p1 p2 v_this_thrown v_this_size v_this_families v_this_atHand v_this_family v_this_density v_this_pads v_this_hasThermal v_this_titleSize v_this_written v_this_at v_this_begin v_this_words v_this_paste0 v_units v_values v_names post K14 hK14 hK y3 y4 t0 u_this_at u_this_begin u_this_words u_values u_names _ _ h hP hD hS ls (lv_sub hl [1, 2, 3, 4, 5, 0] rfl)
    · intro c4
      replace h := h.2 c4
      refine lv_goto (tgt := 86) hx hb dM_take_74 (by decide) ?_
      refine lv_iconst (v := 0) hx hb dM_take_86 (by decide) ?_
      exact W.zret (v := 0) hx hb hr rfl (fun t ht hW => ⟨⟨0, (u_this_at, u_this_begin, u_this_words, u_values, u_names), rfl, h, by rw [ht]; exact hP, hD⟩, hS.F ht⟩) hS.2.2 dM_take_87
def P_M_take_14 (p1 : Int32) (p2 : Int32) (v_this_size : Int32) (v_units : Nat → Int32) (post : Int32 → Int32 → Int32 → Int32 → (Nat → Int64) → (Nat → Int64) → Prop) : Nat → Int32 → Int32 → Int32 → Int32 → Int32 → (Nat → Int64) → (Nat → Int64) → Prop
  | 0, _, _, _, _, _, _, _ => False
  | n + 1, y3, y4, u_this_at, u_this_begin, u_this_words, u_values, u_names => ((y3 ≤ y4 → post 1 u_this_at u_this_begin u_this_words u_values u_names) ∧ (¬ y3 ≤ y4 → P_M_next v_this_size u_this_at u_this_words v_units (fun (r5 : Int32) (u2 : Int32) (u3 : Int32) (u4 : Int32) => ((¬ r5 = 0 → ((¬ p2 = 10 → P_M_number u2 u3 v_units (fun (r8 : Int64) => P_M_take_59 p1 p2 post (P_M_take_14 p1 p2 v_this_size v_units post n) y3 y4 r8 u2 u3 u4 u_values u_names)) ∧ (p2 = 10 → P_M_letters 65 4 u2 u3 v_units (fun (r9 : Int64) => P_M_take_59 p1 p2 post (P_M_take_14 p1 p2 v_this_size v_units post n) y3 y4 r9 u2 u3 u4 u_values u_names)))) ∧ (r5 = 0 → ∀ x10 : Int32, x10 = u4 + 1 → post 0 u2 u3 x10 u_values u_names)))))
set_option maxHeartbeats 4000000 in
set_option maxRecDepth 100000 in
theorem w_M_take_14 (l : Launch) {p : Program} {e : Env} {s : State} {m : MethodId} {args : Array Value} {below : List Frame} {meth : Method} {c : Code} {dC : Nat → ClassId} {dI : Nat → Nat → Nat} {ad : Nat → Nat → Nat} {A : Nat → Prop} (C0 : zC p s m args meth c cM_take 7 RM zT (some .boolean) A) (hE : zE ad A s) (a_this : Nat) (a_units : Nat) (a_kinds : Nat) (a_values : Nat) (a_names : Nat) (a_low : Nat) (a_high : Nat) (a_told : Nat) (a_leftOut : Nat) (a_isMade : Nat) (a_hands : Nat) (a_pad : Nat) (a_court : Nat) (a_title : Nat) (a_out : Nat) (k_units : ClassId) (k_values : ClassId) (k_names : ClassId) (p1 : Int32) (p2 : Int32) (v_this_thrown : Int32) (v_this_size : Int32) (v_this_families : Int32) (v_this_atHand : Int32) (v_this_family : Int32) (v_this_density : Int32) (v_this_pads : Int32) (v_this_hasThermal : Int32) (v_this_titleSize : Int32) (v_this_written : Int32) (v_this_at : Int32) (v_this_begin : Int32) (v_this_words : Int32) (v_this_paste0 : Int64) (v_units : Nat → Int32) (v_values : Nat → Int64) (v_names : Nat → Int64) (post : Int32 → Int32 → Int32 → Int32 → (Nat → Int64) → (Nat → Int64) → Prop) (hK : va_K (dC, dI) vwCl [(k_units, .int), (k_values, .long), (k_names, .long)] s) : ∀ (n : Nat), ∀ (y3 : Int32) (y4 : Int32) (u_this_at : Int32) (u_this_begin : Int32) (u_this_words : Int32) (u_values : Nat → Int64) (u_names : Nat → Int64) (H : Heap) (locs : List Loc), P_M_take_14 p1 p2 v_this_size v_units post n y3 y4 u_this_at u_this_begin u_this_words u_values u_names → va_P (dC, dI) vwCl (w_M_take ad a_this a_units a_kinds a_values a_names a_low a_high a_told a_leftOut a_isMade a_hands a_pad a_court a_title a_out k_units k_values k_names v_this_thrown v_this_size v_this_families v_this_atHand v_this_family v_this_density v_this_pads v_this_hasThermal v_this_titleSize v_this_written u_this_at u_this_begin u_this_words v_this_paste0 v_units u_values u_names) H → va_D A (w_M_take ad a_this a_units a_kinds a_values a_names a_low a_high a_told a_leftOut a_isMade a_hands a_pad a_court a_title a_out k_units k_values k_names v_this_thrown v_this_size v_this_families v_this_atHand v_this_family v_this_density v_this_pads v_this_hasThermal v_this_titleSize v_this_written u_this_at u_this_begin u_this_words v_this_paste0 v_units u_values u_names) → va_S A s.heap H locs → ∀ ls : Array Slot, lv_has ls 7 [(0, .ref a_this), (1, .int p1), (2, .int p2), (3, .int y3), (4, .int y4)] → W p l e (headSpec wsM_take { frames := 2, cells := 0, slots := 0, locals := 41 }).room s m args below meth c H locs 0 0 (MQ below (va_Qi (fun (r : Int32) (u : Int32 × Int32 × Int32 × (Nat → Int64) × (Nat → Int64)) => post r u.1 u.2.1 u.2.2.1 u.2.2.2.1 u.2.2.2.2) (zB (dC, dI) A (fun (u : Int32 × Int32 × Int32 × (Nat → Int64) × (Nat → Int64)) => (w_M_take ad a_this a_units a_kinds a_values a_names a_low a_high a_told a_leftOut a_isMade a_hands a_pad a_court a_title a_out k_units k_values k_names v_this_thrown v_this_size v_this_families v_this_atHand v_this_family v_this_density v_this_pads v_this_hasThermal v_this_titleSize v_this_written u.1 u.2.1 u.2.2.1 v_this_paste0 v_units u.2.2.2.1 u.2.2.2.2))) A) args s 0 0 A) (F0 m 14 ls []) := by
  obtain ⟨hx, hb, hr, hml, hown, hts, hlocks, hA⟩ := id C0
  intro n
  induction n with
  | zero =>
    intro y3 y4 u_this_at u_this_begin u_this_words u_values u_names H locs h
    exact False.elim h
  | succ n ih =>
    intro y3 y4 u_this_at u_this_begin u_this_words u_values u_names H locs h hP hD hS ls hl
    rw [P_M_take_14] at h
    refine lv_iload hx hb dM_take_14 (lv_at hl 4 rfl) ?_
    refine lv_iload_n hx hb dM_take_16 rfl (lv_at hl 3 rfl) ?_
    refine lv_icmp_ge (tgt := 129) hx hb dM_take_17 (by decide) ?_ ?_
    · intro c1
      replace h := h.1 c1
      refine lv_iconst (v := 1) hx hb dM_take_129 (by decide) ?_
      exact W.zret (v := 1) hx hb hr rfl (fun t ht hW => ⟨⟨1, (u_this_at, u_this_begin, u_this_words, u_values, u_names), rfl, h, by rw [ht]; exact hP, hD⟩, hS.F ht⟩) hS.2.2 dM_take_130
    · intro c1
      replace h := h.2 c1
      refine lv_aload_n hx hb dM_take_20 rfl (lv_at hl 0 rfl) ?_
      refine zcall_i hP hD hS hA [0, 1] [2, 3] (va_runV (As := []) (rest := []) ⟨hx, hb, hml, hown, hts⟩ (c_M_next l dC dI ad a_this a_units a_kinds a_values a_names a_low a_high a_told a_leftOut a_isMade a_hands a_pad a_court a_title a_out k_units _ v_this_thrown v_this_size v_this_families v_this_atHand v_this_family v_this_density v_this_pads v_this_hasThermal v_this_titleSize v_this_written u_this_at u_this_begin u_this_words v_this_paste0 v_units _ h) ⟨callB_of 0 hts (zgood zc_M_next) rfl rfl rfl (hts _ zw_107) (hts _ zw_1141) (by decide +kernel) ⟨Nat.le_of_ble_eq_true rfl, Nat.le_of_ble_eq_true rfl⟩, (hts _ zw_1143), (hts _ zw_69)⟩ (zpreV hE hK hP hD hS hA [0, 1] [0] (by rfl) (by rfl) (by decide) (ci := 10) (q0 := 0) rfl (by rfl)) rfl rfl hl.1 rfl (lv_room (Nat.le_of_ble_eq_true rfl)) dM_take_21 ⟨Nat.le_of_ble_eq_true rfl, Nat.le_of_ble_eq_true rfl⟩) (by rfl) (by rfl) (by decide) (by decide) (fun r5 u H locs h hP hD hS => ?_)
      obtain ⟨u2, u3, u4⟩ := u
      try dsimp only at h
      have hP := hP.sub (ws' := (w_M_take ad a_this a_units a_kinds a_values a_names a_low a_high a_told a_leftOut a_isMade a_hands a_pad a_court a_title a_out k_units k_values k_names v_this_thrown v_this_size v_this_families v_this_atHand v_this_family v_this_density v_this_pads v_this_hasThermal v_this_titleSize v_this_written u2 u3 u4 v_this_paste0 v_units u_values u_names)) [2, 3, 0, 1] rfl
      have hD := hD.sub (ws' := (w_M_take ad a_this a_units a_kinds a_values a_names a_low a_high a_told a_leftOut a_isMade a_hands a_pad a_court a_title a_out k_units k_values k_names v_this_thrown v_this_size v_this_families v_this_atHand v_this_family v_this_density v_this_pads v_this_hasThermal v_this_titleSize v_this_written u2 u3 u4 v_this_paste0 v_units u_values u_names)) [2, 3, 0, 1] (by decide) rfl
      refine lv_if_ne (tgt := 39) hx hb dM_take_24 (by decide) ?_ ?_
      · intro c6
        replace h := h.1 c6
        refine lv_iload_n hx hb dM_take_39 rfl (lv_at hl 2 rfl) ?_
        refine lv_bipush (v := 10) hx hb dM_take_40 (by decide) ?_
        refine lv_icmp_ne (tgt := 55) hx hb dM_take_42 (by decide) ?_ ?_
        · intro c7
          replace h := h.1 c7
          refine lv_aload_n hx hb dM_take_55 rfl (lv_at hl 0 rfl) ?_
          refine zcall_l hP hD hS hA [0, 1] [2, 3] (va_runV (As := []) (rest := []) ⟨hx, hb, hml, hown, hts⟩ (c_M_number l dC dI ad a_this a_units a_kinds a_values a_names a_low a_high a_told a_leftOut a_isMade a_hands a_pad a_court a_title a_out k_units _ v_this_thrown v_this_size v_this_families v_this_atHand v_this_family v_this_density v_this_pads v_this_hasThermal v_this_titleSize v_this_written u2 u3 u4 v_this_paste0 v_units _ h) ⟨callB_of 0 hts (zgood zc_M_number) rfl rfl rfl (hts _ zw_107) (hts _ zw_1168) (by decide +kernel) ⟨Nat.le_of_ble_eq_true rfl, Nat.le_of_ble_eq_true rfl⟩, (hts _ zw_1170), (hts _ zw_73)⟩ (zpreV hE hK hP hD hS hA [0, 1] [0] (by rfl) (by rfl) (by decide) (ci := 10) (q0 := 0) rfl (by rfl)) rfl rfl hl.1 rfl (lv_room (Nat.le_of_ble_eq_true rfl)) dM_take_56 ⟨Nat.le_of_ble_eq_true rfl, Nat.le_of_ble_eq_true rfl⟩) (by rfl) (by rfl) (by decide) (by decide) (fun r8 u H locs h hP hD hS => ?_)
          try dsimp only at h
          have hP := hP.sub (ws' := (w_M_take ad a_this a_units a_kinds a_values a_names a_low a_high a_told a_leftOut a_isMade a_hands a_pad a_court a_title a_out k_units k_values k_names v_this_thrown v_this_size v_this_families v_this_atHand v_this_family v_this_density v_this_pads v_this_hasThermal v_this_titleSize v_this_written u2 u3 u4 v_this_paste0 v_units u_values u_names)) [2, 3, 0, 1] rfl
          have hD := hD.sub (ws' := (w_M_take ad a_this a_units a_kinds a_values a_names a_low a_high a_told a_leftOut a_isMade a_hands a_pad a_court a_title a_out k_units k_values k_names v_this_thrown v_this_size v_this_families v_this_atHand v_this_family v_this_density v_this_pads v_this_hasThermal v_this_titleSize v_this_written u2 u3 u4 v_this_paste0 v_units u_values u_names)) [2, 3, 0, 1] (by decide) rfl
          exact w_M_take_59 l C0 hE a_this a_units a_kinds a_values a_names a_low a_high a_told a_leftOut a_isMade a_hands a_pad a_court a_title a_out k_units k_values k_names p1 p2 v_this_thrown v_this_size v_this_families v_this_atHand v_this_family v_this_density v_this_pads v_this_hasThermal v_this_titleSize v_this_written v_this_at v_this_begin v_this_words v_this_paste0 v_units v_values v_names post (P_M_take_14 p1 p2 v_this_size v_units post n) ih hK y3 y4 r8 u2 u3 u4 u_values u_names _ _ h hP hD hS ls (lv_sub hl [0, 1, 2, 3, 4] rfl)
        · intro c7
          replace h := h.2 c7
          refine lv_aload_n hx hb dM_take_45 rfl (lv_at hl 0 rfl) ?_
          refine lv_bipush (v := 65) hx hb dM_take_46 (by decide) ?_
          refine lv_iconst (v := 4) hx hb dM_take_48 (by decide) ?_
          refine zcall_l hP hD hS hA [0, 1] [2, 3] (va_runV (As := [.int 65, .int 4]) (rest := []) ⟨hx, hb, hml, hown, hts⟩ (c_M_letters l dC dI ad a_this a_units a_kinds a_values a_names a_low a_high a_told a_leftOut a_isMade a_hands a_pad a_court a_title a_out k_units _ 65 4 v_this_thrown v_this_size v_this_families v_this_atHand v_this_family v_this_density v_this_pads v_this_hasThermal v_this_titleSize v_this_written u2 u3 u4 v_this_paste0 v_units _ h) ⟨callB_of 2 hts (zgood zc_M_letters) rfl rfl rfl (hts _ zw_107) (hts _ zw_1149) (by decide +kernel) ⟨Nat.le_of_ble_eq_true rfl, Nat.le_of_ble_eq_true rfl⟩, (hts _ zw_1151), (hts _ zw_71)⟩ (zpreV hE hK hP hD hS hA [0, 1] [0] (by rfl) (by rfl) (by decide) (ci := 10) (q0 := 0) rfl (by rfl)) rfl rfl hl.1 rfl (lv_room (Nat.le_of_ble_eq_true rfl)) dM_take_49 ⟨Nat.le_of_ble_eq_true rfl, Nat.le_of_ble_eq_true rfl⟩) (by rfl) (by rfl) (by decide) (by decide) (fun r9 u H locs h hP hD hS => ?_)
          try dsimp only at h
          have hP := hP.sub (ws' := (w_M_take ad a_this a_units a_kinds a_values a_names a_low a_high a_told a_leftOut a_isMade a_hands a_pad a_court a_title a_out k_units k_values k_names v_this_thrown v_this_size v_this_families v_this_atHand v_this_family v_this_density v_this_pads v_this_hasThermal v_this_titleSize v_this_written u2 u3 u4 v_this_paste0 v_units u_values u_names)) [2, 3, 0, 1] rfl
          have hD := hD.sub (ws' := (w_M_take ad a_this a_units a_kinds a_values a_names a_low a_high a_told a_leftOut a_isMade a_hands a_pad a_court a_title a_out k_units k_values k_names v_this_thrown v_this_size v_this_families v_this_atHand v_this_family v_this_density v_this_pads v_this_hasThermal v_this_titleSize v_this_written u2 u3 u4 v_this_paste0 v_units u_values u_names)) [2, 3, 0, 1] (by decide) rfl
          refine lv_goto (tgt := 59) hx hb dM_take_52 (by decide) ?_
          exact w_M_take_59 l C0 hE a_this a_units a_kinds a_values a_names a_low a_high a_told a_leftOut a_isMade a_hands a_pad a_court a_title a_out k_units k_values k_names p1 p2 v_this_thrown v_this_size v_this_families v_this_atHand v_this_family v_this_density v_this_pads v_this_hasThermal v_this_titleSize v_this_written v_this_at v_this_begin v_this_words v_this_paste0 v_units v_values v_names post (P_M_take_14 p1 p2 v_this_size v_units post n) ih hK y3 y4 r9 u2 u3 u4 u_values u_names _ _ h hP hD hS ls (lv_sub hl [0, 1, 2, 3, 4] rfl)
      · intro c6
        replace h := h.2 c6
        refine lv_aload_n hx hb dM_take_27 rfl (lv_at hl 0 rfl) ?_
        refine lv_dup hx hb dM_take_28 rfl ?_
        refine va_get (D := (dC, dI)) (ci := 10) (v := .int u4) (C := RM) (T := TM) (N := 28) hx hb hts inZ_M hown hK hP 0 rfl rfl 26 (by decide) (hts _ zw_1070) (fun _ h9 => h9) rfl dM_take_29 ?_
        refine lv_iconst (v := 1) hx hb dM_take_32 (by decide) ?_
        refine lv_iadd hx hb dM_take_33 ?_
        refine lv_topi (fun x10 ex10 => ?_)
        replace h := h x10 ex10
        refine va_put (D := (dC, dI)) (ci := 10) (v := .int x10) (ty := .int) (C := RM) (T := TM) (N := 28) hx hb hts inZ_M tyM tyM_ok nmM hown hK hP hD hS 0 rfl rfl 26 (by decide) (hts _ zw_1070) (fun _ h9 => h9) rfl (by decide +kernel) rfl rfl (Nat.le_of_ble_eq_true rfl) dM_take_34 (fun H locs hP hD hS => ?_)
        have hP : va_P (dC, dI) vwCl (w_M_take ad a_this a_units a_kinds a_values a_names a_low a_high a_told a_leftOut a_isMade a_hands a_pad a_court a_title a_out k_units k_values k_names v_this_thrown v_this_size v_this_families v_this_atHand v_this_family v_this_density v_this_pads v_this_hasThermal v_this_titleSize v_this_written u2 u3 x10 v_this_paste0 v_units u_values u_names) H := hP
        have hD : va_D A (w_M_take ad a_this a_units a_kinds a_values a_names a_low a_high a_told a_leftOut a_isMade a_hands a_pad a_court a_title a_out k_units k_values k_names v_this_thrown v_this_size v_this_families v_this_atHand v_this_family v_this_density v_this_pads v_this_hasThermal v_this_titleSize v_this_written u2 u3 x10 v_this_paste0 v_units u_values u_names) := hD
        refine lv_iconst (v := 0) hx hb dM_take_37 (by decide) ?_
        exact W.zret (v := 0) hx hb hr rfl (fun t ht hW => ⟨⟨0, (u2, u3, x10, u_values, u_names), rfl, h, by rw [ht]; exact hP, hD⟩, hS.F ht⟩) hS.2.2 dM_take_38
def P_M_take_10 (p1 : Int32) (p2 : Int32) (v_this_size : Int32) (v_this_at : Int32) (v_this_begin : Int32) (v_this_words : Int32) (v_units : Nat → Int32) (v_values : Nat → Int64) (v_names : Nat → Int64) (post : Int32 → Int32 → Int32 → Int32 → (Nat → Int64) → (Nat → Int64) → Prop) (t0 : Int32) : Prop := ∃ n1, P_M_take_14 p1 p2 v_this_size v_units post n1 t0 0 v_this_at v_this_begin v_this_words v_values v_names
set_option maxHeartbeats 4000000 in
set_option maxRecDepth 100000 in
theorem w_M_take_10 (l : Launch) {p : Program} {e : Env} {s : State} {m : MethodId} {args : Array Value} {below : List Frame} {meth : Method} {c : Code} {dC : Nat → ClassId} {dI : Nat → Nat → Nat} {ad : Nat → Nat → Nat} {A : Nat → Prop} (C0 : zC p s m args meth c cM_take 7 RM zT (some .boolean) A) (hE : zE ad A s) (a_this : Nat) (a_units : Nat) (a_kinds : Nat) (a_values : Nat) (a_names : Nat) (a_low : Nat) (a_high : Nat) (a_told : Nat) (a_leftOut : Nat) (a_isMade : Nat) (a_hands : Nat) (a_pad : Nat) (a_court : Nat) (a_title : Nat) (a_out : Nat) (k_units : ClassId) (k_values : ClassId) (k_names : ClassId) (p1 : Int32) (p2 : Int32) (v_this_thrown : Int32) (v_this_size : Int32) (v_this_families : Int32) (v_this_atHand : Int32) (v_this_family : Int32) (v_this_density : Int32) (v_this_pads : Int32) (v_this_hasThermal : Int32) (v_this_titleSize : Int32) (v_this_written : Int32) (v_this_at : Int32) (v_this_begin : Int32) (v_this_words : Int32) (v_this_paste0 : Int64) (v_units : Nat → Int32) (v_values : Nat → Int64) (v_names : Nat → Int64) (post : Int32 → Int32 → Int32 → Int32 → (Nat → Int64) → (Nat → Int64) → Prop) (hK : va_K (dC, dI) vwCl [(k_units, .int), (k_values, .long), (k_names, .long)] s) : ∀ (t0 : Int32) (H : Heap) (locs : List Loc), P_M_take_10 p1 p2 v_this_size v_this_at v_this_begin v_this_words v_units v_values v_names post t0 → va_P (dC, dI) vwCl (w_M_take ad a_this a_units a_kinds a_values a_names a_low a_high a_told a_leftOut a_isMade a_hands a_pad a_court a_title a_out k_units k_values k_names v_this_thrown v_this_size v_this_families v_this_atHand v_this_family v_this_density v_this_pads v_this_hasThermal v_this_titleSize v_this_written v_this_at v_this_begin v_this_words v_this_paste0 v_units v_values v_names) H → va_D A (w_M_take ad a_this a_units a_kinds a_values a_names a_low a_high a_told a_leftOut a_isMade a_hands a_pad a_court a_title a_out k_units k_values k_names v_this_thrown v_this_size v_this_families v_this_atHand v_this_family v_this_density v_this_pads v_this_hasThermal v_this_titleSize v_this_written v_this_at v_this_begin v_this_words v_this_paste0 v_units v_values v_names) → va_S A s.heap H locs → ∀ ls : Array Slot, lv_has ls 7 [(0, .ref a_this), (1, .int p1), (2, .int p2)] → W p l e (headSpec wsM_take { frames := 2, cells := 0, slots := 0, locals := 41 }).room s m args below meth c H locs 0 0 (MQ below (va_Qi (fun (r : Int32) (u : Int32 × Int32 × Int32 × (Nat → Int64) × (Nat → Int64)) => post r u.1 u.2.1 u.2.2.1 u.2.2.2.1 u.2.2.2.2) (zB (dC, dI) A (fun (u : Int32 × Int32 × Int32 × (Nat → Int64) × (Nat → Int64)) => (w_M_take ad a_this a_units a_kinds a_values a_names a_low a_high a_told a_leftOut a_isMade a_hands a_pad a_court a_title a_out k_units k_values k_names v_this_thrown v_this_size v_this_families v_this_atHand v_this_family v_this_density v_this_pads v_this_hasThermal v_this_titleSize v_this_written u.1 u.2.1 u.2.2.1 v_this_paste0 v_units u.2.2.2.1 u.2.2.2.2))) A) args s 0 0 A) (F0 m 10 ls [.int t0]) := by
  obtain ⟨hx, hb, hr, hml, hown, hts, hlocks, hA⟩ := id C0
  intro t0 H locs h hP hD hS ls hl
  unfold P_M_take_10 at h
  refine lv_istore_n (lv' := [(3, .int t0), (0, .ref a_this), (1, .int p1), (2, .int p2)]) hx hb dM_take_10 rfl hl (by decide) rfl (fun ls hl => ?_)
  refine lv_iconst (v := 0) hx hb dM_take_11 (by decide) ?_
  refine lv_istore (lv' := [(4, .int 0), (3, .int t0), (0, .ref a_this), (1, .int p1), (2, .int p2)]) hx hb dM_take_12 hl (by decide) rfl (fun ls hl => ?_)
  obtain ⟨n1, h⟩ := h
  exact w_M_take_14 l C0 hE a_this a_units a_kinds a_values a_names a_low a_high a_told a_leftOut a_isMade a_hands a_pad a_court a_title a_out k_units k_values k_names p1 p2 v_this_thrown v_this_size v_this_families v_this_atHand v_this_family v_this_density v_this_pads v_this_hasThermal v_this_titleSize v_this_written v_this_at v_this_begin v_this_words v_this_paste0 v_units v_values v_names post hK n1 t0 0 v_this_at v_this_begin v_this_words v_values v_names _ _ h hP hD hS ls (lv_sub hl [2, 3, 4, 1, 0] rfl)
def P_M_take (p1 : Int32) (p2 : Int32) (v_this_size : Int32) (v_this_at : Int32) (v_this_begin : Int32) (v_this_words : Int32) (v_units : Nat → Int32) (v_values : Nat → Int64) (v_names : Nat → Int64) (post : Int32 → Int32 → Int32 → Int32 → (Nat → Int64) → (Nat → Int64) → Prop) : Prop := ((4 ≤ p2 → P_M_take_10 p1 p2 v_this_size v_this_at v_this_begin v_this_words v_units v_values v_names post 1) ∧ (¬ 4 ≤ p2 → P_M_take_10 p1 p2 v_this_size v_this_at v_this_begin v_this_words v_units v_values v_names post 3))
set_option maxHeartbeats 4000000 in
set_option maxRecDepth 100000 in
theorem c_M_take (l : Launch) (dC : Nat → ClassId) (dI : Nat → Nat → Nat) (ad : Nat → Nat → Nat) (a_this : Nat) (a_units : Nat) (a_kinds : Nat) (a_values : Nat) (a_names : Nat) (a_low : Nat) (a_high : Nat) (a_told : Nat) (a_leftOut : Nat) (a_isMade : Nat) (a_hands : Nat) (a_pad : Nat) (a_court : Nat) (a_title : Nat) (a_out : Nat) (k_units : ClassId) (k_values : ClassId) (k_names : ClassId) (sz : Nat) (p1 : Int32) (p2 : Int32) (v_this_thrown : Int32) (v_this_size : Int32) (v_this_families : Int32) (v_this_atHand : Int32) (v_this_family : Int32) (v_this_density : Int32) (v_this_pads : Int32) (v_this_hasThermal : Int32) (v_this_titleSize : Int32) (v_this_written : Int32) (v_this_at : Int32) (v_this_begin : Int32) (v_this_words : Int32) (v_this_paste0 : Int64) (v_units : Nat → Int32) (v_values : Nat → Int64) (v_names : Nat → Int64) (post : Int32 → Int32 → Int32 → Int32 → (Nat → Int64) → (Nat → Int64) → Prop) (h : P_M_take p1 p2 v_this_size v_this_at v_this_begin v_this_words v_units v_values v_names post) : zMi l yM_take wsM_take { frames := 2, cells := 0, slots := 0, locals := 41 } (dC, dI) ad [.ref a_this, .int p1, .int p2] (w_M_take ad a_this a_units a_kinds a_values a_names a_low a_high a_told a_leftOut a_isMade a_hands a_pad a_court a_title a_out k_units k_values k_names v_this_thrown v_this_size v_this_families v_this_atHand v_this_family v_this_density v_this_pads v_this_hasThermal v_this_titleSize v_this_written v_this_at v_this_begin v_this_words v_this_paste0 v_units v_values v_names) [(k_units, .int), (k_values, .long), (k_names, .long)] sz (fun (r : Int32) (u : Int32 × Int32 × Int32 × (Nat → Int64) × (Nat → Int64)) => post r u.1 u.2.1 u.2.2.1 u.2.2.2.1 u.2.2.2.2) (fun (u : Int32 × Int32 × Int32 × (Nat → Int64) × (Nat → Int64)) => (w_M_take ad a_this a_units a_kinds a_values a_names a_low a_high a_told a_leftOut a_isMade a_hands a_pad a_court a_title a_out k_units k_values k_names v_this_thrown v_this_size v_this_families v_this_atHand v_this_family v_this_density v_this_pads v_this_hasThermal v_this_titleSize v_this_written u.1 u.2.1 u.2.2.1 v_this_paste0 v_units u.2.2.2.1 u.2.2.2.2)) 0 0 := by
  refine Met.ofW (cc := cM_take) (maxL := 7) (ret := (some .boolean)) (by decide +kernel) rfl ?_
  intro p e s m args below meth c s₁ B hml hv
  obtain ⟨rfl, hsz, hP, hK, hD0, hE⟩ := hv
  have hx := B.exec
  have hb := B.bytes
  have hr := B.returns
  have hts0 := atoms_spec (ws := wsM_take) B.pre
  have hts := fun w h => hts0 w (List.mem_cons_of_mem _ h)
  have hown : s.vm.findClass RM = some m.cls := findClass_of_methodNamed B.named
  have hlocks := B.notSynchronized
  subst hsz
  have hD := hD0.self (sz := s.heap.size)
  generalize hAe : va_A (w_M_take ad a_this a_units a_kinds a_values a_names a_low a_high a_told a_leftOut a_isMade a_hands a_pad a_court a_title a_out k_units k_values k_names v_this_thrown v_this_size v_this_families v_this_atHand v_this_family v_this_density v_this_pads v_this_hasThermal v_this_titleSize v_this_written v_this_at v_this_begin v_this_words v_this_paste0 v_units v_values v_names) s.heap.size = A at hD hE ⊢
  have hA : ∀ q : Nat, s.heap.size ≤ q → A q := fun q h => by rw [← hAe]; exact Or.inr h
  have C0 := zC.mk hx hb hr hml hown hts hlocks hA
  have hS : va_S A s.heap s.heap [] := va_S.rf
  have hl := lv_entry ([.ref a_this, .int p1, .int p2]) (n := 7) (Nat.le_of_ble_eq_true rfl)
  rw [lg_entry_eq]
  generalize (lg_sl ([.ref a_this, .int p1, .int p2]) ++ List.replicate (7 - (lg_sl ([.ref a_this, .int p1, .int p2])).length) Slot.unset).toArray = ls at hl ⊢
  have hl : lv_has ls 7 [(0, .ref a_this), (1, .int p1), (2, .int p2)] := hl
  unfold P_M_take at h
  refine lv_iload_n hx hb dM_take_0 rfl (lv_at hl 2 rfl) ?_
  refine lv_iconst (v := 4) hx hb dM_take_1 (by decide) ?_
  refine lv_icmp_ge (tgt := 9) hx hb dM_take_2 (by decide) ?_ ?_
  · intro c1
    replace h := h.1 c1
    refine lv_iconst (v := 1) hx hb dM_take_9 (by decide) ?_
    exact w_M_take_10 l C0 hE a_this a_units a_kinds a_values a_names a_low a_high a_told a_leftOut a_isMade a_hands a_pad a_court a_title a_out k_units k_values k_names p1 p2 v_this_thrown v_this_size v_this_families v_this_atHand v_this_family v_this_density v_this_pads v_this_hasThermal v_this_titleSize v_this_written v_this_at v_this_begin v_this_words v_this_paste0 v_units v_values v_names post hK 1 _ _ h hP hD hS ls (lv_sub hl [0, 1, 2] rfl)
  · intro c1
    replace h := h.2 c1
    refine lv_iconst (v := 3) hx hb dM_take_5 (by decide) ?_
    refine lv_goto (tgt := 10) hx hb dM_take_6 (by decide) ?_
    exact w_M_take_10 l C0 hE a_this a_units a_kinds a_values a_names a_low a_high a_told a_leftOut a_isMade a_hands a_pad a_court a_title a_out k_units k_values k_names p1 p2 v_this_thrown v_this_size v_this_families v_this_atHand v_this_family v_this_density v_this_pads v_this_hasThermal v_this_titleSize v_this_written v_this_at v_this_begin v_this_words v_this_paste0 v_units v_values v_names post hK 3 _ _ h hP hD hS ls (lv_sub hl [0, 1, 2] rfl)
