abbrev yHm_differences : MethodName := ⟨"FootprintRules$HandMade", "differences", "(LFootprintRules$Footprint;)I"⟩
abbrev cHm_differences : ByteArray := prog_6_method_4_code
abbrev wsHm_differences : List Cond := .code yHm_differences cHm_differences 8 (some .int) :: zT
set_option maxRecDepth 100000 in
theorem zc_Hm_differences : Cond.code yHm_differences cHm_differences 8 (some .int) ∈ zT := zm 1005 (by rfl) (by rfl)
theorem dHm_differences_0 : decode cHm_differences 0 = .ok (.iconst 0, 1) := by decide +kernel
theorem dHm_differences_1 : decode cHm_differences 1 = .ok (.istore_n 2, 1) := by decide +kernel
theorem dHm_differences_2 : decode cHm_differences 2 = .ok (.iconst 0, 1) := by decide +kernel
theorem dHm_differences_3 : decode cHm_differences 3 = .ok (.istore_n 3, 1) := by decide +kernel
theorem dHm_differences_4 : decode cHm_differences 4 = .ok (.iconst 0, 1) := by decide +kernel
theorem dHm_differences_5 : decode cHm_differences 5 = .ok (.istore 4, 2) := by decide +kernel
theorem dHm_differences_7 : decode cHm_differences 7 = .ok (.iload 4, 2) := by decide +kernel
theorem dHm_differences_9 : decode cHm_differences 9 = .ok (.aload_n 1, 1) := by decide +kernel
theorem dHm_differences_10 : decode cHm_differences 10 = .ok (.getfield 23, 3) := by decide +kernel
theorem dHm_differences_13 : decode cHm_differences 13 = .ok (.if_icmp .ge 81, 3) := by decide +kernel
theorem dHm_differences_16 : decode cHm_differences 16 = .ok (.aload_n 1, 1) := by decide +kernel
theorem dHm_differences_17 : decode cHm_differences 17 = .ok (.iload 4, 2) := by decide +kernel
theorem dHm_differences_19 : decode cHm_differences 19 = .ok (.iconst 0, 1) := by decide +kernel
theorem dHm_differences_20 : decode cHm_differences 20 = .ok (.invokevirtual 26, 3) := by decide +kernel
theorem dHm_differences_23 : decode cHm_differences 23 = .ok (.lstore 5, 2) := by decide +kernel
theorem dHm_differences_25 : decode cHm_differences 25 = .ok (.lload 5, 2) := by decide +kernel
theorem dHm_differences_27 : decode cHm_differences 27 = .ok (.lconst 1, 1) := by decide +kernel
theorem dHm_differences_28 : decode cHm_differences 28 = .ok (.lcmp, 1) := by decide +kernel
theorem dHm_differences_29 : decode cHm_differences 29 = .ok (.ifCond .lt 27, 3) := by decide +kernel
theorem dHm_differences_32 : decode cHm_differences 32 = .ok (.lload 5, 2) := by decide +kernel
theorem dHm_differences_34 : decode cHm_differences 34 = .ok (.ldc2_w 30, 3) := by decide +kernel
theorem dHm_differences_37 : decode cHm_differences 37 = .ok (.lcmp, 1) := by decide +kernel
theorem dHm_differences_38 : decode cHm_differences 38 = .ok (.ifCond .gt 18, 3) := by decide +kernel
theorem dHm_differences_41 : decode cHm_differences 41 = .ok (.aload_n 0, 1) := by decide +kernel
theorem dHm_differences_42 : decode cHm_differences 42 = .ok (.getfield 9, 3) := by decide +kernel
theorem dHm_differences_45 : decode cHm_differences 45 = .ok (.lload 5, 2) := by decide +kernel
theorem dHm_differences_47 : decode cHm_differences 47 = .ok (.l2i, 1) := by decide +kernel
theorem dHm_differences_48 : decode cHm_differences 48 = .ok (.baload, 1) := by decide +kernel
theorem dHm_differences_49 : decode cHm_differences 49 = .ok (.ifCond .eq 7, 3) := by decide +kernel
theorem dHm_differences_52 : decode cHm_differences 52 = .ok (.iconst 1, 1) := by decide +kernel
theorem dHm_differences_53 : decode cHm_differences 53 = .ok (.goto 4, 3) := by decide +kernel
theorem dHm_differences_56 : decode cHm_differences 56 = .ok (.iconst 0, 1) := by decide +kernel
theorem dHm_differences_57 : decode cHm_differences 57 = .ok (.istore 7, 2) := by decide +kernel
theorem dHm_differences_59 : decode cHm_differences 59 = .ok (.iload 7, 2) := by decide +kernel
theorem dHm_differences_61 : decode cHm_differences 61 = .ok (.ifCond .eq 6, 3) := by decide +kernel
theorem dHm_differences_64 : decode cHm_differences 64 = .ok (.iinc 3 1, 3) := by decide +kernel
theorem dHm_differences_67 : decode cHm_differences 67 = .ok (.iload 7, 2) := by decide +kernel
theorem dHm_differences_69 : decode cHm_differences 69 = .ok (.ifCond .eq 16, 3) := by decide +kernel
theorem dHm_differences_72 : decode cHm_differences 72 = .ok (.aload_n 0, 1) := by decide +kernel
theorem dHm_differences_73 : decode cHm_differences 73 = .ok (.lload 5, 2) := by decide +kernel
theorem dHm_differences_75 : decode cHm_differences 75 = .ok (.l2i, 1) := by decide +kernel
theorem dHm_differences_76 : decode cHm_differences 76 = .ok (.aload_n 1, 1) := by decide +kernel
theorem dHm_differences_77 : decode cHm_differences 77 = .ok (.iload 4, 2) := by decide +kernel
theorem dHm_differences_79 : decode cHm_differences 79 = .ok (.invokevirtual 32, 3) := by decide +kernel
theorem dHm_differences_82 : decode cHm_differences 82 = .ok (.ifCond .ne 6, 3) := by decide +kernel
theorem dHm_differences_85 : decode cHm_differences 85 = .ok (.iinc 2 1, 3) := by decide +kernel
theorem dHm_differences_88 : decode cHm_differences 88 = .ok (.iinc 4 1, 3) := by decide +kernel
theorem dHm_differences_91 : decode cHm_differences 91 = .ok (.goto (-84), 3) := by decide +kernel
theorem dHm_differences_94 : decode cHm_differences 94 = .ok (.iload_n 2, 1) := by decide +kernel
theorem dHm_differences_95 : decode cHm_differences 95 = .ok (.aload_n 0, 1) := by decide +kernel
theorem dHm_differences_96 : decode cHm_differences 96 = .ok (.getfield 19, 3) := by decide +kernel
theorem dHm_differences_99 : decode cHm_differences 99 = .ok (.iadd, 1) := by decide +kernel
theorem dHm_differences_100 : decode cHm_differences 100 = .ok (.iload_n 3, 1) := by decide +kernel
theorem dHm_differences_101 : decode cHm_differences 101 = .ok (.isub, 1) := by decide +kernel
theorem dHm_differences_102 : decode cHm_differences 102 = .ok (.ireturn, 1) := by decide +kernel
-- FootprintRules$HandMade.differences(LFootprintRules$Footprint;)I
abbrev w_Hm_differences (ad : Nat → Nat → Nat) (a_p1 : Nat) (a_p1_cells : Nat) (a_p1_family : Nat) (a_p1_yard : Nat) (a_p1_columns : Nat) (a_p1_rows : Nat) (a_p1_line : Nat) (a_this : Nat) (a_isThere : Nat) (a_boxes : Nat) (k_p1_cells : ClassId) (k_isThere : ClassId) (k_boxes : ClassId) (v_p1_atHand : Int32) (v_p1_count : Int32) (v_p1_thermal : Int32) (v_p1_density : Int32) (v_p1_outerHigh : Int64) (v_p1_pasteLeft : Int64) (v_p1_pasteLow : Int64) (v_p1_nameLength : Int32) (v_p1_isWritten : Int32) (v_this_count : Int32) (v_p1_cells : Nat → Int64) (v_isThere : Nat → Int32) (v_boxes : Nat → Int64) : va_W := [(a_p1, .inr (6, [.int v_p1_atHand, .ref a_p1_cells, .int v_p1_count, .int v_p1_thermal, .ref a_p1_family, .int v_p1_density, .long v_p1_outerHigh, .ref a_p1_yard, .ref a_p1_columns, .ref a_p1_rows, .long v_p1_pasteLeft, .long v_p1_pasteLow, .ref a_p1_line, .int v_p1_nameLength, .int v_p1_isWritten])), (a_this, .inr (8, [.ref a_isThere, .ref a_boxes, .int v_this_count])), (a_p1_cells, .inl (k_p1_cells, 455, .inr (.inl v_p1_cells))), (a_isThere, .inl (k_isThere, 81, .inl v_isThere)), (a_boxes, .inl (k_boxes, 324, .inr (.inl v_boxes)))]
def P_Hm_differences_88  (post : Int32 → Prop) (K7 : Int32 → Int32 → Int32 → Prop) (y2 : Int32) (y3 : Int32) (y4 : Int32) : Prop := ∀ x1 : Int32, x1 = y4 + 1 → K7 y2 y3 x1
set_option maxHeartbeats 4000000 in
set_option maxRecDepth 100000 in
theorem w_Hm_differences_88 (l : Launch) {p : Program} {e : Env} {s : State} {m : MethodId} {args : Array Value} {below : List Frame} {meth : Method} {c : Code} {dC : Nat → ClassId} {dI : Nat → Nat → Nat} {ad : Nat → Nat → Nat} {A : Nat → Prop} (C0 : zC p s m args meth c cHm_differences 8 RHm zT (some .int) A) (hE : zE ad A s) (a_p1 : Nat) (a_p1_cells : Nat) (a_p1_family : Nat) (a_p1_yard : Nat) (a_p1_columns : Nat) (a_p1_rows : Nat) (a_p1_line : Nat) (a_this : Nat) (a_isThere : Nat) (a_boxes : Nat) (k_p1_cells : ClassId) (k_isThere : ClassId) (k_boxes : ClassId) (v_p1_atHand : Int32) (v_p1_count : Int32) (v_p1_thermal : Int32) (v_p1_density : Int32) (v_p1_outerHigh : Int64) (v_p1_pasteLeft : Int64) (v_p1_pasteLow : Int64) (v_p1_nameLength : Int32) (v_p1_isWritten : Int32) (v_this_count : Int32) (v_p1_cells : Nat → Int64) (v_isThere : Nat → Int32) (v_boxes : Nat → Int64) (post : Int32 → Prop) (K7 : Int32 → Int32 → Int32 → Prop) (hK7 : ∀ (y2 : Int32) (y3 : Int32) (y4 : Int32) (H : Heap) (locs : List Loc), K7 y2 y3 y4 → va_P (dC, dI) vwCl (w_Hm_differences ad a_p1 a_p1_cells a_p1_family a_p1_yard a_p1_columns a_p1_rows a_p1_line a_this a_isThere a_boxes k_p1_cells k_isThere k_boxes v_p1_atHand v_p1_count v_p1_thermal v_p1_density v_p1_outerHigh v_p1_pasteLeft v_p1_pasteLow v_p1_nameLength v_p1_isWritten v_this_count v_p1_cells v_isThere v_boxes) H → va_D A (w_Hm_differences ad a_p1 a_p1_cells a_p1_family a_p1_yard a_p1_columns a_p1_rows a_p1_line a_this a_isThere a_boxes k_p1_cells k_isThere k_boxes v_p1_atHand v_p1_count v_p1_thermal v_p1_density v_p1_outerHigh v_p1_pasteLeft v_p1_pasteLow v_p1_nameLength v_p1_isWritten v_this_count v_p1_cells v_isThere v_boxes) → va_S A s.heap H locs → ∀ ls : Array Slot, lv_has ls 8 [(0, .ref a_this), (1, .ref a_p1), (2, .int y2), (3, .int y3), (4, .int y4)] → W p l e (headSpec wsHm_differences { frames := 2, cells := 0, slots := 0, locals := 46 }).room s m args below meth c H locs 0 0 (MQ below (va_Qi (fun (r : Int32) (u : Unit) => post r) (zB (dC, dI) A (fun (u : Unit) => (w_Hm_differences ad a_p1 a_p1_cells a_p1_family a_p1_yard a_p1_columns a_p1_rows a_p1_line a_this a_isThere a_boxes k_p1_cells k_isThere k_boxes v_p1_atHand v_p1_count v_p1_thermal v_p1_density v_p1_outerHigh v_p1_pasteLeft v_p1_pasteLow v_p1_nameLength v_p1_isWritten v_this_count v_p1_cells v_isThere v_boxes))) A) args s 0 0 A) (F0 m 7 ls [])) (hK : va_K (dC, dI) vwCl [(k_p1_cells, .long), (k_isThere, .boolean), (k_boxes, .long)] s) : ∀ (y2 : Int32) (y3 : Int32) (y4 : Int32) (H : Heap) (locs : List Loc), P_Hm_differences_88 post K7 y2 y3 y4 → va_P (dC, dI) vwCl (w_Hm_differences ad a_p1 a_p1_cells a_p1_family a_p1_yard a_p1_columns a_p1_rows a_p1_line a_this a_isThere a_boxes k_p1_cells k_isThere k_boxes v_p1_atHand v_p1_count v_p1_thermal v_p1_density v_p1_outerHigh v_p1_pasteLeft v_p1_pasteLow v_p1_nameLength v_p1_isWritten v_this_count v_p1_cells v_isThere v_boxes) H → va_D A (w_Hm_differences ad a_p1 a_p1_cells a_p1_family a_p1_yard a_p1_columns a_p1_rows a_p1_line a_this a_isThere a_boxes k_p1_cells k_isThere k_boxes v_p1_atHand v_p1_count v_p1_thermal v_p1_density v_p1_outerHigh v_p1_pasteLeft v_p1_pasteLow v_p1_nameLength v_p1_isWritten v_this_count v_p1_cells v_isThere v_boxes) → va_S A s.heap H locs → ∀ ls : Array Slot, lv_has ls 8 [(0, .ref a_this), (1, .ref a_p1), (2, .int y2), (3, .int y3), (4, .int y4)] → W p l e (headSpec wsHm_differences { frames := 2, cells := 0, slots := 0, locals := 46 }).room s m args below meth c H locs 0 0 (MQ below (va_Qi (fun (r : Int32) (u : Unit) => post r) (zB (dC, dI) A (fun (u : Unit) => (w_Hm_differences ad a_p1 a_p1_cells a_p1_family a_p1_yard a_p1_columns a_p1_rows a_p1_line a_this a_isThere a_boxes k_p1_cells k_isThere k_boxes v_p1_atHand v_p1_count v_p1_thermal v_p1_density v_p1_outerHigh v_p1_pasteLeft v_p1_pasteLow v_p1_nameLength v_p1_isWritten v_this_count v_p1_cells v_isThere v_boxes))) A) args s 0 0 A) (F0 m 88 ls []) := by
  obtain ⟨hx, hb, hr, hml, hown, hts, hlocks, hA⟩ := id C0
  intro y2 y3 y4 H locs h hP hD hS ls hl
  unfold P_Hm_differences_88 at h
  obtain ⟨x1, ex1⟩ : ∃ y : Int32, y = y4 + 1 := ⟨_, rfl⟩
  replace h := h x1 ex1
  refine lv_iinc (v := x1) (lv' := [(4, .int x1), (0, .ref a_this), (1, .ref a_p1), (2, .int y2), (3, .int y3)]) hx hb dHm_differences_88 hl (k := 4) rfl (by rw [ex1]; rfl) (by decide) rfl (fun ls hl => ?_)
  refine lv_goto (tgt := 7) hx hb dHm_differences_91 (by decide) ?_
  exact hK7 y2 y3 x1 _ _ h hP hD hS ls (lv_sub hl [1, 2, 3, 4, 0] rfl)
def P_Hm_differences_85  (post : Int32 → Prop) (K7 : Int32 → Int32 → Int32 → Prop) (y2 : Int32) (y3 : Int32) (y4 : Int32) : Prop := ∀ x1 : Int32, x1 = y2 + 1 → P_Hm_differences_88 post K7 x1 y3 y4
set_option maxHeartbeats 4000000 in
set_option maxRecDepth 100000 in
theorem w_Hm_differences_85 (l : Launch) {p : Program} {e : Env} {s : State} {m : MethodId} {args : Array Value} {below : List Frame} {meth : Method} {c : Code} {dC : Nat → ClassId} {dI : Nat → Nat → Nat} {ad : Nat → Nat → Nat} {A : Nat → Prop} (C0 : zC p s m args meth c cHm_differences 8 RHm zT (some .int) A) (hE : zE ad A s) (a_p1 : Nat) (a_p1_cells : Nat) (a_p1_family : Nat) (a_p1_yard : Nat) (a_p1_columns : Nat) (a_p1_rows : Nat) (a_p1_line : Nat) (a_this : Nat) (a_isThere : Nat) (a_boxes : Nat) (k_p1_cells : ClassId) (k_isThere : ClassId) (k_boxes : ClassId) (v_p1_atHand : Int32) (v_p1_count : Int32) (v_p1_thermal : Int32) (v_p1_density : Int32) (v_p1_outerHigh : Int64) (v_p1_pasteLeft : Int64) (v_p1_pasteLow : Int64) (v_p1_nameLength : Int32) (v_p1_isWritten : Int32) (v_this_count : Int32) (v_p1_cells : Nat → Int64) (v_isThere : Nat → Int32) (v_boxes : Nat → Int64) (post : Int32 → Prop) (K7 : Int32 → Int32 → Int32 → Prop) (hK7 : ∀ (y2 : Int32) (y3 : Int32) (y4 : Int32) (H : Heap) (locs : List Loc), K7 y2 y3 y4 → va_P (dC, dI) vwCl (w_Hm_differences ad a_p1 a_p1_cells a_p1_family a_p1_yard a_p1_columns a_p1_rows a_p1_line a_this a_isThere a_boxes k_p1_cells k_isThere k_boxes v_p1_atHand v_p1_count v_p1_thermal v_p1_density v_p1_outerHigh v_p1_pasteLeft v_p1_pasteLow v_p1_nameLength v_p1_isWritten v_this_count v_p1_cells v_isThere v_boxes) H → va_D A (w_Hm_differences ad a_p1 a_p1_cells a_p1_family a_p1_yard a_p1_columns a_p1_rows a_p1_line a_this a_isThere a_boxes k_p1_cells k_isThere k_boxes v_p1_atHand v_p1_count v_p1_thermal v_p1_density v_p1_outerHigh v_p1_pasteLeft v_p1_pasteLow v_p1_nameLength v_p1_isWritten v_this_count v_p1_cells v_isThere v_boxes) → va_S A s.heap H locs → ∀ ls : Array Slot, lv_has ls 8 [(0, .ref a_this), (1, .ref a_p1), (2, .int y2), (3, .int y3), (4, .int y4)] → W p l e (headSpec wsHm_differences { frames := 2, cells := 0, slots := 0, locals := 46 }).room s m args below meth c H locs 0 0 (MQ below (va_Qi (fun (r : Int32) (u : Unit) => post r) (zB (dC, dI) A (fun (u : Unit) => (w_Hm_differences ad a_p1 a_p1_cells a_p1_family a_p1_yard a_p1_columns a_p1_rows a_p1_line a_this a_isThere a_boxes k_p1_cells k_isThere k_boxes v_p1_atHand v_p1_count v_p1_thermal v_p1_density v_p1_outerHigh v_p1_pasteLeft v_p1_pasteLow v_p1_nameLength v_p1_isWritten v_this_count v_p1_cells v_isThere v_boxes))) A) args s 0 0 A) (F0 m 7 ls [])) (hK : va_K (dC, dI) vwCl [(k_p1_cells, .long), (k_isThere, .boolean), (k_boxes, .long)] s) : ∀ (y2 : Int32) (y3 : Int32) (y4 : Int32) (H : Heap) (locs : List Loc), P_Hm_differences_85 post K7 y2 y3 y4 → va_P (dC, dI) vwCl (w_Hm_differences ad a_p1 a_p1_cells a_p1_family a_p1_yard a_p1_columns a_p1_rows a_p1_line a_this a_isThere a_boxes k_p1_cells k_isThere k_boxes v_p1_atHand v_p1_count v_p1_thermal v_p1_density v_p1_outerHigh v_p1_pasteLeft v_p1_pasteLow v_p1_nameLength v_p1_isWritten v_this_count v_p1_cells v_isThere v_boxes) H → va_D A (w_Hm_differences ad a_p1 a_p1_cells a_p1_family a_p1_yard a_p1_columns a_p1_rows a_p1_line a_this a_isThere a_boxes k_p1_cells k_isThere k_boxes v_p1_atHand v_p1_count v_p1_thermal v_p1_density v_p1_outerHigh v_p1_pasteLeft v_p1_pasteLow v_p1_nameLength v_p1_isWritten v_this_count v_p1_cells v_isThere v_boxes) → va_S A s.heap H locs → ∀ ls : Array Slot, lv_has ls 8 [(0, .ref a_this), (1, .ref a_p1), (2, .int y2), (3, .int y3), (4, .int y4)] → W p l e (headSpec wsHm_differences { frames := 2, cells := 0, slots := 0, locals := 46 }).room s m args below meth c H locs 0 0 (MQ below (va_Qi (fun (r : Int32) (u : Unit) => post r) (zB (dC, dI) A (fun (u : Unit) => (w_Hm_differences ad a_p1 a_p1_cells a_p1_family a_p1_yard a_p1_columns a_p1_rows a_p1_line a_this a_isThere a_boxes k_p1_cells k_isThere k_boxes v_p1_atHand v_p1_count v_p1_thermal v_p1_density v_p1_outerHigh v_p1_pasteLeft v_p1_pasteLow v_p1_nameLength v_p1_isWritten v_this_count v_p1_cells v_isThere v_boxes))) A) args s 0 0 A) (F0 m 85 ls []) := by
  obtain ⟨hx, hb, hr, hml, hown, hts, hlocks, hA⟩ := id C0
  intro y2 y3 y4 H locs h hP hD hS ls hl
  unfold P_Hm_differences_85 at h
  obtain ⟨x1, ex1⟩ : ∃ y : Int32, y = y2 + 1 := ⟨_, rfl⟩
  replace h := h x1 ex1
  refine lv_iinc (v := x1) (lv' := [(2, .int x1), (0, .ref a_this), (1, .ref a_p1), (3, .int y3), (4, .int y4)]) hx hb dHm_differences_85 hl (k := 2) rfl (by rw [ex1]; rfl) (by decide) rfl (fun ls hl => ?_)
  exact w_Hm_differences_88 l C0 hE a_p1 a_p1_cells a_p1_family a_p1_yard a_p1_columns a_p1_rows a_p1_line a_this a_isThere a_boxes k_p1_cells k_isThere k_boxes v_p1_atHand v_p1_count v_p1_thermal v_p1_density v_p1_outerHigh v_p1_pasteLeft v_p1_pasteLow v_p1_nameLength v_p1_isWritten v_this_count v_p1_cells v_isThere v_boxes post K7 hK7 hK x1 y3 y4 _ _ h hP hD hS ls (lv_sub hl [1, 2, 0, 3, 4] rfl)
def P_Hm_differences_67 (v_p1_cells : Nat → Int64) (v_boxes : Nat → Int64) (post : Int32 → Prop) (K7 : Int32 → Int32 → Int32 → Prop) (y2 : Int32) (y3 : Int32) (y4 : Int32) (y5 : Int64) (y7 : Int32) : Prop := ((y7 = 0 → P_Hm_differences_85 post K7 y2 y3 y4) ∧ (¬ y7 = 0 → P_Hm_isSame y5.toInt32 y4 v_boxes v_p1_cells (fun (r2 : Int32) => ((¬ r2 = 0 → P_Hm_differences_88 post K7 y2 y3 y4) ∧ (r2 = 0 → P_Hm_differences_85 post K7 y2 y3 y4)))))
set_option maxHeartbeats 4000000 in
set_option maxRecDepth 100000 in
theorem w_Hm_differences_67 (l : Launch) {p : Program} {e : Env} {s : State} {m : MethodId} {args : Array Value} {below : List Frame} {meth : Method} {c : Code} {dC : Nat → ClassId} {dI : Nat → Nat → Nat} {ad : Nat → Nat → Nat} {A : Nat → Prop} (C0 : zC p s m args meth c cHm_differences 8 RHm zT (some .int) A) (hE : zE ad A s) (a_p1 : Nat) (a_p1_cells : Nat) (a_p1_family : Nat) (a_p1_yard : Nat) (a_p1_columns : Nat) (a_p1_rows : Nat) (a_p1_line : Nat) (a_this : Nat) (a_isThere : Nat) (a_boxes : Nat) (k_p1_cells : ClassId) (k_isThere : ClassId) (k_boxes : ClassId) (v_p1_atHand : Int32) (v_p1_count : Int32) (v_p1_thermal : Int32) (v_p1_density : Int32) (v_p1_outerHigh : Int64) (v_p1_pasteLeft : Int64) (v_p1_pasteLow : Int64) (v_p1_nameLength : Int32) (v_p1_isWritten : Int32) (v_this_count : Int32) (v_p1_cells : Nat → Int64) (v_isThere : Nat → Int32) (v_boxes : Nat → Int64) (post : Int32 → Prop) (K7 : Int32 → Int32 → Int32 → Prop) (hK7 : ∀ (y2 : Int32) (y3 : Int32) (y4 : Int32) (H : Heap) (locs : List Loc), K7 y2 y3 y4 → va_P (dC, dI) vwCl (w_Hm_differences ad a_p1 a_p1_cells a_p1_family a_p1_yard a_p1_columns a_p1_rows a_p1_line a_this a_isThere a_boxes k_p1_cells k_isThere k_boxes v_p1_atHand v_p1_count v_p1_thermal v_p1_density v_p1_outerHigh v_p1_pasteLeft v_p1_pasteLow v_p1_nameLength v_p1_isWritten v_this_count v_p1_cells v_isThere v_boxes) H → va_D A (w_Hm_differences ad a_p1 a_p1_cells a_p1_family a_p1_yard a_p1_columns a_p1_rows a_p1_line a_this a_isThere a_boxes k_p1_cells k_isThere k_boxes v_p1_atHand v_p1_count v_p1_thermal v_p1_density v_p1_outerHigh v_p1_pasteLeft v_p1_pasteLow v_p1_nameLength v_p1_isWritten v_this_count v_p1_cells v_isThere v_boxes) → va_S A s.heap H locs → ∀ ls : Array Slot, lv_has ls 8 [(0, .ref a_this), (1, .ref a_p1), (2, .int y2), (3, .int y3), (4, .int y4)] → W p l e (headSpec wsHm_differences { frames := 2, cells := 0, slots := 0, locals := 46 }).room s m args below meth c H locs 0 0 (MQ below (va_Qi (fun (r : Int32) (u : Unit) => post r) (zB (dC, dI) A (fun (u : Unit) => (w_Hm_differences ad a_p1 a_p1_cells a_p1_family a_p1_yard a_p1_columns a_p1_rows a_p1_line a_this a_isThere a_boxes k_p1_cells k_isThere k_boxes v_p1_atHand v_p1_count v_p1_thermal v_p1_density v_p1_outerHigh v_p1_pasteLeft v_p1_pasteLow v_p1_nameLength v_p1_isWritten v_this_count v_p1_cells v_isThere v_boxes))) A) args s 0 0 A) (F0 m 7 ls [])) (hK : va_K (dC, dI) vwCl [(k_p1_cells, .long), (k_isThere, .boolean), (k_boxes, .long)] s) : ∀ (y2 : Int32) (y3 : Int32) (y4 : Int32) (y5 : Int64) (y7 : Int32) (H : Heap) (locs : List Loc), P_Hm_differences_67 v_p1_cells v_boxes post K7 y2 y3 y4 y5 y7 → va_P (dC, dI) vwCl (w_Hm_differences ad a_p1 a_p1_cells a_p1_family a_p1_yard a_p1_columns a_p1_rows a_p1_line a_this a_isThere a_boxes k_p1_cells k_isThere k_boxes v_p1_atHand v_p1_count v_p1_thermal v_p1_density v_p1_outerHigh v_p1_pasteLeft v_p1_pasteLow v_p1_nameLength v_p1_isWritten v_this_count v_p1_cells v_isThere v_boxes) H → va_D A (w_Hm_differences ad a_p1 a_p1_cells a_p1_family a_p1_yard a_p1_columns a_p1_rows a_p1_line a_this a_isThere a_boxes k_p1_cells k_isThere k_boxes v_p1_atHand v_p1_count v_p1_thermal v_p1_density v_p1_outerHigh v_p1_pasteLeft v_p1_pasteLow v_p1_nameLength v_p1_isWritten v_this_count v_p1_cells v_isThere v_boxes) → va_S A s.heap H locs → ∀ ls : Array Slot, lv_has ls 8 [(0, .ref a_this), (1, .ref a_p1), (2, .int y2), (3, .int y3), (4, .int y4), (5, .long y5), (7, .int y7)] → W p l e (headSpec wsHm_differences { frames := 2, cells := 0, slots := 0, locals := 46 }).room s m args below meth c H locs 0 0 (MQ below (va_Qi (fun (r : Int32) (u : Unit) => post r) (zB (dC, dI) A (fun (u : Unit) => (w_Hm_differences ad a_p1 a_p1_cells a_p1_family a_p1_yard a_p1_columns a_p1_rows a_p1_line a_this a_isThere a_boxes k_p1_cells k_isThere k_boxes v_p1_atHand v_p1_count v_p1_thermal v_p1_density v_p1_outerHigh v_p1_pasteLeft v_p1_pasteLow v_p1_nameLength v_p1_isWritten v_this_count v_p1_cells v_isThere v_boxes))) A) args s 0 0 A) (F0 m 67 ls []) := by
  obtain ⟨hx, hb, hr, hml, hown, hts, hlocks, hA⟩ := id C0
  intro y2 y3 y4 y5 y7 H locs h hP hD hS ls hl
  unfold P_Hm_differences_67 at h
  refine lv_iload hx hb dHm_differences_67 (lv_at hl 6 rfl) ?_
  refine lv_if_eq (tgt := 85) hx hb dHm_differences_69 (by decide) ?_ ?_
  · intro c1
    replace h := h.1 c1
    exact w_Hm_differences_85 l C0 hE a_p1 a_p1_cells a_p1_family a_p1_yard a_p1_columns a_p1_rows a_p1_line a_this a_isThere a_boxes k_p1_cells k_isThere k_boxes v_p1_atHand v_p1_count v_p1_thermal v_p1_density v_p1_outerHigh v_p1_pasteLeft v_p1_pasteLow v_p1_nameLength v_p1_isWritten v_this_count v_p1_cells v_isThere v_boxes post K7 hK7 hK y2 y3 y4 _ _ h hP hD hS ls (lv_sub hl [0, 1, 2, 3, 4] rfl)
  · intro c1
    replace h := h.2 c1
    refine lv_aload_n hx hb dHm_differences_72 rfl (lv_at hl 0 rfl) ?_
    refine lv_lload hx hb dHm_differences_73 (lv_at hl 5 rfl) ?_
    refine lv_l2i hx hb dHm_differences_75 rfl ?_
    refine lv_aload_n hx hb dHm_differences_76 rfl (lv_at hl 1 rfl) ?_
    refine lv_iload hx hb dHm_differences_77 (lv_at hl 4 rfl) ?_
    refine zcall_i hP hD hS hA [1, 4, 0, 2] [3] (va_runV (As := [.int y5.toInt32, .ref a_p1, .int y4]) (rest := []) ⟨hx, hb, hml, hown, hts⟩ (c_Hm_isSame l dC dI ad a_this a_isThere a_boxes a_p1 a_p1_cells a_p1_family a_p1_yard a_p1_columns a_p1_rows a_p1_line k_boxes k_p1_cells _ y5.toInt32 y4 v_this_count v_boxes v_p1_atHand v_p1_count v_p1_thermal v_p1_density v_p1_outerHigh v_p1_pasteLeft v_p1_pasteLow v_p1_nameLength v_p1_isWritten v_p1_cells _ h) ⟨callB_of 3 hts (zgood zc_Hm_isSame) rfl rfl rfl (hts _ zw_98) (hts _ zw_1008) (by decide +kernel) ⟨Nat.le_of_ble_eq_true rfl, Nat.le_of_ble_eq_true rfl⟩, (hts _ zw_1010), (hts _ zw_66)⟩ (zpreV hE hK hP hD hS hA [1, 4, 0, 2] [2, 0] (by rfl) (by rfl) (by decide) (ci := 8) (q0 := 1) rfl (by rfl)) rfl rfl hl.1 rfl (lv_room (Nat.le_of_ble_eq_true rfl)) dHm_differences_79 ⟨Nat.le_of_ble_eq_true rfl, Nat.le_of_ble_eq_true rfl⟩) (by rfl) (by rfl) (by decide) (by decide) (fun r2 u H locs h hP hD hS => ?_)
    try dsimp only at h
    have hP := hP.sub (ws' := (w_Hm_differences ad a_p1 a_p1_cells a_p1_family a_p1_yard a_p1_columns a_p1_rows a_p1_line a_this a_isThere a_boxes k_p1_cells k_isThere k_boxes v_p1_atHand v_p1_count v_p1_thermal v_p1_density v_p1_outerHigh v_p1_pasteLeft v_p1_pasteLow v_p1_nameLength v_p1_isWritten v_this_count v_p1_cells v_isThere v_boxes)) [3, 1, 4, 0, 2] rfl
    have hD := hD.sub (ws' := (w_Hm_differences ad a_p1 a_p1_cells a_p1_family a_p1_yard a_p1_columns a_p1_rows a_p1_line a_this a_isThere a_boxes k_p1_cells k_isThere k_boxes v_p1_atHand v_p1_count v_p1_thermal v_p1_density v_p1_outerHigh v_p1_pasteLeft v_p1_pasteLow v_p1_nameLength v_p1_isWritten v_this_count v_p1_cells v_isThere v_boxes)) [3, 1, 4, 0, 2] (by decide) rfl
    refine lv_if_ne (tgt := 88) hx hb dHm_differences_82 (by decide) ?_ ?_
    · intro c3
      replace h := h.1 c3
      exact w_Hm_differences_88 l C0 hE a_p1 a_p1_cells a_p1_family a_p1_yard a_p1_columns a_p1_rows a_p1_line a_this a_isThere a_boxes k_p1_cells k_isThere k_boxes v_p1_atHand v_p1_count v_p1_thermal v_p1_density v_p1_outerHigh v_p1_pasteLeft v_p1_pasteLow v_p1_nameLength v_p1_isWritten v_this_count v_p1_cells v_isThere v_boxes post K7 hK7 hK y2 y3 y4 _ _ h hP hD hS ls (lv_sub hl [0, 1, 2, 3, 4] rfl)
    · intro c3
      replace h := h.2 c3
      exact w_Hm_differences_85 l C0 hE a_p1 a_p1_cells a_p1_family a_p1_yard a_p1_columns a_p1_rows a_p1_line a_this a_isThere a_boxes k_p1_cells k_isThere k_boxes v_p1_atHand v_p1_count v_p1_thermal v_p1_density v_p1_outerHigh v_p1_pasteLeft v_p1_pasteLow v_p1_nameLength v_p1_isWritten v_this_count v_p1_cells v_isThere v_boxes post K7 hK7 hK y2 y3 y4 _ _ h hP hD hS ls (lv_sub hl [0, 1, 2, 3, 4] rfl)
def P_Hm_differences_57 (v_p1_cells : Nat → Int64) (v_boxes : Nat → Int64) (post : Int32 → Prop) (K7 : Int32 → Int32 → Int32 → Prop) (y2 : Int32) (y3 : Int32) (y4 : Int32) (y5 : Int64) (t0 : Int32) : Prop := ((t0 = 0 → P_Hm_differences_67 v_p1_cells v_boxes post K7 y2 y3 y4 y5 t0) ∧ (¬ t0 = 0 → ∀ x2 : Int32, x2 = y3 + 1 → P_Hm_differences_67 v_p1_cells v_boxes post K7 y2 x2 y4 y5 t0))
set_option maxHeartbeats 4000000 in
set_option maxRecDepth 100000 in
theorem w_Hm_differences_57 (l : Launch) {p : Program} {e : Env} {s : State} {m : MethodId} {args : Array Value} {below : List Frame} {meth : Method} {c : Code} {dC : Nat → ClassId} {dI : Nat → Nat → Nat} {ad : Nat → Nat → Nat} {A : Nat → Prop} (C0 : zC p s m args meth c cHm_differences 8 RHm zT (some .int) A) (hE : zE ad A s) (a_p1 : Nat) (a_p1_cells : Nat) (a_p1_family : Nat) (a_p1_yard : Nat) (a_p1_columns : Nat) (a_p1_rows : Nat) (a_p1_line : Nat) (a_this : Nat) (a_isThere : Nat) (a_boxes : Nat) (k_p1_cells : ClassId) (k_isThere : ClassId) (k_boxes : ClassId) (v_p1_atHand : Int32) (v_p1_count : Int32) (v_p1_thermal : Int32) (v_p1_density : Int32) (v_p1_outerHigh : Int64) (v_p1_pasteLeft : Int64) (v_p1_pasteLow : Int64) (v_p1_nameLength : Int32) (v_p1_isWritten : Int32) (v_this_count : Int32) (v_p1_cells : Nat → Int64) (v_isThere : Nat → Int32) (v_boxes : Nat → Int64) (post : Int32 → Prop) (K7 : Int32 → Int32 → Int32 → Prop) (hK7 : ∀ (y2 : Int32) (y3 : Int32) (y4 : Int32) (H : Heap) (locs : List Loc), K7 y2 y3 y4 → va_P (dC, dI) vwCl (w_Hm_differences ad a_p1 a_p1_cells a_p1_family a_p1_yard a_p1_columns a_p1_rows a_p1_line a_this a_isThere a_boxes k_p1_cells k_isThere k_boxes v_p1_atHand v_p1_count v_p1_thermal v_p1_density v_p1_outerHigh v_p1_pasteLeft v_p1_pasteLow v_p1_nameLength v_p1_isWritten v_this_count v_p1_cells v_isThere v_boxes) H → va_D A (w_Hm_differences ad a_p1 a_p1_cells a_p1_family a_p1_yard a_p1_columns a_p1_rows a_p1_line a_this a_isThere a_boxes k_p1_cells k_isThere k_boxes v_p1_atHand v_p1_count v_p1_thermal v_p1_density v_p1_outerHigh v_p1_pasteLeft v_p1_pasteLow v_p1_nameLength v_p1_isWritten v_this_count v_p1_cells v_isThere v_boxes) → va_S A s.heap H locs → ∀ ls : Array Slot, lv_has ls 8 [(0, .ref a_this), (1, .ref a_p1), (2, .int y2), (3, .int y3), (4, .int y4)] → W p l e (headSpec wsHm_differences { frames := 2, cells := 0, slots := 0, locals := 46 }).room s m args below meth c H locs 0 0 (MQ below (va_Qi (fun (r : Int32) (u : Unit) => post r) (zB (dC, dI) A (fun (u : Unit) => (w_Hm_differences ad a_p1 a_p1_cells a_p1_family a_p1_yard a_p1_columns a_p1_rows a_p1_line a_this a_isThere a_boxes k_p1_cells k_isThere k_boxes v_p1_atHand v_p1_count v_p1_thermal v_p1_density v_p1_outerHigh v_p1_pasteLeft v_p1_pasteLow v_p1_nameLength v_p1_isWritten v_this_count v_p1_cells v_isThere v_boxes))) A) args s 0 0 A) (F0 m 7 ls [])) (hK : va_K (dC, dI) vwCl [(k_p1_cells, .long), (k_isThere, .boolean), (k_boxes, .long)] s) : ∀ (y2 : Int32) (y3 : Int32) (y4 : Int32) (y5 : Int64) (t0 : Int32) (H : Heap) (locs : List Loc), P_Hm_differences_57 v_p1_cells v_boxes post K7 y2 y3 y4 y5 t0 → va_P (dC, dI) vwCl (w_Hm_differences ad a_p1 a_p1_cells a_p1_family a_p1_yard a_p1_columns a_p1_rows a_p1_line a_this a_isThere a_boxes k_p1_cells k_isThere k_boxes v_p1_atHand v_p1_count v_p1_thermal v_p1_density v_p1_outerHigh v_p1_pasteLeft v_p1_pasteLow v_p1_nameLength v_p1_isWritten v_this_count v_p1_cells v_isThere v_boxes) H → va_D A (w_Hm_differences ad a_p1 a_p1_cells a_p1_family a_p1_yard a_p1_columns a_p1_rows a_p1_line a_this a_isThere a_boxes k_p1_cells k_isThere k_boxes v_p1_atHand v_p1_count v_p1_thermal v_p1_density v_p1_outerHigh v_p1_pasteLeft v_p1_pasteLow v_p1_nameLength v_p1_isWritten v_this_count v_p1_cells v_isThere v_boxes) → va_S A s.heap H locs → ∀ ls : Array Slot, lv_has ls 8 [(0, .ref a_this), (1, .ref a_p1), (2, .int y2), (3, .int y3), (4, .int y4), (5, .long y5)] → W p l e (headSpec wsHm_differences { frames := 2, cells := 0, slots := 0, locals := 46 }).room s m args below meth c H locs 0 0 (MQ below (va_Qi (fun (r : Int32) (u : Unit) => post r) (zB (dC, dI) A (fun (u : Unit) => (w_Hm_differences ad a_p1 a_p1_cells a_p1_family a_p1_yard a_p1_columns a_p1_rows a_p1_line a_this a_isThere a_boxes k_p1_cells k_isThere k_boxes v_p1_atHand v_p1_count v_p1_thermal v_p1_density v_p1_outerHigh v_p1_pasteLeft v_p1_pasteLow v_p1_nameLength v_p1_isWritten v_this_count v_p1_cells v_isThere v_boxes))) A) args s 0 0 A) (F0 m 57 ls [.int t0]) := by
  obtain ⟨hx, hb, hr, hml, hown, hts, hlocks, hA⟩ := id C0
  intro y2 y3 y4 y5 t0 H locs h hP hD hS ls hl
  unfold P_Hm_differences_57 at h
  refine lv_istore (lv' := [(7, .int t0), (0, .ref a_this), (1, .ref a_p1), (2, .int y2), (3, .int y3), (4, .int y4), (5, .long y5)]) hx hb dHm_differences_57 hl (by decide) rfl (fun ls hl => ?_)
  refine lv_iload hx hb dHm_differences_59 (lv_at hl 0 rfl) ?_
  refine lv_if_eq (tgt := 67) hx hb dHm_differences_61 (by decide) ?_ ?_
  · intro c1
    replace h := h.1 c1
    exact w_Hm_differences_67 l C0 hE a_p1 a_p1_cells a_p1_family a_p1_yard a_p1_columns a_p1_rows a_p1_line a_this a_isThere a_boxes k_p1_cells k_isThere k_boxes v_p1_atHand v_p1_count v_p1_thermal v_p1_density v_p1_outerHigh v_p1_pasteLeft v_p1_pasteLow v_p1_nameLength v_p1_isWritten v_this_count v_p1_cells v_isThere v_boxes post K7 hK7 hK y2 y3 y4 y5 t0 _ _ h hP hD hS ls (lv_sub hl [1, 2, 3, 4, 5, 6, 0] rfl)
  · intro c1
    replace h := h.2 c1
    obtain ⟨x2, ex2⟩ : ∃ y : Int32, y = y3 + 1 := ⟨_, rfl⟩
    replace h := h x2 ex2
    refine lv_iinc (v := x2) (lv' := [(3, .int x2), (7, .int t0), (0, .ref a_this), (1, .ref a_p1), (2, .int y2), (4, .int y4), (5, .long y5)]) hx hb dHm_differences_64 hl (k := 4) rfl (by rw [ex2]; rfl) (by decide) rfl (fun ls hl => ?_)
    exact w_Hm_differences_67 l C0 hE a_p1 a_p1_cells a_p1_family a_p1_yard a_p1_columns a_p1_rows a_p1_line a_this a_isThere a_boxes k_p1_cells k_isThere k_boxes v_p1_atHand v_p1_count v_p1_thermal v_p1_density v_p1_outerHigh v_p1_pasteLeft v_p1_pasteLow v_p1_nameLength v_p1_isWritten v_this_count v_p1_cells v_isThere v_boxes post K7 hK7 hK y2 x2 y4 y5 t0 _ _ h hP hD hS ls (lv_sub hl [2, 3, 4, 0, 5, 6, 1] rfl)
def P_Hm_differences_56 (v_p1_cells : Nat → Int64) (v_boxes : Nat → Int64) (post : Int32 → Prop) (K7 : Int32 → Int32 → Int32 → Prop) (y2 : Int32) (y3 : Int32) (y4 : Int32) (y5 : Int64) : Prop := P_Hm_differences_57 v_p1_cells v_boxes post K7 y2 y3 y4 y5 0
set_option maxHeartbeats 4000000 in
set_option maxRecDepth 100000 in
theorem w_Hm_differences_56 (l : Launch) {p : Program} {e : Env} {s : State} {m : MethodId} {args : Array Value} {below : List Frame} {meth : Method} {c : Code} {dC : Nat → ClassId} {dI : Nat → Nat → Nat} {ad : Nat → Nat → Nat} {A : Nat → Prop} (C0 : zC p s m args meth c cHm_differences 8 RHm zT (some .int) A) (hE : zE ad A s) (a_p1 : Nat) (a_p1_cells : Nat) (a_p1_family : Nat) (a_p1_yard : Nat) (a_p1_columns : Nat) (a_p1_rows : Nat) (a_p1_line : Nat) (a_this : Nat) (a_isThere : Nat) (a_boxes : Nat) (k_p1_cells : ClassId) (k_isThere : ClassId) (k_boxes : ClassId) (v_p1_atHand : Int32) (v_p1_count : Int32) (v_p1_thermal : Int32) (v_p1_density : Int32) (v_p1_outerHigh : Int64) (v_p1_pasteLeft : Int64) (v_p1_pasteLow : Int64) (v_p1_nameLength : Int32) (v_p1_isWritten : Int32) (v_this_count : Int32) (v_p1_cells : Nat → Int64) (v_isThere : Nat → Int32) (v_boxes : Nat → Int64) (post : Int32 → Prop) (K7 : Int32 → Int32 → Int32 → Prop) (hK7 : ∀ (y2 : Int32) (y3 : Int32) (y4 : Int32) (H : Heap) (locs : List Loc), K7 y2 y3 y4 → va_P (dC, dI) vwCl (w_Hm_differences ad a_p1 a_p1_cells a_p1_family a_p1_yard a_p1_columns a_p1_rows a_p1_line a_this a_isThere a_boxes k_p1_cells k_isThere k_boxes v_p1_atHand v_p1_count v_p1_thermal v_p1_density v_p1_outerHigh v_p1_pasteLeft v_p1_pasteLow v_p1_nameLength v_p1_isWritten v_this_count v_p1_cells v_isThere v_boxes) H → va_D A (w_Hm_differences ad a_p1 a_p1_cells a_p1_family a_p1_yard a_p1_columns a_p1_rows a_p1_line a_this a_isThere a_boxes k_p1_cells k_isThere k_boxes v_p1_atHand v_p1_count v_p1_thermal v_p1_density v_p1_outerHigh v_p1_pasteLeft v_p1_pasteLow v_p1_nameLength v_p1_isWritten v_this_count v_p1_cells v_isThere v_boxes) → va_S A s.heap H locs → ∀ ls : Array Slot, lv_has ls 8 [(0, .ref a_this), (1, .ref a_p1), (2, .int y2), (3, .int y3), (4, .int y4)] → W p l e (headSpec wsHm_differences { frames := 2, cells := 0, slots := 0, locals := 46 }).room s m args below meth c H locs 0 0 (MQ below (va_Qi (fun (r : Int32) (u : Unit) => post r) (zB (dC, dI) A (fun (u : Unit) => (w_Hm_differences ad a_p1 a_p1_cells a_p1_family a_p1_yard a_p1_columns a_p1_rows a_p1_line a_this a_isThere a_boxes k_p1_cells k_isThere k_boxes v_p1_atHand v_p1_count v_p1_thermal v_p1_density v_p1_outerHigh v_p1_pasteLeft v_p1_pasteLow v_p1_nameLength v_p1_isWritten v_this_count v_p1_cells v_isThere v_boxes))) A) args s 0 0 A) (F0 m 7 ls [])) (hK : va_K (dC, dI) vwCl [(k_p1_cells, .long), (k_isThere, .boolean), (k_boxes, .long)] s) : ∀ (y2 : Int32) (y3 : Int32) (y4 : Int32) (y5 : Int64) (H : Heap) (locs : List Loc), P_Hm_differences_56 v_p1_cells v_boxes post K7 y2 y3 y4 y5 → va_P (dC, dI) vwCl (w_Hm_differences ad a_p1 a_p1_cells a_p1_family a_p1_yard a_p1_columns a_p1_rows a_p1_line a_this a_isThere a_boxes k_p1_cells k_isThere k_boxes v_p1_atHand v_p1_count v_p1_thermal v_p1_density v_p1_outerHigh v_p1_pasteLeft v_p1_pasteLow v_p1_nameLength v_p1_isWritten v_this_count v_p1_cells v_isThere v_boxes) H → va_D A (w_Hm_differences ad a_p1 a_p1_cells a_p1_family a_p1_yard a_p1_columns a_p1_rows a_p1_line a_this a_isThere a_boxes k_p1_cells k_isThere k_boxes v_p1_atHand v_p1_count v_p1_thermal v_p1_density v_p1_outerHigh v_p1_pasteLeft v_p1_pasteLow v_p1_nameLength v_p1_isWritten v_this_count v_p1_cells v_isThere v_boxes) → va_S A s.heap H locs → ∀ ls : Array Slot, lv_has ls 8 [(0, .ref a_this), (1, .ref a_p1), (2, .int y2), (3, .int y3), (4, .int y4), (5, .long y5)] → W p l e (headSpec wsHm_differences { frames := 2, cells := 0, slots := 0, locals := 46 }).room s m args below meth c H locs 0 0 (MQ below (va_Qi (fun (r : Int32) (u : Unit) => post r) (zB (dC, dI) A (fun (u : Unit) => (w_Hm_differences ad a_p1 a_p1_cells a_p1_family a_p1_yard a_p1_columns a_p1_rows a_p1_line a_this a_isThere a_boxes k_p1_cells k_isThere k_boxes v_p1_atHand v_p1_count v_p1_thermal v_p1_density v_p1_outerHigh v_p1_pasteLeft v_p1_pasteLow v_p1_nameLength v_p1_isWritten v_this_count v_p1_cells v_isThere v_boxes))) A) args s 0 0 A) (F0 m 56 ls []) := by
  obtain ⟨hx, hb, hr, hml, hown, hts, hlocks, hA⟩ := id C0
  intro y2 y3 y4 y5 H locs h hP hD hS ls hl
  unfold P_Hm_differences_56 at h
  refine lv_iconst (v := 0) hx hb dHm_differences_56 (by decide) ?_
  exact w_Hm_differences_57 l C0 hE a_p1 a_p1_cells a_p1_family a_p1_yard a_p1_columns a_p1_rows a_p1_line a_this a_isThere a_boxes k_p1_cells k_isThere k_boxes v_p1_atHand v_p1_count v_p1_thermal v_p1_density v_p1_outerHigh v_p1_pasteLeft v_p1_pasteLow v_p1_nameLength v_p1_isWritten v_this_count v_p1_cells v_isThere v_boxes post K7 hK7 hK y2 y3 y4 y5 0 _ _ h hP hD hS ls (lv_sub hl [0, 1, 2, 3, 4, 5] rfl)
def P_Hm_differences_7 (v_p1_count : Int32) (v_this_count : Int32) (v_p1_cells : Nat → Int64) (v_isThere : Nat → Int32) (v_boxes : Nat → Int64) (post : Int32 → Prop) : Nat → Int32 → Int32 → Int32 → Prop
  | 0, _, _, _ => False
  | n + 1, y2, y3, y4 => ((v_p1_count ≤ y4 → post ((y2 + v_this_count) - y3)) ∧ (¬ v_p1_count ≤ y4 → P_Fp_cell y4 0 v_p1_cells (fun (r2 : Int64) => ((r2 < 1 → P_Hm_differences_56 v_p1_cells v_boxes post (P_Hm_differences_7 v_p1_count v_this_count v_p1_cells v_isThere v_boxes post n) y2 y3 y4 r2) ∧ (¬ r2 < 1 → ((80 < r2 → P_Hm_differences_56 v_p1_cells v_boxes post (P_Hm_differences_7 v_p1_count v_this_count v_p1_cells v_isThere v_boxes post n) y2 y3 y4 r2) ∧ (¬ 80 < r2 → vp_in r2.toInt32 81 ∧ (((v_isThere r2.toInt32.toNatClampNeg) = 0 → P_Hm_differences_56 v_p1_cells v_boxes post (P_Hm_differences_7 v_p1_count v_this_count v_p1_cells v_isThere v_boxes post n) y2 y3 y4 r2) ∧ (¬ (v_isThere r2.toInt32.toNatClampNeg) = 0 → P_Hm_differences_57 v_p1_cells v_boxes post (P_Hm_differences_7 v_p1_count v_this_count v_p1_cells v_isThere v_boxes post n) y2 y3 y4 r2 1)))))))))
set_option maxHeartbeats 4000000 in
set_option maxRecDepth 100000 in
theorem w_Hm_differences_7 (l : Launch) {p : Program} {e : Env} {s : State} {m : MethodId} {args : Array Value} {below : List Frame} {meth : Method} {c : Code} {dC : Nat → ClassId} {dI : Nat → Nat → Nat} {ad : Nat → Nat → Nat} {A : Nat → Prop} (C0 : zC p s m args meth c cHm_differences 8 RHm zT (some .int) A) (hE : zE ad A s) (a_p1 : Nat) (a_p1_cells : Nat) (a_p1_family : Nat) (a_p1_yard : Nat) (a_p1_columns : Nat) (a_p1_rows : Nat) (a_p1_line : Nat) (a_this : Nat) (a_isThere : Nat) (a_boxes : Nat) (k_p1_cells : ClassId) (k_isThere : ClassId) (k_boxes : ClassId) (v_p1_atHand : Int32) (v_p1_count : Int32) (v_p1_thermal : Int32) (v_p1_density : Int32) (v_p1_outerHigh : Int64) (v_p1_pasteLeft : Int64) (v_p1_pasteLow : Int64) (v_p1_nameLength : Int32) (v_p1_isWritten : Int32) (v_this_count : Int32) (v_p1_cells : Nat → Int64) (v_isThere : Nat → Int32) (v_boxes : Nat → Int64) (post : Int32 → Prop) (hK : va_K (dC, dI) vwCl [(k_p1_cells, .long), (k_isThere, .boolean), (k_boxes, .long)] s) : ∀ (n : Nat), ∀ (y2 : Int32) (y3 : Int32) (y4 : Int32) (H : Heap) (locs : List Loc), P_Hm_differences_7 v_p1_count v_this_count v_p1_cells v_isThere v_boxes post n y2 y3 y4 → va_P (dC, dI) vwCl (w_Hm_differences ad a_p1 a_p1_cells a_p1_family a_p1_yard a_p1_columns a_p1_rows a_p1_line a_this a_isThere a_boxes k_p1_cells k_isThere k_boxes v_p1_atHand v_p1_count v_p1_thermal v_p1_density v_p1_outerHigh v_p1_pasteLeft v_p1_pasteLow v_p1_nameLength v_p1_isWritten v_this_count v_p1_cells v_isThere v_boxes) H → va_D A (w_Hm_differences ad a_p1 a_p1_cells a_p1_family a_p1_yard a_p1_columns a_p1_rows a_p1_line a_this a_isThere a_boxes k_p1_cells k_isThere k_boxes v_p1_atHand v_p1_count v_p1_thermal v_p1_density v_p1_outerHigh v_p1_pasteLeft v_p1_pasteLow v_p1_nameLength v_p1_isWritten v_this_count v_p1_cells v_isThere v_boxes) → va_S A s.heap H locs → ∀ ls : Array Slot, lv_has ls 8 [(0, .ref a_this), (1, .ref a_p1), (2, .int y2), (3, .int y3), (4, .int y4)] → W p l e (headSpec wsHm_differences { frames := 2, cells := 0, slots := 0, locals := 46 }).room s m args below meth c H locs 0 0 (MQ below (va_Qi (fun (r : Int32) (u : Unit) => post r) (zB (dC, dI) A (fun (u : Unit) => (w_Hm_differences ad a_p1 a_p1_cells a_p1_family a_p1_yard a_p1_columns a_p1_rows a_p1_line a_this a_isThere a_boxes k_p1_cells k_isThere k_boxes v_p1_atHand v_p1_count v_p1_thermal v_p1_density v_p1_outerHigh v_p1_pasteLeft v_p1_pasteLow v_p1_nameLength v_p1_isWritten v_this_count v_p1_cells v_isThere v_boxes))) A) args s 0 0 A) (F0 m 7 ls []) := by
  obtain ⟨hx, hb, hr, hml, hown, hts, hlocks, hA⟩ := id C0
  intro n
  induction n with
  | zero =>
    intro y2 y3 y4 H locs h
    exact False.elim h
  | succ n ih =>
    intro y2 y3 y4 H locs h hP hD hS ls hl
    rw [P_Hm_differences_7] at h
    refine lv_iload hx hb dHm_differences_7 (lv_at hl 4 rfl) ?_
    refine lv_aload_n hx hb dHm_differences_9 rfl (lv_at hl 1 rfl) ?_
    refine va_getN (D := (dC, dI)) (ci := 6) (v := .int v_p1_count) (C := RFp) (T := TFp) (N := 15) hx hb hts inZ_Fp hown hK hP 0 rfl rfl 2 (by decide) ((hE.nw _ zn_284).use rfl) (fun _ h9 => h9) rfl dHm_differences_10 ?_
    refine lv_icmp_ge (tgt := 94) hx hb dHm_differences_13 (by decide) ?_ ?_
    · intro c1
      replace h := h.1 c1
      refine lv_iload_n hx hb dHm_differences_94 rfl (lv_at hl 2 rfl) ?_
      refine lv_aload_n hx hb dHm_differences_95 rfl (lv_at hl 0 rfl) ?_
      refine va_get (D := (dC, dI)) (ci := 8) (v := .int v_this_count) (C := RHm) (T := THm) (N := 3) hx hb hts inZ_Hm hown hK hP 1 rfl rfl 2 (by decide) (hts _ zw_176) (fun _ h9 => h9) rfl dHm_differences_96 ?_
      refine lv_iadd hx hb dHm_differences_99 ?_
      refine lv_iload_n hx hb dHm_differences_100 rfl (lv_at hl 3 rfl) ?_
      refine lv_isub hx hb dHm_differences_101 ?_
      exact W.iret (v := ((y2 + v_this_count) - y3)) hx hb hr (fun t ht hW => ⟨⟨((y2 + v_this_count) - y3), (()), rfl, h, by rw [ht]; exact hP, hD⟩, hS.F ht⟩) hS.2.2 dHm_differences_102
    · intro c1
      replace h := h.2 c1
      refine lv_aload_n hx hb dHm_differences_16 rfl (lv_at hl 1 rfl) ?_
      refine lv_iload hx hb dHm_differences_17 (lv_at hl 4 rfl) ?_
      refine lv_iconst (v := 0) hx hb dHm_differences_19 (by decide) ?_
      refine zcall_l hP hD hS hA [0, 2] [1, 3, 4] (va_runVN (As := [.int y4, .int 0]) (rest := []) ⟨hx, hb, hml, hown, hts⟩ (c_Fp_cell l dC dI ad a_p1 a_p1_cells a_p1_family a_p1_yard a_p1_columns a_p1_rows a_p1_line k_p1_cells _ y4 0 v_p1_atHand v_p1_count v_p1_thermal v_p1_density v_p1_outerHigh v_p1_pasteLeft v_p1_pasteLow v_p1_nameLength v_p1_isWritten v_p1_cells _ h) ⟨va_cnB 2 hts (zgood zc_Fp_cell) rfl rfl rfl (hE.nw _ zn_1006) (hts _ zw_101) (by decide +kernel) ⟨Nat.le_of_ble_eq_true rfl, Nat.le_of_ble_eq_true rfl⟩, (hts _ zw_820), (hts _ zw_46)⟩ (zpreV hE hK hP hD hS hA [0, 2] [0] (by rfl) (by rfl) (by decide) (ci := 6) (q0 := 0) rfl (by rfl)) rfl rfl hl.1 rfl (lv_room (Nat.le_of_ble_eq_true rfl)) dHm_differences_20 ⟨Nat.le_of_ble_eq_true rfl, Nat.le_of_ble_eq_true rfl⟩) (by rfl) (by rfl) (by decide) (by decide) (fun r2 u H locs h hP hD hS => ?_)
      try dsimp only at h
      have hP := hP.sub (ws' := (w_Hm_differences ad a_p1 a_p1_cells a_p1_family a_p1_yard a_p1_columns a_p1_rows a_p1_line a_this a_isThere a_boxes k_p1_cells k_isThere k_boxes v_p1_atHand v_p1_count v_p1_thermal v_p1_density v_p1_outerHigh v_p1_pasteLeft v_p1_pasteLow v_p1_nameLength v_p1_isWritten v_this_count v_p1_cells v_isThere v_boxes)) [3, 0, 4, 1, 2] rfl
      have hD := hD.sub (ws' := (w_Hm_differences ad a_p1 a_p1_cells a_p1_family a_p1_yard a_p1_columns a_p1_rows a_p1_line a_this a_isThere a_boxes k_p1_cells k_isThere k_boxes v_p1_atHand v_p1_count v_p1_thermal v_p1_density v_p1_outerHigh v_p1_pasteLeft v_p1_pasteLow v_p1_nameLength v_p1_isWritten v_this_count v_p1_cells v_isThere v_boxes)) [3, 0, 4, 1, 2] (by decide) rfl
      refine lv_lstore (lv' := [(5, .long r2), (0, .ref a_this), (1, .ref a_p1), (2, .int y2), (3, .int y3), (4, .int y4)]) hx hb dHm_differences_23 hl (by decide) rfl (fun ls hl => ?_)
      refine lv_lload hx hb dHm_differences_25 (lv_at hl 0 rfl) ?_
      refine lv_lconst (v := 1) hx hb dHm_differences_27 (by decide) ?_
      refine zz_lcmp_lt (tgt := 56) hx hb dHm_differences_28 dHm_differences_29 (by decide) ?_ ?_
      · intro c3
        replace h := h.1 c3
        exact w_Hm_differences_56 l C0 hE a_p1 a_p1_cells a_p1_family a_p1_yard a_p1_columns a_p1_rows a_p1_line a_this a_isThere a_boxes k_p1_cells k_isThere k_boxes v_p1_atHand v_p1_count v_p1_thermal v_p1_density v_p1_outerHigh v_p1_pasteLeft v_p1_pasteLow v_p1_nameLength v_p1_isWritten v_this_count v_p1_cells v_isThere v_boxes post (P_Hm_differences_7 v_p1_count v_this_count v_p1_cells v_isThere v_boxes post n) ih hK y2 y3 y4 r2 _ _ h hP hD hS ls (lv_sub hl [1, 2, 3, 4, 5, 0] rfl)
      · intro c3
        replace h := h.2 c3
        refine lv_lload hx hb dHm_differences_32 (lv_at hl 0 rfl) ?_
        refine lv_ldc2 (own := RHm) (index := 30) (v := 80) hx hb hown (hts _ zw_1007) dHm_differences_34 ?_
        refine zz_lcmp_gt (tgt := 56) hx hb dHm_differences_37 dHm_differences_38 (by decide) ?_ ?_
        · intro c4
          replace h := h.1 c4
          exact w_Hm_differences_56 l C0 hE a_p1 a_p1_cells a_p1_family a_p1_yard a_p1_columns a_p1_rows a_p1_line a_this a_isThere a_boxes k_p1_cells k_isThere k_boxes v_p1_atHand v_p1_count v_p1_thermal v_p1_density v_p1_outerHigh v_p1_pasteLeft v_p1_pasteLow v_p1_nameLength v_p1_isWritten v_this_count v_p1_cells v_isThere v_boxes post (P_Hm_differences_7 v_p1_count v_this_count v_p1_cells v_isThere v_boxes post n) ih hK y2 y3 y4 r2 _ _ h hP hD hS ls (lv_sub hl [1, 2, 3, 4, 5, 0] rfl)
        · intro c4
          replace h := h.2 c4
          refine lv_aload_n hx hb dHm_differences_41 rfl (lv_at hl 1 rfl) ?_
          refine va_get (D := (dC, dI)) (ci := 8) (v := .ref a_isThere) (C := RHm) (T := THm) (N := 3) hx hb hts inZ_Hm hown hK hP 1 rfl rfl 0 (by decide) (hts _ zw_174) (fun _ h9 => h9) rfl dHm_differences_42 ?_
          refine lv_lload hx hb dHm_differences_45 (lv_at hl 0 rfl) ?_
          refine lv_l2i hx hb dHm_differences_47 rfl ?_
          obtain ⟨hn5, h⟩ := h
          refine va_zald hx hb hK hP 3 1 rfl rfl hn5 dHm_differences_48 ?_
          refine lv_if_eq (tgt := 56) hx hb dHm_differences_49 (by decide) ?_ ?_
          · intro c6
            replace h := h.1 c6
            exact w_Hm_differences_56 l C0 hE a_p1 a_p1_cells a_p1_family a_p1_yard a_p1_columns a_p1_rows a_p1_line a_this a_isThere a_boxes k_p1_cells k_isThere k_boxes v_p1_atHand v_p1_count v_p1_thermal v_p1_density v_p1_outerHigh v_p1_pasteLeft v_p1_pasteLow v_p1_nameLength v_p1_isWritten v_this_count v_p1_cells v_isThere v_boxes post (P_Hm_differences_7 v_p1_count v_this_count v_p1_cells v_isThere v_boxes post n) ih hK y2 y3 y4 r2 _ _ h hP hD hS ls (lv_sub hl [1, 2, 3, 4, 5, 0] rfl)
          · intro c6
            replace h := h.2 c6
            refine lv_iconst (v := 1) hx hb dHm_differences_52 (by decide) ?_
            refine lv_goto (tgt := 57) hx hb dHm_differences_53 (by decide) ?_
            exact w_Hm_differences_57 l C0 hE a_p1 a_p1_cells a_p1_family a_p1_yard a_p1_columns a_p1_rows a_p1_line a_this a_isThere a_boxes k_p1_cells k_isThere k_boxes v_p1_atHand v_p1_count v_p1_thermal v_p1_density v_p1_outerHigh v_p1_pasteLeft v_p1_pasteLow v_p1_nameLength v_p1_isWritten v_this_count v_p1_cells v_isThere v_boxes post (P_Hm_differences_7 v_p1_count v_this_count v_p1_cells v_isThere v_boxes post n) ih hK y2 y3 y4 r2 1 _ _ h hP hD hS ls (lv_sub hl [1, 2, 3, 4, 5, 0] rfl)
def P_Hm_differences (v_p1_count : Int32) (v_this_count : Int32) (v_p1_cells : Nat → Int64) (v_isThere : Nat → Int32) (v_boxes : Nat → Int64) (post : Int32 → Prop) : Prop := ∃ n1, P_Hm_differences_7 v_p1_count v_this_count v_p1_cells v_isThere v_boxes post n1 0 0 0
set_option maxHeartbeats 4000000 in
set_option maxRecDepth 100000 in
theorem c_Hm_differences (l : Launch) (dC : Nat → ClassId) (dI : Nat → Nat → Nat) (ad : Nat → Nat → Nat) (a_p1 : Nat) (a_p1_cells : Nat) (a_p1_family : Nat) (a_p1_yard : Nat) (a_p1_columns : Nat) (a_p1_rows : Nat) (a_p1_line : Nat) (a_this : Nat) (a_isThere : Nat) (a_boxes : Nat) (k_p1_cells : ClassId) (k_isThere : ClassId) (k_boxes : ClassId) (sz : Nat) (v_p1_atHand : Int32) (v_p1_count : Int32) (v_p1_thermal : Int32) (v_p1_density : Int32) (v_p1_outerHigh : Int64) (v_p1_pasteLeft : Int64) (v_p1_pasteLow : Int64) (v_p1_nameLength : Int32) (v_p1_isWritten : Int32) (v_this_count : Int32) (v_p1_cells : Nat → Int64) (v_isThere : Nat → Int32) (v_boxes : Nat → Int64) (post : Int32 → Prop) (h : P_Hm_differences v_p1_count v_this_count v_p1_cells v_isThere v_boxes post) : zMi l yHm_differences wsHm_differences { frames := 2, cells := 0, slots := 0, locals := 46 } (dC, dI) ad [.ref a_this, .ref a_p1] (w_Hm_differences ad a_p1 a_p1_cells a_p1_family a_p1_yard a_p1_columns a_p1_rows a_p1_line a_this a_isThere a_boxes k_p1_cells k_isThere k_boxes v_p1_atHand v_p1_count v_p1_thermal v_p1_density v_p1_outerHigh v_p1_pasteLeft v_p1_pasteLow v_p1_nameLength v_p1_isWritten v_this_count v_p1_cells v_isThere v_boxes) [(k_p1_cells, .long), (k_isThere, .boolean), (k_boxes, .long)] sz (fun (r : Int32) (u : Unit) => post r) (fun (u : Unit) => (w_Hm_differences ad a_p1 a_p1_cells a_p1_family a_p1_yard a_p1_columns a_p1_rows a_p1_line a_this a_isThere a_boxes k_p1_cells k_isThere k_boxes v_p1_atHand v_p1_count v_p1_thermal v_p1_density v_p1_outerHigh v_p1_pasteLeft v_p1_pasteLow v_p1_nameLength v_p1_isWritten v_this_count v_p1_cells v_isThere v_boxes)) 0 0 := by
  refine Met.ofW (cc := cHm_differences) (maxL := 8) (ret := (some .int)) (by decide +kernel) rfl ?_
  intro p e s m args below meth c s₁ B hml hv
  obtain ⟨rfl, hsz, hP, hK, hD0, hE⟩ := hv
  have hx := B.exec
  have hb := B.bytes
  have hr := B.returns
  have hts0 := atoms_spec (ws := wsHm_differences) B.pre
  have hts := fun w h => hts0 w (List.mem_cons_of_mem _ h)
  have hown : s.vm.findClass RHm = some m.cls := findClass_of_methodNamed B.named
  have hlocks := B.notSynchronized
  subst hsz
  have hD := hD0.self (sz := s.heap.size)
  generalize hAe : va_A (w_Hm_differences ad a_p1 a_p1_cells a_p1_family a_p1_yard a_p1_columns a_p1_rows a_p1_line a_this a_isThere a_boxes k_p1_cells k_isThere k_boxes v_p1_atHand v_p1_count v_p1_thermal v_p1_density v_p1_outerHigh v_p1_pasteLeft v_p1_pasteLow v_p1_nameLength v_p1_isWritten v_this_count v_p1_cells v_isThere v_boxes) s.heap.size = A at hD hE ⊢
  have hA : ∀ q : Nat, s.heap.size ≤ q → A q := fun q h => by rw [← hAe]; exact Or.inr h
  have C0 := zC.mk hx hb hr hml hown hts hlocks hA
  have hS : va_S A s.heap s.heap [] := va_S.rf
  have hl := lv_entry ([.ref a_this, .ref a_p1]) (n := 8) (Nat.le_of_ble_eq_true rfl)
  rw [lg_entry_eq]
  generalize (lg_sl ([.ref a_this, .ref a_p1]) ++ List.replicate (8 - (lg_sl ([.ref a_this, .ref a_p1])).length) Slot.unset).toArray = ls at hl ⊢
  have hl : lv_has ls 8 [(0, .ref a_this), (1, .ref a_p1)] := hl
  unfold P_Hm_differences at h
  refine lv_iconst (v := 0) hx hb dHm_differences_0 (by decide) ?_
  refine lv_istore_n (lv' := [(2, .int 0), (0, .ref a_this), (1, .ref a_p1)]) hx hb dHm_differences_1 rfl hl (by decide) rfl (fun ls hl => ?_)
  refine lv_iconst (v := 0) hx hb dHm_differences_2 (by decide) ?_
  refine lv_istore_n (lv' := [(3, .int 0), (2, .int 0), (0, .ref a_this), (1, .ref a_p1)]) hx hb dHm_differences_3 rfl hl (by decide) rfl (fun ls hl => ?_)
  refine lv_iconst (v := 0) hx hb dHm_differences_4 (by decide) ?_
  refine lv_istore (lv' := [(4, .int 0), (3, .int 0), (2, .int 0), (0, .ref a_this), (1, .ref a_p1)]) hx hb dHm_differences_5 hl (by decide) rfl (fun ls hl => ?_)
  obtain ⟨n1, h⟩ := h
  exact w_Hm_differences_7 l C0 hE a_p1 a_p1_cells a_p1_family a_p1_yard a_p1_columns a_p1_rows a_p1_line a_this a_isThere a_boxes k_p1_cells k_isThere k_boxes v_p1_atHand v_p1_count v_p1_thermal v_p1_density v_p1_outerHigh v_p1_pasteLeft v_p1_pasteLow v_p1_nameLength v_p1_isWritten v_this_count v_p1_cells v_isThere v_boxes post hK n1 0 0 0 _ _ h hP hD hS ls (lv_sub hl [3, 4, 2, 1, 0] rfl)
abbrev yF_unit : MethodName := ⟨"FootprintRules", "unit", "(I)Z"⟩
abbrev cF_unit : ByteArray := prog_1_method_2_code
abbrev wsF_unit : List Cond := .code yF_unit cF_unit 2 (some .boolean) :: zT
set_option maxRecDepth 100000 in
theorem zc_F_unit : Cond.code yF_unit cF_unit 2 (some .boolean) ∈ zT := zm 394 (by rfl) (by rfl)
theorem dF_unit_0 : decode cF_unit 0 = .ok (.aload_n 0, 1) := by decide +kernel
theorem dF_unit_1 : decode cF_unit 1 = .ok (.getfield 10, 3) := by decide +kernel
theorem dF_unit_4 : decode cF_unit 4 = .ok (.getfield 42, 3) := by decide +kernel
theorem dF_unit_7 : decode cF_unit 7 = .ok (.iload_n 1, 1) := by decide +kernel
theorem dF_unit_8 : decode cF_unit 8 = .ok (.invokevirtual 46, 3) := by decide +kernel
theorem dF_unit_11 : decode cF_unit 11 = .ok (.ireturn, 1) := by decide +kernel
-- FootprintRules.unit(I)Z
abbrev w_F_unit (ad : Nat → Nat → Nat) (a_this : Nat) (a_reader : Nat) (a_families : Nat) (a_handMade : Nat) (a_maker : Nat) (a_maker_print : Nat) (a_reader_words : Nat) (a_reader_words_units : Nat) (k_reader_words_units : ClassId) (v_this_familyCount : Int32) (v_reader_toldKeys : Int32) (v_reader_words_length : Int32) (v_reader_words_start : Int32) (v_reader_words_end : Int32) (v_reader_words_place : Int32) (v_reader_words_units : Nat → Int32) : va_W := [(a_this, .inr (9, [.ref a_reader, .ref a_families, .int v_this_familyCount, .ref a_handMade, .ref a_maker, .ref a_maker_print])), (a_reader, .inr (1, [.ref a_reader_words, .int v_reader_toldKeys])), (a_reader_words, .inr (0, [.ref a_reader_words_units, .int v_reader_words_length, .int v_reader_words_start, .int v_reader_words_end, .int v_reader_words_place])), (a_reader_words_units, .inl (k_reader_words_units, 600, .inl v_reader_words_units))]
def P_F_unit (p1 : Int32) (v_reader_words_length : Int32) (v_reader_words_units : Nat → Int32) (post : Int32 → Int32 → (Nat → Int32) → Prop) : Prop := P_Wo_add p1 v_reader_words_length v_reader_words_units (fun (r3 : Int32) (u1 : Int32) (u2 : Nat → Int32) => narrow .boolean (.int r3) = .int r3 ∧ post r3 u1 u2)
set_option maxHeartbeats 4000000 in
set_option maxRecDepth 100000 in
theorem c_F_unit (l : Launch) (dC : Nat → ClassId) (dI : Nat → Nat → Nat) (ad : Nat → Nat → Nat) (a_this : Nat) (a_reader : Nat) (a_families : Nat) (a_handMade : Nat) (a_maker : Nat) (a_maker_print : Nat) (a_reader_words : Nat) (a_reader_words_units : Nat) (k_reader_words_units : ClassId) (sz : Nat) (p1 : Int32) (v_this_familyCount : Int32) (v_reader_toldKeys : Int32) (v_reader_words_length : Int32) (v_reader_words_start : Int32) (v_reader_words_end : Int32) (v_reader_words_place : Int32) (v_reader_words_units : Nat → Int32) (post : Int32 → Int32 → (Nat → Int32) → Prop) (h : P_F_unit p1 v_reader_words_length v_reader_words_units post) : zMi l yF_unit wsF_unit { frames := 1, cells := 0, slots := 0, locals := 21 } (dC, dI) ad [.ref a_this, .int p1] (w_F_unit ad a_this a_reader a_families a_handMade a_maker a_maker_print a_reader_words a_reader_words_units k_reader_words_units v_this_familyCount v_reader_toldKeys v_reader_words_length v_reader_words_start v_reader_words_end v_reader_words_place v_reader_words_units) [(k_reader_words_units, .char)] sz (fun (r : Int32) (u : Int32 × (Nat → Int32)) => post r u.1 u.2) (fun (u : Int32 × (Nat → Int32)) => (w_F_unit ad a_this a_reader a_families a_handMade a_maker a_maker_print a_reader_words a_reader_words_units k_reader_words_units v_this_familyCount v_reader_toldKeys u.1 v_reader_words_start v_reader_words_end v_reader_words_place u.2)) 0 0 := by
  refine Met.ofW (cc := cF_unit) (maxL := 2) (ret := (some .boolean)) (by decide +kernel) rfl ?_
  intro p e s m args below meth c s₁ B hml hv
  obtain ⟨rfl, hsz, hP, hK, hD0, hE⟩ := hv
  have hx := B.exec
  have hb := B.bytes
  have hr := B.returns
  have hts0 := atoms_spec (ws := wsF_unit) B.pre
  have hts := fun w h => hts0 w (List.mem_cons_of_mem _ h)
  have hown : s.vm.findClass RF = some m.cls := findClass_of_methodNamed B.named
  have hlocks := B.notSynchronized
  subst hsz
  have hD := hD0.self (sz := s.heap.size)
  generalize hAe : va_A (w_F_unit ad a_this a_reader a_families a_handMade a_maker a_maker_print a_reader_words a_reader_words_units k_reader_words_units v_this_familyCount v_reader_toldKeys v_reader_words_length v_reader_words_start v_reader_words_end v_reader_words_place v_reader_words_units) s.heap.size = A at hD hE ⊢
  have hA : ∀ q : Nat, s.heap.size ≤ q → A q := fun q h => by rw [← hAe]; exact Or.inr h
  have C0 := zC.mk hx hb hr hml hown hts hlocks hA
  have hS : va_S A s.heap s.heap [] := va_S.rf
  have hl := lv_entry ([.ref a_this, .int p1]) (n := 2) (Nat.le_of_ble_eq_true rfl)
  rw [lg_entry_eq]
  generalize (lg_sl ([.ref a_this, .int p1]) ++ List.replicate (2 - (lg_sl ([.ref a_this, .int p1])).length) Slot.unset).toArray = ls at hl ⊢
  have hl : lv_has ls 2 [(0, .ref a_this), (1, .int p1)] := hl
  unfold P_F_unit at h
  refine lv_aload_n hx hb dF_unit_0 rfl (lv_at hl 0 rfl) ?_
  refine va_get (D := (dC, dI)) (ci := 9) (v := .ref a_reader) (C := RF) (T := TF) (N := 6) hx hb hts inZ_F hown hK hP 0 rfl rfl 0 (by decide) (hts _ zw_372) (fun _ h9 => h9) rfl dF_unit_1 ?_
  refine va_getN (D := (dC, dI)) (ci := 1) (v := .ref a_reader_words) (C := RFR) (T := TFR) (N := 2) hx hb hts inZ_FR hown hK hP 1 rfl rfl 0 (by decide) ((hE.nw _ zn_159).use rfl) (fun _ h9 => h9) rfl dF_unit_4 ?_
  refine lv_iload_n hx hb dF_unit_7 rfl (lv_at hl 1 rfl) ?_
  refine zcall_i hP hD hS hA [2, 3] [0, 1] (va_runVN (As := [.int p1]) (rest := []) ⟨hx, hb, hml, hown, hts⟩ (c_Wo_add l dC dI ad a_reader_words a_reader_words_units k_reader_words_units _ p1 v_reader_words_length v_reader_words_start v_reader_words_end v_reader_words_place v_reader_words_units _ h) ⟨va_cnB 1 hts (zgood zc_Wo_add) rfl rfl rfl (hE.nw _ zn_395) (hts _ zw_97) (by decide +kernel) ⟨Nat.le_of_ble_eq_true rfl, Nat.le_of_ble_eq_true rfl⟩, (hts _ zw_397), (hts _ zw_0)⟩ (zpreV hE hK hP hD hS hA [2, 3] [0] (by rfl) (by rfl) (by decide) (ci := 0) (q0 := 2) rfl (by rfl)) rfl rfl hl.1 rfl (lv_room (Nat.le_of_ble_eq_true rfl)) dF_unit_8 ⟨Nat.le_of_ble_eq_true rfl, Nat.le_of_ble_eq_true rfl⟩) (by rfl) (by rfl) (by decide) (by decide) (fun r3 u H locs h hP hD hS => ?_)
  obtain ⟨u1, u2⟩ := u
  try dsimp only at h
  have hP := hP.sub (ws' := (w_F_unit ad a_this a_reader a_families a_handMade a_maker a_maker_print a_reader_words a_reader_words_units k_reader_words_units v_this_familyCount v_reader_toldKeys u1 v_reader_words_start v_reader_words_end v_reader_words_place u2)) [0, 1, 2, 3] rfl
  have hD := hD.sub (ws' := (w_F_unit ad a_this a_reader a_families a_handMade a_maker a_maker_print a_reader_words a_reader_words_units k_reader_words_units v_this_familyCount v_reader_toldKeys u1 v_reader_words_start v_reader_words_end v_reader_words_place u2)) [0, 1, 2, 3] (by decide) rfl
  obtain ⟨hn4, h⟩ := h
  exact W.zret (v := r3) hx hb hr hn4 (fun t ht hW => ⟨⟨r3, (u1, u2), rfl, h, by rw [ht]; exact hP, hD⟩, hS.F ht⟩) hS.2.2 dF_unit_11
abbrev yF_isWithin : MethodName := ⟨"FootprintRules", "isWithin", "(JJJ)Z"⟩
abbrev cF_isWithin : ByteArray := prog_1_method_21_code
abbrev wsF_isWithin : List Cond := .code yF_isWithin cF_isWithin 6 (some .boolean) :: zT
set_option maxRecDepth 100000 in
theorem zc_F_isWithin : Cond.code yF_isWithin cF_isWithin 6 (some .boolean) ∈ zT := zm 658 (by rfl) (by rfl)
theorem dF_isWithin_0 : decode cF_isWithin 0 = .ok (.lload_n 0, 1) := by decide +kernel
theorem dF_isWithin_1 : decode cF_isWithin 1 = .ok (.lload_n 2, 1) := by decide +kernel
theorem dF_isWithin_2 : decode cF_isWithin 2 = .ok (.lcmp, 1) := by decide +kernel
theorem dF_isWithin_3 : decode cF_isWithin 3 = .ok (.ifCond .lt 14, 3) := by decide +kernel
theorem dF_isWithin_6 : decode cF_isWithin 6 = .ok (.lload_n 0, 1) := by decide +kernel
theorem dF_isWithin_7 : decode cF_isWithin 7 = .ok (.lload 4, 2) := by decide +kernel
theorem dF_isWithin_9 : decode cF_isWithin 9 = .ok (.lcmp, 1) := by decide +kernel
theorem dF_isWithin_10 : decode cF_isWithin 10 = .ok (.ifCond .gt 7, 3) := by decide +kernel
theorem dF_isWithin_13 : decode cF_isWithin 13 = .ok (.iconst 1, 1) := by decide +kernel
theorem dF_isWithin_14 : decode cF_isWithin 14 = .ok (.goto 4, 3) := by decide +kernel
theorem dF_isWithin_17 : decode cF_isWithin 17 = .ok (.iconst 0, 1) := by decide +kernel
theorem dF_isWithin_18 : decode cF_isWithin 18 = .ok (.ireturn, 1) := by decide +kernel
-- FootprintRules.isWithin(JJJ)Z
abbrev w_F_isWithin (ad : Nat → Nat → Nat)    : va_W := []
def P_F_isWithin (p0 : Int64) (p2 : Int64) (p4 : Int64) (post : Int32 → Prop) : Prop := ((p0 < p2 → post 0) ∧ (¬ p0 < p2 → ((p4 < p0 → post 0) ∧ (¬ p4 < p0 → post 1))))
set_option maxHeartbeats 4000000 in
set_option maxRecDepth 100000 in
theorem c_F_isWithin (l : Launch) (dC : Nat → ClassId) (dI : Nat → Nat → Nat) (ad : Nat → Nat → Nat)   (sz : Nat) (p0 : Int64) (p2 : Int64) (p4 : Int64) (post : Int32 → Prop) (h : P_F_isWithin p0 p2 p4 post) : zMi l yF_isWithin wsF_isWithin { frames := 0, cells := 0, slots := 0, locals := 0 } (dC, dI) ad [.long p0, .long p2, .long p4] (w_F_isWithin ad ) [] sz (fun (r : Int32) (u : Unit) => post r) (fun (u : Unit) => (w_F_isWithin ad )) 0 0 := by
  refine Met.ofW (cc := cF_isWithin) (maxL := 6) (ret := (some .boolean)) (by decide +kernel) rfl ?_
  intro p e s m args below meth c s₁ B hml hv
  obtain ⟨rfl, hsz, hP, hK, hD0, hE⟩ := hv
  have hx := B.exec
  have hb := B.bytes
  have hr := B.returns
  have hts0 := atoms_spec (ws := wsF_isWithin) B.pre
  have hts := fun w h => hts0 w (List.mem_cons_of_mem _ h)
  have hown : s.vm.findClass RF = some m.cls := findClass_of_methodNamed B.named
  have hlocks := B.notSynchronized
  subst hsz
  have hD := hD0.self (sz := s.heap.size)
  generalize hAe : va_A (w_F_isWithin ad ) s.heap.size = A at hD hE ⊢
  have hA : ∀ q : Nat, s.heap.size ≤ q → A q := fun q h => by rw [← hAe]; exact Or.inr h
  have C0 := zC.mk hx hb hr hml hown hts hlocks hA
  have hS : va_S A s.heap s.heap [] := va_S.rf
  have hl := lv_entry ([.long p0, .long p2, .long p4]) (n := 6) (Nat.le_of_ble_eq_true rfl)
  rw [lg_entry_eq]
  generalize (lg_sl ([.long p0, .long p2, .long p4]) ++ List.replicate (6 - (lg_sl ([.long p0, .long p2, .long p4])).length) Slot.unset).toArray = ls at hl ⊢
  have hl : lv_has ls 6 [(0, .long p0), (2, .long p2), (4, .long p4)] := hl
  unfold P_F_isWithin at h
  refine lv_lload_n hx hb dF_isWithin_0 rfl (lv_at hl 0 rfl) ?_
  refine lv_lload_n hx hb dF_isWithin_1 rfl (lv_at hl 1 rfl) ?_
  refine zz_lcmp_lt (tgt := 17) hx hb dF_isWithin_2 dF_isWithin_3 (by decide) ?_ ?_
  · intro c1
    replace h := h.1 c1
    refine lv_iconst (v := 0) hx hb dF_isWithin_17 (by decide) ?_
    exact W.zret (v := 0) hx hb hr rfl (fun t ht hW => ⟨⟨0, (()), rfl, h, by rw [ht]; exact hP, hD⟩, hS.F ht⟩) hS.2.2 dF_isWithin_18
  · intro c1
    replace h := h.2 c1
    refine lv_lload_n hx hb dF_isWithin_6 rfl (lv_at hl 0 rfl) ?_
    refine lv_lload hx hb dF_isWithin_7 (lv_at hl 2 rfl) ?_
    refine zz_lcmp_gt (tgt := 17) hx hb dF_isWithin_9 dF_isWithin_10 (by decide) ?_ ?_
    · intro c2
      replace h := h.1 c2
      refine lv_iconst (v := 0) hx hb dF_isWithin_17 (by decide) ?_
      exact W.zret (v := 0) hx hb hr rfl (fun t ht hW => ⟨⟨0, (()), rfl, h, by rw [ht]; exact hP, hD⟩, hS.F ht⟩) hS.2.2 dF_isWithin_18
    · intro c2
      replace h := h.2 c2
      refine lv_iconst (v := 1) hx hb dF_isWithin_13 (by decide) ?_
      refine lv_goto (tgt := 18) hx hb dF_isWithin_14 (by decide) ?_
      exact W.zret (v := 1) hx hb hr rfl (fun t ht hW => ⟨⟨1, (()), rfl, h, by rw [ht]; exact hP, hD⟩, hS.F ht⟩) hS.2.2 dF_isWithin_18
abbrev yMa_forget : MethodName := ⟨"FootprintRules$Maker", "forget", "()V"⟩
abbrev cMa_forget : ByteArray := prog_10_method_2_code
abbrev wsMa_forget : List Cond := .code yMa_forget cMa_forget 2 none :: zT
set_option maxRecDepth 100000 in
theorem zc_Ma_forget : Cond.code yMa_forget cMa_forget 2 none ∈ zT := zm 410 (by rfl) (by rfl)
theorem dMa_forget_0 : decode cMa_forget 0 = .ok (.aload_n 0, 1) := by decide +kernel
theorem dMa_forget_1 : decode cMa_forget 1 = .ok (.getfield 12, 3) := by decide +kernel
theorem dMa_forget_4 : decode cMa_forget 4 = .ok (.invokevirtual 29, 3) := by decide +kernel
theorem dMa_forget_7 : decode cMa_forget 7 = .ok (.aload_n 0, 1) := by decide +kernel
theorem dMa_forget_8 : decode cMa_forget 8 = .ok (.getfield 25, 3) := by decide +kernel
theorem dMa_forget_11 : decode cMa_forget 11 = .ok (.iconst 0, 1) := by decide +kernel
theorem dMa_forget_12 : decode cMa_forget 12 = .ok (.putfield 32, 3) := by decide +kernel
theorem dMa_forget_15 : decode cMa_forget 15 = .ok (.iconst 0, 1) := by decide +kernel
theorem dMa_forget_16 : decode cMa_forget 16 = .ok (.istore_n 1, 1) := by decide +kernel
theorem dMa_forget_17 : decode cMa_forget 17 = .ok (.iload_n 1, 1) := by decide +kernel
theorem dMa_forget_18 : decode cMa_forget 18 = .ok (.aload_n 0, 1) := by decide +kernel
theorem dMa_forget_19 : decode cMa_forget 19 = .ok (.getfield 18, 3) := by decide +kernel
theorem dMa_forget_22 : decode cMa_forget 22 = .ok (.arraylength, 1) := by decide +kernel
theorem dMa_forget_23 : decode cMa_forget 23 = .ok (.if_icmp .ge 16, 3) := by decide +kernel
theorem dMa_forget_26 : decode cMa_forget 26 = .ok (.aload_n 0, 1) := by decide +kernel
theorem dMa_forget_27 : decode cMa_forget 27 = .ok (.getfield 18, 3) := by decide +kernel
theorem dMa_forget_30 : decode cMa_forget 30 = .ok (.iload_n 1, 1) := by decide +kernel
theorem dMa_forget_31 : decode cMa_forget 31 = .ok (.iconst 0, 1) := by decide +kernel
theorem dMa_forget_32 : decode cMa_forget 32 = .ok (.bastore, 1) := by decide +kernel
theorem dMa_forget_33 : decode cMa_forget 33 = .ok (.iinc 1 1, 3) := by decide +kernel
theorem dMa_forget_36 : decode cMa_forget 36 = .ok (.goto (-19), 3) := by decide +kernel
theorem dMa_forget_39 : decode cMa_forget 39 = .ok (.return_, 1) := by decide +kernel
-- FootprintRules$Maker.forget()V
abbrev w_Ma_forget (ad : Nat → Nat → Nat) (a_this : Nat) (a_spans : Nat) (a_leftOut : Nat) (a_print : Nat) (a_spans_lows : Nat) (a_spans_highs : Nat) (a_print_cells : Nat) (a_print_family : Nat) (a_print_yard : Nat) (a_print_columns : Nat) (a_print_rows : Nat) (a_print_line : Nat) (k_leftOut : ClassId) (v_this_rounding : Int64) (v_this_toe : Int64) (v_this_heel : Int64) (v_this_side : Int64) (v_this_pitch : Int64) (v_this_outer : Int64) (v_this_inner : Int64) (v_this_across : Int64) (v_this_hole : Int64) (v_spans_toldBits : Int32) (v_spans_exactBits : Int32) (v_print_atHand : Int32) (v_print_count : Int32) (v_print_thermal : Int32) (v_print_density : Int32) (v_print_outerHigh : Int64) (v_print_pasteLeft : Int64) (v_print_pasteLow : Int64) (v_print_nameLength : Int32) (v_print_isWritten : Int32) (v_leftOut : Nat → Int32) : va_W := [(a_this, .inr (4, [.ref a_spans, .ref a_leftOut, .ref a_print, .long v_this_rounding, .long v_this_toe, .long v_this_heel, .long v_this_side, .long v_this_pitch, .long v_this_outer, .long v_this_inner, .long v_this_across, .long v_this_hole])), (a_spans, .inr (3, [.ref a_spans_lows, .ref a_spans_highs, .int v_spans_toldBits, .int v_spans_exactBits])), (a_print, .inr (6, [.int v_print_atHand, .ref a_print_cells, .int v_print_count, .int v_print_thermal, .ref a_print_family, .int v_print_density, .long v_print_outerHigh, .ref a_print_yard, .ref a_print_columns, .ref a_print_rows, .long v_print_pasteLeft, .long v_print_pasteLow, .ref a_print_line, .int v_print_nameLength, .int v_print_isWritten])), (a_leftOut, .inl (k_leftOut, 65, .inl v_leftOut))]
def P_Ma_forget_17  (post : Int32 → Int32 → Int32 → (Nat → Int32) → Prop) : Nat → Int32 → Int32 → Int32 → Int32 → (Nat → Int32) → Prop
  | 0, _, _, _, _, _ => False
  | n + 1, y1, u_spans_toldBits, u_spans_exactBits, u_print_atHand, u_leftOut => ((65 ≤ y1 → post u_spans_toldBits u_spans_exactBits u_print_atHand u_leftOut) ∧ (¬ 65 ≤ y1 → vp_in y1 65 ∧ ∀ x3 : Int32, x3 = y1 + 1 → P_Ma_forget_17 post n x3 u_spans_toldBits u_spans_exactBits u_print_atHand (upd u_leftOut y1.toNatClampNeg (vp_nar .boolean 0))))
set_option maxHeartbeats 4000000 in
set_option maxRecDepth 100000 in
theorem w_Ma_forget_17 (l : Launch) {p : Program} {e : Env} {s : State} {m : MethodId} {args : Array Value} {below : List Frame} {meth : Method} {c : Code} {dC : Nat → ClassId} {dI : Nat → Nat → Nat} {ad : Nat → Nat → Nat} {A : Nat → Prop} (C0 : zC p s m args meth c cMa_forget 2 RMa zT none A) (hE : zE ad A s) (a_this : Nat) (a_spans : Nat) (a_leftOut : Nat) (a_print : Nat) (a_spans_lows : Nat) (a_spans_highs : Nat) (a_print_cells : Nat) (a_print_family : Nat) (a_print_yard : Nat) (a_print_columns : Nat) (a_print_rows : Nat) (a_print_line : Nat) (k_leftOut : ClassId) (v_this_rounding : Int64) (v_this_toe : Int64) (v_this_heel : Int64) (v_this_side : Int64) (v_this_pitch : Int64) (v_this_outer : Int64) (v_this_inner : Int64) (v_this_across : Int64) (v_this_hole : Int64) (v_spans_toldBits : Int32) (v_spans_exactBits : Int32) (v_print_atHand : Int32) (v_print_count : Int32) (v_print_thermal : Int32) (v_print_density : Int32) (v_print_outerHigh : Int64) (v_print_pasteLeft : Int64) (v_print_pasteLow : Int64) (v_print_nameLength : Int32) (v_print_isWritten : Int32) (v_leftOut : Nat → Int32) (post : Int32 → Int32 → Int32 → (Nat → Int32) → Prop) (hK : va_K (dC, dI) vwCl [(k_leftOut, .boolean)] s) : ∀ (n : Nat), ∀ (y1 : Int32) (u_spans_toldBits : Int32) (u_spans_exactBits : Int32) (u_print_atHand : Int32) (u_leftOut : Nat → Int32) (H : Heap) (locs : List Loc), P_Ma_forget_17 post n y1 u_spans_toldBits u_spans_exactBits u_print_atHand u_leftOut → va_P (dC, dI) vwCl (w_Ma_forget ad a_this a_spans a_leftOut a_print a_spans_lows a_spans_highs a_print_cells a_print_family a_print_yard a_print_columns a_print_rows a_print_line k_leftOut v_this_rounding v_this_toe v_this_heel v_this_side v_this_pitch v_this_outer v_this_inner v_this_across v_this_hole u_spans_toldBits u_spans_exactBits u_print_atHand v_print_count v_print_thermal v_print_density v_print_outerHigh v_print_pasteLeft v_print_pasteLow v_print_nameLength v_print_isWritten u_leftOut) H → va_D A (w_Ma_forget ad a_this a_spans a_leftOut a_print a_spans_lows a_spans_highs a_print_cells a_print_family a_print_yard a_print_columns a_print_rows a_print_line k_leftOut v_this_rounding v_this_toe v_this_heel v_this_side v_this_pitch v_this_outer v_this_inner v_this_across v_this_hole u_spans_toldBits u_spans_exactBits u_print_atHand v_print_count v_print_thermal v_print_density v_print_outerHigh v_print_pasteLeft v_print_pasteLow v_print_nameLength v_print_isWritten u_leftOut) → va_S A s.heap H locs → ∀ ls : Array Slot, lv_has ls 2 [(0, .ref a_this), (1, .int y1)] → W p l e (headSpec wsMa_forget { frames := 1, cells := 0, slots := 0, locals := 20 }).room s m args below meth c H locs 0 0 (MQ below (va_Qv (fun (u : Int32 × Int32 × Int32 × (Nat → Int32)) => post u.1 u.2.1 u.2.2.1 u.2.2.2) (zB (dC, dI) A (fun (u : Int32 × Int32 × Int32 × (Nat → Int32)) => (w_Ma_forget ad a_this a_spans a_leftOut a_print a_spans_lows a_spans_highs a_print_cells a_print_family a_print_yard a_print_columns a_print_rows a_print_line k_leftOut v_this_rounding v_this_toe v_this_heel v_this_side v_this_pitch v_this_outer v_this_inner v_this_across v_this_hole u.1 u.2.1 u.2.2.1 v_print_count v_print_thermal v_print_density v_print_outerHigh v_print_pasteLeft v_print_pasteLow v_print_nameLength v_print_isWritten u.2.2.2))) A) args s 0 0 A) (F0 m 17 ls []) := by
  obtain ⟨hx, hb, hr, hml, hown, hts, hlocks, hA⟩ := id C0
  intro n
  induction n with
  | zero =>
    intro y1 u_spans_toldBits u_spans_exactBits u_print_atHand u_leftOut H locs h
    exact False.elim h
  | succ n ih =>
    intro y1 u_spans_toldBits u_spans_exactBits u_print_atHand u_leftOut H locs h hP hD hS ls hl
    rw [P_Ma_forget_17] at h
    refine lv_iload_n hx hb dMa_forget_17 rfl (lv_at hl 1 rfl) ?_
    refine lv_aload_n hx hb dMa_forget_18 rfl (lv_at hl 0 rfl) ?_
    refine va_get (D := (dC, dI)) (ci := 4) (v := .ref a_leftOut) (C := RMa) (T := TMa) (N := 12) hx hb hts inZ_Ma hown hK hP 0 rfl rfl 1 (by decide) (hts _ zw_333) (fun _ h9 => h9) rfl dMa_forget_19 ?_
    refine va_alen (v := 65) hx hb hK hP 3 0 rfl rfl (show Int32.ofNat 65 = 65 by decide) dMa_forget_22 ?_
    refine lv_icmp_ge (tgt := 39) hx hb dMa_forget_23 (by decide) ?_ ?_
    · intro c1
      replace h := h.1 c1
      exact W.vret hx hb hr (fun t ht hW => ⟨⟨(u_spans_toldBits, u_spans_exactBits, u_print_atHand, u_leftOut), rfl, h, by rw [ht]; exact hP, hD⟩, hS.F ht⟩) hS.2.2 dMa_forget_39
    · intro c1
      replace h := h.2 c1
      refine lv_aload_n hx hb dMa_forget_26 rfl (lv_at hl 0 rfl) ?_
      refine va_get (D := (dC, dI)) (ci := 4) (v := .ref a_leftOut) (C := RMa) (T := TMa) (N := 12) hx hb hts inZ_Ma hown hK hP 0 rfl rfl 1 (by decide) (hts _ zw_333) (fun _ h9 => h9) rfl dMa_forget_27 ?_
      refine lv_iload_n hx hb dMa_forget_30 rfl (lv_at hl 1 rfl) ?_
      refine lv_iconst (v := 0) hx hb dMa_forget_31 (by decide) ?_
      obtain ⟨hn2, h⟩ := h
      refine va_zast hx hb hK hP hD hS 3 0 rfl rfl hn2 dMa_forget_32 (fun H locs hP hD hS => ?_)
      have hP : va_P (dC, dI) vwCl (w_Ma_forget ad a_this a_spans a_leftOut a_print a_spans_lows a_spans_highs a_print_cells a_print_family a_print_yard a_print_columns a_print_rows a_print_line k_leftOut v_this_rounding v_this_toe v_this_heel v_this_side v_this_pitch v_this_outer v_this_inner v_this_across v_this_hole u_spans_toldBits u_spans_exactBits u_print_atHand v_print_count v_print_thermal v_print_density v_print_outerHigh v_print_pasteLeft v_print_pasteLow v_print_nameLength v_print_isWritten (upd u_leftOut y1.toNatClampNeg (vp_nar .boolean 0))) H := hP
      have hD : va_D A (w_Ma_forget ad a_this a_spans a_leftOut a_print a_spans_lows a_spans_highs a_print_cells a_print_family a_print_yard a_print_columns a_print_rows a_print_line k_leftOut v_this_rounding v_this_toe v_this_heel v_this_side v_this_pitch v_this_outer v_this_inner v_this_across v_this_hole u_spans_toldBits u_spans_exactBits u_print_atHand v_print_count v_print_thermal v_print_density v_print_outerHigh v_print_pasteLeft v_print_pasteLow v_print_nameLength v_print_isWritten (upd u_leftOut y1.toNatClampNeg (vp_nar .boolean 0))) := hD
      obtain ⟨x3, ex3⟩ : ∃ y : Int32, y = y1 + 1 := ⟨_, rfl⟩
      replace h := h x3 ex3
      refine lv_iinc (v := x3) (lv' := [(1, .int x3), (0, .ref a_this)]) hx hb dMa_forget_33 hl (k := 1) rfl (by rw [ex3]; rfl) (by decide) rfl (fun ls hl => ?_)
      refine lv_goto (tgt := 17) hx hb dMa_forget_36 (by decide) ?_
      exact ih x3 u_spans_toldBits u_spans_exactBits u_print_atHand (upd u_leftOut y1.toNatClampNeg (vp_nar .boolean 0)) _ _ h hP hD hS ls (lv_sub hl [1, 0] rfl)
def P_Ma_forget (v_leftOut : Nat → Int32) (post : Int32 → Int32 → Int32 → (Nat → Int32) → Prop) : Prop := P_Sp_forget (fun (u1 : Int32) (u2 : Int32) => ∃ n3, P_Ma_forget_17 post n3 0 u1 u2 0 v_leftOut)
set_option maxHeartbeats 4000000 in
set_option maxRecDepth 100000 in
theorem c_Ma_forget (l : Launch) (dC : Nat → ClassId) (dI : Nat → Nat → Nat) (ad : Nat → Nat → Nat) (a_this : Nat) (a_spans : Nat) (a_leftOut : Nat) (a_print : Nat) (a_spans_lows : Nat) (a_spans_highs : Nat) (a_print_cells : Nat) (a_print_family : Nat) (a_print_yard : Nat) (a_print_columns : Nat) (a_print_rows : Nat) (a_print_line : Nat) (k_leftOut : ClassId) (sz : Nat) (v_this_rounding : Int64) (v_this_toe : Int64) (v_this_heel : Int64) (v_this_side : Int64) (v_this_pitch : Int64) (v_this_outer : Int64) (v_this_inner : Int64) (v_this_across : Int64) (v_this_hole : Int64) (v_spans_toldBits : Int32) (v_spans_exactBits : Int32) (v_print_atHand : Int32) (v_print_count : Int32) (v_print_thermal : Int32) (v_print_density : Int32) (v_print_outerHigh : Int64) (v_print_pasteLeft : Int64) (v_print_pasteLow : Int64) (v_print_nameLength : Int32) (v_print_isWritten : Int32) (v_leftOut : Nat → Int32) (post : Int32 → Int32 → Int32 → (Nat → Int32) → Prop) (h : P_Ma_forget v_leftOut post) : zMv l yMa_forget wsMa_forget { frames := 1, cells := 0, slots := 0, locals := 20 } (dC, dI) ad [.ref a_this] (w_Ma_forget ad a_this a_spans a_leftOut a_print a_spans_lows a_spans_highs a_print_cells a_print_family a_print_yard a_print_columns a_print_rows a_print_line k_leftOut v_this_rounding v_this_toe v_this_heel v_this_side v_this_pitch v_this_outer v_this_inner v_this_across v_this_hole v_spans_toldBits v_spans_exactBits v_print_atHand v_print_count v_print_thermal v_print_density v_print_outerHigh v_print_pasteLeft v_print_pasteLow v_print_nameLength v_print_isWritten v_leftOut) [(k_leftOut, .boolean)] sz (fun (u : Int32 × Int32 × Int32 × (Nat → Int32)) => post u.1 u.2.1 u.2.2.1 u.2.2.2) (fun (u : Int32 × Int32 × Int32 × (Nat → Int32)) => (w_Ma_forget ad a_this a_spans a_leftOut a_print a_spans_lows a_spans_highs a_print_cells a_print_family a_print_yard a_print_columns a_print_rows a_print_line k_leftOut v_this_rounding v_this_toe v_this_heel v_this_side v_this_pitch v_this_outer v_this_inner v_this_across v_this_hole u.1 u.2.1 u.2.2.1 v_print_count v_print_thermal v_print_density v_print_outerHigh v_print_pasteLeft v_print_pasteLow v_print_nameLength v_print_isWritten u.2.2.2)) 0 0 := by
  refine Met.ofW (cc := cMa_forget) (maxL := 2) (ret := none) (by decide +kernel) rfl ?_
  intro p e s m args below meth c s₁ B hml hv
  obtain ⟨rfl, hsz, hP, hK, hD0, hE⟩ := hv
  have hx := B.exec
  have hb := B.bytes
  have hr := B.returns
  have hts0 := atoms_spec (ws := wsMa_forget) B.pre
  have hts := fun w h => hts0 w (List.mem_cons_of_mem _ h)
  have hown : s.vm.findClass RMa = some m.cls := findClass_of_methodNamed B.named
  have hlocks := B.notSynchronized
  subst hsz
  have hD := hD0.self (sz := s.heap.size)
  generalize hAe : va_A (w_Ma_forget ad a_this a_spans a_leftOut a_print a_spans_lows a_spans_highs a_print_cells a_print_family a_print_yard a_print_columns a_print_rows a_print_line k_leftOut v_this_rounding v_this_toe v_this_heel v_this_side v_this_pitch v_this_outer v_this_inner v_this_across v_this_hole v_spans_toldBits v_spans_exactBits v_print_atHand v_print_count v_print_thermal v_print_density v_print_outerHigh v_print_pasteLeft v_print_pasteLow v_print_nameLength v_print_isWritten v_leftOut) s.heap.size = A at hD hE ⊢
  have hA : ∀ q : Nat, s.heap.size ≤ q → A q := fun q h => by rw [← hAe]; exact Or.inr h
  have C0 := zC.mk hx hb hr hml hown hts hlocks hA
  have hS : va_S A s.heap s.heap [] := va_S.rf
  have hl := lv_entry ([.ref a_this]) (n := 2) (Nat.le_of_ble_eq_true rfl)
  rw [lg_entry_eq]
  generalize (lg_sl ([.ref a_this]) ++ List.replicate (2 - (lg_sl ([.ref a_this])).length) Slot.unset).toArray = ls at hl ⊢
  have hl : lv_has ls 2 [(0, .ref a_this)] := hl
  unfold P_Ma_forget at h
  refine lv_aload_n hx hb dMa_forget_0 rfl (lv_at hl 0 rfl) ?_
  refine va_get (D := (dC, dI)) (ci := 4) (v := .ref a_spans) (C := RMa) (T := TMa) (N := 12) hx hb hts inZ_Ma hown hK hP 0 rfl rfl 0 (by decide) (hts _ zw_331) (fun _ h9 => h9) rfl dMa_forget_1 ?_
  refine zcall_v hP hD hS hA [1] [0, 2, 3] (va_runVN (As := []) (rest := []) ⟨hx, hb, hml, hown, hts⟩ (c_Sp_forget l dC dI ad a_spans a_spans_lows a_spans_highs _ v_spans_toldBits v_spans_exactBits _ h) ⟨va_cnB 0 hts (zgood zc_Sp_forget) rfl rfl rfl (hE.nw _ zn_411) (hts _ zw_100) (by decide +kernel) ⟨Nat.le_of_ble_eq_true rfl, Nat.le_of_ble_eq_true rfl⟩, (hts _ zw_413), (hts _ zw_3)⟩ (zpreV hE hK hP hD hS hA [1] [] (by rfl) (by rfl) (by decide) (ci := 3) (q0 := 1) rfl (by rfl)) rfl rfl hl.1 rfl (lv_room (Nat.le_of_ble_eq_true rfl)) dMa_forget_4 ⟨Nat.le_of_ble_eq_true rfl, Nat.le_of_ble_eq_true rfl⟩) (by rfl) (by rfl) (by decide) (by decide) (fun u H locs h hP hD hS => ?_)
  obtain ⟨u1, u2⟩ := u
  try dsimp only at h
  have hP := hP.sub (ws' := (w_Ma_forget ad a_this a_spans a_leftOut a_print a_spans_lows a_spans_highs a_print_cells a_print_family a_print_yard a_print_columns a_print_rows a_print_line k_leftOut v_this_rounding v_this_toe v_this_heel v_this_side v_this_pitch v_this_outer v_this_inner v_this_across v_this_hole u1 u2 v_print_atHand v_print_count v_print_thermal v_print_density v_print_outerHigh v_print_pasteLeft v_print_pasteLow v_print_nameLength v_print_isWritten v_leftOut)) [0, 3, 1, 2] rfl
  have hD := hD.sub (ws' := (w_Ma_forget ad a_this a_spans a_leftOut a_print a_spans_lows a_spans_highs a_print_cells a_print_family a_print_yard a_print_columns a_print_rows a_print_line k_leftOut v_this_rounding v_this_toe v_this_heel v_this_side v_this_pitch v_this_outer v_this_inner v_this_across v_this_hole u1 u2 v_print_atHand v_print_count v_print_thermal v_print_density v_print_outerHigh v_print_pasteLeft v_print_pasteLow v_print_nameLength v_print_isWritten v_leftOut)) [0, 3, 1, 2] (by decide) rfl
  refine lv_aload_n hx hb dMa_forget_7 rfl (lv_at hl 0 rfl) ?_
  refine va_get (D := (dC, dI)) (ci := 4) (v := .ref a_print) (C := RMa) (T := TMa) (N := 12) hx hb hts inZ_Ma hown hK hP 0 rfl rfl 2 (by decide) (hts _ zw_335) (fun _ h9 => h9) rfl dMa_forget_8 ?_
  refine lv_iconst (v := 0) hx hb dMa_forget_11 (by decide) ?_
  refine va_putN (D := (dC, dI)) (ci := 6) (v := .int 0) (ty := .boolean) (C := RFp) (T := TFp) (N := 15) hx hb hts inZ_Fp tyFp tyFp_ok nmFp hown hK hP hD hS 2 rfl rfl 0 (by decide) ((hE.nw _ zn_279).use rfl) (fun _ h9 => h9) rfl (by decide +kernel) rfl rfl (Nat.le_of_ble_eq_true rfl) dMa_forget_12 (fun H locs hP hD hS => ?_)
  have hP : va_P (dC, dI) vwCl (w_Ma_forget ad a_this a_spans a_leftOut a_print a_spans_lows a_spans_highs a_print_cells a_print_family a_print_yard a_print_columns a_print_rows a_print_line k_leftOut v_this_rounding v_this_toe v_this_heel v_this_side v_this_pitch v_this_outer v_this_inner v_this_across v_this_hole u1 u2 0 v_print_count v_print_thermal v_print_density v_print_outerHigh v_print_pasteLeft v_print_pasteLow v_print_nameLength v_print_isWritten v_leftOut) H := hP
  have hD : va_D A (w_Ma_forget ad a_this a_spans a_leftOut a_print a_spans_lows a_spans_highs a_print_cells a_print_family a_print_yard a_print_columns a_print_rows a_print_line k_leftOut v_this_rounding v_this_toe v_this_heel v_this_side v_this_pitch v_this_outer v_this_inner v_this_across v_this_hole u1 u2 0 v_print_count v_print_thermal v_print_density v_print_outerHigh v_print_pasteLeft v_print_pasteLow v_print_nameLength v_print_isWritten v_leftOut) := hD
  refine lv_iconst (v := 0) hx hb dMa_forget_15 (by decide) ?_
  refine lv_istore_n (lv' := [(1, .int 0), (0, .ref a_this)]) hx hb dMa_forget_16 rfl hl (by decide) rfl (fun ls hl => ?_)
  obtain ⟨n3, h⟩ := h
  exact w_Ma_forget_17 l C0 hE a_this a_spans a_leftOut a_print a_spans_lows a_spans_highs a_print_cells a_print_family a_print_yard a_print_columns a_print_rows a_print_line k_leftOut v_this_rounding v_this_toe v_this_heel v_this_side v_this_pitch v_this_outer v_this_inner v_this_across v_this_hole v_spans_toldBits v_spans_exactBits v_print_atHand v_print_count v_print_thermal v_print_density v_print_outerHigh v_print_pasteLeft v_print_pasteLow v_print_nameLength v_print_isWritten v_leftOut post hK n3 0 u1 u2 0 v_leftOut _ _ h hP hD hS ls (lv_sub hl [1, 0] rfl)
abbrev yMa_upTwice : MethodName := ⟨"FootprintRules$Maker", "upTwice", "(J)J"⟩
abbrev cMa_upTwice : ByteArray := prog_10_method_4_code
abbrev wsMa_upTwice : List Cond := .code yMa_upTwice cMa_upTwice 3 (some .long) :: zT
set_option maxRecDepth 100000 in
theorem zc_Ma_upTwice : Cond.code yMa_upTwice cMa_upTwice 3 (some .long) ∈ zT := zm 739 (by rfl) (by rfl)
theorem dMa_upTwice_0 : decode cMa_upTwice 0 = .ok (.lload_n 1, 1) := by decide +kernel
theorem dMa_upTwice_1 : decode cMa_upTwice 1 = .ok (.ldc2_w 129, 3) := by decide +kernel
theorem dMa_upTwice_4 : decode cMa_upTwice 4 = .ok (.aload_n 0, 1) := by decide +kernel
theorem dMa_upTwice_5 : decode cMa_upTwice 5 = .ok (.getfield 76, 3) := by decide +kernel
theorem dMa_upTwice_8 : decode cMa_upTwice 8 = .ok (.lmul, 1) := by decide +kernel
theorem dMa_upTwice_9 : decode cMa_upTwice 9 = .ok (.invokestatic 131, 3) := by decide +kernel
theorem dMa_upTwice_12 : decode cMa_upTwice 12 = .ok (.lreturn, 1) := by decide +kernel
-- FootprintRules$Maker.upTwice(J)J
abbrev w_Ma_upTwice (ad : Nat → Nat → Nat) (a_this : Nat) (a_spans : Nat) (a_leftOut : Nat) (a_print : Nat)  (v_this_rounding : Int64) (v_this_toe : Int64) (v_this_heel : Int64) (v_this_side : Int64) (v_this_pitch : Int64) (v_this_outer : Int64) (v_this_inner : Int64) (v_this_across : Int64) (v_this_hole : Int64) : va_W := [(a_this, .inr (4, [.ref a_spans, .ref a_leftOut, .ref a_print, .long v_this_rounding, .long v_this_toe, .long v_this_heel, .long v_this_side, .long v_this_pitch, .long v_this_outer, .long v_this_inner, .long v_this_across, .long v_this_hole]))]
def P_Ma_upTwice (p1 : Int64) (v_this_rounding : Int64) (post : Int64 → Prop) : Prop := P_F_up p1 (2 * v_this_rounding) (fun (r1 : Int64) => post r1)
set_option maxHeartbeats 4000000 in
set_option maxRecDepth 100000 in
theorem c_Ma_upTwice (l : Launch) (dC : Nat → ClassId) (dI : Nat → Nat → Nat) (ad : Nat → Nat → Nat) (a_this : Nat) (a_spans : Nat) (a_leftOut : Nat) (a_print : Nat)  (sz : Nat) (p1 : Int64) (v_this_rounding : Int64) (v_this_toe : Int64) (v_this_heel : Int64) (v_this_side : Int64) (v_this_pitch : Int64) (v_this_outer : Int64) (v_this_inner : Int64) (v_this_across : Int64) (v_this_hole : Int64) (post : Int64 → Prop) (h : P_Ma_upTwice p1 v_this_rounding post) : zMl l yMa_upTwice wsMa_upTwice { frames := 2, cells := 0, slots := 0, locals := 48 } (dC, dI) ad [.ref a_this, .long p1] (w_Ma_upTwice ad a_this a_spans a_leftOut a_print v_this_rounding v_this_toe v_this_heel v_this_side v_this_pitch v_this_outer v_this_inner v_this_across v_this_hole) [] sz (fun (r : Int64) (u : Unit) => post r) (fun (u : Unit) => (w_Ma_upTwice ad a_this a_spans a_leftOut a_print v_this_rounding v_this_toe v_this_heel v_this_side v_this_pitch v_this_outer v_this_inner v_this_across v_this_hole)) 0 0 := by
  refine Met.ofW (cc := cMa_upTwice) (maxL := 3) (ret := (some .long)) (by decide +kernel) rfl ?_
  intro p e s m args below meth c s₁ B hml hv
  obtain ⟨rfl, hsz, hP, hK, hD0, hE⟩ := hv
  have hx := B.exec
  have hb := B.bytes
  have hr := B.returns
  have hts0 := atoms_spec (ws := wsMa_upTwice) B.pre
  have hts := fun w h => hts0 w (List.mem_cons_of_mem _ h)
  have hown : s.vm.findClass RMa = some m.cls := findClass_of_methodNamed B.named
  have hlocks := B.notSynchronized
  subst hsz
  have hD := hD0.self (sz := s.heap.size)
  generalize hAe : va_A (w_Ma_upTwice ad a_this a_spans a_leftOut a_print v_this_rounding v_this_toe v_this_heel v_this_side v_this_pitch v_this_outer v_this_inner v_this_across v_this_hole) s.heap.size = A at hD hE ⊢
  have hA : ∀ q : Nat, s.heap.size ≤ q → A q := fun q h => by rw [← hAe]; exact Or.inr h
  have C0 := zC.mk hx hb hr hml hown hts hlocks hA
  have hS : va_S A s.heap s.heap [] := va_S.rf
  have hl := lv_entry ([.ref a_this, .long p1]) (n := 3) (Nat.le_of_ble_eq_true rfl)
  rw [lg_entry_eq]
  generalize (lg_sl ([.ref a_this, .long p1]) ++ List.replicate (3 - (lg_sl ([.ref a_this, .long p1])).length) Slot.unset).toArray = ls at hl ⊢
  have hl : lv_has ls 3 [(0, .ref a_this), (1, .long p1)] := hl
  unfold P_Ma_upTwice at h
  refine lv_lload_n hx hb dMa_upTwice_0 rfl (lv_at hl 1 rfl) ?_
  refine lv_ldc2 (own := RMa) (index := 129) (v := 2) hx hb hown (hts _ zw_735) dMa_upTwice_1 ?_
  refine lv_aload_n hx hb dMa_upTwice_4 rfl (lv_at hl 0 rfl) ?_
  refine va_get (D := (dC, dI)) (ci := 4) (v := .long v_this_rounding) (C := RMa) (T := TMa) (N := 12) hx hb hts inZ_Ma hown hK hP 0 rfl rfl 3 (by decide) (hts _ zw_337) (fun _ h9 => h9) rfl dMa_upTwice_5 ?_
  refine lv_lmul hx hb dMa_upTwice_8 ?_
  refine zcall_l hP hD hS hA [] [0] (va_runSN (As := [.long p1, .long (2 * v_this_rounding)]) (rest := []) ⟨hx, hb, hml, hown, hts⟩ (c_F_up l dC dI ad _ p1 (2 * v_this_rounding) _ h) ⟨va_cnB 2 hts (zgood zc_F_up) rfl rfl rfl (hE.nw _ zn_740) (hts _ zw_95) (by decide +kernel) ⟨Nat.le_of_ble_eq_true rfl, Nat.le_of_ble_eq_true rfl⟩, (hts _ zw_741), trivial⟩ (zpreS hE hK hP hD hS hA [] [] (by rfl) (by rfl) (by decide)) rfl rfl hl.1 rfl (lv_room (Nat.le_of_ble_eq_true rfl)) dMa_upTwice_9 ⟨Nat.le_of_ble_eq_true rfl, Nat.le_of_ble_eq_true rfl⟩) (by rfl) (by rfl) (by decide) (by decide) (fun r1 u H locs h hP hD hS => ?_)
  try dsimp only at h
  have hP := hP.sub (ws' := (w_Ma_upTwice ad a_this a_spans a_leftOut a_print v_this_rounding v_this_toe v_this_heel v_this_side v_this_pitch v_this_outer v_this_inner v_this_across v_this_hole)) [0] rfl
  have hD := hD.sub (ws' := (w_Ma_upTwice ad a_this a_spans a_leftOut a_print v_this_rounding v_this_toe v_this_heel v_this_side v_this_pitch v_this_outer v_this_inner v_this_across v_this_hole)) [0] (by decide) rfl
  exact W.lret (v := r1) hx hb hr (fun t ht hW => ⟨⟨r1, (()), rfl, h, by rw [ht]; exact hP, hD⟩, hS.F ht⟩) hS.2.2 dMa_upTwice_12
abbrev yMa_sizeFlat : MethodName := ⟨"FootprintRules$Maker", "sizeFlat", "()Z"⟩
abbrev cMa_sizeFlat : ByteArray := prog_10_method_10_code
abbrev wsMa_sizeFlat : List Cond := .code yMa_sizeFlat cMa_sizeFlat 1 (some .boolean) :: zT
set_option maxRecDepth 100000 in
theorem zc_Ma_sizeFlat : Cond.code yMa_sizeFlat cMa_sizeFlat 1 (some .boolean) ∈ zT := zm 772 (by rfl) (by rfl)
theorem dMa_sizeFlat_0 : decode cMa_sizeFlat 0 = .ok (.aload_n 0, 1) := by decide +kernel
theorem dMa_sizeFlat_1 : decode cMa_sizeFlat 1 = .ok (.aload_n 0, 1) := by decide +kernel
theorem dMa_sizeFlat_2 : decode cMa_sizeFlat 2 = .ok (.aload_n 0, 1) := by decide +kernel
theorem dMa_sizeFlat_3 : decode cMa_sizeFlat 3 = .ok (.getfield 12, 3) := by decide +kernel
theorem dMa_sizeFlat_6 : decode cMa_sizeFlat 6 = .ok (.iconst 0, 1) := by decide +kernel
theorem dMa_sizeFlat_7 : decode cMa_sizeFlat 7 = .ok (.invokevirtual 42, 3) := by decide +kernel
theorem dMa_sizeFlat_10 : decode cMa_sizeFlat 10 = .ok (.ldc2_w 129, 3) := by decide +kernel
theorem dMa_sizeFlat_13 : decode cMa_sizeFlat 13 = .ok (.aload_n 0, 1) := by decide +kernel
theorem dMa_sizeFlat_14 : decode cMa_sizeFlat 14 = .ok (.getfield 87, 3) := by decide +kernel
theorem dMa_sizeFlat_17 : decode cMa_sizeFlat 17 = .ok (.lmul, 1) := by decide +kernel
theorem dMa_sizeFlat_18 : decode cMa_sizeFlat 18 = .ok (.ladd, 1) := by decide +kernel
theorem dMa_sizeFlat_19 : decode cMa_sizeFlat 19 = .ok (.invokevirtual 138, 3) := by decide +kernel
theorem dMa_sizeFlat_22 : decode cMa_sizeFlat 22 = .ok (.putfield 189, 3) := by decide +kernel
theorem dMa_sizeFlat_25 : decode cMa_sizeFlat 25 = .ok (.aload_n 0, 1) := by decide +kernel
theorem dMa_sizeFlat_26 : decode cMa_sizeFlat 26 = .ok (.aload_n 0, 1) := by decide +kernel
theorem dMa_sizeFlat_27 : decode cMa_sizeFlat 27 = .ok (.getfield 12, 3) := by decide +kernel
theorem dMa_sizeFlat_30 : decode cMa_sizeFlat 30 = .ok (.iconst 1, 1) := by decide +kernel
theorem dMa_sizeFlat_31 : decode cMa_sizeFlat 31 = .ok (.invokevirtual 192, 3) := by decide +kernel
theorem dMa_sizeFlat_34 : decode cMa_sizeFlat 34 = .ok (.ldc2_w 129, 3) := by decide +kernel
theorem dMa_sizeFlat_37 : decode cMa_sizeFlat 37 = .ok (.aload_n 0, 1) := by decide +kernel
theorem dMa_sizeFlat_38 : decode cMa_sizeFlat 38 = .ok (.getfield 93, 3) := by decide +kernel
theorem dMa_sizeFlat_41 : decode cMa_sizeFlat 41 = .ok (.lmul, 1) := by decide +kernel
theorem dMa_sizeFlat_42 : decode cMa_sizeFlat 42 = .ok (.lsub, 1) := by decide +kernel
theorem dMa_sizeFlat_43 : decode cMa_sizeFlat 43 = .ok (.ldc2_w 129, 3) := by decide +kernel
theorem dMa_sizeFlat_46 : decode cMa_sizeFlat 46 = .ok (.aload_n 0, 1) := by decide +kernel
theorem dMa_sizeFlat_47 : decode cMa_sizeFlat 47 = .ok (.getfield 76, 3) := by decide +kernel
theorem dMa_sizeFlat_50 : decode cMa_sizeFlat 50 = .ok (.lmul, 1) := by decide +kernel
theorem dMa_sizeFlat_51 : decode cMa_sizeFlat 51 = .ok (.invokestatic 195, 3) := by decide +kernel
theorem dMa_sizeFlat_54 : decode cMa_sizeFlat 54 = .ok (.putfield 198, 3) := by decide +kernel
theorem dMa_sizeFlat_57 : decode cMa_sizeFlat 57 = .ok (.aload_n 0, 1) := by decide +kernel
theorem dMa_sizeFlat_58 : decode cMa_sizeFlat 58 = .ok (.aload_n 0, 1) := by decide +kernel
theorem dMa_sizeFlat_59 : decode cMa_sizeFlat 59 = .ok (.aload_n 0, 1) := by decide +kernel
theorem dMa_sizeFlat_60 : decode cMa_sizeFlat 60 = .ok (.getfield 12, 3) := by decide +kernel
theorem dMa_sizeFlat_63 : decode cMa_sizeFlat 63 = .ok (.iconst 2, 1) := by decide +kernel
theorem dMa_sizeFlat_64 : decode cMa_sizeFlat 64 = .ok (.invokevirtual 42, 3) := by decide +kernel
theorem dMa_sizeFlat_67 : decode cMa_sizeFlat 67 = .ok (.ldc2_w 129, 3) := by decide +kernel
theorem dMa_sizeFlat_70 : decode cMa_sizeFlat 70 = .ok (.aload_n 0, 1) := by decide +kernel
theorem dMa_sizeFlat_71 : decode cMa_sizeFlat 71 = .ok (.getfield 99, 3) := by decide +kernel
theorem dMa_sizeFlat_74 : decode cMa_sizeFlat 74 = .ok (.lmul, 1) := by decide +kernel
theorem dMa_sizeFlat_75 : decode cMa_sizeFlat 75 = .ok (.ladd, 1) := by decide +kernel
theorem dMa_sizeFlat_76 : decode cMa_sizeFlat 76 = .ok (.invokevirtual 138, 3) := by decide +kernel
theorem dMa_sizeFlat_79 : decode cMa_sizeFlat 79 = .ok (.putfield 201, 3) := by decide +kernel
theorem dMa_sizeFlat_82 : decode cMa_sizeFlat 82 = .ok (.aload_n 0, 1) := by decide +kernel
theorem dMa_sizeFlat_83 : decode cMa_sizeFlat 83 = .ok (.lconst 0, 1) := by decide +kernel
theorem dMa_sizeFlat_84 : decode cMa_sizeFlat 84 = .ok (.putfield 204, 3) := by decide +kernel
theorem dMa_sizeFlat_87 : decode cMa_sizeFlat 87 = .ok (.aload_n 0, 1) := by decide +kernel
theorem dMa_sizeFlat_88 : decode cMa_sizeFlat 88 = .ok (.getfield 201, 3) := by decide +kernel
theorem dMa_sizeFlat_91 : decode cMa_sizeFlat 91 = .ok (.lconst 0, 1) := by decide +kernel
theorem dMa_sizeFlat_92 : decode cMa_sizeFlat 92 = .ok (.lcmp, 1) := by decide +kernel
theorem dMa_sizeFlat_93 : decode cMa_sizeFlat 93 = .ok (.ifCond .le 7, 3) := by decide +kernel
theorem dMa_sizeFlat_96 : decode cMa_sizeFlat 96 = .ok (.iconst 1, 1) := by decide +kernel
theorem dMa_sizeFlat_97 : decode cMa_sizeFlat 97 = .ok (.goto 4, 3) := by decide +kernel
theorem dMa_sizeFlat_100 : decode cMa_sizeFlat 100 = .ok (.iconst 0, 1) := by decide +kernel
theorem dMa_sizeFlat_101 : decode cMa_sizeFlat 101 = .ok (.ireturn, 1) := by decide +kernel
-- FootprintRules$Maker.sizeFlat()Z
abbrev w_Ma_sizeFlat (ad : Nat → Nat → Nat) (a_this : Nat) (a_spans : Nat) (a_leftOut : Nat) (a_print : Nat) (a_spans_lows : Nat) (a_spans_highs : Nat) (k_spans_highs : ClassId) (k_spans_lows : ClassId) (v_this_rounding : Int64) (v_this_toe : Int64) (v_this_heel : Int64) (v_this_side : Int64) (v_this_pitch : Int64) (v_this_outer : Int64) (v_this_inner : Int64) (v_this_across : Int64) (v_this_hole : Int64) (v_spans_toldBits : Int32) (v_spans_exactBits : Int32) (v_spans_highs : Nat → Int64) (v_spans_lows : Nat → Int64) : va_W := [(a_this, .inr (4, [.ref a_spans, .ref a_leftOut, .ref a_print, .long v_this_rounding, .long v_this_toe, .long v_this_heel, .long v_this_side, .long v_this_pitch, .long v_this_outer, .long v_this_inner, .long v_this_across, .long v_this_hole])), (a_spans, .inr (3, [.ref a_spans_lows, .ref a_spans_highs, .int v_spans_toldBits, .int v_spans_exactBits])), (a_spans_highs, .inl (k_spans_highs, 12, .inr (.inl v_spans_highs))), (a_spans_lows, .inl (k_spans_lows, 12, .inr (.inl v_spans_lows)))]
def P_Ma_sizeFlat (v_this_rounding : Int64) (v_this_toe : Int64) (v_this_heel : Int64) (v_this_side : Int64) (v_spans_toldBits : Int32) (v_spans_highs : Nat → Int64) (v_spans_lows : Nat → Int64) (post : Int32 → Int64 → Int64 → Int64 → Int64 → Prop) : Prop := P_Sp_highOf 0 v_spans_toldBits v_spans_highs (fun (r1 : Int64) => P_Ma_upTwice (r1 + (2 * v_this_toe)) v_this_rounding (fun (r2 : Int64) => P_Sp_lowOf 1 v_spans_toldBits v_spans_lows (fun (r3 : Int64) => P_F_down (r3 - (2 * v_this_heel)) (2 * v_this_rounding) (fun (r4 : Int64) => P_Sp_highOf 2 v_spans_toldBits v_spans_highs (fun (r5 : Int64) => P_Ma_upTwice (r5 + (2 * v_this_side)) v_this_rounding (fun (r6 : Int64) => ((r6 ≤ 0 → post 0 r2 r4 r6 0) ∧ (¬ r6 ≤ 0 → post 1 r2 r4 r6 0))))))))
set_option maxHeartbeats 4000000 in
set_option maxRecDepth 100000 in
theorem c_Ma_sizeFlat (l : Launch) (dC : Nat → ClassId) (dI : Nat → Nat → Nat) (ad : Nat → Nat → Nat) (a_this : Nat) (a_spans : Nat) (a_leftOut : Nat) (a_print : Nat) (a_spans_lows : Nat) (a_spans_highs : Nat) (k_spans_highs : ClassId) (k_spans_lows : ClassId) (sz : Nat) (v_this_rounding : Int64) (v_this_toe : Int64) (v_this_heel : Int64) (v_this_side : Int64) (v_this_pitch : Int64) (v_this_outer : Int64) (v_this_inner : Int64) (v_this_across : Int64) (v_this_hole : Int64) (v_spans_toldBits : Int32) (v_spans_exactBits : Int32) (v_spans_highs : Nat → Int64) (v_spans_lows : Nat → Int64) (post : Int32 → Int64 → Int64 → Int64 → Int64 → Prop) (h : P_Ma_sizeFlat v_this_rounding v_this_toe v_this_heel v_this_side v_spans_toldBits v_spans_highs v_spans_lows post) : zMi l yMa_sizeFlat wsMa_sizeFlat { frames := 3, cells := 0, slots := 0, locals := 70 } (dC, dI) ad [.ref a_this] (w_Ma_sizeFlat ad a_this a_spans a_leftOut a_print a_spans_lows a_spans_highs k_spans_highs k_spans_lows v_this_rounding v_this_toe v_this_heel v_this_side v_this_pitch v_this_outer v_this_inner v_this_across v_this_hole v_spans_toldBits v_spans_exactBits v_spans_highs v_spans_lows) [(k_spans_highs, .long), (k_spans_lows, .long)] sz (fun (r : Int32) (u : Int64 × Int64 × Int64 × Int64) => post r u.1 u.2.1 u.2.2.1 u.2.2.2) (fun (u : Int64 × Int64 × Int64 × Int64) => (w_Ma_sizeFlat ad a_this a_spans a_leftOut a_print a_spans_lows a_spans_highs k_spans_highs k_spans_lows v_this_rounding v_this_toe v_this_heel v_this_side v_this_pitch u.1 u.2.1 u.2.2.1 u.2.2.2 v_spans_toldBits v_spans_exactBits v_spans_highs v_spans_lows)) 0 0 := by
  refine Met.ofW (cc := cMa_sizeFlat) (maxL := 1) (ret := (some .boolean)) (by decide +kernel) rfl ?_
  intro p e s m args below meth c s₁ B hml hv
  obtain ⟨rfl, hsz, hP, hK, hD0, hE⟩ := hv
  have hx := B.exec
  have hb := B.bytes
  have hr := B.returns
  have hts0 := atoms_spec (ws := wsMa_sizeFlat) B.pre
  have hts := fun w h => hts0 w (List.mem_cons_of_mem _ h)
  have hown : s.vm.findClass RMa = some m.cls := findClass_of_methodNamed B.named
  have hlocks := B.notSynchronized
  subst hsz
  have hD := hD0.self (sz := s.heap.size)
  generalize hAe : va_A (w_Ma_sizeFlat ad a_this a_spans a_leftOut a_print a_spans_lows a_spans_highs k_spans_highs k_spans_lows v_this_rounding v_this_toe v_this_heel v_this_side v_this_pitch v_this_outer v_this_inner v_this_across v_this_hole v_spans_toldBits v_spans_exactBits v_spans_highs v_spans_lows) s.heap.size = A at hD hE ⊢
  have hA : ∀ q : Nat, s.heap.size ≤ q → A q := fun q h => by rw [← hAe]; exact Or.inr h
  have C0 := zC.mk hx hb hr hml hown hts hlocks hA
  have hS : va_S A s.heap s.heap [] := va_S.rf
  have hl := lv_entry ([.ref a_this]) (n := 1) (Nat.le_of_ble_eq_true rfl)
  rw [lg_entry_eq]
  generalize (lg_sl ([.ref a_this]) ++ List.replicate (1 - (lg_sl ([.ref a_this])).length) Slot.unset).toArray = ls at hl ⊢
  have hl : lv_has ls 1 [(0, .ref a_this)] := hl
  unfold P_Ma_sizeFlat at h
  refine lv_aload_n hx hb dMa_sizeFlat_0 rfl (lv_at hl 0 rfl) ?_
  refine lv_aload_n hx hb dMa_sizeFlat_1 rfl (lv_at hl 0 rfl) ?_
  refine lv_aload_n hx hb dMa_sizeFlat_2 rfl (lv_at hl 0 rfl) ?_
  refine va_get (D := (dC, dI)) (ci := 4) (v := .ref a_spans) (C := RMa) (T := TMa) (N := 12) hx hb hts inZ_Ma hown hK hP 0 rfl rfl 0 (by decide) (hts _ zw_331) (fun _ h9 => h9) rfl dMa_sizeFlat_3 ?_
  refine lv_iconst (v := 0) hx hb dMa_sizeFlat_6 (by decide) ?_
  refine zcall_l hP hD hS hA [1, 2] [0, 3] (va_runVN (As := [.int 0]) (rest := [.ref a_this, .ref a_this]) ⟨hx, hb, hml, hown, hts⟩ (c_Sp_highOf l dC dI ad a_spans a_spans_lows a_spans_highs k_spans_highs _ 0 v_spans_toldBits v_spans_exactBits v_spans_highs _ h) ⟨va_cnB 1 hts (zgood zc_Sp_highOf) rfl rfl rfl (hE.nw _ zn_692) (hts _ zw_100) (by decide +kernel) ⟨Nat.le_of_ble_eq_true rfl, Nat.le_of_ble_eq_true rfl⟩, (hts _ zw_694), (hts _ zw_24)⟩ (zpreV hE hK hP hD hS hA [1, 2] [0] (by rfl) (by rfl) (by decide) (ci := 3) (q0 := 1) rfl (by rfl)) rfl rfl hl.1 rfl (lv_room (Nat.le_of_ble_eq_true rfl)) dMa_sizeFlat_7 ⟨Nat.le_of_ble_eq_true rfl, Nat.le_of_ble_eq_true rfl⟩) (by rfl) (by rfl) (by decide) (by decide) (fun r1 u H locs h hP hD hS => ?_)
  try dsimp only at h
  have hP := hP.sub (ws' := (w_Ma_sizeFlat ad a_this a_spans a_leftOut a_print a_spans_lows a_spans_highs k_spans_highs k_spans_lows v_this_rounding v_this_toe v_this_heel v_this_side v_this_pitch v_this_outer v_this_inner v_this_across v_this_hole v_spans_toldBits v_spans_exactBits v_spans_highs v_spans_lows)) [0, 2, 3, 1] rfl
  have hD := hD.sub (ws' := (w_Ma_sizeFlat ad a_this a_spans a_leftOut a_print a_spans_lows a_spans_highs k_spans_highs k_spans_lows v_this_rounding v_this_toe v_this_heel v_this_side v_this_pitch v_this_outer v_this_inner v_this_across v_this_hole v_spans_toldBits v_spans_exactBits v_spans_highs v_spans_lows)) [0, 2, 3, 1] (by decide) rfl
  refine lv_ldc2 (own := RMa) (index := 129) (v := 2) hx hb hown (hts _ zw_735) dMa_sizeFlat_10 ?_
  refine lv_aload_n hx hb dMa_sizeFlat_13 rfl (lv_at hl 0 rfl) ?_
  refine va_get (D := (dC, dI)) (ci := 4) (v := .long v_this_toe) (C := RMa) (T := TMa) (N := 12) hx hb hts inZ_Ma hown hK hP 0 rfl rfl 4 (by decide) (hts _ zw_338) (fun _ h9 => h9) rfl dMa_sizeFlat_14 ?_
  refine lv_lmul hx hb dMa_sizeFlat_17 ?_
  refine lv_ladd hx hb dMa_sizeFlat_18 ?_
  refine zcall_l hP hD hS hA [0] [1, 2, 3] (va_runV (As := [.long (r1 + (2 * v_this_toe))]) (rest := [.ref a_this]) ⟨hx, hb, hml, hown, hts⟩ (c_Ma_upTwice l dC dI ad a_this a_spans a_leftOut a_print _ (r1 + (2 * v_this_toe)) v_this_rounding v_this_toe v_this_heel v_this_side v_this_pitch v_this_outer v_this_inner v_this_across v_this_hole _ h) ⟨callB_of 1 hts (zgood zc_Ma_upTwice) rfl rfl rfl (hts _ zw_99) (hts _ zw_736) (by decide +kernel) ⟨Nat.le_of_ble_eq_true rfl, Nat.le_of_ble_eq_true rfl⟩, (hts _ zw_738), (hts _ zw_32)⟩ (zpreV hE hK hP hD hS hA [0] [] (by rfl) (by rfl) (by decide) (ci := 4) (q0 := 0) rfl (by rfl)) rfl rfl hl.1 rfl (lv_room (Nat.le_of_ble_eq_true rfl)) dMa_sizeFlat_19 ⟨Nat.le_of_ble_eq_true rfl, Nat.le_of_ble_eq_true rfl⟩) (by rfl) (by rfl) (by decide) (by decide) (fun r2 u H locs h hP hD hS => ?_)
  try dsimp only at h
  have hP := hP.sub (ws' := (w_Ma_sizeFlat ad a_this a_spans a_leftOut a_print a_spans_lows a_spans_highs k_spans_highs k_spans_lows v_this_rounding v_this_toe v_this_heel v_this_side v_this_pitch v_this_outer v_this_inner v_this_across v_this_hole v_spans_toldBits v_spans_exactBits v_spans_highs v_spans_lows)) [3, 0, 1, 2] rfl
  have hD := hD.sub (ws' := (w_Ma_sizeFlat ad a_this a_spans a_leftOut a_print a_spans_lows a_spans_highs k_spans_highs k_spans_lows v_this_rounding v_this_toe v_this_heel v_this_side v_this_pitch v_this_outer v_this_inner v_this_across v_this_hole v_spans_toldBits v_spans_exactBits v_spans_highs v_spans_lows)) [3, 0, 1, 2] (by decide) rfl
  refine va_put (D := (dC, dI)) (ci := 4) (v := .long r2) (ty := .long) (C := RMa) (T := TMa) (N := 12) hx hb hts inZ_Ma tyMa tyMa_ok nmMa hown hK hP hD hS 0 rfl rfl 8 (by decide) (hts _ zw_342) (fun _ h9 => h9) rfl (by decide +kernel) rfl rfl (Nat.le_of_ble_eq_true rfl) dMa_sizeFlat_22 (fun H locs hP hD hS => ?_)
  have hP : va_P (dC, dI) vwCl (w_Ma_sizeFlat ad a_this a_spans a_leftOut a_print a_spans_lows a_spans_highs k_spans_highs k_spans_lows v_this_rounding v_this_toe v_this_heel v_this_side v_this_pitch r2 v_this_inner v_this_across v_this_hole v_spans_toldBits v_spans_exactBits v_spans_highs v_spans_lows) H := hP
  have hD : va_D A (w_Ma_sizeFlat ad a_this a_spans a_leftOut a_print a_spans_lows a_spans_highs k_spans_highs k_spans_lows v_this_rounding v_this_toe v_this_heel v_this_side v_this_pitch r2 v_this_inner v_this_across v_this_hole v_spans_toldBits v_spans_exactBits v_spans_highs v_spans_lows) := hD
  refine lv_aload_n hx hb dMa_sizeFlat_25 rfl (lv_at hl 0 rfl) ?_
  refine lv_aload_n hx hb dMa_sizeFlat_26 rfl (lv_at hl 0 rfl) ?_
  refine va_get (D := (dC, dI)) (ci := 4) (v := .ref a_spans) (C := RMa) (T := TMa) (N := 12) hx hb hts inZ_Ma hown hK hP 0 rfl rfl 0 (by decide) (hts _ zw_331) (fun _ h9 => h9) rfl dMa_sizeFlat_27 ?_
  refine lv_iconst (v := 1) hx hb dMa_sizeFlat_30 (by decide) ?_
  refine zcall_l hP hD hS hA [1, 3] [0, 2] (va_runVN (As := [.int 1]) (rest := [.ref a_this]) ⟨hx, hb, hml, hown, hts⟩ (c_Sp_lowOf l dC dI ad a_spans a_spans_lows a_spans_highs k_spans_lows _ 1 v_spans_toldBits v_spans_exactBits v_spans_lows _ h) ⟨va_cnB 1 hts (zgood zc_Sp_lowOf) rfl rfl rfl (hE.nw _ zn_773) (hts _ zw_100) (by decide +kernel) ⟨Nat.le_of_ble_eq_true rfl, Nat.le_of_ble_eq_true rfl⟩, (hts _ zw_775), (hts _ zw_37)⟩ (zpreV hE hK hP hD hS hA [1, 3] [1] (by rfl) (by rfl) (by decide) (ci := 3) (q0 := 1) rfl (by rfl)) rfl rfl hl.1 rfl (lv_room (Nat.le_of_ble_eq_true rfl)) dMa_sizeFlat_31 ⟨Nat.le_of_ble_eq_true rfl, Nat.le_of_ble_eq_true rfl⟩) (by rfl) (by rfl) (by decide) (by decide) (fun r3 u H locs h hP hD hS => ?_)
  try dsimp only at h
  have hP := hP.sub (ws' := (w_Ma_sizeFlat ad a_this a_spans a_leftOut a_print a_spans_lows a_spans_highs k_spans_highs k_spans_lows v_this_rounding v_this_toe v_this_heel v_this_side v_this_pitch r2 v_this_inner v_this_across v_this_hole v_spans_toldBits v_spans_exactBits v_spans_highs v_spans_lows)) [0, 2, 1, 3] rfl
  have hD := hD.sub (ws' := (w_Ma_sizeFlat ad a_this a_spans a_leftOut a_print a_spans_lows a_spans_highs k_spans_highs k_spans_lows v_this_rounding v_this_toe v_this_heel v_this_side v_this_pitch r2 v_this_inner v_this_across v_this_hole v_spans_toldBits v_spans_exactBits v_spans_highs v_spans_lows)) [0, 2, 1, 3] (by decide) rfl
  refine lv_ldc2 (own := RMa) (index := 129) (v := 2) hx hb hown (hts _ zw_735) dMa_sizeFlat_34 ?_
  refine lv_aload_n hx hb dMa_sizeFlat_37 rfl (lv_at hl 0 rfl) ?_
  refine va_get (D := (dC, dI)) (ci := 4) (v := .long v_this_heel) (C := RMa) (T := TMa) (N := 12) hx hb hts inZ_Ma hown hK hP 0 rfl rfl 5 (by decide) (hts _ zw_339) (fun _ h9 => h9) rfl dMa_sizeFlat_38 ?_
  refine lv_lmul hx hb dMa_sizeFlat_41 ?_
  refine lv_lsub hx hb dMa_sizeFlat_42 ?_
  refine lv_ldc2 (own := RMa) (index := 129) (v := 2) hx hb hown (hts _ zw_735) dMa_sizeFlat_43 ?_
  refine lv_aload_n hx hb dMa_sizeFlat_46 rfl (lv_at hl 0 rfl) ?_
  refine va_get (D := (dC, dI)) (ci := 4) (v := .long v_this_rounding) (C := RMa) (T := TMa) (N := 12) hx hb hts inZ_Ma hown hK hP 0 rfl rfl 3 (by decide) (hts _ zw_337) (fun _ h9 => h9) rfl dMa_sizeFlat_47 ?_
  refine lv_lmul hx hb dMa_sizeFlat_50 ?_
  refine zcall_l hP hD hS hA [] [0, 1, 2, 3] (va_runSN (As := [.long (r3 - (2 * v_this_heel)), .long (2 * v_this_rounding)]) (rest := [.ref a_this]) ⟨hx, hb, hml, hown, hts⟩ (c_F_down l dC dI ad _ (r3 - (2 * v_this_heel)) (2 * v_this_rounding) _ h) ⟨va_cnB 2 hts (zgood zc_F_down) rfl rfl rfl (hE.nw _ zn_777) (hts _ zw_95) (by decide +kernel) ⟨Nat.le_of_ble_eq_true rfl, Nat.le_of_ble_eq_true rfl⟩, (hts _ zw_778), trivial⟩ (zpreS hE hK hP hD hS hA [] [] (by rfl) (by rfl) (by decide)) rfl rfl hl.1 rfl (lv_room (Nat.le_of_ble_eq_true rfl)) dMa_sizeFlat_51 ⟨Nat.le_of_ble_eq_true rfl, Nat.le_of_ble_eq_true rfl⟩) (by rfl) (by rfl) (by decide) (by decide) (fun r4 u H locs h hP hD hS => ?_)
  try dsimp only at h
  have hP := hP.sub (ws' := (w_Ma_sizeFlat ad a_this a_spans a_leftOut a_print a_spans_lows a_spans_highs k_spans_highs k_spans_lows v_this_rounding v_this_toe v_this_heel v_this_side v_this_pitch r2 v_this_inner v_this_across v_this_hole v_spans_toldBits v_spans_exactBits v_spans_highs v_spans_lows)) [0, 1, 2, 3] rfl
  have hD := hD.sub (ws' := (w_Ma_sizeFlat ad a_this a_spans a_leftOut a_print a_spans_lows a_spans_highs k_spans_highs k_spans_lows v_this_rounding v_this_toe v_this_heel v_this_side v_this_pitch r2 v_this_inner v_this_across v_this_hole v_spans_toldBits v_spans_exactBits v_spans_highs v_spans_lows)) [0, 1, 2, 3] (by decide) rfl
  refine va_put (D := (dC, dI)) (ci := 4) (v := .long r4) (ty := .long) (C := RMa) (T := TMa) (N := 12) hx hb hts inZ_Ma tyMa tyMa_ok nmMa hown hK hP hD hS 0 rfl rfl 9 (by decide) (hts _ zw_343) (fun _ h9 => h9) rfl (by decide +kernel) rfl rfl (Nat.le_of_ble_eq_true rfl) dMa_sizeFlat_54 (fun H locs hP hD hS => ?_)
  have hP : va_P (dC, dI) vwCl (w_Ma_sizeFlat ad a_this a_spans a_leftOut a_print a_spans_lows a_spans_highs k_spans_highs k_spans_lows v_this_rounding v_this_toe v_this_heel v_this_side v_this_pitch r2 r4 v_this_across v_this_hole v_spans_toldBits v_spans_exactBits v_spans_highs v_spans_lows) H := hP
  have hD : va_D A (w_Ma_sizeFlat ad a_this a_spans a_leftOut a_print a_spans_lows a_spans_highs k_spans_highs k_spans_lows v_this_rounding v_this_toe v_this_heel v_this_side v_this_pitch r2 r4 v_this_across v_this_hole v_spans_toldBits v_spans_exactBits v_spans_highs v_spans_lows) := hD
  refine lv_aload_n hx hb dMa_sizeFlat_57 rfl (lv_at hl 0 rfl) ?_
  refine lv_aload_n hx hb dMa_sizeFlat_58 rfl (lv_at hl 0 rfl) ?_
  refine lv_aload_n hx hb dMa_sizeFlat_59 rfl (lv_at hl 0 rfl) ?_
  refine va_get (D := (dC, dI)) (ci := 4) (v := .ref a_spans) (C := RMa) (T := TMa) (N := 12) hx hb hts inZ_Ma hown hK hP 0 rfl rfl 0 (by decide) (hts _ zw_331) (fun _ h9 => h9) rfl dMa_sizeFlat_60 ?_
  refine lv_iconst (v := 2) hx hb dMa_sizeFlat_63 (by decide) ?_
  refine zcall_l hP hD hS hA [1, 2] [0, 3] (va_runVN (As := [.int 2]) (rest := [.ref a_this, .ref a_this]) ⟨hx, hb, hml, hown, hts⟩ (c_Sp_highOf l dC dI ad a_spans a_spans_lows a_spans_highs k_spans_highs _ 2 v_spans_toldBits v_spans_exactBits v_spans_highs _ h) ⟨va_cnB 1 hts (zgood zc_Sp_highOf) rfl rfl rfl (hE.nw _ zn_692) (hts _ zw_100) (by decide +kernel) ⟨Nat.le_of_ble_eq_true rfl, Nat.le_of_ble_eq_true rfl⟩, (hts _ zw_694), (hts _ zw_24)⟩ (zpreV hE hK hP hD hS hA [1, 2] [0] (by rfl) (by rfl) (by decide) (ci := 3) (q0 := 1) rfl (by rfl)) rfl rfl hl.1 rfl (lv_room (Nat.le_of_ble_eq_true rfl)) dMa_sizeFlat_64 ⟨Nat.le_of_ble_eq_true rfl, Nat.le_of_ble_eq_true rfl⟩) (by rfl) (by rfl) (by decide) (by decide) (fun r5 u H locs h hP hD hS => ?_)
  try dsimp only at h
  have hP := hP.sub (ws' := (w_Ma_sizeFlat ad a_this a_spans a_leftOut a_print a_spans_lows a_spans_highs k_spans_highs k_spans_lows v_this_rounding v_this_toe v_this_heel v_this_side v_this_pitch r2 r4 v_this_across v_this_hole v_spans_toldBits v_spans_exactBits v_spans_highs v_spans_lows)) [0, 2, 3, 1] rfl
  have hD := hD.sub (ws' := (w_Ma_sizeFlat ad a_this a_spans a_leftOut a_print a_spans_lows a_spans_highs k_spans_highs k_spans_lows v_this_rounding v_this_toe v_this_heel v_this_side v_this_pitch r2 r4 v_this_across v_this_hole v_spans_toldBits v_spans_exactBits v_spans_highs v_spans_lows)) [0, 2, 3, 1] (by decide) rfl
  refine lv_ldc2 (own := RMa) (index := 129) (v := 2) hx hb hown (hts _ zw_735) dMa_sizeFlat_67 ?_
  refine lv_aload_n hx hb dMa_sizeFlat_70 rfl (lv_at hl 0 rfl) ?_
  refine va_get (D := (dC, dI)) (ci := 4) (v := .long v_this_side) (C := RMa) (T := TMa) (N := 12) hx hb hts inZ_Ma hown hK hP 0 rfl rfl 6 (by decide) (hts _ zw_340) (fun _ h9 => h9) rfl dMa_sizeFlat_71 ?_
  refine lv_lmul hx hb dMa_sizeFlat_74 ?_
  refine lv_ladd hx hb dMa_sizeFlat_75 ?_
  refine zcall_l hP hD hS hA [0] [1, 2, 3] (va_runV (As := [.long (r5 + (2 * v_this_side))]) (rest := [.ref a_this]) ⟨hx, hb, hml, hown, hts⟩ (c_Ma_upTwice l dC dI ad a_this a_spans a_leftOut a_print _ (r5 + (2 * v_this_side)) v_this_rounding v_this_toe v_this_heel v_this_side v_this_pitch r2 r4 v_this_across v_this_hole _ h) ⟨callB_of 1 hts (zgood zc_Ma_upTwice) rfl rfl rfl (hts _ zw_99) (hts _ zw_736) (by decide +kernel) ⟨Nat.le_of_ble_eq_true rfl, Nat.le_of_ble_eq_true rfl⟩, (hts _ zw_738), (hts _ zw_32)⟩ (zpreV hE hK hP hD hS hA [0] [] (by rfl) (by rfl) (by decide) (ci := 4) (q0 := 0) rfl (by rfl)) rfl rfl hl.1 rfl (lv_room (Nat.le_of_ble_eq_true rfl)) dMa_sizeFlat_76 ⟨Nat.le_of_ble_eq_true rfl, Nat.le_of_ble_eq_true rfl⟩) (by rfl) (by rfl) (by decide) (by decide) (fun r6 u H locs h hP hD hS => ?_)
  try dsimp only at h
  have hP := hP.sub (ws' := (w_Ma_sizeFlat ad a_this a_spans a_leftOut a_print a_spans_lows a_spans_highs k_spans_highs k_spans_lows v_this_rounding v_this_toe v_this_heel v_this_side v_this_pitch r2 r4 v_this_across v_this_hole v_spans_toldBits v_spans_exactBits v_spans_highs v_spans_lows)) [3, 0, 1, 2] rfl
  have hD := hD.sub (ws' := (w_Ma_sizeFlat ad a_this a_spans a_leftOut a_print a_spans_lows a_spans_highs k_spans_highs k_spans_lows v_this_rounding v_this_toe v_this_heel v_this_side v_this_pitch r2 r4 v_this_across v_this_hole v_spans_toldBits v_spans_exactBits v_spans_highs v_spans_lows)) [3, 0, 1, 2] (by decide) rfl
  refine va_put (D := (dC, dI)) (ci := 4) (v := .long r6) (ty := .long) (C := RMa) (T := TMa) (N := 12) hx hb hts inZ_Ma tyMa tyMa_ok nmMa hown hK hP hD hS 0 rfl rfl 10 (by decide) (hts _ zw_344) (fun _ h9 => h9) rfl (by decide +kernel) rfl rfl (Nat.le_of_ble_eq_true rfl) dMa_sizeFlat_79 (fun H locs hP hD hS => ?_)
  have hP : va_P (dC, dI) vwCl (w_Ma_sizeFlat ad a_this a_spans a_leftOut a_print a_spans_lows a_spans_highs k_spans_highs k_spans_lows v_this_rounding v_this_toe v_this_heel v_this_side v_this_pitch r2 r4 r6 v_this_hole v_spans_toldBits v_spans_exactBits v_spans_highs v_spans_lows) H := hP
  have hD : va_D A (w_Ma_sizeFlat ad a_this a_spans a_leftOut a_print a_spans_lows a_spans_highs k_spans_highs k_spans_lows v_this_rounding v_this_toe v_this_heel v_this_side v_this_pitch r2 r4 r6 v_this_hole v_spans_toldBits v_spans_exactBits v_spans_highs v_spans_lows) := hD
  refine lv_aload_n hx hb dMa_sizeFlat_82 rfl (lv_at hl 0 rfl) ?_
  refine lv_lconst (v := 0) hx hb dMa_sizeFlat_83 (by decide) ?_
  refine va_put (D := (dC, dI)) (ci := 4) (v := .long 0) (ty := .long) (C := RMa) (T := TMa) (N := 12) hx hb hts inZ_Ma tyMa tyMa_ok nmMa hown hK hP hD hS 0 rfl rfl 11 (by decide) (hts _ zw_345) (fun _ h9 => h9) rfl (by decide +kernel) rfl rfl (Nat.le_of_ble_eq_true rfl) dMa_sizeFlat_84 (fun H locs hP hD hS => ?_)
  have hP : va_P (dC, dI) vwCl (w_Ma_sizeFlat ad a_this a_spans a_leftOut a_print a_spans_lows a_spans_highs k_spans_highs k_spans_lows v_this_rounding v_this_toe v_this_heel v_this_side v_this_pitch r2 r4 r6 0 v_spans_toldBits v_spans_exactBits v_spans_highs v_spans_lows) H := hP
  have hD : va_D A (w_Ma_sizeFlat ad a_this a_spans a_leftOut a_print a_spans_lows a_spans_highs k_spans_highs k_spans_lows v_this_rounding v_this_toe v_this_heel v_this_side v_this_pitch r2 r4 r6 0 v_spans_toldBits v_spans_exactBits v_spans_highs v_spans_lows) := hD
  refine lv_aload_n hx hb dMa_sizeFlat_87 rfl (lv_at hl 0 rfl) ?_
  refine va_get (D := (dC, dI)) (ci := 4) (v := .long r6) (C := RMa) (T := TMa) (N := 12) hx hb hts inZ_Ma hown hK hP 0 rfl rfl 10 (by decide) (hts _ zw_344) (fun _ h9 => h9) rfl dMa_sizeFlat_88 ?_
  refine lv_lconst (v := 0) hx hb dMa_sizeFlat_91 (by decide) ?_
  refine zz_lcmp_le (tgt := 100) hx hb dMa_sizeFlat_92 dMa_sizeFlat_93 (by decide) ?_ ?_
  · intro c7
    replace h := h.1 c7
    refine lv_iconst (v := 0) hx hb dMa_sizeFlat_100 (by decide) ?_
    exact W.zret (v := 0) hx hb hr rfl (fun t ht hW => ⟨⟨0, (r2, r4, r6, 0), rfl, h, by rw [ht]; exact hP, hD⟩, hS.F ht⟩) hS.2.2 dMa_sizeFlat_101
  · intro c7
    replace h := h.2 c7
    refine lv_iconst (v := 1) hx hb dMa_sizeFlat_96 (by decide) ?_
    refine lv_goto (tgt := 101) hx hb dMa_sizeFlat_97 (by decide) ?_
    exact W.zret (v := 1) hx hb hr rfl (fun t ht hW => ⟨⟨1, (r2, r4, r6, 0), rfl, h, by rw [ht]; exact hP, hD⟩, hS.F ht⟩) hS.2.2 dMa_sizeFlat_101
abbrev yMa_isEvenAboveZero : MethodName := ⟨"FootprintRules$Maker", "isEvenAboveZero", "(J)Z"⟩
abbrev cMa_isEvenAboveZero : ByteArray := prog_10_method_7_code
abbrev wsMa_isEvenAboveZero : List Cond := .code yMa_isEvenAboveZero cMa_isEvenAboveZero 2 (some .boolean) :: zT
set_option maxRecDepth 100000 in
theorem zc_Ma_isEvenAboveZero : Cond.code yMa_isEvenAboveZero cMa_isEvenAboveZero 2 (some .boolean) ∈ zT := zm 748 (by rfl) (by rfl)
theorem dMa_isEvenAboveZero_0 : decode cMa_isEvenAboveZero 0 = .ok (.lload_n 0, 1) := by decide +kernel
theorem dMa_isEvenAboveZero_1 : decode cMa_isEvenAboveZero 1 = .ok (.lconst 0, 1) := by decide +kernel
theorem dMa_isEvenAboveZero_2 : decode cMa_isEvenAboveZero 2 = .ok (.lcmp, 1) := by decide +kernel
theorem dMa_isEvenAboveZero_3 : decode cMa_isEvenAboveZero 3 = .ok (.ifCond .le 17, 3) := by decide +kernel
theorem dMa_isEvenAboveZero_6 : decode cMa_isEvenAboveZero 6 = .ok (.lload_n 0, 1) := by decide +kernel
theorem dMa_isEvenAboveZero_7 : decode cMa_isEvenAboveZero 7 = .ok (.ldc2_w 129, 3) := by decide +kernel
theorem dMa_isEvenAboveZero_10 : decode cMa_isEvenAboveZero 10 = .ok (.lrem, 1) := by decide +kernel
theorem dMa_isEvenAboveZero_11 : decode cMa_isEvenAboveZero 11 = .ok (.lconst 0, 1) := by decide +kernel
theorem dMa_isEvenAboveZero_12 : decode cMa_isEvenAboveZero 12 = .ok (.lcmp, 1) := by decide +kernel
theorem dMa_isEvenAboveZero_13 : decode cMa_isEvenAboveZero 13 = .ok (.ifCond .ne 7, 3) := by decide +kernel
theorem dMa_isEvenAboveZero_16 : decode cMa_isEvenAboveZero 16 = .ok (.iconst 1, 1) := by decide +kernel
theorem dMa_isEvenAboveZero_17 : decode cMa_isEvenAboveZero 17 = .ok (.goto 4, 3) := by decide +kernel
theorem dMa_isEvenAboveZero_20 : decode cMa_isEvenAboveZero 20 = .ok (.iconst 0, 1) := by decide +kernel
theorem dMa_isEvenAboveZero_21 : decode cMa_isEvenAboveZero 21 = .ok (.ireturn, 1) := by decide +kernel
-- FootprintRules$Maker.isEvenAboveZero(J)Z
abbrev w_Ma_isEvenAboveZero (ad : Nat → Nat → Nat)    : va_W := []
def P_Ma_isEvenAboveZero (p0 : Int64) (post : Int32 → Prop) : Prop := ((p0 ≤ 0 → post 0) ∧ (¬ p0 ≤ 0 → ((¬ (p0 - p0 / 2 * 2) = 0 → post 0) ∧ ((p0 - p0 / 2 * 2) = 0 → post 1))))
set_option maxHeartbeats 4000000 in
set_option maxRecDepth 100000 in
theorem c_Ma_isEvenAboveZero (l : Launch) (dC : Nat → ClassId) (dI : Nat → Nat → Nat) (ad : Nat → Nat → Nat)   (sz : Nat) (p0 : Int64) (post : Int32 → Prop) (h : P_Ma_isEvenAboveZero p0 post) : zMi l yMa_isEvenAboveZero wsMa_isEvenAboveZero { frames := 0, cells := 0, slots := 0, locals := 0 } (dC, dI) ad [.long p0] (w_Ma_isEvenAboveZero ad ) [] sz (fun (r : Int32) (u : Unit) => post r) (fun (u : Unit) => (w_Ma_isEvenAboveZero ad )) 0 0 := by
  refine Met.ofW (cc := cMa_isEvenAboveZero) (maxL := 2) (ret := (some .boolean)) (by decide +kernel) rfl ?_
  intro p e s m args below meth c s₁ B hml hv
  obtain ⟨rfl, hsz, hP, hK, hD0, hE⟩ := hv
  have hx := B.exec
  have hb := B.bytes
  have hr := B.returns
  have hts0 := atoms_spec (ws := wsMa_isEvenAboveZero) B.pre
  have hts := fun w h => hts0 w (List.mem_cons_of_mem _ h)
  have hown : s.vm.findClass RMa = some m.cls := findClass_of_methodNamed B.named
  have hlocks := B.notSynchronized
  subst hsz
  have hD := hD0.self (sz := s.heap.size)
  generalize hAe : va_A (w_Ma_isEvenAboveZero ad ) s.heap.size = A at hD hE ⊢
  have hA : ∀ q : Nat, s.heap.size ≤ q → A q := fun q h => by rw [← hAe]; exact Or.inr h
  have C0 := zC.mk hx hb hr hml hown hts hlocks hA
  have hS : va_S A s.heap s.heap [] := va_S.rf
  have hl := lv_entry ([.long p0]) (n := 2) (Nat.le_of_ble_eq_true rfl)
  rw [lg_entry_eq]
  generalize (lg_sl ([.long p0]) ++ List.replicate (2 - (lg_sl ([.long p0])).length) Slot.unset).toArray = ls at hl ⊢
  have hl : lv_has ls 2 [(0, .long p0)] := hl
  unfold P_Ma_isEvenAboveZero at h
  refine lv_lload_n hx hb dMa_isEvenAboveZero_0 rfl (lv_at hl 0 rfl) ?_
  refine lv_lconst (v := 0) hx hb dMa_isEvenAboveZero_1 (by decide) ?_
  refine zz_lcmp_le (tgt := 20) hx hb dMa_isEvenAboveZero_2 dMa_isEvenAboveZero_3 (by decide) ?_ ?_
  · intro c1
    replace h := h.1 c1
    refine lv_iconst (v := 0) hx hb dMa_isEvenAboveZero_20 (by decide) ?_
    exact W.zret (v := 0) hx hb hr rfl (fun t ht hW => ⟨⟨0, (()), rfl, h, by rw [ht]; exact hP, hD⟩, hS.F ht⟩) hS.2.2 dMa_isEvenAboveZero_21
  · intro c1
    replace h := h.2 c1
    refine lv_lload_n hx hb dMa_isEvenAboveZero_6 rfl (lv_at hl 0 rfl) ?_
    refine lv_ldc2 (own := RMa) (index := 129) (v := 2) hx hb hown (hts _ zw_735) dMa_isEvenAboveZero_7 ?_
    refine lv_lrem hx hb dMa_isEvenAboveZero_10 (by decide) ?_
    refine lv_lconst (v := 0) hx hb dMa_isEvenAboveZero_11 (by decide) ?_
    refine zz_lcmp_ne (tgt := 20) hx hb dMa_isEvenAboveZero_12 dMa_isEvenAboveZero_13 (by decide) ?_ ?_
    · intro c2
      replace h := h.1 c2
      refine lv_iconst (v := 0) hx hb dMa_isEvenAboveZero_20 (by decide) ?_
      exact W.zret (v := 0) hx hb hr rfl (fun t ht hW => ⟨⟨0, (()), rfl, h, by rw [ht]; exact hP, hD⟩, hS.F ht⟩) hS.2.2 dMa_isEvenAboveZero_21
    · intro c2
      replace h := h.2 c2
      refine lv_iconst (v := 1) hx hb dMa_isEvenAboveZero_16 (by decide) ?_
      refine lv_goto (tgt := 21) hx hb dMa_isEvenAboveZero_17 (by decide) ?_
      exact W.zret (v := 1) hx hb hr rfl (fun t ht hW => ⟨⟨1, (()), rfl, h, by rw [ht]; exact hP, hD⟩, hS.F ht⟩) hS.2.2 dMa_isEvenAboveZero_21
abbrev yMa_sizeHoles : MethodName := ⟨"FootprintRules$Maker", "sizeHoles", "()Z"⟩
abbrev cMa_sizeHoles : ByteArray := prog_10_method_11_code
abbrev wsMa_sizeHoles : List Cond := .code yMa_sizeHoles cMa_sizeHoles 3 (some .boolean) :: zT
set_option maxRecDepth 100000 in
theorem zc_Ma_sizeHoles : Cond.code yMa_sizeHoles cMa_sizeHoles 3 (some .boolean) ∈ zT := zm 768 (by rfl) (by rfl)
theorem dMa_sizeHoles_0 : decode cMa_sizeHoles 0 = .ok (.aload_n 0, 1) := by decide +kernel
theorem dMa_sizeHoles_1 : decode cMa_sizeHoles 1 = .ok (.getfield 12, 3) := by decide +kernel
theorem dMa_sizeHoles_4 : decode cMa_sizeHoles 4 = .ok (.iconst 0, 1) := by decide +kernel
theorem dMa_sizeHoles_5 : decode cMa_sizeHoles 5 = .ok (.invokevirtual 42, 3) := by decide +kernel
theorem dMa_sizeHoles_8 : decode cMa_sizeHoles 8 = .ok (.lstore_n 1, 1) := by decide +kernel
theorem dMa_sizeHoles_9 : decode cMa_sizeHoles 9 = .ok (.aload_n 0, 1) := by decide +kernel
theorem dMa_sizeHoles_10 : decode cMa_sizeHoles 10 = .ok (.aload_n 0, 1) := by decide +kernel
theorem dMa_sizeHoles_11 : decode cMa_sizeHoles 11 = .ok (.aload_n 0, 1) := by decide +kernel
theorem dMa_sizeHoles_12 : decode cMa_sizeHoles 12 = .ok (.getfield 12, 3) := by decide +kernel
theorem dMa_sizeHoles_15 : decode cMa_sizeHoles 15 = .ok (.iconst 2, 1) := by decide +kernel
theorem dMa_sizeHoles_16 : decode cMa_sizeHoles 16 = .ok (.invokevirtual 42, 3) := by decide +kernel
theorem dMa_sizeHoles_19 : decode cMa_sizeHoles 19 = .ok (.ldc2_w 129, 3) := by decide +kernel
theorem dMa_sizeHoles_22 : decode cMa_sizeHoles 22 = .ok (.aload_n 0, 1) := by decide +kernel
theorem dMa_sizeHoles_23 : decode cMa_sizeHoles 23 = .ok (.getfield 93, 3) := by decide +kernel
theorem dMa_sizeHoles_26 : decode cMa_sizeHoles 26 = .ok (.lmul, 1) := by decide +kernel
theorem dMa_sizeHoles_27 : decode cMa_sizeHoles 27 = .ok (.ladd, 1) := by decide +kernel
theorem dMa_sizeHoles_28 : decode cMa_sizeHoles 28 = .ok (.invokevirtual 138, 3) := by decide +kernel
theorem dMa_sizeHoles_31 : decode cMa_sizeHoles 31 = .ok (.putfield 204, 3) := by decide +kernel
theorem dMa_sizeHoles_34 : decode cMa_sizeHoles 34 = .ok (.aload_n 0, 1) := by decide +kernel
theorem dMa_sizeHoles_35 : decode cMa_sizeHoles 35 = .ok (.aload_n 0, 1) := by decide +kernel
theorem dMa_sizeHoles_36 : decode cMa_sizeHoles 36 = .ok (.getfield 204, 3) := by decide +kernel
theorem dMa_sizeHoles_39 : decode cMa_sizeHoles 39 = .ok (.ldc2_w 129, 3) := by decide +kernel
theorem dMa_sizeHoles_42 : decode cMa_sizeHoles 42 = .ok (.aload_n 0, 1) := by decide +kernel
theorem dMa_sizeHoles_43 : decode cMa_sizeHoles 43 = .ok (.getfield 99, 3) := by decide +kernel
theorem dMa_sizeHoles_46 : decode cMa_sizeHoles 46 = .ok (.aload_n 0, 1) := by decide +kernel
theorem dMa_sizeHoles_47 : decode cMa_sizeHoles 47 = .ok (.getfield 76, 3) := by decide +kernel
theorem dMa_sizeHoles_50 : decode cMa_sizeHoles 50 = .ok (.invokestatic 131, 3) := by decide +kernel
theorem dMa_sizeHoles_53 : decode cMa_sizeHoles 53 = .ok (.lmul, 1) := by decide +kernel
theorem dMa_sizeHoles_54 : decode cMa_sizeHoles 54 = .ok (.ladd, 1) := by decide +kernel
theorem dMa_sizeHoles_55 : decode cMa_sizeHoles 55 = .ok (.putfield 201, 3) := by decide +kernel
theorem dMa_sizeHoles_58 : decode cMa_sizeHoles 58 = .ok (.aload_n 0, 1) := by decide +kernel
theorem dMa_sizeHoles_59 : decode cMa_sizeHoles 59 = .ok (.lload_n 1, 1) := by decide +kernel
theorem dMa_sizeHoles_60 : decode cMa_sizeHoles 60 = .ok (.aload_n 0, 1) := by decide +kernel
theorem dMa_sizeHoles_61 : decode cMa_sizeHoles 61 = .ok (.getfield 201, 3) := by decide +kernel
theorem dMa_sizeHoles_64 : decode cMa_sizeHoles 64 = .ok (.ladd, 1) := by decide +kernel
theorem dMa_sizeHoles_65 : decode cMa_sizeHoles 65 = .ok (.putfield 189, 3) := by decide +kernel
theorem dMa_sizeHoles_68 : decode cMa_sizeHoles 68 = .ok (.aload_n 0, 1) := by decide +kernel
theorem dMa_sizeHoles_69 : decode cMa_sizeHoles 69 = .ok (.lload_n 1, 1) := by decide +kernel
theorem dMa_sizeHoles_70 : decode cMa_sizeHoles 70 = .ok (.aload_n 0, 1) := by decide +kernel
theorem dMa_sizeHoles_71 : decode cMa_sizeHoles 71 = .ok (.getfield 201, 3) := by decide +kernel
theorem dMa_sizeHoles_74 : decode cMa_sizeHoles 74 = .ok (.lsub, 1) := by decide +kernel
theorem dMa_sizeHoles_75 : decode cMa_sizeHoles 75 = .ok (.putfield 198, 3) := by decide +kernel
theorem dMa_sizeHoles_78 : decode cMa_sizeHoles 78 = .ok (.aload_n 0, 1) := by decide +kernel
theorem dMa_sizeHoles_79 : decode cMa_sizeHoles 79 = .ok (.getfield 204, 3) := by decide +kernel
theorem dMa_sizeHoles_82 : decode cMa_sizeHoles 82 = .ok (.lconst 0, 1) := by decide +kernel
theorem dMa_sizeHoles_83 : decode cMa_sizeHoles 83 = .ok (.lcmp, 1) := by decide +kernel
theorem dMa_sizeHoles_84 : decode cMa_sizeHoles 84 = .ok (.ifCond .le 14, 3) := by decide +kernel
theorem dMa_sizeHoles_87 : decode cMa_sizeHoles 87 = .ok (.lload_n 1, 1) := by decide +kernel
theorem dMa_sizeHoles_88 : decode cMa_sizeHoles 88 = .ok (.invokestatic 142, 3) := by decide +kernel
theorem dMa_sizeHoles_91 : decode cMa_sizeHoles 91 = .ok (.ifCond .eq 7, 3) := by decide +kernel
theorem dMa_sizeHoles_94 : decode cMa_sizeHoles 94 = .ok (.iconst 1, 1) := by decide +kernel
theorem dMa_sizeHoles_95 : decode cMa_sizeHoles 95 = .ok (.goto 4, 3) := by decide +kernel
theorem dMa_sizeHoles_98 : decode cMa_sizeHoles 98 = .ok (.iconst 0, 1) := by decide +kernel
theorem dMa_sizeHoles_99 : decode cMa_sizeHoles 99 = .ok (.ireturn, 1) := by decide +kernel
-- FootprintRules$Maker.sizeHoles()Z
abbrev w_Ma_sizeHoles (ad : Nat → Nat → Nat) (a_this : Nat) (a_spans : Nat) (a_leftOut : Nat) (a_print : Nat) (a_spans_lows : Nat) (a_spans_highs : Nat) (k_spans_highs : ClassId) (v_this_rounding : Int64) (v_this_toe : Int64) (v_this_heel : Int64) (v_this_side : Int64) (v_this_pitch : Int64) (v_this_outer : Int64) (v_this_inner : Int64) (v_this_across : Int64) (v_this_hole : Int64) (v_spans_toldBits : Int32) (v_spans_exactBits : Int32) (v_spans_highs : Nat → Int64) : va_W := [(a_this, .inr (4, [.ref a_spans, .ref a_leftOut, .ref a_print, .long v_this_rounding, .long v_this_toe, .long v_this_heel, .long v_this_side, .long v_this_pitch, .long v_this_outer, .long v_this_inner, .long v_this_across, .long v_this_hole])), (a_spans, .inr (3, [.ref a_spans_lows, .ref a_spans_highs, .int v_spans_toldBits, .int v_spans_exactBits])), (a_spans_highs, .inl (k_spans_highs, 12, .inr (.inl v_spans_highs)))]
def P_Ma_sizeHoles (v_this_rounding : Int64) (v_this_heel : Int64) (v_this_side : Int64) (v_spans_toldBits : Int32) (v_spans_highs : Nat → Int64) (post : Int32 → Int64 → Int64 → Int64 → Int64 → Prop) : Prop := P_Sp_highOf 0 v_spans_toldBits v_spans_highs (fun (r1 : Int64) => P_Sp_highOf 2 v_spans_toldBits v_spans_highs (fun (r2 : Int64) => P_Ma_upTwice (r2 + (2 * v_this_heel)) v_this_rounding (fun (r3 : Int64) => P_F_up v_this_side v_this_rounding (fun (r4 : Int64) => ∀ x5 : Int64, x5 = r3 + (2 * r4) → ∀ x6 : Int64, x6 = r1 + x5 → ∀ x7 : Int64, x7 = r1 - x5 → ((r3 ≤ 0 → post 0 x6 x7 x5 r3) ∧ (¬ r3 ≤ 0 → P_Ma_isEvenAboveZero r1 (fun (r9 : Int32) => ((r9 = 0 → post 0 x6 x7 x5 r3) ∧ (¬ r9 = 0 → post 1 x6 x7 x5 r3)))))))))
set_option maxHeartbeats 4000000 in
set_option maxRecDepth 100000 in
theorem c_Ma_sizeHoles (l : Launch) (dC : Nat → ClassId) (dI : Nat → Nat → Nat) (ad : Nat → Nat → Nat) (a_this : Nat) (a_spans : Nat) (a_leftOut : Nat) (a_print : Nat) (a_spans_lows : Nat) (a_spans_highs : Nat) (k_spans_highs : ClassId) (sz : Nat) (v_this_rounding : Int64) (v_this_toe : Int64) (v_this_heel : Int64) (v_this_side : Int64) (v_this_pitch : Int64) (v_this_outer : Int64) (v_this_inner : Int64) (v_this_across : Int64) (v_this_hole : Int64) (v_spans_toldBits : Int32) (v_spans_exactBits : Int32) (v_spans_highs : Nat → Int64) (post : Int32 → Int64 → Int64 → Int64 → Int64 → Prop) (h : P_Ma_sizeHoles v_this_rounding v_this_heel v_this_side v_spans_toldBits v_spans_highs post) : zMi l yMa_sizeHoles wsMa_sizeHoles { frames := 3, cells := 0, slots := 0, locals := 70 } (dC, dI) ad [.ref a_this] (w_Ma_sizeHoles ad a_this a_spans a_leftOut a_print a_spans_lows a_spans_highs k_spans_highs v_this_rounding v_this_toe v_this_heel v_this_side v_this_pitch v_this_outer v_this_inner v_this_across v_this_hole v_spans_toldBits v_spans_exactBits v_spans_highs) [(k_spans_highs, .long)] sz (fun (r : Int32) (u : Int64 × Int64 × Int64 × Int64) => post r u.1 u.2.1 u.2.2.1 u.2.2.2) (fun (u : Int64 × Int64 × Int64 × Int64) => (w_Ma_sizeHoles ad a_this a_spans a_leftOut a_print a_spans_lows a_spans_highs k_spans_highs v_this_rounding v_this_toe v_this_heel v_this_side v_this_pitch u.1 u.2.1 u.2.2.1 u.2.2.2 v_spans_toldBits v_spans_exactBits v_spans_highs)) 0 0 := by
  refine Met.ofW (cc := cMa_sizeHoles) (maxL := 3) (ret := (some .boolean)) (by decide +kernel) rfl ?_
  intro p e s m args below meth c s₁ B hml hv
  obtain ⟨rfl, hsz, hP, hK, hD0, hE⟩ := hv
  have hx := B.exec
  have hb := B.bytes
  have hr := B.returns
  have hts0 := atoms_spec (ws := wsMa_sizeHoles) B.pre
  have hts := fun w h => hts0 w (List.mem_cons_of_mem _ h)
  have hown : s.vm.findClass RMa = some m.cls := findClass_of_methodNamed B.named
  have hlocks := B.notSynchronized
  subst hsz
  have hD := hD0.self (sz := s.heap.size)
  generalize hAe : va_A (w_Ma_sizeHoles ad a_this a_spans a_leftOut a_print a_spans_lows a_spans_highs k_spans_highs v_this_rounding v_this_toe v_this_heel v_this_side v_this_pitch v_this_outer v_this_inner v_this_across v_this_hole v_spans_toldBits v_spans_exactBits v_spans_highs) s.heap.size = A at hD hE ⊢
  have hA : ∀ q : Nat, s.heap.size ≤ q → A q := fun q h => by rw [← hAe]; exact Or.inr h
  have C0 := zC.mk hx hb hr hml hown hts hlocks hA
  have hS : va_S A s.heap s.heap [] := va_S.rf
  have hl := lv_entry ([.ref a_this]) (n := 3) (Nat.le_of_ble_eq_true rfl)
  rw [lg_entry_eq]
  generalize (lg_sl ([.ref a_this]) ++ List.replicate (3 - (lg_sl ([.ref a_this])).length) Slot.unset).toArray = ls at hl ⊢
  have hl : lv_has ls 3 [(0, .ref a_this)] := hl
  unfold P_Ma_sizeHoles at h
  refine lv_aload_n hx hb dMa_sizeHoles_0 rfl (lv_at hl 0 rfl) ?_
  refine va_get (D := (dC, dI)) (ci := 4) (v := .ref a_spans) (C := RMa) (T := TMa) (N := 12) hx hb hts inZ_Ma hown hK hP 0 rfl rfl 0 (by decide) (hts _ zw_331) (fun _ h9 => h9) rfl dMa_sizeHoles_1 ?_
  refine lv_iconst (v := 0) hx hb dMa_sizeHoles_4 (by decide) ?_
  refine zcall_l hP hD hS hA [1, 2] [0] (va_runVN (As := [.int 0]) (rest := []) ⟨hx, hb, hml, hown, hts⟩ (c_Sp_highOf l dC dI ad a_spans a_spans_lows a_spans_highs k_spans_highs _ 0 v_spans_toldBits v_spans_exactBits v_spans_highs _ h) ⟨va_cnB 1 hts (zgood zc_Sp_highOf) rfl rfl rfl (hE.nw _ zn_692) (hts _ zw_100) (by decide +kernel) ⟨Nat.le_of_ble_eq_true rfl, Nat.le_of_ble_eq_true rfl⟩, (hts _ zw_694), (hts _ zw_24)⟩ (zpreV hE hK hP hD hS hA [1, 2] [0] (by rfl) (by rfl) (by decide) (ci := 3) (q0 := 1) rfl (by rfl)) rfl rfl hl.1 rfl (lv_room (Nat.le_of_ble_eq_true rfl)) dMa_sizeHoles_5 ⟨Nat.le_of_ble_eq_true rfl, Nat.le_of_ble_eq_true rfl⟩) (by rfl) (by rfl) (by decide) (by decide) (fun r1 u H locs h hP hD hS => ?_)
  try dsimp only at h
  have hP := hP.sub (ws' := (w_Ma_sizeHoles ad a_this a_spans a_leftOut a_print a_spans_lows a_spans_highs k_spans_highs v_this_rounding v_this_toe v_this_heel v_this_side v_this_pitch v_this_outer v_this_inner v_this_across v_this_hole v_spans_toldBits v_spans_exactBits v_spans_highs)) [0, 1, 2] rfl
  have hD := hD.sub (ws' := (w_Ma_sizeHoles ad a_this a_spans a_leftOut a_print a_spans_lows a_spans_highs k_spans_highs v_this_rounding v_this_toe v_this_heel v_this_side v_this_pitch v_this_outer v_this_inner v_this_across v_this_hole v_spans_toldBits v_spans_exactBits v_spans_highs)) [0, 1, 2] (by decide) rfl
  refine lv_lstore_n (lv' := [(1, .long r1), (0, .ref a_this)]) hx hb dMa_sizeHoles_8 rfl hl (by decide) rfl (fun ls hl => ?_)
  refine lv_aload_n hx hb dMa_sizeHoles_9 rfl (lv_at hl 1 rfl) ?_
  refine lv_aload_n hx hb dMa_sizeHoles_10 rfl (lv_at hl 1 rfl) ?_
  refine lv_aload_n hx hb dMa_sizeHoles_11 rfl (lv_at hl 1 rfl) ?_
  refine va_get (D := (dC, dI)) (ci := 4) (v := .ref a_spans) (C := RMa) (T := TMa) (N := 12) hx hb hts inZ_Ma hown hK hP 0 rfl rfl 0 (by decide) (hts _ zw_331) (fun _ h9 => h9) rfl dMa_sizeHoles_12 ?_
  refine lv_iconst (v := 2) hx hb dMa_sizeHoles_15 (by decide) ?_
  refine zcall_l hP hD hS hA [1, 2] [0] (va_runVN (As := [.int 2]) (rest := [.ref a_this, .ref a_this]) ⟨hx, hb, hml, hown, hts⟩ (c_Sp_highOf l dC dI ad a_spans a_spans_lows a_spans_highs k_spans_highs _ 2 v_spans_toldBits v_spans_exactBits v_spans_highs _ h) ⟨va_cnB 1 hts (zgood zc_Sp_highOf) rfl rfl rfl (hE.nw _ zn_692) (hts _ zw_100) (by decide +kernel) ⟨Nat.le_of_ble_eq_true rfl, Nat.le_of_ble_eq_true rfl⟩, (hts _ zw_694), (hts _ zw_24)⟩ (zpreV hE hK hP hD hS hA [1, 2] [0] (by rfl) (by rfl) (by decide) (ci := 3) (q0 := 1) rfl (by rfl)) rfl rfl hl.1 rfl (lv_room (Nat.le_of_ble_eq_true rfl)) dMa_sizeHoles_16 ⟨Nat.le_of_ble_eq_true rfl, Nat.le_of_ble_eq_true rfl⟩) (by rfl) (by rfl) (by decide) (by decide) (fun r2 u H locs h hP hD hS => ?_)
  try dsimp only at h
  have hP := hP.sub (ws' := (w_Ma_sizeHoles ad a_this a_spans a_leftOut a_print a_spans_lows a_spans_highs k_spans_highs v_this_rounding v_this_toe v_this_heel v_this_side v_this_pitch v_this_outer v_this_inner v_this_across v_this_hole v_spans_toldBits v_spans_exactBits v_spans_highs)) [0, 1, 2] rfl
  have hD := hD.sub (ws' := (w_Ma_sizeHoles ad a_this a_spans a_leftOut a_print a_spans_lows a_spans_highs k_spans_highs v_this_rounding v_this_toe v_this_heel v_this_side v_this_pitch v_this_outer v_this_inner v_this_across v_this_hole v_spans_toldBits v_spans_exactBits v_spans_highs)) [0, 1, 2] (by decide) rfl
  refine lv_ldc2 (own := RMa) (index := 129) (v := 2) hx hb hown (hts _ zw_735) dMa_sizeHoles_19 ?_
  refine lv_aload_n hx hb dMa_sizeHoles_22 rfl (lv_at hl 1 rfl) ?_
  refine va_get (D := (dC, dI)) (ci := 4) (v := .long v_this_heel) (C := RMa) (T := TMa) (N := 12) hx hb hts inZ_Ma hown hK hP 0 rfl rfl 5 (by decide) (hts _ zw_339) (fun _ h9 => h9) rfl dMa_sizeHoles_23 ?_
  refine lv_lmul hx hb dMa_sizeHoles_26 ?_
  refine lv_ladd hx hb dMa_sizeHoles_27 ?_
  refine zcall_l hP hD hS hA [0] [1, 2] (va_runV (As := [.long (r2 + (2 * v_this_heel))]) (rest := [.ref a_this]) ⟨hx, hb, hml, hown, hts⟩ (c_Ma_upTwice l dC dI ad a_this a_spans a_leftOut a_print _ (r2 + (2 * v_this_heel)) v_this_rounding v_this_toe v_this_heel v_this_side v_this_pitch v_this_outer v_this_inner v_this_across v_this_hole _ h) ⟨callB_of 1 hts (zgood zc_Ma_upTwice) rfl rfl rfl (hts _ zw_99) (hts _ zw_736) (by decide +kernel) ⟨Nat.le_of_ble_eq_true rfl, Nat.le_of_ble_eq_true rfl⟩, (hts _ zw_738), (hts _ zw_32)⟩ (zpreV hE hK hP hD hS hA [0] [] (by rfl) (by rfl) (by decide) (ci := 4) (q0 := 0) rfl (by rfl)) rfl rfl hl.1 rfl (lv_room (Nat.le_of_ble_eq_true rfl)) dMa_sizeHoles_28 ⟨Nat.le_of_ble_eq_true rfl, Nat.le_of_ble_eq_true rfl⟩) (by rfl) (by rfl) (by decide) (by decide) (fun r3 u H locs h hP hD hS => ?_)
  try dsimp only at h
  have hP := hP.sub (ws' := (w_Ma_sizeHoles ad a_this a_spans a_leftOut a_print a_spans_lows a_spans_highs k_spans_highs v_this_rounding v_this_toe v_this_heel v_this_side v_this_pitch v_this_outer v_this_inner v_this_across v_this_hole v_spans_toldBits v_spans_exactBits v_spans_highs)) [2, 0, 1] rfl
  have hD := hD.sub (ws' := (w_Ma_sizeHoles ad a_this a_spans a_leftOut a_print a_spans_lows a_spans_highs k_spans_highs v_this_rounding v_this_toe v_this_heel v_this_side v_this_pitch v_this_outer v_this_inner v_this_across v_this_hole v_spans_toldBits v_spans_exactBits v_spans_highs)) [2, 0, 1] (by decide) rfl
  refine va_put (D := (dC, dI)) (ci := 4) (v := .long r3) (ty := .long) (C := RMa) (T := TMa) (N := 12) hx hb hts inZ_Ma tyMa tyMa_ok nmMa hown hK hP hD hS 0 rfl rfl 11 (by decide) (hts _ zw_345) (fun _ h9 => h9) rfl (by decide +kernel) rfl rfl (Nat.le_of_ble_eq_true rfl) dMa_sizeHoles_31 (fun H locs hP hD hS => ?_)
  have hP : va_P (dC, dI) vwCl (w_Ma_sizeHoles ad a_this a_spans a_leftOut a_print a_spans_lows a_spans_highs k_spans_highs v_this_rounding v_this_toe v_this_heel v_this_side v_this_pitch v_this_outer v_this_inner v_this_across r3 v_spans_toldBits v_spans_exactBits v_spans_highs) H := hP
  have hD : va_D A (w_Ma_sizeHoles ad a_this a_spans a_leftOut a_print a_spans_lows a_spans_highs k_spans_highs v_this_rounding v_this_toe v_this_heel v_this_side v_this_pitch v_this_outer v_this_inner v_this_across r3 v_spans_toldBits v_spans_exactBits v_spans_highs) := hD
  refine lv_aload_n hx hb dMa_sizeHoles_34 rfl (lv_at hl 1 rfl) ?_
  refine lv_aload_n hx hb dMa_sizeHoles_35 rfl (lv_at hl 1 rfl) ?_
  refine va_get (D := (dC, dI)) (ci := 4) (v := .long r3) (C := RMa) (T := TMa) (N := 12) hx hb hts inZ_Ma hown hK hP 0 rfl rfl 11 (by decide) (hts _ zw_345) (fun _ h9 => h9) rfl dMa_sizeHoles_36 ?_
  refine lv_ldc2 (own := RMa) (index := 129) (v := 2) hx hb hown (hts _ zw_735) dMa_sizeHoles_39 ?_
  refine lv_aload_n hx hb dMa_sizeHoles_42 rfl (lv_at hl 1 rfl) ?_
  refine va_get (D := (dC, dI)) (ci := 4) (v := .long v_this_side) (C := RMa) (T := TMa) (N := 12) hx hb hts inZ_Ma hown hK hP 0 rfl rfl 6 (by decide) (hts _ zw_340) (fun _ h9 => h9) rfl dMa_sizeHoles_43 ?_
  refine lv_aload_n hx hb dMa_sizeHoles_46 rfl (lv_at hl 1 rfl) ?_
  refine va_get (D := (dC, dI)) (ci := 4) (v := .long v_this_rounding) (C := RMa) (T := TMa) (N := 12) hx hb hts inZ_Ma hown hK hP 0 rfl rfl 3 (by decide) (hts _ zw_337) (fun _ h9 => h9) rfl dMa_sizeHoles_47 ?_
  refine zcall_l hP hD hS hA [] [0, 1, 2] (va_runSN (As := [.long v_this_side, .long v_this_rounding]) (rest := [.long 2, .long r3, .ref a_this]) ⟨hx, hb, hml, hown, hts⟩ (c_F_up l dC dI ad _ v_this_side v_this_rounding _ h) ⟨va_cnB 2 hts (zgood zc_F_up) rfl rfl rfl (hE.nw _ zn_740) (hts _ zw_95) (by decide +kernel) ⟨Nat.le_of_ble_eq_true rfl, Nat.le_of_ble_eq_true rfl⟩, (hts _ zw_741), trivial⟩ (zpreS hE hK hP hD hS hA [] [] (by rfl) (by rfl) (by decide)) rfl rfl hl.1 rfl (lv_room (Nat.le_of_ble_eq_true rfl)) dMa_sizeHoles_50 ⟨Nat.le_of_ble_eq_true rfl, Nat.le_of_ble_eq_true rfl⟩) (by rfl) (by rfl) (by decide) (by decide) (fun r4 u H locs h hP hD hS => ?_)
  try dsimp only at h
  have hP := hP.sub (ws' := (w_Ma_sizeHoles ad a_this a_spans a_leftOut a_print a_spans_lows a_spans_highs k_spans_highs v_this_rounding v_this_toe v_this_heel v_this_side v_this_pitch v_this_outer v_this_inner v_this_across r3 v_spans_toldBits v_spans_exactBits v_spans_highs)) [0, 1, 2] rfl
  have hD := hD.sub (ws' := (w_Ma_sizeHoles ad a_this a_spans a_leftOut a_print a_spans_lows a_spans_highs k_spans_highs v_this_rounding v_this_toe v_this_heel v_this_side v_this_pitch v_this_outer v_this_inner v_this_across r3 v_spans_toldBits v_spans_exactBits v_spans_highs)) [0, 1, 2] (by decide) rfl
  refine lv_lmul hx hb dMa_sizeHoles_53 ?_
  refine lv_ladd hx hb dMa_sizeHoles_54 ?_
  refine lv_topl (fun x5 ex5 => ?_)
  replace h := h x5 ex5
  refine va_put (D := (dC, dI)) (ci := 4) (v := .long x5) (ty := .long) (C := RMa) (T := TMa) (N := 12) hx hb hts inZ_Ma tyMa tyMa_ok nmMa hown hK hP hD hS 0 rfl rfl 10 (by decide) (hts _ zw_344) (fun _ h9 => h9) rfl (by decide +kernel) rfl rfl (Nat.le_of_ble_eq_true rfl) dMa_sizeHoles_55 (fun H locs hP hD hS => ?_)
  have hP : va_P (dC, dI) vwCl (w_Ma_sizeHoles ad a_this a_spans a_leftOut a_print a_spans_lows a_spans_highs k_spans_highs v_this_rounding v_this_toe v_this_heel v_this_side v_this_pitch v_this_outer v_this_inner x5 r3 v_spans_toldBits v_spans_exactBits v_spans_highs) H := hP
  have hD : va_D A (w_Ma_sizeHoles ad a_this a_spans a_leftOut a_print a_spans_lows a_spans_highs k_spans_highs v_this_rounding v_this_toe v_this_heel v_this_side v_this_pitch v_this_outer v_this_inner x5 r3 v_spans_toldBits v_spans_exactBits v_spans_highs) := hD
  refine lv_aload_n hx hb dMa_sizeHoles_58 rfl (lv_at hl 1 rfl) ?_
  refine lv_lload_n hx hb dMa_sizeHoles_59 rfl (lv_at hl 0 rfl) ?_
  refine lv_aload_n hx hb dMa_sizeHoles_60 rfl (lv_at hl 1 rfl) ?_
  refine va_get (D := (dC, dI)) (ci := 4) (v := .long x5) (C := RMa) (T := TMa) (N := 12) hx hb hts inZ_Ma hown hK hP 0 rfl rfl 10 (by decide) (hts _ zw_344) (fun _ h9 => h9) rfl dMa_sizeHoles_61 ?_
  refine lv_ladd hx hb dMa_sizeHoles_64 ?_
  refine lv_topl (fun x6 ex6 => ?_)
  replace h := h x6 ex6
  refine va_put (D := (dC, dI)) (ci := 4) (v := .long x6) (ty := .long) (C := RMa) (T := TMa) (N := 12) hx hb hts inZ_Ma tyMa tyMa_ok nmMa hown hK hP hD hS 0 rfl rfl 8 (by decide) (hts _ zw_342) (fun _ h9 => h9) rfl (by decide +kernel) rfl rfl (Nat.le_of_ble_eq_true rfl) dMa_sizeHoles_65 (fun H locs hP hD hS => ?_)
  have hP : va_P (dC, dI) vwCl (w_Ma_sizeHoles ad a_this a_spans a_leftOut a_print a_spans_lows a_spans_highs k_spans_highs v_this_rounding v_this_toe v_this_heel v_this_side v_this_pitch x6 v_this_inner x5 r3 v_spans_toldBits v_spans_exactBits v_spans_highs) H := hP
  have hD : va_D A (w_Ma_sizeHoles ad a_this a_spans a_leftOut a_print a_spans_lows a_spans_highs k_spans_highs v_this_rounding v_this_toe v_this_heel v_this_side v_this_pitch x6 v_this_inner x5 r3 v_spans_toldBits v_spans_exactBits v_spans_highs) := hD
  refine lv_aload_n hx hb dMa_sizeHoles_68 rfl (lv_at hl 1 rfl) ?_
  refine lv_lload_n hx hb dMa_sizeHoles_69 rfl (lv_at hl 0 rfl) ?_
  refine lv_aload_n hx hb dMa_sizeHoles_70 rfl (lv_at hl 1 rfl) ?_
  refine va_get (D := (dC, dI)) (ci := 4) (v := .long x5) (C := RMa) (T := TMa) (N := 12) hx hb hts inZ_Ma hown hK hP 0 rfl rfl 10 (by decide) (hts _ zw_344) (fun _ h9 => h9) rfl dMa_sizeHoles_71 ?_
  refine lv_lsub hx hb dMa_sizeHoles_74 ?_
  refine lv_topl (fun x7 ex7 => ?_)
  replace h := h x7 ex7
  refine va_put (D := (dC, dI)) (ci := 4) (v := .long x7) (ty := .long) (C := RMa) (T := TMa) (N := 12) hx hb hts inZ_Ma tyMa tyMa_ok nmMa hown hK hP hD hS 0 rfl rfl 9 (by decide) (hts _ zw_343) (fun _ h9 => h9) rfl (by decide +kernel) rfl rfl (Nat.le_of_ble_eq_true rfl) dMa_sizeHoles_75 (fun H locs hP hD hS => ?_)
  have hP : va_P (dC, dI) vwCl (w_Ma_sizeHoles ad a_this a_spans a_leftOut a_print a_spans_lows a_spans_highs k_spans_highs v_this_rounding v_this_toe v_this_heel v_this_side v_this_pitch x6 x7 x5 r3 v_spans_toldBits v_spans_exactBits v_spans_highs) H := hP
  have hD : va_D A (w_Ma_sizeHoles ad a_this a_spans a_leftOut a_print a_spans_lows a_spans_highs k_spans_highs v_this_rounding v_this_toe v_this_heel v_this_side v_this_pitch x6 x7 x5 r3 v_spans_toldBits v_spans_exactBits v_spans_highs) := hD
  refine lv_aload_n hx hb dMa_sizeHoles_78 rfl (lv_at hl 1 rfl) ?_
  refine va_get (D := (dC, dI)) (ci := 4) (v := .long r3) (C := RMa) (T := TMa) (N := 12) hx hb hts inZ_Ma hown hK hP 0 rfl rfl 11 (by decide) (hts _ zw_345) (fun _ h9 => h9) rfl dMa_sizeHoles_79 ?_
  refine lv_lconst (v := 0) hx hb dMa_sizeHoles_82 (by decide) ?_
  refine zz_lcmp_le (tgt := 98) hx hb dMa_sizeHoles_83 dMa_sizeHoles_84 (by decide) ?_ ?_
  · intro c8
    replace h := h.1 c8
    refine lv_iconst (v := 0) hx hb dMa_sizeHoles_98 (by decide) ?_
    exact W.zret (v := 0) hx hb hr rfl (fun t ht hW => ⟨⟨0, (x6, x7, x5, r3), rfl, h, by rw [ht]; exact hP, hD⟩, hS.F ht⟩) hS.2.2 dMa_sizeHoles_99
  · intro c8
    replace h := h.2 c8
    refine lv_lload_n hx hb dMa_sizeHoles_87 rfl (lv_at hl 0 rfl) ?_
    refine zcall_i hP hD hS hA [] [0, 1, 2] (va_runS (As := [.long r1]) (rest := []) ⟨hx, hb, hml, hown, hts⟩ (c_Ma_isEvenAboveZero l dC dI ad _ r1 _ h) ⟨callB_of 1 hts (zgood zc_Ma_isEvenAboveZero) rfl rfl rfl (hts _ zw_99) (hts _ zw_746) (by decide +kernel) ⟨Nat.le_of_ble_eq_true rfl, Nat.le_of_ble_eq_true rfl⟩, (hts _ zw_747)⟩ (zpreS hE hK hP hD hS hA [] [] (by rfl) (by rfl) (by decide)) rfl rfl hl.1 rfl (lv_room (Nat.le_of_ble_eq_true rfl)) dMa_sizeHoles_88 ⟨Nat.le_of_ble_eq_true rfl, Nat.le_of_ble_eq_true rfl⟩) (by rfl) (by rfl) (by decide) (by decide) (fun r9 u H locs h hP hD hS => ?_)
    try dsimp only at h
    have hP := hP.sub (ws' := (w_Ma_sizeHoles ad a_this a_spans a_leftOut a_print a_spans_lows a_spans_highs k_spans_highs v_this_rounding v_this_toe v_this_heel v_this_side v_this_pitch x6 x7 x5 r3 v_spans_toldBits v_spans_exactBits v_spans_highs)) [0, 1, 2] rfl
    have hD := hD.sub (ws' := (w_Ma_sizeHoles ad a_this a_spans a_leftOut a_print a_spans_lows a_spans_highs k_spans_highs v_this_rounding v_this_toe v_this_heel v_this_side v_this_pitch x6 x7 x5 r3 v_spans_toldBits v_spans_exactBits v_spans_highs)) [0, 1, 2] (by decide) rfl
    refine lv_if_eq (tgt := 98) hx hb dMa_sizeHoles_91 (by decide) ?_ ?_
    · intro c10
      replace h := h.1 c10
      refine lv_iconst (v := 0) hx hb dMa_sizeHoles_98 (by decide) ?_
      exact W.zret (v := 0) hx hb hr rfl (fun t ht hW => ⟨⟨0, (x6, x7, x5, r3), rfl, h, by rw [ht]; exact hP, hD⟩, hS.F ht⟩) hS.2.2 dMa_sizeHoles_99
    · intro c10
      replace h := h.2 c10
      refine lv_iconst (v := 1) hx hb dMa_sizeHoles_94 (by decide) ?_
      refine lv_goto (tgt := 99) hx hb dMa_sizeHoles_95 (by decide) ?_
      exact W.zret (v := 1) hx hb hr rfl (fun t ht hW => ⟨⟨1, (x6, x7, x5, r3), rfl, h, by rw [ht]; exact hP, hD⟩, hS.F ht⟩) hS.2.2 dMa_sizeHoles_99
abbrev yMa_rowsFit : MethodName := ⟨"FootprintRules$Maker", "rowsFit", "(LFootprintRules$Kind;)Z"⟩
abbrev cMa_rowsFit : ByteArray := prog_10_method_12_code
abbrev wsMa_rowsFit : List Cond := .code yMa_rowsFit cMa_rowsFit 5 (some .boolean) :: zT
set_option maxRecDepth 100000 in
theorem zc_Ma_rowsFit : Cond.code yMa_rowsFit cMa_rowsFit 5 (some .boolean) ∈ zT := zm 783 (by rfl) (by rfl)
theorem dMa_rowsFit_0 : decode cMa_rowsFit 0 = .ok (.aload_n 0, 1) := by decide +kernel
theorem dMa_rowsFit_1 : decode cMa_rowsFit 1 = .ok (.getfield 198, 3) := by decide +kernel
theorem dMa_rowsFit_4 : decode cMa_rowsFit 4 = .ok (.lconst 0, 1) := by decide +kernel
theorem dMa_rowsFit_5 : decode cMa_rowsFit 5 = .ok (.lcmp, 1) := by decide +kernel
theorem dMa_rowsFit_6 : decode cMa_rowsFit 6 = .ok (.ifCond .le 15, 3) := by decide +kernel
theorem dMa_rowsFit_9 : decode cMa_rowsFit 9 = .ok (.aload_n 0, 1) := by decide +kernel
theorem dMa_rowsFit_10 : decode cMa_rowsFit 10 = .ok (.getfield 189, 3) := by decide +kernel
theorem dMa_rowsFit_13 : decode cMa_rowsFit 13 = .ok (.aload_n 0, 1) := by decide +kernel
theorem dMa_rowsFit_14 : decode cMa_rowsFit 14 = .ok (.getfield 198, 3) := by decide +kernel
theorem dMa_rowsFit_17 : decode cMa_rowsFit 17 = .ok (.lcmp, 1) := by decide +kernel
theorem dMa_rowsFit_18 : decode cMa_rowsFit 18 = .ok (.ifCond .gt 5, 3) := by decide +kernel
theorem dMa_rowsFit_21 : decode cMa_rowsFit 21 = .ok (.iconst 0, 1) := by decide +kernel
theorem dMa_rowsFit_22 : decode cMa_rowsFit 22 = .ok (.ireturn, 1) := by decide +kernel
theorem dMa_rowsFit_23 : decode cMa_rowsFit 23 = .ok (.aload_n 1, 1) := by decide +kernel
theorem dMa_rowsFit_24 : decode cMa_rowsFit 24 = .ok (.getstatic 207, 3) := by decide +kernel
theorem dMa_rowsFit_27 : decode cMa_rowsFit 27 = .ok (.if_acmp .ne 5, 3) := by decide +kernel
theorem dMa_rowsFit_30 : decode cMa_rowsFit 30 = .ok (.iconst 1, 1) := by decide +kernel
theorem dMa_rowsFit_31 : decode cMa_rowsFit 31 = .ok (.ireturn, 1) := by decide +kernel
theorem dMa_rowsFit_32 : decode cMa_rowsFit 32 = .ok (.aload_n 0, 1) := by decide +kernel
theorem dMa_rowsFit_33 : decode cMa_rowsFit 33 = .ok (.getfield 12, 3) := by decide +kernel
theorem dMa_rowsFit_36 : decode cMa_rowsFit 36 = .ok (.iconst 4, 1) := by decide +kernel
theorem dMa_rowsFit_37 : decode cMa_rowsFit 37 = .ok (.invokevirtual 42, 3) := by decide +kernel
theorem dMa_rowsFit_40 : decode cMa_rowsFit 40 = .ok (.lstore_n 2, 1) := by decide +kernel
theorem dMa_rowsFit_41 : decode cMa_rowsFit 41 = .ok (.aload_n 1, 1) := by decide +kernel
theorem dMa_rowsFit_42 : decode cMa_rowsFit 42 = .ok (.getstatic 176, 3) := by decide +kernel
theorem dMa_rowsFit_45 : decode cMa_rowsFit 45 = .ok (.if_acmp .ne 7, 3) := by decide +kernel
theorem dMa_rowsFit_48 : decode cMa_rowsFit 48 = .ok (.iconst 4, 1) := by decide +kernel
theorem dMa_rowsFit_49 : decode cMa_rowsFit 49 = .ok (.goto 4, 3) := by decide +kernel
theorem dMa_rowsFit_52 : decode cMa_rowsFit 52 = .ok (.iconst 2, 1) := by decide +kernel
theorem dMa_rowsFit_53 : decode cMa_rowsFit 53 = .ok (.istore 4, 2) := by decide +kernel
theorem dMa_rowsFit_55 : decode cMa_rowsFit 55 = .ok (.lload_n 2, 1) := by decide +kernel
theorem dMa_rowsFit_56 : decode cMa_rowsFit 56 = .ok (.iload 4, 2) := by decide +kernel
theorem dMa_rowsFit_58 : decode cMa_rowsFit 58 = .ok (.i2l, 1) := by decide +kernel
theorem dMa_rowsFit_59 : decode cMa_rowsFit 59 = .ok (.ldc2_w 210, 3) := by decide +kernel
theorem dMa_rowsFit_62 : decode cMa_rowsFit 62 = .ok (.invokestatic 148, 3) := by decide +kernel
theorem dMa_rowsFit_65 : decode cMa_rowsFit 65 = .ok (.ifCond .eq 13, 3) := by decide +kernel
theorem dMa_rowsFit_68 : decode cMa_rowsFit 68 = .ok (.lload_n 2, 1) := by decide +kernel
theorem dMa_rowsFit_69 : decode cMa_rowsFit 69 = .ok (.iload 4, 2) := by decide +kernel
theorem dMa_rowsFit_71 : decode cMa_rowsFit 71 = .ok (.i2l, 1) := by decide +kernel
theorem dMa_rowsFit_72 : decode cMa_rowsFit 72 = .ok (.lrem, 1) := by decide +kernel
theorem dMa_rowsFit_73 : decode cMa_rowsFit 73 = .ok (.lconst 0, 1) := by decide +kernel
theorem dMa_rowsFit_74 : decode cMa_rowsFit 74 = .ok (.lcmp, 1) := by decide +kernel
theorem dMa_rowsFit_75 : decode cMa_rowsFit 75 = .ok (.ifCond .eq 5, 3) := by decide +kernel
theorem dMa_rowsFit_78 : decode cMa_rowsFit 78 = .ok (.iconst 0, 1) := by decide +kernel
theorem dMa_rowsFit_79 : decode cMa_rowsFit 79 = .ok (.ireturn, 1) := by decide +kernel
theorem dMa_rowsFit_80 : decode cMa_rowsFit 80 = .ok (.aload_n 0, 1) := by decide +kernel
theorem dMa_rowsFit_81 : decode cMa_rowsFit 81 = .ok (.getfield 102, 3) := by decide +kernel
theorem dMa_rowsFit_84 : decode cMa_rowsFit 84 = .ok (.invokestatic 142, 3) := by decide +kernel
theorem dMa_rowsFit_87 : decode cMa_rowsFit 87 = .ok (.ifCond .eq 15, 3) := by decide +kernel
theorem dMa_rowsFit_90 : decode cMa_rowsFit 90 = .ok (.aload_n 0, 1) := by decide +kernel
theorem dMa_rowsFit_91 : decode cMa_rowsFit 91 = .ok (.getfield 201, 3) := by decide +kernel
theorem dMa_rowsFit_94 : decode cMa_rowsFit 94 = .ok (.aload_n 0, 1) := by decide +kernel
theorem dMa_rowsFit_95 : decode cMa_rowsFit 95 = .ok (.getfield 102, 3) := by decide +kernel
theorem dMa_rowsFit_98 : decode cMa_rowsFit 98 = .ok (.lcmp, 1) := by decide +kernel
theorem dMa_rowsFit_99 : decode cMa_rowsFit 99 = .ok (.ifCond .lt 5, 3) := by decide +kernel
theorem dMa_rowsFit_102 : decode cMa_rowsFit 102 = .ok (.iconst 0, 1) := by decide +kernel
theorem dMa_rowsFit_103 : decode cMa_rowsFit 103 = .ok (.ireturn, 1) := by decide +kernel
theorem dMa_rowsFit_104 : decode cMa_rowsFit 104 = .ok (.aload_n 1, 1) := by decide +kernel
theorem dMa_rowsFit_105 : decode cMa_rowsFit 105 = .ok (.getstatic 176, 3) := by decide +kernel
theorem dMa_rowsFit_108 : decode cMa_rowsFit 108 = .ok (.if_acmp .ne 28, 3) := by decide +kernel
theorem dMa_rowsFit_111 : decode cMa_rowsFit 111 = .ok (.lload_n 2, 1) := by decide +kernel
theorem dMa_rowsFit_112 : decode cMa_rowsFit 112 = .ok (.ldc2_w 212, 3) := by decide +kernel
theorem dMa_rowsFit_115 : decode cMa_rowsFit 115 = .ok (.ldiv, 1) := by decide +kernel
theorem dMa_rowsFit_116 : decode cMa_rowsFit 116 = .ok (.lconst 1, 1) := by decide +kernel
theorem dMa_rowsFit_117 : decode cMa_rowsFit 117 = .ok (.lsub, 1) := by decide +kernel
theorem dMa_rowsFit_118 : decode cMa_rowsFit 118 = .ok (.aload_n 0, 1) := by decide +kernel
theorem dMa_rowsFit_119 : decode cMa_rowsFit 119 = .ok (.getfield 102, 3) := by decide +kernel
theorem dMa_rowsFit_122 : decode cMa_rowsFit 122 = .ok (.lmul, 1) := by decide +kernel
theorem dMa_rowsFit_123 : decode cMa_rowsFit 123 = .ok (.aload_n 0, 1) := by decide +kernel
theorem dMa_rowsFit_124 : decode cMa_rowsFit 124 = .ok (.getfield 201, 3) := by decide +kernel
theorem dMa_rowsFit_127 : decode cMa_rowsFit 127 = .ok (.ladd, 1) := by decide +kernel
theorem dMa_rowsFit_128 : decode cMa_rowsFit 128 = .ok (.aload_n 0, 1) := by decide +kernel
theorem dMa_rowsFit_129 : decode cMa_rowsFit 129 = .ok (.getfield 198, 3) := by decide +kernel
theorem dMa_rowsFit_132 : decode cMa_rowsFit 132 = .ok (.lcmp, 1) := by decide +kernel
theorem dMa_rowsFit_133 : decode cMa_rowsFit 133 = .ok (.ifCond .gt 7, 3) := by decide +kernel
theorem dMa_rowsFit_136 : decode cMa_rowsFit 136 = .ok (.iconst 1, 1) := by decide +kernel
theorem dMa_rowsFit_137 : decode cMa_rowsFit 137 = .ok (.goto 4, 3) := by decide +kernel
theorem dMa_rowsFit_140 : decode cMa_rowsFit 140 = .ok (.iconst 0, 1) := by decide +kernel
theorem dMa_rowsFit_141 : decode cMa_rowsFit 141 = .ok (.ireturn, 1) := by decide +kernel
-- FootprintRules$Maker.rowsFit(LFootprintRules$Kind;)Z
abbrev w_Ma_rowsFit (ad : Nat → Nat → Nat) (a_this : Nat) (a_spans : Nat) (a_leftOut : Nat) (a_print : Nat) (a_spans_lows : Nat) (a_spans_highs : Nat) (k_spans_highs : ClassId) (v_this_rounding : Int64) (v_this_toe : Int64) (v_this_heel : Int64) (v_this_side : Int64) (v_this_pitch : Int64) (v_this_outer : Int64) (v_this_inner : Int64) (v_this_across : Int64) (v_this_hole : Int64) (v_spans_toldBits : Int32) (v_spans_exactBits : Int32) (v_spans_highs : Nat → Int64) : va_W := [(a_this, .inr (4, [.ref a_spans, .ref a_leftOut, .ref a_print, .long v_this_rounding, .long v_this_toe, .long v_this_heel, .long v_this_side, .long v_this_pitch, .long v_this_outer, .long v_this_inner, .long v_this_across, .long v_this_hole])), (a_spans, .inr (3, [.ref a_spans_lows, .ref a_spans_highs, .int v_spans_toldBits, .int v_spans_exactBits])), (a_spans_highs, .inl (k_spans_highs, 12, .inr (.inl v_spans_highs)))]
def P_Ma_rowsFit_136  (post : Int32 → Prop)  : Prop := post 1
set_option maxHeartbeats 4000000 in
set_option maxRecDepth 100000 in
theorem w_Ma_rowsFit_136 (l : Launch) {p : Program} {e : Env} {s : State} {m : MethodId} {args : Array Value} {below : List Frame} {meth : Method} {c : Code} {dC : Nat → ClassId} {dI : Nat → Nat → Nat} {ad : Nat → Nat → Nat} {A : Nat → Prop} (C0 : zC p s m args meth c cMa_rowsFit 5 RMa zT (some .boolean) A) (hE : zE ad A s) (a_this : Nat) (a_spans : Nat) (a_leftOut : Nat) (a_print : Nat) (a_spans_lows : Nat) (a_spans_highs : Nat) (k_spans_highs : ClassId) (p1 : Nat) (v_this_rounding : Int64) (v_this_toe : Int64) (v_this_heel : Int64) (v_this_side : Int64) (v_this_pitch : Int64) (v_this_outer : Int64) (v_this_inner : Int64) (v_this_across : Int64) (v_this_hole : Int64) (v_spans_toldBits : Int32) (v_spans_exactBits : Int32) (v_spans_highs : Nat → Int64) (post : Int32 → Prop) (hK : va_K (dC, dI) vwCl [(k_spans_highs, .long)] s) : ∀  (H : Heap) (locs : List Loc), P_Ma_rowsFit_136 post → va_P (dC, dI) vwCl (w_Ma_rowsFit ad a_this a_spans a_leftOut a_print a_spans_lows a_spans_highs k_spans_highs v_this_rounding v_this_toe v_this_heel v_this_side v_this_pitch v_this_outer v_this_inner v_this_across v_this_hole v_spans_toldBits v_spans_exactBits v_spans_highs) H → va_D A (w_Ma_rowsFit ad a_this a_spans a_leftOut a_print a_spans_lows a_spans_highs k_spans_highs v_this_rounding v_this_toe v_this_heel v_this_side v_this_pitch v_this_outer v_this_inner v_this_across v_this_hole v_spans_toldBits v_spans_exactBits v_spans_highs) → va_S A s.heap H locs → ∀ ls : Array Slot, lv_has ls 5 [] → W p l e (headSpec wsMa_rowsFit { frames := 3, cells := 0, slots := 0, locals := 63 }).room s m args below meth c H locs 0 0 (MQ below (va_Qi (fun (r : Int32) (u : Unit) => post r) (zB (dC, dI) A (fun (u : Unit) => (w_Ma_rowsFit ad a_this a_spans a_leftOut a_print a_spans_lows a_spans_highs k_spans_highs v_this_rounding v_this_toe v_this_heel v_this_side v_this_pitch v_this_outer v_this_inner v_this_across v_this_hole v_spans_toldBits v_spans_exactBits v_spans_highs))) A) args s 0 0 A) (F0 m 136 ls []) := by
  obtain ⟨hx, hb, hr, hml, hown, hts, hlocks, hA⟩ := id C0
  intro  H locs h hP hD hS ls hl
  unfold P_Ma_rowsFit_136 at h
  refine lv_iconst (v := 1) hx hb dMa_rowsFit_136 (by decide) ?_
  refine lv_goto (tgt := 141) hx hb dMa_rowsFit_137 (by decide) ?_
  exact W.zret (v := 1) hx hb hr rfl (fun t ht hW => ⟨⟨1, (()), rfl, h, by rw [ht]; exact hP, hD⟩, hS.F ht⟩) hS.2.2 dMa_rowsFit_141
def P_Ma_rowsFit_53 (p1 : Nat) (v_this_pitch : Int64) (v_this_inner : Int64) (v_this_across : Int64) (post : Int32 → Prop) (y2 : Int64) (t0 : Int32) : Prop := P_F_isWithin y2 t0.toInt64 64 (fun (r1 : Int32) => ((r1 = 0 → post 0) ∧ (¬ r1 = 0 → ¬ t0.toInt64 = 0 ∧ (((y2 - y2 / t0.toInt64 * t0.toInt64) = 0 → P_Ma_isEvenAboveZero v_this_pitch (fun (r5 : Int32) => ((r5 = 0 → post 0) ∧ (¬ r5 = 0 → ((v_this_across < v_this_pitch → p1 < 5 ∧ ((¬ p1 = 2 → P_Ma_rowsFit_136 post) ∧ (p1 = 2 → ((v_this_inner < ((((y2 / 4) - 1) * v_this_pitch) + v_this_across) → post 0) ∧ (¬ v_this_inner < ((((y2 / 4) - 1) * v_this_pitch) + v_this_across) → P_Ma_rowsFit_136 post))))) ∧ (¬ v_this_across < v_this_pitch → post 0)))))) ∧ (¬ (y2 - y2 / t0.toInt64 * t0.toInt64) = 0 → post 0)))))
set_option maxHeartbeats 4000000 in
set_option maxRecDepth 100000 in
theorem w_Ma_rowsFit_53 (l : Launch) {p : Program} {e : Env} {s : State} {m : MethodId} {args : Array Value} {below : List Frame} {meth : Method} {c : Code} {dC : Nat → ClassId} {dI : Nat → Nat → Nat} {ad : Nat → Nat → Nat} {A : Nat → Prop} (C0 : zC p s m args meth c cMa_rowsFit 5 RMa zT (some .boolean) A) (hE : zE ad A s) (a_this : Nat) (a_spans : Nat) (a_leftOut : Nat) (a_print : Nat) (a_spans_lows : Nat) (a_spans_highs : Nat) (k_spans_highs : ClassId) (p1 : Nat) (v_this_rounding : Int64) (v_this_toe : Int64) (v_this_heel : Int64) (v_this_side : Int64) (v_this_pitch : Int64) (v_this_outer : Int64) (v_this_inner : Int64) (v_this_across : Int64) (v_this_hole : Int64) (v_spans_toldBits : Int32) (v_spans_exactBits : Int32) (v_spans_highs : Nat → Int64) (post : Int32 → Prop) (hK : va_K (dC, dI) vwCl [(k_spans_highs, .long)] s) : ∀ (y2 : Int64) (t0 : Int32) (H : Heap) (locs : List Loc), P_Ma_rowsFit_53 p1 v_this_pitch v_this_inner v_this_across post y2 t0 → va_P (dC, dI) vwCl (w_Ma_rowsFit ad a_this a_spans a_leftOut a_print a_spans_lows a_spans_highs k_spans_highs v_this_rounding v_this_toe v_this_heel v_this_side v_this_pitch v_this_outer v_this_inner v_this_across v_this_hole v_spans_toldBits v_spans_exactBits v_spans_highs) H → va_D A (w_Ma_rowsFit ad a_this a_spans a_leftOut a_print a_spans_lows a_spans_highs k_spans_highs v_this_rounding v_this_toe v_this_heel v_this_side v_this_pitch v_this_outer v_this_inner v_this_across v_this_hole v_spans_toldBits v_spans_exactBits v_spans_highs) → va_S A s.heap H locs → ∀ ls : Array Slot, lv_has ls 5 [(0, .ref a_this), (1, .ref (ad 0 p1)), (2, .long y2)] → W p l e (headSpec wsMa_rowsFit { frames := 3, cells := 0, slots := 0, locals := 63 }).room s m args below meth c H locs 0 0 (MQ below (va_Qi (fun (r : Int32) (u : Unit) => post r) (zB (dC, dI) A (fun (u : Unit) => (w_Ma_rowsFit ad a_this a_spans a_leftOut a_print a_spans_lows a_spans_highs k_spans_highs v_this_rounding v_this_toe v_this_heel v_this_side v_this_pitch v_this_outer v_this_inner v_this_across v_this_hole v_spans_toldBits v_spans_exactBits v_spans_highs))) A) args s 0 0 A) (F0 m 53 ls [.int t0]) := by
  obtain ⟨hx, hb, hr, hml, hown, hts, hlocks, hA⟩ := id C0
  intro y2 t0 H locs h hP hD hS ls hl
  unfold P_Ma_rowsFit_53 at h
  refine lv_istore (lv' := [(4, .int t0), (0, .ref a_this), (1, .ref (ad 0 p1)), (2, .long y2)]) hx hb dMa_rowsFit_53 hl (by decide) rfl (fun ls hl => ?_)
  refine lv_lload_n hx hb dMa_rowsFit_55 rfl (lv_at hl 3 rfl) ?_
  refine lv_iload hx hb dMa_rowsFit_56 (lv_at hl 0 rfl) ?_
  refine lv_i2l hx hb dMa_rowsFit_58 rfl ?_
  refine lv_ldc2 (own := RMa) (index := 210) (v := 64) hx hb hown (hts _ zw_787) dMa_rowsFit_59 ?_
  refine zcall_i hP hD hS hA [] [0, 1, 2] (va_runSN (As := [.long y2, .long t0.toInt64, .long 64]) (rest := []) ⟨hx, hb, hml, hown, hts⟩ (c_F_isWithin l dC dI ad _ y2 t0.toInt64 64 _ h) ⟨va_cnB 3 hts (zgood zc_F_isWithin) rfl rfl rfl (hE.nw _ zn_750) (hts _ zw_95) (by decide +kernel) ⟨Nat.le_of_ble_eq_true rfl, Nat.le_of_ble_eq_true rfl⟩, (hts _ zw_657), trivial⟩ (zpreS hE hK hP hD hS hA [] [] (by rfl) (by rfl) (by decide)) rfl rfl hl.1 rfl (lv_room (Nat.le_of_ble_eq_true rfl)) dMa_rowsFit_62 ⟨Nat.le_of_ble_eq_true rfl, Nat.le_of_ble_eq_true rfl⟩) (by rfl) (by rfl) (by decide) (by decide) (fun r1 u H locs h hP hD hS => ?_)
  try dsimp only at h
  have hP := hP.sub (ws' := (w_Ma_rowsFit ad a_this a_spans a_leftOut a_print a_spans_lows a_spans_highs k_spans_highs v_this_rounding v_this_toe v_this_heel v_this_side v_this_pitch v_this_outer v_this_inner v_this_across v_this_hole v_spans_toldBits v_spans_exactBits v_spans_highs)) [0, 1, 2] rfl
  have hD := hD.sub (ws' := (w_Ma_rowsFit ad a_this a_spans a_leftOut a_print a_spans_lows a_spans_highs k_spans_highs v_this_rounding v_this_toe v_this_heel v_this_side v_this_pitch v_this_outer v_this_inner v_this_across v_this_hole v_spans_toldBits v_spans_exactBits v_spans_highs)) [0, 1, 2] (by decide) rfl
  refine lv_if_eq (tgt := 78) hx hb dMa_rowsFit_65 (by decide) ?_ ?_
  · intro c2
    replace h := h.1 c2
    refine lv_iconst (v := 0) hx hb dMa_rowsFit_78 (by decide) ?_
    exact W.zret (v := 0) hx hb hr rfl (fun t ht hW => ⟨⟨0, (()), rfl, h, by rw [ht]; exact hP, hD⟩, hS.F ht⟩) hS.2.2 dMa_rowsFit_79
  · intro c2
    replace h := h.2 c2
    refine lv_lload_n hx hb dMa_rowsFit_68 rfl (lv_at hl 3 rfl) ?_
    refine lv_iload hx hb dMa_rowsFit_69 (lv_at hl 0 rfl) ?_
    refine lv_i2l hx hb dMa_rowsFit_71 rfl ?_
    obtain ⟨hn3, h⟩ := h
    refine lv_lrem hx hb dMa_rowsFit_72 hn3 ?_
    refine lv_lconst (v := 0) hx hb dMa_rowsFit_73 (by decide) ?_
    refine zz_lcmp_eq (tgt := 80) hx hb dMa_rowsFit_74 dMa_rowsFit_75 (by decide) ?_ ?_
    · intro c4
      replace h := h.1 c4
      refine lv_aload_n hx hb dMa_rowsFit_80 rfl (lv_at hl 1 rfl) ?_
      refine va_get (D := (dC, dI)) (ci := 4) (v := .long v_this_pitch) (C := RMa) (T := TMa) (N := 12) hx hb hts inZ_Ma hown hK hP 0 rfl rfl 7 (by decide) (hts _ zw_341) (fun _ h9 => h9) rfl dMa_rowsFit_81 ?_
      refine zcall_i hP hD hS hA [] [0, 1, 2] (va_runS (As := [.long v_this_pitch]) (rest := []) ⟨hx, hb, hml, hown, hts⟩ (c_Ma_isEvenAboveZero l dC dI ad _ v_this_pitch _ h) ⟨callB_of 1 hts (zgood zc_Ma_isEvenAboveZero) rfl rfl rfl (hts _ zw_99) (hts _ zw_746) (by decide +kernel) ⟨Nat.le_of_ble_eq_true rfl, Nat.le_of_ble_eq_true rfl⟩, (hts _ zw_747)⟩ (zpreS hE hK hP hD hS hA [] [] (by rfl) (by rfl) (by decide)) rfl rfl hl.1 rfl (lv_room (Nat.le_of_ble_eq_true rfl)) dMa_rowsFit_84 ⟨Nat.le_of_ble_eq_true rfl, Nat.le_of_ble_eq_true rfl⟩) (by rfl) (by rfl) (by decide) (by decide) (fun r5 u H locs h hP hD hS => ?_)
      try dsimp only at h
      have hP := hP.sub (ws' := (w_Ma_rowsFit ad a_this a_spans a_leftOut a_print a_spans_lows a_spans_highs k_spans_highs v_this_rounding v_this_toe v_this_heel v_this_side v_this_pitch v_this_outer v_this_inner v_this_across v_this_hole v_spans_toldBits v_spans_exactBits v_spans_highs)) [0, 1, 2] rfl
      have hD := hD.sub (ws' := (w_Ma_rowsFit ad a_this a_spans a_leftOut a_print a_spans_lows a_spans_highs k_spans_highs v_this_rounding v_this_toe v_this_heel v_this_side v_this_pitch v_this_outer v_this_inner v_this_across v_this_hole v_spans_toldBits v_spans_exactBits v_spans_highs)) [0, 1, 2] (by decide) rfl
      refine lv_if_eq (tgt := 102) hx hb dMa_rowsFit_87 (by decide) ?_ ?_
      · intro c6
        replace h := h.1 c6
        refine lv_iconst (v := 0) hx hb dMa_rowsFit_102 (by decide) ?_
        exact W.zret (v := 0) hx hb hr rfl (fun t ht hW => ⟨⟨0, (()), rfl, h, by rw [ht]; exact hP, hD⟩, hS.F ht⟩) hS.2.2 dMa_rowsFit_103
      · intro c6
        replace h := h.2 c6
        refine lv_aload_n hx hb dMa_rowsFit_90 rfl (lv_at hl 1 rfl) ?_
        refine va_get (D := (dC, dI)) (ci := 4) (v := .long v_this_across) (C := RMa) (T := TMa) (N := 12) hx hb hts inZ_Ma hown hK hP 0 rfl rfl 10 (by decide) (hts _ zw_344) (fun _ h9 => h9) rfl dMa_rowsFit_91 ?_
        refine lv_aload_n hx hb dMa_rowsFit_94 rfl (lv_at hl 1 rfl) ?_
        refine va_get (D := (dC, dI)) (ci := 4) (v := .long v_this_pitch) (C := RMa) (T := TMa) (N := 12) hx hb hts inZ_Ma hown hK hP 0 rfl rfl 7 (by decide) (hts _ zw_341) (fun _ h9 => h9) rfl dMa_rowsFit_95 ?_
        refine zz_lcmp_lt (tgt := 104) hx hb dMa_rowsFit_98 dMa_rowsFit_99 (by decide) ?_ ?_
        · intro c7
          replace h := h.1 c7
          refine lv_aload_n hx hb dMa_rowsFit_104 rfl (lv_at hl 2 rfl) ?_
          refine va_gets (C := "FootprintRules$Kind") (n := "LESS") (d := "LFootprintRules$Kind;") hx hb (hE.enKind.1 2 (by decide)).1 hS hown (hts _ zw_785) (fun _ h9 => h9) dMa_rowsFit_105 ?_
          obtain ⟨hn8, h⟩ := h
          refine zz_acmp_ne (tgt := 136) hx hb dMa_rowsFit_108 (by decide) (hE.inj_Kind hn8 (by decide)) ?_ ?_
          · intro c9
            replace h := h.1 c9
            exact w_Ma_rowsFit_136 l C0 hE a_this a_spans a_leftOut a_print a_spans_lows a_spans_highs k_spans_highs p1 v_this_rounding v_this_toe v_this_heel v_this_side v_this_pitch v_this_outer v_this_inner v_this_across v_this_hole v_spans_toldBits v_spans_exactBits v_spans_highs post hK _ _ h hP hD hS ls (lv_sub hl [] rfl)
          · intro c9
            replace h := h.2 c9
            refine lv_lload_n hx hb dMa_rowsFit_111 rfl (lv_at hl 3 rfl) ?_
            refine lv_ldc2 (own := RMa) (index := 212) (v := 4) hx hb hown (hts _ zw_788) dMa_rowsFit_112 ?_
            refine lv_ldiv hx hb dMa_rowsFit_115 (by decide) ?_
            refine lv_lconst (v := 1) hx hb dMa_rowsFit_116 (by decide) ?_
            refine lv_lsub hx hb dMa_rowsFit_117 ?_
            refine lv_aload_n hx hb dMa_rowsFit_118 rfl (lv_at hl 1 rfl) ?_
            refine va_get (D := (dC, dI)) (ci := 4) (v := .long v_this_pitch) (C := RMa) (T := TMa) (N := 12) hx hb hts inZ_Ma hown hK hP 0 rfl rfl 7 (by decide) (hts _ zw_341) (fun _ h9 => h9) rfl dMa_rowsFit_119 ?_
            refine lv_lmul hx hb dMa_rowsFit_122 ?_
            refine lv_aload_n hx hb dMa_rowsFit_123 rfl (lv_at hl 1 rfl) ?_
            refine va_get (D := (dC, dI)) (ci := 4) (v := .long v_this_across) (C := RMa) (T := TMa) (N := 12) hx hb hts inZ_Ma hown hK hP 0 rfl rfl 10 (by decide) (hts _ zw_344) (fun _ h9 => h9) rfl dMa_rowsFit_124 ?_
            refine lv_ladd hx hb dMa_rowsFit_127 ?_
            refine lv_aload_n hx hb dMa_rowsFit_128 rfl (lv_at hl 1 rfl) ?_
            refine va_get (D := (dC, dI)) (ci := 4) (v := .long v_this_inner) (C := RMa) (T := TMa) (N := 12) hx hb hts inZ_Ma hown hK hP 0 rfl rfl 9 (by decide) (hts _ zw_343) (fun _ h9 => h9) rfl dMa_rowsFit_129 ?_
            refine zz_lcmp_gt (tgt := 140) hx hb dMa_rowsFit_132 dMa_rowsFit_133 (by decide) ?_ ?_
            · intro c10
              replace h := h.1 c10
              refine lv_iconst (v := 0) hx hb dMa_rowsFit_140 (by decide) ?_
              exact W.zret (v := 0) hx hb hr rfl (fun t ht hW => ⟨⟨0, (()), rfl, h, by rw [ht]; exact hP, hD⟩, hS.F ht⟩) hS.2.2 dMa_rowsFit_141
            · intro c10
              replace h := h.2 c10
              exact w_Ma_rowsFit_136 l C0 hE a_this a_spans a_leftOut a_print a_spans_lows a_spans_highs k_spans_highs p1 v_this_rounding v_this_toe v_this_heel v_this_side v_this_pitch v_this_outer v_this_inner v_this_across v_this_hole v_spans_toldBits v_spans_exactBits v_spans_highs post hK _ _ h hP hD hS ls (lv_sub hl [] rfl)
        · intro c7
          replace h := h.2 c7
          refine lv_iconst (v := 0) hx hb dMa_rowsFit_102 (by decide) ?_
          exact W.zret (v := 0) hx hb hr rfl (fun t ht hW => ⟨⟨0, (()), rfl, h, by rw [ht]; exact hP, hD⟩, hS.F ht⟩) hS.2.2 dMa_rowsFit_103
    · intro c4
      replace h := h.2 c4
      refine lv_iconst (v := 0) hx hb dMa_rowsFit_78 (by decide) ?_
      exact W.zret (v := 0) hx hb hr rfl (fun t ht hW => ⟨⟨0, (()), rfl, h, by rw [ht]; exact hP, hD⟩, hS.F ht⟩) hS.2.2 dMa_rowsFit_79
def P_Ma_rowsFit (p1 : Nat) (v_this_pitch : Int64) (v_this_outer : Int64) (v_this_inner : Int64) (v_this_across : Int64) (v_spans_toldBits : Int32) (v_spans_highs : Nat → Int64) (post : Int32 → Prop) : Prop := ((v_this_inner ≤ 0 → post 0) ∧ (¬ v_this_inner ≤ 0 → ((v_this_inner < v_this_outer → p1 < 5 ∧ ((¬ p1 = 0 → P_Sp_highOf 4 v_spans_toldBits v_spans_highs (fun (r5 : Int64) => p1 < 5 ∧ ((¬ p1 = 2 → P_Ma_rowsFit_53 p1 v_this_pitch v_this_inner v_this_across post r5 2) ∧ (p1 = 2 → P_Ma_rowsFit_53 p1 v_this_pitch v_this_inner v_this_across post r5 4)))) ∧ (p1 = 0 → post 1))) ∧ (¬ v_this_inner < v_this_outer → post 0))))
set_option maxHeartbeats 4000000 in
set_option maxRecDepth 100000 in
theorem c_Ma_rowsFit (l : Launch) (dC : Nat → ClassId) (dI : Nat → Nat → Nat) (ad : Nat → Nat → Nat) (a_this : Nat) (a_spans : Nat) (a_leftOut : Nat) (a_print : Nat) (a_spans_lows : Nat) (a_spans_highs : Nat) (k_spans_highs : ClassId) (sz : Nat) (p1 : Nat) (v_this_rounding : Int64) (v_this_toe : Int64) (v_this_heel : Int64) (v_this_side : Int64) (v_this_pitch : Int64) (v_this_outer : Int64) (v_this_inner : Int64) (v_this_across : Int64) (v_this_hole : Int64) (v_spans_toldBits : Int32) (v_spans_exactBits : Int32) (v_spans_highs : Nat → Int64) (post : Int32 → Prop) (h : P_Ma_rowsFit p1 v_this_pitch v_this_outer v_this_inner v_this_across v_spans_toldBits v_spans_highs post) : zMi l yMa_rowsFit wsMa_rowsFit { frames := 3, cells := 0, slots := 0, locals := 63 } (dC, dI) ad [.ref a_this, .ref (ad 0 p1)] (w_Ma_rowsFit ad a_this a_spans a_leftOut a_print a_spans_lows a_spans_highs k_spans_highs v_this_rounding v_this_toe v_this_heel v_this_side v_this_pitch v_this_outer v_this_inner v_this_across v_this_hole v_spans_toldBits v_spans_exactBits v_spans_highs) [(k_spans_highs, .long)] sz (fun (r : Int32) (u : Unit) => post r) (fun (u : Unit) => (w_Ma_rowsFit ad a_this a_spans a_leftOut a_print a_spans_lows a_spans_highs k_spans_highs v_this_rounding v_this_toe v_this_heel v_this_side v_this_pitch v_this_outer v_this_inner v_this_across v_this_hole v_spans_toldBits v_spans_exactBits v_spans_highs)) 0 0 := by
  refine Met.ofW (cc := cMa_rowsFit) (maxL := 5) (ret := (some .boolean)) (by decide +kernel) rfl ?_
  intro p e s m args below meth c s₁ B hml hv
  obtain ⟨rfl, hsz, hP, hK, hD0, hE⟩ := hv
  have hx := B.exec
  have hb := B.bytes
  have hr := B.returns
  have hts0 := atoms_spec (ws := wsMa_rowsFit) B.pre
  have hts := fun w h => hts0 w (List.mem_cons_of_mem _ h)
  have hown : s.vm.findClass RMa = some m.cls := findClass_of_methodNamed B.named
  have hlocks := B.notSynchronized
  subst hsz
  have hD := hD0.self (sz := s.heap.size)
  generalize hAe : va_A (w_Ma_rowsFit ad a_this a_spans a_leftOut a_print a_spans_lows a_spans_highs k_spans_highs v_this_rounding v_this_toe v_this_heel v_this_side v_this_pitch v_this_outer v_this_inner v_this_across v_this_hole v_spans_toldBits v_spans_exactBits v_spans_highs) s.heap.size = A at hD hE ⊢
  have hA : ∀ q : Nat, s.heap.size ≤ q → A q := fun q h => by rw [← hAe]; exact Or.inr h
  have C0 := zC.mk hx hb hr hml hown hts hlocks hA
  have hS : va_S A s.heap s.heap [] := va_S.rf
  have hl := lv_entry ([.ref a_this, .ref (ad 0 p1)]) (n := 5) (Nat.le_of_ble_eq_true rfl)
  rw [lg_entry_eq]
  generalize (lg_sl ([.ref a_this, .ref (ad 0 p1)]) ++ List.replicate (5 - (lg_sl ([.ref a_this, .ref (ad 0 p1)])).length) Slot.unset).toArray = ls at hl ⊢
  have hl : lv_has ls 5 [(0, .ref a_this), (1, .ref (ad 0 p1))] := hl
  unfold P_Ma_rowsFit at h
  refine lv_aload_n hx hb dMa_rowsFit_0 rfl (lv_at hl 0 rfl) ?_
  refine va_get (D := (dC, dI)) (ci := 4) (v := .long v_this_inner) (C := RMa) (T := TMa) (N := 12) hx hb hts inZ_Ma hown hK hP 0 rfl rfl 9 (by decide) (hts _ zw_343) (fun _ h9 => h9) rfl dMa_rowsFit_1 ?_
  refine lv_lconst (v := 0) hx hb dMa_rowsFit_4 (by decide) ?_
  refine zz_lcmp_le (tgt := 21) hx hb dMa_rowsFit_5 dMa_rowsFit_6 (by decide) ?_ ?_
  · intro c1
    replace h := h.1 c1
    refine lv_iconst (v := 0) hx hb dMa_rowsFit_21 (by decide) ?_
    exact W.zret (v := 0) hx hb hr rfl (fun t ht hW => ⟨⟨0, (()), rfl, h, by rw [ht]; exact hP, hD⟩, hS.F ht⟩) hS.2.2 dMa_rowsFit_22
  · intro c1
    replace h := h.2 c1
    refine lv_aload_n hx hb dMa_rowsFit_9 rfl (lv_at hl 0 rfl) ?_
    refine va_get (D := (dC, dI)) (ci := 4) (v := .long v_this_outer) (C := RMa) (T := TMa) (N := 12) hx hb hts inZ_Ma hown hK hP 0 rfl rfl 8 (by decide) (hts _ zw_342) (fun _ h9 => h9) rfl dMa_rowsFit_10 ?_
    refine lv_aload_n hx hb dMa_rowsFit_13 rfl (lv_at hl 0 rfl) ?_
    refine va_get (D := (dC, dI)) (ci := 4) (v := .long v_this_inner) (C := RMa) (T := TMa) (N := 12) hx hb hts inZ_Ma hown hK hP 0 rfl rfl 9 (by decide) (hts _ zw_343) (fun _ h9 => h9) rfl dMa_rowsFit_14 ?_
    refine zz_lcmp_gt (tgt := 23) hx hb dMa_rowsFit_17 dMa_rowsFit_18 (by decide) ?_ ?_
    · intro c2
      replace h := h.1 c2
      refine lv_aload_n hx hb dMa_rowsFit_23 rfl (lv_at hl 1 rfl) ?_
      refine va_gets (C := "FootprintRules$Kind") (n := "CHIP") (d := "LFootprintRules$Kind;") hx hb (hE.enKind.1 0 (by decide)).1 hS hown (hts _ zw_784) (fun _ h9 => h9) dMa_rowsFit_24 ?_
      obtain ⟨hn3, h⟩ := h
      refine zz_acmp_ne (tgt := 32) hx hb dMa_rowsFit_27 (by decide) (hE.inj_Kind hn3 (by decide)) ?_ ?_
      · intro c4
        replace h := h.1 c4
        refine lv_aload_n hx hb dMa_rowsFit_32 rfl (lv_at hl 0 rfl) ?_
        refine va_get (D := (dC, dI)) (ci := 4) (v := .ref a_spans) (C := RMa) (T := TMa) (N := 12) hx hb hts inZ_Ma hown hK hP 0 rfl rfl 0 (by decide) (hts _ zw_331) (fun _ h9 => h9) rfl dMa_rowsFit_33 ?_
        refine lv_iconst (v := 4) hx hb dMa_rowsFit_36 (by decide) ?_
        refine zcall_l hP hD hS hA [1, 2] [0] (va_runVN (As := [.int 4]) (rest := []) ⟨hx, hb, hml, hown, hts⟩ (c_Sp_highOf l dC dI ad a_spans a_spans_lows a_spans_highs k_spans_highs _ 4 v_spans_toldBits v_spans_exactBits v_spans_highs _ h) ⟨va_cnB 1 hts (zgood zc_Sp_highOf) rfl rfl rfl (hE.nw _ zn_692) (hts _ zw_100) (by decide +kernel) ⟨Nat.le_of_ble_eq_true rfl, Nat.le_of_ble_eq_true rfl⟩, (hts _ zw_694), (hts _ zw_24)⟩ (zpreV hE hK hP hD hS hA [1, 2] [0] (by rfl) (by rfl) (by decide) (ci := 3) (q0 := 1) rfl (by rfl)) rfl rfl hl.1 rfl (lv_room (Nat.le_of_ble_eq_true rfl)) dMa_rowsFit_37 ⟨Nat.le_of_ble_eq_true rfl, Nat.le_of_ble_eq_true rfl⟩) (by rfl) (by rfl) (by decide) (by decide) (fun r5 u H locs h hP hD hS => ?_)
        try dsimp only at h
        have hP := hP.sub (ws' := (w_Ma_rowsFit ad a_this a_spans a_leftOut a_print a_spans_lows a_spans_highs k_spans_highs v_this_rounding v_this_toe v_this_heel v_this_side v_this_pitch v_this_outer v_this_inner v_this_across v_this_hole v_spans_toldBits v_spans_exactBits v_spans_highs)) [0, 1, 2] rfl
        have hD := hD.sub (ws' := (w_Ma_rowsFit ad a_this a_spans a_leftOut a_print a_spans_lows a_spans_highs k_spans_highs v_this_rounding v_this_toe v_this_heel v_this_side v_this_pitch v_this_outer v_this_inner v_this_across v_this_hole v_spans_toldBits v_spans_exactBits v_spans_highs)) [0, 1, 2] (by decide) rfl
        refine lv_lstore_n (lv' := [(2, .long r5), (0, .ref a_this), (1, .ref (ad 0 p1))]) hx hb dMa_rowsFit_40 rfl hl (by decide) rfl (fun ls hl => ?_)
        refine lv_aload_n hx hb dMa_rowsFit_41 rfl (lv_at hl 2 rfl) ?_
        refine va_gets (C := "FootprintRules$Kind") (n := "LESS") (d := "LFootprintRules$Kind;") hx hb (hE.enKind.1 2 (by decide)).1 hS hown (hts _ zw_785) (fun _ h9 => h9) dMa_rowsFit_42 ?_
        obtain ⟨hn6, h⟩ := h
        refine zz_acmp_ne (tgt := 52) hx hb dMa_rowsFit_45 (by decide) (hE.inj_Kind hn6 (by decide)) ?_ ?_
        · intro c7
          replace h := h.1 c7
          refine lv_iconst (v := 2) hx hb dMa_rowsFit_52 (by decide) ?_
          exact w_Ma_rowsFit_53 l C0 hE a_this a_spans a_leftOut a_print a_spans_lows a_spans_highs k_spans_highs p1 v_this_rounding v_this_toe v_this_heel v_this_side v_this_pitch v_this_outer v_this_inner v_this_across v_this_hole v_spans_toldBits v_spans_exactBits v_spans_highs post hK r5 2 _ _ h hP hD hS ls (lv_sub hl [1, 2, 0] rfl)
        · intro c7
          replace h := h.2 c7
          refine lv_iconst (v := 4) hx hb dMa_rowsFit_48 (by decide) ?_
          refine lv_goto (tgt := 53) hx hb dMa_rowsFit_49 (by decide) ?_
          exact w_Ma_rowsFit_53 l C0 hE a_this a_spans a_leftOut a_print a_spans_lows a_spans_highs k_spans_highs p1 v_this_rounding v_this_toe v_this_heel v_this_side v_this_pitch v_this_outer v_this_inner v_this_across v_this_hole v_spans_toldBits v_spans_exactBits v_spans_highs post hK r5 4 _ _ h hP hD hS ls (lv_sub hl [1, 2, 0] rfl)
      · intro c4
        replace h := h.2 c4
        refine lv_iconst (v := 1) hx hb dMa_rowsFit_30 (by decide) ?_
        exact W.zret (v := 1) hx hb hr rfl (fun t ht hW => ⟨⟨1, (()), rfl, h, by rw [ht]; exact hP, hD⟩, hS.F ht⟩) hS.2.2 dMa_rowsFit_31
    · intro c2
      replace h := h.2 c2
      refine lv_iconst (v := 0) hx hb dMa_rowsFit_21 (by decide) ?_
      exact W.zret (v := 0) hx hb hr rfl (fun t ht hW => ⟨⟨0, (()), rfl, h, by rw [ht]; exact hP, hD⟩, hS.F ht⟩) hS.2.2 dMa_rowsFit_22
