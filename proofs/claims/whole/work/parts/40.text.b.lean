abbrev yFR_read : MethodName := ⟨"FootprintRules$FamilyReader", "read", "(LFootprintRules$Family;)I"⟩
abbrev cFR_read : ByteArray := prog_4_method_2_code
abbrev wsFR_read : List Cond := .code yFR_read cFR_read 3 (some .int) :: zT
set_option maxRecDepth 100000 in
theorem zc_FR_read : Cond.code yFR_read cFR_read 3 (some .int) ∈ zT := zm 498 (by rfl) (by rfl)
theorem dFR_read_0 : decode cFR_read 0 = .ok (.aload_n 0, 1) := by decide +kernel
theorem dFR_read_1 : decode cFR_read 1 = .ok (.getfield 12, 3) := by decide +kernel
theorem dFR_read_4 : decode cFR_read 4 = .ok (.invokevirtual 18, 3) := by decide +kernel
theorem dFR_read_7 : decode cFR_read 7 = .ok (.aload_n 0, 1) := by decide +kernel
theorem dFR_read_8 : decode cFR_read 8 = .ok (.iconst 0, 1) := by decide +kernel
theorem dFR_read_9 : decode cFR_read 9 = .ok (.putfield 21, 3) := by decide +kernel
theorem dFR_read_12 : decode cFR_read 12 = .ok (.aload_n 0, 1) := by decide +kernel
theorem dFR_read_13 : decode cFR_read 13 = .ok (.getfield 12, 3) := by decide +kernel
theorem dFR_read_16 : decode cFR_read 16 = .ok (.invokevirtual 25, 3) := by decide +kernel
theorem dFR_read_19 : decode cFR_read 19 = .ok (.ifCond .eq 11, 3) := by decide +kernel
theorem dFR_read_22 : decode cFR_read 22 = .ok (.aload_n 0, 1) := by decide +kernel
theorem dFR_read_23 : decode cFR_read 23 = .ok (.aload_n 1, 1) := by decide +kernel
theorem dFR_read_24 : decode cFR_read 24 = .ok (.invokevirtual 29, 3) := by decide +kernel
theorem dFR_read_27 : decode cFR_read 27 = .ok (.ifCond .ne 11, 3) := by decide +kernel
theorem dFR_read_30 : decode cFR_read 30 = .ok (.aload_n 0, 1) := by decide +kernel
theorem dFR_read_31 : decode cFR_read 31 = .ok (.getfield 12, 3) := by decide +kernel
theorem dFR_read_34 : decode cFR_read 34 = .ok (.getfield 33, 3) := by decide +kernel
theorem dFR_read_37 : decode cFR_read 37 = .ok (.ireturn, 1) := by decide +kernel
theorem dFR_read_38 : decode cFR_read 38 = .ok (.iconst 0, 1) := by decide +kernel
theorem dFR_read_39 : decode cFR_read 39 = .ok (.istore_n 2, 1) := by decide +kernel
theorem dFR_read_40 : decode cFR_read 40 = .ok (.iload_n 2, 1) := by decide +kernel
theorem dFR_read_41 : decode cFR_read 41 = .ok (.sipush 600, 3) := by decide +kernel
theorem dFR_read_44 : decode cFR_read 44 = .ok (.if_icmp .ge 35, 3) := by decide +kernel
theorem dFR_read_47 : decode cFR_read 47 = .ok (.aload_n 0, 1) := by decide +kernel
theorem dFR_read_48 : decode cFR_read 48 = .ok (.getfield 12, 3) := by decide +kernel
theorem dFR_read_51 : decode cFR_read 51 = .ok (.invokevirtual 25, 3) := by decide +kernel
theorem dFR_read_54 : decode cFR_read 54 = .ok (.ifCond .eq 25, 3) := by decide +kernel
theorem dFR_read_57 : decode cFR_read 57 = .ok (.aload_n 0, 1) := by decide +kernel
theorem dFR_read_58 : decode cFR_read 58 = .ok (.aload_n 1, 1) := by decide +kernel
theorem dFR_read_59 : decode cFR_read 59 = .ok (.invokevirtual 36, 3) := by decide +kernel
theorem dFR_read_62 : decode cFR_read 62 = .ok (.ifCond .ne 11, 3) := by decide +kernel
theorem dFR_read_65 : decode cFR_read 65 = .ok (.aload_n 0, 1) := by decide +kernel
theorem dFR_read_66 : decode cFR_read 66 = .ok (.getfield 12, 3) := by decide +kernel
theorem dFR_read_69 : decode cFR_read 69 = .ok (.getfield 33, 3) := by decide +kernel
theorem dFR_read_72 : decode cFR_read 72 = .ok (.ireturn, 1) := by decide +kernel
theorem dFR_read_73 : decode cFR_read 73 = .ok (.iinc 2 1, 3) := by decide +kernel
theorem dFR_read_76 : decode cFR_read 76 = .ok (.goto (-36), 3) := by decide +kernel
theorem dFR_read_79 : decode cFR_read 79 = .ok (.iconst (-1), 1) := by decide +kernel
theorem dFR_read_80 : decode cFR_read 80 = .ok (.ireturn, 1) := by decide +kernel
-- FootprintRules$FamilyReader.read(LFootprintRules$Family;)I
abbrev w_FR_read (ad : Nat → Nat → Nat) (a_this : Nat) (a_words : Nat) (a_words_units : Nat) (a_p1 : Nat) (a_p1_values : Nat) (a_p1_letters : Nat) (k_words_units : ClassId) (k_p1_values : ClassId) (k_p1_letters : ClassId) (v_this_toldKeys : Int32) (v_words_length : Int32) (v_words_start : Int32) (v_words_end : Int32) (v_words_place : Int32) (v_words_units : Nat → Int32) (v_p1_letterCount : Int32) (v_p1_kind : Nat) (v_p1_values : Nat → Int32) (v_p1_letters : Nat → Int32) : va_W := [(a_this, .inr (1, [.ref a_words, .int v_this_toldKeys])), (a_words, .inr (0, [.ref a_words_units, .int v_words_length, .int v_words_start, .int v_words_end, .int v_words_place])), (a_words_units, .inl (k_words_units, 600, .inl v_words_units)), (a_p1, .inr (2, [.ref a_p1_values, .ref a_p1_letters, .int v_p1_letterCount, .ref (ad 0 v_p1_kind)])), (a_p1_values, .inl (k_p1_values, 18, .inl v_p1_values)), (a_p1_letters, .inl (k_p1_letters, 4, .inl v_p1_letters))]
def P_FR_read_40 (v_words_length : Int32) (v_words_units : Nat → Int32) (post : Int32 → Int32 → Int32 → Int32 → Int32 → Int32 → Nat → (Nat → Int32) → (Nat → Int32) → Prop) : Nat → Int32 → Int32 → Int32 → Int32 → Int32 → Int32 → Nat → (Nat → Int32) → (Nat → Int32) → Prop
  | 0, _, _, _, _, _, _, _, _, _ => False
  | n + 1, y2, u_this_toldKeys, u_words_start, u_words_end, u_words_place, u_p1_letterCount, u_p1_kind, u_p1_values, u_p1_letters => ((600 ≤ y2 → post (-1) u_this_toldKeys u_words_start u_words_end u_words_place u_p1_letterCount u_p1_kind u_p1_values u_p1_letters) ∧ (¬ 600 ≤ y2 → P_Wo_next v_words_length u_words_end u_words_place v_words_units (fun (r5 : Int32) (u2 : Int32) (u3 : Int32) (u4 : Int32) => ((r5 = 0 → post (-1) u_this_toldKeys u2 u3 u4 u_p1_letterCount u_p1_kind u_p1_values u_p1_letters) ∧ (¬ r5 = 0 → P_FR_readKey u_this_toldKeys v_words_length u2 u3 u4 v_words_units u_p1_letterCount u_p1_letters u_p1_values (fun (r14 : Int32) (u7 : Int32) (u8 : Int32) (u9 : Int32) (u10 : Int32) (u11 : Int32) (u12 : Nat → Int32) (u13 : Nat → Int32) => ((¬ r14 = 0 → ∀ x16 : Int32, x16 = y2 + 1 → P_FR_read_40 v_words_length v_words_units post n x16 u7 u8 u9 u10 u11 u_p1_kind u13 u12) ∧ (r14 = 0 → post u10 u7 u8 u9 u10 u11 u_p1_kind u13 u12))))))))
set_option maxHeartbeats 4000000 in
set_option maxRecDepth 100000 in
theorem w_FR_read_40 (l : Launch) {p : Program} {e : Env} {s : State} {m : MethodId} {args : Array Value} {below : List Frame} {meth : Method} {c : Code} {dC : Nat → ClassId} {dI : Nat → Nat → Nat} {ad : Nat → Nat → Nat} {A : Nat → Prop} (C0 : zC p s m args meth c cFR_read 3 RFR zT (some .int) A) (hE : zE ad A s) (a_this : Nat) (a_words : Nat) (a_words_units : Nat) (a_p1 : Nat) (a_p1_values : Nat) (a_p1_letters : Nat) (k_words_units : ClassId) (k_p1_values : ClassId) (k_p1_letters : ClassId) (v_this_toldKeys : Int32) (v_words_length : Int32) (v_words_start : Int32) (v_words_end : Int32) (v_words_place : Int32) (v_words_units : Nat → Int32) (v_p1_letterCount : Int32) (v_p1_kind : Nat) (v_p1_values : Nat → Int32) (v_p1_letters : Nat → Int32) (post : Int32 → Int32 → Int32 → Int32 → Int32 → Int32 → Nat → (Nat → Int32) → (Nat → Int32) → Prop) (hK : va_K (dC, dI) vwCl [(k_words_units, .char), (k_p1_values, .int), (k_p1_letters, .char)] s) : ∀ (n : Nat), ∀ (y2 : Int32) (u_this_toldKeys : Int32) (u_words_start : Int32) (u_words_end : Int32) (u_words_place : Int32) (u_p1_letterCount : Int32) (u_p1_kind : Nat) (u_p1_values : Nat → Int32) (u_p1_letters : Nat → Int32) (H : Heap) (locs : List Loc), P_FR_read_40 v_words_length v_words_units post n y2 u_this_toldKeys u_words_start u_words_end u_words_place u_p1_letterCount u_p1_kind u_p1_values u_p1_letters → va_P (dC, dI) vwCl (w_FR_read ad a_this a_words a_words_units a_p1 a_p1_values a_p1_letters k_words_units k_p1_values k_p1_letters u_this_toldKeys v_words_length u_words_start u_words_end u_words_place v_words_units u_p1_letterCount u_p1_kind u_p1_values u_p1_letters) H → va_D A (w_FR_read ad a_this a_words a_words_units a_p1 a_p1_values a_p1_letters k_words_units k_p1_values k_p1_letters u_this_toldKeys v_words_length u_words_start u_words_end u_words_place v_words_units u_p1_letterCount u_p1_kind u_p1_values u_p1_letters) → va_S A s.heap H locs → ∀ ls : Array Slot, lv_has ls 3 [(0, .ref a_this), (1, .ref a_p1), (2, .int y2)] → W p l e (headSpec wsFR_read { frames := 6, cells := 0, slots := 0, locals := 130 }).room s m args below meth c H locs 0 0 (MQ below (va_Qi (fun (r : Int32) (u : Int32 × Int32 × Int32 × Int32 × Int32 × Nat × (Nat → Int32) × (Nat → Int32)) => post r u.1 u.2.1 u.2.2.1 u.2.2.2.1 u.2.2.2.2.1 u.2.2.2.2.2.1 u.2.2.2.2.2.2.1 u.2.2.2.2.2.2.2) (zB (dC, dI) A (fun (u : Int32 × Int32 × Int32 × Int32 × Int32 × Nat × (Nat → Int32) × (Nat → Int32)) => (w_FR_read ad a_this a_words a_words_units a_p1 a_p1_values a_p1_letters k_words_units k_p1_values k_p1_letters u.1 v_words_length u.2.1 u.2.2.1 u.2.2.2.1 v_words_units u.2.2.2.2.1 u.2.2.2.2.2.1 u.2.2.2.2.2.2.1 u.2.2.2.2.2.2.2))) A) args s 0 0 A) (F0 m 40 ls []) := by
  obtain ⟨hx, hb, hr, hml, hown, hts, hlocks, hA⟩ := id C0
  intro n
  induction n with
  | zero =>
    intro y2 u_this_toldKeys u_words_start u_words_end u_words_place u_p1_letterCount u_p1_kind u_p1_values u_p1_letters H locs h
    exact False.elim h
  | succ n ih =>
    intro y2 u_this_toldKeys u_words_start u_words_end u_words_place u_p1_letterCount u_p1_kind u_p1_values u_p1_letters H locs h hP hD hS ls hl
    rw [P_FR_read_40] at h
    refine lv_iload_n hx hb dFR_read_40 rfl (lv_at hl 2 rfl) ?_
    refine lv_sipush (v := 600) hx hb dFR_read_41 (by decide) ?_
    refine lv_icmp_ge (tgt := 79) hx hb dFR_read_44 (by decide) ?_ ?_
    · intro c1
      replace h := h.1 c1
      refine lv_iconst (v := (-1)) hx hb dFR_read_79 (by decide) ?_
      exact W.iret (v := (-1)) hx hb hr (fun t ht hW => ⟨⟨(-1), (u_this_toldKeys, u_words_start, u_words_end, u_words_place, u_p1_letterCount, u_p1_kind, u_p1_values, u_p1_letters), rfl, h, by rw [ht]; exact hP, hD⟩, hS.F ht⟩) hS.2.2 dFR_read_80
    · intro c1
      replace h := h.2 c1
      refine lv_aload_n hx hb dFR_read_47 rfl (lv_at hl 0 rfl) ?_
      refine va_get (D := (dC, dI)) (ci := 1) (v := .ref a_words) (C := RFR) (T := TFR) (N := 2) hx hb hts inZ_FR hown hK hP 0 rfl rfl 0 (by decide) (hts _ zw_158) (fun _ h9 => h9) rfl dFR_read_48 ?_
      refine zcall_i hP hD hS hA [1, 2] [0, 3, 4, 5] (va_runVN (As := []) (rest := []) ⟨hx, hb, hml, hown, hts⟩ (c_Wo_next l dC dI ad a_words a_words_units k_words_units _ v_words_length u_words_start u_words_end u_words_place v_words_units _ h) ⟨va_cnB 0 hts (zgood zc_Wo_next) rfl rfl rfl (hE.nw _ zn_503) (hts _ zw_97) (by decide +kernel) ⟨Nat.le_of_ble_eq_true rfl, Nat.le_of_ble_eq_true rfl⟩, (hts _ zw_505), (hts _ zw_8)⟩ (zpreV hE hK hP hD hS hA [1, 2] [0] (by rfl) (by rfl) (by decide) (ci := 0) (q0 := 1) rfl (by rfl)) rfl rfl hl.1 rfl (lv_room (Nat.le_of_ble_eq_true rfl)) dFR_read_51 ⟨Nat.le_of_ble_eq_true rfl, Nat.le_of_ble_eq_true rfl⟩) (by rfl) (by rfl) (by decide) (by decide) (fun r5 u H locs h hP hD hS => ?_)
      obtain ⟨u2, u3, u4⟩ := u
      try dsimp only at h
      have hP := hP.sub (ws' := (w_FR_read ad a_this a_words a_words_units a_p1 a_p1_values a_p1_letters k_words_units k_p1_values k_p1_letters u_this_toldKeys v_words_length u2 u3 u4 v_words_units u_p1_letterCount u_p1_kind u_p1_values u_p1_letters)) [0, 4, 5, 1, 2, 3] rfl
      have hD := hD.sub (ws' := (w_FR_read ad a_this a_words a_words_units a_p1 a_p1_values a_p1_letters k_words_units k_p1_values k_p1_letters u_this_toldKeys v_words_length u2 u3 u4 v_words_units u_p1_letterCount u_p1_kind u_p1_values u_p1_letters)) [0, 4, 5, 1, 2, 3] (by decide) rfl
      refine lv_if_eq (tgt := 79) hx hb dFR_read_54 (by decide) ?_ ?_
      · intro c6
        replace h := h.1 c6
        refine lv_iconst (v := (-1)) hx hb dFR_read_79 (by decide) ?_
        exact W.iret (v := (-1)) hx hb hr (fun t ht hW => ⟨⟨(-1), (u_this_toldKeys, u2, u3, u4, u_p1_letterCount, u_p1_kind, u_p1_values, u_p1_letters), rfl, h, by rw [ht]; exact hP, hD⟩, hS.F ht⟩) hS.2.2 dFR_read_80
      · intro c6
        replace h := h.2 c6
        refine lv_aload_n hx hb dFR_read_57 rfl (lv_at hl 0 rfl) ?_
        refine lv_aload_n hx hb dFR_read_58 rfl (lv_at hl 1 rfl) ?_
        refine zcall_i hP hD hS hA [0, 1, 2, 3, 5, 4] [] (va_runV (As := [.ref a_p1]) (rest := []) ⟨hx, hb, hml, hown, hts⟩ (c_FR_readKey l dC dI ad a_this a_words a_words_units a_p1 a_p1_values a_p1_letters k_words_units k_p1_letters k_p1_values _ u_this_toldKeys v_words_length u2 u3 u4 v_words_units u_p1_letterCount u_p1_kind u_p1_letters u_p1_values _ h) ⟨callB_of 1 hts (zgood zc_FR_readKey) rfl rfl rfl (hts _ zw_96) (hts _ zw_592) (by decide +kernel) ⟨Nat.le_of_ble_eq_true rfl, Nat.le_of_ble_eq_true rfl⟩, (hts _ zw_594), (hts _ zw_16)⟩ (zpreV hE hK hP hD hS hA [0, 1, 2, 3, 5, 4] [0, 2, 1] (by rfl) (by rfl) (by decide) (ci := 1) (q0 := 0) rfl (by rfl)) rfl rfl hl.1 rfl (lv_room (Nat.le_of_ble_eq_true rfl)) dFR_read_59 ⟨Nat.le_of_ble_eq_true rfl, Nat.le_of_ble_eq_true rfl⟩) (by rfl) (by rfl) (by decide) (by decide) (fun r14 u H locs h hP hD hS => ?_)
        obtain ⟨u7, u8, u9, u10, u11, u12, u13⟩ := u
        try dsimp only at h
        have hP := hP.sub (ws' := (w_FR_read ad a_this a_words a_words_units a_p1 a_p1_values a_p1_letters k_words_units k_p1_values k_p1_letters u7 v_words_length u8 u9 u10 v_words_units u11 u_p1_kind u13 u12)) [0, 1, 2, 3, 5, 4] rfl
        have hD := hD.sub (ws' := (w_FR_read ad a_this a_words a_words_units a_p1 a_p1_values a_p1_letters k_words_units k_p1_values k_p1_letters u7 v_words_length u8 u9 u10 v_words_units u11 u_p1_kind u13 u12)) [0, 1, 2, 3, 5, 4] (by decide) rfl
        refine lv_if_ne (tgt := 73) hx hb dFR_read_62 (by decide) ?_ ?_
        · intro c15
          replace h := h.1 c15
          obtain ⟨x16, ex16⟩ : ∃ y : Int32, y = y2 + 1 := ⟨_, rfl⟩
          replace h := h x16 ex16
          refine lv_iinc (v := x16) (lv' := [(2, .int x16), (0, .ref a_this), (1, .ref a_p1)]) hx hb dFR_read_73 hl (k := 2) rfl (by rw [ex16]; rfl) (by decide) rfl (fun ls hl => ?_)
          refine lv_goto (tgt := 40) hx hb dFR_read_76 (by decide) ?_
          exact ih x16 u7 u8 u9 u10 u11 u_p1_kind u13 u12 _ _ h hP hD hS ls (lv_sub hl [1, 2, 0] rfl)
        · intro c15
          replace h := h.2 c15
          refine lv_aload_n hx hb dFR_read_65 rfl (lv_at hl 0 rfl) ?_
          refine va_get (D := (dC, dI)) (ci := 1) (v := .ref a_words) (C := RFR) (T := TFR) (N := 2) hx hb hts inZ_FR hown hK hP 0 rfl rfl 0 (by decide) (hts _ zw_158) (fun _ h9 => h9) rfl dFR_read_66 ?_
          refine va_getN (D := (dC, dI)) (ci := 0) (v := .int u10) (C := RWo) (T := TWo) (N := 5) hx hb hts inZ_Wo hown hK hP 1 rfl rfl 4 (by decide) ((hE.nw _ zn_144).use rfl) (fun _ h9 => h9) rfl dFR_read_69 ?_
          exact W.iret (v := u10) hx hb hr (fun t ht hW => ⟨⟨u10, (u7, u8, u9, u10, u11, u_p1_kind, u13, u12), rfl, h, by rw [ht]; exact hP, hD⟩, hS.F ht⟩) hS.2.2 dFR_read_72
def P_FR_read (v_words_length : Int32) (v_words_units : Nat → Int32) (v_p1_letterCount : Int32) (v_p1_kind : Nat) (v_p1_values : Nat → Int32) (v_p1_letters : Nat → Int32) (post : Int32 → Int32 → Int32 → Int32 → Int32 → Int32 → Nat → (Nat → Int32) → (Nat → Int32) → Prop) : Prop := P_Wo_rewind (fun (u1 : Int32) (u2 : Int32) => P_Wo_next v_words_length u1 u2 v_words_units (fun (r6 : Int32) (u3 : Int32) (u4 : Int32) (u5 : Int32) => ((r6 = 0 → post u5 0 u3 u4 u5 v_p1_letterCount v_p1_kind v_p1_values v_p1_letters) ∧ (¬ r6 = 0 → P_FR_readKind u3 u4 v_words_units v_p1_letterCount v_p1_kind v_p1_values v_p1_letters (fun (r12 : Int32) (u8 : Int32) (u9 : Nat) (u10 : Nat → Int32) (u11 : Nat → Int32) => ((¬ r12 = 0 → ∃ n14, P_FR_read_40 v_words_length v_words_units post n14 0 0 u3 u4 u5 u8 u9 u10 u11) ∧ (r12 = 0 → post u5 0 u3 u4 u5 u8 u9 u10 u11)))))))
set_option maxHeartbeats 4000000 in
set_option maxRecDepth 100000 in
theorem c_FR_read (l : Launch) (dC : Nat → ClassId) (dI : Nat → Nat → Nat) (ad : Nat → Nat → Nat) (a_this : Nat) (a_words : Nat) (a_words_units : Nat) (a_p1 : Nat) (a_p1_values : Nat) (a_p1_letters : Nat) (k_words_units : ClassId) (k_p1_values : ClassId) (k_p1_letters : ClassId) (sz : Nat) (v_this_toldKeys : Int32) (v_words_length : Int32) (v_words_start : Int32) (v_words_end : Int32) (v_words_place : Int32) (v_words_units : Nat → Int32) (v_p1_letterCount : Int32) (v_p1_kind : Nat) (v_p1_values : Nat → Int32) (v_p1_letters : Nat → Int32) (post : Int32 → Int32 → Int32 → Int32 → Int32 → Int32 → Nat → (Nat → Int32) → (Nat → Int32) → Prop) (h : P_FR_read v_words_length v_words_units v_p1_letterCount v_p1_kind v_p1_values v_p1_letters post) : zMi l yFR_read wsFR_read { frames := 6, cells := 0, slots := 0, locals := 130 } (dC, dI) ad [.ref a_this, .ref a_p1] (w_FR_read ad a_this a_words a_words_units a_p1 a_p1_values a_p1_letters k_words_units k_p1_values k_p1_letters v_this_toldKeys v_words_length v_words_start v_words_end v_words_place v_words_units v_p1_letterCount v_p1_kind v_p1_values v_p1_letters) [(k_words_units, .char), (k_p1_values, .int), (k_p1_letters, .char)] sz (fun (r : Int32) (u : Int32 × Int32 × Int32 × Int32 × Int32 × Nat × (Nat → Int32) × (Nat → Int32)) => post r u.1 u.2.1 u.2.2.1 u.2.2.2.1 u.2.2.2.2.1 u.2.2.2.2.2.1 u.2.2.2.2.2.2.1 u.2.2.2.2.2.2.2) (fun (u : Int32 × Int32 × Int32 × Int32 × Int32 × Nat × (Nat → Int32) × (Nat → Int32)) => (w_FR_read ad a_this a_words a_words_units a_p1 a_p1_values a_p1_letters k_words_units k_p1_values k_p1_letters u.1 v_words_length u.2.1 u.2.2.1 u.2.2.2.1 v_words_units u.2.2.2.2.1 u.2.2.2.2.2.1 u.2.2.2.2.2.2.1 u.2.2.2.2.2.2.2)) 0 0 := by
  refine Met.ofW (cc := cFR_read) (maxL := 3) (ret := (some .int)) (by decide +kernel) rfl ?_
  intro p e s m args below meth c s₁ B hml hv
  obtain ⟨rfl, hsz, hP, hK, hD0, hE⟩ := hv
  have hx := B.exec
  have hb := B.bytes
  have hr := B.returns
  have hts0 := atoms_spec (ws := wsFR_read) B.pre
  have hts := fun w h => hts0 w (List.mem_cons_of_mem _ h)
  have hown : s.vm.findClass RFR = some m.cls := findClass_of_methodNamed B.named
  have hlocks := B.notSynchronized
  subst hsz
  have hD := hD0.self (sz := s.heap.size)
  generalize hAe : va_A (w_FR_read ad a_this a_words a_words_units a_p1 a_p1_values a_p1_letters k_words_units k_p1_values k_p1_letters v_this_toldKeys v_words_length v_words_start v_words_end v_words_place v_words_units v_p1_letterCount v_p1_kind v_p1_values v_p1_letters) s.heap.size = A at hD hE ⊢
  have hA : ∀ q : Nat, s.heap.size ≤ q → A q := fun q h => by rw [← hAe]; exact Or.inr h
  have C0 := zC.mk hx hb hr hml hown hts hlocks hA
  have hS : va_S A s.heap s.heap [] := va_S.rf
  have hl := lv_entry ([.ref a_this, .ref a_p1]) (n := 3) (Nat.le_of_ble_eq_true rfl)
  rw [lg_entry_eq]
  generalize (lg_sl ([.ref a_this, .ref a_p1]) ++ List.replicate (3 - (lg_sl ([.ref a_this, .ref a_p1])).length) Slot.unset).toArray = ls at hl ⊢
  have hl : lv_has ls 3 [(0, .ref a_this), (1, .ref a_p1)] := hl
  unfold P_FR_read at h
  refine lv_aload_n hx hb dFR_read_0 rfl (lv_at hl 0 rfl) ?_
  refine va_get (D := (dC, dI)) (ci := 1) (v := .ref a_words) (C := RFR) (T := TFR) (N := 2) hx hb hts inZ_FR hown hK hP 0 rfl rfl 0 (by decide) (hts _ zw_158) (fun _ h9 => h9) rfl dFR_read_1 ?_
  refine zcall_v hP hD hS hA [1] [0, 2, 3, 4, 5] (va_runVN (As := []) (rest := []) ⟨hx, hb, hml, hown, hts⟩ (c_Wo_rewind l dC dI ad a_words a_words_units _ v_words_length v_words_start v_words_end v_words_place _ h) ⟨va_cnB 0 hts (zgood zc_Wo_rewind) rfl rfl rfl (hE.nw _ zn_499) (hts _ zw_97) (by decide +kernel) ⟨Nat.le_of_ble_eq_true rfl, Nat.le_of_ble_eq_true rfl⟩, (hts _ zw_501), (hts _ zw_7)⟩ (zpreV hE hK hP hD hS hA [1] [] (by rfl) (by rfl) (by decide) (ci := 0) (q0 := 1) rfl (by rfl)) rfl rfl hl.1 rfl (lv_room (Nat.le_of_ble_eq_true rfl)) dFR_read_4 ⟨Nat.le_of_ble_eq_true rfl, Nat.le_of_ble_eq_true rfl⟩) (by rfl) (by rfl) (by decide) (by decide) (fun u H locs h hP hD hS => ?_)
  obtain ⟨u1, u2⟩ := u
  try dsimp only at h
  have hP := hP.sub (ws' := (w_FR_read ad a_this a_words a_words_units a_p1 a_p1_values a_p1_letters k_words_units k_p1_values k_p1_letters v_this_toldKeys v_words_length v_words_start u1 u2 v_words_units v_p1_letterCount v_p1_kind v_p1_values v_p1_letters)) [0, 5, 1, 2, 3, 4] rfl
  have hD := hD.sub (ws' := (w_FR_read ad a_this a_words a_words_units a_p1 a_p1_values a_p1_letters k_words_units k_p1_values k_p1_letters v_this_toldKeys v_words_length v_words_start u1 u2 v_words_units v_p1_letterCount v_p1_kind v_p1_values v_p1_letters)) [0, 5, 1, 2, 3, 4] (by decide) rfl
  refine lv_aload_n hx hb dFR_read_7 rfl (lv_at hl 0 rfl) ?_
  refine lv_iconst (v := 0) hx hb dFR_read_8 (by decide) ?_
  refine va_put (D := (dC, dI)) (ci := 1) (v := .int 0) (ty := .int) (C := RFR) (T := TFR) (N := 2) hx hb hts inZ_FR tyFR tyFR_ok nmFR hown hK hP hD hS 0 rfl rfl 1 (by decide) (hts _ zw_160) (fun _ h9 => h9) rfl (by decide +kernel) rfl rfl (Nat.le_of_ble_eq_true rfl) dFR_read_9 (fun H locs hP hD hS => ?_)
  have hP : va_P (dC, dI) vwCl (w_FR_read ad a_this a_words a_words_units a_p1 a_p1_values a_p1_letters k_words_units k_p1_values k_p1_letters 0 v_words_length v_words_start u1 u2 v_words_units v_p1_letterCount v_p1_kind v_p1_values v_p1_letters) H := hP
  have hD : va_D A (w_FR_read ad a_this a_words a_words_units a_p1 a_p1_values a_p1_letters k_words_units k_p1_values k_p1_letters 0 v_words_length v_words_start u1 u2 v_words_units v_p1_letterCount v_p1_kind v_p1_values v_p1_letters) := hD
  refine lv_aload_n hx hb dFR_read_12 rfl (lv_at hl 0 rfl) ?_
  refine va_get (D := (dC, dI)) (ci := 1) (v := .ref a_words) (C := RFR) (T := TFR) (N := 2) hx hb hts inZ_FR hown hK hP 0 rfl rfl 0 (by decide) (hts _ zw_158) (fun _ h9 => h9) rfl dFR_read_13 ?_
  refine zcall_i hP hD hS hA [1, 2] [0, 3, 4, 5] (va_runVN (As := []) (rest := []) ⟨hx, hb, hml, hown, hts⟩ (c_Wo_next l dC dI ad a_words a_words_units k_words_units _ v_words_length v_words_start u1 u2 v_words_units _ h) ⟨va_cnB 0 hts (zgood zc_Wo_next) rfl rfl rfl (hE.nw _ zn_503) (hts _ zw_97) (by decide +kernel) ⟨Nat.le_of_ble_eq_true rfl, Nat.le_of_ble_eq_true rfl⟩, (hts _ zw_505), (hts _ zw_8)⟩ (zpreV hE hK hP hD hS hA [1, 2] [0] (by rfl) (by rfl) (by decide) (ci := 0) (q0 := 1) rfl (by rfl)) rfl rfl hl.1 rfl (lv_room (Nat.le_of_ble_eq_true rfl)) dFR_read_16 ⟨Nat.le_of_ble_eq_true rfl, Nat.le_of_ble_eq_true rfl⟩) (by rfl) (by rfl) (by decide) (by decide) (fun r6 u H locs h hP hD hS => ?_)
  obtain ⟨u3, u4, u5⟩ := u
  try dsimp only at h
  have hP := hP.sub (ws' := (w_FR_read ad a_this a_words a_words_units a_p1 a_p1_values a_p1_letters k_words_units k_p1_values k_p1_letters 0 v_words_length u3 u4 u5 v_words_units v_p1_letterCount v_p1_kind v_p1_values v_p1_letters)) [0, 4, 5, 1, 2, 3] rfl
  have hD := hD.sub (ws' := (w_FR_read ad a_this a_words a_words_units a_p1 a_p1_values a_p1_letters k_words_units k_p1_values k_p1_letters 0 v_words_length u3 u4 u5 v_words_units v_p1_letterCount v_p1_kind v_p1_values v_p1_letters)) [0, 4, 5, 1, 2, 3] (by decide) rfl
  refine lv_if_eq (tgt := 30) hx hb dFR_read_19 (by decide) ?_ ?_
  · intro c7
    replace h := h.1 c7
    refine lv_aload_n hx hb dFR_read_30 rfl (lv_at hl 0 rfl) ?_
    refine va_get (D := (dC, dI)) (ci := 1) (v := .ref a_words) (C := RFR) (T := TFR) (N := 2) hx hb hts inZ_FR hown hK hP 0 rfl rfl 0 (by decide) (hts _ zw_158) (fun _ h9 => h9) rfl dFR_read_31 ?_
    refine va_getN (D := (dC, dI)) (ci := 0) (v := .int u5) (C := RWo) (T := TWo) (N := 5) hx hb hts inZ_Wo hown hK hP 1 rfl rfl 4 (by decide) ((hE.nw _ zn_144).use rfl) (fun _ h9 => h9) rfl dFR_read_34 ?_
    exact W.iret (v := u5) hx hb hr (fun t ht hW => ⟨⟨u5, (0, u3, u4, u5, v_p1_letterCount, v_p1_kind, v_p1_values, v_p1_letters), rfl, h, by rw [ht]; exact hP, hD⟩, hS.F ht⟩) hS.2.2 dFR_read_37
  · intro c7
    replace h := h.2 c7
    refine lv_aload_n hx hb dFR_read_22 rfl (lv_at hl 0 rfl) ?_
    refine lv_aload_n hx hb dFR_read_23 rfl (lv_at hl 1 rfl) ?_
    refine zcall_i hP hD hS hA [0, 1, 2, 3, 4, 5] [] (va_runV (As := [.ref a_p1]) (rest := []) ⟨hx, hb, hml, hown, hts⟩ (c_FR_readKind l dC dI ad a_this a_words a_words_units a_p1 a_p1_values a_p1_letters k_words_units k_p1_values k_p1_letters _ 0 v_words_length u3 u4 u5 v_words_units v_p1_letterCount v_p1_kind v_p1_values v_p1_letters _ h) ⟨callB_of 1 hts (zgood zc_FR_readKind) rfl rfl rfl (hts _ zw_96) (hts _ zw_510) (by decide +kernel) ⟨Nat.le_of_ble_eq_true rfl, Nat.le_of_ble_eq_true rfl⟩, (hts _ zw_512), (hts _ zw_9)⟩ (zpreV hE hK hP hD hS hA [0, 1, 2, 3, 4, 5] [0, 1, 2] (by rfl) (by rfl) (by decide) (ci := 1) (q0 := 0) rfl (by rfl)) rfl rfl hl.1 rfl (lv_room (Nat.le_of_ble_eq_true rfl)) dFR_read_24 ⟨Nat.le_of_ble_eq_true rfl, Nat.le_of_ble_eq_true rfl⟩) (by rfl) (by rfl) (by decide) (by decide) (fun r12 u H locs h hP hD hS => ?_)
    obtain ⟨u8, u9, u10, u11⟩ := u
    try dsimp only at h
    have hP := hP.sub (ws' := (w_FR_read ad a_this a_words a_words_units a_p1 a_p1_values a_p1_letters k_words_units k_p1_values k_p1_letters 0 v_words_length u3 u4 u5 v_words_units u8 u9 u10 u11)) [0, 1, 2, 3, 4, 5] rfl
    have hD := hD.sub (ws' := (w_FR_read ad a_this a_words a_words_units a_p1 a_p1_values a_p1_letters k_words_units k_p1_values k_p1_letters 0 v_words_length u3 u4 u5 v_words_units u8 u9 u10 u11)) [0, 1, 2, 3, 4, 5] (by decide) rfl
    refine lv_if_ne (tgt := 38) hx hb dFR_read_27 (by decide) ?_ ?_
    · intro c13
      replace h := h.1 c13
      refine lv_iconst (v := 0) hx hb dFR_read_38 (by decide) ?_
      refine lv_istore_n (lv' := [(2, .int 0), (0, .ref a_this), (1, .ref a_p1)]) hx hb dFR_read_39 rfl hl (by decide) rfl (fun ls hl => ?_)
      obtain ⟨n14, h⟩ := h
      exact w_FR_read_40 l C0 hE a_this a_words a_words_units a_p1 a_p1_values a_p1_letters k_words_units k_p1_values k_p1_letters v_this_toldKeys v_words_length v_words_start v_words_end v_words_place v_words_units v_p1_letterCount v_p1_kind v_p1_values v_p1_letters post hK n14 0 0 u3 u4 u5 u8 u9 u10 u11 _ _ h hP hD hS ls (lv_sub hl [1, 2, 0] rfl)
    · intro c13
      replace h := h.2 c13
      refine lv_aload_n hx hb dFR_read_30 rfl (lv_at hl 0 rfl) ?_
      refine va_get (D := (dC, dI)) (ci := 1) (v := .ref a_words) (C := RFR) (T := TFR) (N := 2) hx hb hts inZ_FR hown hK hP 0 rfl rfl 0 (by decide) (hts _ zw_158) (fun _ h9 => h9) rfl dFR_read_31 ?_
      refine va_getN (D := (dC, dI)) (ci := 0) (v := .int u5) (C := RWo) (T := TWo) (N := 5) hx hb hts inZ_Wo hown hK hP 1 rfl rfl 4 (by decide) ((hE.nw _ zn_144).use rfl) (fun _ h9 => h9) rfl dFR_read_34 ?_
      exact W.iret (v := u5) hx hb hr (fun t ht hW => ⟨⟨u5, (0, u3, u4, u5, u8, u9, u10, u11), rfl, h, by rw [ht]; exact hP, hD⟩, hS.F ht⟩) hS.2.2 dFR_read_37
abbrev yFp_writeOnce : MethodName := ⟨"FootprintRules$Footprint", "writeOnce", "()V"⟩
abbrev cFp_writeOnce : ByteArray := prog_5_method_13_code
abbrev wsFp_writeOnce : List Cond := .code yFp_writeOnce cFp_writeOnce 2 none :: zT
set_option maxRecDepth 100000 in
theorem zc_Fp_writeOnce : Cond.code yFp_writeOnce cFp_writeOnce 2 none ∈ zT := zm 875 (by rfl) (by rfl)
theorem dFp_writeOnce_0 : decode cFp_writeOnce 0 = .ok (.aload_n 0, 1) := by decide +kernel
theorem dFp_writeOnce_1 : decode cFp_writeOnce 1 = .ok (.getfield 46, 3) := by decide +kernel
theorem dFp_writeOnce_4 : decode cFp_writeOnce 4 = .ok (.ifCond .eq 4, 3) := by decide +kernel
theorem dFp_writeOnce_7 : decode cFp_writeOnce 7 = .ok (.return_, 1) := by decide +kernel
theorem dFp_writeOnce_8 : decode cFp_writeOnce 8 = .ok (.aload_n 0, 1) := by decide +kernel
theorem dFp_writeOnce_9 : decode cFp_writeOnce 9 = .ok (.iconst 1, 1) := by decide +kernel
theorem dFp_writeOnce_10 : decode cFp_writeOnce 10 = .ok (.putfield 46, 3) := by decide +kernel
theorem dFp_writeOnce_13 : decode cFp_writeOnce 13 = .ok (.aload_n 0, 1) := by decide +kernel
theorem dFp_writeOnce_14 : decode cFp_writeOnce 14 = .ok (.getfield 38, 3) := by decide +kernel
theorem dFp_writeOnce_17 : decode cFp_writeOnce 17 = .ok (.iconst 0, 1) := by decide +kernel
theorem dFp_writeOnce_18 : decode cFp_writeOnce 18 = .ok (.putfield 157, 3) := by decide +kernel
theorem dFp_writeOnce_21 : decode cFp_writeOnce 21 = .ok (.aload_n 0, 1) := by decide +kernel
theorem dFp_writeOnce_22 : decode cFp_writeOnce 22 = .ok (.invokevirtual 160, 3) := by decide +kernel
theorem dFp_writeOnce_25 : decode cFp_writeOnce 25 = .ok (.aload_n 0, 1) := by decide +kernel
theorem dFp_writeOnce_26 : decode cFp_writeOnce 26 = .ok (.aload_n 0, 1) := by decide +kernel
theorem dFp_writeOnce_27 : decode cFp_writeOnce 27 = .ok (.getfield 38, 3) := by decide +kernel
theorem dFp_writeOnce_30 : decode cFp_writeOnce 30 = .ok (.getfield 157, 3) := by decide +kernel
theorem dFp_writeOnce_33 : decode cFp_writeOnce 33 = .ok (.putfield 151, 3) := by decide +kernel
theorem dFp_writeOnce_36 : decode cFp_writeOnce 36 = .ok (.aload_n 0, 1) := by decide +kernel
theorem dFp_writeOnce_37 : decode cFp_writeOnce 37 = .ok (.getfield 38, 3) := by decide +kernel
theorem dFp_writeOnce_40 : decode cFp_writeOnce 40 = .ok (.bipush 10, 2) := by decide +kernel
theorem dFp_writeOnce_42 : decode cFp_writeOnce 42 = .ok (.invokevirtual 163, 3) := by decide +kernel
theorem dFp_writeOnce_45 : decode cFp_writeOnce 45 = .ok (.iconst 0, 1) := by decide +kernel
theorem dFp_writeOnce_46 : decode cFp_writeOnce 46 = .ok (.istore_n 1, 1) := by decide +kernel
theorem dFp_writeOnce_47 : decode cFp_writeOnce 47 = .ok (.iload_n 1, 1) := by decide +kernel
theorem dFp_writeOnce_48 : decode cFp_writeOnce 48 = .ok (.aload_n 0, 1) := by decide +kernel
theorem dFp_writeOnce_49 : decode cFp_writeOnce 49 = .ok (.getfield 49, 3) := by decide +kernel
theorem dFp_writeOnce_52 : decode cFp_writeOnce 52 = .ok (.if_icmp .ge 14, 3) := by decide +kernel
theorem dFp_writeOnce_55 : decode cFp_writeOnce 55 = .ok (.aload_n 0, 1) := by decide +kernel
theorem dFp_writeOnce_56 : decode cFp_writeOnce 56 = .ok (.iload_n 1, 1) := by decide +kernel
theorem dFp_writeOnce_57 : decode cFp_writeOnce 57 = .ok (.invokevirtual 167, 3) := by decide +kernel
theorem dFp_writeOnce_60 : decode cFp_writeOnce 60 = .ok (.iinc 1 1, 3) := by decide +kernel
theorem dFp_writeOnce_63 : decode cFp_writeOnce 63 = .ok (.goto (-16), 3) := by decide +kernel
theorem dFp_writeOnce_66 : decode cFp_writeOnce 66 = .ok (.aload_n 0, 1) := by decide +kernel
theorem dFp_writeOnce_67 : decode cFp_writeOnce 67 = .ok (.getfield 38, 3) := by decide +kernel
theorem dFp_writeOnce_70 : decode cFp_writeOnce 70 = .ok (.ldc 171, 2) := by decide +kernel
theorem dFp_writeOnce_72 : decode cFp_writeOnce 72 = .ok (.invokevirtual 173, 3) := by decide +kernel
theorem dFp_writeOnce_75 : decode cFp_writeOnce 75 = .ok (.iconst 0, 1) := by decide +kernel
theorem dFp_writeOnce_76 : decode cFp_writeOnce 76 = .ok (.istore_n 1, 1) := by decide +kernel
theorem dFp_writeOnce_77 : decode cFp_writeOnce 77 = .ok (.iload_n 1, 1) := by decide +kernel
theorem dFp_writeOnce_78 : decode cFp_writeOnce 78 = .ok (.iconst 4, 1) := by decide +kernel
theorem dFp_writeOnce_79 : decode cFp_writeOnce 79 = .ok (.if_icmp .ge 31, 3) := by decide +kernel
theorem dFp_writeOnce_82 : decode cFp_writeOnce 82 = .ok (.aload_n 0, 1) := by decide +kernel
theorem dFp_writeOnce_83 : decode cFp_writeOnce 83 = .ok (.getfield 38, 3) := by decide +kernel
theorem dFp_writeOnce_86 : decode cFp_writeOnce 86 = .ok (.bipush 32, 2) := by decide +kernel
theorem dFp_writeOnce_88 : decode cFp_writeOnce 88 = .ok (.invokevirtual 163, 3) := by decide +kernel
theorem dFp_writeOnce_91 : decode cFp_writeOnce 91 = .ok (.aload_n 0, 1) := by decide +kernel
theorem dFp_writeOnce_92 : decode cFp_writeOnce 92 = .ok (.getfield 38, 3) := by decide +kernel
theorem dFp_writeOnce_95 : decode cFp_writeOnce 95 = .ok (.aload_n 0, 1) := by decide +kernel
theorem dFp_writeOnce_96 : decode cFp_writeOnce 96 = .ok (.getfield 22, 3) := by decide +kernel
theorem dFp_writeOnce_99 : decode cFp_writeOnce 99 = .ok (.iload_n 1, 1) := by decide +kernel
theorem dFp_writeOnce_100 : decode cFp_writeOnce 100 = .ok (.laload, 1) := by decide +kernel
theorem dFp_writeOnce_101 : decode cFp_writeOnce 101 = .ok (.invokevirtual 177, 3) := by decide +kernel
theorem dFp_writeOnce_104 : decode cFp_writeOnce 104 = .ok (.iinc 1 1, 3) := by decide +kernel
theorem dFp_writeOnce_107 : decode cFp_writeOnce 107 = .ok (.goto (-30), 3) := by decide +kernel
theorem dFp_writeOnce_110 : decode cFp_writeOnce 110 = .ok (.aload_n 0, 1) := by decide +kernel
theorem dFp_writeOnce_111 : decode cFp_writeOnce 111 = .ok (.getfield 38, 3) := by decide +kernel
theorem dFp_writeOnce_114 : decode cFp_writeOnce 114 = .ok (.bipush 10, 2) := by decide +kernel
theorem dFp_writeOnce_116 : decode cFp_writeOnce 116 = .ok (.invokevirtual 163, 3) := by decide +kernel
theorem dFp_writeOnce_119 : decode cFp_writeOnce 119 = .ok (.return_, 1) := by decide +kernel
-- FootprintRules$Footprint.writeOnce()V
abbrev w_Fp_writeOnce (ad : Nat → Nat → Nat) (a_this : Nat) (a_cells : Nat) (a_family : Nat) (a_yard : Nat) (a_columns : Nat) (a_rows : Nat) (a_line : Nat) (a_line_units : Nat) (a_family_values : Nat) (a_family_letters : Nat) (k_family_letters : ClassId) (k_line_units : ClassId) (k_cells : ClassId) (k_yard : ClassId) (v_this_atHand : Int32) (v_this_count : Int32) (v_this_thermal : Int32) (v_this_density : Int32) (v_this_outerHigh : Int64) (v_this_pasteLeft : Int64) (v_this_pasteLow : Int64) (v_this_nameLength : Int32) (v_this_isWritten : Int32) (v_line_length : Int32) (v_family_letterCount : Int32) (v_family_kind : Nat) (v_family_letters : Nat → Int32) (v_line_units : Nat → Int32) (v_cells : Nat → Int64) (v_yard : Nat → Int64) : va_W := [(a_this, .inr (6, [.int v_this_atHand, .ref a_cells, .int v_this_count, .int v_this_thermal, .ref a_family, .int v_this_density, .long v_this_outerHigh, .ref a_yard, .ref a_columns, .ref a_rows, .long v_this_pasteLeft, .long v_this_pasteLow, .ref a_line, .int v_this_nameLength, .int v_this_isWritten])), (a_line, .inr (7, [.ref a_line_units, .int v_line_length])), (a_family, .inr (2, [.ref a_family_values, .ref a_family_letters, .int v_family_letterCount, .ref (ad 0 v_family_kind)])), (a_family_letters, .inl (k_family_letters, 4, .inl v_family_letters)), (a_line_units, .inl (k_line_units, 4096, .inl v_line_units)), (a_cells, .inl (k_cells, 455, .inr (.inl v_cells))), (a_yard, .inl (k_yard, 4, .inr (.inl v_yard)))]
def P_Fp_writeOnce_77 (v_yard : Nat → Int64) (post : Int32 → Int32 → Int32 → (Nat → Int32) → Prop) : Nat → Int32 → Int32 → Int32 → Int32 → (Nat → Int32) → Prop
  | 0, _, _, _, _, _ => False
  | n + 1, y1, u_this_nameLength, u_this_isWritten, u_line_length, u_line_units => ((4 ≤ y1 → P_Li_addUnit 10 u_line_length u_line_units (fun (u2 : Int32) (u3 : Nat → Int32) => post u_this_nameLength u_this_isWritten u2 u3)) ∧ (¬ 4 ≤ y1 → P_Li_addUnit 32 u_line_length u_line_units (fun (u4 : Int32) (u5 : Nat → Int32) => vp_in y1 4 ∧ P_Li_addNumber (v_yard y1.toNatClampNeg) u4 u5 (fun (u7 : Int32) (u8 : Nat → Int32) => ∀ x9 : Int32, x9 = y1 + 1 → P_Fp_writeOnce_77 v_yard post n x9 u_this_nameLength u_this_isWritten u7 u8))))
set_option maxHeartbeats 4000000 in
set_option maxRecDepth 100000 in
theorem w_Fp_writeOnce_77 (l : Launch) {p : Program} {e : Env} {s : State} {m : MethodId} {args : Array Value} {below : List Frame} {meth : Method} {c : Code} {dC : Nat → ClassId} {dI : Nat → Nat → Nat} {ad : Nat → Nat → Nat} {A : Nat → Prop} (C0 : zC p s m args meth c cFp_writeOnce 2 RFp zT none A) (hE : zE ad A s) (a_this : Nat) (a_cells : Nat) (a_family : Nat) (a_yard : Nat) (a_columns : Nat) (a_rows : Nat) (a_line : Nat) (a_line_units : Nat) (a_family_values : Nat) (a_family_letters : Nat) (k_family_letters : ClassId) (k_line_units : ClassId) (k_cells : ClassId) (k_yard : ClassId) (v_this_atHand : Int32) (v_this_count : Int32) (v_this_thermal : Int32) (v_this_density : Int32) (v_this_outerHigh : Int64) (v_this_pasteLeft : Int64) (v_this_pasteLow : Int64) (v_this_nameLength : Int32) (v_this_isWritten : Int32) (v_line_length : Int32) (v_family_letterCount : Int32) (v_family_kind : Nat) (v_family_letters : Nat → Int32) (v_line_units : Nat → Int32) (v_cells : Nat → Int64) (v_yard : Nat → Int64) (post : Int32 → Int32 → Int32 → (Nat → Int32) → Prop) (hK : va_K (dC, dI) vwCl [(k_family_letters, .char), (k_line_units, .char), (k_cells, .long), (k_yard, .long)] s) : ∀ (n : Nat), ∀ (y1 : Int32) (u_this_nameLength : Int32) (u_this_isWritten : Int32) (u_line_length : Int32) (u_line_units : Nat → Int32) (H : Heap) (locs : List Loc), P_Fp_writeOnce_77 v_yard post n y1 u_this_nameLength u_this_isWritten u_line_length u_line_units → va_P (dC, dI) vwCl (w_Fp_writeOnce ad a_this a_cells a_family a_yard a_columns a_rows a_line a_line_units a_family_values a_family_letters k_family_letters k_line_units k_cells k_yard v_this_atHand v_this_count v_this_thermal v_this_density v_this_outerHigh v_this_pasteLeft v_this_pasteLow u_this_nameLength u_this_isWritten u_line_length v_family_letterCount v_family_kind v_family_letters u_line_units v_cells v_yard) H → va_D A (w_Fp_writeOnce ad a_this a_cells a_family a_yard a_columns a_rows a_line a_line_units a_family_values a_family_letters k_family_letters k_line_units k_cells k_yard v_this_atHand v_this_count v_this_thermal v_this_density v_this_outerHigh v_this_pasteLeft v_this_pasteLow u_this_nameLength u_this_isWritten u_line_length v_family_letterCount v_family_kind v_family_letters u_line_units v_cells v_yard) → va_S A s.heap H locs → ∀ ls : Array Slot, lv_has ls 2 [(0, .ref a_this), (1, .int y1)] → W p l e (headSpec wsFp_writeOnce { frames := 5, cells := 0, slots := 0, locals := 107 }).room s m args below meth c H locs 0 0 (MQ below (va_Qv (fun (u : Int32 × Int32 × Int32 × (Nat → Int32)) => post u.1 u.2.1 u.2.2.1 u.2.2.2) (zB (dC, dI) A (fun (u : Int32 × Int32 × Int32 × (Nat → Int32)) => (w_Fp_writeOnce ad a_this a_cells a_family a_yard a_columns a_rows a_line a_line_units a_family_values a_family_letters k_family_letters k_line_units k_cells k_yard v_this_atHand v_this_count v_this_thermal v_this_density v_this_outerHigh v_this_pasteLeft v_this_pasteLow u.1 u.2.1 u.2.2.1 v_family_letterCount v_family_kind v_family_letters u.2.2.2 v_cells v_yard))) A) args s 0 0 A) (F0 m 77 ls []) := by
  obtain ⟨hx, hb, hr, hml, hown, hts, hlocks, hA⟩ := id C0
  intro n
  induction n with
  | zero =>
    intro y1 u_this_nameLength u_this_isWritten u_line_length u_line_units H locs h
    exact False.elim h
  | succ n ih =>
    intro y1 u_this_nameLength u_this_isWritten u_line_length u_line_units H locs h hP hD hS ls hl
    rw [P_Fp_writeOnce_77] at h
    refine lv_iload_n hx hb dFp_writeOnce_77 rfl (lv_at hl 1 rfl) ?_
    refine lv_iconst (v := 4) hx hb dFp_writeOnce_78 (by decide) ?_
    refine lv_icmp_ge (tgt := 110) hx hb dFp_writeOnce_79 (by decide) ?_ ?_
    · intro c1
      replace h := h.1 c1
      refine lv_aload_n hx hb dFp_writeOnce_110 rfl (lv_at hl 0 rfl) ?_
      refine va_get (D := (dC, dI)) (ci := 6) (v := .ref a_line) (C := RFp) (T := TFp) (N := 15) hx hb hts inZ_Fp hown hK hP 0 rfl rfl 12 (by decide) (hts _ zw_297) (fun _ h9 => h9) rfl dFp_writeOnce_111 ?_
      refine lv_bipush (v := 10) hx hb dFp_writeOnce_114 (by decide) ?_
      refine zcall_v hP hD hS hA [1, 4] [0, 2, 3, 5, 6] (va_runVN (As := [.int 10]) (rest := []) ⟨hx, hb, hml, hown, hts⟩ (c_Li_addUnit l dC dI ad a_line a_line_units k_line_units _ 10 u_line_length u_line_units _ h) ⟨va_cnB 1 hts (zgood zc_Li_addUnit) rfl rfl rfl (hE.nw _ zn_880) (hts _ zw_106) (by decide +kernel) ⟨Nat.le_of_ble_eq_true rfl, Nat.le_of_ble_eq_true rfl⟩, (hts _ zw_882), (hts _ zw_52)⟩ (zpreV hE hK hP hD hS hA [1, 4] [1] (by rfl) (by rfl) (by decide) (ci := 7) (q0 := 1) rfl (by rfl)) rfl rfl hl.1 rfl (lv_room (Nat.le_of_ble_eq_true rfl)) dFp_writeOnce_116 ⟨Nat.le_of_ble_eq_true rfl, Nat.le_of_ble_eq_true rfl⟩) (by rfl) (by rfl) (by decide) (by decide) (fun u H locs h hP hD hS => ?_)
      obtain ⟨u2, u3⟩ := u
      try dsimp only at h
      have hP := hP.sub (ws' := (w_Fp_writeOnce ad a_this a_cells a_family a_yard a_columns a_rows a_line a_line_units a_family_values a_family_letters k_family_letters k_line_units k_cells k_yard v_this_atHand v_this_count v_this_thermal v_this_density v_this_outerHigh v_this_pasteLeft v_this_pasteLow u_this_nameLength u_this_isWritten u2 v_family_letterCount v_family_kind v_family_letters u3 v_cells v_yard)) [0, 5, 1, 2, 6, 3, 4] rfl
      have hD := hD.sub (ws' := (w_Fp_writeOnce ad a_this a_cells a_family a_yard a_columns a_rows a_line a_line_units a_family_values a_family_letters k_family_letters k_line_units k_cells k_yard v_this_atHand v_this_count v_this_thermal v_this_density v_this_outerHigh v_this_pasteLeft v_this_pasteLow u_this_nameLength u_this_isWritten u2 v_family_letterCount v_family_kind v_family_letters u3 v_cells v_yard)) [0, 5, 1, 2, 6, 3, 4] (by decide) rfl
      exact W.vret hx hb hr (fun t ht hW => ⟨⟨(u_this_nameLength, u_this_isWritten, u2, u3), rfl, h, by rw [ht]; exact hP, hD⟩, hS.F ht⟩) hS.2.2 dFp_writeOnce_119
    · intro c1
      replace h := h.2 c1
      refine lv_aload_n hx hb dFp_writeOnce_82 rfl (lv_at hl 0 rfl) ?_
      refine va_get (D := (dC, dI)) (ci := 6) (v := .ref a_line) (C := RFp) (T := TFp) (N := 15) hx hb hts inZ_Fp hown hK hP 0 rfl rfl 12 (by decide) (hts _ zw_297) (fun _ h9 => h9) rfl dFp_writeOnce_83 ?_
      refine lv_bipush (v := 32) hx hb dFp_writeOnce_86 (by decide) ?_
      refine zcall_v hP hD hS hA [1, 4] [0, 2, 3, 5, 6] (va_runVN (As := [.int 32]) (rest := []) ⟨hx, hb, hml, hown, hts⟩ (c_Li_addUnit l dC dI ad a_line a_line_units k_line_units _ 32 u_line_length u_line_units _ h) ⟨va_cnB 1 hts (zgood zc_Li_addUnit) rfl rfl rfl (hE.nw _ zn_880) (hts _ zw_106) (by decide +kernel) ⟨Nat.le_of_ble_eq_true rfl, Nat.le_of_ble_eq_true rfl⟩, (hts _ zw_882), (hts _ zw_52)⟩ (zpreV hE hK hP hD hS hA [1, 4] [1] (by rfl) (by rfl) (by decide) (ci := 7) (q0 := 1) rfl (by rfl)) rfl rfl hl.1 rfl (lv_room (Nat.le_of_ble_eq_true rfl)) dFp_writeOnce_88 ⟨Nat.le_of_ble_eq_true rfl, Nat.le_of_ble_eq_true rfl⟩) (by rfl) (by rfl) (by decide) (by decide) (fun u H locs h hP hD hS => ?_)
      obtain ⟨u4, u5⟩ := u
      try dsimp only at h
      have hP := hP.sub (ws' := (w_Fp_writeOnce ad a_this a_cells a_family a_yard a_columns a_rows a_line a_line_units a_family_values a_family_letters k_family_letters k_line_units k_cells k_yard v_this_atHand v_this_count v_this_thermal v_this_density v_this_outerHigh v_this_pasteLeft v_this_pasteLow u_this_nameLength u_this_isWritten u4 v_family_letterCount v_family_kind v_family_letters u5 v_cells v_yard)) [0, 5, 1, 2, 6, 3, 4] rfl
      have hD := hD.sub (ws' := (w_Fp_writeOnce ad a_this a_cells a_family a_yard a_columns a_rows a_line a_line_units a_family_values a_family_letters k_family_letters k_line_units k_cells k_yard v_this_atHand v_this_count v_this_thermal v_this_density v_this_outerHigh v_this_pasteLeft v_this_pasteLow u_this_nameLength u_this_isWritten u4 v_family_letterCount v_family_kind v_family_letters u5 v_cells v_yard)) [0, 5, 1, 2, 6, 3, 4] (by decide) rfl
      refine lv_aload_n hx hb dFp_writeOnce_91 rfl (lv_at hl 0 rfl) ?_
      refine va_get (D := (dC, dI)) (ci := 6) (v := .ref a_line) (C := RFp) (T := TFp) (N := 15) hx hb hts inZ_Fp hown hK hP 0 rfl rfl 12 (by decide) (hts _ zw_297) (fun _ h9 => h9) rfl dFp_writeOnce_92 ?_
      refine lv_aload_n hx hb dFp_writeOnce_95 rfl (lv_at hl 0 rfl) ?_
      refine va_get (D := (dC, dI)) (ci := 6) (v := .ref a_yard) (C := RFp) (T := TFp) (N := 15) hx hb hts inZ_Fp hown hK hP 0 rfl rfl 7 (by decide) (hts _ zw_291) (fun _ h9 => h9) rfl dFp_writeOnce_96 ?_
      refine lv_iload_n hx hb dFp_writeOnce_99 rfl (lv_at hl 1 rfl) ?_
      obtain ⟨hn6, h⟩ := h
      refine va_lald hx hb hK hP 6 3 rfl rfl hn6 dFp_writeOnce_100 ?_
      refine zcall_v hP hD hS hA [1, 4] [0, 2, 3, 5, 6] (va_runVN (As := [.long (v_yard y1.toNatClampNeg)]) (rest := []) ⟨hx, hb, hml, hown, hts⟩ (c_Li_addNumber l dC dI ad a_line a_line_units k_line_units _ (v_yard y1.toNatClampNeg) u4 u5 _ h) ⟨va_cnB 1 hts (zgood zc_Li_addNumber) rfl rfl rfl (hE.nw _ zn_884) (hts _ zw_106) (by decide +kernel) ⟨Nat.le_of_ble_eq_true rfl, Nat.le_of_ble_eq_true rfl⟩, (hts _ zw_886), (hts _ zw_53)⟩ (zpreV hE hK hP hD hS hA [1, 4] [1] (by rfl) (by rfl) (by decide) (ci := 7) (q0 := 1) rfl (by rfl)) rfl rfl hl.1 rfl (lv_room (Nat.le_of_ble_eq_true rfl)) dFp_writeOnce_101 ⟨Nat.le_of_ble_eq_true rfl, Nat.le_of_ble_eq_true rfl⟩) (by rfl) (by rfl) (by decide) (by decide) (fun u H locs h hP hD hS => ?_)
      obtain ⟨u7, u8⟩ := u
      try dsimp only at h
      have hP := hP.sub (ws' := (w_Fp_writeOnce ad a_this a_cells a_family a_yard a_columns a_rows a_line a_line_units a_family_values a_family_letters k_family_letters k_line_units k_cells k_yard v_this_atHand v_this_count v_this_thermal v_this_density v_this_outerHigh v_this_pasteLeft v_this_pasteLow u_this_nameLength u_this_isWritten u7 v_family_letterCount v_family_kind v_family_letters u8 v_cells v_yard)) [0, 5, 1, 2, 6, 3, 4] rfl
      have hD := hD.sub (ws' := (w_Fp_writeOnce ad a_this a_cells a_family a_yard a_columns a_rows a_line a_line_units a_family_values a_family_letters k_family_letters k_line_units k_cells k_yard v_this_atHand v_this_count v_this_thermal v_this_density v_this_outerHigh v_this_pasteLeft v_this_pasteLow u_this_nameLength u_this_isWritten u7 v_family_letterCount v_family_kind v_family_letters u8 v_cells v_yard)) [0, 5, 1, 2, 6, 3, 4] (by decide) rfl
      obtain ⟨x9, ex9⟩ : ∃ y : Int32, y = y1 + 1 := ⟨_, rfl⟩
      replace h := h x9 ex9
      refine lv_iinc (v := x9) (lv' := [(1, .int x9), (0, .ref a_this)]) hx hb dFp_writeOnce_104 hl (k := 1) rfl (by rw [ex9]; rfl) (by decide) rfl (fun ls hl => ?_)
      refine lv_goto (tgt := 77) hx hb dFp_writeOnce_107 (by decide) ?_
      exact ih x9 u_this_nameLength u_this_isWritten u7 u8 _ _ h hP hD hS ls (lv_sub hl [1, 0] rfl)
def P_Fp_writeOnce_47 (v_this_count : Int32) (v_cells : Nat → Int64) (v_yard : Nat → Int64) (post : Int32 → Int32 → Int32 → (Nat → Int32) → Prop) : Nat → Int32 → Int32 → Int32 → Int32 → (Nat → Int32) → Prop
  | 0, _, _, _, _, _ => False
  | n + 1, y1, u_this_nameLength, u_this_isWritten, u_line_length, u_line_units => ((v_this_count ≤ y1 → P_Li_addWord 8 u_line_length u_line_units (fun (u2 : Int32) (u3 : Nat → Int32) => ∃ n4, P_Fp_writeOnce_77 v_yard post n4 0 u_this_nameLength u_this_isWritten u2 u3)) ∧ (¬ v_this_count ≤ y1 → P_Fp_writePad y1 u_line_length u_line_units v_cells (fun (u5 : Int32) (u6 : Nat → Int32) => ∀ x7 : Int32, x7 = y1 + 1 → P_Fp_writeOnce_47 v_this_count v_cells v_yard post n x7 u_this_nameLength u_this_isWritten u5 u6)))
set_option maxHeartbeats 4000000 in
set_option maxRecDepth 100000 in
theorem w_Fp_writeOnce_47 (l : Launch) {p : Program} {e : Env} {s : State} {m : MethodId} {args : Array Value} {below : List Frame} {meth : Method} {c : Code} {dC : Nat → ClassId} {dI : Nat → Nat → Nat} {ad : Nat → Nat → Nat} {A : Nat → Prop} (C0 : zC p s m args meth c cFp_writeOnce 2 RFp zT none A) (hE : zE ad A s) (a_this : Nat) (a_cells : Nat) (a_family : Nat) (a_yard : Nat) (a_columns : Nat) (a_rows : Nat) (a_line : Nat) (a_line_units : Nat) (a_family_values : Nat) (a_family_letters : Nat) (k_family_letters : ClassId) (k_line_units : ClassId) (k_cells : ClassId) (k_yard : ClassId) (v_this_atHand : Int32) (v_this_count : Int32) (v_this_thermal : Int32) (v_this_density : Int32) (v_this_outerHigh : Int64) (v_this_pasteLeft : Int64) (v_this_pasteLow : Int64) (v_this_nameLength : Int32) (v_this_isWritten : Int32) (v_line_length : Int32) (v_family_letterCount : Int32) (v_family_kind : Nat) (v_family_letters : Nat → Int32) (v_line_units : Nat → Int32) (v_cells : Nat → Int64) (v_yard : Nat → Int64) (post : Int32 → Int32 → Int32 → (Nat → Int32) → Prop) (hK : va_K (dC, dI) vwCl [(k_family_letters, .char), (k_line_units, .char), (k_cells, .long), (k_yard, .long)] s) : ∀ (n : Nat), ∀ (y1 : Int32) (u_this_nameLength : Int32) (u_this_isWritten : Int32) (u_line_length : Int32) (u_line_units : Nat → Int32) (H : Heap) (locs : List Loc), P_Fp_writeOnce_47 v_this_count v_cells v_yard post n y1 u_this_nameLength u_this_isWritten u_line_length u_line_units → va_P (dC, dI) vwCl (w_Fp_writeOnce ad a_this a_cells a_family a_yard a_columns a_rows a_line a_line_units a_family_values a_family_letters k_family_letters k_line_units k_cells k_yard v_this_atHand v_this_count v_this_thermal v_this_density v_this_outerHigh v_this_pasteLeft v_this_pasteLow u_this_nameLength u_this_isWritten u_line_length v_family_letterCount v_family_kind v_family_letters u_line_units v_cells v_yard) H → va_D A (w_Fp_writeOnce ad a_this a_cells a_family a_yard a_columns a_rows a_line a_line_units a_family_values a_family_letters k_family_letters k_line_units k_cells k_yard v_this_atHand v_this_count v_this_thermal v_this_density v_this_outerHigh v_this_pasteLeft v_this_pasteLow u_this_nameLength u_this_isWritten u_line_length v_family_letterCount v_family_kind v_family_letters u_line_units v_cells v_yard) → va_S A s.heap H locs → ∀ ls : Array Slot, lv_has ls 2 [(0, .ref a_this), (1, .int y1)] → W p l e (headSpec wsFp_writeOnce { frames := 5, cells := 0, slots := 0, locals := 107 }).room s m args below meth c H locs 0 0 (MQ below (va_Qv (fun (u : Int32 × Int32 × Int32 × (Nat → Int32)) => post u.1 u.2.1 u.2.2.1 u.2.2.2) (zB (dC, dI) A (fun (u : Int32 × Int32 × Int32 × (Nat → Int32)) => (w_Fp_writeOnce ad a_this a_cells a_family a_yard a_columns a_rows a_line a_line_units a_family_values a_family_letters k_family_letters k_line_units k_cells k_yard v_this_atHand v_this_count v_this_thermal v_this_density v_this_outerHigh v_this_pasteLeft v_this_pasteLow u.1 u.2.1 u.2.2.1 v_family_letterCount v_family_kind v_family_letters u.2.2.2 v_cells v_yard))) A) args s 0 0 A) (F0 m 47 ls []) := by
  obtain ⟨hx, hb, hr, hml, hown, hts, hlocks, hA⟩ := id C0
  intro n
  induction n with
  | zero =>
    intro y1 u_this_nameLength u_this_isWritten u_line_length u_line_units H locs h
    exact False.elim h
  | succ n ih =>
    intro y1 u_this_nameLength u_this_isWritten u_line_length u_line_units H locs h hP hD hS ls hl
    rw [P_Fp_writeOnce_47] at h
    refine lv_iload_n hx hb dFp_writeOnce_47 rfl (lv_at hl 1 rfl) ?_
    refine lv_aload_n hx hb dFp_writeOnce_48 rfl (lv_at hl 0 rfl) ?_
    refine va_get (D := (dC, dI)) (ci := 6) (v := .int v_this_count) (C := RFp) (T := TFp) (N := 15) hx hb hts inZ_Fp hown hK hP 0 rfl rfl 2 (by decide) (hts _ zw_282) (fun _ h9 => h9) rfl dFp_writeOnce_49 ?_
    refine lv_icmp_ge (tgt := 66) hx hb dFp_writeOnce_52 (by decide) ?_ ?_
    · intro c1
      replace h := h.1 c1
      refine lv_aload_n hx hb dFp_writeOnce_66 rfl (lv_at hl 0 rfl) ?_
      refine va_get (D := (dC, dI)) (ci := 6) (v := .ref a_line) (C := RFp) (T := TFp) (N := 15) hx hb hts inZ_Fp hown hK hP 0 rfl rfl 12 (by decide) (hts _ zw_297) (fun _ h9 => h9) rfl dFp_writeOnce_67 ?_
      refine va_ldcS (own := RFp) (index := 171) hx hb hown (hE.ldc ("FootprintRules$Footprint", 171, "court", 8) (by decide)) dFp_writeOnce_70 ?_
      refine zcall_v hP hD hS hA [1, 4] [0, 2, 3, 5, 6] (va_runVN (As := [.ref (ad 2 8)]) (rest := []) ⟨hx, hb, hml, hown, hts⟩ (c_Li_addWord l dC dI ad a_line a_line_units k_line_units _ 8 u_line_length u_line_units _ h) ⟨va_cnB 1 hts (zgood zc_Li_addWord) rfl rfl rfl (hE.nw _ zn_900) (hts _ zw_106) (by decide +kernel) ⟨Nat.le_of_ble_eq_true rfl, Nat.le_of_ble_eq_true rfl⟩, (hts _ zw_902), (hts _ zw_55)⟩ (zpreV hE hK hP hD hS hA [1, 4] [1] (by rfl) (by rfl) (by decide) (ci := 7) (q0 := 1) rfl (by rfl)) rfl rfl hl.1 rfl (lv_room (Nat.le_of_ble_eq_true rfl)) dFp_writeOnce_72 ⟨Nat.le_of_ble_eq_true rfl, Nat.le_of_ble_eq_true rfl⟩) (by rfl) (by rfl) (by decide) (by decide) (fun u H locs h hP hD hS => ?_)
      obtain ⟨u2, u3⟩ := u
      try dsimp only at h
      have hP := hP.sub (ws' := (w_Fp_writeOnce ad a_this a_cells a_family a_yard a_columns a_rows a_line a_line_units a_family_values a_family_letters k_family_letters k_line_units k_cells k_yard v_this_atHand v_this_count v_this_thermal v_this_density v_this_outerHigh v_this_pasteLeft v_this_pasteLow u_this_nameLength u_this_isWritten u2 v_family_letterCount v_family_kind v_family_letters u3 v_cells v_yard)) [0, 5, 1, 2, 6, 3, 4] rfl
      have hD := hD.sub (ws' := (w_Fp_writeOnce ad a_this a_cells a_family a_yard a_columns a_rows a_line a_line_units a_family_values a_family_letters k_family_letters k_line_units k_cells k_yard v_this_atHand v_this_count v_this_thermal v_this_density v_this_outerHigh v_this_pasteLeft v_this_pasteLow u_this_nameLength u_this_isWritten u2 v_family_letterCount v_family_kind v_family_letters u3 v_cells v_yard)) [0, 5, 1, 2, 6, 3, 4] (by decide) rfl
      refine lv_iconst (v := 0) hx hb dFp_writeOnce_75 (by decide) ?_
      refine lv_istore_n (lv' := [(1, .int 0), (0, .ref a_this)]) hx hb dFp_writeOnce_76 rfl hl (by decide) rfl (fun ls hl => ?_)
      obtain ⟨n4, h⟩ := h
      exact w_Fp_writeOnce_77 l C0 hE a_this a_cells a_family a_yard a_columns a_rows a_line a_line_units a_family_values a_family_letters k_family_letters k_line_units k_cells k_yard v_this_atHand v_this_count v_this_thermal v_this_density v_this_outerHigh v_this_pasteLeft v_this_pasteLow v_this_nameLength v_this_isWritten v_line_length v_family_letterCount v_family_kind v_family_letters v_line_units v_cells v_yard post hK n4 0 u_this_nameLength u_this_isWritten u2 u3 _ _ h hP hD hS ls (lv_sub hl [1, 0] rfl)
    · intro c1
      replace h := h.2 c1
      refine lv_aload_n hx hb dFp_writeOnce_55 rfl (lv_at hl 0 rfl) ?_
      refine lv_iload_n hx hb dFp_writeOnce_56 rfl (lv_at hl 1 rfl) ?_
      refine zcall_v hP hD hS hA [0, 1, 4, 5] [2, 3, 6] (va_runV (As := [.int y1]) (rest := []) ⟨hx, hb, hml, hown, hts⟩ (c_Fp_writePad l dC dI ad a_this a_cells a_family a_yard a_columns a_rows a_line a_line_units k_line_units k_cells _ y1 v_this_atHand v_this_count v_this_thermal v_this_density v_this_outerHigh v_this_pasteLeft v_this_pasteLow u_this_nameLength u_this_isWritten u_line_length u_line_units v_cells _ h) ⟨callB_of 1 hts (zgood zc_Fp_writePad) rfl rfl rfl (hts _ zw_101) (hts _ zw_895) (by decide +kernel) ⟨Nat.le_of_ble_eq_true rfl, Nat.le_of_ble_eq_true rfl⟩, (hts _ zw_897), (hts _ zw_54)⟩ (zpreV hE hK hP hD hS hA [0, 1, 4, 5] [1, 2] (by rfl) (by rfl) (by decide) (ci := 6) (q0 := 0) rfl (by rfl)) rfl rfl hl.1 rfl (lv_room (Nat.le_of_ble_eq_true rfl)) dFp_writeOnce_57 ⟨Nat.le_of_ble_eq_true rfl, Nat.le_of_ble_eq_true rfl⟩) (by rfl) (by rfl) (by decide) (by decide) (fun u H locs h hP hD hS => ?_)
      obtain ⟨u5, u6⟩ := u
      try dsimp only at h
      have hP := hP.sub (ws' := (w_Fp_writeOnce ad a_this a_cells a_family a_yard a_columns a_rows a_line a_line_units a_family_values a_family_letters k_family_letters k_line_units k_cells k_yard v_this_atHand v_this_count v_this_thermal v_this_density v_this_outerHigh v_this_pasteLeft v_this_pasteLow u_this_nameLength u_this_isWritten u5 v_family_letterCount v_family_kind v_family_letters u6 v_cells v_yard)) [3, 4, 0, 1, 5, 6, 2] rfl
      have hD := hD.sub (ws' := (w_Fp_writeOnce ad a_this a_cells a_family a_yard a_columns a_rows a_line a_line_units a_family_values a_family_letters k_family_letters k_line_units k_cells k_yard v_this_atHand v_this_count v_this_thermal v_this_density v_this_outerHigh v_this_pasteLeft v_this_pasteLow u_this_nameLength u_this_isWritten u5 v_family_letterCount v_family_kind v_family_letters u6 v_cells v_yard)) [3, 4, 0, 1, 5, 6, 2] (by decide) rfl
      obtain ⟨x7, ex7⟩ : ∃ y : Int32, y = y1 + 1 := ⟨_, rfl⟩
      replace h := h x7 ex7
      refine lv_iinc (v := x7) (lv' := [(1, .int x7), (0, .ref a_this)]) hx hb dFp_writeOnce_60 hl (k := 1) rfl (by rw [ex7]; rfl) (by decide) rfl (fun ls hl => ?_)
      refine lv_goto (tgt := 47) hx hb dFp_writeOnce_63 (by decide) ?_
      exact ih x7 u_this_nameLength u_this_isWritten u5 u6 _ _ h hP hD hS ls (lv_sub hl [1, 0] rfl)
def P_Fp_writeOnce (v_this_count : Int32) (v_this_density : Int32) (v_this_outerHigh : Int64) (v_this_nameLength : Int32) (v_this_isWritten : Int32) (v_line_length : Int32) (v_family_letterCount : Int32) (v_family_letters : Nat → Int32) (v_line_units : Nat → Int32) (v_cells : Nat → Int64) (v_yard : Nat → Int64) (post : Int32 → Int32 → Int32 → (Nat → Int32) → Prop) : Prop := ((v_this_isWritten = 0 → P_Fp_writeName v_this_count v_this_density v_this_outerHigh v_family_letterCount v_family_letters 0 v_line_units (fun (u2 : Int32) (u3 : Nat → Int32) => P_Li_addUnit 10 u2 u3 (fun (u4 : Int32) (u5 : Nat → Int32) => ∃ n6, P_Fp_writeOnce_47 v_this_count v_cells v_yard post n6 0 u2 1 u4 u5))) ∧ (¬ v_this_isWritten = 0 → post v_this_nameLength v_this_isWritten v_line_length v_line_units))
set_option maxHeartbeats 4000000 in
set_option maxRecDepth 100000 in
theorem c_Fp_writeOnce (l : Launch) (dC : Nat → ClassId) (dI : Nat → Nat → Nat) (ad : Nat → Nat → Nat) (a_this : Nat) (a_cells : Nat) (a_family : Nat) (a_yard : Nat) (a_columns : Nat) (a_rows : Nat) (a_line : Nat) (a_line_units : Nat) (a_family_values : Nat) (a_family_letters : Nat) (k_family_letters : ClassId) (k_line_units : ClassId) (k_cells : ClassId) (k_yard : ClassId) (sz : Nat) (v_this_atHand : Int32) (v_this_count : Int32) (v_this_thermal : Int32) (v_this_density : Int32) (v_this_outerHigh : Int64) (v_this_pasteLeft : Int64) (v_this_pasteLow : Int64) (v_this_nameLength : Int32) (v_this_isWritten : Int32) (v_line_length : Int32) (v_family_letterCount : Int32) (v_family_kind : Nat) (v_family_letters : Nat → Int32) (v_line_units : Nat → Int32) (v_cells : Nat → Int64) (v_yard : Nat → Int64) (post : Int32 → Int32 → Int32 → (Nat → Int32) → Prop) (h : P_Fp_writeOnce v_this_count v_this_density v_this_outerHigh v_this_nameLength v_this_isWritten v_line_length v_family_letterCount v_family_letters v_line_units v_cells v_yard post) : zMv l yFp_writeOnce wsFp_writeOnce { frames := 5, cells := 0, slots := 0, locals := 107 } (dC, dI) ad [.ref a_this] (w_Fp_writeOnce ad a_this a_cells a_family a_yard a_columns a_rows a_line a_line_units a_family_values a_family_letters k_family_letters k_line_units k_cells k_yard v_this_atHand v_this_count v_this_thermal v_this_density v_this_outerHigh v_this_pasteLeft v_this_pasteLow v_this_nameLength v_this_isWritten v_line_length v_family_letterCount v_family_kind v_family_letters v_line_units v_cells v_yard) [(k_family_letters, .char), (k_line_units, .char), (k_cells, .long), (k_yard, .long)] sz (fun (u : Int32 × Int32 × Int32 × (Nat → Int32)) => post u.1 u.2.1 u.2.2.1 u.2.2.2) (fun (u : Int32 × Int32 × Int32 × (Nat → Int32)) => (w_Fp_writeOnce ad a_this a_cells a_family a_yard a_columns a_rows a_line a_line_units a_family_values a_family_letters k_family_letters k_line_units k_cells k_yard v_this_atHand v_this_count v_this_thermal v_this_density v_this_outerHigh v_this_pasteLeft v_this_pasteLow u.1 u.2.1 u.2.2.1 v_family_letterCount v_family_kind v_family_letters u.2.2.2 v_cells v_yard)) 0 0 := by
  refine Met.ofW (cc := cFp_writeOnce) (maxL := 2) (ret := none) (by decide +kernel) rfl ?_
  intro p e s m args below meth c s₁ B hml hv
  obtain ⟨rfl, hsz, hP, hK, hD0, hE⟩ := hv
  have hx := B.exec
  have hb := B.bytes
  have hr := B.returns
  have hts0 := atoms_spec (ws := wsFp_writeOnce) B.pre
  have hts := fun w h => hts0 w (List.mem_cons_of_mem _ h)
  have hown : s.vm.findClass RFp = some m.cls := findClass_of_methodNamed B.named
  have hlocks := B.notSynchronized
  subst hsz
  have hD := hD0.self (sz := s.heap.size)
  generalize hAe : va_A (w_Fp_writeOnce ad a_this a_cells a_family a_yard a_columns a_rows a_line a_line_units a_family_values a_family_letters k_family_letters k_line_units k_cells k_yard v_this_atHand v_this_count v_this_thermal v_this_density v_this_outerHigh v_this_pasteLeft v_this_pasteLow v_this_nameLength v_this_isWritten v_line_length v_family_letterCount v_family_kind v_family_letters v_line_units v_cells v_yard) s.heap.size = A at hD hE ⊢
  have hA : ∀ q : Nat, s.heap.size ≤ q → A q := fun q h => by rw [← hAe]; exact Or.inr h
  have C0 := zC.mk hx hb hr hml hown hts hlocks hA
  have hS : va_S A s.heap s.heap [] := va_S.rf
  have hl := lv_entry ([.ref a_this]) (n := 2) (Nat.le_of_ble_eq_true rfl)
  rw [lg_entry_eq]
  generalize (lg_sl ([.ref a_this]) ++ List.replicate (2 - (lg_sl ([.ref a_this])).length) Slot.unset).toArray = ls at hl ⊢
  have hl : lv_has ls 2 [(0, .ref a_this)] := hl
  unfold P_Fp_writeOnce at h
  refine lv_aload_n hx hb dFp_writeOnce_0 rfl (lv_at hl 0 rfl) ?_
  refine va_get (D := (dC, dI)) (ci := 6) (v := .int v_this_isWritten) (C := RFp) (T := TFp) (N := 15) hx hb hts inZ_Fp hown hK hP 0 rfl rfl 14 (by decide) (hts _ zw_299) (fun _ h9 => h9) rfl dFp_writeOnce_1 ?_
  refine lv_if_eq (tgt := 8) hx hb dFp_writeOnce_4 (by decide) ?_ ?_
  · intro c1
    replace h := h.1 c1
    refine lv_aload_n hx hb dFp_writeOnce_8 rfl (lv_at hl 0 rfl) ?_
    refine lv_iconst (v := 1) hx hb dFp_writeOnce_9 (by decide) ?_
    refine va_put (D := (dC, dI)) (ci := 6) (v := .int 1) (ty := .boolean) (C := RFp) (T := TFp) (N := 15) hx hb hts inZ_Fp tyFp tyFp_ok nmFp hown hK hP hD hS 0 rfl rfl 14 (by decide) (hts _ zw_299) (fun _ h9 => h9) rfl (by decide +kernel) rfl rfl (Nat.le_of_ble_eq_true rfl) dFp_writeOnce_10 (fun H locs hP hD hS => ?_)
    have hP : va_P (dC, dI) vwCl (w_Fp_writeOnce ad a_this a_cells a_family a_yard a_columns a_rows a_line a_line_units a_family_values a_family_letters k_family_letters k_line_units k_cells k_yard v_this_atHand v_this_count v_this_thermal v_this_density v_this_outerHigh v_this_pasteLeft v_this_pasteLow v_this_nameLength 1 v_line_length v_family_letterCount v_family_kind v_family_letters v_line_units v_cells v_yard) H := hP
    have hD : va_D A (w_Fp_writeOnce ad a_this a_cells a_family a_yard a_columns a_rows a_line a_line_units a_family_values a_family_letters k_family_letters k_line_units k_cells k_yard v_this_atHand v_this_count v_this_thermal v_this_density v_this_outerHigh v_this_pasteLeft v_this_pasteLow v_this_nameLength 1 v_line_length v_family_letterCount v_family_kind v_family_letters v_line_units v_cells v_yard) := hD
    refine lv_aload_n hx hb dFp_writeOnce_13 rfl (lv_at hl 0 rfl) ?_
    refine va_get (D := (dC, dI)) (ci := 6) (v := .ref a_line) (C := RFp) (T := TFp) (N := 15) hx hb hts inZ_Fp hown hK hP 0 rfl rfl 12 (by decide) (hts _ zw_297) (fun _ h9 => h9) rfl dFp_writeOnce_14 ?_
    refine lv_iconst (v := 0) hx hb dFp_writeOnce_17 (by decide) ?_
    refine va_putN (D := (dC, dI)) (ci := 7) (v := .int 0) (ty := .int) (C := RLi) (T := TLi) (N := 2) hx hb hts inZ_Li tyLi tyLi_ok nmLi hown hK hP hD hS 1 rfl rfl 1 (by decide) ((hE.nw _ zn_272).use rfl) (fun _ h9 => h9) rfl (by decide +kernel) rfl rfl (Nat.le_of_ble_eq_true rfl) dFp_writeOnce_18 (fun H locs hP hD hS => ?_)
    have hP : va_P (dC, dI) vwCl (w_Fp_writeOnce ad a_this a_cells a_family a_yard a_columns a_rows a_line a_line_units a_family_values a_family_letters k_family_letters k_line_units k_cells k_yard v_this_atHand v_this_count v_this_thermal v_this_density v_this_outerHigh v_this_pasteLeft v_this_pasteLow v_this_nameLength 1 0 v_family_letterCount v_family_kind v_family_letters v_line_units v_cells v_yard) H := hP
    have hD : va_D A (w_Fp_writeOnce ad a_this a_cells a_family a_yard a_columns a_rows a_line a_line_units a_family_values a_family_letters k_family_letters k_line_units k_cells k_yard v_this_atHand v_this_count v_this_thermal v_this_density v_this_outerHigh v_this_pasteLeft v_this_pasteLow v_this_nameLength 1 0 v_family_letterCount v_family_kind v_family_letters v_line_units v_cells v_yard) := hD
    refine lv_aload_n hx hb dFp_writeOnce_21 rfl (lv_at hl 0 rfl) ?_
    refine zcall_v hP hD hS hA [0, 2, 3, 1, 4] [5, 6] (va_runV (As := []) (rest := []) ⟨hx, hb, hml, hown, hts⟩ (c_Fp_writeName l dC dI ad a_this a_cells a_family a_yard a_columns a_rows a_line a_family_values a_family_letters a_line_units k_family_letters k_line_units _ v_this_atHand v_this_count v_this_thermal v_this_density v_this_outerHigh v_this_pasteLeft v_this_pasteLow v_this_nameLength 1 v_family_letterCount v_family_kind v_family_letters 0 v_line_units _ h) ⟨callB_of 0 hts (zgood zc_Fp_writeName) rfl rfl rfl (hts _ zw_101) (hts _ zw_876) (by decide +kernel) ⟨Nat.le_of_ble_eq_true rfl, Nat.le_of_ble_eq_true rfl⟩, (hts _ zw_878), (hts _ zw_51)⟩ (zpreV hE hK hP hD hS hA [0, 2, 3, 1, 4] [0, 1] (by rfl) (by rfl) (by decide) (ci := 6) (q0 := 0) rfl (by rfl)) rfl rfl hl.1 rfl (lv_room (Nat.le_of_ble_eq_true rfl)) dFp_writeOnce_22 ⟨Nat.le_of_ble_eq_true rfl, Nat.le_of_ble_eq_true rfl⟩) (by rfl) (by rfl) (by decide) (by decide) (fun u H locs h hP hD hS => ?_)
    obtain ⟨u2, u3⟩ := u
    try dsimp only at h
    have hP := hP.sub (ws' := (w_Fp_writeOnce ad a_this a_cells a_family a_yard a_columns a_rows a_line a_line_units a_family_values a_family_letters k_family_letters k_line_units k_cells k_yard v_this_atHand v_this_count v_this_thermal v_this_density v_this_outerHigh v_this_pasteLeft v_this_pasteLow v_this_nameLength 1 u2 v_family_letterCount v_family_kind v_family_letters u3 v_cells v_yard)) [2, 5, 3, 4, 6, 0, 1] rfl
    have hD := hD.sub (ws' := (w_Fp_writeOnce ad a_this a_cells a_family a_yard a_columns a_rows a_line a_line_units a_family_values a_family_letters k_family_letters k_line_units k_cells k_yard v_this_atHand v_this_count v_this_thermal v_this_density v_this_outerHigh v_this_pasteLeft v_this_pasteLow v_this_nameLength 1 u2 v_family_letterCount v_family_kind v_family_letters u3 v_cells v_yard)) [2, 5, 3, 4, 6, 0, 1] (by decide) rfl
    refine lv_aload_n hx hb dFp_writeOnce_25 rfl (lv_at hl 0 rfl) ?_
    refine lv_aload_n hx hb dFp_writeOnce_26 rfl (lv_at hl 0 rfl) ?_
    refine va_get (D := (dC, dI)) (ci := 6) (v := .ref a_line) (C := RFp) (T := TFp) (N := 15) hx hb hts inZ_Fp hown hK hP 0 rfl rfl 12 (by decide) (hts _ zw_297) (fun _ h9 => h9) rfl dFp_writeOnce_27 ?_
    refine va_getN (D := (dC, dI)) (ci := 7) (v := .int u2) (C := RLi) (T := TLi) (N := 2) hx hb hts inZ_Li hown hK hP 1 rfl rfl 1 (by decide) ((hE.nw _ zn_272).use rfl) (fun _ h9 => h9) rfl dFp_writeOnce_30 ?_
    refine va_put (D := (dC, dI)) (ci := 6) (v := .int u2) (ty := .int) (C := RFp) (T := TFp) (N := 15) hx hb hts inZ_Fp tyFp tyFp_ok nmFp hown hK hP hD hS 0 rfl rfl 13 (by decide) (hts _ zw_298) (fun _ h9 => h9) rfl (by decide +kernel) rfl rfl (Nat.le_of_ble_eq_true rfl) dFp_writeOnce_33 (fun H locs hP hD hS => ?_)
    have hP : va_P (dC, dI) vwCl (w_Fp_writeOnce ad a_this a_cells a_family a_yard a_columns a_rows a_line a_line_units a_family_values a_family_letters k_family_letters k_line_units k_cells k_yard v_this_atHand v_this_count v_this_thermal v_this_density v_this_outerHigh v_this_pasteLeft v_this_pasteLow u2 1 u2 v_family_letterCount v_family_kind v_family_letters u3 v_cells v_yard) H := hP
    have hD : va_D A (w_Fp_writeOnce ad a_this a_cells a_family a_yard a_columns a_rows a_line a_line_units a_family_values a_family_letters k_family_letters k_line_units k_cells k_yard v_this_atHand v_this_count v_this_thermal v_this_density v_this_outerHigh v_this_pasteLeft v_this_pasteLow u2 1 u2 v_family_letterCount v_family_kind v_family_letters u3 v_cells v_yard) := hD
    refine lv_aload_n hx hb dFp_writeOnce_36 rfl (lv_at hl 0 rfl) ?_
    refine va_get (D := (dC, dI)) (ci := 6) (v := .ref a_line) (C := RFp) (T := TFp) (N := 15) hx hb hts inZ_Fp hown hK hP 0 rfl rfl 12 (by decide) (hts _ zw_297) (fun _ h9 => h9) rfl dFp_writeOnce_37 ?_
    refine lv_bipush (v := 10) hx hb dFp_writeOnce_40 (by decide) ?_
    refine zcall_v hP hD hS hA [1, 4] [0, 2, 3, 5, 6] (va_runVN (As := [.int 10]) (rest := []) ⟨hx, hb, hml, hown, hts⟩ (c_Li_addUnit l dC dI ad a_line a_line_units k_line_units _ 10 u2 u3 _ h) ⟨va_cnB 1 hts (zgood zc_Li_addUnit) rfl rfl rfl (hE.nw _ zn_880) (hts _ zw_106) (by decide +kernel) ⟨Nat.le_of_ble_eq_true rfl, Nat.le_of_ble_eq_true rfl⟩, (hts _ zw_882), (hts _ zw_52)⟩ (zpreV hE hK hP hD hS hA [1, 4] [1] (by rfl) (by rfl) (by decide) (ci := 7) (q0 := 1) rfl (by rfl)) rfl rfl hl.1 rfl (lv_room (Nat.le_of_ble_eq_true rfl)) dFp_writeOnce_42 ⟨Nat.le_of_ble_eq_true rfl, Nat.le_of_ble_eq_true rfl⟩) (by rfl) (by rfl) (by decide) (by decide) (fun u H locs h hP hD hS => ?_)
    obtain ⟨u4, u5⟩ := u
    try dsimp only at h
    have hP := hP.sub (ws' := (w_Fp_writeOnce ad a_this a_cells a_family a_yard a_columns a_rows a_line a_line_units a_family_values a_family_letters k_family_letters k_line_units k_cells k_yard v_this_atHand v_this_count v_this_thermal v_this_density v_this_outerHigh v_this_pasteLeft v_this_pasteLow u2 1 u4 v_family_letterCount v_family_kind v_family_letters u5 v_cells v_yard)) [0, 5, 1, 2, 6, 3, 4] rfl
    have hD := hD.sub (ws' := (w_Fp_writeOnce ad a_this a_cells a_family a_yard a_columns a_rows a_line a_line_units a_family_values a_family_letters k_family_letters k_line_units k_cells k_yard v_this_atHand v_this_count v_this_thermal v_this_density v_this_outerHigh v_this_pasteLeft v_this_pasteLow u2 1 u4 v_family_letterCount v_family_kind v_family_letters u5 v_cells v_yard)) [0, 5, 1, 2, 6, 3, 4] (by decide) rfl
    refine lv_iconst (v := 0) hx hb dFp_writeOnce_45 (by decide) ?_
    refine lv_istore_n (lv' := [(1, .int 0), (0, .ref a_this)]) hx hb dFp_writeOnce_46 rfl hl (by decide) rfl (fun ls hl => ?_)
    obtain ⟨n6, h⟩ := h
    exact w_Fp_writeOnce_47 l C0 hE a_this a_cells a_family a_yard a_columns a_rows a_line a_line_units a_family_values a_family_letters k_family_letters k_line_units k_cells k_yard v_this_atHand v_this_count v_this_thermal v_this_density v_this_outerHigh v_this_pasteLeft v_this_pasteLow v_this_nameLength v_this_isWritten v_line_length v_family_letterCount v_family_kind v_family_letters v_line_units v_cells v_yard post hK n6 0 u2 1 u4 u5 _ _ h hP hD hS ls (lv_sub hl [1, 0] rfl)
  · intro c1
    replace h := h.2 c1
    exact W.vret hx hb hr (fun t ht hW => ⟨⟨(v_this_nameLength, v_this_isWritten, v_line_length, v_line_units), rfl, h, by rw [ht]; exact hP, hD⟩, hS.F ht⟩) hS.2.2 dFp_writeOnce_7
abbrev yFp_nameUnit : MethodName := ⟨"FootprintRules$Footprint", "nameUnit", "(I)I"⟩
abbrev cFp_nameUnit : ByteArray := prog_5_method_11_code
abbrev wsFp_nameUnit : List Cond := .code yFp_nameUnit cFp_nameUnit 2 (some .int) :: zT
set_option maxRecDepth 100000 in
theorem zc_Fp_nameUnit : Cond.code yFp_nameUnit cFp_nameUnit 2 (some .int) ∈ zT := zm 871 (by rfl) (by rfl)
theorem dFp_nameUnit_0 : decode cFp_nameUnit 0 = .ok (.aload_n 0, 1) := by decide +kernel
theorem dFp_nameUnit_1 : decode cFp_nameUnit 1 = .ok (.invokevirtual 148, 3) := by decide +kernel
theorem dFp_nameUnit_4 : decode cFp_nameUnit 4 = .ok (.iload_n 1, 1) := by decide +kernel
theorem dFp_nameUnit_5 : decode cFp_nameUnit 5 = .ok (.aload_n 0, 1) := by decide +kernel
theorem dFp_nameUnit_6 : decode cFp_nameUnit 6 = .ok (.getfield 151, 3) := by decide +kernel
theorem dFp_nameUnit_9 : decode cFp_nameUnit 9 = .ok (.if_icmp .ge 14, 3) := by decide +kernel
theorem dFp_nameUnit_12 : decode cFp_nameUnit 12 = .ok (.aload_n 0, 1) := by decide +kernel
theorem dFp_nameUnit_13 : decode cFp_nameUnit 13 = .ok (.getfield 38, 3) := by decide +kernel
theorem dFp_nameUnit_16 : decode cFp_nameUnit 16 = .ok (.iload_n 1, 1) := by decide +kernel
theorem dFp_nameUnit_17 : decode cFp_nameUnit 17 = .ok (.invokevirtual 154, 3) := by decide +kernel
theorem dFp_nameUnit_20 : decode cFp_nameUnit 20 = .ok (.goto 4, 3) := by decide +kernel
theorem dFp_nameUnit_23 : decode cFp_nameUnit 23 = .ok (.iconst (-1), 1) := by decide +kernel
theorem dFp_nameUnit_24 : decode cFp_nameUnit 24 = .ok (.ireturn, 1) := by decide +kernel
-- FootprintRules$Footprint.nameUnit(I)I
abbrev w_Fp_nameUnit (ad : Nat → Nat → Nat) (a_this : Nat) (a_cells : Nat) (a_family : Nat) (a_yard : Nat) (a_columns : Nat) (a_rows : Nat) (a_line : Nat) (a_line_units : Nat) (a_family_values : Nat) (a_family_letters : Nat) (k_family_letters : ClassId) (k_line_units : ClassId) (k_cells : ClassId) (k_yard : ClassId) (v_this_atHand : Int32) (v_this_count : Int32) (v_this_thermal : Int32) (v_this_density : Int32) (v_this_outerHigh : Int64) (v_this_pasteLeft : Int64) (v_this_pasteLow : Int64) (v_this_nameLength : Int32) (v_this_isWritten : Int32) (v_line_length : Int32) (v_family_letterCount : Int32) (v_family_kind : Nat) (v_family_letters : Nat → Int32) (v_line_units : Nat → Int32) (v_cells : Nat → Int64) (v_yard : Nat → Int64) : va_W := [(a_this, .inr (6, [.int v_this_atHand, .ref a_cells, .int v_this_count, .int v_this_thermal, .ref a_family, .int v_this_density, .long v_this_outerHigh, .ref a_yard, .ref a_columns, .ref a_rows, .long v_this_pasteLeft, .long v_this_pasteLow, .ref a_line, .int v_this_nameLength, .int v_this_isWritten])), (a_line, .inr (7, [.ref a_line_units, .int v_line_length])), (a_family, .inr (2, [.ref a_family_values, .ref a_family_letters, .int v_family_letterCount, .ref (ad 0 v_family_kind)])), (a_family_letters, .inl (k_family_letters, 4, .inl v_family_letters)), (a_line_units, .inl (k_line_units, 4096, .inl v_line_units)), (a_cells, .inl (k_cells, 455, .inr (.inl v_cells))), (a_yard, .inl (k_yard, 4, .inr (.inl v_yard)))]
def P_Fp_nameUnit (p1 : Int32) (v_this_count : Int32) (v_this_density : Int32) (v_this_outerHigh : Int64) (v_this_nameLength : Int32) (v_this_isWritten : Int32) (v_line_length : Int32) (v_family_letterCount : Int32) (v_family_letters : Nat → Int32) (v_line_units : Nat → Int32) (v_cells : Nat → Int64) (v_yard : Nat → Int64) (post : Int32 → Int32 → Int32 → Int32 → (Nat → Int32) → Prop) : Prop := P_Fp_writeOnce v_this_count v_this_density v_this_outerHigh v_this_nameLength v_this_isWritten v_line_length v_family_letterCount v_family_letters v_line_units v_cells v_yard (fun (u1 : Int32) (u2 : Int32) (u3 : Int32) (u4 : Nat → Int32) => ((u1 ≤ p1 → post (-1) u1 u2 u3 u4) ∧ (¬ u1 ≤ p1 → P_Li_unitAt p1 u3 u4 (fun (r6 : Int32) => post r6 u1 u2 u3 u4))))
set_option maxHeartbeats 4000000 in
set_option maxRecDepth 100000 in
theorem c_Fp_nameUnit (l : Launch) (dC : Nat → ClassId) (dI : Nat → Nat → Nat) (ad : Nat → Nat → Nat) (a_this : Nat) (a_cells : Nat) (a_family : Nat) (a_yard : Nat) (a_columns : Nat) (a_rows : Nat) (a_line : Nat) (a_line_units : Nat) (a_family_values : Nat) (a_family_letters : Nat) (k_family_letters : ClassId) (k_line_units : ClassId) (k_cells : ClassId) (k_yard : ClassId) (sz : Nat) (p1 : Int32) (v_this_atHand : Int32) (v_this_count : Int32) (v_this_thermal : Int32) (v_this_density : Int32) (v_this_outerHigh : Int64) (v_this_pasteLeft : Int64) (v_this_pasteLow : Int64) (v_this_nameLength : Int32) (v_this_isWritten : Int32) (v_line_length : Int32) (v_family_letterCount : Int32) (v_family_kind : Nat) (v_family_letters : Nat → Int32) (v_line_units : Nat → Int32) (v_cells : Nat → Int64) (v_yard : Nat → Int64) (post : Int32 → Int32 → Int32 → Int32 → (Nat → Int32) → Prop) (h : P_Fp_nameUnit p1 v_this_count v_this_density v_this_outerHigh v_this_nameLength v_this_isWritten v_line_length v_family_letterCount v_family_letters v_line_units v_cells v_yard post) : zMi l yFp_nameUnit wsFp_nameUnit { frames := 6, cells := 0, slots := 0, locals := 128 } (dC, dI) ad [.ref a_this, .int p1] (w_Fp_nameUnit ad a_this a_cells a_family a_yard a_columns a_rows a_line a_line_units a_family_values a_family_letters k_family_letters k_line_units k_cells k_yard v_this_atHand v_this_count v_this_thermal v_this_density v_this_outerHigh v_this_pasteLeft v_this_pasteLow v_this_nameLength v_this_isWritten v_line_length v_family_letterCount v_family_kind v_family_letters v_line_units v_cells v_yard) [(k_family_letters, .char), (k_line_units, .char), (k_cells, .long), (k_yard, .long)] sz (fun (r : Int32) (u : Int32 × Int32 × Int32 × (Nat → Int32)) => post r u.1 u.2.1 u.2.2.1 u.2.2.2) (fun (u : Int32 × Int32 × Int32 × (Nat → Int32)) => (w_Fp_nameUnit ad a_this a_cells a_family a_yard a_columns a_rows a_line a_line_units a_family_values a_family_letters k_family_letters k_line_units k_cells k_yard v_this_atHand v_this_count v_this_thermal v_this_density v_this_outerHigh v_this_pasteLeft v_this_pasteLow u.1 u.2.1 u.2.2.1 v_family_letterCount v_family_kind v_family_letters u.2.2.2 v_cells v_yard)) 0 0 := by
  refine Met.ofW (cc := cFp_nameUnit) (maxL := 2) (ret := (some .int)) (by decide +kernel) rfl ?_
  intro p e s m args below meth c s₁ B hml hv
  obtain ⟨rfl, hsz, hP, hK, hD0, hE⟩ := hv
  have hx := B.exec
  have hb := B.bytes
  have hr := B.returns
  have hts0 := atoms_spec (ws := wsFp_nameUnit) B.pre
  have hts := fun w h => hts0 w (List.mem_cons_of_mem _ h)
  have hown : s.vm.findClass RFp = some m.cls := findClass_of_methodNamed B.named
  have hlocks := B.notSynchronized
  subst hsz
  have hD := hD0.self (sz := s.heap.size)
  generalize hAe : va_A (w_Fp_nameUnit ad a_this a_cells a_family a_yard a_columns a_rows a_line a_line_units a_family_values a_family_letters k_family_letters k_line_units k_cells k_yard v_this_atHand v_this_count v_this_thermal v_this_density v_this_outerHigh v_this_pasteLeft v_this_pasteLow v_this_nameLength v_this_isWritten v_line_length v_family_letterCount v_family_kind v_family_letters v_line_units v_cells v_yard) s.heap.size = A at hD hE ⊢
  have hA : ∀ q : Nat, s.heap.size ≤ q → A q := fun q h => by rw [← hAe]; exact Or.inr h
  have C0 := zC.mk hx hb hr hml hown hts hlocks hA
  have hS : va_S A s.heap s.heap [] := va_S.rf
  have hl := lv_entry ([.ref a_this, .int p1]) (n := 2) (Nat.le_of_ble_eq_true rfl)
  rw [lg_entry_eq]
  generalize (lg_sl ([.ref a_this, .int p1]) ++ List.replicate (2 - (lg_sl ([.ref a_this, .int p1])).length) Slot.unset).toArray = ls at hl ⊢
  have hl : lv_has ls 2 [(0, .ref a_this), (1, .int p1)] := hl
  unfold P_Fp_nameUnit at h
  refine lv_aload_n hx hb dFp_nameUnit_0 rfl (lv_at hl 0 rfl) ?_
  refine zcall_v hP hD hS hA [0, 1, 2, 3, 4, 5, 6] [] (va_runV (As := []) (rest := []) ⟨hx, hb, hml, hown, hts⟩ (c_Fp_writeOnce l dC dI ad a_this a_cells a_family a_yard a_columns a_rows a_line a_line_units a_family_values a_family_letters k_family_letters k_line_units k_cells k_yard _ v_this_atHand v_this_count v_this_thermal v_this_density v_this_outerHigh v_this_pasteLeft v_this_pasteLow v_this_nameLength v_this_isWritten v_line_length v_family_letterCount v_family_kind v_family_letters v_line_units v_cells v_yard _ h) ⟨callB_of 0 hts (zgood zc_Fp_writeOnce) rfl rfl rfl (hts _ zw_101) (hts _ zw_872) (by decide +kernel) ⟨Nat.le_of_ble_eq_true rfl, Nat.le_of_ble_eq_true rfl⟩, (hts _ zw_874), (hts _ zw_50)⟩ (zpreV hE hK hP hD hS hA [0, 1, 2, 3, 4, 5, 6] [0, 1, 2, 3] (by rfl) (by rfl) (by decide) (ci := 6) (q0 := 0) rfl (by rfl)) rfl rfl hl.1 rfl (lv_room (Nat.le_of_ble_eq_true rfl)) dFp_nameUnit_1 ⟨Nat.le_of_ble_eq_true rfl, Nat.le_of_ble_eq_true rfl⟩) (by rfl) (by rfl) (by decide) (by decide) (fun u H locs h hP hD hS => ?_)
  obtain ⟨u1, u2, u3, u4⟩ := u
  try dsimp only at h
  have hP := hP.sub (ws' := (w_Fp_nameUnit ad a_this a_cells a_family a_yard a_columns a_rows a_line a_line_units a_family_values a_family_letters k_family_letters k_line_units k_cells k_yard v_this_atHand v_this_count v_this_thermal v_this_density v_this_outerHigh v_this_pasteLeft v_this_pasteLow u1 u2 u3 v_family_letterCount v_family_kind v_family_letters u4 v_cells v_yard)) [0, 1, 2, 3, 4, 5, 6] rfl
  have hD := hD.sub (ws' := (w_Fp_nameUnit ad a_this a_cells a_family a_yard a_columns a_rows a_line a_line_units a_family_values a_family_letters k_family_letters k_line_units k_cells k_yard v_this_atHand v_this_count v_this_thermal v_this_density v_this_outerHigh v_this_pasteLeft v_this_pasteLow u1 u2 u3 v_family_letterCount v_family_kind v_family_letters u4 v_cells v_yard)) [0, 1, 2, 3, 4, 5, 6] (by decide) rfl
  refine lv_iload_n hx hb dFp_nameUnit_4 rfl (lv_at hl 1 rfl) ?_
  refine lv_aload_n hx hb dFp_nameUnit_5 rfl (lv_at hl 0 rfl) ?_
  refine va_get (D := (dC, dI)) (ci := 6) (v := .int u1) (C := RFp) (T := TFp) (N := 15) hx hb hts inZ_Fp hown hK hP 0 rfl rfl 13 (by decide) (hts _ zw_298) (fun _ h9 => h9) rfl dFp_nameUnit_6 ?_
  refine lv_icmp_ge (tgt := 23) hx hb dFp_nameUnit_9 (by decide) ?_ ?_
  · intro c5
    replace h := h.1 c5
    refine lv_iconst (v := (-1)) hx hb dFp_nameUnit_23 (by decide) ?_
    exact W.iret (v := (-1)) hx hb hr (fun t ht hW => ⟨⟨(-1), (u1, u2, u3, u4), rfl, h, by rw [ht]; exact hP, hD⟩, hS.F ht⟩) hS.2.2 dFp_nameUnit_24
  · intro c5
    replace h := h.2 c5
    refine lv_aload_n hx hb dFp_nameUnit_12 rfl (lv_at hl 0 rfl) ?_
    refine va_get (D := (dC, dI)) (ci := 6) (v := .ref a_line) (C := RFp) (T := TFp) (N := 15) hx hb hts inZ_Fp hown hK hP 0 rfl rfl 12 (by decide) (hts _ zw_297) (fun _ h9 => h9) rfl dFp_nameUnit_13 ?_
    refine lv_iload_n hx hb dFp_nameUnit_16 rfl (lv_at hl 1 rfl) ?_
    refine zcall_i hP hD hS hA [1, 4] [0, 2, 3, 5, 6] (va_runVN (As := [.int p1]) (rest := []) ⟨hx, hb, hml, hown, hts⟩ (c_Li_unitAt l dC dI ad a_line a_line_units k_line_units _ p1 u3 u4 _ h) ⟨va_cnB 1 hts (zgood zc_Li_unitAt) rfl rfl rfl (hE.nw _ zn_906) (hts _ zw_106) (by decide +kernel) ⟨Nat.le_of_ble_eq_true rfl, Nat.le_of_ble_eq_true rfl⟩, (hts _ zw_908), (hts _ zw_56)⟩ (zpreV hE hK hP hD hS hA [1, 4] [1] (by rfl) (by rfl) (by decide) (ci := 7) (q0 := 1) rfl (by rfl)) rfl rfl hl.1 rfl (lv_room (Nat.le_of_ble_eq_true rfl)) dFp_nameUnit_17 ⟨Nat.le_of_ble_eq_true rfl, Nat.le_of_ble_eq_true rfl⟩) (by rfl) (by rfl) (by decide) (by decide) (fun r6 u H locs h hP hD hS => ?_)
    try dsimp only at h
    have hP := hP.sub (ws' := (w_Fp_nameUnit ad a_this a_cells a_family a_yard a_columns a_rows a_line a_line_units a_family_values a_family_letters k_family_letters k_line_units k_cells k_yard v_this_atHand v_this_count v_this_thermal v_this_density v_this_outerHigh v_this_pasteLeft v_this_pasteLow u1 u2 u3 v_family_letterCount v_family_kind v_family_letters u4 v_cells v_yard)) [0, 5, 1, 2, 6, 3, 4] rfl
    have hD := hD.sub (ws' := (w_Fp_nameUnit ad a_this a_cells a_family a_yard a_columns a_rows a_line a_line_units a_family_values a_family_letters k_family_letters k_line_units k_cells k_yard v_this_atHand v_this_count v_this_thermal v_this_density v_this_outerHigh v_this_pasteLeft v_this_pasteLow u1 u2 u3 v_family_letterCount v_family_kind v_family_letters u4 v_cells v_yard)) [0, 5, 1, 2, 6, 3, 4] (by decide) rfl
    refine lv_goto (tgt := 24) hx hb dFp_nameUnit_20 (by decide) ?_
    exact W.iret (v := r6) hx hb hr (fun t ht hW => ⟨⟨r6, (u1, u2, u3, u4), rfl, h, by rw [ht]; exact hP, hD⟩, hS.F ht⟩) hS.2.2 dFp_nameUnit_24
abbrev yFp_textUnit : MethodName := ⟨"FootprintRules$Footprint", "textUnit", "(I)I"⟩
abbrev cFp_textUnit : ByteArray := prog_5_method_12_code
abbrev wsFp_textUnit : List Cond := .code yFp_textUnit cFp_textUnit 2 (some .int) :: zT
set_option maxRecDepth 100000 in
theorem zc_Fp_textUnit : Cond.code yFp_textUnit cFp_textUnit 2 (some .int) ∈ zT := zm 1037 (by rfl) (by rfl)
theorem dFp_textUnit_0 : decode cFp_textUnit 0 = .ok (.aload_n 0, 1) := by decide +kernel
theorem dFp_textUnit_1 : decode cFp_textUnit 1 = .ok (.invokevirtual 148, 3) := by decide +kernel
theorem dFp_textUnit_4 : decode cFp_textUnit 4 = .ok (.aload_n 0, 1) := by decide +kernel
theorem dFp_textUnit_5 : decode cFp_textUnit 5 = .ok (.getfield 38, 3) := by decide +kernel
theorem dFp_textUnit_8 : decode cFp_textUnit 8 = .ok (.iload_n 1, 1) := by decide +kernel
theorem dFp_textUnit_9 : decode cFp_textUnit 9 = .ok (.invokevirtual 154, 3) := by decide +kernel
theorem dFp_textUnit_12 : decode cFp_textUnit 12 = .ok (.ireturn, 1) := by decide +kernel
-- FootprintRules$Footprint.textUnit(I)I
abbrev w_Fp_textUnit (ad : Nat → Nat → Nat) (a_this : Nat) (a_cells : Nat) (a_family : Nat) (a_yard : Nat) (a_columns : Nat) (a_rows : Nat) (a_line : Nat) (a_line_units : Nat) (a_family_values : Nat) (a_family_letters : Nat) (k_family_letters : ClassId) (k_line_units : ClassId) (k_cells : ClassId) (k_yard : ClassId) (v_this_atHand : Int32) (v_this_count : Int32) (v_this_thermal : Int32) (v_this_density : Int32) (v_this_outerHigh : Int64) (v_this_pasteLeft : Int64) (v_this_pasteLow : Int64) (v_this_nameLength : Int32) (v_this_isWritten : Int32) (v_line_length : Int32) (v_family_letterCount : Int32) (v_family_kind : Nat) (v_family_letters : Nat → Int32) (v_line_units : Nat → Int32) (v_cells : Nat → Int64) (v_yard : Nat → Int64) : va_W := [(a_this, .inr (6, [.int v_this_atHand, .ref a_cells, .int v_this_count, .int v_this_thermal, .ref a_family, .int v_this_density, .long v_this_outerHigh, .ref a_yard, .ref a_columns, .ref a_rows, .long v_this_pasteLeft, .long v_this_pasteLow, .ref a_line, .int v_this_nameLength, .int v_this_isWritten])), (a_line, .inr (7, [.ref a_line_units, .int v_line_length])), (a_family, .inr (2, [.ref a_family_values, .ref a_family_letters, .int v_family_letterCount, .ref (ad 0 v_family_kind)])), (a_family_letters, .inl (k_family_letters, 4, .inl v_family_letters)), (a_line_units, .inl (k_line_units, 4096, .inl v_line_units)), (a_cells, .inl (k_cells, 455, .inr (.inl v_cells))), (a_yard, .inl (k_yard, 4, .inr (.inl v_yard)))]
def P_Fp_textUnit (p1 : Int32) (v_this_count : Int32) (v_this_density : Int32) (v_this_outerHigh : Int64) (v_this_nameLength : Int32) (v_this_isWritten : Int32) (v_line_length : Int32) (v_family_letterCount : Int32) (v_family_letters : Nat → Int32) (v_line_units : Nat → Int32) (v_cells : Nat → Int64) (v_yard : Nat → Int64) (post : Int32 → Int32 → Int32 → Int32 → (Nat → Int32) → Prop) : Prop := P_Fp_writeOnce v_this_count v_this_density v_this_outerHigh v_this_nameLength v_this_isWritten v_line_length v_family_letterCount v_family_letters v_line_units v_cells v_yard (fun (u1 : Int32) (u2 : Int32) (u3 : Int32) (u4 : Nat → Int32) => P_Li_unitAt p1 u3 u4 (fun (r5 : Int32) => post r5 u1 u2 u3 u4))
set_option maxHeartbeats 4000000 in
set_option maxRecDepth 100000 in
theorem c_Fp_textUnit (l : Launch) (dC : Nat → ClassId) (dI : Nat → Nat → Nat) (ad : Nat → Nat → Nat) (a_this : Nat) (a_cells : Nat) (a_family : Nat) (a_yard : Nat) (a_columns : Nat) (a_rows : Nat) (a_line : Nat) (a_line_units : Nat) (a_family_values : Nat) (a_family_letters : Nat) (k_family_letters : ClassId) (k_line_units : ClassId) (k_cells : ClassId) (k_yard : ClassId) (sz : Nat) (p1 : Int32) (v_this_atHand : Int32) (v_this_count : Int32) (v_this_thermal : Int32) (v_this_density : Int32) (v_this_outerHigh : Int64) (v_this_pasteLeft : Int64) (v_this_pasteLow : Int64) (v_this_nameLength : Int32) (v_this_isWritten : Int32) (v_line_length : Int32) (v_family_letterCount : Int32) (v_family_kind : Nat) (v_family_letters : Nat → Int32) (v_line_units : Nat → Int32) (v_cells : Nat → Int64) (v_yard : Nat → Int64) (post : Int32 → Int32 → Int32 → Int32 → (Nat → Int32) → Prop) (h : P_Fp_textUnit p1 v_this_count v_this_density v_this_outerHigh v_this_nameLength v_this_isWritten v_line_length v_family_letterCount v_family_letters v_line_units v_cells v_yard post) : zMi l yFp_textUnit wsFp_textUnit { frames := 6, cells := 0, slots := 0, locals := 128 } (dC, dI) ad [.ref a_this, .int p1] (w_Fp_textUnit ad a_this a_cells a_family a_yard a_columns a_rows a_line a_line_units a_family_values a_family_letters k_family_letters k_line_units k_cells k_yard v_this_atHand v_this_count v_this_thermal v_this_density v_this_outerHigh v_this_pasteLeft v_this_pasteLow v_this_nameLength v_this_isWritten v_line_length v_family_letterCount v_family_kind v_family_letters v_line_units v_cells v_yard) [(k_family_letters, .char), (k_line_units, .char), (k_cells, .long), (k_yard, .long)] sz (fun (r : Int32) (u : Int32 × Int32 × Int32 × (Nat → Int32)) => post r u.1 u.2.1 u.2.2.1 u.2.2.2) (fun (u : Int32 × Int32 × Int32 × (Nat → Int32)) => (w_Fp_textUnit ad a_this a_cells a_family a_yard a_columns a_rows a_line a_line_units a_family_values a_family_letters k_family_letters k_line_units k_cells k_yard v_this_atHand v_this_count v_this_thermal v_this_density v_this_outerHigh v_this_pasteLeft v_this_pasteLow u.1 u.2.1 u.2.2.1 v_family_letterCount v_family_kind v_family_letters u.2.2.2 v_cells v_yard)) 0 0 := by
  refine Met.ofW (cc := cFp_textUnit) (maxL := 2) (ret := (some .int)) (by decide +kernel) rfl ?_
  intro p e s m args below meth c s₁ B hml hv
  obtain ⟨rfl, hsz, hP, hK, hD0, hE⟩ := hv
  have hx := B.exec
  have hb := B.bytes
  have hr := B.returns
  have hts0 := atoms_spec (ws := wsFp_textUnit) B.pre
  have hts := fun w h => hts0 w (List.mem_cons_of_mem _ h)
  have hown : s.vm.findClass RFp = some m.cls := findClass_of_methodNamed B.named
  have hlocks := B.notSynchronized
  subst hsz
  have hD := hD0.self (sz := s.heap.size)
  generalize hAe : va_A (w_Fp_textUnit ad a_this a_cells a_family a_yard a_columns a_rows a_line a_line_units a_family_values a_family_letters k_family_letters k_line_units k_cells k_yard v_this_atHand v_this_count v_this_thermal v_this_density v_this_outerHigh v_this_pasteLeft v_this_pasteLow v_this_nameLength v_this_isWritten v_line_length v_family_letterCount v_family_kind v_family_letters v_line_units v_cells v_yard) s.heap.size = A at hD hE ⊢
  have hA : ∀ q : Nat, s.heap.size ≤ q → A q := fun q h => by rw [← hAe]; exact Or.inr h
  have C0 := zC.mk hx hb hr hml hown hts hlocks hA
  have hS : va_S A s.heap s.heap [] := va_S.rf
  have hl := lv_entry ([.ref a_this, .int p1]) (n := 2) (Nat.le_of_ble_eq_true rfl)
  rw [lg_entry_eq]
  generalize (lg_sl ([.ref a_this, .int p1]) ++ List.replicate (2 - (lg_sl ([.ref a_this, .int p1])).length) Slot.unset).toArray = ls at hl ⊢
  have hl : lv_has ls 2 [(0, .ref a_this), (1, .int p1)] := hl
  unfold P_Fp_textUnit at h
  refine lv_aload_n hx hb dFp_textUnit_0 rfl (lv_at hl 0 rfl) ?_
  refine zcall_v hP hD hS hA [0, 1, 2, 3, 4, 5, 6] [] (va_runV (As := []) (rest := []) ⟨hx, hb, hml, hown, hts⟩ (c_Fp_writeOnce l dC dI ad a_this a_cells a_family a_yard a_columns a_rows a_line a_line_units a_family_values a_family_letters k_family_letters k_line_units k_cells k_yard _ v_this_atHand v_this_count v_this_thermal v_this_density v_this_outerHigh v_this_pasteLeft v_this_pasteLow v_this_nameLength v_this_isWritten v_line_length v_family_letterCount v_family_kind v_family_letters v_line_units v_cells v_yard _ h) ⟨callB_of 0 hts (zgood zc_Fp_writeOnce) rfl rfl rfl (hts _ zw_101) (hts _ zw_872) (by decide +kernel) ⟨Nat.le_of_ble_eq_true rfl, Nat.le_of_ble_eq_true rfl⟩, (hts _ zw_874), (hts _ zw_50)⟩ (zpreV hE hK hP hD hS hA [0, 1, 2, 3, 4, 5, 6] [0, 1, 2, 3] (by rfl) (by rfl) (by decide) (ci := 6) (q0 := 0) rfl (by rfl)) rfl rfl hl.1 rfl (lv_room (Nat.le_of_ble_eq_true rfl)) dFp_textUnit_1 ⟨Nat.le_of_ble_eq_true rfl, Nat.le_of_ble_eq_true rfl⟩) (by rfl) (by rfl) (by decide) (by decide) (fun u H locs h hP hD hS => ?_)
  obtain ⟨u1, u2, u3, u4⟩ := u
  try dsimp only at h
  have hP := hP.sub (ws' := (w_Fp_textUnit ad a_this a_cells a_family a_yard a_columns a_rows a_line a_line_units a_family_values a_family_letters k_family_letters k_line_units k_cells k_yard v_this_atHand v_this_count v_this_thermal v_this_density v_this_outerHigh v_this_pasteLeft v_this_pasteLow u1 u2 u3 v_family_letterCount v_family_kind v_family_letters u4 v_cells v_yard)) [0, 1, 2, 3, 4, 5, 6] rfl
  have hD := hD.sub (ws' := (w_Fp_textUnit ad a_this a_cells a_family a_yard a_columns a_rows a_line a_line_units a_family_values a_family_letters k_family_letters k_line_units k_cells k_yard v_this_atHand v_this_count v_this_thermal v_this_density v_this_outerHigh v_this_pasteLeft v_this_pasteLow u1 u2 u3 v_family_letterCount v_family_kind v_family_letters u4 v_cells v_yard)) [0, 1, 2, 3, 4, 5, 6] (by decide) rfl
  refine lv_aload_n hx hb dFp_textUnit_4 rfl (lv_at hl 0 rfl) ?_
  refine va_get (D := (dC, dI)) (ci := 6) (v := .ref a_line) (C := RFp) (T := TFp) (N := 15) hx hb hts inZ_Fp hown hK hP 0 rfl rfl 12 (by decide) (hts _ zw_297) (fun _ h9 => h9) rfl dFp_textUnit_5 ?_
  refine lv_iload_n hx hb dFp_textUnit_8 rfl (lv_at hl 1 rfl) ?_
  refine zcall_i hP hD hS hA [1, 4] [0, 2, 3, 5, 6] (va_runVN (As := [.int p1]) (rest := []) ⟨hx, hb, hml, hown, hts⟩ (c_Li_unitAt l dC dI ad a_line a_line_units k_line_units _ p1 u3 u4 _ h) ⟨va_cnB 1 hts (zgood zc_Li_unitAt) rfl rfl rfl (hE.nw _ zn_906) (hts _ zw_106) (by decide +kernel) ⟨Nat.le_of_ble_eq_true rfl, Nat.le_of_ble_eq_true rfl⟩, (hts _ zw_908), (hts _ zw_56)⟩ (zpreV hE hK hP hD hS hA [1, 4] [1] (by rfl) (by rfl) (by decide) (ci := 7) (q0 := 1) rfl (by rfl)) rfl rfl hl.1 rfl (lv_room (Nat.le_of_ble_eq_true rfl)) dFp_textUnit_9 ⟨Nat.le_of_ble_eq_true rfl, Nat.le_of_ble_eq_true rfl⟩) (by rfl) (by rfl) (by decide) (by decide) (fun r5 u H locs h hP hD hS => ?_)
  try dsimp only at h
  have hP := hP.sub (ws' := (w_Fp_textUnit ad a_this a_cells a_family a_yard a_columns a_rows a_line a_line_units a_family_values a_family_letters k_family_letters k_line_units k_cells k_yard v_this_atHand v_this_count v_this_thermal v_this_density v_this_outerHigh v_this_pasteLeft v_this_pasteLow u1 u2 u3 v_family_letterCount v_family_kind v_family_letters u4 v_cells v_yard)) [0, 5, 1, 2, 6, 3, 4] rfl
  have hD := hD.sub (ws' := (w_Fp_textUnit ad a_this a_cells a_family a_yard a_columns a_rows a_line a_line_units a_family_values a_family_letters k_family_letters k_line_units k_cells k_yard v_this_atHand v_this_count v_this_thermal v_this_density v_this_outerHigh v_this_pasteLeft v_this_pasteLow u1 u2 u3 v_family_letterCount v_family_kind v_family_letters u4 v_cells v_yard)) [0, 5, 1, 2, 6, 3, 4] (by decide) rfl
  exact W.iret (v := r5) hx hb hr (fun t ht hW => ⟨⟨r5, (u1, u2, u3, u4), rfl, h, by rw [ht]; exact hP, hD⟩, hS.F ht⟩) hS.2.2 dFp_textUnit_12
