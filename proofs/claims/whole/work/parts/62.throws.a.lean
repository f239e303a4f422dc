abbrev yF_family_o : MethodName := ⟨"FootprintRules", "family", "()I"⟩
abbrev cF_family_o : ByteArray := prog_1_method_3_code
abbrev wsF_family_o : List Cond := .code yF_family_o cF_family_o 2 (some .int) :: zT
set_option maxRecDepth 100000 in
theorem zc_F_family_o : Cond.code yF_family_o cF_family_o 2 (some .int) ∈ zT := zm 426 (by rfl) (by rfl)
theorem dF_family_o_0 : decode cF_family_o 0 = .ok (.aload_n 0, 1) := by decide +kernel
theorem dF_family_o_1 : decode cF_family_o 1 = .ok (.getfield 52, 3) := by decide +kernel
theorem dF_family_o_4 : decode cF_family_o 4 = .ok (.ifCond .lt 12, 3) := by decide +kernel
theorem dF_family_o_7 : decode cF_family_o 7 = .ok (.aload_n 0, 1) := by decide +kernel
theorem dF_family_o_8 : decode cF_family_o 8 = .ok (.getfield 52, 3) := by decide +kernel
theorem dF_family_o_11 : decode cF_family_o 11 = .ok (.bipush 8, 2) := by decide +kernel
theorem dF_family_o_13 : decode cF_family_o 13 = .ok (.if_icmp .lt 13, 3) := by decide +kernel
theorem dF_family_o_26 : decode cF_family_o 26 = .ok (.aload_n 0, 1) := by decide +kernel
theorem dF_family_o_27 : decode cF_family_o 27 = .ok (.getfield 10, 3) := by decide +kernel
theorem dF_family_o_30 : decode cF_family_o 30 = .ok (.aload_n 0, 1) := by decide +kernel
theorem dF_family_o_31 : decode cF_family_o 31 = .ok (.getfield 18, 3) := by decide +kernel
theorem dF_family_o_34 : decode cF_family_o 34 = .ok (.aload_n 0, 1) := by decide +kernel
theorem dF_family_o_35 : decode cF_family_o 35 = .ok (.getfield 52, 3) := by decide +kernel
theorem dF_family_o_38 : decode cF_family_o 38 = .ok (.aaload, 1) := by decide +kernel
theorem dF_family_o_39 : decode cF_family_o 39 = .ok (.invokevirtual 63, 3) := by decide +kernel
theorem dF_family_o_42 : decode cF_family_o 42 = .ok (.istore_n 1, 1) := by decide +kernel
theorem dF_family_o_43 : decode cF_family_o 43 = .ok (.aload_n 0, 1) := by decide +kernel
theorem dF_family_o_44 : decode cF_family_o 44 = .ok (.getfield 10, 3) := by decide +kernel
theorem dF_family_o_47 : decode cF_family_o 47 = .ok (.getfield 42, 3) := by decide +kernel
theorem dF_family_o_50 : decode cF_family_o 50 = .ok (.invokevirtual 67, 3) := by decide +kernel
theorem dF_family_o_53 : decode cF_family_o 53 = .ok (.iload_n 1, 1) := by decide +kernel
theorem dF_family_o_54 : decode cF_family_o 54 = .ok (.iconst (-1), 1) := by decide +kernel
theorem dF_family_o_55 : decode cF_family_o 55 = .ok (.if_icmp .eq 7, 3) := by decide +kernel
theorem dF_family_o_58 : decode cF_family_o 58 = .ok (.iconst (-1), 1) := by decide +kernel
theorem dF_family_o_59 : decode cF_family_o 59 = .ok (.iload_n 1, 1) := by decide +kernel
theorem dF_family_o_60 : decode cF_family_o 60 = .ok (.isub, 1) := by decide +kernel
theorem dF_family_o_61 : decode cF_family_o 61 = .ok (.ireturn, 1) := by decide +kernel
theorem dF_family_o_62 : decode cF_family_o 62 = .ok (.aload_n 0, 1) := by decide +kernel
theorem dF_family_o_63 : decode cF_family_o 63 = .ok (.dup, 1) := by decide +kernel
theorem dF_family_o_64 : decode cF_family_o 64 = .ok (.getfield 52, 3) := by decide +kernel
theorem dF_family_o_67 : decode cF_family_o 67 = .ok (.iconst 1, 1) := by decide +kernel
theorem dF_family_o_68 : decode cF_family_o 68 = .ok (.iadd, 1) := by decide +kernel
theorem dF_family_o_69 : decode cF_family_o 69 = .ok (.putfield 52, 3) := by decide +kernel
theorem dF_family_o_72 : decode cF_family_o 72 = .ok (.aload_n 0, 1) := by decide +kernel
theorem dF_family_o_73 : decode cF_family_o 73 = .ok (.getfield 52, 3) := by decide +kernel
theorem dF_family_o_76 : decode cF_family_o 76 = .ok (.iconst 1, 1) := by decide +kernel
theorem dF_family_o_77 : decode cF_family_o 77 = .ok (.isub, 1) := by decide +kernel
theorem dF_family_o_78 : decode cF_family_o 78 = .ok (.ireturn, 1) := by decide +kernel
theorem zw_374 : Cond.fieldLink "FootprintRules" 52 "FootprintRules" "familyCount" "I" ∈ zT := zm 374 (by decide +kernel) (by decide +kernel)
theorem zn_495 : Cond.methodLinkNest "FootprintRules" 63 ⟨"FootprintRules$FamilyReader", "read", "(LFootprintRules$Family;)I"⟩ "FootprintRules" ∈ zNW := znm 495 (by decide +kernel) (by decide +kernel)
theorem zw_497 : Cond.instanceMethod ⟨"FootprintRules$FamilyReader", "read", "(LFootprintRules$Family;)I"⟩ ∈ zT := zm 497 (by decide +kernel) (by decide +kernel)
theorem zw_6 : Cond.selects "FootprintRules$FamilyReader" ⟨"FootprintRules$FamilyReader", "read", "(LFootprintRules$Family;)I"⟩ ⟨"FootprintRules$FamilyReader", "read", "(LFootprintRules$Family;)I"⟩ ∈ zT := zm 6 (by decide +kernel) (by decide +kernel)
theorem zw_427 : Cond.classLink "FootprintRules" 56 "java/lang/IllegalStateException" ∈ zT := zm 427 (by decide +kernel) (by decide +kernel)
theorem zw_111 : Cond.initialized "java/lang/IllegalStateException" ∈ zT := zm 111 (by decide +kernel) (by decide +kernel)
theorem zw_655 : Cond.constantLong "FootprintRules" 75 100000000 ∈ zT := zm 655 (by decide +kernel) (by decide +kernel)
theorem zw_656 : Cond.methodLink "FootprintRules" 77 ⟨"FootprintRules", "isWithin", "(JJJ)Z"⟩ ∈ zT := zm 656 (by decide +kernel) (by decide +kernel)
theorem zn_332 : Cond.fieldLinkNest "FootprintRules" 86 "FootprintRules$Maker" "spans" "LFootprintRules$Spans;" "FootprintRules" ∈ zNW := znm 332 (by decide +kernel) (by decide +kernel)
theorem zn_675 : Cond.methodLinkNest "FootprintRules" 90 ⟨"FootprintRules$Spans", "tell", "(IJJ)Z"⟩ "FootprintRules" ∈ zNW := znm 675 (by decide +kernel) (by decide +kernel)
theorem zw_677 : Cond.instanceMethod ⟨"FootprintRules$Spans", "tell", "(IJJ)Z"⟩ ∈ zT := zm 677 (by decide +kernel) (by decide +kernel)
theorem zw_22 : Cond.selects "FootprintRules$Spans" ⟨"FootprintRules$Spans", "tell", "(IJJ)Z"⟩ ⟨"FootprintRules$Spans", "tell", "(IJJ)Z"⟩ ∈ zT := zm 22 (by decide +kernel) (by decide +kernel)
theorem zw_639 : Cond.classLink "FootprintRules" 70 "java/lang/IndexOutOfBoundsException" ∈ zT := zm 639 (by decide +kernel) (by decide +kernel)
theorem zw_117 : Cond.initialized "java/lang/IndexOutOfBoundsException" ∈ zT := zm 117 (by decide +kernel) (by decide +kernel)
theorem zw_659 : Cond.classLink "FootprintRules" 81 "java/lang/IllegalArgumentException" ∈ zT := zm 659 (by decide +kernel) (by decide +kernel)
theorem zw_118 : Cond.initialized "java/lang/IllegalArgumentException" ∈ zT := zm 118 (by decide +kernel) (by decide +kernel)
theorem zn_688 : Cond.methodLinkNest "FootprintRules" 100 ⟨"FootprintRules$Maker", "build", "(LFootprintRules$Family;I)Z"⟩ "FootprintRules" ∈ zNW := znm 688 (by decide +kernel) (by decide +kernel)
theorem zw_690 : Cond.instanceMethod ⟨"FootprintRules$Maker", "build", "(LFootprintRules$Family;I)Z"⟩ ∈ zT := zm 690 (by decide +kernel) (by decide +kernel)
theorem zw_23 : Cond.selects "FootprintRules$Maker" ⟨"FootprintRules$Maker", "build", "(LFootprintRules$Family;I)Z"⟩ ⟨"FootprintRules$Maker", "build", "(LFootprintRules$Family;I)Z"⟩ ∈ zT := zm 23 (by decide +kernel) (by decide +kernel)
theorem zn_285 : Cond.fieldLinkNest "FootprintRules" 104 "FootprintRules$Footprint" "count" "I" "FootprintRules" ∈ zNW := znm 285 (by decide +kernel) (by decide +kernel)
theorem zn_280 : Cond.fieldLinkNest "FootprintRules" 182 "FootprintRules$Footprint" "atHand" "Z" "FootprintRules" ∈ zNW := znm 280 (by decide +kernel) (by decide +kernel)
theorem zw_847 : Cond.methodLink "FootprintRules" 121 ⟨"FootprintRules", "needFootprint", "()V"⟩ ∈ zT := zm 847 (by decide +kernel) (by decide +kernel)
theorem zw_849 : Cond.instanceMethod ⟨"FootprintRules", "needFootprint", "()V"⟩ ∈ zT := zm 849 (by decide +kernel) (by decide +kernel)
theorem zw_48 : Cond.selects "FootprintRules" ⟨"FootprintRules", "needFootprint", "()V"⟩ ⟨"FootprintRules", "needFootprint", "()V"⟩ ∈ zT := zm 48 (by decide +kernel) (by decide +kernel)
theorem zw_852 : Cond.methodLink "FootprintRules" 113 ⟨"FootprintRules", "needWithin", "(II)V"⟩ ∈ zT := zm 852 (by decide +kernel) (by decide +kernel)
theorem zw_853 : Cond.static ⟨"FootprintRules", "needWithin", "(II)V"⟩ ∈ zT := zm 853 (by decide +kernel) (by decide +kernel)
theorem zw_843 : Cond.methodLink "FootprintRules" 109 ⟨"FootprintRules", "needPad", "(I)V"⟩ ∈ zT := zm 843 (by decide +kernel) (by decide +kernel)
theorem zw_845 : Cond.instanceMethod ⟨"FootprintRules", "needPad", "(I)V"⟩ ∈ zT := zm 845 (by decide +kernel) (by decide +kernel)
theorem zw_47 : Cond.selects "FootprintRules" ⟨"FootprintRules", "needPad", "(I)V"⟩ ⟨"FootprintRules", "needPad", "(I)V"⟩ ∈ zT := zm 47 (by decide +kernel) (by decide +kernel)
theorem zn_856 : Cond.methodLinkNest "FootprintRules" 117 ⟨"FootprintRules$Footprint", "cell", "(II)J"⟩ "FootprintRules" ∈ zNW := znm 856 (by decide +kernel) (by decide +kernel)
theorem zw_864 : Cond.methodLink "FootprintRules" 124 ⟨"FootprintRules", "needNotBelowZero", "(I)V"⟩ ∈ zT := zm 864 (by decide +kernel) (by decide +kernel)
theorem zw_865 : Cond.static ⟨"FootprintRules", "needNotBelowZero", "(I)V"⟩ ∈ zT := zm 865 (by decide +kernel) (by decide +kernel)
theorem zn_868 : Cond.methodLinkNest "FootprintRules" 127 ⟨"FootprintRules$Footprint", "nameUnit", "(I)I"⟩ "FootprintRules" ∈ zNW := znm 868 (by decide +kernel) (by decide +kernel)
theorem zw_870 : Cond.instanceMethod ⟨"FootprintRules$Footprint", "nameUnit", "(I)I"⟩ ∈ zT := zm 870 (by decide +kernel) (by decide +kernel)
theorem zw_49 : Cond.selects "FootprintRules$Footprint" ⟨"FootprintRules$Footprint", "nameUnit", "(I)I"⟩ ⟨"FootprintRules$Footprint", "nameUnit", "(I)I"⟩ ∈ zT := zm 49 (by decide +kernel) (by decide +kernel)
theorem zn_292 : Cond.fieldLinkNest "FootprintRules" 131 "FootprintRules$Footprint" "yard" "[J" "FootprintRules" ∈ zNW := znm 292 (by decide +kernel) (by decide +kernel)
theorem zn_924 : Cond.methodLinkNest "FootprintRules" 135 ⟨"FootprintRules$Footprint", "maskCell", "(II)J"⟩ "FootprintRules" ∈ zNW := znm 924 (by decide +kernel) (by decide +kernel)
theorem zw_926 : Cond.instanceMethod ⟨"FootprintRules$Footprint", "maskCell", "(II)J"⟩ ∈ zT := zm 926 (by decide +kernel) (by decide +kernel)
theorem zw_57 : Cond.selects "FootprintRules$Footprint" ⟨"FootprintRules$Footprint", "maskCell", "(II)J"⟩ ⟨"FootprintRules$Footprint", "maskCell", "(II)J"⟩ ∈ zT := zm 57 (by decide +kernel) (by decide +kernel)
theorem zn_937 : Cond.methodLinkNest "FootprintRules" 138 ⟨"FootprintRules$Footprint", "cutPaste", "(I)I"⟩ "FootprintRules" ∈ zNW := znm 937 (by decide +kernel) (by decide +kernel)
theorem zw_939 : Cond.instanceMethod ⟨"FootprintRules$Footprint", "cutPaste", "(I)I"⟩ ∈ zT := zm 939 (by decide +kernel) (by decide +kernel)
theorem zw_58 : Cond.selects "FootprintRules$Footprint" ⟨"FootprintRules$Footprint", "cutPaste", "(I)I"⟩ ⟨"FootprintRules$Footprint", "cutPaste", "(I)I"⟩ ∈ zT := zm 58 (by decide +kernel) (by decide +kernel)
theorem zn_961 : Cond.methodLinkNest "FootprintRules" 143 ⟨"FootprintRules$Footprint", "pasteCell", "(II)J"⟩ "FootprintRules" ∈ zNW := znm 961 (by decide +kernel) (by decide +kernel)
theorem zw_963 : Cond.instanceMethod ⟨"FootprintRules$Footprint", "pasteCell", "(II)J"⟩ ∈ zT := zm 963 (by decide +kernel) (by decide +kernel)
theorem zw_61 : Cond.selects "FootprintRules$Footprint" ⟨"FootprintRules$Footprint", "pasteCell", "(II)J"⟩ ⟨"FootprintRules$Footprint", "pasteCell", "(II)J"⟩ ∈ zT := zm 61 (by decide +kernel) (by decide +kernel)
theorem zn_334 : Cond.fieldLinkNest "FootprintRules" 148 "FootprintRules$Maker" "leftOut" "[Z" "FootprintRules" ∈ zNW := znm 334 (by decide +kernel) (by decide +kernel)
theorem zn_984 : Cond.methodLinkNest "FootprintRules" 152 ⟨"FootprintRules$Footprint", "viasInto", "(I)I"⟩ "FootprintRules" ∈ zNW := znm 984 (by decide +kernel) (by decide +kernel)
theorem zn_989 : Cond.methodLinkNest "FootprintRules" 155 ⟨"FootprintRules$Footprint", "viaMiddle", "(II)I"⟩ "FootprintRules" ∈ zNW := znm 989 (by decide +kernel) (by decide +kernel)
theorem zw_991 : Cond.instanceMethod ⟨"FootprintRules$Footprint", "viaMiddle", "(II)I"⟩ ∈ zT := zm 991 (by decide +kernel) (by decide +kernel)
theorem zw_64 : Cond.selects "FootprintRules$Footprint" ⟨"FootprintRules$Footprint", "viaMiddle", "(II)I"⟩ ⟨"FootprintRules$Footprint", "viaMiddle", "(II)I"⟩ ∈ zT := zm 64 (by decide +kernel) (by decide +kernel)
theorem zn_1002 : Cond.methodLinkNest "FootprintRules" 159 ⟨"FootprintRules$HandMade", "differences", "(LFootprintRules$Footprint;)I"⟩ "FootprintRules" ∈ zNW := znm 1002 (by decide +kernel) (by decide +kernel)
theorem zw_1004 : Cond.instanceMethod ⟨"FootprintRules$HandMade", "differences", "(LFootprintRules$Footprint;)I"⟩ ∈ zT := zm 1004 (by decide +kernel) (by decide +kernel)
theorem zw_65 : Cond.selects "FootprintRules$HandMade" ⟨"FootprintRules$HandMade", "differences", "(LFootprintRules$Footprint;)I"⟩ ⟨"FootprintRules$HandMade", "differences", "(LFootprintRules$Footprint;)I"⟩ ∈ zT := zm 65 (by decide +kernel) (by decide +kernel)
theorem zw_1020 : Cond.constantLong "FootprintRules" 165 (-100000000) ∈ zT := zm 1020 (by decide +kernel) (by decide +kernel)
theorem zn_1023 : Cond.methodLinkNest "FootprintRules" 171 ⟨"FootprintRules$HandMade", "put", "(IJJJJ)Z"⟩ "FootprintRules" ∈ zNW := znm 1023 (by decide +kernel) (by decide +kernel)
theorem zw_1025 : Cond.instanceMethod ⟨"FootprintRules$HandMade", "put", "(IJJJJ)Z"⟩ ∈ zT := zm 1025 (by decide +kernel) (by decide +kernel)
theorem zw_67 : Cond.selects "FootprintRules$HandMade" ⟨"FootprintRules$HandMade", "put", "(IJJJJ)Z"⟩ ⟨"FootprintRules$HandMade", "put", "(IJJJJ)Z"⟩ ∈ zT := zm 67 (by decide +kernel) (by decide +kernel)
theorem zn_1034 : Cond.methodLinkNest "FootprintRules" 175 ⟨"FootprintRules$Footprint", "textUnit", "(I)I"⟩ "FootprintRules" ∈ zNW := znm 1034 (by decide +kernel) (by decide +kernel)
theorem zw_1036 : Cond.instanceMethod ⟨"FootprintRules$Footprint", "textUnit", "(I)I"⟩ ∈ zT := zm 1036 (by decide +kernel) (by decide +kernel)
theorem zw_68 : Cond.selects "FootprintRules$Footprint" ⟨"FootprintRules$Footprint", "textUnit", "(I)I"⟩ ⟨"FootprintRules$Footprint", "textUnit", "(I)I"⟩ ∈ zT := zm 68 (by decide +kernel) (by decide +kernel)
-- FootprintRules.family()I
abbrev w_F_family_o (ad : Nat → Nat → Nat) (a_this : Nat) (a_reader : Nat) (a_families : Nat) (a_handMade : Nat) (a_maker : Nat) (a_maker_print : Nat) (a_reader_words : Nat) (a_reader_words_units : Nat) (a_families_at : Nat) (a_families_at_values : Nat) (a_families_at_letters : Nat) (k_families : ClassId) (k_reader_words_units : ClassId) (k_families_at_values : ClassId) (k_families_at_letters : ClassId) (v_this_familyCount : Int32) (v_families : Nat → Option Nat) (v_reader_toldKeys : Int32) (v_reader_words_length : Int32) (v_reader_words_start : Int32) (v_reader_words_end : Int32) (v_reader_words_place : Int32) (v_reader_words_units : Nat → Int32) (v_families_at_letterCount : Int32) (v_families_at_kind : Nat) (v_families_at_values : Nat → Int32) (v_families_at_letters : Nat → Int32) : va_W := [(a_this, .inr (9, [.ref a_reader, .ref a_families, .int v_this_familyCount, .ref a_handMade, .ref a_maker, .ref a_maker_print])), (a_families, .inl (k_families, 8, .inr (.inr (.inr (.inr v_families))))), (a_reader, .inr (1, [.ref a_reader_words, .int v_reader_toldKeys])), (a_reader_words, .inr (0, [.ref a_reader_words_units, .int v_reader_words_length, .int v_reader_words_start, .int v_reader_words_end, .int v_reader_words_place])), (a_reader_words_units, .inl (k_reader_words_units, 600, .inl v_reader_words_units)), (a_families_at, .inr (2, [.ref a_families_at_values, .ref a_families_at_letters, .int v_families_at_letterCount, .ref (ad 0 v_families_at_kind)])), (a_families_at_values, .inl (k_families_at_values, 18, .inl v_families_at_values)), (a_families_at_letters, .inl (k_families_at_letters, 4, .inl v_families_at_letters))]
def P_F_family_o_16  (post : Int32 → Int32 → Int32 → Int32 → Int32 → Int32 → Int32 → Int32 → Nat → (Nat → Int32) → (Nat → Int32) → Prop)  : Prop := False
set_option maxHeartbeats 4000000 in
set_option maxRecDepth 100000 in
theorem w_F_family_o_16 (l : Launch) {p : Program} {e : Env} {s : State} {m : MethodId} {args : Array Value} {below : List Frame} {meth : Method} {c : Code} {dC : Nat → ClassId} {dI : Nat → Nat → Nat} {ad : Nat → Nat → Nat} {A : Nat → Prop} (C0 : zC p s m args meth c cF_family_o 2 RF zT (some .int) A) (hE : zE ad A s) (a_this : Nat) (a_reader : Nat) (a_families : Nat) (a_handMade : Nat) (a_maker : Nat) (a_maker_print : Nat) (a_reader_words : Nat) (a_reader_words_units : Nat) (a_families_at : Nat) (a_families_at_values : Nat) (a_families_at_letters : Nat) (k_families : ClassId) (k_reader_words_units : ClassId) (k_families_at_values : ClassId) (k_families_at_letters : ClassId) (v_this_familyCount : Int32) (v_families : Nat → Option Nat) (v_reader_toldKeys : Int32) (v_reader_words_length : Int32) (v_reader_words_start : Int32) (v_reader_words_end : Int32) (v_reader_words_place : Int32) (v_reader_words_units : Nat → Int32) (v_families_at_letterCount : Int32) (v_families_at_kind : Nat) (v_families_at_values : Nat → Int32) (v_families_at_letters : Nat → Int32) (post : Int32 → Int32 → Int32 → Int32 → Int32 → Int32 → Int32 → Int32 → Nat → (Nat → Int32) → (Nat → Int32) → Prop) (hK : va_K (dC, dI) vwCl [(k_families, .object "FootprintRules$Family"), (k_reader_words_units, .char), (k_families_at_values, .int), (k_families_at_letters, .char)] s) : ∀  (H : Heap) (locs : List Loc), P_F_family_o_16 post → va_P (dC, dI) vwCl (w_F_family_o ad a_this a_reader a_families a_handMade a_maker a_maker_print a_reader_words a_reader_words_units a_families_at a_families_at_values a_families_at_letters k_families k_reader_words_units k_families_at_values k_families_at_letters v_this_familyCount v_families v_reader_toldKeys v_reader_words_length v_reader_words_start v_reader_words_end v_reader_words_place v_reader_words_units v_families_at_letterCount v_families_at_kind v_families_at_values v_families_at_letters) H → va_D A (w_F_family_o ad a_this a_reader a_families a_handMade a_maker a_maker_print a_reader_words a_reader_words_units a_families_at a_families_at_values a_families_at_letters k_families k_reader_words_units k_families_at_values k_families_at_letters v_this_familyCount v_families v_reader_toldKeys v_reader_words_length v_reader_words_start v_reader_words_end v_reader_words_place v_reader_words_units v_families_at_letterCount v_families_at_kind v_families_at_values v_families_at_letters) → va_S A s.heap H locs → ∀ ls : Array Slot, lv_has ls 2 [] → W p l e (headSpec wsF_family_o { frames := 7, cells := 0, slots := 0, locals := 152 }).room s m args below meth c H locs 0 0 (MQ below (va_Qi (fun (r : Int32) (u : Int32 × Int32 × Int32 × Int32 × Int32 × Int32 × Int32 × Nat × (Nat → Int32) × (Nat → Int32)) => post r u.1 u.2.1 u.2.2.1 u.2.2.2.1 u.2.2.2.2.1 u.2.2.2.2.2.1 u.2.2.2.2.2.2.1 u.2.2.2.2.2.2.2.1 u.2.2.2.2.2.2.2.2.1 u.2.2.2.2.2.2.2.2.2) (zB (dC, dI) A (fun (u : Int32 × Int32 × Int32 × Int32 × Int32 × Int32 × Int32 × Nat × (Nat → Int32) × (Nat → Int32)) => (w_F_family_o ad a_this a_reader a_families a_handMade a_maker a_maker_print a_reader_words a_reader_words_units a_families_at a_families_at_values a_families_at_letters k_families k_reader_words_units k_families_at_values k_families_at_letters u.1 v_families u.2.1 u.2.2.1 u.2.2.2.1 u.2.2.2.2.1 u.2.2.2.2.2.1 v_reader_words_units u.2.2.2.2.2.2.1 u.2.2.2.2.2.2.2.1 u.2.2.2.2.2.2.2.2.1 u.2.2.2.2.2.2.2.2.2))) A) args s 0 0 A) (F0 m 16 ls []) := by
  obtain ⟨hx, hb, hr, hml, hown, hts, hlocks, hA⟩ := id C0
  intro  H locs h hP hD hS ls hl
  unfold P_F_family_o_16 at h
  exact False.elim h
def P_F_family_o (a_families_at : Nat) (v_this_familyCount : Int32) (v_families : Nat → Option Nat) (v_reader_words_length : Int32) (v_reader_words_units : Nat → Int32) (v_families_at_letterCount : Int32) (v_families_at_kind : Nat) (v_families_at_values : Nat → Int32) (v_families_at_letters : Nat → Int32) (post : Int32 → Int32 → Int32 → Int32 → Int32 → Int32 → Int32 → Int32 → Nat → (Nat → Int32) → (Nat → Int32) → Prop) : Prop := ((v_this_familyCount < 0 → P_F_family_o_16 post) ∧ (¬ v_this_familyCount < 0 → ((v_this_familyCount < 8 → vp_in v_this_familyCount 8 ∧ v_families v_this_familyCount.toNatClampNeg = some a_families_at ∧ P_FR_read v_reader_words_length v_reader_words_units v_families_at_letterCount v_families_at_kind v_families_at_values v_families_at_letters (fun (r13 : Int32) (u5 : Int32) (u6 : Int32) (u7 : Int32) (u8 : Int32) (u9 : Int32) (u10 : Nat) (u11 : Nat → Int32) (u12 : Nat → Int32) => P_Wo_drop (fun (u14 : Int32) => ((r13 = (-1) → ∀ x16 : Int32, x16 = v_this_familyCount + 1 → post (x16 - 1) x16 u5 u14 u6 u7 u8 u9 u10 u11 u12) ∧ (¬ r13 = (-1) → post ((-1) - r13) v_this_familyCount u5 u14 u6 u7 u8 u9 u10 u11 u12))))) ∧ (¬ v_this_familyCount < 8 → P_F_family_o_16 post))))
set_option maxHeartbeats 4000000 in
set_option maxRecDepth 100000 in
theorem c_F_family_o (l : Launch) (dC : Nat → ClassId) (dI : Nat → Nat → Nat) (ad : Nat → Nat → Nat) (a_this : Nat) (a_reader : Nat) (a_families : Nat) (a_handMade : Nat) (a_maker : Nat) (a_maker_print : Nat) (a_reader_words : Nat) (a_reader_words_units : Nat) (a_families_at : Nat) (a_families_at_values : Nat) (a_families_at_letters : Nat) (k_families : ClassId) (k_reader_words_units : ClassId) (k_families_at_values : ClassId) (k_families_at_letters : ClassId) (sz : Nat) (v_this_familyCount : Int32) (v_families : Nat → Option Nat) (v_reader_toldKeys : Int32) (v_reader_words_length : Int32) (v_reader_words_start : Int32) (v_reader_words_end : Int32) (v_reader_words_place : Int32) (v_reader_words_units : Nat → Int32) (v_families_at_letterCount : Int32) (v_families_at_kind : Nat) (v_families_at_values : Nat → Int32) (v_families_at_letters : Nat → Int32) (post : Int32 → Int32 → Int32 → Int32 → Int32 → Int32 → Int32 → Int32 → Nat → (Nat → Int32) → (Nat → Int32) → Prop) (h : P_F_family_o a_families_at v_this_familyCount v_families v_reader_words_length v_reader_words_units v_families_at_letterCount v_families_at_kind v_families_at_values v_families_at_letters post) : zMi l yF_family_o wsF_family_o { frames := 7, cells := 0, slots := 0, locals := 152 } (dC, dI) ad [.ref a_this] (w_F_family_o ad a_this a_reader a_families a_handMade a_maker a_maker_print a_reader_words a_reader_words_units a_families_at a_families_at_values a_families_at_letters k_families k_reader_words_units k_families_at_values k_families_at_letters v_this_familyCount v_families v_reader_toldKeys v_reader_words_length v_reader_words_start v_reader_words_end v_reader_words_place v_reader_words_units v_families_at_letterCount v_families_at_kind v_families_at_values v_families_at_letters) [(k_families, .object "FootprintRules$Family"), (k_reader_words_units, .char), (k_families_at_values, .int), (k_families_at_letters, .char)] sz (fun (r : Int32) (u : Int32 × Int32 × Int32 × Int32 × Int32 × Int32 × Int32 × Nat × (Nat → Int32) × (Nat → Int32)) => post r u.1 u.2.1 u.2.2.1 u.2.2.2.1 u.2.2.2.2.1 u.2.2.2.2.2.1 u.2.2.2.2.2.2.1 u.2.2.2.2.2.2.2.1 u.2.2.2.2.2.2.2.2.1 u.2.2.2.2.2.2.2.2.2) (fun (u : Int32 × Int32 × Int32 × Int32 × Int32 × Int32 × Int32 × Nat × (Nat → Int32) × (Nat → Int32)) => (w_F_family_o ad a_this a_reader a_families a_handMade a_maker a_maker_print a_reader_words a_reader_words_units a_families_at a_families_at_values a_families_at_letters k_families k_reader_words_units k_families_at_values k_families_at_letters u.1 v_families u.2.1 u.2.2.1 u.2.2.2.1 u.2.2.2.2.1 u.2.2.2.2.2.1 v_reader_words_units u.2.2.2.2.2.2.1 u.2.2.2.2.2.2.2.1 u.2.2.2.2.2.2.2.2.1 u.2.2.2.2.2.2.2.2.2)) 0 0 := by
  refine Met.ofW (cc := cF_family_o) (maxL := 2) (ret := (some .int)) (by decide +kernel) rfl ?_
  intro p e s m args below meth c s₁ B hml hv
  obtain ⟨rfl, hsz, hP, hK, hD0, hE⟩ := hv
  have hx := B.exec
  have hb := B.bytes
  have hr := B.returns
  have hts0 := atoms_spec (ws := wsF_family_o) B.pre
  have hts := fun w h => hts0 w (List.mem_cons_of_mem _ h)
  have hown : s.vm.findClass RF = some m.cls := findClass_of_methodNamed B.named
  have hlocks := B.notSynchronized
  subst hsz
  have hD := hD0.self (sz := s.heap.size)
  generalize hAe : va_A (w_F_family_o ad a_this a_reader a_families a_handMade a_maker a_maker_print a_reader_words a_reader_words_units a_families_at a_families_at_values a_families_at_letters k_families k_reader_words_units k_families_at_values k_families_at_letters v_this_familyCount v_families v_reader_toldKeys v_reader_words_length v_reader_words_start v_reader_words_end v_reader_words_place v_reader_words_units v_families_at_letterCount v_families_at_kind v_families_at_values v_families_at_letters) s.heap.size = A at hD hE ⊢
  have hA : ∀ q : Nat, s.heap.size ≤ q → A q := fun q h => by rw [← hAe]; exact Or.inr h
  have C0 := zC.mk hx hb hr hml hown hts hlocks hA
  have hS : va_S A s.heap s.heap [] := va_S.rf
  have hl := lv_entry ([.ref a_this]) (n := 2) (Nat.le_of_ble_eq_true rfl)
  rw [lg_entry_eq]
  generalize (lg_sl ([.ref a_this]) ++ List.replicate (2 - (lg_sl ([.ref a_this])).length) Slot.unset).toArray = ls at hl ⊢
  have hl : lv_has ls 2 [(0, .ref a_this)] := hl
  unfold P_F_family_o at h
  refine lv_aload_n hx hb dF_family_o_0 rfl (lv_at hl 0 rfl) ?_
  refine va_get (D := (dC, dI)) (ci := 9) (v := .int v_this_familyCount) (C := RF) (T := TF) (N := 6) hx hb hts inZ_F hown hK hP 0 rfl rfl 2 (by decide) (hts _ zw_374) (fun _ h9 => h9) rfl dF_family_o_1 ?_
  refine lv_if_lt (tgt := 16) hx hb dF_family_o_4 (by decide) ?_ ?_
  · intro c1
    replace h := h.1 c1
    exact w_F_family_o_16 l C0 hE a_this a_reader a_families a_handMade a_maker a_maker_print a_reader_words a_reader_words_units a_families_at a_families_at_values a_families_at_letters k_families k_reader_words_units k_families_at_values k_families_at_letters v_this_familyCount v_families v_reader_toldKeys v_reader_words_length v_reader_words_start v_reader_words_end v_reader_words_place v_reader_words_units v_families_at_letterCount v_families_at_kind v_families_at_values v_families_at_letters post hK _ _ h hP hD hS ls (lv_sub hl [] rfl)
  · intro c1
    replace h := h.2 c1
    refine lv_aload_n hx hb dF_family_o_7 rfl (lv_at hl 0 rfl) ?_
    refine va_get (D := (dC, dI)) (ci := 9) (v := .int v_this_familyCount) (C := RF) (T := TF) (N := 6) hx hb hts inZ_F hown hK hP 0 rfl rfl 2 (by decide) (hts _ zw_374) (fun _ h9 => h9) rfl dF_family_o_8 ?_
    refine lv_bipush (v := 8) hx hb dF_family_o_11 (by decide) ?_
    refine lv_icmp_lt (tgt := 26) hx hb dF_family_o_13 (by decide) ?_ ?_
    · intro c2
      replace h := h.1 c2
      refine lv_aload_n hx hb dF_family_o_26 rfl (lv_at hl 0 rfl) ?_
      refine va_get (D := (dC, dI)) (ci := 9) (v := .ref a_reader) (C := RF) (T := TF) (N := 6) hx hb hts inZ_F hown hK hP 0 rfl rfl 0 (by decide) (hts _ zw_372) (fun _ h9 => h9) rfl dF_family_o_27 ?_
      refine lv_aload_n hx hb dF_family_o_30 rfl (lv_at hl 0 rfl) ?_
      refine va_get (D := (dC, dI)) (ci := 9) (v := .ref a_families) (C := RF) (T := TF) (N := 6) hx hb hts inZ_F hown hK hP 0 rfl rfl 1 (by decide) (hts _ zw_373) (fun _ h9 => h9) rfl dF_family_o_31 ?_
      refine lv_aload_n hx hb dF_family_o_34 rfl (lv_at hl 0 rfl) ?_
      refine va_get (D := (dC, dI)) (ci := 9) (v := .int v_this_familyCount) (C := RF) (T := TF) (N := 6) hx hb hts inZ_F hown hK hP 0 rfl rfl 2 (by decide) (hts _ zw_374) (fun _ h9 => h9) rfl dF_family_o_35 ?_
      obtain ⟨hn3, h⟩ := h
      obtain ⟨hn4, h⟩ := h
      refine va_aldq hx hb hK hP 1 0 rfl rfl hn3 dF_family_o_38 ?_
      rw [hn4]
      refine W.eq (g2 := F0 m 39 ls [.ref a_families_at, .ref a_reader]) rfl ?_
      refine zcall_i hP hD hS hA [2, 3, 4, 5, 6, 7] [0, 1] (va_runVN (As := [.ref a_families_at]) (rest := []) ⟨hx, hb, hml, hown, hts⟩ (c_FR_read l dC dI ad a_reader a_reader_words a_reader_words_units a_families_at a_families_at_values a_families_at_letters k_reader_words_units k_families_at_values k_families_at_letters _ v_reader_toldKeys v_reader_words_length v_reader_words_start v_reader_words_end v_reader_words_place v_reader_words_units v_families_at_letterCount v_families_at_kind v_families_at_values v_families_at_letters _ h) ⟨va_cnB 1 hts (zgood zc_FR_read) rfl rfl rfl (hE.nw _ zn_495) (hts _ zw_96) (by decide +kernel) ⟨Nat.le_of_ble_eq_true rfl, Nat.le_of_ble_eq_true rfl⟩, (hts _ zw_497), (hts _ zw_6)⟩ (zpreV hE hK hP hD hS hA [2, 3, 4, 5, 6, 7] [1, 2, 3] (by rfl) (by rfl) (by decide) (ci := 1) (q0 := 2) rfl (by rfl)) rfl rfl hl.1 rfl (lv_room (Nat.le_of_ble_eq_true rfl)) dF_family_o_39 ⟨Nat.le_of_ble_eq_true rfl, Nat.le_of_ble_eq_true rfl⟩) (by rfl) (by rfl) (by decide) (by decide) (fun r13 u H locs h hP hD hS => ?_)
      obtain ⟨u5, u6, u7, u8, u9, u10, u11, u12⟩ := u
      try dsimp only at h
      have hP := hP.sub (ws' := (w_F_family_o ad a_this a_reader a_families a_handMade a_maker a_maker_print a_reader_words a_reader_words_units a_families_at a_families_at_values a_families_at_letters k_families k_reader_words_units k_families_at_values k_families_at_letters v_this_familyCount v_families u5 v_reader_words_length u6 u7 u8 v_reader_words_units u9 u10 u11 u12)) [0, 1, 2, 3, 4, 5, 6, 7] rfl
      have hD := hD.sub (ws' := (w_F_family_o ad a_this a_reader a_families a_handMade a_maker a_maker_print a_reader_words a_reader_words_units a_families_at a_families_at_values a_families_at_letters k_families k_reader_words_units k_families_at_values k_families_at_letters v_this_familyCount v_families u5 v_reader_words_length u6 u7 u8 v_reader_words_units u9 u10 u11 u12)) [0, 1, 2, 3, 4, 5, 6, 7] (by decide) rfl
      refine lv_istore_n (lv' := [(1, .int r13), (0, .ref a_this)]) hx hb dF_family_o_42 rfl hl (by decide) rfl (fun ls hl => ?_)
      refine lv_aload_n hx hb dF_family_o_43 rfl (lv_at hl 1 rfl) ?_
      refine va_get (D := (dC, dI)) (ci := 9) (v := .ref a_reader) (C := RF) (T := TF) (N := 6) hx hb hts inZ_F hown hK hP 0 rfl rfl 0 (by decide) (hts _ zw_372) (fun _ h9 => h9) rfl dF_family_o_44 ?_
      refine va_getN (D := (dC, dI)) (ci := 1) (v := .ref a_reader_words) (C := RFR) (T := TFR) (N := 2) hx hb hts inZ_FR hown hK hP 2 rfl rfl 0 (by decide) ((hE.nw _ zn_159).use rfl) (fun _ h9 => h9) rfl dF_family_o_47 ?_
      refine zcall_v hP hD hS hA [3] [0, 1, 2, 4, 5, 6, 7] (va_runVN (As := []) (rest := []) ⟨hx, hb, hml, hown, hts⟩ (c_Wo_drop l dC dI ad a_reader_words a_reader_words_units _ v_reader_words_length u6 u7 u8 _ h) ⟨va_cnB 0 hts (zgood zc_Wo_drop) rfl rfl rfl (hE.nw _ zn_403) (hts _ zw_97) (by decide +kernel) ⟨Nat.le_of_ble_eq_true rfl, Nat.le_of_ble_eq_true rfl⟩, (hts _ zw_405), (hts _ zw_1)⟩ (zpreV hE hK hP hD hS hA [3] [] (by rfl) (by rfl) (by decide) (ci := 0) (q0 := 3) rfl (by rfl)) rfl rfl hl.1 rfl (lv_room (Nat.le_of_ble_eq_true rfl)) dF_family_o_50 ⟨Nat.le_of_ble_eq_true rfl, Nat.le_of_ble_eq_true rfl⟩) (by rfl) (by rfl) (by decide) (by decide) (fun u14 H locs h hP hD hS => ?_)
      try dsimp only at h
      have hP := hP.sub (ws' := (w_F_family_o ad a_this a_reader a_families a_handMade a_maker a_maker_print a_reader_words a_reader_words_units a_families_at a_families_at_values a_families_at_letters k_families k_reader_words_units k_families_at_values k_families_at_letters v_this_familyCount v_families u5 u14 u6 u7 u8 v_reader_words_units u9 u10 u11 u12)) [0, 1, 2, 7, 3, 4, 5, 6] rfl
      have hD := hD.sub (ws' := (w_F_family_o ad a_this a_reader a_families a_handMade a_maker a_maker_print a_reader_words a_reader_words_units a_families_at a_families_at_values a_families_at_letters k_families k_reader_words_units k_families_at_values k_families_at_letters v_this_familyCount v_families u5 u14 u6 u7 u8 v_reader_words_units u9 u10 u11 u12)) [0, 1, 2, 7, 3, 4, 5, 6] (by decide) rfl
      refine lv_iload_n hx hb dF_family_o_53 rfl (lv_at hl 0 rfl) ?_
      refine lv_iconst (v := (-1)) hx hb dF_family_o_54 (by decide) ?_
      refine lv_icmp_eq (tgt := 62) hx hb dF_family_o_55 (by decide) ?_ ?_
      · intro c15
        replace h := h.1 c15
        refine lv_aload_n hx hb dF_family_o_62 rfl (lv_at hl 1 rfl) ?_
        refine lv_dup hx hb dF_family_o_63 rfl ?_
        refine va_get (D := (dC, dI)) (ci := 9) (v := .int v_this_familyCount) (C := RF) (T := TF) (N := 6) hx hb hts inZ_F hown hK hP 0 rfl rfl 2 (by decide) (hts _ zw_374) (fun _ h9 => h9) rfl dF_family_o_64 ?_
        refine lv_iconst (v := 1) hx hb dF_family_o_67 (by decide) ?_
        refine lv_iadd hx hb dF_family_o_68 ?_
        refine lv_topi (fun x16 ex16 => ?_)
        replace h := h x16 ex16
        refine va_put (D := (dC, dI)) (ci := 9) (v := .int x16) (ty := .int) (C := RF) (T := TF) (N := 6) hx hb hts inZ_F tyF tyF_ok nmF hown hK hP hD hS 0 rfl rfl 2 (by decide) (hts _ zw_374) (fun _ h9 => h9) rfl (by decide +kernel) rfl rfl (Nat.le_of_ble_eq_true rfl) dF_family_o_69 (fun H locs hP hD hS => ?_)
        have hP : va_P (dC, dI) vwCl (w_F_family_o ad a_this a_reader a_families a_handMade a_maker a_maker_print a_reader_words a_reader_words_units a_families_at a_families_at_values a_families_at_letters k_families k_reader_words_units k_families_at_values k_families_at_letters x16 v_families u5 u14 u6 u7 u8 v_reader_words_units u9 u10 u11 u12) H := hP
        have hD : va_D A (w_F_family_o ad a_this a_reader a_families a_handMade a_maker a_maker_print a_reader_words a_reader_words_units a_families_at a_families_at_values a_families_at_letters k_families k_reader_words_units k_families_at_values k_families_at_letters x16 v_families u5 u14 u6 u7 u8 v_reader_words_units u9 u10 u11 u12) := hD
        refine lv_aload_n hx hb dF_family_o_72 rfl (lv_at hl 1 rfl) ?_
        refine va_get (D := (dC, dI)) (ci := 9) (v := .int x16) (C := RF) (T := TF) (N := 6) hx hb hts inZ_F hown hK hP 0 rfl rfl 2 (by decide) (hts _ zw_374) (fun _ h9 => h9) rfl dF_family_o_73 ?_
        refine lv_iconst (v := 1) hx hb dF_family_o_76 (by decide) ?_
        refine lv_isub hx hb dF_family_o_77 ?_
        exact W.iret (v := (x16 - 1)) hx hb hr (fun t ht hW => ⟨⟨(x16 - 1), (x16, u5, u14, u6, u7, u8, u9, u10, u11, u12), rfl, h, by rw [ht]; exact hP, hD⟩, hS.F ht⟩) hS.2.2 dF_family_o_78
      · intro c15
        replace h := h.2 c15
        refine lv_iconst (v := (-1)) hx hb dF_family_o_58 (by decide) ?_
        refine lv_iload_n hx hb dF_family_o_59 rfl (lv_at hl 0 rfl) ?_
        refine lv_isub hx hb dF_family_o_60 ?_
        exact W.iret (v := ((-1) - r13)) hx hb hr (fun t ht hW => ⟨⟨((-1) - r13), (v_this_familyCount, u5, u14, u6, u7, u8, u9, u10, u11, u12), rfl, h, by rw [ht]; exact hP, hD⟩, hS.F ht⟩) hS.2.2 dF_family_o_61
    · intro c2
      replace h := h.2 c2
      exact w_F_family_o_16 l C0 hE a_this a_reader a_families a_handMade a_maker a_maker_print a_reader_words a_reader_words_units a_families_at a_families_at_values a_families_at_letters k_families k_reader_words_units k_families_at_values k_families_at_letters v_this_familyCount v_families v_reader_toldKeys v_reader_words_length v_reader_words_start v_reader_words_end v_reader_words_place v_reader_words_units v_families_at_letterCount v_families_at_kind v_families_at_values v_families_at_letters post hK _ _ h hP hD hS ls (lv_sub hl [] rfl)
abbrev yF_family_t : MethodName := ⟨"FootprintRules", "family", "()I"⟩
abbrev cF_family_t : ByteArray := prog_1_method_3_code
abbrev wsF_family_t : List Cond := .code yF_family_t cF_family_t 2 (some .int) :: zT
set_option maxRecDepth 100000 in
theorem zc_F_family_t : Cond.code yF_family_t cF_family_t 2 (some .int) ∈ zT := zm 426 (by rfl) (by rfl)
theorem dF_family_t_0 : decode cF_family_t 0 = .ok (.aload_n 0, 1) := by decide +kernel
theorem dF_family_t_1 : decode cF_family_t 1 = .ok (.getfield 52, 3) := by decide +kernel
theorem dF_family_t_4 : decode cF_family_t 4 = .ok (.ifCond .lt 12, 3) := by decide +kernel
theorem dF_family_t_7 : decode cF_family_t 7 = .ok (.aload_n 0, 1) := by decide +kernel
theorem dF_family_t_8 : decode cF_family_t 8 = .ok (.getfield 52, 3) := by decide +kernel
theorem dF_family_t_11 : decode cF_family_t 11 = .ok (.bipush 8, 2) := by decide +kernel
theorem dF_family_t_13 : decode cF_family_t 13 = .ok (.if_icmp .lt 13, 3) := by decide +kernel
theorem dF_family_t_16 : decode cF_family_t 16 = .ok (.new 56, 3) := by decide +kernel
theorem dF_family_t_19 : decode cF_family_t 19 = .ok (.dup, 1) := by decide +kernel
theorem dF_family_t_20 : decode cF_family_t 20 = .ok (.ldc 58, 2) := by decide +kernel
theorem dF_family_t_22 : decode cF_family_t 22 = .ok (.invokespecial 60, 3) := by decide +kernel
theorem dF_family_t_25 : decode cF_family_t 25 = .ok (.athrow, 1) := by decide +kernel
-- FootprintRules.family()I
abbrev w_F_family_t (ad : Nat → Nat → Nat) (a_this : Nat) (a_reader : Nat) (a_families : Nat) (a_handMade : Nat) (a_maker : Nat) (a_maker_print : Nat)  (v_this_familyCount : Int32) : va_W := [(a_this, .inr (9, [.ref a_reader, .ref a_families, .int v_this_familyCount, .ref a_handMade, .ref a_maker, .ref a_maker_print]))]
def P_F_family_t_16  (post : String → Prop)  : Prop := post "java/lang/IllegalStateException"
set_option maxHeartbeats 4000000 in
set_option maxRecDepth 100000 in
theorem w_F_family_t_16 (l : Launch) {p : Program} {e : Env} {s : State} {m : MethodId} {args : Array Value} {below : List Frame} {meth : Method} {c : Code} {dC : Nat → ClassId} {dI : Nat → Nat → Nat} {ad : Nat → Nat → Nat} {A : Nat → Prop} (hlt : l.stackTraces = false) (hnx : ∀ (k : Nat), ∀ x ∈ c.exceptionTable.toList, covers x k = false) (C0 : zC p s m args meth c cF_family_t 2 RF zT (some .int) A) (hE : zE ad A s) (a_this : Nat) (a_reader : Nat) (a_families : Nat) (a_handMade : Nat) (a_maker : Nat) (a_maker_print : Nat)  (v_this_familyCount : Int32) (post : String → Prop) (hK : va_K (dC, dI) vwCl [] s) : ∀  (H : Heap) (locs : List Loc), P_F_family_t_16 post → va_P (dC, dI) vwCl (w_F_family_t ad a_this a_reader a_families a_handMade a_maker a_maker_print v_this_familyCount) H → va_D A (w_F_family_t ad a_this a_reader a_families a_handMade a_maker a_maker_print v_this_familyCount) → va_S A s.heap H locs → ∀ ls : Array Slot, lv_has ls 2 [] → W p l e (headSpec wsF_family_t { frames := 6, cells := 1, slots := 6, locals := 91 }).room s m args below meth c H locs 0 0 (zQT below (dC, dI) A s (fun (E : String) (u : Unit) => post E) (fun (u : Unit) => (w_F_family_t ad a_this a_reader a_families a_handMade a_maker a_maker_print v_this_familyCount)) 1 6) (F0 m 16 ls []) := by
  obtain ⟨hx, hb, hr, hml, hown, hts, hlocks, hA⟩ := id C0
  intro  H locs h hP hD hS ls hl
  unfold P_F_family_t_16 at h
  exact zt_W (u := (())) (own := RF) (cls := "java/lang/IllegalStateException") (text := "no room for a family") (names := ["java/lang/RuntimeException", "java/lang/Exception"]) (ik := 56) (is := 58) (ic := 60) hx hb hlt hown (by decide +kernel) (by decide +kernel) zat_IllegalStateException hts hE (hts _ zw_427) (hts _ zw_111) (hE.ldc ("FootprintRules", 58, "no room for a family", 0) (by decide)) (hl.1.trans hml.symm) dF_family_t_16 dF_family_t_19 dF_family_t_20 dF_family_t_22 dF_family_t_25 hnx (by decide) (by decide) (by decide) (by decide) hlocks h hP hD hS
def P_F_family_t (v_this_familyCount : Int32) (post : String → Prop) : Prop := ((v_this_familyCount < 0 → P_F_family_t_16 post) ∧ (¬ v_this_familyCount < 0 → ((v_this_familyCount < 8 → False) ∧ (¬ v_this_familyCount < 8 → P_F_family_t_16 post))))
set_option maxHeartbeats 4000000 in
set_option maxRecDepth 100000 in
theorem c_F_family_t (l : Launch) (hlt : l.stackTraces = false) (dC : Nat → ClassId) (dI : Nat → Nat → Nat) (ad : Nat → Nat → Nat) (a_this : Nat) (a_reader : Nat) (a_families : Nat) (a_handMade : Nat) (a_maker : Nat) (a_maker_print : Nat)  (sz : Nat) (v_this_familyCount : Int32) (post : String → Prop) (h : P_F_family_t v_this_familyCount post) : zMT l yF_family_t wsF_family_t { frames := 6, cells := 1, slots := 6, locals := 91 } (dC, dI) ad [.ref a_this] (w_F_family_t ad a_this a_reader a_families a_handMade a_maker a_maker_print v_this_familyCount) [] sz (fun (E : String) (u : Unit) => post E) (fun (u : Unit) => (w_F_family_t ad a_this a_reader a_families a_handMade a_maker a_maker_print v_this_familyCount)) 1 6 := by
  refine zMT.ofW (cc := cF_family_t) (maxL := 2) (ret := (some .int)) (by decide +kernel) rfl ?_
  intro p e s m args below meth c s₁ B hml hnx hv
  obtain ⟨rfl, hsz, hP, hK, hD0, hE⟩ := hv
  have hx := B.exec
  have hb := B.bytes
  have hr := B.returns
  have hts0 := atoms_spec (ws := wsF_family_t) B.pre
  have hts := fun w h => hts0 w (List.mem_cons_of_mem _ h)
  have hown : s.vm.findClass RF = some m.cls := findClass_of_methodNamed B.named
  have hlocks := B.notSynchronized
  subst hsz
  have hD := hD0.self (sz := s.heap.size)
  generalize hAe : va_A (w_F_family_t ad a_this a_reader a_families a_handMade a_maker a_maker_print v_this_familyCount) s.heap.size = A at hD hE ⊢
  have hA : ∀ q : Nat, s.heap.size ≤ q → A q := fun q h => by rw [← hAe]; exact Or.inr h
  have C0 := zC.mk hx hb hr hml hown hts hlocks hA
  have hS : va_S A s.heap s.heap [] := va_S.rf
  have hl := lv_entry ([.ref a_this]) (n := 2) (Nat.le_of_ble_eq_true rfl)
  rw [lg_entry_eq]
  generalize (lg_sl ([.ref a_this]) ++ List.replicate (2 - (lg_sl ([.ref a_this])).length) Slot.unset).toArray = ls at hl ⊢
  have hl : lv_has ls 2 [(0, .ref a_this)] := hl
  unfold P_F_family_t at h
  refine lv_aload_n hx hb dF_family_t_0 rfl (lv_at hl 0 rfl) ?_
  refine va_get (D := (dC, dI)) (ci := 9) (v := .int v_this_familyCount) (C := RF) (T := TF) (N := 6) hx hb hts inZ_F hown hK hP 0 rfl rfl 2 (by decide) (hts _ zw_374) (fun _ h9 => h9) rfl dF_family_t_1 ?_
  refine lv_if_lt (tgt := 16) hx hb dF_family_t_4 (by decide) ?_ ?_
  · intro c1
    replace h := h.1 c1
    exact w_F_family_t_16 l hlt hnx C0 hE a_this a_reader a_families a_handMade a_maker a_maker_print v_this_familyCount post hK _ _ h hP hD hS ls (lv_sub hl [] rfl)
  · intro c1
    replace h := h.2 c1
    refine lv_aload_n hx hb dF_family_t_7 rfl (lv_at hl 0 rfl) ?_
    refine va_get (D := (dC, dI)) (ci := 9) (v := .int v_this_familyCount) (C := RF) (T := TF) (N := 6) hx hb hts inZ_F hown hK hP 0 rfl rfl 2 (by decide) (hts _ zw_374) (fun _ h9 => h9) rfl dF_family_t_8 ?_
    refine lv_bipush (v := 8) hx hb dF_family_t_11 (by decide) ?_
    refine lv_icmp_lt (tgt := 26) hx hb dF_family_t_13 (by decide) ?_ ?_
    · intro c2
      replace h := h.1 c2
      exact False.elim h
    · intro c2
      replace h := h.2 c2
      exact w_F_family_t_16 l hlt hnx C0 hE a_this a_reader a_families a_handMade a_maker a_maker_print v_this_familyCount post hK _ _ h hP hD hS ls (lv_sub hl [] rfl)
abbrev yF_span_o : MethodName := ⟨"FootprintRules", "span", "(IJJ)Z"⟩
abbrev cF_span_o : ByteArray := prog_1_method_4_code
abbrev wsF_span_o : List Cond := .code yF_span_o cF_span_o 6 (some .boolean) :: zT
set_option maxRecDepth 100000 in
theorem zc_F_span_o : Cond.code yF_span_o cF_span_o 6 (some .boolean) ∈ zT := zm 638 (by rfl) (by rfl)
theorem dF_span_o_0 : decode cF_span_o 0 = .ok (.iload_n 1, 1) := by decide +kernel
theorem dF_span_o_1 : decode cF_span_o 1 = .ok (.ifCond .lt 9, 3) := by decide +kernel
theorem dF_span_o_4 : decode cF_span_o 4 = .ok (.iload_n 1, 1) := by decide +kernel
theorem dF_span_o_5 : decode cF_span_o 5 = .ok (.bipush 12, 2) := by decide +kernel
theorem dF_span_o_7 : decode cF_span_o 7 = .ok (.if_icmp .lt 13, 3) := by decide +kernel
theorem dF_span_o_20 : decode cF_span_o 20 = .ok (.lload_n 2, 1) := by decide +kernel
theorem dF_span_o_21 : decode cF_span_o 21 = .ok (.lconst 0, 1) := by decide +kernel
theorem dF_span_o_22 : decode cF_span_o 22 = .ok (.ldc2_w 75, 3) := by decide +kernel
theorem dF_span_o_25 : decode cF_span_o 25 = .ok (.invokestatic 77, 3) := by decide +kernel
theorem dF_span_o_28 : decode cF_span_o 28 = .ok (.ifCond .eq 15, 3) := by decide +kernel
theorem dF_span_o_31 : decode cF_span_o 31 = .ok (.lload 4, 2) := by decide +kernel
theorem dF_span_o_33 : decode cF_span_o 33 = .ok (.lconst 0, 1) := by decide +kernel
theorem dF_span_o_34 : decode cF_span_o 34 = .ok (.ldc2_w 75, 3) := by decide +kernel
theorem dF_span_o_37 : decode cF_span_o 37 = .ok (.invokestatic 77, 3) := by decide +kernel
theorem dF_span_o_40 : decode cF_span_o 40 = .ok (.ifCond .ne 13, 3) := by decide +kernel
theorem dF_span_o_53 : decode cF_span_o 53 = .ok (.aload_n 0, 1) := by decide +kernel
theorem dF_span_o_54 : decode cF_span_o 54 = .ok (.getfield 32, 3) := by decide +kernel
theorem dF_span_o_57 : decode cF_span_o 57 = .ok (.getfield 86, 3) := by decide +kernel
theorem dF_span_o_60 : decode cF_span_o 60 = .ok (.iload_n 1, 1) := by decide +kernel
theorem dF_span_o_61 : decode cF_span_o 61 = .ok (.lload_n 2, 1) := by decide +kernel
theorem dF_span_o_62 : decode cF_span_o 62 = .ok (.lload 4, 2) := by decide +kernel
theorem dF_span_o_64 : decode cF_span_o 64 = .ok (.invokevirtual 90, 3) := by decide +kernel
theorem dF_span_o_67 : decode cF_span_o 67 = .ok (.ireturn, 1) := by decide +kernel
-- FootprintRules.span(IJJ)Z
abbrev w_F_span_o (ad : Nat → Nat → Nat) (a_this : Nat) (a_reader : Nat) (a_families : Nat) (a_handMade : Nat) (a_maker : Nat) (a_maker_print : Nat) (a_maker_spans : Nat) (a_maker_leftOut : Nat) (a_maker_spans_lows : Nat) (a_maker_spans_highs : Nat) (k_maker_spans_lows : ClassId) (k_maker_spans_highs : ClassId) (v_this_familyCount : Int32) (v_maker_rounding : Int64) (v_maker_toe : Int64) (v_maker_heel : Int64) (v_maker_side : Int64) (v_maker_pitch : Int64) (v_maker_outer : Int64) (v_maker_inner : Int64) (v_maker_across : Int64) (v_maker_hole : Int64) (v_maker_spans_toldBits : Int32) (v_maker_spans_exactBits : Int32) (v_maker_spans_lows : Nat → Int64) (v_maker_spans_highs : Nat → Int64) : va_W := [(a_this, .inr (9, [.ref a_reader, .ref a_families, .int v_this_familyCount, .ref a_handMade, .ref a_maker, .ref a_maker_print])), (a_maker, .inr (4, [.ref a_maker_spans, .ref a_maker_leftOut, .ref a_maker_print, .long v_maker_rounding, .long v_maker_toe, .long v_maker_heel, .long v_maker_side, .long v_maker_pitch, .long v_maker_outer, .long v_maker_inner, .long v_maker_across, .long v_maker_hole])), (a_maker_spans, .inr (3, [.ref a_maker_spans_lows, .ref a_maker_spans_highs, .int v_maker_spans_toldBits, .int v_maker_spans_exactBits])), (a_maker_spans_lows, .inl (k_maker_spans_lows, 12, .inr (.inl v_maker_spans_lows))), (a_maker_spans_highs, .inl (k_maker_spans_highs, 12, .inr (.inl v_maker_spans_highs)))]
def P_F_span_o_10  (post : Int32 → Int32 → Int32 → (Nat → Int64) → (Nat → Int64) → Prop)  : Prop := False
set_option maxHeartbeats 4000000 in
set_option maxRecDepth 100000 in
theorem w_F_span_o_10 (l : Launch) {p : Program} {e : Env} {s : State} {m : MethodId} {args : Array Value} {below : List Frame} {meth : Method} {c : Code} {dC : Nat → ClassId} {dI : Nat → Nat → Nat} {ad : Nat → Nat → Nat} {A : Nat → Prop} (C0 : zC p s m args meth c cF_span_o 6 RF zT (some .boolean) A) (hE : zE ad A s) (a_this : Nat) (a_reader : Nat) (a_families : Nat) (a_handMade : Nat) (a_maker : Nat) (a_maker_print : Nat) (a_maker_spans : Nat) (a_maker_leftOut : Nat) (a_maker_spans_lows : Nat) (a_maker_spans_highs : Nat) (k_maker_spans_lows : ClassId) (k_maker_spans_highs : ClassId) (p1 : Int32) (p2 : Int64) (p4 : Int64) (v_this_familyCount : Int32) (v_maker_rounding : Int64) (v_maker_toe : Int64) (v_maker_heel : Int64) (v_maker_side : Int64) (v_maker_pitch : Int64) (v_maker_outer : Int64) (v_maker_inner : Int64) (v_maker_across : Int64) (v_maker_hole : Int64) (v_maker_spans_toldBits : Int32) (v_maker_spans_exactBits : Int32) (v_maker_spans_lows : Nat → Int64) (v_maker_spans_highs : Nat → Int64) (post : Int32 → Int32 → Int32 → (Nat → Int64) → (Nat → Int64) → Prop) (hK : va_K (dC, dI) vwCl [(k_maker_spans_lows, .long), (k_maker_spans_highs, .long)] s) : ∀  (H : Heap) (locs : List Loc), P_F_span_o_10 post → va_P (dC, dI) vwCl (w_F_span_o ad a_this a_reader a_families a_handMade a_maker a_maker_print a_maker_spans a_maker_leftOut a_maker_spans_lows a_maker_spans_highs k_maker_spans_lows k_maker_spans_highs v_this_familyCount v_maker_rounding v_maker_toe v_maker_heel v_maker_side v_maker_pitch v_maker_outer v_maker_inner v_maker_across v_maker_hole v_maker_spans_toldBits v_maker_spans_exactBits v_maker_spans_lows v_maker_spans_highs) H → va_D A (w_F_span_o ad a_this a_reader a_families a_handMade a_maker a_maker_print a_maker_spans a_maker_leftOut a_maker_spans_lows a_maker_spans_highs k_maker_spans_lows k_maker_spans_highs v_this_familyCount v_maker_rounding v_maker_toe v_maker_heel v_maker_side v_maker_pitch v_maker_outer v_maker_inner v_maker_across v_maker_hole v_maker_spans_toldBits v_maker_spans_exactBits v_maker_spans_lows v_maker_spans_highs) → va_S A s.heap H locs → ∀ ls : Array Slot, lv_has ls 6 [] → W p l e (headSpec wsF_span_o { frames := 1, cells := 0, slots := 0, locals := 25 }).room s m args below meth c H locs 0 0 (MQ below (va_Qi (fun (r : Int32) (u : Int32 × Int32 × (Nat → Int64) × (Nat → Int64)) => post r u.1 u.2.1 u.2.2.1 u.2.2.2) (zB (dC, dI) A (fun (u : Int32 × Int32 × (Nat → Int64) × (Nat → Int64)) => (w_F_span_o ad a_this a_reader a_families a_handMade a_maker a_maker_print a_maker_spans a_maker_leftOut a_maker_spans_lows a_maker_spans_highs k_maker_spans_lows k_maker_spans_highs v_this_familyCount v_maker_rounding v_maker_toe v_maker_heel v_maker_side v_maker_pitch v_maker_outer v_maker_inner v_maker_across v_maker_hole u.1 u.2.1 u.2.2.1 u.2.2.2))) A) args s 0 0 A) (F0 m 10 ls []) := by
  obtain ⟨hx, hb, hr, hml, hown, hts, hlocks, hA⟩ := id C0
  intro  H locs h hP hD hS ls hl
  unfold P_F_span_o_10 at h
  exact False.elim h
def P_F_span_o_43  (post : Int32 → Int32 → Int32 → (Nat → Int64) → (Nat → Int64) → Prop)  : Prop := False
set_option maxHeartbeats 4000000 in
set_option maxRecDepth 100000 in
theorem w_F_span_o_43 (l : Launch) {p : Program} {e : Env} {s : State} {m : MethodId} {args : Array Value} {below : List Frame} {meth : Method} {c : Code} {dC : Nat → ClassId} {dI : Nat → Nat → Nat} {ad : Nat → Nat → Nat} {A : Nat → Prop} (C0 : zC p s m args meth c cF_span_o 6 RF zT (some .boolean) A) (hE : zE ad A s) (a_this : Nat) (a_reader : Nat) (a_families : Nat) (a_handMade : Nat) (a_maker : Nat) (a_maker_print : Nat) (a_maker_spans : Nat) (a_maker_leftOut : Nat) (a_maker_spans_lows : Nat) (a_maker_spans_highs : Nat) (k_maker_spans_lows : ClassId) (k_maker_spans_highs : ClassId) (p1 : Int32) (p2 : Int64) (p4 : Int64) (v_this_familyCount : Int32) (v_maker_rounding : Int64) (v_maker_toe : Int64) (v_maker_heel : Int64) (v_maker_side : Int64) (v_maker_pitch : Int64) (v_maker_outer : Int64) (v_maker_inner : Int64) (v_maker_across : Int64) (v_maker_hole : Int64) (v_maker_spans_toldBits : Int32) (v_maker_spans_exactBits : Int32) (v_maker_spans_lows : Nat → Int64) (v_maker_spans_highs : Nat → Int64) (post : Int32 → Int32 → Int32 → (Nat → Int64) → (Nat → Int64) → Prop) (hK : va_K (dC, dI) vwCl [(k_maker_spans_lows, .long), (k_maker_spans_highs, .long)] s) : ∀  (H : Heap) (locs : List Loc), P_F_span_o_43 post → va_P (dC, dI) vwCl (w_F_span_o ad a_this a_reader a_families a_handMade a_maker a_maker_print a_maker_spans a_maker_leftOut a_maker_spans_lows a_maker_spans_highs k_maker_spans_lows k_maker_spans_highs v_this_familyCount v_maker_rounding v_maker_toe v_maker_heel v_maker_side v_maker_pitch v_maker_outer v_maker_inner v_maker_across v_maker_hole v_maker_spans_toldBits v_maker_spans_exactBits v_maker_spans_lows v_maker_spans_highs) H → va_D A (w_F_span_o ad a_this a_reader a_families a_handMade a_maker a_maker_print a_maker_spans a_maker_leftOut a_maker_spans_lows a_maker_spans_highs k_maker_spans_lows k_maker_spans_highs v_this_familyCount v_maker_rounding v_maker_toe v_maker_heel v_maker_side v_maker_pitch v_maker_outer v_maker_inner v_maker_across v_maker_hole v_maker_spans_toldBits v_maker_spans_exactBits v_maker_spans_lows v_maker_spans_highs) → va_S A s.heap H locs → ∀ ls : Array Slot, lv_has ls 6 [] → W p l e (headSpec wsF_span_o { frames := 1, cells := 0, slots := 0, locals := 25 }).room s m args below meth c H locs 0 0 (MQ below (va_Qi (fun (r : Int32) (u : Int32 × Int32 × (Nat → Int64) × (Nat → Int64)) => post r u.1 u.2.1 u.2.2.1 u.2.2.2) (zB (dC, dI) A (fun (u : Int32 × Int32 × (Nat → Int64) × (Nat → Int64)) => (w_F_span_o ad a_this a_reader a_families a_handMade a_maker a_maker_print a_maker_spans a_maker_leftOut a_maker_spans_lows a_maker_spans_highs k_maker_spans_lows k_maker_spans_highs v_this_familyCount v_maker_rounding v_maker_toe v_maker_heel v_maker_side v_maker_pitch v_maker_outer v_maker_inner v_maker_across v_maker_hole u.1 u.2.1 u.2.2.1 u.2.2.2))) A) args s 0 0 A) (F0 m 43 ls []) := by
  obtain ⟨hx, hb, hr, hml, hown, hts, hlocks, hA⟩ := id C0
  intro  H locs h hP hD hS ls hl
  unfold P_F_span_o_43 at h
  exact False.elim h
def P_F_span_o (p1 : Int32) (p2 : Int64) (p4 : Int64) (v_maker_spans_toldBits : Int32) (v_maker_spans_exactBits : Int32) (v_maker_spans_lows : Nat → Int64) (v_maker_spans_highs : Nat → Int64) (post : Int32 → Int32 → Int32 → (Nat → Int64) → (Nat → Int64) → Prop) : Prop := ((p1 < 0 → P_F_span_o_10 post) ∧ (¬ p1 < 0 → ((p1 < 12 → P_F_isWithin p2 0 100000000 (fun (r3 : Int32) => ((r3 = 0 → P_F_span_o_43 post) ∧ (¬ r3 = 0 → P_F_isWithin p4 0 100000000 (fun (r5 : Int32) => ((¬ r5 = 0 → P_Sp_tell p1 p2 p4 v_maker_spans_toldBits v_maker_spans_exactBits v_maker_spans_lows v_maker_spans_highs (fun (r11 : Int32) (u7 : Int32) (u8 : Int32) (u9 : Nat → Int64) (u10 : Nat → Int64) => narrow .boolean (.int r11) = .int r11 ∧ post r11 u7 u8 u9 u10)) ∧ (r5 = 0 → P_F_span_o_43 post))))))) ∧ (¬ p1 < 12 → P_F_span_o_10 post))))
set_option maxHeartbeats 4000000 in
set_option maxRecDepth 100000 in
theorem c_F_span_o (l : Launch) (dC : Nat → ClassId) (dI : Nat → Nat → Nat) (ad : Nat → Nat → Nat) (a_this : Nat) (a_reader : Nat) (a_families : Nat) (a_handMade : Nat) (a_maker : Nat) (a_maker_print : Nat) (a_maker_spans : Nat) (a_maker_leftOut : Nat) (a_maker_spans_lows : Nat) (a_maker_spans_highs : Nat) (k_maker_spans_lows : ClassId) (k_maker_spans_highs : ClassId) (sz : Nat) (p1 : Int32) (p2 : Int64) (p4 : Int64) (v_this_familyCount : Int32) (v_maker_rounding : Int64) (v_maker_toe : Int64) (v_maker_heel : Int64) (v_maker_side : Int64) (v_maker_pitch : Int64) (v_maker_outer : Int64) (v_maker_inner : Int64) (v_maker_across : Int64) (v_maker_hole : Int64) (v_maker_spans_toldBits : Int32) (v_maker_spans_exactBits : Int32) (v_maker_spans_lows : Nat → Int64) (v_maker_spans_highs : Nat → Int64) (post : Int32 → Int32 → Int32 → (Nat → Int64) → (Nat → Int64) → Prop) (h : P_F_span_o p1 p2 p4 v_maker_spans_toldBits v_maker_spans_exactBits v_maker_spans_lows v_maker_spans_highs post) : zMi l yF_span_o wsF_span_o { frames := 1, cells := 0, slots := 0, locals := 25 } (dC, dI) ad [.ref a_this, .int p1, .long p2, .long p4] (w_F_span_o ad a_this a_reader a_families a_handMade a_maker a_maker_print a_maker_spans a_maker_leftOut a_maker_spans_lows a_maker_spans_highs k_maker_spans_lows k_maker_spans_highs v_this_familyCount v_maker_rounding v_maker_toe v_maker_heel v_maker_side v_maker_pitch v_maker_outer v_maker_inner v_maker_across v_maker_hole v_maker_spans_toldBits v_maker_spans_exactBits v_maker_spans_lows v_maker_spans_highs) [(k_maker_spans_lows, .long), (k_maker_spans_highs, .long)] sz (fun (r : Int32) (u : Int32 × Int32 × (Nat → Int64) × (Nat → Int64)) => post r u.1 u.2.1 u.2.2.1 u.2.2.2) (fun (u : Int32 × Int32 × (Nat → Int64) × (Nat → Int64)) => (w_F_span_o ad a_this a_reader a_families a_handMade a_maker a_maker_print a_maker_spans a_maker_leftOut a_maker_spans_lows a_maker_spans_highs k_maker_spans_lows k_maker_spans_highs v_this_familyCount v_maker_rounding v_maker_toe v_maker_heel v_maker_side v_maker_pitch v_maker_outer v_maker_inner v_maker_across v_maker_hole u.1 u.2.1 u.2.2.1 u.2.2.2)) 0 0 := by
  refine Met.ofW (cc := cF_span_o) (maxL := 6) (ret := (some .boolean)) (by decide +kernel) rfl ?_
  intro p e s m args below meth c s₁ B hml hv
  obtain ⟨rfl, hsz, hP, hK, hD0, hE⟩ := hv
  have hx := B.exec
  have hb := B.bytes
  have hr := B.returns
  have hts0 := atoms_spec (ws := wsF_span_o) B.pre
  have hts := fun w h => hts0 w (List.mem_cons_of_mem _ h)
  have hown : s.vm.findClass RF = some m.cls := findClass_of_methodNamed B.named
  have hlocks := B.notSynchronized
  subst hsz
  have hD := hD0.self (sz := s.heap.size)
  generalize hAe : va_A (w_F_span_o ad a_this a_reader a_families a_handMade a_maker a_maker_print a_maker_spans a_maker_leftOut a_maker_spans_lows a_maker_spans_highs k_maker_spans_lows k_maker_spans_highs v_this_familyCount v_maker_rounding v_maker_toe v_maker_heel v_maker_side v_maker_pitch v_maker_outer v_maker_inner v_maker_across v_maker_hole v_maker_spans_toldBits v_maker_spans_exactBits v_maker_spans_lows v_maker_spans_highs) s.heap.size = A at hD hE ⊢
  have hA : ∀ q : Nat, s.heap.size ≤ q → A q := fun q h => by rw [← hAe]; exact Or.inr h
  have C0 := zC.mk hx hb hr hml hown hts hlocks hA
  have hS : va_S A s.heap s.heap [] := va_S.rf
  have hl := lv_entry ([.ref a_this, .int p1, .long p2, .long p4]) (n := 6) (Nat.le_of_ble_eq_true rfl)
  rw [lg_entry_eq]
  generalize (lg_sl ([.ref a_this, .int p1, .long p2, .long p4]) ++ List.replicate (6 - (lg_sl ([.ref a_this, .int p1, .long p2, .long p4])).length) Slot.unset).toArray = ls at hl ⊢
  have hl : lv_has ls 6 [(0, .ref a_this), (1, .int p1), (2, .long p2), (4, .long p4)] := hl
  unfold P_F_span_o at h
  refine lv_iload_n hx hb dF_span_o_0 rfl (lv_at hl 1 rfl) ?_
  refine lv_if_lt (tgt := 10) hx hb dF_span_o_1 (by decide) ?_ ?_
  · intro c1
    replace h := h.1 c1
    exact w_F_span_o_10 l C0 hE a_this a_reader a_families a_handMade a_maker a_maker_print a_maker_spans a_maker_leftOut a_maker_spans_lows a_maker_spans_highs k_maker_spans_lows k_maker_spans_highs p1 p2 p4 v_this_familyCount v_maker_rounding v_maker_toe v_maker_heel v_maker_side v_maker_pitch v_maker_outer v_maker_inner v_maker_across v_maker_hole v_maker_spans_toldBits v_maker_spans_exactBits v_maker_spans_lows v_maker_spans_highs post hK _ _ h hP hD hS ls (lv_sub hl [] rfl)
  · intro c1
    replace h := h.2 c1
    refine lv_iload_n hx hb dF_span_o_4 rfl (lv_at hl 1 rfl) ?_
    refine lv_bipush (v := 12) hx hb dF_span_o_5 (by decide) ?_
    refine lv_icmp_lt (tgt := 20) hx hb dF_span_o_7 (by decide) ?_ ?_
    · intro c2
      replace h := h.1 c2
      refine lv_lload_n hx hb dF_span_o_20 rfl (lv_at hl 2 rfl) ?_
      refine lv_lconst (v := 0) hx hb dF_span_o_21 (by decide) ?_
      refine lv_ldc2 (own := RF) (index := 75) (v := 100000000) hx hb hown (hts _ zw_655) dF_span_o_22 ?_
      refine zcall_i hP hD hS hA [] [0, 1, 2, 3, 4] (va_runS (As := [.long p2, .long 0, .long 100000000]) (rest := []) ⟨hx, hb, hml, hown, hts⟩ (c_F_isWithin l dC dI ad _ p2 0 100000000 _ h) ⟨callB_of 3 hts (zgood zc_F_isWithin) rfl rfl rfl (hts _ zw_95) (hts _ zw_656) (by decide +kernel) ⟨Nat.le_of_ble_eq_true rfl, Nat.le_of_ble_eq_true rfl⟩, (hts _ zw_657)⟩ (zpreS hE hK hP hD hS hA [] [] (by rfl) (by rfl) (by decide)) rfl rfl hl.1 rfl (lv_room (Nat.le_of_ble_eq_true rfl)) dF_span_o_25 ⟨Nat.le_of_ble_eq_true rfl, Nat.le_of_ble_eq_true rfl⟩) (by rfl) (by rfl) (by decide) (by decide) (fun r3 u H locs h hP hD hS => ?_)
      try dsimp only at h
      have hP := hP.sub (ws' := (w_F_span_o ad a_this a_reader a_families a_handMade a_maker a_maker_print a_maker_spans a_maker_leftOut a_maker_spans_lows a_maker_spans_highs k_maker_spans_lows k_maker_spans_highs v_this_familyCount v_maker_rounding v_maker_toe v_maker_heel v_maker_side v_maker_pitch v_maker_outer v_maker_inner v_maker_across v_maker_hole v_maker_spans_toldBits v_maker_spans_exactBits v_maker_spans_lows v_maker_spans_highs)) [0, 1, 2, 3, 4] rfl
      have hD := hD.sub (ws' := (w_F_span_o ad a_this a_reader a_families a_handMade a_maker a_maker_print a_maker_spans a_maker_leftOut a_maker_spans_lows a_maker_spans_highs k_maker_spans_lows k_maker_spans_highs v_this_familyCount v_maker_rounding v_maker_toe v_maker_heel v_maker_side v_maker_pitch v_maker_outer v_maker_inner v_maker_across v_maker_hole v_maker_spans_toldBits v_maker_spans_exactBits v_maker_spans_lows v_maker_spans_highs)) [0, 1, 2, 3, 4] (by decide) rfl
      refine lv_if_eq (tgt := 43) hx hb dF_span_o_28 (by decide) ?_ ?_
      · intro c4
        replace h := h.1 c4
        exact w_F_span_o_43 l C0 hE a_this a_reader a_families a_handMade a_maker a_maker_print a_maker_spans a_maker_leftOut a_maker_spans_lows a_maker_spans_highs k_maker_spans_lows k_maker_spans_highs p1 p2 p4 v_this_familyCount v_maker_rounding v_maker_toe v_maker_heel v_maker_side v_maker_pitch v_maker_outer v_maker_inner v_maker_across v_maker_hole v_maker_spans_toldBits v_maker_spans_exactBits v_maker_spans_lows v_maker_spans_highs post hK _ _ h hP hD hS ls (lv_sub hl [] rfl)
      · intro c4
        replace h := h.2 c4
        refine lv_lload hx hb dF_span_o_31 (lv_at hl 3 rfl) ?_
        refine lv_lconst (v := 0) hx hb dF_span_o_33 (by decide) ?_
        refine lv_ldc2 (own := RF) (index := 75) (v := 100000000) hx hb hown (hts _ zw_655) dF_span_o_34 ?_
        refine zcall_i hP hD hS hA [] [0, 1, 2, 3, 4] (va_runS (As := [.long p4, .long 0, .long 100000000]) (rest := []) ⟨hx, hb, hml, hown, hts⟩ (c_F_isWithin l dC dI ad _ p4 0 100000000 _ h) ⟨callB_of 3 hts (zgood zc_F_isWithin) rfl rfl rfl (hts _ zw_95) (hts _ zw_656) (by decide +kernel) ⟨Nat.le_of_ble_eq_true rfl, Nat.le_of_ble_eq_true rfl⟩, (hts _ zw_657)⟩ (zpreS hE hK hP hD hS hA [] [] (by rfl) (by rfl) (by decide)) rfl rfl hl.1 rfl (lv_room (Nat.le_of_ble_eq_true rfl)) dF_span_o_37 ⟨Nat.le_of_ble_eq_true rfl, Nat.le_of_ble_eq_true rfl⟩) (by rfl) (by rfl) (by decide) (by decide) (fun r5 u H locs h hP hD hS => ?_)
        try dsimp only at h
        have hP := hP.sub (ws' := (w_F_span_o ad a_this a_reader a_families a_handMade a_maker a_maker_print a_maker_spans a_maker_leftOut a_maker_spans_lows a_maker_spans_highs k_maker_spans_lows k_maker_spans_highs v_this_familyCount v_maker_rounding v_maker_toe v_maker_heel v_maker_side v_maker_pitch v_maker_outer v_maker_inner v_maker_across v_maker_hole v_maker_spans_toldBits v_maker_spans_exactBits v_maker_spans_lows v_maker_spans_highs)) [0, 1, 2, 3, 4] rfl
        have hD := hD.sub (ws' := (w_F_span_o ad a_this a_reader a_families a_handMade a_maker a_maker_print a_maker_spans a_maker_leftOut a_maker_spans_lows a_maker_spans_highs k_maker_spans_lows k_maker_spans_highs v_this_familyCount v_maker_rounding v_maker_toe v_maker_heel v_maker_side v_maker_pitch v_maker_outer v_maker_inner v_maker_across v_maker_hole v_maker_spans_toldBits v_maker_spans_exactBits v_maker_spans_lows v_maker_spans_highs)) [0, 1, 2, 3, 4] (by decide) rfl
        refine lv_if_ne (tgt := 53) hx hb dF_span_o_40 (by decide) ?_ ?_
        · intro c6
          replace h := h.1 c6
          refine lv_aload_n hx hb dF_span_o_53 rfl (lv_at hl 0 rfl) ?_
          refine va_get (D := (dC, dI)) (ci := 9) (v := .ref a_maker) (C := RF) (T := TF) (N := 6) hx hb hts inZ_F hown hK hP 0 rfl rfl 4 (by decide) (hts _ zw_376) (fun _ h9 => h9) rfl dF_span_o_54 ?_
          refine va_getN (D := (dC, dI)) (ci := 4) (v := .ref a_maker_spans) (C := RMa) (T := TMa) (N := 12) hx hb hts inZ_Ma hown hK hP 1 rfl rfl 0 (by decide) ((hE.nw _ zn_332).use rfl) (fun _ h9 => h9) rfl dF_span_o_57 ?_
          refine lv_iload_n hx hb dF_span_o_60 rfl (lv_at hl 1 rfl) ?_
          refine lv_lload_n hx hb dF_span_o_61 rfl (lv_at hl 2 rfl) ?_
          refine lv_lload hx hb dF_span_o_62 (lv_at hl 3 rfl) ?_
          refine zcall_i hP hD hS hA [2, 3, 4] [0, 1] (va_runVN (As := [.int p1, .long p2, .long p4]) (rest := []) ⟨hx, hb, hml, hown, hts⟩ (c_Sp_tell l dC dI ad a_maker_spans a_maker_spans_lows a_maker_spans_highs k_maker_spans_lows k_maker_spans_highs _ p1 p2 p4 v_maker_spans_toldBits v_maker_spans_exactBits v_maker_spans_lows v_maker_spans_highs _ h) ⟨va_cnB 3 hts (zgood zc_Sp_tell) rfl rfl rfl (hE.nw _ zn_675) (hts _ zw_100) (by decide +kernel) ⟨Nat.le_of_ble_eq_true rfl, Nat.le_of_ble_eq_true rfl⟩, (hts _ zw_677), (hts _ zw_22)⟩ (zpreV hE hK hP hD hS hA [2, 3, 4] [0, 1] (by rfl) (by rfl) (by decide) (ci := 3) (q0 := 2) rfl (by rfl)) rfl rfl hl.1 rfl (lv_room (Nat.le_of_ble_eq_true rfl)) dF_span_o_64 ⟨Nat.le_of_ble_eq_true rfl, Nat.le_of_ble_eq_true rfl⟩) (by rfl) (by rfl) (by decide) (by decide) (fun r11 u H locs h hP hD hS => ?_)
          obtain ⟨u7, u8, u9, u10⟩ := u
          try dsimp only at h
          have hP := hP.sub (ws' := (w_F_span_o ad a_this a_reader a_families a_handMade a_maker a_maker_print a_maker_spans a_maker_leftOut a_maker_spans_lows a_maker_spans_highs k_maker_spans_lows k_maker_spans_highs v_this_familyCount v_maker_rounding v_maker_toe v_maker_heel v_maker_side v_maker_pitch v_maker_outer v_maker_inner v_maker_across v_maker_hole u7 u8 u9 u10)) [0, 1, 2, 3, 4] rfl
          have hD := hD.sub (ws' := (w_F_span_o ad a_this a_reader a_families a_handMade a_maker a_maker_print a_maker_spans a_maker_leftOut a_maker_spans_lows a_maker_spans_highs k_maker_spans_lows k_maker_spans_highs v_this_familyCount v_maker_rounding v_maker_toe v_maker_heel v_maker_side v_maker_pitch v_maker_outer v_maker_inner v_maker_across v_maker_hole u7 u8 u9 u10)) [0, 1, 2, 3, 4] (by decide) rfl
          obtain ⟨hn12, h⟩ := h
          exact W.zret (v := r11) hx hb hr hn12 (fun t ht hW => ⟨⟨r11, (u7, u8, u9, u10), rfl, h, by rw [ht]; exact hP, hD⟩, hS.F ht⟩) hS.2.2 dF_span_o_67
        · intro c6
          replace h := h.2 c6
          exact w_F_span_o_43 l C0 hE a_this a_reader a_families a_handMade a_maker a_maker_print a_maker_spans a_maker_leftOut a_maker_spans_lows a_maker_spans_highs k_maker_spans_lows k_maker_spans_highs p1 p2 p4 v_this_familyCount v_maker_rounding v_maker_toe v_maker_heel v_maker_side v_maker_pitch v_maker_outer v_maker_inner v_maker_across v_maker_hole v_maker_spans_toldBits v_maker_spans_exactBits v_maker_spans_lows v_maker_spans_highs post hK _ _ h hP hD hS ls (lv_sub hl [] rfl)
    · intro c2
      replace h := h.2 c2
      exact w_F_span_o_10 l C0 hE a_this a_reader a_families a_handMade a_maker a_maker_print a_maker_spans a_maker_leftOut a_maker_spans_lows a_maker_spans_highs k_maker_spans_lows k_maker_spans_highs p1 p2 p4 v_this_familyCount v_maker_rounding v_maker_toe v_maker_heel v_maker_side v_maker_pitch v_maker_outer v_maker_inner v_maker_across v_maker_hole v_maker_spans_toldBits v_maker_spans_exactBits v_maker_spans_lows v_maker_spans_highs post hK _ _ h hP hD hS ls (lv_sub hl [] rfl)
abbrev yF_span_t : MethodName := ⟨"FootprintRules", "span", "(IJJ)Z"⟩
abbrev cF_span_t : ByteArray := prog_1_method_4_code
abbrev wsF_span_t : List Cond := .code yF_span_t cF_span_t 6 (some .boolean) :: zT
set_option maxRecDepth 100000 in
theorem zc_F_span_t : Cond.code yF_span_t cF_span_t 6 (some .boolean) ∈ zT := zm 638 (by rfl) (by rfl)
theorem dF_span_t_0 : decode cF_span_t 0 = .ok (.iload_n 1, 1) := by decide +kernel
theorem dF_span_t_1 : decode cF_span_t 1 = .ok (.ifCond .lt 9, 3) := by decide +kernel
theorem dF_span_t_4 : decode cF_span_t 4 = .ok (.iload_n 1, 1) := by decide +kernel
theorem dF_span_t_5 : decode cF_span_t 5 = .ok (.bipush 12, 2) := by decide +kernel
theorem dF_span_t_7 : decode cF_span_t 7 = .ok (.if_icmp .lt 13, 3) := by decide +kernel
theorem dF_span_t_10 : decode cF_span_t 10 = .ok (.new 70, 3) := by decide +kernel
theorem dF_span_t_13 : decode cF_span_t 13 = .ok (.dup, 1) := by decide +kernel
theorem dF_span_t_14 : decode cF_span_t 14 = .ok (.ldc 72, 2) := by decide +kernel
theorem dF_span_t_16 : decode cF_span_t 16 = .ok (.invokespecial 74, 3) := by decide +kernel
theorem dF_span_t_19 : decode cF_span_t 19 = .ok (.athrow, 1) := by decide +kernel
theorem dF_span_t_20 : decode cF_span_t 20 = .ok (.lload_n 2, 1) := by decide +kernel
theorem dF_span_t_21 : decode cF_span_t 21 = .ok (.lconst 0, 1) := by decide +kernel
theorem dF_span_t_22 : decode cF_span_t 22 = .ok (.ldc2_w 75, 3) := by decide +kernel
theorem dF_span_t_25 : decode cF_span_t 25 = .ok (.invokestatic 77, 3) := by decide +kernel
theorem dF_span_t_28 : decode cF_span_t 28 = .ok (.ifCond .eq 15, 3) := by decide +kernel
theorem dF_span_t_31 : decode cF_span_t 31 = .ok (.lload 4, 2) := by decide +kernel
theorem dF_span_t_33 : decode cF_span_t 33 = .ok (.lconst 0, 1) := by decide +kernel
theorem dF_span_t_34 : decode cF_span_t 34 = .ok (.ldc2_w 75, 3) := by decide +kernel
theorem dF_span_t_37 : decode cF_span_t 37 = .ok (.invokestatic 77, 3) := by decide +kernel
theorem dF_span_t_40 : decode cF_span_t 40 = .ok (.ifCond .ne 13, 3) := by decide +kernel
theorem dF_span_t_43 : decode cF_span_t 43 = .ok (.new 81, 3) := by decide +kernel
theorem dF_span_t_46 : decode cF_span_t 46 = .ok (.dup, 1) := by decide +kernel
theorem dF_span_t_47 : decode cF_span_t 47 = .ok (.ldc 83, 2) := by decide +kernel
theorem dF_span_t_49 : decode cF_span_t 49 = .ok (.invokespecial 85, 3) := by decide +kernel
theorem dF_span_t_52 : decode cF_span_t 52 = .ok (.athrow, 1) := by decide +kernel
-- FootprintRules.span(IJJ)Z
abbrev w_F_span_t (ad : Nat → Nat → Nat) (a_this : Nat)   : va_W := []
def P_F_span_t_10  (post : String → Prop)  : Prop := post "java/lang/IndexOutOfBoundsException"
set_option maxHeartbeats 4000000 in
set_option maxRecDepth 100000 in
theorem w_F_span_t_10 (l : Launch) {p : Program} {e : Env} {s : State} {m : MethodId} {args : Array Value} {below : List Frame} {meth : Method} {c : Code} {dC : Nat → ClassId} {dI : Nat → Nat → Nat} {ad : Nat → Nat → Nat} {A : Nat → Prop} (hlt : l.stackTraces = false) (hnx : ∀ (k : Nat), ∀ x ∈ c.exceptionTable.toList, covers x k = false) (C0 : zC p s m args meth c cF_span_t 6 RF zT (some .boolean) A) (hE : zE ad A s) (a_this : Nat)  (p1 : Int32) (p2 : Int64) (p4 : Int64) (post : String → Prop) (hK : va_K (dC, dI) vwCl [] s) : ∀  (H : Heap) (locs : List Loc), P_F_span_t_10 post → va_P (dC, dI) vwCl (w_F_span_t ad a_this) H → va_D A (w_F_span_t ad a_this) → va_S A s.heap H locs → ∀ ls : Array Slot, lv_has ls 6 [] → W p l e (headSpec wsF_span_t { frames := 6, cells := 1, slots := 6, locals := 91 }).room s m args below meth c H locs 0 0 (zQT below (dC, dI) A s (fun (E : String) (u : Unit) => post E) (fun (u : Unit) => (w_F_span_t ad a_this)) 1 6) (F0 m 10 ls []) := by
  obtain ⟨hx, hb, hr, hml, hown, hts, hlocks, hA⟩ := id C0
  intro  H locs h hP hD hS ls hl
  unfold P_F_span_t_10 at h
  exact zt_W (u := (())) (own := RF) (cls := "java/lang/IndexOutOfBoundsException") (text := "no such span") (names := ["java/lang/RuntimeException", "java/lang/Exception"]) (ik := 70) (is := 72) (ic := 74) hx hb hlt hown (by decide +kernel) (by decide +kernel) zat_IndexOutOfBoundsException hts hE (hts _ zw_639) (hts _ zw_117) (hE.ldc ("FootprintRules", 72, "no such span", 1) (by decide)) (hl.1.trans hml.symm) dF_span_t_10 dF_span_t_13 dF_span_t_14 dF_span_t_16 dF_span_t_19 hnx (by decide) (by decide) (by decide) (by decide) hlocks h hP hD hS
def P_F_span_t_43  (post : String → Prop)  : Prop := post "java/lang/IllegalArgumentException"
set_option maxHeartbeats 4000000 in
set_option maxRecDepth 100000 in
theorem w_F_span_t_43 (l : Launch) {p : Program} {e : Env} {s : State} {m : MethodId} {args : Array Value} {below : List Frame} {meth : Method} {c : Code} {dC : Nat → ClassId} {dI : Nat → Nat → Nat} {ad : Nat → Nat → Nat} {A : Nat → Prop} (hlt : l.stackTraces = false) (hnx : ∀ (k : Nat), ∀ x ∈ c.exceptionTable.toList, covers x k = false) (C0 : zC p s m args meth c cF_span_t 6 RF zT (some .boolean) A) (hE : zE ad A s) (a_this : Nat)  (p1 : Int32) (p2 : Int64) (p4 : Int64) (post : String → Prop) (hK : va_K (dC, dI) vwCl [] s) : ∀  (H : Heap) (locs : List Loc), P_F_span_t_43 post → va_P (dC, dI) vwCl (w_F_span_t ad a_this) H → va_D A (w_F_span_t ad a_this) → va_S A s.heap H locs → ∀ ls : Array Slot, lv_has ls 6 [] → W p l e (headSpec wsF_span_t { frames := 6, cells := 1, slots := 6, locals := 91 }).room s m args below meth c H locs 0 0 (zQT below (dC, dI) A s (fun (E : String) (u : Unit) => post E) (fun (u : Unit) => (w_F_span_t ad a_this)) 1 6) (F0 m 43 ls []) := by
  obtain ⟨hx, hb, hr, hml, hown, hts, hlocks, hA⟩ := id C0
  intro  H locs h hP hD hS ls hl
  unfold P_F_span_t_43 at h
  exact zt_W (u := (())) (own := RF) (cls := "java/lang/IllegalArgumentException") (text := "an end is out of range") (names := ["java/lang/RuntimeException", "java/lang/Exception"]) (ik := 81) (is := 83) (ic := 85) hx hb hlt hown (by decide +kernel) (by decide +kernel) zat_IllegalArgumentException hts hE (hts _ zw_659) (hts _ zw_118) (hE.ldc ("FootprintRules", 83, "an end is out of range", 2) (by decide)) (hl.1.trans hml.symm) dF_span_t_43 dF_span_t_46 dF_span_t_47 dF_span_t_49 dF_span_t_52 hnx (by decide) (by decide) (by decide) (by decide) hlocks h hP hD hS
def P_F_span_t (p1 : Int32) (p2 : Int64) (p4 : Int64) (post : String → Prop) : Prop := ((p1 < 0 → P_F_span_t_10 post) ∧ (¬ p1 < 0 → ((p1 < 12 → P_F_isWithin p2 0 100000000 (fun (r3 : Int32) => ((r3 = 0 → P_F_span_t_43 post) ∧ (¬ r3 = 0 → P_F_isWithin p4 0 100000000 (fun (r5 : Int32) => ((¬ r5 = 0 → False) ∧ (r5 = 0 → P_F_span_t_43 post))))))) ∧ (¬ p1 < 12 → P_F_span_t_10 post))))
set_option maxHeartbeats 4000000 in
set_option maxRecDepth 100000 in
theorem c_F_span_t (l : Launch) (hlt : l.stackTraces = false) (dC : Nat → ClassId) (dI : Nat → Nat → Nat) (ad : Nat → Nat → Nat) (a_this : Nat)  (sz : Nat) (p1 : Int32) (p2 : Int64) (p4 : Int64) (post : String → Prop) (h : P_F_span_t p1 p2 p4 post) : zMT l yF_span_t wsF_span_t { frames := 6, cells := 1, slots := 6, locals := 91 } (dC, dI) ad [.ref a_this, .int p1, .long p2, .long p4] (w_F_span_t ad a_this) [] sz (fun (E : String) (u : Unit) => post E) (fun (u : Unit) => (w_F_span_t ad a_this)) 1 6 := by
  refine zMT.ofW (cc := cF_span_t) (maxL := 6) (ret := (some .boolean)) (by decide +kernel) rfl ?_
  intro p e s m args below meth c s₁ B hml hnx hv
  obtain ⟨rfl, hsz, hP, hK, hD0, hE⟩ := hv
  have hx := B.exec
  have hb := B.bytes
  have hr := B.returns
  have hts0 := atoms_spec (ws := wsF_span_t) B.pre
  have hts := fun w h => hts0 w (List.mem_cons_of_mem _ h)
  have hown : s.vm.findClass RF = some m.cls := findClass_of_methodNamed B.named
  have hlocks := B.notSynchronized
  subst hsz
  have hD := hD0.self (sz := s.heap.size)
  generalize hAe : va_A (w_F_span_t ad a_this) s.heap.size = A at hD hE ⊢
  have hA : ∀ q : Nat, s.heap.size ≤ q → A q := fun q h => by rw [← hAe]; exact Or.inr h
  have C0 := zC.mk hx hb hr hml hown hts hlocks hA
  have hS : va_S A s.heap s.heap [] := va_S.rf
  have hl := lv_entry ([.ref a_this, .int p1, .long p2, .long p4]) (n := 6) (Nat.le_of_ble_eq_true rfl)
  rw [lg_entry_eq]
  generalize (lg_sl ([.ref a_this, .int p1, .long p2, .long p4]) ++ List.replicate (6 - (lg_sl ([.ref a_this, .int p1, .long p2, .long p4])).length) Slot.unset).toArray = ls at hl ⊢
  have hl : lv_has ls 6 [(0, .ref a_this), (1, .int p1), (2, .long p2), (4, .long p4)] := hl
  unfold P_F_span_t at h
  refine lv_iload_n hx hb dF_span_t_0 rfl (lv_at hl 1 rfl) ?_
  refine lv_if_lt (tgt := 10) hx hb dF_span_t_1 (by decide) ?_ ?_
  · intro c1
    replace h := h.1 c1
    exact w_F_span_t_10 l hlt hnx C0 hE a_this p1 p2 p4 post hK _ _ h hP hD hS ls (lv_sub hl [] rfl)
  · intro c1
    replace h := h.2 c1
    refine lv_iload_n hx hb dF_span_t_4 rfl (lv_at hl 1 rfl) ?_
    refine lv_bipush (v := 12) hx hb dF_span_t_5 (by decide) ?_
    refine lv_icmp_lt (tgt := 20) hx hb dF_span_t_7 (by decide) ?_ ?_
    · intro c2
      replace h := h.1 c2
      refine lv_lload_n hx hb dF_span_t_20 rfl (lv_at hl 2 rfl) ?_
      refine lv_lconst (v := 0) hx hb dF_span_t_21 (by decide) ?_
      refine lv_ldc2 (own := RF) (index := 75) (v := 100000000) hx hb hown (hts _ zw_655) dF_span_t_22 ?_
      refine zcall_i hP hD hS hA [] [] (va_runS (As := [.long p2, .long 0, .long 100000000]) (rest := []) ⟨hx, hb, hml, hown, hts⟩ (c_F_isWithin l dC dI ad _ p2 0 100000000 _ h) ⟨callB_of 3 hts (zgood zc_F_isWithin) rfl rfl rfl (hts _ zw_95) (hts _ zw_656) (by decide +kernel) ⟨Nat.le_of_ble_eq_true rfl, Nat.le_of_ble_eq_true rfl⟩, (hts _ zw_657)⟩ (zpreS hE hK hP hD hS hA [] [] (by rfl) (by rfl) (by decide)) rfl rfl hl.1 rfl (lv_room (Nat.le_of_ble_eq_true rfl)) dF_span_t_25 ⟨Nat.le_of_ble_eq_true rfl, Nat.le_of_ble_eq_true rfl⟩) (by rfl) (by rfl) (by decide) (by decide) (fun r3 u H locs h hP hD hS => ?_)
      try dsimp only at h
      have hP := hP.sub (ws' := (w_F_span_t ad a_this)) [] rfl
      have hD := hD.sub (ws' := (w_F_span_t ad a_this)) [] (by decide) rfl
      refine lv_if_eq (tgt := 43) hx hb dF_span_t_28 (by decide) ?_ ?_
      · intro c4
        replace h := h.1 c4
        exact w_F_span_t_43 l hlt hnx C0 hE a_this p1 p2 p4 post hK _ _ h hP hD hS ls (lv_sub hl [] rfl)
      · intro c4
        replace h := h.2 c4
        refine lv_lload hx hb dF_span_t_31 (lv_at hl 3 rfl) ?_
        refine lv_lconst (v := 0) hx hb dF_span_t_33 (by decide) ?_
        refine lv_ldc2 (own := RF) (index := 75) (v := 100000000) hx hb hown (hts _ zw_655) dF_span_t_34 ?_
        refine zcall_i hP hD hS hA [] [] (va_runS (As := [.long p4, .long 0, .long 100000000]) (rest := []) ⟨hx, hb, hml, hown, hts⟩ (c_F_isWithin l dC dI ad _ p4 0 100000000 _ h) ⟨callB_of 3 hts (zgood zc_F_isWithin) rfl rfl rfl (hts _ zw_95) (hts _ zw_656) (by decide +kernel) ⟨Nat.le_of_ble_eq_true rfl, Nat.le_of_ble_eq_true rfl⟩, (hts _ zw_657)⟩ (zpreS hE hK hP hD hS hA [] [] (by rfl) (by rfl) (by decide)) rfl rfl hl.1 rfl (lv_room (Nat.le_of_ble_eq_true rfl)) dF_span_t_37 ⟨Nat.le_of_ble_eq_true rfl, Nat.le_of_ble_eq_true rfl⟩) (by rfl) (by rfl) (by decide) (by decide) (fun r5 u H locs h hP hD hS => ?_)
        try dsimp only at h
        have hP := hP.sub (ws' := (w_F_span_t ad a_this)) [] rfl
        have hD := hD.sub (ws' := (w_F_span_t ad a_this)) [] (by decide) rfl
        refine lv_if_ne (tgt := 53) hx hb dF_span_t_40 (by decide) ?_ ?_
        · intro c6
          replace h := h.1 c6
          exact False.elim h
        · intro c6
          replace h := h.2 c6
          exact w_F_span_t_43 l hlt hnx C0 hE a_this p1 p2 p4 post hK _ _ h hP hD hS ls (lv_sub hl [] rfl)
    · intro c2
      replace h := h.2 c2
      exact w_F_span_t_10 l hlt hnx C0 hE a_this p1 p2 p4 post hK _ _ h hP hD hS ls (lv_sub hl [] rfl)
abbrev yF_make_o : MethodName := ⟨"FootprintRules", "make", "(II)I"⟩
abbrev cF_make_o : ByteArray := prog_1_method_5_code
abbrev wsF_make_o : List Cond := .code yF_make_o cF_make_o 3 (some .int) :: zT
set_option maxRecDepth 100000 in
theorem zc_F_make_o : Cond.code yF_make_o cF_make_o 3 (some .int) ∈ zT := zm 685 (by rfl) (by rfl)
theorem dF_make_o_0 : decode cF_make_o 0 = .ok (.iload_n 1, 1) := by decide +kernel
theorem dF_make_o_1 : decode cF_make_o 1 = .ok (.ifCond .lt 17, 3) := by decide +kernel
theorem dF_make_o_4 : decode cF_make_o 4 = .ok (.iload_n 1, 1) := by decide +kernel
theorem dF_make_o_5 : decode cF_make_o 5 = .ok (.aload_n 0, 1) := by decide +kernel
theorem dF_make_o_6 : decode cF_make_o 6 = .ok (.getfield 52, 3) := by decide +kernel
theorem dF_make_o_9 : decode cF_make_o 9 = .ok (.if_icmp .ge 9, 3) := by decide +kernel
theorem dF_make_o_12 : decode cF_make_o 12 = .ok (.iload_n 1, 1) := by decide +kernel
theorem dF_make_o_13 : decode cF_make_o 13 = .ok (.bipush 8, 2) := by decide +kernel
theorem dF_make_o_15 : decode cF_make_o 15 = .ok (.if_icmp .lt 13, 3) := by decide +kernel
theorem dF_make_o_28 : decode cF_make_o 28 = .ok (.iload_n 2, 1) := by decide +kernel
theorem dF_make_o_29 : decode cF_make_o 29 = .ok (.ifCond .lt 8, 3) := by decide +kernel
theorem dF_make_o_32 : decode cF_make_o 32 = .ok (.iload_n 2, 1) := by decide +kernel
theorem dF_make_o_33 : decode cF_make_o 33 = .ok (.iconst 3, 1) := by decide +kernel
theorem dF_make_o_34 : decode cF_make_o 34 = .ok (.if_icmp .lt 13, 3) := by decide +kernel
theorem dF_make_o_47 : decode cF_make_o 47 = .ok (.aload_n 0, 1) := by decide +kernel
theorem dF_make_o_48 : decode cF_make_o 48 = .ok (.getfield 32, 3) := by decide +kernel
theorem dF_make_o_51 : decode cF_make_o 51 = .ok (.aload_n 0, 1) := by decide +kernel
theorem dF_make_o_52 : decode cF_make_o 52 = .ok (.getfield 18, 3) := by decide +kernel
theorem dF_make_o_55 : decode cF_make_o 55 = .ok (.iload_n 1, 1) := by decide +kernel
theorem dF_make_o_56 : decode cF_make_o 56 = .ok (.aaload, 1) := by decide +kernel
theorem dF_make_o_57 : decode cF_make_o 57 = .ok (.iload_n 2, 1) := by decide +kernel
theorem dF_make_o_58 : decode cF_make_o 58 = .ok (.invokevirtual 100, 3) := by decide +kernel
theorem dF_make_o_61 : decode cF_make_o 61 = .ok (.ifCond .eq 13, 3) := by decide +kernel
theorem dF_make_o_64 : decode cF_make_o 64 = .ok (.aload_n 0, 1) := by decide +kernel
theorem dF_make_o_65 : decode cF_make_o 65 = .ok (.getfield 40, 3) := by decide +kernel
theorem dF_make_o_68 : decode cF_make_o 68 = .ok (.getfield 104, 3) := by decide +kernel
theorem dF_make_o_71 : decode cF_make_o 71 = .ok (.goto 4, 3) := by decide +kernel
theorem dF_make_o_74 : decode cF_make_o 74 = .ok (.iconst (-1), 1) := by decide +kernel
theorem dF_make_o_75 : decode cF_make_o 75 = .ok (.ireturn, 1) := by decide +kernel
-- FootprintRules.make(II)I
abbrev w_F_make_o (ad : Nat → Nat → Nat) (a_this : Nat) (a_reader : Nat) (a_families : Nat) (a_handMade : Nat) (a_maker : Nat) (a_maker_print : Nat) (a_families_at : Nat) (a_families_at_values : Nat) (a_families_at_letters : Nat) (a_maker_spans : Nat) (a_maker_leftOut : Nat) (a_maker_spans_lows : Nat) (a_maker_spans_highs : Nat) (a_maker_print_cells : Nat) (a_maker_print_family : Nat) (a_maker_print_yard : Nat) (a_maker_print_columns : Nat) (a_maker_print_rows : Nat) (a_maker_print_line : Nat) (k_families : ClassId) (k_maker_spans_highs : ClassId) (k_families_at_values : ClassId) (k_maker_spans_lows : ClassId) (k_maker_print_cells : ClassId) (k_maker_leftOut : ClassId) (k_maker_print_yard : ClassId) (v_this_familyCount : Int32) (v_families : Nat → Option Nat) (v_families_at_letterCount : Int32) (v_families_at_kind : Nat) (v_maker_rounding : Int64) (v_maker_toe : Int64) (v_maker_heel : Int64) (v_maker_side : Int64) (v_maker_pitch : Int64) (v_maker_outer : Int64) (v_maker_inner : Int64) (v_maker_across : Int64) (v_maker_hole : Int64) (v_maker_spans_toldBits : Int32) (v_maker_spans_exactBits : Int32) (v_maker_spans_highs : Nat → Int64) (v_maker_print_atHand : Int32) (v_maker_print_count : Int32) (v_maker_print_thermal : Int32) (v_maker_print_density : Int32) (v_maker_print_outerHigh : Int64) (v_maker_print_pasteLeft : Int64) (v_maker_print_pasteLow : Int64) (v_maker_print_nameLength : Int32) (v_maker_print_isWritten : Int32) (v_families_at_values : Nat → Int32) (v_maker_spans_lows : Nat → Int64) (v_maker_print_cells : Nat → Int64) (v_maker_leftOut : Nat → Int32) (v_maker_print_yard : Nat → Int64) : va_W := [(a_this, .inr (9, [.ref a_reader, .ref a_families, .int v_this_familyCount, .ref a_handMade, .ref a_maker, .ref a_maker_print])), (a_families, .inl (k_families, 8, .inr (.inr (.inr (.inr v_families))))), (a_families_at, .inr (2, [.ref a_families_at_values, .ref a_families_at_letters, .int v_families_at_letterCount, .ref (ad 0 v_families_at_kind)])), (a_maker, .inr (4, [.ref a_maker_spans, .ref a_maker_leftOut, .ref a_maker_print, .long v_maker_rounding, .long v_maker_toe, .long v_maker_heel, .long v_maker_side, .long v_maker_pitch, .long v_maker_outer, .long v_maker_inner, .long v_maker_across, .long v_maker_hole])), (a_maker_spans, .inr (3, [.ref a_maker_spans_lows, .ref a_maker_spans_highs, .int v_maker_spans_toldBits, .int v_maker_spans_exactBits])), (a_maker_spans_highs, .inl (k_maker_spans_highs, 12, .inr (.inl v_maker_spans_highs))), (a_maker_print, .inr (6, [.int v_maker_print_atHand, .ref a_maker_print_cells, .int v_maker_print_count, .int v_maker_print_thermal, .ref a_maker_print_family, .int v_maker_print_density, .long v_maker_print_outerHigh, .ref a_maker_print_yard, .ref a_maker_print_columns, .ref a_maker_print_rows, .long v_maker_print_pasteLeft, .long v_maker_print_pasteLow, .ref a_maker_print_line, .int v_maker_print_nameLength, .int v_maker_print_isWritten])), (a_families_at_values, .inl (k_families_at_values, 18, .inl v_families_at_values)), (a_maker_spans_lows, .inl (k_maker_spans_lows, 12, .inr (.inl v_maker_spans_lows))), (a_maker_print_cells, .inl (k_maker_print_cells, 455, .inr (.inl v_maker_print_cells))), (a_maker_leftOut, .inl (k_maker_leftOut, 65, .inl v_maker_leftOut)), (a_maker_print_yard, .inl (k_maker_print_yard, 4, .inr (.inl v_maker_print_yard)))]
def P_F_make_o_18  (post : Int32 → Int64 → Int64 → Int64 → Int64 → Int64 → Int64 → Int64 → Int64 → Int64 → Int32 → Int32 → Int32 → Int32 → Int64 → Int32 → (Nat → Int64) → (Nat → Int64) → Prop)  : Prop := False
set_option maxHeartbeats 4000000 in
set_option maxRecDepth 100000 in
theorem w_F_make_o_18 (l : Launch) {p : Program} {e : Env} {s : State} {m : MethodId} {args : Array Value} {below : List Frame} {meth : Method} {c : Code} {dC : Nat → ClassId} {dI : Nat → Nat → Nat} {ad : Nat → Nat → Nat} {A : Nat → Prop} (C0 : zC p s m args meth c cF_make_o 3 RF zT (some .int) A) (hE : zE ad A s) (a_this : Nat) (a_reader : Nat) (a_families : Nat) (a_handMade : Nat) (a_maker : Nat) (a_maker_print : Nat) (a_families_at : Nat) (a_families_at_values : Nat) (a_families_at_letters : Nat) (a_maker_spans : Nat) (a_maker_leftOut : Nat) (a_maker_spans_lows : Nat) (a_maker_spans_highs : Nat) (a_maker_print_cells : Nat) (a_maker_print_family : Nat) (a_maker_print_yard : Nat) (a_maker_print_columns : Nat) (a_maker_print_rows : Nat) (a_maker_print_line : Nat) (k_families : ClassId) (k_maker_spans_highs : ClassId) (k_families_at_values : ClassId) (k_maker_spans_lows : ClassId) (k_maker_print_cells : ClassId) (k_maker_leftOut : ClassId) (k_maker_print_yard : ClassId) (p1 : Int32) (p2 : Int32) (v_this_familyCount : Int32) (v_families : Nat → Option Nat) (v_families_at_letterCount : Int32) (v_families_at_kind : Nat) (v_maker_rounding : Int64) (v_maker_toe : Int64) (v_maker_heel : Int64) (v_maker_side : Int64) (v_maker_pitch : Int64) (v_maker_outer : Int64) (v_maker_inner : Int64) (v_maker_across : Int64) (v_maker_hole : Int64) (v_maker_spans_toldBits : Int32) (v_maker_spans_exactBits : Int32) (v_maker_spans_highs : Nat → Int64) (v_maker_print_atHand : Int32) (v_maker_print_count : Int32) (v_maker_print_thermal : Int32) (v_maker_print_density : Int32) (v_maker_print_outerHigh : Int64) (v_maker_print_pasteLeft : Int64) (v_maker_print_pasteLow : Int64) (v_maker_print_nameLength : Int32) (v_maker_print_isWritten : Int32) (v_families_at_values : Nat → Int32) (v_maker_spans_lows : Nat → Int64) (v_maker_print_cells : Nat → Int64) (v_maker_leftOut : Nat → Int32) (v_maker_print_yard : Nat → Int64) (post : Int32 → Int64 → Int64 → Int64 → Int64 → Int64 → Int64 → Int64 → Int64 → Int64 → Int32 → Int32 → Int32 → Int32 → Int64 → Int32 → (Nat → Int64) → (Nat → Int64) → Prop) (hK : va_K (dC, dI) vwCl [(k_families, .object "FootprintRules$Family"), (k_maker_spans_highs, .long), (k_families_at_values, .int), (k_maker_spans_lows, .long), (k_maker_print_cells, .long), (k_maker_leftOut, .boolean), (k_maker_print_yard, .long)] s) : ∀  (H : Heap) (locs : List Loc), P_F_make_o_18 post → va_P (dC, dI) vwCl (w_F_make_o ad a_this a_reader a_families a_handMade a_maker a_maker_print a_families_at a_families_at_values a_families_at_letters a_maker_spans a_maker_leftOut a_maker_spans_lows a_maker_spans_highs a_maker_print_cells a_maker_print_family a_maker_print_yard a_maker_print_columns a_maker_print_rows a_maker_print_line k_families k_maker_spans_highs k_families_at_values k_maker_spans_lows k_maker_print_cells k_maker_leftOut k_maker_print_yard v_this_familyCount v_families v_families_at_letterCount v_families_at_kind v_maker_rounding v_maker_toe v_maker_heel v_maker_side v_maker_pitch v_maker_outer v_maker_inner v_maker_across v_maker_hole v_maker_spans_toldBits v_maker_spans_exactBits v_maker_spans_highs v_maker_print_atHand v_maker_print_count v_maker_print_thermal v_maker_print_density v_maker_print_outerHigh v_maker_print_pasteLeft v_maker_print_pasteLow v_maker_print_nameLength v_maker_print_isWritten v_families_at_values v_maker_spans_lows v_maker_print_cells v_maker_leftOut v_maker_print_yard) H → va_D A (w_F_make_o ad a_this a_reader a_families a_handMade a_maker a_maker_print a_families_at a_families_at_values a_families_at_letters a_maker_spans a_maker_leftOut a_maker_spans_lows a_maker_spans_highs a_maker_print_cells a_maker_print_family a_maker_print_yard a_maker_print_columns a_maker_print_rows a_maker_print_line k_families k_maker_spans_highs k_families_at_values k_maker_spans_lows k_maker_print_cells k_maker_leftOut k_maker_print_yard v_this_familyCount v_families v_families_at_letterCount v_families_at_kind v_maker_rounding v_maker_toe v_maker_heel v_maker_side v_maker_pitch v_maker_outer v_maker_inner v_maker_across v_maker_hole v_maker_spans_toldBits v_maker_spans_exactBits v_maker_spans_highs v_maker_print_atHand v_maker_print_count v_maker_print_thermal v_maker_print_density v_maker_print_outerHigh v_maker_print_pasteLeft v_maker_print_pasteLow v_maker_print_nameLength v_maker_print_isWritten v_families_at_values v_maker_spans_lows v_maker_print_cells v_maker_leftOut v_maker_print_yard) → va_S A s.heap H locs → ∀ ls : Array Slot, lv_has ls 3 [] → W p l e (headSpec wsF_make_o { frames := 6, cells := 0, slots := 0, locals := 141 }).room s m args below meth c H locs 0 0 (MQ below (va_Qi (fun (r : Int32) (u : Int64 × Int64 × Int64 × Int64 × Int64 × Int64 × Int64 × Int64 × Int64 × Int32 × Int32 × Int32 × Int32 × Int64 × Int32 × (Nat → Int64) × (Nat → Int64)) => post r u.1 u.2.1 u.2.2.1 u.2.2.2.1 u.2.2.2.2.1 u.2.2.2.2.2.1 u.2.2.2.2.2.2.1 u.2.2.2.2.2.2.2.1 u.2.2.2.2.2.2.2.2.1 u.2.2.2.2.2.2.2.2.2.1 u.2.2.2.2.2.2.2.2.2.2.1 u.2.2.2.2.2.2.2.2.2.2.2.1 u.2.2.2.2.2.2.2.2.2.2.2.2.1 u.2.2.2.2.2.2.2.2.2.2.2.2.2.1 u.2.2.2.2.2.2.2.2.2.2.2.2.2.2.1 u.2.2.2.2.2.2.2.2.2.2.2.2.2.2.2.1 u.2.2.2.2.2.2.2.2.2.2.2.2.2.2.2.2) (zB (dC, dI) A (fun (u : Int64 × Int64 × Int64 × Int64 × Int64 × Int64 × Int64 × Int64 × Int64 × Int32 × Int32 × Int32 × Int32 × Int64 × Int32 × (Nat → Int64) × (Nat → Int64)) => (w_F_make_o ad a_this a_reader a_families a_handMade a_maker a_maker_print a_families_at a_families_at_values a_families_at_letters a_maker_spans a_maker_leftOut a_maker_spans_lows a_maker_spans_highs a_maker_print_cells a_families_at a_maker_print_yard a_maker_print_columns a_maker_print_rows a_maker_print_line k_families k_maker_spans_highs k_families_at_values k_maker_spans_lows k_maker_print_cells k_maker_leftOut k_maker_print_yard v_this_familyCount v_families v_families_at_letterCount v_families_at_kind u.1 u.2.1 u.2.2.1 u.2.2.2.1 u.2.2.2.2.1 u.2.2.2.2.2.1 u.2.2.2.2.2.2.1 u.2.2.2.2.2.2.2.1 u.2.2.2.2.2.2.2.2.1 v_maker_spans_toldBits v_maker_spans_exactBits v_maker_spans_highs u.2.2.2.2.2.2.2.2.2.1 u.2.2.2.2.2.2.2.2.2.2.1 u.2.2.2.2.2.2.2.2.2.2.2.1 u.2.2.2.2.2.2.2.2.2.2.2.2.1 u.2.2.2.2.2.2.2.2.2.2.2.2.2.1 v_maker_print_pasteLeft v_maker_print_pasteLow v_maker_print_nameLength u.2.2.2.2.2.2.2.2.2.2.2.2.2.2.1 v_families_at_values v_maker_spans_lows u.2.2.2.2.2.2.2.2.2.2.2.2.2.2.2.1 v_maker_leftOut u.2.2.2.2.2.2.2.2.2.2.2.2.2.2.2.2))) A) args s 0 0 A) (F0 m 18 ls []) := by
  obtain ⟨hx, hb, hr, hml, hown, hts, hlocks, hA⟩ := id C0
  intro  H locs h hP hD hS ls hl
  unfold P_F_make_o_18 at h
  exact False.elim h
def P_F_make_o_37  (post : Int32 → Int64 → Int64 → Int64 → Int64 → Int64 → Int64 → Int64 → Int64 → Int64 → Int32 → Int32 → Int32 → Int32 → Int64 → Int32 → (Nat → Int64) → (Nat → Int64) → Prop)  : Prop := False
set_option maxHeartbeats 4000000 in
set_option maxRecDepth 100000 in
theorem w_F_make_o_37 (l : Launch) {p : Program} {e : Env} {s : State} {m : MethodId} {args : Array Value} {below : List Frame} {meth : Method} {c : Code} {dC : Nat → ClassId} {dI : Nat → Nat → Nat} {ad : Nat → Nat → Nat} {A : Nat → Prop} (C0 : zC p s m args meth c cF_make_o 3 RF zT (some .int) A) (hE : zE ad A s) (a_this : Nat) (a_reader : Nat) (a_families : Nat) (a_handMade : Nat) (a_maker : Nat) (a_maker_print : Nat) (a_families_at : Nat) (a_families_at_values : Nat) (a_families_at_letters : Nat) (a_maker_spans : Nat) (a_maker_leftOut : Nat) (a_maker_spans_lows : Nat) (a_maker_spans_highs : Nat) (a_maker_print_cells : Nat) (a_maker_print_family : Nat) (a_maker_print_yard : Nat) (a_maker_print_columns : Nat) (a_maker_print_rows : Nat) (a_maker_print_line : Nat) (k_families : ClassId) (k_maker_spans_highs : ClassId) (k_families_at_values : ClassId) (k_maker_spans_lows : ClassId) (k_maker_print_cells : ClassId) (k_maker_leftOut : ClassId) (k_maker_print_yard : ClassId) (p1 : Int32) (p2 : Int32) (v_this_familyCount : Int32) (v_families : Nat → Option Nat) (v_families_at_letterCount : Int32) (v_families_at_kind : Nat) (v_maker_rounding : Int64) (v_maker_toe : Int64) (v_maker_heel : Int64) (v_maker_side : Int64) (v_maker_pitch : Int64) (v_maker_outer : Int64) (v_maker_inner : Int64) (v_maker_across : Int64) (v_maker_hole : Int64) (v_maker_spans_toldBits : Int32) (v_maker_spans_exactBits : Int32) (v_maker_spans_highs : Nat → Int64) (v_maker_print_atHand : Int32) (v_maker_print_count : Int32) (v_maker_print_thermal : Int32) (v_maker_print_density : Int32) (v_maker_print_outerHigh : Int64) (v_maker_print_pasteLeft : Int64) (v_maker_print_pasteLow : Int64) (v_maker_print_nameLength : Int32) (v_maker_print_isWritten : Int32) (v_families_at_values : Nat → Int32) (v_maker_spans_lows : Nat → Int64) (v_maker_print_cells : Nat → Int64) (v_maker_leftOut : Nat → Int32) (v_maker_print_yard : Nat → Int64) (post : Int32 → Int64 → Int64 → Int64 → Int64 → Int64 → Int64 → Int64 → Int64 → Int64 → Int32 → Int32 → Int32 → Int32 → Int64 → Int32 → (Nat → Int64) → (Nat → Int64) → Prop) (hK : va_K (dC, dI) vwCl [(k_families, .object "FootprintRules$Family"), (k_maker_spans_highs, .long), (k_families_at_values, .int), (k_maker_spans_lows, .long), (k_maker_print_cells, .long), (k_maker_leftOut, .boolean), (k_maker_print_yard, .long)] s) : ∀  (H : Heap) (locs : List Loc), P_F_make_o_37 post → va_P (dC, dI) vwCl (w_F_make_o ad a_this a_reader a_families a_handMade a_maker a_maker_print a_families_at a_families_at_values a_families_at_letters a_maker_spans a_maker_leftOut a_maker_spans_lows a_maker_spans_highs a_maker_print_cells a_maker_print_family a_maker_print_yard a_maker_print_columns a_maker_print_rows a_maker_print_line k_families k_maker_spans_highs k_families_at_values k_maker_spans_lows k_maker_print_cells k_maker_leftOut k_maker_print_yard v_this_familyCount v_families v_families_at_letterCount v_families_at_kind v_maker_rounding v_maker_toe v_maker_heel v_maker_side v_maker_pitch v_maker_outer v_maker_inner v_maker_across v_maker_hole v_maker_spans_toldBits v_maker_spans_exactBits v_maker_spans_highs v_maker_print_atHand v_maker_print_count v_maker_print_thermal v_maker_print_density v_maker_print_outerHigh v_maker_print_pasteLeft v_maker_print_pasteLow v_maker_print_nameLength v_maker_print_isWritten v_families_at_values v_maker_spans_lows v_maker_print_cells v_maker_leftOut v_maker_print_yard) H → va_D A (w_F_make_o ad a_this a_reader a_families a_handMade a_maker a_maker_print a_families_at a_families_at_values a_families_at_letters a_maker_spans a_maker_leftOut a_maker_spans_lows a_maker_spans_highs a_maker_print_cells a_maker_print_family a_maker_print_yard a_maker_print_columns a_maker_print_rows a_maker_print_line k_families k_maker_spans_highs k_families_at_values k_maker_spans_lows k_maker_print_cells k_maker_leftOut k_maker_print_yard v_this_familyCount v_families v_families_at_letterCount v_families_at_kind v_maker_rounding v_maker_toe v_maker_heel v_maker_side v_maker_pitch v_maker_outer v_maker_inner v_maker_across v_maker_hole v_maker_spans_toldBits v_maker_spans_exactBits v_maker_spans_highs v_maker_print_atHand v_maker_print_count v_maker_print_thermal v_maker_print_density v_maker_print_outerHigh v_maker_print_pasteLeft v_maker_print_pasteLow v_maker_print_nameLength v_maker_print_isWritten v_families_at_values v_maker_spans_lows v_maker_print_cells v_maker_leftOut v_maker_print_yard) → va_S A s.heap H locs → ∀ ls : Array Slot, lv_has ls 3 [] → W p l e (headSpec wsF_make_o { frames := 6, cells := 0, slots := 0, locals := 141 }).room s m args below meth c H locs 0 0 (MQ below (va_Qi (fun (r : Int32) (u : Int64 × Int64 × Int64 × Int64 × Int64 × Int64 × Int64 × Int64 × Int64 × Int32 × Int32 × Int32 × Int32 × Int64 × Int32 × (Nat → Int64) × (Nat → Int64)) => post r u.1 u.2.1 u.2.2.1 u.2.2.2.1 u.2.2.2.2.1 u.2.2.2.2.2.1 u.2.2.2.2.2.2.1 u.2.2.2.2.2.2.2.1 u.2.2.2.2.2.2.2.2.1 u.2.2.2.2.2.2.2.2.2.1 u.2.2.2.2.2.2.2.2.2.2.1 u.2.2.2.2.2.2.2.2.2.2.2.1 u.2.2.2.2.2.2.2.2.2.2.2.2.1 u.2.2.2.2.2.2.2.2.2.2.2.2.2.1 u.2.2.2.2.2.2.2.2.2.2.2.2.2.2.1 u.2.2.2.2.2.2.2.2.2.2.2.2.2.2.2.1 u.2.2.2.2.2.2.2.2.2.2.2.2.2.2.2.2) (zB (dC, dI) A (fun (u : Int64 × Int64 × Int64 × Int64 × Int64 × Int64 × Int64 × Int64 × Int64 × Int32 × Int32 × Int32 × Int32 × Int64 × Int32 × (Nat → Int64) × (Nat → Int64)) => (w_F_make_o ad a_this a_reader a_families a_handMade a_maker a_maker_print a_families_at a_families_at_values a_families_at_letters a_maker_spans a_maker_leftOut a_maker_spans_lows a_maker_spans_highs a_maker_print_cells a_families_at a_maker_print_yard a_maker_print_columns a_maker_print_rows a_maker_print_line k_families k_maker_spans_highs k_families_at_values k_maker_spans_lows k_maker_print_cells k_maker_leftOut k_maker_print_yard v_this_familyCount v_families v_families_at_letterCount v_families_at_kind u.1 u.2.1 u.2.2.1 u.2.2.2.1 u.2.2.2.2.1 u.2.2.2.2.2.1 u.2.2.2.2.2.2.1 u.2.2.2.2.2.2.2.1 u.2.2.2.2.2.2.2.2.1 v_maker_spans_toldBits v_maker_spans_exactBits v_maker_spans_highs u.2.2.2.2.2.2.2.2.2.1 u.2.2.2.2.2.2.2.2.2.2.1 u.2.2.2.2.2.2.2.2.2.2.2.1 u.2.2.2.2.2.2.2.2.2.2.2.2.1 u.2.2.2.2.2.2.2.2.2.2.2.2.2.1 v_maker_print_pasteLeft v_maker_print_pasteLow v_maker_print_nameLength u.2.2.2.2.2.2.2.2.2.2.2.2.2.2.1 v_families_at_values v_maker_spans_lows u.2.2.2.2.2.2.2.2.2.2.2.2.2.2.2.1 v_maker_leftOut u.2.2.2.2.2.2.2.2.2.2.2.2.2.2.2.2))) A) args s 0 0 A) (F0 m 37 ls []) := by
  obtain ⟨hx, hb, hr, hml, hown, hts, hlocks, hA⟩ := id C0
  intro  H locs h hP hD hS ls hl
  unfold P_F_make_o_37 at h
  exact False.elim h
def P_F_make_o (a_families_at : Nat) (p1 : Int32) (p2 : Int32) (v_this_familyCount : Int32) (v_families : Nat → Option Nat) (v_families_at_kind : Nat) (v_maker_rounding : Int64) (v_maker_toe : Int64) (v_maker_heel : Int64) (v_maker_side : Int64) (v_maker_pitch : Int64) (v_maker_outer : Int64) (v_maker_inner : Int64) (v_maker_across : Int64) (v_maker_hole : Int64) (v_maker_spans_toldBits : Int32) (v_maker_spans_exactBits : Int32) (v_maker_spans_highs : Nat → Int64) (v_families_at_values : Nat → Int32) (v_maker_spans_lows : Nat → Int64) (v_maker_print_cells : Nat → Int64) (v_maker_leftOut : Nat → Int32) (v_maker_print_yard : Nat → Int64) (post : Int32 → Int64 → Int64 → Int64 → Int64 → Int64 → Int64 → Int64 → Int64 → Int64 → Int32 → Int32 → Int32 → Int32 → Int64 → Int32 → (Nat → Int64) → (Nat → Int64) → Prop) : Prop := ((p1 < 0 → P_F_make_o_18 post) ∧ (¬ p1 < 0 → ((v_this_familyCount ≤ p1 → P_F_make_o_18 post) ∧ (¬ v_this_familyCount ≤ p1 → ((p1 < 8 → ((p2 < 0 → P_F_make_o_37 post) ∧ (¬ p2 < 0 → ((p2 < 3 → vp_in p1 8 ∧ v_families p1.toNatClampNeg = some a_families_at ∧ P_Ma_build p2 v_families_at_kind v_maker_rounding v_maker_toe v_maker_heel v_maker_side v_maker_pitch v_maker_outer v_maker_inner v_maker_across v_maker_hole v_maker_spans_toldBits v_maker_spans_exactBits v_maker_spans_highs v_families_at_values v_maker_spans_lows v_maker_print_cells v_maker_leftOut v_maker_print_yard (fun (r25 : Int32) (u8 : Int64) (u9 : Int64) (u10 : Int64) (u11 : Int64) (u12 : Int64) (u13 : Int64) (u14 : Int64) (u15 : Int64) (u16 : Int64) (u17 : Int32) (u18 : Int32) (u19 : Int32) (u20 : Int32) (u21 : Int64) (u22 : Int32) (u23 : Nat → Int64) (u24 : Nat → Int64) => ((r25 = 0 → post (-1) u8 u9 u10 u11 u12 u13 u14 u15 u16 u17 u18 u19 u20 u21 u22 u23 u24) ∧ (¬ r25 = 0 → post u18 u8 u9 u10 u11 u12 u13 u14 u15 u16 u17 u18 u19 u20 u21 u22 u23 u24)))) ∧ (¬ p2 < 3 → P_F_make_o_37 post))))) ∧ (¬ p1 < 8 → P_F_make_o_18 post))))))
set_option maxHeartbeats 4000000 in
set_option maxRecDepth 100000 in
theorem c_F_make_o (l : Launch) (dC : Nat → ClassId) (dI : Nat → Nat → Nat) (ad : Nat → Nat → Nat) (a_this : Nat) (a_reader : Nat) (a_families : Nat) (a_handMade : Nat) (a_maker : Nat) (a_maker_print : Nat) (a_families_at : Nat) (a_families_at_values : Nat) (a_families_at_letters : Nat) (a_maker_spans : Nat) (a_maker_leftOut : Nat) (a_maker_spans_lows : Nat) (a_maker_spans_highs : Nat) (a_maker_print_cells : Nat) (a_maker_print_family : Nat) (a_maker_print_yard : Nat) (a_maker_print_columns : Nat) (a_maker_print_rows : Nat) (a_maker_print_line : Nat) (k_families : ClassId) (k_maker_spans_highs : ClassId) (k_families_at_values : ClassId) (k_maker_spans_lows : ClassId) (k_maker_print_cells : ClassId) (k_maker_leftOut : ClassId) (k_maker_print_yard : ClassId) (sz : Nat) (p1 : Int32) (p2 : Int32) (v_this_familyCount : Int32) (v_families : Nat → Option Nat) (v_families_at_letterCount : Int32) (v_families_at_kind : Nat) (v_maker_rounding : Int64) (v_maker_toe : Int64) (v_maker_heel : Int64) (v_maker_side : Int64) (v_maker_pitch : Int64) (v_maker_outer : Int64) (v_maker_inner : Int64) (v_maker_across : Int64) (v_maker_hole : Int64) (v_maker_spans_toldBits : Int32) (v_maker_spans_exactBits : Int32) (v_maker_spans_highs : Nat → Int64) (v_maker_print_atHand : Int32) (v_maker_print_count : Int32) (v_maker_print_thermal : Int32) (v_maker_print_density : Int32) (v_maker_print_outerHigh : Int64) (v_maker_print_pasteLeft : Int64) (v_maker_print_pasteLow : Int64) (v_maker_print_nameLength : Int32) (v_maker_print_isWritten : Int32) (v_families_at_values : Nat → Int32) (v_maker_spans_lows : Nat → Int64) (v_maker_print_cells : Nat → Int64) (v_maker_leftOut : Nat → Int32) (v_maker_print_yard : Nat → Int64) (post : Int32 → Int64 → Int64 → Int64 → Int64 → Int64 → Int64 → Int64 → Int64 → Int64 → Int32 → Int32 → Int32 → Int32 → Int64 → Int32 → (Nat → Int64) → (Nat → Int64) → Prop) (h : P_F_make_o a_families_at p1 p2 v_this_familyCount v_families v_families_at_kind v_maker_rounding v_maker_toe v_maker_heel v_maker_side v_maker_pitch v_maker_outer v_maker_inner v_maker_across v_maker_hole v_maker_spans_toldBits v_maker_spans_exactBits v_maker_spans_highs v_families_at_values v_maker_spans_lows v_maker_print_cells v_maker_leftOut v_maker_print_yard post) : zMi l yF_make_o wsF_make_o { frames := 6, cells := 0, slots := 0, locals := 141 } (dC, dI) ad [.ref a_this, .int p1, .int p2] (w_F_make_o ad a_this a_reader a_families a_handMade a_maker a_maker_print a_families_at a_families_at_values a_families_at_letters a_maker_spans a_maker_leftOut a_maker_spans_lows a_maker_spans_highs a_maker_print_cells a_maker_print_family a_maker_print_yard a_maker_print_columns a_maker_print_rows a_maker_print_line k_families k_maker_spans_highs k_families_at_values k_maker_spans_lows k_maker_print_cells k_maker_leftOut k_maker_print_yard v_this_familyCount v_families v_families_at_letterCount v_families_at_kind v_maker_rounding v_maker_toe v_maker_heel v_maker_side v_maker_pitch v_maker_outer v_maker_inner v_maker_across v_maker_hole v_maker_spans_toldBits v_maker_spans_exactBits v_maker_spans_highs v_maker_print_atHand v_maker_print_count v_maker_print_thermal v_maker_print_density v_maker_print_outerHigh v_maker_print_pasteLeft v_maker_print_pasteLow v_maker_print_nameLength v_maker_print_isWritten v_families_at_values v_maker_spans_lows v_maker_print_cells v_maker_leftOut v_maker_print_yard) [(k_families, .object "FootprintRules$Family"), (k_maker_spans_highs, .long), (k_families_at_values, .int), (k_maker_spans_lows, .long), (k_maker_print_cells, .long), (k_maker_leftOut, .boolean), (k_maker_print_yard, .long)] sz (fun (r : Int32) (u : Int64 × Int64 × Int64 × Int64 × Int64 × Int64 × Int64 × Int64 × Int64 × Int32 × Int32 × Int32 × Int32 × Int64 × Int32 × (Nat → Int64) × (Nat → Int64)) => post r u.1 u.2.1 u.2.2.1 u.2.2.2.1 u.2.2.2.2.1 u.2.2.2.2.2.1 u.2.2.2.2.2.2.1 u.2.2.2.2.2.2.2.1 u.2.2.2.2.2.2.2.2.1 u.2.2.2.2.2.2.2.2.2.1 u.2.2.2.2.2.2.2.2.2.2.1 u.2.2.2.2.2.2.2.2.2.2.2.1 u.2.2.2.2.2.2.2.2.2.2.2.2.1 u.2.2.2.2.2.2.2.2.2.2.2.2.2.1 u.2.2.2.2.2.2.2.2.2.2.2.2.2.2.1 u.2.2.2.2.2.2.2.2.2.2.2.2.2.2.2.1 u.2.2.2.2.2.2.2.2.2.2.2.2.2.2.2.2) (fun (u : Int64 × Int64 × Int64 × Int64 × Int64 × Int64 × Int64 × Int64 × Int64 × Int32 × Int32 × Int32 × Int32 × Int64 × Int32 × (Nat → Int64) × (Nat → Int64)) => (w_F_make_o ad a_this a_reader a_families a_handMade a_maker a_maker_print a_families_at a_families_at_values a_families_at_letters a_maker_spans a_maker_leftOut a_maker_spans_lows a_maker_spans_highs a_maker_print_cells a_families_at a_maker_print_yard a_maker_print_columns a_maker_print_rows a_maker_print_line k_families k_maker_spans_highs k_families_at_values k_maker_spans_lows k_maker_print_cells k_maker_leftOut k_maker_print_yard v_this_familyCount v_families v_families_at_letterCount v_families_at_kind u.1 u.2.1 u.2.2.1 u.2.2.2.1 u.2.2.2.2.1 u.2.2.2.2.2.1 u.2.2.2.2.2.2.1 u.2.2.2.2.2.2.2.1 u.2.2.2.2.2.2.2.2.1 v_maker_spans_toldBits v_maker_spans_exactBits v_maker_spans_highs u.2.2.2.2.2.2.2.2.2.1 u.2.2.2.2.2.2.2.2.2.2.1 u.2.2.2.2.2.2.2.2.2.2.2.1 u.2.2.2.2.2.2.2.2.2.2.2.2.1 u.2.2.2.2.2.2.2.2.2.2.2.2.2.1 v_maker_print_pasteLeft v_maker_print_pasteLow v_maker_print_nameLength u.2.2.2.2.2.2.2.2.2.2.2.2.2.2.1 v_families_at_values v_maker_spans_lows u.2.2.2.2.2.2.2.2.2.2.2.2.2.2.2.1 v_maker_leftOut u.2.2.2.2.2.2.2.2.2.2.2.2.2.2.2.2)) 0 0 := by
  refine Met.ofW (cc := cF_make_o) (maxL := 3) (ret := (some .int)) (by decide +kernel) rfl ?_
  intro p e s m args below meth c s₁ B hml hv
  obtain ⟨rfl, hsz, hP, hK, hD0, hE⟩ := hv
  have hx := B.exec
  have hb := B.bytes
  have hr := B.returns
  have hts0 := atoms_spec (ws := wsF_make_o) B.pre
  have hts := fun w h => hts0 w (List.mem_cons_of_mem _ h)
  have hown : s.vm.findClass RF = some m.cls := findClass_of_methodNamed B.named
  have hlocks := B.notSynchronized
  subst hsz
  have hD := hD0.self (sz := s.heap.size)
  generalize hAe : va_A (w_F_make_o ad a_this a_reader a_families a_handMade a_maker a_maker_print a_families_at a_families_at_values a_families_at_letters a_maker_spans a_maker_leftOut a_maker_spans_lows a_maker_spans_highs a_maker_print_cells a_maker_print_family a_maker_print_yard a_maker_print_columns a_maker_print_rows a_maker_print_line k_families k_maker_spans_highs k_families_at_values k_maker_spans_lows k_maker_print_cells k_maker_leftOut k_maker_print_yard v_this_familyCount v_families v_families_at_letterCount v_families_at_kind v_maker_rounding v_maker_toe v_maker_heel v_maker_side v_maker_pitch v_maker_outer v_maker_inner v_maker_across v_maker_hole v_maker_spans_toldBits v_maker_spans_exactBits v_maker_spans_highs v_maker_print_atHand v_maker_print_count v_maker_print_thermal v_maker_print_density v_maker_print_outerHigh v_maker_print_pasteLeft v_maker_print_pasteLow v_maker_print_nameLength v_maker_print_isWritten v_families_at_values v_maker_spans_lows v_maker_print_cells v_maker_leftOut v_maker_print_yard) s.heap.size = A at hD hE ⊢
  have hA : ∀ q : Nat, s.heap.size ≤ q → A q := fun q h => by rw [← hAe]; exact Or.inr h
  have C0 := zC.mk hx hb hr hml hown hts hlocks hA
  have hS : va_S A s.heap s.heap [] := va_S.rf
  have hl := lv_entry ([.ref a_this, .int p1, .int p2]) (n := 3) (Nat.le_of_ble_eq_true rfl)
  rw [lg_entry_eq]
  generalize (lg_sl ([.ref a_this, .int p1, .int p2]) ++ List.replicate (3 - (lg_sl ([.ref a_this, .int p1, .int p2])).length) Slot.unset).toArray = ls at hl ⊢
  have hl : lv_has ls 3 [(0, .ref a_this), (1, .int p1), (2, .int p2)] := hl
  unfold P_F_make_o at h
  refine lv_iload_n hx hb dF_make_o_0 rfl (lv_at hl 1 rfl) ?_
  refine lv_if_lt (tgt := 18) hx hb dF_make_o_1 (by decide) ?_ ?_
  · intro c1
    replace h := h.1 c1
    exact w_F_make_o_18 l C0 hE a_this a_reader a_families a_handMade a_maker a_maker_print a_families_at a_families_at_values a_families_at_letters a_maker_spans a_maker_leftOut a_maker_spans_lows a_maker_spans_highs a_maker_print_cells a_maker_print_family a_maker_print_yard a_maker_print_columns a_maker_print_rows a_maker_print_line k_families k_maker_spans_highs k_families_at_values k_maker_spans_lows k_maker_print_cells k_maker_leftOut k_maker_print_yard p1 p2 v_this_familyCount v_families v_families_at_letterCount v_families_at_kind v_maker_rounding v_maker_toe v_maker_heel v_maker_side v_maker_pitch v_maker_outer v_maker_inner v_maker_across v_maker_hole v_maker_spans_toldBits v_maker_spans_exactBits v_maker_spans_highs v_maker_print_atHand v_maker_print_count v_maker_print_thermal v_maker_print_density v_maker_print_outerHigh v_maker_print_pasteLeft v_maker_print_pasteLow v_maker_print_nameLength v_maker_print_isWritten v_families_at_values v_maker_spans_lows v_maker_print_cells v_maker_leftOut v_maker_print_yard post hK _ _ h hP hD hS ls (lv_sub hl [] rfl)
  · intro c1
    replace h := h.2 c1
    refine lv_iload_n hx hb dF_make_o_4 rfl (lv_at hl 1 rfl) ?_
    refine lv_aload_n hx hb dF_make_o_5 rfl (lv_at hl 0 rfl) ?_
    refine va_get (D := (dC, dI)) (ci := 9) (v := .int v_this_familyCount) (C := RF) (T := TF) (N := 6) hx hb hts inZ_F hown hK hP 0 rfl rfl 2 (by decide) (hts _ zw_374) (fun _ h9 => h9) rfl dF_make_o_6 ?_
    refine lv_icmp_ge (tgt := 18) hx hb dF_make_o_9 (by decide) ?_ ?_
    · intro c2
      replace h := h.1 c2
      exact w_F_make_o_18 l C0 hE a_this a_reader a_families a_handMade a_maker a_maker_print a_families_at a_families_at_values a_families_at_letters a_maker_spans a_maker_leftOut a_maker_spans_lows a_maker_spans_highs a_maker_print_cells a_maker_print_family a_maker_print_yard a_maker_print_columns a_maker_print_rows a_maker_print_line k_families k_maker_spans_highs k_families_at_values k_maker_spans_lows k_maker_print_cells k_maker_leftOut k_maker_print_yard p1 p2 v_this_familyCount v_families v_families_at_letterCount v_families_at_kind v_maker_rounding v_maker_toe v_maker_heel v_maker_side v_maker_pitch v_maker_outer v_maker_inner v_maker_across v_maker_hole v_maker_spans_toldBits v_maker_spans_exactBits v_maker_spans_highs v_maker_print_atHand v_maker_print_count v_maker_print_thermal v_maker_print_density v_maker_print_outerHigh v_maker_print_pasteLeft v_maker_print_pasteLow v_maker_print_nameLength v_maker_print_isWritten v_families_at_values v_maker_spans_lows v_maker_print_cells v_maker_leftOut v_maker_print_yard post hK _ _ h hP hD hS ls (lv_sub hl [] rfl)
    · intro c2
      replace h := h.2 c2
      refine lv_iload_n hx hb dF_make_o_12 rfl (lv_at hl 1 rfl) ?_
      refine lv_bipush (v := 8) hx hb dF_make_o_13 (by decide) ?_
      refine lv_icmp_lt (tgt := 28) hx hb dF_make_o_15 (by decide) ?_ ?_
      · intro c3
        replace h := h.1 c3
        refine lv_iload_n hx hb dF_make_o_28 rfl (lv_at hl 2 rfl) ?_
        refine lv_if_lt (tgt := 37) hx hb dF_make_o_29 (by decide) ?_ ?_
        · intro c4
          replace h := h.1 c4
          exact w_F_make_o_37 l C0 hE a_this a_reader a_families a_handMade a_maker a_maker_print a_families_at a_families_at_values a_families_at_letters a_maker_spans a_maker_leftOut a_maker_spans_lows a_maker_spans_highs a_maker_print_cells a_maker_print_family a_maker_print_yard a_maker_print_columns a_maker_print_rows a_maker_print_line k_families k_maker_spans_highs k_families_at_values k_maker_spans_lows k_maker_print_cells k_maker_leftOut k_maker_print_yard p1 p2 v_this_familyCount v_families v_families_at_letterCount v_families_at_kind v_maker_rounding v_maker_toe v_maker_heel v_maker_side v_maker_pitch v_maker_outer v_maker_inner v_maker_across v_maker_hole v_maker_spans_toldBits v_maker_spans_exactBits v_maker_spans_highs v_maker_print_atHand v_maker_print_count v_maker_print_thermal v_maker_print_density v_maker_print_outerHigh v_maker_print_pasteLeft v_maker_print_pasteLow v_maker_print_nameLength v_maker_print_isWritten v_families_at_values v_maker_spans_lows v_maker_print_cells v_maker_leftOut v_maker_print_yard post hK _ _ h hP hD hS ls (lv_sub hl [] rfl)
        · intro c4
          replace h := h.2 c4
          refine lv_iload_n hx hb dF_make_o_32 rfl (lv_at hl 2 rfl) ?_
          refine lv_iconst (v := 3) hx hb dF_make_o_33 (by decide) ?_
          refine lv_icmp_lt (tgt := 47) hx hb dF_make_o_34 (by decide) ?_ ?_
          · intro c5
            replace h := h.1 c5
            refine lv_aload_n hx hb dF_make_o_47 rfl (lv_at hl 0 rfl) ?_
            refine va_get (D := (dC, dI)) (ci := 9) (v := .ref a_maker) (C := RF) (T := TF) (N := 6) hx hb hts inZ_F hown hK hP 0 rfl rfl 4 (by decide) (hts _ zw_376) (fun _ h9 => h9) rfl dF_make_o_48 ?_
            refine lv_aload_n hx hb dF_make_o_51 rfl (lv_at hl 0 rfl) ?_
            refine va_get (D := (dC, dI)) (ci := 9) (v := .ref a_families) (C := RF) (T := TF) (N := 6) hx hb hts inZ_F hown hK hP 0 rfl rfl 1 (by decide) (hts _ zw_373) (fun _ h9 => h9) rfl dF_make_o_52 ?_
            refine lv_iload_n hx hb dF_make_o_55 rfl (lv_at hl 1 rfl) ?_
            obtain ⟨hn6, h⟩ := h
            obtain ⟨hn7, h⟩ := h
            refine va_aldq hx hb hK hP 1 0 rfl rfl hn6 dF_make_o_56 ?_
            rw [hn7]
            refine W.eq (g2 := F0 m 57 ls [.ref a_families_at, .ref a_maker]) rfl ?_
            refine lv_iload_n hx hb dF_make_o_57 rfl (lv_at hl 2 rfl) ?_
            refine zcall_i hP hD hS hA [2, 3, 4, 5, 6, 7, 8, 9, 10, 11] [0, 1] (va_runVN (As := [.ref a_families_at, .int p2]) (rest := []) ⟨hx, hb, hml, hown, hts⟩ (c_Ma_build l dC dI ad a_families_at a_families_at_values a_families_at_letters a_maker a_maker_spans a_maker_leftOut a_maker_print a_maker_spans_lows a_maker_spans_highs a_maker_print_cells a_maker_print_family a_maker_print_yard a_maker_print_columns a_maker_print_rows a_maker_print_line k_maker_spans_highs k_families_at_values k_maker_spans_lows k_maker_print_cells k_maker_leftOut k_maker_print_yard _ p2 v_families_at_letterCount v_families_at_kind v_maker_rounding v_maker_toe v_maker_heel v_maker_side v_maker_pitch v_maker_outer v_maker_inner v_maker_across v_maker_hole v_maker_spans_toldBits v_maker_spans_exactBits v_maker_spans_highs v_maker_print_atHand v_maker_print_count v_maker_print_thermal v_maker_print_density v_maker_print_outerHigh v_maker_print_pasteLeft v_maker_print_pasteLow v_maker_print_nameLength v_maker_print_isWritten v_families_at_values v_maker_spans_lows v_maker_print_cells v_maker_leftOut v_maker_print_yard _ h) ⟨va_cnB 2 hts (zgood zc_Ma_build) rfl rfl rfl (hE.nw _ zn_688) (hts _ zw_99) (by decide +kernel) ⟨Nat.le_of_ble_eq_true rfl, Nat.le_of_ble_eq_true rfl⟩, (hts _ zw_690), (hts _ zw_23)⟩ (zpreV hE hK hP hD hS hA [2, 3, 4, 5, 6, 7, 8, 9, 10, 11] [1, 2, 3, 4, 5, 6] (by rfl) (by rfl) (by decide) (ci := 4) (q0 := 3) rfl (by rfl)) rfl rfl hl.1 rfl (lv_room (Nat.le_of_ble_eq_true rfl)) dF_make_o_58 ⟨Nat.le_of_ble_eq_true rfl, Nat.le_of_ble_eq_true rfl⟩) (by rfl) (by rfl) (by decide) (by decide) (fun r25 u H locs h hP hD hS => ?_)
            obtain ⟨u8, u9, u10, u11, u12, u13, u14, u15, u16, u17, u18, u19, u20, u21, u22, u23, u24⟩ := u
            try dsimp only at h
            have hP := hP.sub (ws' := (w_F_make_o ad a_this a_reader a_families a_handMade a_maker a_maker_print a_families_at a_families_at_values a_families_at_letters a_maker_spans a_maker_leftOut a_maker_spans_lows a_maker_spans_highs a_maker_print_cells a_families_at a_maker_print_yard a_maker_print_columns a_maker_print_rows a_maker_print_line k_families k_maker_spans_highs k_families_at_values k_maker_spans_lows k_maker_print_cells k_maker_leftOut k_maker_print_yard v_this_familyCount v_families v_families_at_letterCount v_families_at_kind u8 u9 u10 u11 u12 u13 u14 u15 u16 v_maker_spans_toldBits v_maker_spans_exactBits v_maker_spans_highs u17 u18 u19 u20 u21 v_maker_print_pasteLeft v_maker_print_pasteLow v_maker_print_nameLength u22 v_families_at_values v_maker_spans_lows u23 v_maker_leftOut u24)) [0, 1, 2, 3, 4, 5, 6, 7, 8, 9, 10, 11] rfl
            have hD := hD.sub (ws' := (w_F_make_o ad a_this a_reader a_families a_handMade a_maker a_maker_print a_families_at a_families_at_values a_families_at_letters a_maker_spans a_maker_leftOut a_maker_spans_lows a_maker_spans_highs a_maker_print_cells a_families_at a_maker_print_yard a_maker_print_columns a_maker_print_rows a_maker_print_line k_families k_maker_spans_highs k_families_at_values k_maker_spans_lows k_maker_print_cells k_maker_leftOut k_maker_print_yard v_this_familyCount v_families v_families_at_letterCount v_families_at_kind u8 u9 u10 u11 u12 u13 u14 u15 u16 v_maker_spans_toldBits v_maker_spans_exactBits v_maker_spans_highs u17 u18 u19 u20 u21 v_maker_print_pasteLeft v_maker_print_pasteLow v_maker_print_nameLength u22 v_families_at_values v_maker_spans_lows u23 v_maker_leftOut u24)) [0, 1, 2, 3, 4, 5, 6, 7, 8, 9, 10, 11] (by decide) rfl
            refine lv_if_eq (tgt := 74) hx hb dF_make_o_61 (by decide) ?_ ?_
            · intro c26
              replace h := h.1 c26
              refine lv_iconst (v := (-1)) hx hb dF_make_o_74 (by decide) ?_
              exact W.iret (v := (-1)) hx hb hr (fun t ht hW => ⟨⟨(-1), (u8, u9, u10, u11, u12, u13, u14, u15, u16, u17, u18, u19, u20, u21, u22, u23, u24), rfl, h, by rw [ht]; exact hP, hD⟩, hS.F ht⟩) hS.2.2 dF_make_o_75
            · intro c26
              replace h := h.2 c26
              refine lv_aload_n hx hb dF_make_o_64 rfl (lv_at hl 0 rfl) ?_
              refine va_get (D := (dC, dI)) (ci := 9) (v := .ref a_maker_print) (C := RF) (T := TF) (N := 6) hx hb hts inZ_F hown hK hP 0 rfl rfl 5 (by decide) (hts _ zw_377) (fun _ h9 => h9) rfl dF_make_o_65 ?_
              refine va_getN (D := (dC, dI)) (ci := 6) (v := .int u18) (C := RFp) (T := TFp) (N := 15) hx hb hts inZ_Fp hown hK hP 6 rfl rfl 2 (by decide) ((hE.nw _ zn_285).use rfl) (fun _ h9 => h9) rfl dF_make_o_68 ?_
              refine lv_goto (tgt := 75) hx hb dF_make_o_71 (by decide) ?_
              exact W.iret (v := u18) hx hb hr (fun t ht hW => ⟨⟨u18, (u8, u9, u10, u11, u12, u13, u14, u15, u16, u17, u18, u19, u20, u21, u22, u23, u24), rfl, h, by rw [ht]; exact hP, hD⟩, hS.F ht⟩) hS.2.2 dF_make_o_75
          · intro c5
            replace h := h.2 c5
            exact w_F_make_o_37 l C0 hE a_this a_reader a_families a_handMade a_maker a_maker_print a_families_at a_families_at_values a_families_at_letters a_maker_spans a_maker_leftOut a_maker_spans_lows a_maker_spans_highs a_maker_print_cells a_maker_print_family a_maker_print_yard a_maker_print_columns a_maker_print_rows a_maker_print_line k_families k_maker_spans_highs k_families_at_values k_maker_spans_lows k_maker_print_cells k_maker_leftOut k_maker_print_yard p1 p2 v_this_familyCount v_families v_families_at_letterCount v_families_at_kind v_maker_rounding v_maker_toe v_maker_heel v_maker_side v_maker_pitch v_maker_outer v_maker_inner v_maker_across v_maker_hole v_maker_spans_toldBits v_maker_spans_exactBits v_maker_spans_highs v_maker_print_atHand v_maker_print_count v_maker_print_thermal v_maker_print_density v_maker_print_outerHigh v_maker_print_pasteLeft v_maker_print_pasteLow v_maker_print_nameLength v_maker_print_isWritten v_families_at_values v_maker_spans_lows v_maker_print_cells v_maker_leftOut v_maker_print_yard post hK _ _ h hP hD hS ls (lv_sub hl [] rfl)
      · intro c3
        replace h := h.2 c3
        exact w_F_make_o_18 l C0 hE a_this a_reader a_families a_handMade a_maker a_maker_print a_families_at a_families_at_values a_families_at_letters a_maker_spans a_maker_leftOut a_maker_spans_lows a_maker_spans_highs a_maker_print_cells a_maker_print_family a_maker_print_yard a_maker_print_columns a_maker_print_rows a_maker_print_line k_families k_maker_spans_highs k_families_at_values k_maker_spans_lows k_maker_print_cells k_maker_leftOut k_maker_print_yard p1 p2 v_this_familyCount v_families v_families_at_letterCount v_families_at_kind v_maker_rounding v_maker_toe v_maker_heel v_maker_side v_maker_pitch v_maker_outer v_maker_inner v_maker_across v_maker_hole v_maker_spans_toldBits v_maker_spans_exactBits v_maker_spans_highs v_maker_print_atHand v_maker_print_count v_maker_print_thermal v_maker_print_density v_maker_print_outerHigh v_maker_print_pasteLeft v_maker_print_pasteLow v_maker_print_nameLength v_maker_print_isWritten v_families_at_values v_maker_spans_lows v_maker_print_cells v_maker_leftOut v_maker_print_yard post hK _ _ h hP hD hS ls (lv_sub hl [] rfl)
abbrev yF_make_t : MethodName := ⟨"FootprintRules", "make", "(II)I"⟩
abbrev cF_make_t : ByteArray := prog_1_method_5_code
abbrev wsF_make_t : List Cond := .code yF_make_t cF_make_t 3 (some .int) :: zT
set_option maxRecDepth 100000 in
theorem zc_F_make_t : Cond.code yF_make_t cF_make_t 3 (some .int) ∈ zT := zm 685 (by rfl) (by rfl)
theorem dF_make_t_0 : decode cF_make_t 0 = .ok (.iload_n 1, 1) := by decide +kernel
theorem dF_make_t_1 : decode cF_make_t 1 = .ok (.ifCond .lt 17, 3) := by decide +kernel
theorem dF_make_t_4 : decode cF_make_t 4 = .ok (.iload_n 1, 1) := by decide +kernel
theorem dF_make_t_5 : decode cF_make_t 5 = .ok (.aload_n 0, 1) := by decide +kernel
theorem dF_make_t_6 : decode cF_make_t 6 = .ok (.getfield 52, 3) := by decide +kernel
theorem dF_make_t_9 : decode cF_make_t 9 = .ok (.if_icmp .ge 9, 3) := by decide +kernel
theorem dF_make_t_12 : decode cF_make_t 12 = .ok (.iload_n 1, 1) := by decide +kernel
theorem dF_make_t_13 : decode cF_make_t 13 = .ok (.bipush 8, 2) := by decide +kernel
theorem dF_make_t_15 : decode cF_make_t 15 = .ok (.if_icmp .lt 13, 3) := by decide +kernel
theorem dF_make_t_18 : decode cF_make_t 18 = .ok (.new 70, 3) := by decide +kernel
theorem dF_make_t_21 : decode cF_make_t 21 = .ok (.dup, 1) := by decide +kernel
theorem dF_make_t_22 : decode cF_make_t 22 = .ok (.ldc 96, 2) := by decide +kernel
theorem dF_make_t_24 : decode cF_make_t 24 = .ok (.invokespecial 74, 3) := by decide +kernel
theorem dF_make_t_27 : decode cF_make_t 27 = .ok (.athrow, 1) := by decide +kernel
theorem dF_make_t_28 : decode cF_make_t 28 = .ok (.iload_n 2, 1) := by decide +kernel
theorem dF_make_t_29 : decode cF_make_t 29 = .ok (.ifCond .lt 8, 3) := by decide +kernel
theorem dF_make_t_32 : decode cF_make_t 32 = .ok (.iload_n 2, 1) := by decide +kernel
theorem dF_make_t_33 : decode cF_make_t 33 = .ok (.iconst 3, 1) := by decide +kernel
theorem dF_make_t_34 : decode cF_make_t 34 = .ok (.if_icmp .lt 13, 3) := by decide +kernel
theorem dF_make_t_37 : decode cF_make_t 37 = .ok (.new 81, 3) := by decide +kernel
theorem dF_make_t_40 : decode cF_make_t 40 = .ok (.dup, 1) := by decide +kernel
theorem dF_make_t_41 : decode cF_make_t 41 = .ok (.ldc 98, 2) := by decide +kernel
theorem dF_make_t_43 : decode cF_make_t 43 = .ok (.invokespecial 85, 3) := by decide +kernel
theorem dF_make_t_46 : decode cF_make_t 46 = .ok (.athrow, 1) := by decide +kernel
-- FootprintRules.make(II)I
abbrev w_F_make_t (ad : Nat → Nat → Nat) (a_this : Nat) (a_reader : Nat) (a_families : Nat) (a_handMade : Nat) (a_maker : Nat) (a_maker_print : Nat)  (v_this_familyCount : Int32) : va_W := [(a_this, .inr (9, [.ref a_reader, .ref a_families, .int v_this_familyCount, .ref a_handMade, .ref a_maker, .ref a_maker_print]))]
def P_F_make_t_18  (post : String → Prop)  : Prop := post "java/lang/IndexOutOfBoundsException"
set_option maxHeartbeats 4000000 in
set_option maxRecDepth 100000 in
theorem w_F_make_t_18 (l : Launch) {p : Program} {e : Env} {s : State} {m : MethodId} {args : Array Value} {below : List Frame} {meth : Method} {c : Code} {dC : Nat → ClassId} {dI : Nat → Nat → Nat} {ad : Nat → Nat → Nat} {A : Nat → Prop} (hlt : l.stackTraces = false) (hnx : ∀ (k : Nat), ∀ x ∈ c.exceptionTable.toList, covers x k = false) (C0 : zC p s m args meth c cF_make_t 3 RF zT (some .int) A) (hE : zE ad A s) (a_this : Nat) (a_reader : Nat) (a_families : Nat) (a_handMade : Nat) (a_maker : Nat) (a_maker_print : Nat)  (p1 : Int32) (p2 : Int32) (v_this_familyCount : Int32) (post : String → Prop) (hK : va_K (dC, dI) vwCl [] s) : ∀  (H : Heap) (locs : List Loc), P_F_make_t_18 post → va_P (dC, dI) vwCl (w_F_make_t ad a_this a_reader a_families a_handMade a_maker a_maker_print v_this_familyCount) H → va_D A (w_F_make_t ad a_this a_reader a_families a_handMade a_maker a_maker_print v_this_familyCount) → va_S A s.heap H locs → ∀ ls : Array Slot, lv_has ls 3 [] → W p l e (headSpec wsF_make_t { frames := 6, cells := 1, slots := 6, locals := 91 }).room s m args below meth c H locs 0 0 (zQT below (dC, dI) A s (fun (E : String) (u : Unit) => post E) (fun (u : Unit) => (w_F_make_t ad a_this a_reader a_families a_handMade a_maker a_maker_print v_this_familyCount)) 1 6) (F0 m 18 ls []) := by
  obtain ⟨hx, hb, hr, hml, hown, hts, hlocks, hA⟩ := id C0
  intro  H locs h hP hD hS ls hl
  unfold P_F_make_t_18 at h
  exact zt_W (u := (())) (own := RF) (cls := "java/lang/IndexOutOfBoundsException") (text := "no such family") (names := ["java/lang/RuntimeException", "java/lang/Exception"]) (ik := 70) (is := 96) (ic := 74) hx hb hlt hown (by decide +kernel) (by decide +kernel) zat_IndexOutOfBoundsException hts hE (hts _ zw_639) (hts _ zw_117) (hE.ldc ("FootprintRules", 96, "no such family", 3) (by decide)) (hl.1.trans hml.symm) dF_make_t_18 dF_make_t_21 dF_make_t_22 dF_make_t_24 dF_make_t_27 hnx (by decide) (by decide) (by decide) (by decide) hlocks h hP hD hS
def P_F_make_t_37  (post : String → Prop)  : Prop := post "java/lang/IllegalArgumentException"
set_option maxHeartbeats 4000000 in
set_option maxRecDepth 100000 in
theorem w_F_make_t_37 (l : Launch) {p : Program} {e : Env} {s : State} {m : MethodId} {args : Array Value} {below : List Frame} {meth : Method} {c : Code} {dC : Nat → ClassId} {dI : Nat → Nat → Nat} {ad : Nat → Nat → Nat} {A : Nat → Prop} (hlt : l.stackTraces = false) (hnx : ∀ (k : Nat), ∀ x ∈ c.exceptionTable.toList, covers x k = false) (C0 : zC p s m args meth c cF_make_t 3 RF zT (some .int) A) (hE : zE ad A s) (a_this : Nat) (a_reader : Nat) (a_families : Nat) (a_handMade : Nat) (a_maker : Nat) (a_maker_print : Nat)  (p1 : Int32) (p2 : Int32) (v_this_familyCount : Int32) (post : String → Prop) (hK : va_K (dC, dI) vwCl [] s) : ∀  (H : Heap) (locs : List Loc), P_F_make_t_37 post → va_P (dC, dI) vwCl (w_F_make_t ad a_this a_reader a_families a_handMade a_maker a_maker_print v_this_familyCount) H → va_D A (w_F_make_t ad a_this a_reader a_families a_handMade a_maker a_maker_print v_this_familyCount) → va_S A s.heap H locs → ∀ ls : Array Slot, lv_has ls 3 [] → W p l e (headSpec wsF_make_t { frames := 6, cells := 1, slots := 6, locals := 91 }).room s m args below meth c H locs 0 0 (zQT below (dC, dI) A s (fun (E : String) (u : Unit) => post E) (fun (u : Unit) => (w_F_make_t ad a_this a_reader a_families a_handMade a_maker a_maker_print v_this_familyCount)) 1 6) (F0 m 37 ls []) := by
  obtain ⟨hx, hb, hr, hml, hown, hts, hlocks, hA⟩ := id C0
  intro  H locs h hP hD hS ls hl
  unfold P_F_make_t_37 at h
  exact zt_W (u := (())) (own := RF) (cls := "java/lang/IllegalArgumentException") (text := "no such density") (names := ["java/lang/RuntimeException", "java/lang/Exception"]) (ik := 81) (is := 98) (ic := 85) hx hb hlt hown (by decide +kernel) (by decide +kernel) zat_IllegalArgumentException hts hE (hts _ zw_659) (hts _ zw_118) (hE.ldc ("FootprintRules", 98, "no such density", 4) (by decide)) (hl.1.trans hml.symm) dF_make_t_37 dF_make_t_40 dF_make_t_41 dF_make_t_43 dF_make_t_46 hnx (by decide) (by decide) (by decide) (by decide) hlocks h hP hD hS
def P_F_make_t (p1 : Int32) (p2 : Int32) (v_this_familyCount : Int32) (post : String → Prop) : Prop := ((p1 < 0 → P_F_make_t_18 post) ∧ (¬ p1 < 0 → ((v_this_familyCount ≤ p1 → P_F_make_t_18 post) ∧ (¬ v_this_familyCount ≤ p1 → ((p1 < 8 → ((p2 < 0 → P_F_make_t_37 post) ∧ (¬ p2 < 0 → ((p2 < 3 → False) ∧ (¬ p2 < 3 → P_F_make_t_37 post))))) ∧ (¬ p1 < 8 → P_F_make_t_18 post))))))
set_option maxHeartbeats 4000000 in
set_option maxRecDepth 100000 in
theorem c_F_make_t (l : Launch) (hlt : l.stackTraces = false) (dC : Nat → ClassId) (dI : Nat → Nat → Nat) (ad : Nat → Nat → Nat) (a_this : Nat) (a_reader : Nat) (a_families : Nat) (a_handMade : Nat) (a_maker : Nat) (a_maker_print : Nat)  (sz : Nat) (p1 : Int32) (p2 : Int32) (v_this_familyCount : Int32) (post : String → Prop) (h : P_F_make_t p1 p2 v_this_familyCount post) : zMT l yF_make_t wsF_make_t { frames := 6, cells := 1, slots := 6, locals := 91 } (dC, dI) ad [.ref a_this, .int p1, .int p2] (w_F_make_t ad a_this a_reader a_families a_handMade a_maker a_maker_print v_this_familyCount) [] sz (fun (E : String) (u : Unit) => post E) (fun (u : Unit) => (w_F_make_t ad a_this a_reader a_families a_handMade a_maker a_maker_print v_this_familyCount)) 1 6 := by
  refine zMT.ofW (cc := cF_make_t) (maxL := 3) (ret := (some .int)) (by decide +kernel) rfl ?_
  intro p e s m args below meth c s₁ B hml hnx hv
  obtain ⟨rfl, hsz, hP, hK, hD0, hE⟩ := hv
  have hx := B.exec
  have hb := B.bytes
  have hr := B.returns
  have hts0 := atoms_spec (ws := wsF_make_t) B.pre
  have hts := fun w h => hts0 w (List.mem_cons_of_mem _ h)
  have hown : s.vm.findClass RF = some m.cls := findClass_of_methodNamed B.named
  have hlocks := B.notSynchronized
  subst hsz
  have hD := hD0.self (sz := s.heap.size)
  generalize hAe : va_A (w_F_make_t ad a_this a_reader a_families a_handMade a_maker a_maker_print v_this_familyCount) s.heap.size = A at hD hE ⊢
  have hA : ∀ q : Nat, s.heap.size ≤ q → A q := fun q h => by rw [← hAe]; exact Or.inr h
  have C0 := zC.mk hx hb hr hml hown hts hlocks hA
  have hS : va_S A s.heap s.heap [] := va_S.rf
  have hl := lv_entry ([.ref a_this, .int p1, .int p2]) (n := 3) (Nat.le_of_ble_eq_true rfl)
  rw [lg_entry_eq]
  generalize (lg_sl ([.ref a_this, .int p1, .int p2]) ++ List.replicate (3 - (lg_sl ([.ref a_this, .int p1, .int p2])).length) Slot.unset).toArray = ls at hl ⊢
  have hl : lv_has ls 3 [(0, .ref a_this), (1, .int p1), (2, .int p2)] := hl
  unfold P_F_make_t at h
  refine lv_iload_n hx hb dF_make_t_0 rfl (lv_at hl 1 rfl) ?_
  refine lv_if_lt (tgt := 18) hx hb dF_make_t_1 (by decide) ?_ ?_
  · intro c1
    replace h := h.1 c1
    exact w_F_make_t_18 l hlt hnx C0 hE a_this a_reader a_families a_handMade a_maker a_maker_print p1 p2 v_this_familyCount post hK _ _ h hP hD hS ls (lv_sub hl [] rfl)
  · intro c1
    replace h := h.2 c1
    refine lv_iload_n hx hb dF_make_t_4 rfl (lv_at hl 1 rfl) ?_
    refine lv_aload_n hx hb dF_make_t_5 rfl (lv_at hl 0 rfl) ?_
    refine va_get (D := (dC, dI)) (ci := 9) (v := .int v_this_familyCount) (C := RF) (T := TF) (N := 6) hx hb hts inZ_F hown hK hP 0 rfl rfl 2 (by decide) (hts _ zw_374) (fun _ h9 => h9) rfl dF_make_t_6 ?_
    refine lv_icmp_ge (tgt := 18) hx hb dF_make_t_9 (by decide) ?_ ?_
    · intro c2
      replace h := h.1 c2
      exact w_F_make_t_18 l hlt hnx C0 hE a_this a_reader a_families a_handMade a_maker a_maker_print p1 p2 v_this_familyCount post hK _ _ h hP hD hS ls (lv_sub hl [] rfl)
    · intro c2
      replace h := h.2 c2
      refine lv_iload_n hx hb dF_make_t_12 rfl (lv_at hl 1 rfl) ?_
      refine lv_bipush (v := 8) hx hb dF_make_t_13 (by decide) ?_
      refine lv_icmp_lt (tgt := 28) hx hb dF_make_t_15 (by decide) ?_ ?_
      · intro c3
        replace h := h.1 c3
        refine lv_iload_n hx hb dF_make_t_28 rfl (lv_at hl 2 rfl) ?_
        refine lv_if_lt (tgt := 37) hx hb dF_make_t_29 (by decide) ?_ ?_
        · intro c4
          replace h := h.1 c4
          exact w_F_make_t_37 l hlt hnx C0 hE a_this a_reader a_families a_handMade a_maker a_maker_print p1 p2 v_this_familyCount post hK _ _ h hP hD hS ls (lv_sub hl [] rfl)
        · intro c4
          replace h := h.2 c4
          refine lv_iload_n hx hb dF_make_t_32 rfl (lv_at hl 2 rfl) ?_
          refine lv_iconst (v := 3) hx hb dF_make_t_33 (by decide) ?_
          refine lv_icmp_lt (tgt := 47) hx hb dF_make_t_34 (by decide) ?_ ?_
          · intro c5
            replace h := h.1 c5
            exact False.elim h
          · intro c5
            replace h := h.2 c5
            exact w_F_make_t_37 l hlt hnx C0 hE a_this a_reader a_families a_handMade a_maker a_maker_print p1 p2 v_this_familyCount post hK _ _ h hP hD hS ls (lv_sub hl [] rfl)
      · intro c3
        replace h := h.2 c3
        exact w_F_make_t_18 l hlt hnx C0 hE a_this a_reader a_families a_handMade a_maker a_maker_print p1 p2 v_this_familyCount post hK _ _ h hP hD hS ls (lv_sub hl [] rfl)
abbrev yF_needFootprint_o : MethodName := ⟨"FootprintRules", "needFootprint", "()V"⟩
abbrev cF_needFootprint_o : ByteArray := prog_1_method_17_code
abbrev wsF_needFootprint_o : List Cond := .code yF_needFootprint_o cF_needFootprint_o 1 none :: zT
set_option maxRecDepth 100000 in
theorem zc_F_needFootprint_o : Cond.code yF_needFootprint_o cF_needFootprint_o 1 none ∈ zT := zm 850 (by rfl) (by rfl)
theorem dF_needFootprint_o_0 : decode cF_needFootprint_o 0 = .ok (.aload_n 0, 1) := by decide +kernel
theorem dF_needFootprint_o_1 : decode cF_needFootprint_o 1 = .ok (.getfield 40, 3) := by decide +kernel
theorem dF_needFootprint_o_4 : decode cF_needFootprint_o 4 = .ok (.getfield 182, 3) := by decide +kernel
theorem dF_needFootprint_o_7 : decode cF_needFootprint_o 7 = .ok (.ifCond .ne 13, 3) := by decide +kernel
theorem dF_needFootprint_o_20 : decode cF_needFootprint_o 20 = .ok (.return_, 1) := by decide +kernel
-- FootprintRules.needFootprint()V
abbrev w_F_needFootprint_o (ad : Nat → Nat → Nat) (a_this : Nat) (a_reader : Nat) (a_families : Nat) (a_handMade : Nat) (a_maker : Nat) (a_maker_print : Nat) (a_maker_print_cells : Nat) (a_maker_print_family : Nat) (a_maker_print_yard : Nat) (a_maker_print_columns : Nat) (a_maker_print_rows : Nat) (a_maker_print_line : Nat)  (v_this_familyCount : Int32) (v_maker_print_atHand : Int32) (v_maker_print_count : Int32) (v_maker_print_thermal : Int32) (v_maker_print_density : Int32) (v_maker_print_outerHigh : Int64) (v_maker_print_pasteLeft : Int64) (v_maker_print_pasteLow : Int64) (v_maker_print_nameLength : Int32) (v_maker_print_isWritten : Int32) : va_W := [(a_this, .inr (9, [.ref a_reader, .ref a_families, .int v_this_familyCount, .ref a_handMade, .ref a_maker, .ref a_maker_print])), (a_maker_print, .inr (6, [.int v_maker_print_atHand, .ref a_maker_print_cells, .int v_maker_print_count, .int v_maker_print_thermal, .ref a_maker_print_family, .int v_maker_print_density, .long v_maker_print_outerHigh, .ref a_maker_print_yard, .ref a_maker_print_columns, .ref a_maker_print_rows, .long v_maker_print_pasteLeft, .long v_maker_print_pasteLow, .ref a_maker_print_line, .int v_maker_print_nameLength, .int v_maker_print_isWritten]))]
def P_F_needFootprint_o (v_maker_print_atHand : Int32) (post : Prop) : Prop := ((¬ v_maker_print_atHand = 0 → post) ∧ (v_maker_print_atHand = 0 → False))
set_option maxHeartbeats 4000000 in
set_option maxRecDepth 100000 in
theorem c_F_needFootprint_o (l : Launch) (dC : Nat → ClassId) (dI : Nat → Nat → Nat) (ad : Nat → Nat → Nat) (a_this : Nat) (a_reader : Nat) (a_families : Nat) (a_handMade : Nat) (a_maker : Nat) (a_maker_print : Nat) (a_maker_print_cells : Nat) (a_maker_print_family : Nat) (a_maker_print_yard : Nat) (a_maker_print_columns : Nat) (a_maker_print_rows : Nat) (a_maker_print_line : Nat)  (sz : Nat) (v_this_familyCount : Int32) (v_maker_print_atHand : Int32) (v_maker_print_count : Int32) (v_maker_print_thermal : Int32) (v_maker_print_density : Int32) (v_maker_print_outerHigh : Int64) (v_maker_print_pasteLeft : Int64) (v_maker_print_pasteLow : Int64) (v_maker_print_nameLength : Int32) (v_maker_print_isWritten : Int32) (post : Prop) (h : P_F_needFootprint_o v_maker_print_atHand post) : zMv l yF_needFootprint_o wsF_needFootprint_o { frames := 0, cells := 0, slots := 0, locals := 0 } (dC, dI) ad [.ref a_this] (w_F_needFootprint_o ad a_this a_reader a_families a_handMade a_maker a_maker_print a_maker_print_cells a_maker_print_family a_maker_print_yard a_maker_print_columns a_maker_print_rows a_maker_print_line v_this_familyCount v_maker_print_atHand v_maker_print_count v_maker_print_thermal v_maker_print_density v_maker_print_outerHigh v_maker_print_pasteLeft v_maker_print_pasteLow v_maker_print_nameLength v_maker_print_isWritten) [] sz (fun (u : Unit) => post) (fun (u : Unit) => (w_F_needFootprint_o ad a_this a_reader a_families a_handMade a_maker a_maker_print a_maker_print_cells a_maker_print_family a_maker_print_yard a_maker_print_columns a_maker_print_rows a_maker_print_line v_this_familyCount v_maker_print_atHand v_maker_print_count v_maker_print_thermal v_maker_print_density v_maker_print_outerHigh v_maker_print_pasteLeft v_maker_print_pasteLow v_maker_print_nameLength v_maker_print_isWritten)) 0 0 := by
  refine Met.ofW (cc := cF_needFootprint_o) (maxL := 1) (ret := none) (by decide +kernel) rfl ?_
  intro p e s m args below meth c s₁ B hml hv
  obtain ⟨rfl, hsz, hP, hK, hD0, hE⟩ := hv
  have hx := B.exec
  have hb := B.bytes
  have hr := B.returns
  have hts0 := atoms_spec (ws := wsF_needFootprint_o) B.pre
  have hts := fun w h => hts0 w (List.mem_cons_of_mem _ h)
  have hown : s.vm.findClass RF = some m.cls := findClass_of_methodNamed B.named
  have hlocks := B.notSynchronized
  subst hsz
  have hD := hD0.self (sz := s.heap.size)
  generalize hAe : va_A (w_F_needFootprint_o ad a_this a_reader a_families a_handMade a_maker a_maker_print a_maker_print_cells a_maker_print_family a_maker_print_yard a_maker_print_columns a_maker_print_rows a_maker_print_line v_this_familyCount v_maker_print_atHand v_maker_print_count v_maker_print_thermal v_maker_print_density v_maker_print_outerHigh v_maker_print_pasteLeft v_maker_print_pasteLow v_maker_print_nameLength v_maker_print_isWritten) s.heap.size = A at hD hE ⊢
  have hA : ∀ q : Nat, s.heap.size ≤ q → A q := fun q h => by rw [← hAe]; exact Or.inr h
  have C0 := zC.mk hx hb hr hml hown hts hlocks hA
  have hS : va_S A s.heap s.heap [] := va_S.rf
  have hl := lv_entry ([.ref a_this]) (n := 1) (Nat.le_of_ble_eq_true rfl)
  rw [lg_entry_eq]
  generalize (lg_sl ([.ref a_this]) ++ List.replicate (1 - (lg_sl ([.ref a_this])).length) Slot.unset).toArray = ls at hl ⊢
  have hl : lv_has ls 1 [(0, .ref a_this)] := hl
  unfold P_F_needFootprint_o at h
  refine lv_aload_n hx hb dF_needFootprint_o_0 rfl (lv_at hl 0 rfl) ?_
  refine va_get (D := (dC, dI)) (ci := 9) (v := .ref a_maker_print) (C := RF) (T := TF) (N := 6) hx hb hts inZ_F hown hK hP 0 rfl rfl 5 (by decide) (hts _ zw_377) (fun _ h9 => h9) rfl dF_needFootprint_o_1 ?_
  refine va_getN (D := (dC, dI)) (ci := 6) (v := .int v_maker_print_atHand) (C := RFp) (T := TFp) (N := 15) hx hb hts inZ_Fp hown hK hP 1 rfl rfl 0 (by decide) ((hE.nw _ zn_280).use rfl) (fun _ h9 => h9) rfl dF_needFootprint_o_4 ?_
  refine lv_if_ne (tgt := 20) hx hb dF_needFootprint_o_7 (by decide) ?_ ?_
  · intro c1
    replace h := h.1 c1
    exact W.vret hx hb hr (fun t ht hW => ⟨⟨(()), rfl, h, by rw [ht]; exact hP, hD⟩, hS.F ht⟩) hS.2.2 dF_needFootprint_o_20
  · intro c1
    replace h := h.2 c1
    exact False.elim h
abbrev yF_needWithin_o : MethodName := ⟨"FootprintRules", "needWithin", "(II)V"⟩
abbrev cF_needWithin_o : ByteArray := prog_1_method_19_code
abbrev wsF_needWithin_o : List Cond := .code yF_needWithin_o cF_needWithin_o 2 none :: zT
set_option maxRecDepth 100000 in
theorem zc_F_needWithin_o : Cond.code yF_needWithin_o cF_needWithin_o 2 none ∈ zT := zm 854 (by rfl) (by rfl)
theorem dF_needWithin_o_0 : decode cF_needWithin_o 0 = .ok (.iload_n 0, 1) := by decide +kernel
theorem dF_needWithin_o_1 : decode cF_needWithin_o 1 = .ok (.ifCond .lt 8, 3) := by decide +kernel
theorem dF_needWithin_o_4 : decode cF_needWithin_o 4 = .ok (.iload_n 0, 1) := by decide +kernel
theorem dF_needWithin_o_5 : decode cF_needWithin_o 5 = .ok (.iload_n 1, 1) := by decide +kernel
theorem dF_needWithin_o_6 : decode cF_needWithin_o 6 = .ok (.if_icmp .lt 13, 3) := by decide +kernel
theorem dF_needWithin_o_19 : decode cF_needWithin_o 19 = .ok (.return_, 1) := by decide +kernel
-- FootprintRules.needWithin(II)V
abbrev w_F_needWithin_o (ad : Nat → Nat → Nat)    : va_W := []
def P_F_needWithin_o_9  (post : Prop)  : Prop := False
set_option maxHeartbeats 4000000 in
set_option maxRecDepth 100000 in
theorem w_F_needWithin_o_9 (l : Launch) {p : Program} {e : Env} {s : State} {m : MethodId} {args : Array Value} {below : List Frame} {meth : Method} {c : Code} {dC : Nat → ClassId} {dI : Nat → Nat → Nat} {ad : Nat → Nat → Nat} {A : Nat → Prop} (C0 : zC p s m args meth c cF_needWithin_o 2 RF zT none A) (hE : zE ad A s)   (p0 : Int32) (p1 : Int32) (post : Prop) (hK : va_K (dC, dI) vwCl [] s) : ∀  (H : Heap) (locs : List Loc), P_F_needWithin_o_9 post → va_P (dC, dI) vwCl (w_F_needWithin_o ad ) H → va_D A (w_F_needWithin_o ad ) → va_S A s.heap H locs → ∀ ls : Array Slot, lv_has ls 2 [] → W p l e (headSpec wsF_needWithin_o { frames := 0, cells := 0, slots := 0, locals := 0 }).room s m args below meth c H locs 0 0 (MQ below (va_Qv (fun (u : Unit) => post) (zB (dC, dI) A (fun (u : Unit) => (w_F_needWithin_o ad ))) A) args s 0 0 A) (F0 m 9 ls []) := by
  obtain ⟨hx, hb, hr, hml, hown, hts, hlocks, hA⟩ := id C0
  intro  H locs h hP hD hS ls hl
  unfold P_F_needWithin_o_9 at h
  exact False.elim h
def P_F_needWithin_o (p0 : Int32) (p1 : Int32) (post : Prop) : Prop := ((p0 < 0 → P_F_needWithin_o_9 post) ∧ (¬ p0 < 0 → ((p0 < p1 → post) ∧ (¬ p0 < p1 → P_F_needWithin_o_9 post))))
set_option maxHeartbeats 4000000 in
set_option maxRecDepth 100000 in
theorem c_F_needWithin_o (l : Launch) (dC : Nat → ClassId) (dI : Nat → Nat → Nat) (ad : Nat → Nat → Nat)   (sz : Nat) (p0 : Int32) (p1 : Int32) (post : Prop) (h : P_F_needWithin_o p0 p1 post) : zMv l yF_needWithin_o wsF_needWithin_o { frames := 0, cells := 0, slots := 0, locals := 0 } (dC, dI) ad [.int p0, .int p1] (w_F_needWithin_o ad ) [] sz (fun (u : Unit) => post) (fun (u : Unit) => (w_F_needWithin_o ad )) 0 0 := by
  refine Met.ofW (cc := cF_needWithin_o) (maxL := 2) (ret := none) (by decide +kernel) rfl ?_
  intro p e s m args below meth c s₁ B hml hv
  obtain ⟨rfl, hsz, hP, hK, hD0, hE⟩ := hv
  have hx := B.exec
  have hb := B.bytes
  have hr := B.returns
  have hts0 := atoms_spec (ws := wsF_needWithin_o) B.pre
  have hts := fun w h => hts0 w (List.mem_cons_of_mem _ h)
  have hown : s.vm.findClass RF = some m.cls := findClass_of_methodNamed B.named
  have hlocks := B.notSynchronized
  subst hsz
  have hD := hD0.self (sz := s.heap.size)
  generalize hAe : va_A (w_F_needWithin_o ad ) s.heap.size = A at hD hE ⊢
  have hA : ∀ q : Nat, s.heap.size ≤ q → A q := fun q h => by rw [← hAe]; exact Or.inr h
  have C0 := zC.mk hx hb hr hml hown hts hlocks hA
  have hS : va_S A s.heap s.heap [] := va_S.rf
  have hl := lv_entry ([.int p0, .int p1]) (n := 2) (Nat.le_of_ble_eq_true rfl)
  rw [lg_entry_eq]
  generalize (lg_sl ([.int p0, .int p1]) ++ List.replicate (2 - (lg_sl ([.int p0, .int p1])).length) Slot.unset).toArray = ls at hl ⊢
  have hl : lv_has ls 2 [(0, .int p0), (1, .int p1)] := hl
  unfold P_F_needWithin_o at h
  refine lv_iload_n hx hb dF_needWithin_o_0 rfl (lv_at hl 0 rfl) ?_
  refine lv_if_lt (tgt := 9) hx hb dF_needWithin_o_1 (by decide) ?_ ?_
  · intro c1
    replace h := h.1 c1
    exact w_F_needWithin_o_9 l C0 hE p0 p1 post hK _ _ h hP hD hS ls (lv_sub hl [] rfl)
  · intro c1
    replace h := h.2 c1
    refine lv_iload_n hx hb dF_needWithin_o_4 rfl (lv_at hl 0 rfl) ?_
    refine lv_iload_n hx hb dF_needWithin_o_5 rfl (lv_at hl 1 rfl) ?_
    refine lv_icmp_lt (tgt := 19) hx hb dF_needWithin_o_6 (by decide) ?_ ?_
    · intro c2
      replace h := h.1 c2
      exact W.vret hx hb hr (fun t ht hW => ⟨⟨(()), rfl, h, by rw [ht]; exact hP, hD⟩, hS.F ht⟩) hS.2.2 dF_needWithin_o_19
    · intro c2
      replace h := h.2 c2
      exact w_F_needWithin_o_9 l C0 hE p0 p1 post hK _ _ h hP hD hS ls (lv_sub hl [] rfl)
abbrev yF_needPad_o : MethodName := ⟨"FootprintRules", "needPad", "(I)V"⟩
abbrev cF_needPad_o : ByteArray := prog_1_method_18_code
abbrev wsF_needPad_o : List Cond := .code yF_needPad_o cF_needPad_o 2 none :: zT
set_option maxRecDepth 100000 in
theorem zc_F_needPad_o : Cond.code yF_needPad_o cF_needPad_o 2 none ∈ zT := zm 846 (by rfl) (by rfl)
theorem dF_needPad_o_0 : decode cF_needPad_o 0 = .ok (.aload_n 0, 1) := by decide +kernel
theorem dF_needPad_o_1 : decode cF_needPad_o 1 = .ok (.invokevirtual 121, 3) := by decide +kernel
theorem dF_needPad_o_4 : decode cF_needPad_o 4 = .ok (.iload_n 1, 1) := by decide +kernel
theorem dF_needPad_o_5 : decode cF_needPad_o 5 = .ok (.aload_n 0, 1) := by decide +kernel
theorem dF_needPad_o_6 : decode cF_needPad_o 6 = .ok (.getfield 40, 3) := by decide +kernel
theorem dF_needPad_o_9 : decode cF_needPad_o 9 = .ok (.getfield 104, 3) := by decide +kernel
theorem dF_needPad_o_12 : decode cF_needPad_o 12 = .ok (.invokestatic 113, 3) := by decide +kernel
theorem dF_needPad_o_15 : decode cF_needPad_o 15 = .ok (.return_, 1) := by decide +kernel
-- FootprintRules.needPad(I)V
abbrev w_F_needPad_o (ad : Nat → Nat → Nat) (a_this : Nat) (a_reader : Nat) (a_families : Nat) (a_handMade : Nat) (a_maker : Nat) (a_maker_print : Nat) (a_maker_spans : Nat) (a_maker_leftOut : Nat) (a_maker_print_cells : Nat) (a_maker_print_family : Nat) (a_maker_print_yard : Nat) (a_maker_print_columns : Nat) (a_maker_print_rows : Nat) (a_maker_print_line : Nat)  (v_this_familyCount : Int32) (v_maker_rounding : Int64) (v_maker_toe : Int64) (v_maker_heel : Int64) (v_maker_side : Int64) (v_maker_pitch : Int64) (v_maker_outer : Int64) (v_maker_inner : Int64) (v_maker_across : Int64) (v_maker_hole : Int64) (v_maker_print_atHand : Int32) (v_maker_print_count : Int32) (v_maker_print_thermal : Int32) (v_maker_print_density : Int32) (v_maker_print_outerHigh : Int64) (v_maker_print_pasteLeft : Int64) (v_maker_print_pasteLow : Int64) (v_maker_print_nameLength : Int32) (v_maker_print_isWritten : Int32) : va_W := [(a_this, .inr (9, [.ref a_reader, .ref a_families, .int v_this_familyCount, .ref a_handMade, .ref a_maker, .ref a_maker_print])), (a_maker, .inr (4, [.ref a_maker_spans, .ref a_maker_leftOut, .ref a_maker_print, .long v_maker_rounding, .long v_maker_toe, .long v_maker_heel, .long v_maker_side, .long v_maker_pitch, .long v_maker_outer, .long v_maker_inner, .long v_maker_across, .long v_maker_hole])), (a_maker_print, .inr (6, [.int v_maker_print_atHand, .ref a_maker_print_cells, .int v_maker_print_count, .int v_maker_print_thermal, .ref a_maker_print_family, .int v_maker_print_density, .long v_maker_print_outerHigh, .ref a_maker_print_yard, .ref a_maker_print_columns, .ref a_maker_print_rows, .long v_maker_print_pasteLeft, .long v_maker_print_pasteLow, .ref a_maker_print_line, .int v_maker_print_nameLength, .int v_maker_print_isWritten]))]
def P_F_needPad_o (p1 : Int32) (v_maker_print_atHand : Int32) (v_maker_print_count : Int32) (post : Prop) : Prop := P_F_needFootprint_o v_maker_print_atHand (P_F_needWithin_o p1 v_maker_print_count (post))
set_option maxHeartbeats 4000000 in
set_option maxRecDepth 100000 in
theorem c_F_needPad_o (l : Launch) (dC : Nat → ClassId) (dI : Nat → Nat → Nat) (ad : Nat → Nat → Nat) (a_this : Nat) (a_reader : Nat) (a_families : Nat) (a_handMade : Nat) (a_maker : Nat) (a_maker_print : Nat) (a_maker_spans : Nat) (a_maker_leftOut : Nat) (a_maker_print_cells : Nat) (a_maker_print_family : Nat) (a_maker_print_yard : Nat) (a_maker_print_columns : Nat) (a_maker_print_rows : Nat) (a_maker_print_line : Nat)  (sz : Nat) (p1 : Int32) (v_this_familyCount : Int32) (v_maker_rounding : Int64) (v_maker_toe : Int64) (v_maker_heel : Int64) (v_maker_side : Int64) (v_maker_pitch : Int64) (v_maker_outer : Int64) (v_maker_inner : Int64) (v_maker_across : Int64) (v_maker_hole : Int64) (v_maker_print_atHand : Int32) (v_maker_print_count : Int32) (v_maker_print_thermal : Int32) (v_maker_print_density : Int32) (v_maker_print_outerHigh : Int64) (v_maker_print_pasteLeft : Int64) (v_maker_print_pasteLow : Int64) (v_maker_print_nameLength : Int32) (v_maker_print_isWritten : Int32) (post : Prop) (h : P_F_needPad_o p1 v_maker_print_atHand v_maker_print_count post) : zMv l yF_needPad_o wsF_needPad_o { frames := 1, cells := 0, slots := 0, locals := 21 } (dC, dI) ad [.ref a_this, .int p1] (w_F_needPad_o ad a_this a_reader a_families a_handMade a_maker a_maker_print a_maker_spans a_maker_leftOut a_maker_print_cells a_maker_print_family a_maker_print_yard a_maker_print_columns a_maker_print_rows a_maker_print_line v_this_familyCount v_maker_rounding v_maker_toe v_maker_heel v_maker_side v_maker_pitch v_maker_outer v_maker_inner v_maker_across v_maker_hole v_maker_print_atHand v_maker_print_count v_maker_print_thermal v_maker_print_density v_maker_print_outerHigh v_maker_print_pasteLeft v_maker_print_pasteLow v_maker_print_nameLength v_maker_print_isWritten) [] sz (fun (u : Unit) => post) (fun (u : Unit) => (w_F_needPad_o ad a_this a_reader a_families a_handMade a_maker a_maker_print a_maker_spans a_maker_leftOut a_maker_print_cells a_maker_print_family a_maker_print_yard a_maker_print_columns a_maker_print_rows a_maker_print_line v_this_familyCount v_maker_rounding v_maker_toe v_maker_heel v_maker_side v_maker_pitch v_maker_outer v_maker_inner v_maker_across v_maker_hole v_maker_print_atHand v_maker_print_count v_maker_print_thermal v_maker_print_density v_maker_print_outerHigh v_maker_print_pasteLeft v_maker_print_pasteLow v_maker_print_nameLength v_maker_print_isWritten)) 0 0 := by
  refine Met.ofW (cc := cF_needPad_o) (maxL := 2) (ret := none) (by decide +kernel) rfl ?_
  intro p e s m args below meth c s₁ B hml hv
  obtain ⟨rfl, hsz, hP, hK, hD0, hE⟩ := hv
  have hx := B.exec
  have hb := B.bytes
  have hr := B.returns
  have hts0 := atoms_spec (ws := wsF_needPad_o) B.pre
  have hts := fun w h => hts0 w (List.mem_cons_of_mem _ h)
  have hown : s.vm.findClass RF = some m.cls := findClass_of_methodNamed B.named
  have hlocks := B.notSynchronized
  subst hsz
  have hD := hD0.self (sz := s.heap.size)
  generalize hAe : va_A (w_F_needPad_o ad a_this a_reader a_families a_handMade a_maker a_maker_print a_maker_spans a_maker_leftOut a_maker_print_cells a_maker_print_family a_maker_print_yard a_maker_print_columns a_maker_print_rows a_maker_print_line v_this_familyCount v_maker_rounding v_maker_toe v_maker_heel v_maker_side v_maker_pitch v_maker_outer v_maker_inner v_maker_across v_maker_hole v_maker_print_atHand v_maker_print_count v_maker_print_thermal v_maker_print_density v_maker_print_outerHigh v_maker_print_pasteLeft v_maker_print_pasteLow v_maker_print_nameLength v_maker_print_isWritten) s.heap.size = A at hD hE ⊢
  have hA : ∀ q : Nat, s.heap.size ≤ q → A q := fun q h => by rw [← hAe]; exact Or.inr h
  have C0 := zC.mk hx hb hr hml hown hts hlocks hA
  have hS : va_S A s.heap s.heap [] := va_S.rf
  have hl := lv_entry ([.ref a_this, .int p1]) (n := 2) (Nat.le_of_ble_eq_true rfl)
  rw [lg_entry_eq]
  generalize (lg_sl ([.ref a_this, .int p1]) ++ List.replicate (2 - (lg_sl ([.ref a_this, .int p1])).length) Slot.unset).toArray = ls at hl ⊢
  have hl : lv_has ls 2 [(0, .ref a_this), (1, .int p1)] := hl
  unfold P_F_needPad_o at h
  refine lv_aload_n hx hb dF_needPad_o_0 rfl (lv_at hl 0 rfl) ?_
  refine zcall_v hP hD hS hA [0, 2] [1] (va_runV (As := []) (rest := []) ⟨hx, hb, hml, hown, hts⟩ (c_F_needFootprint_o l dC dI ad a_this a_reader a_families a_handMade a_maker a_maker_print a_maker_print_cells a_maker_print_family a_maker_print_yard a_maker_print_columns a_maker_print_rows a_maker_print_line _ v_this_familyCount v_maker_print_atHand v_maker_print_count v_maker_print_thermal v_maker_print_density v_maker_print_outerHigh v_maker_print_pasteLeft v_maker_print_pasteLow v_maker_print_nameLength v_maker_print_isWritten _ h) ⟨callB_of 0 hts (zgood zc_F_needFootprint_o) rfl rfl rfl (hts _ zw_95) (hts _ zw_847) (by decide +kernel) ⟨Nat.le_of_ble_eq_true rfl, Nat.le_of_ble_eq_true rfl⟩, (hts _ zw_849), (hts _ zw_48)⟩ (zpreV hE hK hP hD hS hA [0, 2] [] (by rfl) (by rfl) (by decide) (ci := 9) (q0 := 0) rfl (by rfl)) rfl rfl hl.1 rfl (lv_room (Nat.le_of_ble_eq_true rfl)) dF_needPad_o_1 ⟨Nat.le_of_ble_eq_true rfl, Nat.le_of_ble_eq_true rfl⟩) (by rfl) (by rfl) (by decide) (by decide) (fun u H locs h hP hD hS => ?_)
  try dsimp only at h
  have hP := hP.sub (ws' := (w_F_needPad_o ad a_this a_reader a_families a_handMade a_maker a_maker_print a_maker_spans a_maker_leftOut a_maker_print_cells a_maker_print_family a_maker_print_yard a_maker_print_columns a_maker_print_rows a_maker_print_line v_this_familyCount v_maker_rounding v_maker_toe v_maker_heel v_maker_side v_maker_pitch v_maker_outer v_maker_inner v_maker_across v_maker_hole v_maker_print_atHand v_maker_print_count v_maker_print_thermal v_maker_print_density v_maker_print_outerHigh v_maker_print_pasteLeft v_maker_print_pasteLow v_maker_print_nameLength v_maker_print_isWritten)) [1, 0, 2] rfl
  have hD := hD.sub (ws' := (w_F_needPad_o ad a_this a_reader a_families a_handMade a_maker a_maker_print a_maker_spans a_maker_leftOut a_maker_print_cells a_maker_print_family a_maker_print_yard a_maker_print_columns a_maker_print_rows a_maker_print_line v_this_familyCount v_maker_rounding v_maker_toe v_maker_heel v_maker_side v_maker_pitch v_maker_outer v_maker_inner v_maker_across v_maker_hole v_maker_print_atHand v_maker_print_count v_maker_print_thermal v_maker_print_density v_maker_print_outerHigh v_maker_print_pasteLeft v_maker_print_pasteLow v_maker_print_nameLength v_maker_print_isWritten)) [1, 0, 2] (by decide) rfl
  refine lv_iload_n hx hb dF_needPad_o_4 rfl (lv_at hl 1 rfl) ?_
  refine lv_aload_n hx hb dF_needPad_o_5 rfl (lv_at hl 0 rfl) ?_
  refine va_get (D := (dC, dI)) (ci := 9) (v := .ref a_maker_print) (C := RF) (T := TF) (N := 6) hx hb hts inZ_F hown hK hP 0 rfl rfl 5 (by decide) (hts _ zw_377) (fun _ h9 => h9) rfl dF_needPad_o_6 ?_
  refine va_getN (D := (dC, dI)) (ci := 6) (v := .int v_maker_print_count) (C := RFp) (T := TFp) (N := 15) hx hb hts inZ_Fp hown hK hP 2 rfl rfl 2 (by decide) ((hE.nw _ zn_285).use rfl) (fun _ h9 => h9) rfl dF_needPad_o_9 ?_
  refine zcall_v hP hD hS hA [] [0, 1, 2] (va_runS (As := [.int p1, .int v_maker_print_count]) (rest := []) ⟨hx, hb, hml, hown, hts⟩ (c_F_needWithin_o l dC dI ad _ p1 v_maker_print_count _ h) ⟨callB_of 2 hts (zgood zc_F_needWithin_o) rfl rfl rfl (hts _ zw_95) (hts _ zw_852) (by decide +kernel) ⟨Nat.le_of_ble_eq_true rfl, Nat.le_of_ble_eq_true rfl⟩, (hts _ zw_853)⟩ (zpreS hE hK hP hD hS hA [] [] (by rfl) (by rfl) (by decide)) rfl rfl hl.1 rfl (lv_room (Nat.le_of_ble_eq_true rfl)) dF_needPad_o_12 ⟨Nat.le_of_ble_eq_true rfl, Nat.le_of_ble_eq_true rfl⟩) (by rfl) (by rfl) (by decide) (by decide) (fun u H locs h hP hD hS => ?_)
  try dsimp only at h
  have hP := hP.sub (ws' := (w_F_needPad_o ad a_this a_reader a_families a_handMade a_maker a_maker_print a_maker_spans a_maker_leftOut a_maker_print_cells a_maker_print_family a_maker_print_yard a_maker_print_columns a_maker_print_rows a_maker_print_line v_this_familyCount v_maker_rounding v_maker_toe v_maker_heel v_maker_side v_maker_pitch v_maker_outer v_maker_inner v_maker_across v_maker_hole v_maker_print_atHand v_maker_print_count v_maker_print_thermal v_maker_print_density v_maker_print_outerHigh v_maker_print_pasteLeft v_maker_print_pasteLow v_maker_print_nameLength v_maker_print_isWritten)) [0, 1, 2] rfl
  have hD := hD.sub (ws' := (w_F_needPad_o ad a_this a_reader a_families a_handMade a_maker a_maker_print a_maker_spans a_maker_leftOut a_maker_print_cells a_maker_print_family a_maker_print_yard a_maker_print_columns a_maker_print_rows a_maker_print_line v_this_familyCount v_maker_rounding v_maker_toe v_maker_heel v_maker_side v_maker_pitch v_maker_outer v_maker_inner v_maker_across v_maker_hole v_maker_print_atHand v_maker_print_count v_maker_print_thermal v_maker_print_density v_maker_print_outerHigh v_maker_print_pasteLeft v_maker_print_pasteLow v_maker_print_nameLength v_maker_print_isWritten)) [0, 1, 2] (by decide) rfl
  exact W.vret hx hb hr (fun t ht hW => ⟨⟨(()), rfl, h, by rw [ht]; exact hP, hD⟩, hS.F ht⟩) hS.2.2 dF_needPad_o_15
abbrev yF_pad_o : MethodName := ⟨"FootprintRules", "pad", "(II)J"⟩
abbrev cF_pad_o : ByteArray := prog_1_method_6_code
abbrev wsF_pad_o : List Cond := .code yF_pad_o cF_pad_o 3 (some .long) :: zT
set_option maxRecDepth 100000 in
theorem zc_F_pad_o : Cond.code yF_pad_o cF_pad_o 3 (some .long) ∈ zT := zm 842 (by rfl) (by rfl)
theorem dF_pad_o_0 : decode cF_pad_o 0 = .ok (.aload_n 0, 1) := by decide +kernel
theorem dF_pad_o_1 : decode cF_pad_o 1 = .ok (.iload_n 1, 1) := by decide +kernel
theorem dF_pad_o_2 : decode cF_pad_o 2 = .ok (.invokevirtual 109, 3) := by decide +kernel
theorem dF_pad_o_5 : decode cF_pad_o 5 = .ok (.iload_n 2, 1) := by decide +kernel
theorem dF_pad_o_6 : decode cF_pad_o 6 = .ok (.bipush 7, 2) := by decide +kernel
theorem dF_pad_o_8 : decode cF_pad_o 8 = .ok (.invokestatic 113, 3) := by decide +kernel
theorem dF_pad_o_11 : decode cF_pad_o 11 = .ok (.aload_n 0, 1) := by decide +kernel
theorem dF_pad_o_12 : decode cF_pad_o 12 = .ok (.getfield 40, 3) := by decide +kernel
theorem dF_pad_o_15 : decode cF_pad_o 15 = .ok (.iload_n 1, 1) := by decide +kernel
theorem dF_pad_o_16 : decode cF_pad_o 16 = .ok (.iload_n 2, 1) := by decide +kernel
theorem dF_pad_o_17 : decode cF_pad_o 17 = .ok (.invokevirtual 117, 3) := by decide +kernel
theorem dF_pad_o_20 : decode cF_pad_o 20 = .ok (.lreturn, 1) := by decide +kernel
-- FootprintRules.pad(II)J
abbrev w_F_pad_o (ad : Nat → Nat → Nat) (a_this : Nat) (a_reader : Nat) (a_families : Nat) (a_handMade : Nat) (a_maker : Nat) (a_maker_print : Nat) (a_maker_spans : Nat) (a_maker_leftOut : Nat) (a_maker_print_cells : Nat) (a_maker_print_family : Nat) (a_maker_print_yard : Nat) (a_maker_print_columns : Nat) (a_maker_print_rows : Nat) (a_maker_print_line : Nat) (k_maker_print_cells : ClassId) (v_this_familyCount : Int32) (v_maker_rounding : Int64) (v_maker_toe : Int64) (v_maker_heel : Int64) (v_maker_side : Int64) (v_maker_pitch : Int64) (v_maker_outer : Int64) (v_maker_inner : Int64) (v_maker_across : Int64) (v_maker_hole : Int64) (v_maker_print_atHand : Int32) (v_maker_print_count : Int32) (v_maker_print_thermal : Int32) (v_maker_print_density : Int32) (v_maker_print_outerHigh : Int64) (v_maker_print_pasteLeft : Int64) (v_maker_print_pasteLow : Int64) (v_maker_print_nameLength : Int32) (v_maker_print_isWritten : Int32) (v_maker_print_cells : Nat → Int64) : va_W := [(a_this, .inr (9, [.ref a_reader, .ref a_families, .int v_this_familyCount, .ref a_handMade, .ref a_maker, .ref a_maker_print])), (a_maker, .inr (4, [.ref a_maker_spans, .ref a_maker_leftOut, .ref a_maker_print, .long v_maker_rounding, .long v_maker_toe, .long v_maker_heel, .long v_maker_side, .long v_maker_pitch, .long v_maker_outer, .long v_maker_inner, .long v_maker_across, .long v_maker_hole])), (a_maker_print, .inr (6, [.int v_maker_print_atHand, .ref a_maker_print_cells, .int v_maker_print_count, .int v_maker_print_thermal, .ref a_maker_print_family, .int v_maker_print_density, .long v_maker_print_outerHigh, .ref a_maker_print_yard, .ref a_maker_print_columns, .ref a_maker_print_rows, .long v_maker_print_pasteLeft, .long v_maker_print_pasteLow, .ref a_maker_print_line, .int v_maker_print_nameLength, .int v_maker_print_isWritten])), (a_maker_print_cells, .inl (k_maker_print_cells, 455, .inr (.inl v_maker_print_cells)))]
def P_F_pad_o (p1 : Int32) (p2 : Int32) (v_maker_print_atHand : Int32) (v_maker_print_count : Int32) (v_maker_print_cells : Nat → Int64) (post : Int64 → Prop) : Prop := P_F_needPad_o p1 v_maker_print_atHand v_maker_print_count (P_F_needWithin_o p2 7 (P_Fp_cell p1 p2 v_maker_print_cells (fun (r1 : Int64) => post r1)))
set_option maxHeartbeats 4000000 in
set_option maxRecDepth 100000 in
theorem c_F_pad_o (l : Launch) (dC : Nat → ClassId) (dI : Nat → Nat → Nat) (ad : Nat → Nat → Nat) (a_this : Nat) (a_reader : Nat) (a_families : Nat) (a_handMade : Nat) (a_maker : Nat) (a_maker_print : Nat) (a_maker_spans : Nat) (a_maker_leftOut : Nat) (a_maker_print_cells : Nat) (a_maker_print_family : Nat) (a_maker_print_yard : Nat) (a_maker_print_columns : Nat) (a_maker_print_rows : Nat) (a_maker_print_line : Nat) (k_maker_print_cells : ClassId) (sz : Nat) (p1 : Int32) (p2 : Int32) (v_this_familyCount : Int32) (v_maker_rounding : Int64) (v_maker_toe : Int64) (v_maker_heel : Int64) (v_maker_side : Int64) (v_maker_pitch : Int64) (v_maker_outer : Int64) (v_maker_inner : Int64) (v_maker_across : Int64) (v_maker_hole : Int64) (v_maker_print_atHand : Int32) (v_maker_print_count : Int32) (v_maker_print_thermal : Int32) (v_maker_print_density : Int32) (v_maker_print_outerHigh : Int64) (v_maker_print_pasteLeft : Int64) (v_maker_print_pasteLow : Int64) (v_maker_print_nameLength : Int32) (v_maker_print_isWritten : Int32) (v_maker_print_cells : Nat → Int64) (post : Int64 → Prop) (h : P_F_pad_o p1 p2 v_maker_print_atHand v_maker_print_count v_maker_print_cells post) : zMl l yF_pad_o wsF_pad_o { frames := 2, cells := 0, slots := 0, locals := 42 } (dC, dI) ad [.ref a_this, .int p1, .int p2] (w_F_pad_o ad a_this a_reader a_families a_handMade a_maker a_maker_print a_maker_spans a_maker_leftOut a_maker_print_cells a_maker_print_family a_maker_print_yard a_maker_print_columns a_maker_print_rows a_maker_print_line k_maker_print_cells v_this_familyCount v_maker_rounding v_maker_toe v_maker_heel v_maker_side v_maker_pitch v_maker_outer v_maker_inner v_maker_across v_maker_hole v_maker_print_atHand v_maker_print_count v_maker_print_thermal v_maker_print_density v_maker_print_outerHigh v_maker_print_pasteLeft v_maker_print_pasteLow v_maker_print_nameLength v_maker_print_isWritten v_maker_print_cells) [(k_maker_print_cells, .long)] sz (fun (r : Int64) (u : Unit) => post r) (fun (u : Unit) => (w_F_pad_o ad a_this a_reader a_families a_handMade a_maker a_maker_print a_maker_spans a_maker_leftOut a_maker_print_cells a_maker_print_family a_maker_print_yard a_maker_print_columns a_maker_print_rows a_maker_print_line k_maker_print_cells v_this_familyCount v_maker_rounding v_maker_toe v_maker_heel v_maker_side v_maker_pitch v_maker_outer v_maker_inner v_maker_across v_maker_hole v_maker_print_atHand v_maker_print_count v_maker_print_thermal v_maker_print_density v_maker_print_outerHigh v_maker_print_pasteLeft v_maker_print_pasteLow v_maker_print_nameLength v_maker_print_isWritten v_maker_print_cells)) 0 0 := by
  refine Met.ofW (cc := cF_pad_o) (maxL := 3) (ret := (some .long)) (by decide +kernel) rfl ?_
  intro p e s m args below meth c s₁ B hml hv
  obtain ⟨rfl, hsz, hP, hK, hD0, hE⟩ := hv
  have hx := B.exec
  have hb := B.bytes
  have hr := B.returns
  have hts0 := atoms_spec (ws := wsF_pad_o) B.pre
  have hts := fun w h => hts0 w (List.mem_cons_of_mem _ h)
  have hown : s.vm.findClass RF = some m.cls := findClass_of_methodNamed B.named
  have hlocks := B.notSynchronized
  subst hsz
  have hD := hD0.self (sz := s.heap.size)
  generalize hAe : va_A (w_F_pad_o ad a_this a_reader a_families a_handMade a_maker a_maker_print a_maker_spans a_maker_leftOut a_maker_print_cells a_maker_print_family a_maker_print_yard a_maker_print_columns a_maker_print_rows a_maker_print_line k_maker_print_cells v_this_familyCount v_maker_rounding v_maker_toe v_maker_heel v_maker_side v_maker_pitch v_maker_outer v_maker_inner v_maker_across v_maker_hole v_maker_print_atHand v_maker_print_count v_maker_print_thermal v_maker_print_density v_maker_print_outerHigh v_maker_print_pasteLeft v_maker_print_pasteLow v_maker_print_nameLength v_maker_print_isWritten v_maker_print_cells) s.heap.size = A at hD hE ⊢
  have hA : ∀ q : Nat, s.heap.size ≤ q → A q := fun q h => by rw [← hAe]; exact Or.inr h
  have C0 := zC.mk hx hb hr hml hown hts hlocks hA
  have hS : va_S A s.heap s.heap [] := va_S.rf
  have hl := lv_entry ([.ref a_this, .int p1, .int p2]) (n := 3) (Nat.le_of_ble_eq_true rfl)
  rw [lg_entry_eq]
  generalize (lg_sl ([.ref a_this, .int p1, .int p2]) ++ List.replicate (3 - (lg_sl ([.ref a_this, .int p1, .int p2])).length) Slot.unset).toArray = ls at hl ⊢
  have hl : lv_has ls 3 [(0, .ref a_this), (1, .int p1), (2, .int p2)] := hl
  unfold P_F_pad_o at h
  refine lv_aload_n hx hb dF_pad_o_0 rfl (lv_at hl 0 rfl) ?_
  refine lv_iload_n hx hb dF_pad_o_1 rfl (lv_at hl 1 rfl) ?_
  refine zcall_v hP hD hS hA [0, 1, 2] [3] (va_runV (As := [.int p1]) (rest := []) ⟨hx, hb, hml, hown, hts⟩ (c_F_needPad_o l dC dI ad a_this a_reader a_families a_handMade a_maker a_maker_print a_maker_spans a_maker_leftOut a_maker_print_cells a_maker_print_family a_maker_print_yard a_maker_print_columns a_maker_print_rows a_maker_print_line _ p1 v_this_familyCount v_maker_rounding v_maker_toe v_maker_heel v_maker_side v_maker_pitch v_maker_outer v_maker_inner v_maker_across v_maker_hole v_maker_print_atHand v_maker_print_count v_maker_print_thermal v_maker_print_density v_maker_print_outerHigh v_maker_print_pasteLeft v_maker_print_pasteLow v_maker_print_nameLength v_maker_print_isWritten _ h) ⟨callB_of 1 hts (zgood zc_F_needPad_o) rfl rfl rfl (hts _ zw_95) (hts _ zw_843) (by decide +kernel) ⟨Nat.le_of_ble_eq_true rfl, Nat.le_of_ble_eq_true rfl⟩, (hts _ zw_845), (hts _ zw_47)⟩ (zpreV hE hK hP hD hS hA [0, 1, 2] [] (by rfl) (by rfl) (by decide) (ci := 9) (q0 := 0) rfl (by rfl)) rfl rfl hl.1 rfl (lv_room (Nat.le_of_ble_eq_true rfl)) dF_pad_o_2 ⟨Nat.le_of_ble_eq_true rfl, Nat.le_of_ble_eq_true rfl⟩) (by rfl) (by rfl) (by decide) (by decide) (fun u H locs h hP hD hS => ?_)
  try dsimp only at h
  have hP := hP.sub (ws' := (w_F_pad_o ad a_this a_reader a_families a_handMade a_maker a_maker_print a_maker_spans a_maker_leftOut a_maker_print_cells a_maker_print_family a_maker_print_yard a_maker_print_columns a_maker_print_rows a_maker_print_line k_maker_print_cells v_this_familyCount v_maker_rounding v_maker_toe v_maker_heel v_maker_side v_maker_pitch v_maker_outer v_maker_inner v_maker_across v_maker_hole v_maker_print_atHand v_maker_print_count v_maker_print_thermal v_maker_print_density v_maker_print_outerHigh v_maker_print_pasteLeft v_maker_print_pasteLow v_maker_print_nameLength v_maker_print_isWritten v_maker_print_cells)) [1, 2, 3, 0] rfl
  have hD := hD.sub (ws' := (w_F_pad_o ad a_this a_reader a_families a_handMade a_maker a_maker_print a_maker_spans a_maker_leftOut a_maker_print_cells a_maker_print_family a_maker_print_yard a_maker_print_columns a_maker_print_rows a_maker_print_line k_maker_print_cells v_this_familyCount v_maker_rounding v_maker_toe v_maker_heel v_maker_side v_maker_pitch v_maker_outer v_maker_inner v_maker_across v_maker_hole v_maker_print_atHand v_maker_print_count v_maker_print_thermal v_maker_print_density v_maker_print_outerHigh v_maker_print_pasteLeft v_maker_print_pasteLow v_maker_print_nameLength v_maker_print_isWritten v_maker_print_cells)) [1, 2, 3, 0] (by decide) rfl
  refine lv_iload_n hx hb dF_pad_o_5 rfl (lv_at hl 2 rfl) ?_
  refine lv_bipush (v := 7) hx hb dF_pad_o_6 (by decide) ?_
  refine zcall_v hP hD hS hA [] [0, 1, 2, 3] (va_runS (As := [.int p2, .int 7]) (rest := []) ⟨hx, hb, hml, hown, hts⟩ (c_F_needWithin_o l dC dI ad _ p2 7 _ h) ⟨callB_of 2 hts (zgood zc_F_needWithin_o) rfl rfl rfl (hts _ zw_95) (hts _ zw_852) (by decide +kernel) ⟨Nat.le_of_ble_eq_true rfl, Nat.le_of_ble_eq_true rfl⟩, (hts _ zw_853)⟩ (zpreS hE hK hP hD hS hA [] [] (by rfl) (by rfl) (by decide)) rfl rfl hl.1 rfl (lv_room (Nat.le_of_ble_eq_true rfl)) dF_pad_o_8 ⟨Nat.le_of_ble_eq_true rfl, Nat.le_of_ble_eq_true rfl⟩) (by rfl) (by rfl) (by decide) (by decide) (fun u H locs h hP hD hS => ?_)
  try dsimp only at h
  have hP := hP.sub (ws' := (w_F_pad_o ad a_this a_reader a_families a_handMade a_maker a_maker_print a_maker_spans a_maker_leftOut a_maker_print_cells a_maker_print_family a_maker_print_yard a_maker_print_columns a_maker_print_rows a_maker_print_line k_maker_print_cells v_this_familyCount v_maker_rounding v_maker_toe v_maker_heel v_maker_side v_maker_pitch v_maker_outer v_maker_inner v_maker_across v_maker_hole v_maker_print_atHand v_maker_print_count v_maker_print_thermal v_maker_print_density v_maker_print_outerHigh v_maker_print_pasteLeft v_maker_print_pasteLow v_maker_print_nameLength v_maker_print_isWritten v_maker_print_cells)) [0, 1, 2, 3] rfl
  have hD := hD.sub (ws' := (w_F_pad_o ad a_this a_reader a_families a_handMade a_maker a_maker_print a_maker_spans a_maker_leftOut a_maker_print_cells a_maker_print_family a_maker_print_yard a_maker_print_columns a_maker_print_rows a_maker_print_line k_maker_print_cells v_this_familyCount v_maker_rounding v_maker_toe v_maker_heel v_maker_side v_maker_pitch v_maker_outer v_maker_inner v_maker_across v_maker_hole v_maker_print_atHand v_maker_print_count v_maker_print_thermal v_maker_print_density v_maker_print_outerHigh v_maker_print_pasteLeft v_maker_print_pasteLow v_maker_print_nameLength v_maker_print_isWritten v_maker_print_cells)) [0, 1, 2, 3] (by decide) rfl
  refine lv_aload_n hx hb dF_pad_o_11 rfl (lv_at hl 0 rfl) ?_
  refine va_get (D := (dC, dI)) (ci := 9) (v := .ref a_maker_print) (C := RF) (T := TF) (N := 6) hx hb hts inZ_F hown hK hP 0 rfl rfl 5 (by decide) (hts _ zw_377) (fun _ h9 => h9) rfl dF_pad_o_12 ?_
  refine lv_iload_n hx hb dF_pad_o_15 rfl (lv_at hl 1 rfl) ?_
  refine lv_iload_n hx hb dF_pad_o_16 rfl (lv_at hl 2 rfl) ?_
  refine zcall_l hP hD hS hA [2, 3] [0, 1] (va_runVN (As := [.int p1, .int p2]) (rest := []) ⟨hx, hb, hml, hown, hts⟩ (c_Fp_cell l dC dI ad a_maker_print a_maker_print_cells a_maker_print_family a_maker_print_yard a_maker_print_columns a_maker_print_rows a_maker_print_line k_maker_print_cells _ p1 p2 v_maker_print_atHand v_maker_print_count v_maker_print_thermal v_maker_print_density v_maker_print_outerHigh v_maker_print_pasteLeft v_maker_print_pasteLow v_maker_print_nameLength v_maker_print_isWritten v_maker_print_cells _ h) ⟨va_cnB 2 hts (zgood zc_Fp_cell) rfl rfl rfl (hE.nw _ zn_856) (hts _ zw_101) (by decide +kernel) ⟨Nat.le_of_ble_eq_true rfl, Nat.le_of_ble_eq_true rfl⟩, (hts _ zw_820), (hts _ zw_46)⟩ (zpreV hE hK hP hD hS hA [2, 3] [0] (by rfl) (by rfl) (by decide) (ci := 6) (q0 := 2) rfl (by rfl)) rfl rfl hl.1 rfl (lv_room (Nat.le_of_ble_eq_true rfl)) dF_pad_o_17 ⟨Nat.le_of_ble_eq_true rfl, Nat.le_of_ble_eq_true rfl⟩) (by rfl) (by rfl) (by decide) (by decide) (fun r1 u H locs h hP hD hS => ?_)
  try dsimp only at h
  have hP := hP.sub (ws' := (w_F_pad_o ad a_this a_reader a_families a_handMade a_maker a_maker_print a_maker_spans a_maker_leftOut a_maker_print_cells a_maker_print_family a_maker_print_yard a_maker_print_columns a_maker_print_rows a_maker_print_line k_maker_print_cells v_this_familyCount v_maker_rounding v_maker_toe v_maker_heel v_maker_side v_maker_pitch v_maker_outer v_maker_inner v_maker_across v_maker_hole v_maker_print_atHand v_maker_print_count v_maker_print_thermal v_maker_print_density v_maker_print_outerHigh v_maker_print_pasteLeft v_maker_print_pasteLow v_maker_print_nameLength v_maker_print_isWritten v_maker_print_cells)) [0, 1, 2, 3] rfl
  have hD := hD.sub (ws' := (w_F_pad_o ad a_this a_reader a_families a_handMade a_maker a_maker_print a_maker_spans a_maker_leftOut a_maker_print_cells a_maker_print_family a_maker_print_yard a_maker_print_columns a_maker_print_rows a_maker_print_line k_maker_print_cells v_this_familyCount v_maker_rounding v_maker_toe v_maker_heel v_maker_side v_maker_pitch v_maker_outer v_maker_inner v_maker_across v_maker_hole v_maker_print_atHand v_maker_print_count v_maker_print_thermal v_maker_print_density v_maker_print_outerHigh v_maker_print_pasteLeft v_maker_print_pasteLow v_maker_print_nameLength v_maker_print_isWritten v_maker_print_cells)) [0, 1, 2, 3] (by decide) rfl
  exact W.lret (v := r1) hx hb hr (fun t ht hW => ⟨⟨r1, (()), rfl, h, by rw [ht]; exact hP, hD⟩, hS.F ht⟩) hS.2.2 dF_pad_o_20
abbrev yF_needWithin_t : MethodName := ⟨"FootprintRules", "needWithin", "(II)V"⟩
abbrev cF_needWithin_t : ByteArray := prog_1_method_19_code
abbrev wsF_needWithin_t : List Cond := .code yF_needWithin_t cF_needWithin_t 2 none :: zT
set_option maxRecDepth 100000 in
theorem zc_F_needWithin_t : Cond.code yF_needWithin_t cF_needWithin_t 2 none ∈ zT := zm 854 (by rfl) (by rfl)
theorem dF_needWithin_t_0 : decode cF_needWithin_t 0 = .ok (.iload_n 0, 1) := by decide +kernel
theorem dF_needWithin_t_1 : decode cF_needWithin_t 1 = .ok (.ifCond .lt 8, 3) := by decide +kernel
theorem dF_needWithin_t_4 : decode cF_needWithin_t 4 = .ok (.iload_n 0, 1) := by decide +kernel
theorem dF_needWithin_t_5 : decode cF_needWithin_t 5 = .ok (.iload_n 1, 1) := by decide +kernel
theorem dF_needWithin_t_6 : decode cF_needWithin_t 6 = .ok (.if_icmp .lt 13, 3) := by decide +kernel
theorem dF_needWithin_t_9 : decode cF_needWithin_t 9 = .ok (.new 70, 3) := by decide +kernel
theorem dF_needWithin_t_12 : decode cF_needWithin_t 12 = .ok (.dup, 1) := by decide +kernel
theorem dF_needWithin_t_13 : decode cF_needWithin_t 13 = .ok (.ldc 188, 2) := by decide +kernel
theorem dF_needWithin_t_15 : decode cF_needWithin_t 15 = .ok (.invokespecial 74, 3) := by decide +kernel
theorem dF_needWithin_t_18 : decode cF_needWithin_t 18 = .ok (.athrow, 1) := by decide +kernel
-- FootprintRules.needWithin(II)V
abbrev w_F_needWithin_t (ad : Nat → Nat → Nat)    : va_W := []
def P_F_needWithin_t_9  (post : String → Prop)  : Prop := post "java/lang/IndexOutOfBoundsException"
set_option maxHeartbeats 4000000 in
set_option maxRecDepth 100000 in
theorem w_F_needWithin_t_9 (l : Launch) {p : Program} {e : Env} {s : State} {m : MethodId} {args : Array Value} {below : List Frame} {meth : Method} {c : Code} {dC : Nat → ClassId} {dI : Nat → Nat → Nat} {ad : Nat → Nat → Nat} {A : Nat → Prop} (hlt : l.stackTraces = false) (hnx : ∀ (k : Nat), ∀ x ∈ c.exceptionTable.toList, covers x k = false) (C0 : zC p s m args meth c cF_needWithin_t 2 RF zT none A) (hE : zE ad A s)   (p0 : Int32) (p1 : Int32) (post : String → Prop) (hK : va_K (dC, dI) vwCl [] s) : ∀  (H : Heap) (locs : List Loc), P_F_needWithin_t_9 post → va_P (dC, dI) vwCl (w_F_needWithin_t ad ) H → va_D A (w_F_needWithin_t ad ) → va_S A s.heap H locs → ∀ ls : Array Slot, lv_has ls 2 [] → W p l e (headSpec wsF_needWithin_t { frames := 6, cells := 1, slots := 6, locals := 91 }).room s m args below meth c H locs 0 0 (zQT below (dC, dI) A s (fun (E : String) (u : Unit) => post E) (fun (u : Unit) => (w_F_needWithin_t ad )) 1 6) (F0 m 9 ls []) := by
  obtain ⟨hx, hb, hr, hml, hown, hts, hlocks, hA⟩ := id C0
  intro  H locs h hP hD hS ls hl
  unfold P_F_needWithin_t_9 at h
  exact zt_W (u := (())) (own := RF) (cls := "java/lang/IndexOutOfBoundsException") (text := "there is no such one") (names := ["java/lang/RuntimeException", "java/lang/Exception"]) (ik := 70) (is := 188) (ic := 74) hx hb hlt hown (by decide +kernel) (by decide +kernel) zat_IndexOutOfBoundsException hts hE (hts _ zw_639) (hts _ zw_117) (hE.ldc ("FootprintRules", 188, "there is no such one", 6) (by decide)) (hl.1.trans hml.symm) dF_needWithin_t_9 dF_needWithin_t_12 dF_needWithin_t_13 dF_needWithin_t_15 dF_needWithin_t_18 hnx (by decide) (by decide) (by decide) (by decide) hlocks h hP hD hS
def P_F_needWithin_t (p0 : Int32) (p1 : Int32) (post : String → Prop) : Prop := ((p0 < 0 → P_F_needWithin_t_9 post) ∧ (¬ p0 < 0 → ((p0 < p1 → False) ∧ (¬ p0 < p1 → P_F_needWithin_t_9 post))))
set_option maxHeartbeats 4000000 in
set_option maxRecDepth 100000 in
theorem c_F_needWithin_t (l : Launch) (hlt : l.stackTraces = false) (dC : Nat → ClassId) (dI : Nat → Nat → Nat) (ad : Nat → Nat → Nat)   (sz : Nat) (p0 : Int32) (p1 : Int32) (post : String → Prop) (h : P_F_needWithin_t p0 p1 post) : zMT l yF_needWithin_t wsF_needWithin_t { frames := 6, cells := 1, slots := 6, locals := 91 } (dC, dI) ad [.int p0, .int p1] (w_F_needWithin_t ad ) [] sz (fun (E : String) (u : Unit) => post E) (fun (u : Unit) => (w_F_needWithin_t ad )) 1 6 := by
  refine zMT.ofW (cc := cF_needWithin_t) (maxL := 2) (ret := none) (by decide +kernel) rfl ?_
  intro p e s m args below meth c s₁ B hml hnx hv
  obtain ⟨rfl, hsz, hP, hK, hD0, hE⟩ := hv
  have hx := B.exec
  have hb := B.bytes
  have hr := B.returns
  have hts0 := atoms_spec (ws := wsF_needWithin_t) B.pre
  have hts := fun w h => hts0 w (List.mem_cons_of_mem _ h)
  have hown : s.vm.findClass RF = some m.cls := findClass_of_methodNamed B.named
  have hlocks := B.notSynchronized
  subst hsz
  have hD := hD0.self (sz := s.heap.size)
  generalize hAe : va_A (w_F_needWithin_t ad ) s.heap.size = A at hD hE ⊢
  have hA : ∀ q : Nat, s.heap.size ≤ q → A q := fun q h => by rw [← hAe]; exact Or.inr h
  have C0 := zC.mk hx hb hr hml hown hts hlocks hA
  have hS : va_S A s.heap s.heap [] := va_S.rf
  have hl := lv_entry ([.int p0, .int p1]) (n := 2) (Nat.le_of_ble_eq_true rfl)
  rw [lg_entry_eq]
  generalize (lg_sl ([.int p0, .int p1]) ++ List.replicate (2 - (lg_sl ([.int p0, .int p1])).length) Slot.unset).toArray = ls at hl ⊢
  have hl : lv_has ls 2 [(0, .int p0), (1, .int p1)] := hl
  unfold P_F_needWithin_t at h
  refine lv_iload_n hx hb dF_needWithin_t_0 rfl (lv_at hl 0 rfl) ?_
  refine lv_if_lt (tgt := 9) hx hb dF_needWithin_t_1 (by decide) ?_ ?_
  · intro c1
    replace h := h.1 c1
    exact w_F_needWithin_t_9 l hlt hnx C0 hE p0 p1 post hK _ _ h hP hD hS ls (lv_sub hl [] rfl)
  · intro c1
    replace h := h.2 c1
    refine lv_iload_n hx hb dF_needWithin_t_4 rfl (lv_at hl 0 rfl) ?_
    refine lv_iload_n hx hb dF_needWithin_t_5 rfl (lv_at hl 1 rfl) ?_
    refine lv_icmp_lt (tgt := 19) hx hb dF_needWithin_t_6 (by decide) ?_ ?_
    · intro c2
      replace h := h.1 c2
      exact False.elim h
    · intro c2
      replace h := h.2 c2
      exact w_F_needWithin_t_9 l hlt hnx C0 hE p0 p1 post hK _ _ h hP hD hS ls (lv_sub hl [] rfl)
